-- ===== PART A: goes FIRST, ahead of the names: the tables' words, and 'selects' of the private methods out of them =====
/-- a private method of a class that the tables say can be made, by its rows of tables_1 -/
def lw_okq (q : MethodName × Nat) : Prop := (q.1.cls ≠ "java/lang/invoke/MethodHandle" ∧ q.1.cls ≠ "java/lang/invoke/VarHandle") ∧ Cond.instantiable q.1.cls q.2 ∈ tables_1 ∧ Cond.privateMethod q.1 ∈ tables_1 ∧ Cond.instanceMethod q.1 ∈ tables_1
theorem lw_p0 : lw_okq (⟨"PaperRounds$Streets", "putInOrder", "(I)V"⟩, 9) := ⟨⟨by decide +kernel, by decide +kernel⟩, List.mem_of_getElem? (i := 27) (by decide +kernel), List.mem_of_getElem? (i := 445) (by decide +kernel), List.mem_of_getElem? (i := 446) (by decide +kernel)⟩
theorem lw_p1 : lw_okq (⟨"PaperRounds", "settled", "(I)I"⟩, 5) := ⟨⟨by decide +kernel, by decide +kernel⟩, List.mem_of_getElem? (i := 13) (by decide +kernel), List.mem_of_getElem? (i := 449) (by decide +kernel), List.mem_of_getElem? (i := 450) (by decide +kernel)⟩
theorem lw_p2 : lw_okq (⟨"PaperRounds$Houses", "makeOrder", "(LPaperRounds$Streets;)V"⟩, 15) := ⟨⟨by decide +kernel, by decide +kernel⟩, List.mem_of_getElem? (i := 75) (by decide +kernel), List.mem_of_getElem? (i := 469) (by decide +kernel), List.mem_of_getElem? (i := 470) (by decide +kernel)⟩
theorem lw_p3 : lw_okq (⟨"PaperRounds$Walk", "clear", "()V"⟩, 6) := ⟨⟨by decide +kernel, by decide +kernel⟩, List.mem_of_getElem? (i := 287) (by decide +kernel), List.mem_of_getElem? (i := 523) (by decide +kernel), List.mem_of_getElem? (i := 524) (by decide +kernel)⟩
theorem lw_p4 : lw_okq (⟨"PaperRounds$Walk", "endTrip", "(LPaperRounds$Streets;I)V"⟩, 6) := ⟨⟨by decide +kernel, by decide +kernel⟩, List.mem_of_getElem? (i := 287) (by decide +kernel), List.mem_of_getElem? (i := 538) (by decide +kernel), List.mem_of_getElem? (i := 539) (by decide +kernel)⟩
theorem lw_p5 : lw_okq (⟨"PaperRounds$Town", "bringPapers", "()V"⟩, 8) := ⟨⟨by decide +kernel, by decide +kernel⟩, List.mem_of_getElem? (i := 21) (by decide +kernel), List.mem_of_getElem? (i := 550) (by decide +kernel), List.mem_of_getElem? (i := 551) (by decide +kernel)⟩
theorem lw_p6 : lw_okq (⟨"PaperRounds$Town", "fateOfPapers", "(I)I"⟩, 8) := ⟨⟨by decide +kernel, by decide +kernel⟩, List.mem_of_getElem? (i := 21) (by decide +kernel), List.mem_of_getElem? (i := 554) (by decide +kernel), List.mem_of_getElem? (i := 555) (by decide +kernel)⟩
theorem lw_p7 : lw_okq (⟨"PaperRounds$Town", "book", "(III)V"⟩, 8) := ⟨⟨by decide +kernel, by decide +kernel⟩, List.mem_of_getElem? (i := 21) (by decide +kernel), List.mem_of_getElem? (i := 561) (by decide +kernel), List.mem_of_getElem? (i := 562) (by decide +kernel)⟩
theorem lw_p8 : lw_okq (⟨"PaperRounds$Town", "payTips", "()V"⟩, 8) := ⟨⟨by decide +kernel, by decide +kernel⟩, List.mem_of_getElem? (i := 21) (by decide +kernel), List.mem_of_getElem? (i := 569) (by decide +kernel), List.mem_of_getElem? (i := 570) (by decide +kernel)⟩
theorem lw_p9 : lw_okq (⟨"PaperRounds$Text", "readNumber", "()I"⟩, 5) := ⟨⟨by decide +kernel, by decide +kernel⟩, List.mem_of_getElem? (i := 318) (by decide +kernel), List.mem_of_getElem? (i := 647) (by decide +kernel), List.mem_of_getElem? (i := 648) (by decide +kernel)⟩
theorem lw_p10 : lw_okq (⟨"PaperRounds$Text", "readSign", "(C)Z"⟩, 5) := ⟨⟨by decide +kernel, by decide +kernel⟩, List.mem_of_getElem? (i := 318) (by decide +kernel), List.mem_of_getElem? (i := 651) (by decide +kernel), List.mem_of_getElem? (i := 652) (by decide +kernel)⟩
theorem lw_p11 : lw_okq (⟨"PaperRounds$Trial", "answerOf", "(C[ILPaperRounds$Walk;)I"⟩, 5) := ⟨⟨by decide +kernel, by decide +kernel⟩, List.mem_of_getElem? (i := 346) (by decide +kernel), List.mem_of_getElem? (i := 655) (by decide +kernel), List.mem_of_getElem? (i := 656) (by decide +kernel)⟩
def lw_privs_1 : List (MethodName × Nat) := [(⟨"PaperRounds$Streets", "putInOrder", "(I)V"⟩, 9), (⟨"PaperRounds", "settled", "(I)I"⟩, 5), (⟨"PaperRounds$Houses", "makeOrder", "(LPaperRounds$Streets;)V"⟩, 15), (⟨"PaperRounds$Walk", "clear", "()V"⟩, 6), (⟨"PaperRounds$Walk", "endTrip", "(LPaperRounds$Streets;I)V"⟩, 6), (⟨"PaperRounds$Town", "bringPapers", "()V"⟩, 8), (⟨"PaperRounds$Town", "fateOfPapers", "(I)I"⟩, 8), (⟨"PaperRounds$Town", "book", "(III)V"⟩, 8), (⟨"PaperRounds$Town", "payTips", "()V"⟩, 8), (⟨"PaperRounds$Text", "readNumber", "()I"⟩, 5), (⟨"PaperRounds$Text", "readSign", "(C)Z"⟩, 5), (⟨"PaperRounds$Trial", "answerOf", "(C[ILPaperRounds$Walk;)I"⟩, 5)]
theorem lw_r1 : ∀ q ∈ lw_privs_1, lw_okq q := List.forall_mem_cons.mpr ⟨lw_p0, List.forall_mem_cons.mpr ⟨lw_p1, List.forall_mem_cons.mpr ⟨lw_p2, List.forall_mem_cons.mpr ⟨lw_p3, List.forall_mem_cons.mpr ⟨lw_p4, List.forall_mem_cons.mpr ⟨lw_p5, List.forall_mem_cons.mpr ⟨lw_p6, List.forall_mem_cons.mpr ⟨lw_p7, List.forall_mem_cons.mpr ⟨lw_p8, List.forall_mem_cons.mpr ⟨lw_p9, List.forall_mem_cons.mpr ⟨lw_p10, List.forall_mem_cons.mpr ⟨lw_p11, fun _ h => absurd h List.not_mem_nil⟩⟩⟩⟩⟩⟩⟩⟩⟩⟩⟩⟩
def lw_privs : List (MethodName × Nat) := lw_privs_1
def lw_tbl : List Cond := k2_sels lw_privs ++ tables_1
theorem lw_privs_ok : ∀ q ∈ lw_privs, lw_okq q := lw_r1
/-- the streams that the claim lets the run draw from -/
abbrev lw_cs : List Choice := [Jvm.Choice.named "NaN.bits"]
theorem lw_bits : nanBits ∈ lw_cs := by first | decide | exact List.mem_cons_self | simp [lw_cs, nanBits]
-- ===== end of PART A; then your names; then what follows =====

theorem goodIn_r {big : List Cond} (ws : List Cond) (ps : List Nat) (hp : ws = ps.filterMap (fun i => big[i]?)) (h : ws.all goodWord = true) : GoodIn big ws := by
  intro w hw
  have h1 := List.all_eq_true.mp h w hw
  rw [hp] at hw
  obtain ⟨i, -, hi⟩ := List.mem_filterMap.mp hw
  have hm : w ∈ big := by first | exact List.mem_of_getElem? hi | exact List.getElem?_mem hi
  exact ⟨hm, good_of_word h1⟩
theorem goodIn_app {big a b : List Cond} (ha : GoodIn big a) (hb : GoodIn big b) : GoodIn big (a ++ b) := fun w h => (List.mem_append.mp h).elim (ha w) (hb w)
theorem goodIn_ca {big a b : List Cond} {c : Cond} (ha : GoodIn big (c :: a)) (hb : GoodIn big b) : GoodIn big (c :: (a ++ b)) := fun w h => (List.mem_cons.mp h).elim (fun e => ha w (List.mem_cons.mpr (Or.inl e))) (fun h => (List.mem_append.mp h).elim (fun h => ha w (List.mem_cons.mpr (Or.inr h))) (hb w))
theorem goodIn_sub {big ws : List Cond} (hm : ∀ w ∈ ws, w ∈ big) (h : ws.all goodWord = true) : GoodIn big ws := fun w hw => ⟨hm w hw, good_of_word (List.all_eq_true.mp h w hw)⟩
def RX0 : String := "PaperRounds$Carriers"
def TX0 : u_T := fun k => match k with
  | 0 => ("PaperRounds$Carriers", "many", "I", false)
  | 1 => ("PaperRounds$Carriers", "cart", "[I", true)
  | 2 => ("PaperRounds$Carriers", "limit", "[I", true)
  | 3 => ("PaperRounds$Carriers", "biscuits", "[I", true)
  | 4 => ("PaperRounds$Carriers", "trips", "[I", true)
  | 5 => ("PaperRounds$Carriers", "effort", "[I", true)
  | 6 => ("PaperRounds$Carriers", "tips", "[I", true)
  | _ => ("PaperRounds$Carriers", "delivered", "[I", true)
def tyX0 : Nat → FieldType := fun k => match k with
  | 0 => .int
  | 1 => .array .int
  | 2 => .array .int
  | 3 => .array .int
  | 4 => .array .int
  | 5 => .array .int
  | 6 => .array .int
  | _ => .array .int
abbrev wsX00 : List Cond := u_ws RX0 TX0 8
theorem nmX0 : ∀ a, a < 8 → ∀ b, b < 8 → a ≠ b → (TX0 a).2.1 ≠ (TX0 b).2.1 := by decide +kernel
theorem tyX0_ok : ∀ k, k < 8 → parseFieldDescriptor (TX0 k).2.2.1 = some (tyX0 k) := by decide +kernel
abbrev cX0_init : ByteArray := prog_2_method_1_code
def yX0_init : MethodName := ⟨RX0, "<init>", "()V"⟩
abbrev cX0_copyFrom : ByteArray := prog_2_method_2_code
def yX0_copyFrom : MethodName := ⟨RX0, "copyFrom", "(LPaperRounds$Carriers;)V"⟩
abbrev cX0_has : ByteArray := prog_2_method_3_code
def yX0_has : MethodName := ⟨RX0, "has", "(I)Z"⟩
abbrev cX0_add : ByteArray := prog_2_method_4_code
def yX0_add : MethodName := ⟨RX0, "add", "(II)I"⟩
abbrev cX0_allTips : ByteArray := prog_2_method_5_code
def yX0_allTips : MethodName := ⟨RX0, "allTips", "()I"⟩
def RX1 : String := "PaperRounds$History"
def TX1 : u_T := fun k => match k with
  | 0 => ("PaperRounds$History", "kept", "I", false)
  | 1 => ("PaperRounds$History", "oldest", "I", false)
  | _ => ("PaperRounds$History", "rows", "[LPaperRounds$Town;", true)
def tyX1 : Nat → FieldType := fun k => match k with
  | 0 => .int
  | 1 => .int
  | _ => .array (.object "PaperRounds$Town")
abbrev wsX10 : List Cond := u_ws RX1 TX1 3
theorem nmX1 : ∀ a, a < 3 → ∀ b, b < 3 → a ≠ b → (TX1 a).2.1 ≠ (TX1 b).2.1 := by decide +kernel
theorem tyX1_ok : ∀ k, k < 3 → parseFieldDescriptor (TX1 k).2.2.1 = some (tyX1 k) := by decide +kernel
abbrev cX1_init : ByteArray := prog_3_method_1_code
def yX1_init : MethodName := ⟨RX1, "<init>", "()V"⟩
abbrev cX1_prepare : ByteArray := prog_3_method_2_code
def yX1_prepare : MethodName := ⟨RX1, "prepare", "(LPaperRounds$Town;)V"⟩
abbrev cX1_keepPrepared : ByteArray := prog_3_method_3_code
def yX1_keepPrepared : MethodName := ⟨RX1, "keepPrepared", "()V"⟩
abbrev cX1_restoreInto : ByteArray := prog_3_method_4_code
def yX1_restoreInto : MethodName := ⟨RX1, "restoreInto", "(LPaperRounds$Town;)V"⟩
def RX2 : String := "PaperRounds$Houses"
def TX2 : u_T := fun k => match k with
  | 0 => ("PaperRounds$Houses", "many", "I", false)
  | 1 => ("PaperRounds$Houses", "corner", "[I", true)
  | 2 => ("PaperRounds$Houses", "papers", "[I", true)
  | 3 => ("PaperRounds$Houses", "tip", "[I", true)
  | 4 => ("PaperRounds$Houses", "carrier", "[I", true)
  | 5 => ("PaperRounds$Houses", "period", "[I", true)
  | 6 => ("PaperRounds$Houses", "phase", "[I", true)
  | 7 => ("PaperRounds$Houses", "delivered", "[I", true)
  | 8 => ("PaperRounds$Houses", "paused", "[I", true)
  | 9 => ("PaperRounds$Houses", "returned", "[I", true)
  | 10 => ("PaperRounds$Houses", "lost", "[I", true)
  | 11 => ("PaperRounds$Houses", "complaints", "[I", true)
  | 12 => ("PaperRounds$Houses", "freshComplaints", "[I", true)
  | 13 => ("PaperRounds$Houses", "freshDelivered", "[I", true)
  | _ => ("PaperRounds$Houses", "order", "[I", true)
def tyX2 : Nat → FieldType := fun k => match k with
  | 0 => .int
  | 1 => .array .int
  | 2 => .array .int
  | 3 => .array .int
  | 4 => .array .int
  | 5 => .array .int
  | 6 => .array .int
  | 7 => .array .int
  | 8 => .array .int
  | 9 => .array .int
  | 10 => .array .int
  | 11 => .array .int
  | 12 => .array .int
  | 13 => .array .int
  | _ => .array .int
abbrev wsX20 : List Cond := u_ws RX2 TX2 15
theorem nmX2 : ∀ a, a < 15 → ∀ b, b < 15 → a ≠ b → (TX2 a).2.1 ≠ (TX2 b).2.1 := by decide +kernel
theorem tyX2_ok : ∀ k, k < 15 → parseFieldDescriptor (TX2 k).2.2.1 = some (tyX2 k) := by decide +kernel
abbrev cX2_init : ByteArray := prog_4_method_1_code
def yX2_init : MethodName := ⟨RX2, "<init>", "()V"⟩
abbrev cX2_copyFrom : ByteArray := prog_4_method_2_code
def yX2_copyFrom : MethodName := ⟨RX2, "copyFrom", "(LPaperRounds$Houses;)V"⟩
abbrev cX2_has : ByteArray := prog_4_method_3_code
def yX2_has : MethodName := ⟨RX2, "has", "(I)Z"⟩
abbrev cX2_add : ByteArray := prog_4_method_4_code
def yX2_add : MethodName := ⟨RX2, "add", "(LPaperRounds$Streets;III)I"⟩
abbrev cX2_makeOrder : ByteArray := prog_4_method_5_code
def yX2_makeOrder : MethodName := ⟨RX2, "makeOrder", "(LPaperRounds$Streets;)V"⟩
abbrev cX2_manyOf : ByteArray := prog_4_method_6_code
def yX2_manyOf : MethodName := ⟨RX2, "manyOf", "(I)I"⟩
abbrev cX2_dogIsOut : ByteArray := prog_4_method_7_code
def yX2_dogIsOut : MethodName := ⟨RX2, "dogIsOut", "(II)Z"⟩
abbrev cX2_complain : ByteArray := prog_4_method_8_code
def yX2_complain : MethodName := ⟨RX2, "complain", "(I)V"⟩
abbrev cX2_allComplaints : ByteArray := prog_4_method_9_code
def yX2_allComplaints : MethodName := ⟨RX2, "allComplaints", "()I"⟩
abbrev cX2_papersDue : ByteArray := prog_4_method_10_code
def yX2_papersDue : MethodName := ⟨RX2, "papersDue", "(I)I"⟩
abbrev cX2_share : ByteArray := prog_4_method_11_code
def yX2_share : MethodName := ⟨RX2, "share", "(I)F"⟩
abbrev cX2_tipNow : ByteArray := prog_4_method_12_code
def yX2_tipNow : MethodName := ⟨RX2, "tipNow", "(I)I"⟩
abbrev cX2_beginWeek : ByteArray := prog_4_method_13_code
def yX2_beginWeek : MethodName := ⟨RX2, "beginWeek", "()V"⟩
def RX3 : String := "PaperRounds$Pauses"
def TX3 : u_T := fun k => match k with
  | 0 => ("PaperRounds$Pauses", "many", "I", false)
  | 1 => ("PaperRounds$Pauses", "house", "[I", true)
  | 2 => ("PaperRounds$Pauses", "first", "[I", true)
  | _ => ("PaperRounds$Pauses", "last", "[I", true)
def tyX3 : Nat → FieldType := fun k => match k with
  | 0 => .int
  | 1 => .array .int
  | 2 => .array .int
  | _ => .array .int
abbrev wsX30 : List Cond := u_ws RX3 TX3 4
theorem nmX3 : ∀ a, a < 4 → ∀ b, b < 4 → a ≠ b → (TX3 a).2.1 ≠ (TX3 b).2.1 := by decide +kernel
theorem tyX3_ok : ∀ k, k < 4 → parseFieldDescriptor (TX3 k).2.2.1 = some (tyX3 k) := by decide +kernel
abbrev cX3_init : ByteArray := prog_5_method_1_code
def yX3_init : MethodName := ⟨RX3, "<init>", "()V"⟩
abbrev cX3_copyFrom : ByteArray := prog_5_method_2_code
def yX3_copyFrom : MethodName := ⟨RX3, "copyFrom", "(LPaperRounds$Pauses;)V"⟩
abbrev cX3_add : ByteArray := prog_5_method_3_code
def yX3_add : MethodName := ⟨RX3, "add", "(III)I"⟩
abbrev cX3_cover : ByteArray := prog_5_method_4_code
def yX3_cover : MethodName := ⟨RX3, "cover", "(II)Z"⟩
def RX4 : String := "PaperRounds$Streets"
def TX4 : u_T := fun k => match k with
  | 0 => ("PaperRounds$Streets", "many", "I", false)
  | 1 => ("PaperRounds$Streets", "ahead", "[I", true)
  | 2 => ("PaperRounds$Streets", "length", "[I", true)
  | 3 => ("PaperRounds$Streets", "height", "[I", true)
  | 4 => ("PaperRounds$Streets", "stairs", "[I", true)
  | 5 => ("PaperRounds$Streets", "depth", "[I", true)
  | 6 => ("PaperRounds$Streets", "distance", "[I", true)
  | 7 => ("PaperRounds$Streets", "cartsCome", "[I", true)
  | _ => ("PaperRounds$Streets", "order", "[I", true)
def tyX4 : Nat → FieldType := fun k => match k with
  | 0 => .int
  | 1 => .array .int
  | 2 => .array .int
  | 3 => .array .int
  | 4 => .array .int
  | 5 => .array .int
  | 6 => .array .int
  | 7 => .array .int
  | _ => .array .int
abbrev wsX40 : List Cond := u_ws RX4 TX4 9
theorem nmX4 : ∀ a, a < 9 → ∀ b, b < 9 → a ≠ b → (TX4 a).2.1 ≠ (TX4 b).2.1 := by decide +kernel
theorem tyX4_ok : ∀ k, k < 9 → parseFieldDescriptor (TX4 k).2.2.1 = some (tyX4 k) := by decide +kernel
abbrev cX4_init : ByteArray := prog_6_method_1_code
def yX4_init : MethodName := ⟨RX4, "<init>", "()V"⟩
abbrev cX4_copyFrom : ByteArray := prog_6_method_2_code
def yX4_copyFrom : MethodName := ⟨RX4, "copyFrom", "(LPaperRounds$Streets;)V"⟩
abbrev cX4_has : ByteArray := prog_6_method_3_code
def yX4_has : MethodName := ⟨RX4, "has", "(I)Z"⟩
abbrev cX4_add : ByteArray := prog_6_method_4_code
def yX4_add : MethodName := ⟨RX4, "add", "(IIII)I"⟩
abbrev cX4_putInOrder : ByteArray := prog_6_method_5_code
def yX4_putInOrder : MethodName := ⟨RX4, "putInOrder", "(I)V"⟩
abbrev cX4_isAtOrBeyond : ByteArray := prog_6_method_6_code
def yX4_isAtOrBeyond : MethodName := ⟨RX4, "isAtOrBeyond", "(II)Z"⟩
abbrev cX4_effortOfStreet : ByteArray := prog_6_method_7_code
def yX4_effortOfStreet : MethodName := ⟨RX4, "effortOfStreet", "(III)I"⟩
def RX5 : String := "PaperRounds$Text"
def TX5 : u_T := fun k => match k with
  | 0 => ("PaperRounds$Text", "length", "I", false)
  | 1 => ("PaperRounds$Text", "signs", "[C", true)
  | 2 => ("PaperRounds$Text", "kind", "C", false)
  | 3 => ("PaperRounds$Text", "next", "I", false)
  | _ => ("PaperRounds$Text", "numbers", "[I", true)
def tyX5 : Nat → FieldType := fun k => match k with
  | 0 => .int
  | 1 => .array .char
  | 2 => .char
  | 3 => .int
  | _ => .array .int
abbrev wsX50 : List Cond := u_ws RX5 TX5 5
theorem nmX5 : ∀ a, a < 5 → ∀ b, b < 5 → a ≠ b → (TX5 a).2.1 ≠ (TX5 b).2.1 := by decide +kernel
theorem tyX5_ok : ∀ k, k < 5 → parseFieldDescriptor (TX5 k).2.2.1 = some (tyX5 k) := by decide +kernel
abbrev cX5_init : ByteArray := prog_7_method_1_code
def yX5_init : MethodName := ⟨RX5, "<init>", "()V"⟩
abbrev cX5_append : ByteArray := prog_7_method_2_code
def yX5_append : MethodName := ⟨RX5, "append", "(C)I"⟩
abbrev cX5_readOrder : ByteArray := prog_7_method_3_code
def yX5_readOrder : MethodName := ⟨RX5, "readOrder", "(I)Z"⟩
abbrev cX5_numbersOf : ByteArray := prog_7_method_4_code
def yX5_numbersOf : MethodName := ⟨RX5, "numbersOf", "(C)I"⟩
abbrev cX5_readNumber : ByteArray := prog_7_method_5_code
def yX5_readNumber : MethodName := ⟨RX5, "readNumber", "()I"⟩
abbrev cX5_readSign : ByteArray := prog_7_method_6_code
def yX5_readSign : MethodName := ⟨RX5, "readSign", "(C)Z"⟩
def RX6 : String := "PaperRounds$Town"
def TX6 : u_T := fun k => match k with
  | 0 => ("PaperRounds$Town", "day", "I", false)
  | 1 => ("PaperRounds$Town", "weight", "I", false)
  | 2 => ("PaperRounds$Town", "sundayWeight", "I", false)
  | 3 => ("PaperRounds$Town", "accounts", "[I", true)
  | 4 => ("PaperRounds$Town", "streets", "LPaperRounds$Streets;", true)
  | 5 => ("PaperRounds$Town", "houses", "LPaperRounds$Houses;", true)
  | 6 => ("PaperRounds$Town", "pauses", "LPaperRounds$Pauses;", true)
  | _ => ("PaperRounds$Town", "carriers", "LPaperRounds$Carriers;", true)
def tyX6 : Nat → FieldType := fun k => match k with
  | 0 => .int
  | 1 => .int
  | 2 => .int
  | 3 => .array .int
  | 4 => .object "PaperRounds$Streets"
  | 5 => .object "PaperRounds$Houses"
  | 6 => .object "PaperRounds$Pauses"
  | _ => .object "PaperRounds$Carriers"
abbrev wsX60 : List Cond := u_ws RX6 TX6 8
theorem nmX6 : ∀ a, a < 8 → ∀ b, b < 8 → a ≠ b → (TX6 a).2.1 ≠ (TX6 b).2.1 := by decide +kernel
theorem tyX6_ok : ∀ k, k < 8 → parseFieldDescriptor (TX6 k).2.2.1 = some (tyX6 k) := by decide +kernel
abbrev cX6_init : ByteArray := prog_8_method_1_code
def yX6_init : MethodName := ⟨RX6, "<init>", "()V"⟩
abbrev cX6_copyFrom : ByteArray := prog_8_method_2_code
def yX6_copyFrom : MethodName := ⟨RX6, "copyFrom", "(LPaperRounds$Town;)V"⟩
abbrev cX6_addCorner : ByteArray := prog_8_method_3_code
def yX6_addCorner : MethodName := ⟨RX6, "addCorner", "(IIII)I"⟩
abbrev cX6_addHouse : ByteArray := prog_8_method_4_code
def yX6_addHouse : MethodName := ⟨RX6, "addHouse", "(III)I"⟩
abbrev cX6_changeDog : ByteArray := prog_8_method_5_code
def yX6_changeDog : MethodName := ⟨RX6, "changeDog", "(III)I"⟩
abbrev cX6_addPause : ByteArray := prog_8_method_6_code
def yX6_addPause : MethodName := ⟨RX6, "addPause", "(III)I"⟩
abbrev cX6_addCarrier : ByteArray := prog_8_method_7_code
def yX6_addCarrier : MethodName := ⟨RX6, "addCarrier", "(II)I"⟩
abbrev cX6_handOver : ByteArray := prog_8_method_8_code
def yX6_handOver : MethodName := ⟨RX6, "handOver", "(II)I"⟩
abbrev cX6_takeBack : ByteArray := prog_8_method_9_code
def yX6_takeBack : MethodName := ⟨RX6, "takeBack", "(I)I"⟩
abbrev cX6_addBiscuits : ByteArray := prog_8_method_10_code
def yX6_addBiscuits : MethodName := ⟨RX6, "addBiscuits", "(II)I"⟩
abbrev cX6_changeSetting : ByteArray := prog_8_method_11_code
def yX6_changeSetting : MethodName := ⟨RX6, "changeSetting", "(II)I"⟩
abbrev cX6_letDaysGo : ByteArray := prog_8_method_12_code
def yX6_letDaysGo : MethodName := ⟨RX6, "letDaysGo", "(ILPaperRounds$Walk;)I"⟩
abbrev cX6_bringPapers : ByteArray := prog_8_method_13_code
def yX6_bringPapers : MethodName := ⟨RX6, "bringPapers", "()V"⟩
abbrev cX6_fateOfPapers : ByteArray := prog_8_method_14_code
def yX6_fateOfPapers : MethodName := ⟨RX6, "fateOfPapers", "(I)I"⟩
abbrev cX6_book : ByteArray := prog_8_method_15_code
def yX6_book : MethodName := ⟨RX6, "book", "(III)V"⟩
abbrev cX6_payTips : ByteArray := prog_8_method_16_code
def yX6_payTips : MethodName := ⟨RX6, "payTips", "()V"⟩
abbrev cX6_weightOn : ByteArray := prog_8_method_17_code
def yX6_weightOn : MethodName := ⟨RX6, "weightOn", "(I)I"⟩
abbrev cX6_isSunday : ByteArray := prog_8_method_18_code
def yX6_isSunday : MethodName := ⟨RX6, "isSunday", "(I)Z"⟩
abbrev cX6_canReach : ByteArray := prog_8_method_19_code
def yX6_canReach : MethodName := ⟨RX6, "canReach", "(II)Z"⟩
abbrev cX6_housesFrom : ByteArray := prog_8_method_20_code
def yX6_housesFrom : MethodName := ⟨RX6, "housesFrom", "(I)I"⟩
abbrev cX6_housesPaused : ByteArray := prog_8_method_21_code
def yX6_housesPaused : MethodName := ⟨RX6, "housesPaused", "()I"⟩
def RX7 : String := "PaperRounds$Trial"
def TX7 : u_T := fun k => match k with
  | 0 => ("PaperRounds$Trial", "town", "LPaperRounds$Town;", true)
  | 1 => ("PaperRounds$Trial", "orders", "I", false)
  | 2 => ("PaperRounds$Trial", "position", "I", false)
  | 3 => ("PaperRounds$Trial", "reason", "I", false)
  | _ => ("PaperRounds$Trial", "cause", "I", false)
def tyX7 : Nat → FieldType := fun k => match k with
  | 0 => .object "PaperRounds$Town"
  | 1 => .int
  | 2 => .int
  | 3 => .int
  | _ => .int
abbrev wsX70 : List Cond := u_ws RX7 TX7 5
theorem nmX7 : ∀ a, a < 5 → ∀ b, b < 5 → a ≠ b → (TX7 a).2.1 ≠ (TX7 b).2.1 := by decide +kernel
theorem tyX7_ok : ∀ k, k < 5 → parseFieldDescriptor (TX7 k).2.2.1 = some (tyX7 k) := by decide +kernel
abbrev cX7_init : ByteArray := prog_9_method_1_code
def yX7_init : MethodName := ⟨RX7, "<init>", "()V"⟩
abbrev cX7_run : ByteArray := prog_9_method_2_code
def yX7_run : MethodName := ⟨RX7, "run", "(LPaperRounds$Town;LPaperRounds$Text;LPaperRounds$Walk;)V"⟩
abbrev cX7_answerOf : ByteArray := prog_9_method_3_code
def yX7_answerOf : MethodName := ⟨RX7, "answerOf", "(C[ILPaperRounds$Walk;)I"⟩
def RX8 : String := "PaperRounds$Walk"
def TX8 : u_T := fun k => match k with
  | 0 => ("PaperRounds$Walk", "trips", "I", false)
  | 1 => ("PaperRounds$Walk", "effort", "I", false)
  | 2 => ("PaperRounds$Walk", "papers", "I", false)
  | 3 => ("PaperRounds$Walk", "dogs", "I", false)
  | 4 => ("PaperRounds$Walk", "onTrip", "I", false)
  | _ => ("PaperRounds$Walk", "load", "[I", true)
def tyX8 : Nat → FieldType := fun k => match k with
  | 0 => .int
  | 1 => .int
  | 2 => .int
  | 3 => .int
  | 4 => .int
  | _ => .array .int
abbrev wsX80 : List Cond := u_ws RX8 TX8 6
theorem nmX8 : ∀ a, a < 6 → ∀ b, b < 6 → a ≠ b → (TX8 a).2.1 ≠ (TX8 b).2.1 := by decide +kernel
theorem tyX8_ok : ∀ k, k < 6 → parseFieldDescriptor (TX8 k).2.2.1 = some (tyX8 k) := by decide +kernel
abbrev cX8_init : ByteArray := prog_10_method_1_code
def yX8_init : MethodName := ⟨RX8, "<init>", "()V"⟩
abbrev cX8_go : ByteArray := prog_10_method_2_code
def yX8_go : MethodName := ⟨RX8, "go", "(LPaperRounds$Town;III)V"⟩
abbrev cX8_clear : ByteArray := prog_10_method_3_code
def yX8_clear : MethodName := ⟨RX8, "clear", "()V"⟩
abbrev cX8_endTrip : ByteArray := prog_10_method_4_code
def yX8_endTrip : MethodName := ⟨RX8, "endTrip", "(LPaperRounds$Streets;I)V"⟩
abbrev cX8_moreEffort : ByteArray := prog_10_method_5_code
def yX8_moreEffort : MethodName := ⟨RX8, "moreEffort", "(LPaperRounds$Town;III)I"⟩
def RX9 : String := "PaperRounds"
def TX9 : u_T := fun k => match k with
  | 0 => ("PaperRounds", "town", "LPaperRounds$Town;", true)
  | 1 => ("PaperRounds", "history", "LPaperRounds$History;", true)
  | 2 => ("PaperRounds", "walk", "LPaperRounds$Walk;", true)
  | 3 => ("PaperRounds", "text", "LPaperRounds$Text;", true)
  | _ => ("PaperRounds", "trial", "LPaperRounds$Trial;", true)
def tyX9 : Nat → FieldType := fun k => match k with
  | 0 => .object "PaperRounds$Town"
  | 1 => .object "PaperRounds$History"
  | 2 => .object "PaperRounds$Walk"
  | 3 => .object "PaperRounds$Text"
  | _ => .object "PaperRounds$Trial"
abbrev wsX90 : List Cond := u_ws RX9 TX9 5
theorem nmX9 : ∀ a, a < 5 → ∀ b, b < 5 → a ≠ b → (TX9 a).2.1 ≠ (TX9 b).2.1 := by decide +kernel
theorem tyX9_ok : ∀ k, k < 5 → parseFieldDescriptor (TX9 k).2.2.1 = some (tyX9 k) := by decide +kernel
abbrev cX9_init : ByteArray := prog_1_method_1_code
def yX9_init : MethodName := ⟨RX9, "<init>", "()V"⟩
abbrev cX9_corner : ByteArray := prog_1_method_2_code
def yX9_corner : MethodName := ⟨RX9, "corner", "(IIII)I"⟩
abbrev cX9_house : ByteArray := prog_1_method_3_code
def yX9_house : MethodName := ⟨RX9, "house", "(III)I"⟩
abbrev cX9_dog : ByteArray := prog_1_method_4_code
def yX9_dog : MethodName := ⟨RX9, "dog", "(III)I"⟩
abbrev cX9_pause : ByteArray := prog_1_method_5_code
def yX9_pause : MethodName := ⟨RX9, "pause", "(III)I"⟩
abbrev cX9_carrier : ByteArray := prog_1_method_6_code
def yX9_carrier : MethodName := ⟨RX9, "carrier", "(II)I"⟩
abbrev cX9_give : ByteArray := prog_1_method_7_code
def yX9_give : MethodName := ⟨RX9, "give", "(II)I"⟩
abbrev cX9_giveNone : ByteArray := prog_1_method_8_code
def yX9_giveNone : MethodName := ⟨RX9, "giveNone", "(I)I"⟩
abbrev cX9_biscuits : ByteArray := prog_1_method_9_code
def yX9_biscuits : MethodName := ⟨RX9, "biscuits", "(II)I"⟩
abbrev cX9_set : ByteArray := prog_1_method_10_code
def yX9_set : MethodName := ⟨RX9, "set", "(II)I"⟩
abbrev cX9_days : ByteArray := prog_1_method_11_code
def yX9_days : MethodName := ⟨RX9, "days", "(I)I"⟩
abbrev cX9_cornerOf : ByteArray := prog_1_method_12_code
def yX9_cornerOf : MethodName := ⟨RX9, "cornerOf", "(II)I"⟩
abbrev cX9_houseOf : ByteArray := prog_1_method_13_code
def yX9_houseOf : MethodName := ⟨RX9, "houseOf", "(II)I"⟩
abbrev cX9_shareBits : ByteArray := prog_1_method_14_code
def yX9_shareBits : MethodName := ⟨RX9, "shareBits", "(I)I"⟩
abbrev cX9_meanBits : ByteArray := prog_1_method_15_code
def yX9_meanBits : MethodName := ⟨RX9, "meanBits", "()I"⟩
abbrev cX9_carrierOf : ByteArray := prog_1_method_16_code
def yX9_carrierOf : MethodName := ⟨RX9, "carrierOf", "(II)I"⟩
abbrev cX9_pauseOf : ByteArray := prog_1_method_17_code
def yX9_pauseOf : MethodName := ⟨RX9, "pauseOf", "(II)I"⟩
abbrev cX9_roundAt : ByteArray := prog_1_method_18_code
def yX9_roundAt : MethodName := ⟨RX9, "roundAt", "(II)I"⟩
abbrev cX9_round : ByteArray := prog_1_method_19_code
def yX9_round : MethodName := ⟨RX9, "round", "(III)I"⟩
abbrev cX9_lightest : ByteArray := prog_1_method_20_code
def yX9_lightest : MethodName := ⟨RX9, "lightest", "(II)I"⟩
abbrev cX9_nextDog : ByteArray := prog_1_method_21_code
def yX9_nextDog : MethodName := ⟨RX9, "nextDog", "(I)I"⟩
abbrev cX9_account : ByteArray := prog_1_method_22_code
def yX9_account : MethodName := ⟨RX9, "account", "(I)I"⟩
abbrev cX9_count : ByteArray := prog_1_method_23_code
def yX9_count : MethodName := ⟨RX9, "count", "(I)I"⟩
abbrev cX9_undo : ByteArray := prog_1_method_24_code
def yX9_undo : MethodName := ⟨RX9, "undo", "()I"⟩
abbrev cX9_type : ByteArray := prog_1_method_25_code
def yX9_type : MethodName := ⟨RX9, "type", "(I)I"⟩
abbrev cX9_fault : ByteArray := prog_1_method_27_code
def yX9_fault : MethodName := ⟨RX9, "fault", "(I)I"⟩
abbrev cX9_play : ByteArray := prog_1_method_28_code
def yX9_play : MethodName := ⟨RX9, "play", "()I"⟩
abbrev cX9_settled : ByteArray := prog_1_method_29_code
def yX9_settled : MethodName := ⟨RX9, "settled", "(I)I"⟩
abbrev cX9_within : ByteArray := prog_1_method_30_code
def yX9_within : MethodName := ⟨RX9, "within", "(III)Z"⟩
abbrev cX9_bitsOf : ByteArray := prog_1_method_31_code
def yX9_bitsOf : MethodName := ⟨RX9, "bitsOf", "(F)I"⟩
abbrev cX9_copy : ByteArray := prog_1_method_32_code
def yX9_copy : MethodName := ⟨RX9, "copy", "([I[II)V"⟩
def RX11 : String := "PaperRoundsLaw"
abbrev cX11_cell : ByteArray := method_2_code
def yX11_cell : MethodName := ⟨RX11, "cell", "([II)I"⟩
abbrev cX11_up : ByteArray := method_3_code
def yX11_up : MethodName := ⟨RX11, "up", "(II)I"⟩
abbrev cX11_mark : ByteArray := method_4_code
def yX11_mark : MethodName := ⟨RX11, "mark", "(LPaperRounds;)J"⟩
abbrev cX11_fails : ByteArray := method_5_code
def yX11_fails : MethodName := ⟨RX11, "fails", "(LPaperRounds;)Z"⟩
abbrev cX11_streets : ByteArray := method_6_code
def yX11_streets : MethodName := ⟨RX11, "streets", "(LPaperRounds;)Z"⟩
abbrev cX11_papers : ByteArray := method_7_code
def yX11_papers : MethodName := ⟨RX11, "papers", "(LPaperRounds;I)Z"⟩
abbrev cX11_rounds : ByteArray := method_8_code
def yX11_rounds : MethodName := ⟨RX11, "rounds", "(LPaperRounds;)Z"⟩
abbrev cX11_goes : ByteArray := method_9_code
def yX11_goes : MethodName := ⟨RX11, "goes", "(LPaperRounds;)Z"⟩
abbrev cX11_lightest : ByteArray := method_10_code
def yX11_lightest : MethodName := ⟨RX11, "lightest", "(LPaperRounds;I)Z"⟩
abbrev cX11_act : ByteArray := method_11_code
def yX11_act : MethodName := ⟨RX11, "act", "(LPaperRounds;I)I"⟩
abbrev cX11_bundle : ByteArray := method_12_code
def yX11_bundle : MethodName := ⟨RX11, "bundle", "(LPaperRounds;)I"⟩
abbrev cX11_law : ByteArray := code
def yX11_law : MethodName := ⟨RX11, "law", "([I)Z"⟩
def wsL_law_r1 : List Cond := [Cond.classLink RX11 12 RX9, Cond.instantiable RX9 5, Cond.initialized RX9, Cond.methodLink RX11 104 yX9_init, Cond.instanceMethod yX9_init, Cond.code yX9_init cX9_init 1 none, Cond.methodLink RX9 1 objectInit, Cond.instanceMethod objectInit, Cond.code objectInit ⟨#[0xb1]⟩ 1 none, Cond.classLink RX9 7 RX6, Cond.instantiable RX6 8, Cond.initialized RX6, Cond.fieldLink RX9 10 "PaperRounds" "town" "LPaperRounds$Town;", Cond.classLink RX9 16 RX1, Cond.instantiable RX1 3, Cond.initialized RX1, Cond.fieldLink RX9 19 "PaperRounds" "history" "LPaperRounds$History;", Cond.classLink RX9 23 RX8, Cond.instantiable RX8 6, Cond.initialized RX8, Cond.fieldLink RX9 26 "PaperRounds" "walk" "LPaperRounds$Walk;", Cond.classLink RX9 30 RX5, Cond.instantiable RX5 5, Cond.initialized RX5]
def wsL_law_r2 : List Cond := [Cond.fieldLink RX9 33 "PaperRounds" "text" "LPaperRounds$Text;", Cond.classLink RX9 37 RX7, Cond.instantiable RX7 5, Cond.initialized RX7, Cond.fieldLink RX9 40 "PaperRounds" "trial" "LPaperRounds$Trial;", Cond.instanceMethod yX6_init, Cond.code yX6_init cX6_init 1 none, Cond.methodLink RX6 3 objectInit, Cond.fieldLink RX6 9 "PaperRounds$Town" "day" "I", Cond.fieldLink RX6 15 "PaperRounds$Town" "weight" "I", Cond.fieldLink RX6 18 "PaperRounds$Town" "sundayWeight" "I", Cond.arrayClass .int, Cond.fieldLink RX6 21 "PaperRounds$Town" "accounts" "[I", Cond.classLink RX6 25 RX4, Cond.instantiable RX4 9, Cond.initialized RX4, Cond.fieldLink RX6 28 "PaperRounds$Town" "streets" "LPaperRounds$Streets;", Cond.classLink RX6 32 RX2, Cond.instantiable RX2 15, Cond.initialized RX2, Cond.fieldLink RX6 35 "PaperRounds$Town" "houses" "LPaperRounds$Houses;", Cond.classLink RX6 39 RX3, Cond.instantiable RX3 4, Cond.initialized RX3]
def wsL_law_r3 : List Cond := [Cond.fieldLink RX6 42 "PaperRounds$Town" "pauses" "LPaperRounds$Pauses;", Cond.classLink RX6 46 RX0, Cond.instantiable RX0 8, Cond.initialized RX0, Cond.fieldLink RX6 49 "PaperRounds$Town" "carriers" "LPaperRounds$Carriers;", Cond.methodLink RX6 27 yX4_init, Cond.instanceMethod yX4_init, Cond.code yX4_init cX4_init 1 none, Cond.methodLink RX4 3 objectInit, Cond.fieldLink RX4 9 "PaperRounds$Streets" "many" "I", Cond.fieldLink RX4 15 "PaperRounds$Streets" "ahead" "[I", Cond.fieldLink RX4 19 "PaperRounds$Streets" "length" "[I", Cond.fieldLink RX4 22 "PaperRounds$Streets" "height" "[I", Cond.fieldLink RX4 25 "PaperRounds$Streets" "stairs" "[I", Cond.fieldLink RX4 28 "PaperRounds$Streets" "depth" "[I", Cond.fieldLink RX4 31 "PaperRounds$Streets" "distance" "[I", Cond.fieldLink RX4 34 "PaperRounds$Streets" "cartsCome" "[I", Cond.fieldLink RX4 37 "PaperRounds$Streets" "order" "[I", Cond.instanceMethod yX2_init, Cond.code yX2_init cX2_init 1 none, Cond.methodLink RX2 3 objectInit, Cond.fieldLink RX2 9 "PaperRounds$Houses" "many" "I", Cond.fieldLink RX2 15 "PaperRounds$Houses" "corner" "[I", Cond.fieldLink RX2 19 "PaperRounds$Houses" "papers" "[I"]
def wsL_law_r4 : List Cond := [Cond.fieldLink RX2 22 "PaperRounds$Houses" "tip" "[I", Cond.fieldLink RX2 25 "PaperRounds$Houses" "carrier" "[I", Cond.fieldLink RX2 28 "PaperRounds$Houses" "period" "[I", Cond.fieldLink RX2 31 "PaperRounds$Houses" "phase" "[I", Cond.fieldLink RX2 34 "PaperRounds$Houses" "delivered" "[I", Cond.fieldLink RX2 37 "PaperRounds$Houses" "paused" "[I", Cond.fieldLink RX2 40 "PaperRounds$Houses" "returned" "[I", Cond.fieldLink RX2 43 "PaperRounds$Houses" "lost" "[I", Cond.fieldLink RX2 46 "PaperRounds$Houses" "complaints" "[I", Cond.fieldLink RX2 49 "PaperRounds$Houses" "freshComplaints" "[I", Cond.fieldLink RX2 52 "PaperRounds$Houses" "freshDelivered" "[I", Cond.fieldLink RX2 55 "PaperRounds$Houses" "order" "[I", Cond.instanceMethod yX3_init, Cond.code yX3_init cX3_init 1 none, Cond.methodLink RX3 3 objectInit, Cond.fieldLink RX3 9 "PaperRounds$Pauses" "many" "I", Cond.fieldLink RX3 15 "PaperRounds$Pauses" "house" "[I", Cond.fieldLink RX3 19 "PaperRounds$Pauses" "first" "[I", Cond.fieldLink RX3 22 "PaperRounds$Pauses" "last" "[I", Cond.instanceMethod yX0_init, Cond.code yX0_init cX0_init 1 none, Cond.methodLink RX0 3 objectInit, Cond.fieldLink RX0 9 "PaperRounds$Carriers" "many" "I", Cond.fieldLink RX0 15 "PaperRounds$Carriers" "cart" "[I"]
def wsL_law_r5 : List Cond := [Cond.fieldLink RX0 19 "PaperRounds$Carriers" "limit" "[I", Cond.fieldLink RX0 22 "PaperRounds$Carriers" "biscuits" "[I", Cond.fieldLink RX0 25 "PaperRounds$Carriers" "trips" "[I", Cond.fieldLink RX0 28 "PaperRounds$Carriers" "effort" "[I", Cond.fieldLink RX0 31 "PaperRounds$Carriers" "tips" "[I", Cond.fieldLink RX0 34 "PaperRounds$Carriers" "delivered" "[I", Cond.methodLink RX9 18 yX1_init, Cond.instanceMethod yX1_init, Cond.code yX1_init cX1_init 2 none, Cond.methodLink RX1 3 objectInit, Cond.fieldLink RX1 9 "PaperRounds$History" "kept" "I", Cond.fieldLink RX1 15 "PaperRounds$History" "oldest" "I", Cond.classLink RX1 18 RX6, Cond.fieldLink RX1 20 "PaperRounds$History" "rows" "[LPaperRounds$Town;", Cond.instanceMethod yX8_init, Cond.code yX8_init cX8_init 1 none, Cond.methodLink RX8 3 objectInit, Cond.fieldLink RX8 9 "PaperRounds$Walk" "trips" "I", Cond.fieldLink RX8 15 "PaperRounds$Walk" "effort" "I", Cond.fieldLink RX8 18 "PaperRounds$Walk" "papers" "I", Cond.fieldLink RX8 21 "PaperRounds$Walk" "dogs" "I", Cond.fieldLink RX8 24 "PaperRounds$Walk" "onTrip" "I", Cond.fieldLink RX8 27 "PaperRounds$Walk" "load" "[I", Cond.instanceMethod yX5_init]
def wsL_law_r6 : List Cond := [Cond.code yX5_init cX5_init 1 none, Cond.methodLink RX5 3 objectInit, Cond.fieldLink RX5 9 "PaperRounds$Text" "length" "I", Cond.arrayClass .char, Cond.fieldLink RX5 15 "PaperRounds$Text" "signs" "[C", Cond.fieldLink RX5 19 "PaperRounds$Text" "kind" "C", Cond.fieldLink RX5 23 "PaperRounds$Text" "next" "I", Cond.fieldLink RX5 26 "PaperRounds$Text" "numbers" "[I", Cond.instanceMethod yX7_init, Cond.code yX7_init cX7_init 1 none, Cond.methodLink RX7 3 objectInit, Cond.classLink RX7 9 RX6, Cond.fieldLink RX7 12 "PaperRounds$Trial" "town" "LPaperRounds$Town;", Cond.fieldLink RX7 18 "PaperRounds$Trial" "orders" "I", Cond.fieldLink RX7 22 "PaperRounds$Trial" "position" "I", Cond.fieldLink RX7 25 "PaperRounds$Trial" "reason" "I", Cond.fieldLink RX7 28 "PaperRounds$Trial" "cause" "I", Cond.methodLink RX11 101 yX9_undo, Cond.instanceMethod yX9_undo, Cond.selects RX9 yX9_undo yX9_undo, Cond.code yX9_undo cX9_undo 1 (some .int), Cond.fieldLink RX9 270 "PaperRounds$History" "kept" "I", Cond.methodLink RX9 281 yX1_restoreInto, Cond.instanceMethod yX1_restoreInto]
def wsL_law_r7 : List Cond := [Cond.selects RX1 yX1_restoreInto yX1_restoreInto, Cond.code yX1_restoreInto cX1_restoreInto 2 none, Cond.methodLink RX1 25 yX6_copyFrom, Cond.instanceMethod yX6_copyFrom, Cond.selects RX6 yX6_copyFrom yX6_copyFrom, Cond.code yX6_copyFrom cX6_copyFrom 2 none, Cond.static yX9_copy, Cond.code yX9_copy cX9_copy 3 none, Cond.methodLink RX9 313 arraycopyName, Cond.native arraycopyName, Cond.static arraycopyName, Cond.initialized "java/lang/System", Cond.methodLink RX6 57 yX4_copyFrom, Cond.instanceMethod yX4_copyFrom, Cond.selects RX4 yX4_copyFrom yX4_copyFrom, Cond.code yX4_copyFrom cX4_copyFrom 2 none, Cond.methodLink RX6 61 yX2_copyFrom, Cond.instanceMethod yX2_copyFrom, Cond.selects RX2 yX2_copyFrom yX2_copyFrom, Cond.code yX2_copyFrom cX2_copyFrom 2 none, Cond.methodLink RX6 64 yX3_copyFrom, Cond.instanceMethod yX3_copyFrom, Cond.selects RX3 yX3_copyFrom yX3_copyFrom, Cond.code yX3_copyFrom cX3_copyFrom 2 none]
def wsL_law_r8 : List Cond := [Cond.methodLink RX6 67 yX0_copyFrom, Cond.instanceMethod yX0_copyFrom, Cond.selects RX0 yX0_copyFrom yX0_copyFrom, Cond.code yX0_copyFrom cX0_copyFrom 2 none, Cond.methodLink RX11 11 yX9_count, Cond.instanceMethod yX9_count, Cond.selects RX9 yX9_count yX9_count, Cond.code yX9_count cX9_count 2 (some .int), Cond.fieldLink RX9 86 "PaperRounds$Town" "streets" "LPaperRounds$Streets;", Cond.fieldLink RX9 259 "PaperRounds$Streets" "many" "I", Cond.fieldLink RX9 122 "PaperRounds$Town" "houses" "LPaperRounds$Houses;", Cond.fieldLink RX9 187 "PaperRounds$Houses" "many" "I", Cond.fieldLink RX9 190 "PaperRounds$Town" "carriers" "LPaperRounds$Carriers;", Cond.fieldLink RX9 245 "PaperRounds$Carriers" "many" "I", Cond.fieldLink RX9 144 "PaperRounds$Town" "pauses" "LPaperRounds$Pauses;", Cond.fieldLink RX9 219 "PaperRounds$Pauses" "many" "I", Cond.fieldLink RX9 148 "PaperRounds$Town" "day" "I", Cond.fieldLink RX9 273 "PaperRounds$Text" "length" "I", Cond.fieldLink RX9 275 "PaperRounds$Town" "weight" "I", Cond.fieldLink RX9 278 "PaperRounds$Town" "sundayWeight" "I", Cond.methodLink RX9 206 yX2_manyOf, Cond.instanceMethod yX2_manyOf, Cond.selects RX2 yX2_manyOf yX2_manyOf, Cond.code yX2_manyOf cX2_manyOf 4 (some .int)]
def wsL_law_r9 : List Cond := [Cond.methodLink RX9 260 yX6_housesPaused, Cond.instanceMethod yX6_housesPaused, Cond.selects RX6 yX6_housesPaused yX6_housesPaused, Cond.code yX6_housesPaused cX6_housesPaused 3 (some .int), Cond.fieldLink RX6 85 "PaperRounds$Houses" "many" "I", Cond.methodLink RX6 160 yX3_cover, Cond.instanceMethod yX3_cover, Cond.selects RX3 yX3_cover yX3_cover, Cond.code yX3_cover cX3_cover 4 (some .boolean), Cond.methodLink RX9 264 yX2_allComplaints, Cond.instanceMethod yX2_allComplaints, Cond.selects RX2 yX2_allComplaints yX2_allComplaints, Cond.code yX2_allComplaints cX2_allComplaints 3 (some .int), Cond.methodLink RX9 267 yX0_allTips, Cond.instanceMethod yX0_allTips, Cond.selects RX0 yX0_allTips yX0_allTips, Cond.code yX0_allTips cX0_allTips 3 (some .int), Cond.methodLink RX11 105 yX9_play, Cond.instanceMethod yX9_play, Cond.selects RX9 yX9_play yX9_play, Cond.code yX9_play cX9_play 1 (some .int), Cond.fieldLink RX9 292 "PaperRounds$Trial" "reason" "I", Cond.fieldLink RX9 301 "PaperRounds$Trial" "town" "LPaperRounds$Town;", Cond.fieldLink RX9 305 "PaperRounds$Trial" "orders" "I"]
def wsL_law_r10 : List Cond := [Cond.methodLink RX9 288 yX7_run, Cond.instanceMethod yX7_run, Cond.selects RX7 yX7_run yX7_run, Cond.code yX7_run cX7_run 5 none, Cond.fieldLink RX7 35 "PaperRounds$Text" "length" "I", Cond.fieldLink RX7 44 "PaperRounds$Text" "kind" "C", Cond.fieldLink RX7 48 "PaperRounds$Text" "numbers" "[I", Cond.fieldLink RX7 56 "PaperRounds$Text" "next" "I", Cond.methodLink RX7 31 yX6_copyFrom, Cond.methodLink RX7 40 yX5_readOrder, Cond.instanceMethod yX5_readOrder, Cond.selects RX5 yX5_readOrder yX5_readOrder, Cond.code yX5_readOrder cX5_readOrder 5 (some .boolean), Cond.static yX9_within, Cond.code yX9_within cX9_within 3 (some .boolean), Cond.methodLink RX5 34 yX5_numbersOf, Cond.static yX5_numbersOf, Cond.code yX5_numbersOf cX5_numbersOf 1 (some .int), Cond.methodLink RX5 38 yX5_readNumber, Cond.instanceMethod yX5_readNumber, Cond.selects RX5 yX5_readNumber yX5_readNumber, Cond.code yX5_readNumber cX5_readNumber 3 (some .int), Cond.methodLink RX5 42 yX5_readSign, Cond.instanceMethod yX5_readSign]
def wsL_law_r11 : List Cond := [Cond.selects RX5 yX5_readSign yX5_readSign, Cond.code yX5_readSign cX5_readSign 2 (some .boolean), Cond.methodLink RX7 52 yX7_answerOf, Cond.instanceMethod yX7_answerOf, Cond.selects RX7 yX7_answerOf yX7_answerOf, Cond.code yX7_answerOf cX7_answerOf 4 (some .int), Cond.methodLink RX7 59 yX6_addPause, Cond.instanceMethod yX6_addPause, Cond.selects RX6 yX6_addPause yX6_addPause, Cond.code yX6_addPause cX6_addPause 4 (some .int), Cond.fieldLink RX6 96 "PaperRounds$Pauses" "many" "I", Cond.methodLink RX6 89 yX2_has, Cond.instanceMethod yX2_has, Cond.selects RX2 yX2_has yX2_has, Cond.code yX2_has cX2_has 2 (some .boolean), Cond.methodLink RX6 97 yX3_add, Cond.instanceMethod yX3_add, Cond.selects RX3 yX3_add yX3_add, Cond.code yX3_add cX3_add 5 (some .int), Cond.methodLink RX7 63 yX6_handOver, Cond.instanceMethod yX6_handOver, Cond.selects RX6 yX6_handOver yX6_handOver, Cond.code yX6_handOver cX6_handOver 3 (some .int), Cond.fieldLink RX6 105 "PaperRounds$Houses" "carrier" "[I"]
def wsL_law_r12 : List Cond := [Cond.methodLink RX6 104 yX0_has, Cond.instanceMethod yX0_has, Cond.selects RX0 yX0_has yX0_has, Cond.code yX0_has cX0_has 2 (some .boolean), Cond.methodLink RX6 108 yX6_canReach, Cond.instanceMethod yX6_canReach, Cond.selects RX6 yX6_canReach yX6_canReach, Cond.code yX6_canReach cX6_canReach 3 (some .boolean), Cond.fieldLink RX6 198 "PaperRounds$Carriers" "cart" "[I", Cond.fieldLink RX6 201 "PaperRounds$Streets" "cartsCome" "[I", Cond.fieldLink RX6 204 "PaperRounds$Houses" "corner" "[I", Cond.methodLink RX6 112 yX2_manyOf, Cond.methodLink RX7 67 yX6_takeBack, Cond.instanceMethod yX6_takeBack, Cond.selects RX6 yX6_takeBack yX6_takeBack, Cond.code yX6_takeBack cX6_takeBack 3 (some .int), Cond.methodLink RX7 71 yX6_addBiscuits, Cond.instanceMethod yX6_addBiscuits, Cond.selects RX6 yX6_addBiscuits yX6_addBiscuits, Cond.code yX6_addBiscuits cX6_addBiscuits 3 (some .int), Cond.fieldLink RX6 116 "PaperRounds$Carriers" "biscuits" "[I", Cond.methodLink RX7 74 yX6_letDaysGo, Cond.instanceMethod yX6_letDaysGo, Cond.selects RX6 yX6_letDaysGo yX6_letDaysGo]
def wsL_law_r13 : List Cond := [Cond.code yX6_letDaysGo cX6_letDaysGo 6 (some .int), Cond.fieldLink RX6 100 "PaperRounds$Carriers" "many" "I", Cond.fieldLink RX6 125 "PaperRounds$Carriers" "trips" "[I", Cond.fieldLink RX6 128 "PaperRounds$Walk" "trips" "I", Cond.fieldLink RX6 130 "PaperRounds$Carriers" "effort" "[I", Cond.fieldLink RX6 133 "PaperRounds$Walk" "effort" "I", Cond.methodLink RX6 119 yX8_go, Cond.instanceMethod yX8_go, Cond.selects RX8 yX8_go yX8_go, Cond.code yX8_go cX8_go 12 none, Cond.fieldLink RX8 34 "PaperRounds$Town" "houses" "LPaperRounds$Houses;", Cond.fieldLink RX8 44 "PaperRounds$Town" "carriers" "LPaperRounds$Carriers;", Cond.fieldLink RX8 48 "PaperRounds$Carriers" "limit" "[I", Cond.fieldLink RX8 53 "PaperRounds$Houses" "many" "I", Cond.fieldLink RX8 58 "PaperRounds$Houses" "order" "[I", Cond.fieldLink RX8 61 "PaperRounds$Houses" "papers" "[I", Cond.fieldLink RX8 63 "PaperRounds$Houses" "carrier" "[I", Cond.fieldLink RX8 66 "PaperRounds$Town" "pauses" "LPaperRounds$Pauses;", Cond.fieldLink RX8 76 "PaperRounds$Town" "streets" "LPaperRounds$Streets;", Cond.fieldLink RX8 80 "PaperRounds$Carriers" "cart" "[I", Cond.fieldLink RX8 87 "PaperRounds$Houses" "corner" "[I", Cond.methodLink RX8 31 yX8_clear, Cond.instanceMethod yX8_clear, Cond.selects RX8 yX8_clear yX8_clear]
def wsL_law_r14 : List Cond := [Cond.code yX8_clear cX8_clear 1 none, Cond.methodLink RX8 40 yX6_weightOn, Cond.instanceMethod yX6_weightOn, Cond.selects RX6 yX6_weightOn yX6_weightOn, Cond.code yX6_weightOn cX6_weightOn 2 (some .int), Cond.methodLink RX6 138 yX6_isSunday, Cond.static yX6_isSunday, Cond.code yX6_isSunday cX6_isSunday 1 (some .boolean), Cond.methodLink RX8 70 yX3_cover, Cond.methodLink RX8 83 yX8_endTrip, Cond.instanceMethod yX8_endTrip, Cond.selects RX8 yX8_endTrip yX8_endTrip, Cond.code yX8_endTrip cX8_endTrip 4 none, Cond.fieldLink RX8 93 "PaperRounds$Streets" "many" "I", Cond.fieldLink RX8 100 "PaperRounds$Streets" "ahead" "[I", Cond.methodLink RX8 96 yX4_effortOfStreet, Cond.instanceMethod yX4_effortOfStreet, Cond.selects RX4 yX4_effortOfStreet yX4_effortOfStreet, Cond.code yX4_effortOfStreet cX4_effortOfStreet 7 (some .int), Cond.methodLink RX8 90 yX2_dogIsOut, Cond.instanceMethod yX2_dogIsOut, Cond.selects RX2 yX2_dogIsOut yX2_dogIsOut, Cond.code yX2_dogIsOut cX2_dogIsOut 4 (some .boolean), Cond.methodLink RX6 135 yX6_bringPapers]
def wsL_law_r15 : List Cond := [Cond.instanceMethod yX6_bringPapers, Cond.selects RX6 yX6_bringPapers yX6_bringPapers, Cond.code yX6_bringPapers cX6_bringPapers 5 none, Cond.fieldLink RX6 147 "PaperRounds$Houses" "order" "[I", Cond.fieldLink RX6 150 "PaperRounds$Houses" "papers" "[I", Cond.methodLink RX6 153 yX6_fateOfPapers, Cond.instanceMethod yX6_fateOfPapers, Cond.selects RX6 yX6_fateOfPapers yX6_fateOfPapers, Cond.code yX6_fateOfPapers cX6_fateOfPapers 3 (some .int), Cond.fieldLink RX6 166 "PaperRounds$Carriers" "limit" "[I", Cond.methodLink RX6 163 yX6_weightOn, Cond.methodLink RX6 169 yX2_dogIsOut, Cond.methodLink RX6 156 yX6_book, Cond.instanceMethod yX6_book, Cond.selects RX6 yX6_book yX6_book, Cond.code yX6_book cX6_book 4 none, Cond.fieldLink RX6 172 "PaperRounds$Houses" "paused" "[I", Cond.fieldLink RX6 175 "PaperRounds$Houses" "delivered" "[I", Cond.fieldLink RX6 178 "PaperRounds$Houses" "freshDelivered" "[I", Cond.fieldLink RX6 181 "PaperRounds$Carriers" "delivered" "[I", Cond.fieldLink RX6 182 "PaperRounds$Houses" "lost" "[I", Cond.fieldLink RX6 189 "PaperRounds$Houses" "returned" "[I", Cond.methodLink RX6 185 yX2_complain, Cond.instanceMethod yX2_complain]
def wsL_law_r16 : List Cond := [Cond.selects RX2 yX2_complain yX2_complain, Cond.code yX2_complain cX2_complain 2 none, Cond.methodLink RX6 141 yX6_payTips, Cond.instanceMethod yX6_payTips, Cond.selects RX6 yX6_payTips yX6_payTips, Cond.code yX6_payTips cX6_payTips 3 none, Cond.fieldLink RX6 192 "PaperRounds$Carriers" "tips" "[I", Cond.methodLink RX6 195 yX2_tipNow, Cond.instanceMethod yX2_tipNow, Cond.selects RX2 yX2_tipNow yX2_tipNow, Cond.code yX2_tipNow cX2_tipNow 2 (some .int), Cond.methodLink RX6 144 yX2_beginWeek, Cond.instanceMethod yX2_beginWeek, Cond.selects RX2 yX2_beginWeek yX2_beginWeek, Cond.code yX2_beginWeek cX2_beginWeek 2 none, Cond.methodLink RX9 44 yX1_prepare, Cond.instanceMethod yX1_prepare, Cond.selects RX1 yX1_prepare yX1_prepare, Cond.code yX1_prepare cX1_prepare 2 none, Cond.methodLink RX9 302 yX6_copyFrom, Cond.methodLink RX9 52 yX9_settled, Cond.instanceMethod yX9_settled, Cond.selects RX9 yX9_settled yX9_settled, Cond.code yX9_settled cX9_settled 2 (some .int)]
def wsL_law_r17 : List Cond := [Cond.methodLink RX9 308 yX1_keepPrepared, Cond.instanceMethod yX1_keepPrepared, Cond.selects RX1 yX1_keepPrepared yX1_keepPrepared, Cond.code yX1_keepPrepared cX1_keepPrepared 1 none, Cond.methodLink RX11 89 yX9_fault, Cond.instanceMethod yX9_fault, Cond.selects RX9 yX9_fault yX9_fault, Cond.code yX9_fault cX9_fault 2 (some .int), Cond.fieldLink RX9 295 "PaperRounds$Trial" "position" "I", Cond.fieldLink RX9 298 "PaperRounds$Trial" "cause" "I", Cond.methodLink RX9 96 yX9_within, Cond.methodLink RX11 94 yX9_meanBits, Cond.instanceMethod yX9_meanBits, Cond.selects RX9 yX9_meanBits yX9_meanBits, Cond.code yX9_meanBits cX9_meanBits 5 (some .int), Cond.methodLink RX9 176 yX2_papersDue, Cond.instanceMethod yX2_papersDue, Cond.selects RX2 yX2_papersDue yX2_papersDue, Cond.code yX2_papersDue cX2_papersDue 2 (some .int), Cond.methodLink RX9 179 yX2_share, Cond.instanceMethod yX2_share, Cond.selects RX2 yX2_share yX2_share, Cond.code yX2_share cX2_share 3 (some .float), Cond.methodLink RX2 74 yX2_papersDue]
def wsL_law_r18 : List Cond := [Cond.methodLink RX9 183 yX9_bitsOf, Cond.static yX9_bitsOf, Cond.code yX9_bitsOf cX9_bitsOf 4 (some .int), Cond.constantFloat RX9 311 (1258291200), Cond.constant RX9 312 (8388608), Cond.methodLink RX11 74 yX9_days, Cond.instanceMethod yX9_days, Cond.selects RX9 yX9_days yX9_days, Cond.code yX9_days cX9_days 2 (some .int), Cond.methodLink RX9 82 yX6_letDaysGo, Cond.methodLink RX11 108 yX11_fails, Cond.static yX11_fails, Cond.initialized RX11, Cond.code yX11_fails cX11_fails 9 (some .boolean), Cond.methodLink RX11 39 yX11_mark, Cond.static yX11_mark, Cond.code yX11_mark cX11_mark 5 (some .long), Cond.constantLong RX11 9 (31), Cond.methodLink RX11 17 yX9_account, Cond.instanceMethod yX9_account, Cond.selects RX9 yX9_account yX9_account, Cond.code yX9_account cX9_account 2 (some .int), Cond.fieldLink RX9 256 "PaperRounds$Town" "accounts" "[I", Cond.methodLink RX11 20 yX9_cornerOf]
def wsL_law_r19 : List Cond := [Cond.instanceMethod yX9_cornerOf, Cond.selects RX9 yX9_cornerOf yX9_cornerOf, Cond.code yX9_cornerOf cX9_cornerOf 4 (some .int), Cond.fieldLink RX9 100 "PaperRounds$Streets" "ahead" "[I", Cond.fieldLink RX9 104 "PaperRounds$Streets" "length" "[I", Cond.fieldLink RX9 107 "PaperRounds$Streets" "height" "[I", Cond.fieldLink RX9 110 "PaperRounds$Streets" "stairs" "[I", Cond.fieldLink RX9 113 "PaperRounds$Streets" "distance" "[I", Cond.fieldLink RX9 119 "PaperRounds$Streets" "cartsCome" "[I", Cond.methodLink RX9 90 yX4_has, Cond.instanceMethod yX4_has, Cond.selects RX4 yX4_has yX4_has, Cond.code yX4_has cX4_has 2 (some .boolean), Cond.methodLink RX9 116 yX6_housesFrom, Cond.instanceMethod yX6_housesFrom, Cond.selects RX6 yX6_housesFrom yX6_housesFrom, Cond.code yX6_housesFrom cX6_housesFrom 4 (some .int), Cond.methodLink RX6 207 yX4_isAtOrBeyond, Cond.instanceMethod yX4_isAtOrBeyond, Cond.selects RX4 yX4_isAtOrBeyond yX4_isAtOrBeyond, Cond.code yX4_isAtOrBeyond cX4_isAtOrBeyond 5 (some .boolean), Cond.methodLink RX11 24 yX9_houseOf, Cond.instanceMethod yX9_houseOf, Cond.selects RX9 yX9_houseOf yX9_houseOf]
def wsL_law_r20 : List Cond := [Cond.code yX9_houseOf cX9_houseOf 4 (some .int), Cond.fieldLink RX9 129 "PaperRounds$Houses" "corner" "[I", Cond.fieldLink RX9 132 "PaperRounds$Houses" "papers" "[I", Cond.fieldLink RX9 135 "PaperRounds$Houses" "tip" "[I", Cond.fieldLink RX9 138 "PaperRounds$Houses" "carrier" "[I", Cond.fieldLink RX9 141 "PaperRounds$Houses" "period" "[I", Cond.fieldLink RX9 158 "PaperRounds$Houses" "delivered" "[I", Cond.fieldLink RX9 161 "PaperRounds$Houses" "paused" "[I", Cond.fieldLink RX9 164 "PaperRounds$Houses" "returned" "[I", Cond.fieldLink RX9 167 "PaperRounds$Houses" "lost" "[I", Cond.fieldLink RX9 170 "PaperRounds$Houses" "complaints" "[I", Cond.fieldLink RX9 173 "PaperRounds$Houses" "freshComplaints" "[I", Cond.methodLink RX9 126 yX2_has, Cond.methodLink RX9 152 yX3_cover, Cond.methodLink RX11 27 yX9_shareBits, Cond.instanceMethod yX9_shareBits, Cond.selects RX9 yX9_shareBits yX9_shareBits, Cond.code yX9_shareBits cX9_shareBits 2 (some .int), Cond.methodLink RX11 30 yX9_nextDog, Cond.instanceMethod yX9_nextDog, Cond.selects RX9 yX9_nextDog yX9_nextDog, Cond.code yX9_nextDog cX9_nextDog 3 (some .int), Cond.methodLink RX9 253 yX2_dogIsOut, Cond.methodLink RX11 33 yX9_carrierOf]
def wsL_law_r21 : List Cond := [Cond.instanceMethod yX9_carrierOf, Cond.selects RX9 yX9_carrierOf yX9_carrierOf, Cond.code yX9_carrierOf cX9_carrierOf 4 (some .int), Cond.fieldLink RX9 197 "PaperRounds$Carriers" "cart" "[I", Cond.fieldLink RX9 200 "PaperRounds$Carriers" "limit" "[I", Cond.fieldLink RX9 203 "PaperRounds$Carriers" "biscuits" "[I", Cond.fieldLink RX9 209 "PaperRounds$Carriers" "trips" "[I", Cond.fieldLink RX9 212 "PaperRounds$Carriers" "effort" "[I", Cond.fieldLink RX9 215 "PaperRounds$Carriers" "tips" "[I", Cond.fieldLink RX9 218 "PaperRounds$Carriers" "delivered" "[I", Cond.methodLink RX9 194 yX0_has, Cond.methodLink RX11 36 yX9_pauseOf, Cond.instanceMethod yX9_pauseOf, Cond.selects RX9 yX9_pauseOf yX9_pauseOf, Cond.code yX9_pauseOf cX9_pauseOf 4 (some .int), Cond.fieldLink RX9 220 "PaperRounds$Pauses" "house" "[I", Cond.fieldLink RX9 223 "PaperRounds$Pauses" "first" "[I", Cond.fieldLink RX9 226 "PaperRounds$Pauses" "last" "[I", Cond.methodLink RX11 45 yX9_corner, Cond.instanceMethod yX9_corner, Cond.selects RX9 yX9_corner yX9_corner, Cond.code yX9_corner cX9_corner 5 (some .int), Cond.methodLink RX9 48 yX6_addCorner, Cond.instanceMethod yX6_addCorner]
def wsL_law_r22 : List Cond := [Cond.selects RX6 yX6_addCorner yX6_addCorner, Cond.code yX6_addCorner cX6_addCorner 5 (some .int), Cond.fieldLink RX6 78 "PaperRounds$Streets" "many" "I", Cond.methodLink RX6 70 yX4_has, Cond.methodLink RX6 81 yX4_add, Cond.instanceMethod yX4_add, Cond.selects RX4 yX4_add yX4_add, Cond.code yX4_add cX4_add 6 (some .int), Cond.methodLink RX4 48 yX4_putInOrder, Cond.instanceMethod yX4_putInOrder, Cond.selects RX4 yX4_putInOrder yX4_putInOrder, Cond.code yX4_putInOrder cX4_putInOrder 5 none, Cond.methodLink RX11 49 yX9_house, Cond.instanceMethod yX9_house, Cond.selects RX9 yX9_house yX9_house, Cond.code yX9_house cX9_house 4 (some .int), Cond.methodLink RX9 56 yX6_addHouse, Cond.instanceMethod yX6_addHouse, Cond.selects RX6 yX6_addHouse yX6_addHouse, Cond.code yX6_addHouse cX6_addHouse 4 (some .int), Cond.methodLink RX6 86 yX2_add, Cond.instanceMethod yX2_add, Cond.selects RX2 yX2_add yX2_add, Cond.code yX2_add cX2_add 6 (some .int)]
def wsL_law_r23 : List Cond := [Cond.methodLink RX2 66 yX2_makeOrder, Cond.instanceMethod yX2_makeOrder, Cond.selects RX2 yX2_makeOrder yX2_makeOrder, Cond.code yX2_makeOrder cX2_makeOrder 5 none, Cond.fieldLink RX2 70 "PaperRounds$Streets" "many" "I", Cond.fieldLink RX2 73 "PaperRounds$Streets" "order" "[I", Cond.methodLink RX11 53 yX9_dog, Cond.instanceMethod yX9_dog, Cond.selects RX9 yX9_dog yX9_dog, Cond.code yX9_dog cX9_dog 4 (some .int), Cond.methodLink RX9 60 yX6_changeDog, Cond.instanceMethod yX6_changeDog, Cond.selects RX6 yX6_changeDog yX6_changeDog, Cond.code yX6_changeDog cX6_changeDog 6 (some .int), Cond.fieldLink RX6 90 "PaperRounds$Houses" "period" "[I", Cond.fieldLink RX6 93 "PaperRounds$Houses" "phase" "[I", Cond.methodLink RX11 56 yX9_pause, Cond.instanceMethod yX9_pause, Cond.selects RX9 yX9_pause yX9_pause, Cond.code yX9_pause cX9_pause 4 (some .int), Cond.methodLink RX9 63 yX6_addPause, Cond.methodLink RX11 59 yX9_carrier, Cond.instanceMethod yX9_carrier, Cond.selects RX9 yX9_carrier yX9_carrier]
def wsL_law_r24 : List Cond := [Cond.code yX9_carrier cX9_carrier 3 (some .int), Cond.methodLink RX9 66 yX6_addCarrier, Cond.instanceMethod yX6_addCarrier, Cond.selects RX6 yX6_addCarrier yX6_addCarrier, Cond.code yX6_addCarrier cX6_addCarrier 3 (some .int), Cond.methodLink RX6 101 yX0_add, Cond.instanceMethod yX0_add, Cond.selects RX0 yX0_add yX0_add, Cond.code yX0_add cX0_add 4 (some .int), Cond.methodLink RX11 62 yX9_give, Cond.instanceMethod yX9_give, Cond.selects RX9 yX9_give yX9_give, Cond.code yX9_give cX9_give 3 (some .int), Cond.methodLink RX9 70 yX6_handOver, Cond.methodLink RX11 65 yX9_giveNone, Cond.instanceMethod yX9_giveNone, Cond.selects RX9 yX9_giveNone yX9_giveNone, Cond.code yX9_giveNone cX9_giveNone 2 (some .int), Cond.methodLink RX9 73 yX6_takeBack, Cond.methodLink RX11 68 yX9_biscuits, Cond.instanceMethod yX9_biscuits, Cond.selects RX9 yX9_biscuits yX9_biscuits, Cond.code yX9_biscuits cX9_biscuits 3 (some .int), Cond.methodLink RX9 76 yX6_addBiscuits]
def wsL_law_r25 : List Cond := [Cond.methodLink RX11 71 yX9_set, Cond.instanceMethod yX9_set, Cond.selects RX9 yX9_set yX9_set, Cond.code yX9_set cX9_set 3 (some .int), Cond.methodLink RX9 79 yX6_changeSetting, Cond.instanceMethod yX6_changeSetting, Cond.selects RX6 yX6_changeSetting yX6_changeSetting, Cond.code yX6_changeSetting cX6_changeSetting 4 (some .int), Cond.methodLink RX11 77 yX9_roundAt, Cond.instanceMethod yX9_roundAt, Cond.selects RX9 yX9_roundAt yX9_roundAt, Cond.code yX9_roundAt cX9_roundAt 7 (some .int), Cond.fieldLink RX9 229 "PaperRounds$Houses" "order" "[I", Cond.methodLink RX11 80 yX9_round, Cond.instanceMethod yX9_round, Cond.selects RX9 yX9_round yX9_round, Cond.code yX9_round cX9_round 4 (some .int), Cond.fieldLink RX9 236 "PaperRounds$Walk" "trips" "I", Cond.fieldLink RX9 238 "PaperRounds$Walk" "effort" "I", Cond.fieldLink RX9 240 "PaperRounds$Walk" "papers" "I", Cond.fieldLink RX9 242 "PaperRounds$Walk" "dogs" "I", Cond.methodLink RX9 232 yX8_go, Cond.methodLink RX11 83 yX9_lightest, Cond.instanceMethod yX9_lightest]
def wsL_law_r26 : List Cond := [Cond.selects RX9 yX9_lightest yX9_lightest, Cond.code yX9_lightest cX9_lightest 7 (some .int), Cond.methodLink RX9 246 yX6_canReach, Cond.methodLink RX9 249 yX8_moreEffort, Cond.instanceMethod yX8_moreEffort, Cond.selects RX8 yX8_moreEffort yX8_moreEffort, Cond.code yX8_moreEffort cX8_moreEffort 6 (some .int), Cond.methodLink RX8 103 yX8_go, Cond.methodLink RX11 86 yX9_type, Cond.instanceMethod yX9_type, Cond.selects RX9 yX9_type yX9_type, Cond.code yX9_type cX9_type 2 (some .int), Cond.methodLink RX9 284 yX5_append, Cond.instanceMethod yX5_append, Cond.selects RX5 yX5_append yX5_append, Cond.code yX5_append cX5_append 2 (some .int), Cond.methodLink RX11 112 yX11_cell, Cond.static yX11_cell, Cond.code yX11_cell cX11_cell 2 (some .int), Cond.constant RX11 7 (763049417), Cond.methodLink RX11 98 yX11_up, Cond.static yX11_up, Cond.code yX11_up cX11_up 2 (some .int), Cond.constant RX11 8 (2147483647)]
def wsL_law_r27 : List Cond := [Cond.methodLink RX11 116 yX11_act, Cond.static yX11_act, Cond.code yX11_act cX11_act 5 (some .int), Cond.methodLink RX11 120 yX11_bundle, Cond.static yX11_bundle, Cond.code yX11_bundle cX11_bundle 3 (some .int), Cond.methodLink RX11 124 yX11_goes, Cond.static yX11_goes, Cond.code yX11_goes cX11_goes 10 (some .boolean), Cond.methodLink RX11 127 yX11_streets, Cond.static yX11_streets, Cond.code yX11_streets cX11_streets 3 (some .boolean), Cond.methodLink RX11 130 yX11_papers, Cond.static yX11_papers, Cond.code yX11_papers cX11_papers 16 (some .boolean), Cond.constant RX11 92 (1065353216), Cond.constant RX11 93 (1056964608), Cond.methodLink RX11 134 yX11_rounds, Cond.static yX11_rounds, Cond.code yX11_rounds cX11_rounds 12 (some .boolean), Cond.methodLink RX11 137 yX11_lightest, Cond.static yX11_lightest, Cond.code yX11_lightest cX11_lightest 13 (some .boolean)]
def wsL_law : List Cond := (wsL_law_r1 ++ (wsL_law_r2 ++ (wsL_law_r3 ++ (wsL_law_r4 ++ (wsL_law_r5 ++ (wsL_law_r6 ++ (wsL_law_r7 ++ (wsL_law_r8 ++ (wsL_law_r9 ++ (wsL_law_r10 ++ (wsL_law_r11 ++ (wsL_law_r12 ++ (wsL_law_r13 ++ (wsL_law_r14 ++ (wsL_law_r15 ++ (wsL_law_r16 ++ (wsL_law_r17 ++ (wsL_law_r18 ++ (wsL_law_r19 ++ (wsL_law_r20 ++ (wsL_law_r21 ++ (wsL_law_r22 ++ (wsL_law_r23 ++ (wsL_law_r24 ++ (wsL_law_r25 ++ (wsL_law_r26 ++ wsL_law_r27)))))))))))))))))))))))))) ++ wsX90 ++ wsX60 ++ wsX10 ++ wsX80 ++ wsX50 ++ wsX70 ++ wsX40 ++ wsX20 ++ wsX30 ++ wsX00 ++ ([] : List Cond)
theorem inlX0 : ∀ w ∈ wsX00, w ∈ wsL_law := fun _ h => List.mem_append_left _ (List.mem_append_right _ h)
theorem inlX1 : ∀ w ∈ wsX10, w ∈ wsL_law := fun _ h => List.mem_append_left _ (List.mem_append_left _ (List.mem_append_left _ (List.mem_append_left _ (List.mem_append_left _ (List.mem_append_left _ (List.mem_append_left _ (List.mem_append_left _ (List.mem_append_right _ h))))))))
theorem inlX2 : ∀ w ∈ wsX20, w ∈ wsL_law := fun _ h => List.mem_append_left _ (List.mem_append_left _ (List.mem_append_left _ (List.mem_append_right _ h)))
theorem inlX3 : ∀ w ∈ wsX30, w ∈ wsL_law := fun _ h => List.mem_append_left _ (List.mem_append_left _ (List.mem_append_right _ h))
theorem inlX4 : ∀ w ∈ wsX40, w ∈ wsL_law := fun _ h => List.mem_append_left _ (List.mem_append_left _ (List.mem_append_left _ (List.mem_append_left _ (List.mem_append_right _ h))))
theorem inlX5 : ∀ w ∈ wsX50, w ∈ wsL_law := fun _ h => List.mem_append_left _ (List.mem_append_left _ (List.mem_append_left _ (List.mem_append_left _ (List.mem_append_left _ (List.mem_append_left _ (List.mem_append_right _ h))))))
theorem inlX6 : ∀ w ∈ wsX60, w ∈ wsL_law := fun _ h => List.mem_append_left _ (List.mem_append_left _ (List.mem_append_left _ (List.mem_append_left _ (List.mem_append_left _ (List.mem_append_left _ (List.mem_append_left _ (List.mem_append_left _ (List.mem_append_left _ (List.mem_append_right _ h)))))))))
theorem inlX7 : ∀ w ∈ wsX70, w ∈ wsL_law := fun _ h => List.mem_append_left _ (List.mem_append_left _ (List.mem_append_left _ (List.mem_append_left _ (List.mem_append_left _ (List.mem_append_right _ h)))))
theorem inlX8 : ∀ w ∈ wsX80, w ∈ wsL_law := fun _ h => List.mem_append_left _ (List.mem_append_left _ (List.mem_append_left _ (List.mem_append_left _ (List.mem_append_left _ (List.mem_append_left _ (List.mem_append_left _ (List.mem_append_right _ h)))))))
theorem inlX9 : ∀ w ∈ wsX90, w ∈ wsL_law := fun _ h => List.mem_append_left _ (List.mem_append_left _ (List.mem_append_left _ (List.mem_append_left _ (List.mem_append_left _ (List.mem_append_left _ (List.mem_append_left _ (List.mem_append_left _ (List.mem_append_left _ (List.mem_append_left _ (List.mem_append_right _ h))))))))))
abbrev vwCl : List vw_C := [(RX0, TX0, 8), (RX1, TX1, 3), (RX2, TX2, 15), (RX3, TX3, 4), (RX4, TX4, 9), (RX5, TX5, 5), (RX6, TX6, 8), (RX7, TX7, 5), (RX8, TX8, 6), (RX9, TX9, 5)]
theorem wsL_c1 : ∀ w ∈ wsL_law_r1, w ∈ wsL_law := fun _ h => List.mem_append_left _ (List.mem_append_left _ (List.mem_append_left _ (List.mem_append_left _ (List.mem_append_left _ (List.mem_append_left _ (List.mem_append_left _ (List.mem_append_left _ (List.mem_append_left _ (List.mem_append_left _ (List.mem_append_left _ (List.mem_append_left _ h)))))))))))
theorem wsL_c2 : ∀ w ∈ wsL_law_r2, w ∈ wsL_law := fun _ h => List.mem_append_left _ (List.mem_append_left _ (List.mem_append_left _ (List.mem_append_left _ (List.mem_append_left _ (List.mem_append_left _ (List.mem_append_left _ (List.mem_append_left _ (List.mem_append_left _ (List.mem_append_left _ (List.mem_append_left _ (List.mem_append_right _ (List.mem_append_left _ h))))))))))))
theorem wsL_c3 : ∀ w ∈ wsL_law_r3, w ∈ wsL_law := fun _ h => List.mem_append_left _ (List.mem_append_left _ (List.mem_append_left _ (List.mem_append_left _ (List.mem_append_left _ (List.mem_append_left _ (List.mem_append_left _ (List.mem_append_left _ (List.mem_append_left _ (List.mem_append_left _ (List.mem_append_left _ (List.mem_append_right _ (List.mem_append_right _ (List.mem_append_left _ h)))))))))))))
theorem wsL_c4 : ∀ w ∈ wsL_law_r4, w ∈ wsL_law := fun _ h => List.mem_append_left _ (List.mem_append_left _ (List.mem_append_left _ (List.mem_append_left _ (List.mem_append_left _ (List.mem_append_left _ (List.mem_append_left _ (List.mem_append_left _ (List.mem_append_left _ (List.mem_append_left _ (List.mem_append_left _ (List.mem_append_right _ (List.mem_append_right _ (List.mem_append_right _ (List.mem_append_left _ h))))))))))))))
theorem wsL_c5 : ∀ w ∈ wsL_law_r5, w ∈ wsL_law := fun _ h => List.mem_append_left _ (List.mem_append_left _ (List.mem_append_left _ (List.mem_append_left _ (List.mem_append_left _ (List.mem_append_left _ (List.mem_append_left _ (List.mem_append_left _ (List.mem_append_left _ (List.mem_append_left _ (List.mem_append_left _ (List.mem_append_right _ (List.mem_append_right _ (List.mem_append_right _ (List.mem_append_right _ (List.mem_append_left _ h)))))))))))))))
theorem wsL_c6 : ∀ w ∈ wsL_law_r6, w ∈ wsL_law := fun _ h => List.mem_append_left _ (List.mem_append_left _ (List.mem_append_left _ (List.mem_append_left _ (List.mem_append_left _ (List.mem_append_left _ (List.mem_append_left _ (List.mem_append_left _ (List.mem_append_left _ (List.mem_append_left _ (List.mem_append_left _ (List.mem_append_right _ (List.mem_append_right _ (List.mem_append_right _ (List.mem_append_right _ (List.mem_append_right _ (List.mem_append_left _ h))))))))))))))))
theorem wsL_c7 : ∀ w ∈ wsL_law_r7, w ∈ wsL_law := fun _ h => List.mem_append_left _ (List.mem_append_left _ (List.mem_append_left _ (List.mem_append_left _ (List.mem_append_left _ (List.mem_append_left _ (List.mem_append_left _ (List.mem_append_left _ (List.mem_append_left _ (List.mem_append_left _ (List.mem_append_left _ (List.mem_append_right _ (List.mem_append_right _ (List.mem_append_right _ (List.mem_append_right _ (List.mem_append_right _ (List.mem_append_right _ (List.mem_append_left _ h)))))))))))))))))
theorem wsL_c8 : ∀ w ∈ wsL_law_r8, w ∈ wsL_law := fun _ h => List.mem_append_left _ (List.mem_append_left _ (List.mem_append_left _ (List.mem_append_left _ (List.mem_append_left _ (List.mem_append_left _ (List.mem_append_left _ (List.mem_append_left _ (List.mem_append_left _ (List.mem_append_left _ (List.mem_append_left _ (List.mem_append_right _ (List.mem_append_right _ (List.mem_append_right _ (List.mem_append_right _ (List.mem_append_right _ (List.mem_append_right _ (List.mem_append_right _ (List.mem_append_left _ h))))))))))))))))))
theorem wsL_c9 : ∀ w ∈ wsL_law_r9, w ∈ wsL_law := fun _ h => List.mem_append_left _ (List.mem_append_left _ (List.mem_append_left _ (List.mem_append_left _ (List.mem_append_left _ (List.mem_append_left _ (List.mem_append_left _ (List.mem_append_left _ (List.mem_append_left _ (List.mem_append_left _ (List.mem_append_left _ (List.mem_append_right _ (List.mem_append_right _ (List.mem_append_right _ (List.mem_append_right _ (List.mem_append_right _ (List.mem_append_right _ (List.mem_append_right _ (List.mem_append_right _ (List.mem_append_left _ h)))))))))))))))))))
theorem wsL_c10 : ∀ w ∈ wsL_law_r10, w ∈ wsL_law := fun _ h => List.mem_append_left _ (List.mem_append_left _ (List.mem_append_left _ (List.mem_append_left _ (List.mem_append_left _ (List.mem_append_left _ (List.mem_append_left _ (List.mem_append_left _ (List.mem_append_left _ (List.mem_append_left _ (List.mem_append_left _ (List.mem_append_right _ (List.mem_append_right _ (List.mem_append_right _ (List.mem_append_right _ (List.mem_append_right _ (List.mem_append_right _ (List.mem_append_right _ (List.mem_append_right _ (List.mem_append_right _ (List.mem_append_left _ h))))))))))))))))))))
theorem wsL_c11 : ∀ w ∈ wsL_law_r11, w ∈ wsL_law := fun _ h => List.mem_append_left _ (List.mem_append_left _ (List.mem_append_left _ (List.mem_append_left _ (List.mem_append_left _ (List.mem_append_left _ (List.mem_append_left _ (List.mem_append_left _ (List.mem_append_left _ (List.mem_append_left _ (List.mem_append_left _ (List.mem_append_right _ (List.mem_append_right _ (List.mem_append_right _ (List.mem_append_right _ (List.mem_append_right _ (List.mem_append_right _ (List.mem_append_right _ (List.mem_append_right _ (List.mem_append_right _ (List.mem_append_right _ (List.mem_append_left _ h)))))))))))))))))))))
theorem wsL_c12 : ∀ w ∈ wsL_law_r12, w ∈ wsL_law := fun _ h => List.mem_append_left _ (List.mem_append_left _ (List.mem_append_left _ (List.mem_append_left _ (List.mem_append_left _ (List.mem_append_left _ (List.mem_append_left _ (List.mem_append_left _ (List.mem_append_left _ (List.mem_append_left _ (List.mem_append_left _ (List.mem_append_right _ (List.mem_append_right _ (List.mem_append_right _ (List.mem_append_right _ (List.mem_append_right _ (List.mem_append_right _ (List.mem_append_right _ (List.mem_append_right _ (List.mem_append_right _ (List.mem_append_right _ (List.mem_append_right _ (List.mem_append_left _ h))))))))))))))))))))))
theorem wsL_c13 : ∀ w ∈ wsL_law_r13, w ∈ wsL_law := fun _ h => List.mem_append_left _ (List.mem_append_left _ (List.mem_append_left _ (List.mem_append_left _ (List.mem_append_left _ (List.mem_append_left _ (List.mem_append_left _ (List.mem_append_left _ (List.mem_append_left _ (List.mem_append_left _ (List.mem_append_left _ (List.mem_append_right _ (List.mem_append_right _ (List.mem_append_right _ (List.mem_append_right _ (List.mem_append_right _ (List.mem_append_right _ (List.mem_append_right _ (List.mem_append_right _ (List.mem_append_right _ (List.mem_append_right _ (List.mem_append_right _ (List.mem_append_right _ (List.mem_append_left _ h)))))))))))))))))))))))
theorem wsL_c14 : ∀ w ∈ wsL_law_r14, w ∈ wsL_law := fun _ h => List.mem_append_left _ (List.mem_append_left _ (List.mem_append_left _ (List.mem_append_left _ (List.mem_append_left _ (List.mem_append_left _ (List.mem_append_left _ (List.mem_append_left _ (List.mem_append_left _ (List.mem_append_left _ (List.mem_append_left _ (List.mem_append_right _ (List.mem_append_right _ (List.mem_append_right _ (List.mem_append_right _ (List.mem_append_right _ (List.mem_append_right _ (List.mem_append_right _ (List.mem_append_right _ (List.mem_append_right _ (List.mem_append_right _ (List.mem_append_right _ (List.mem_append_right _ (List.mem_append_right _ (List.mem_append_left _ h))))))))))))))))))))))))
theorem wsL_c15 : ∀ w ∈ wsL_law_r15, w ∈ wsL_law := fun _ h => List.mem_append_left _ (List.mem_append_left _ (List.mem_append_left _ (List.mem_append_left _ (List.mem_append_left _ (List.mem_append_left _ (List.mem_append_left _ (List.mem_append_left _ (List.mem_append_left _ (List.mem_append_left _ (List.mem_append_left _ (List.mem_append_right _ (List.mem_append_right _ (List.mem_append_right _ (List.mem_append_right _ (List.mem_append_right _ (List.mem_append_right _ (List.mem_append_right _ (List.mem_append_right _ (List.mem_append_right _ (List.mem_append_right _ (List.mem_append_right _ (List.mem_append_right _ (List.mem_append_right _ (List.mem_append_right _ (List.mem_append_left _ h)))))))))))))))))))))))))
theorem wsL_c16 : ∀ w ∈ wsL_law_r16, w ∈ wsL_law := fun _ h => List.mem_append_left _ (List.mem_append_left _ (List.mem_append_left _ (List.mem_append_left _ (List.mem_append_left _ (List.mem_append_left _ (List.mem_append_left _ (List.mem_append_left _ (List.mem_append_left _ (List.mem_append_left _ (List.mem_append_left _ (List.mem_append_right _ (List.mem_append_right _ (List.mem_append_right _ (List.mem_append_right _ (List.mem_append_right _ (List.mem_append_right _ (List.mem_append_right _ (List.mem_append_right _ (List.mem_append_right _ (List.mem_append_right _ (List.mem_append_right _ (List.mem_append_right _ (List.mem_append_right _ (List.mem_append_right _ (List.mem_append_right _ (List.mem_append_left _ h))))))))))))))))))))))))))
theorem wsL_c17 : ∀ w ∈ wsL_law_r17, w ∈ wsL_law := fun _ h => List.mem_append_left _ (List.mem_append_left _ (List.mem_append_left _ (List.mem_append_left _ (List.mem_append_left _ (List.mem_append_left _ (List.mem_append_left _ (List.mem_append_left _ (List.mem_append_left _ (List.mem_append_left _ (List.mem_append_left _ (List.mem_append_right _ (List.mem_append_right _ (List.mem_append_right _ (List.mem_append_right _ (List.mem_append_right _ (List.mem_append_right _ (List.mem_append_right _ (List.mem_append_right _ (List.mem_append_right _ (List.mem_append_right _ (List.mem_append_right _ (List.mem_append_right _ (List.mem_append_right _ (List.mem_append_right _ (List.mem_append_right _ (List.mem_append_right _ (List.mem_append_left _ h)))))))))))))))))))))))))))
theorem wsL_c18 : ∀ w ∈ wsL_law_r18, w ∈ wsL_law := fun _ h => List.mem_append_left _ (List.mem_append_left _ (List.mem_append_left _ (List.mem_append_left _ (List.mem_append_left _ (List.mem_append_left _ (List.mem_append_left _ (List.mem_append_left _ (List.mem_append_left _ (List.mem_append_left _ (List.mem_append_left _ (List.mem_append_right _ (List.mem_append_right _ (List.mem_append_right _ (List.mem_append_right _ (List.mem_append_right _ (List.mem_append_right _ (List.mem_append_right _ (List.mem_append_right _ (List.mem_append_right _ (List.mem_append_right _ (List.mem_append_right _ (List.mem_append_right _ (List.mem_append_right _ (List.mem_append_right _ (List.mem_append_right _ (List.mem_append_right _ (List.mem_append_right _ (List.mem_append_left _ h))))))))))))))))))))))))))))
theorem wsL_c19 : ∀ w ∈ wsL_law_r19, w ∈ wsL_law := fun _ h => List.mem_append_left _ (List.mem_append_left _ (List.mem_append_left _ (List.mem_append_left _ (List.mem_append_left _ (List.mem_append_left _ (List.mem_append_left _ (List.mem_append_left _ (List.mem_append_left _ (List.mem_append_left _ (List.mem_append_left _ (List.mem_append_right _ (List.mem_append_right _ (List.mem_append_right _ (List.mem_append_right _ (List.mem_append_right _ (List.mem_append_right _ (List.mem_append_right _ (List.mem_append_right _ (List.mem_append_right _ (List.mem_append_right _ (List.mem_append_right _ (List.mem_append_right _ (List.mem_append_right _ (List.mem_append_right _ (List.mem_append_right _ (List.mem_append_right _ (List.mem_append_right _ (List.mem_append_right _ (List.mem_append_left _ h)))))))))))))))))))))))))))))
theorem wsL_c20 : ∀ w ∈ wsL_law_r20, w ∈ wsL_law := fun _ h => List.mem_append_left _ (List.mem_append_left _ (List.mem_append_left _ (List.mem_append_left _ (List.mem_append_left _ (List.mem_append_left _ (List.mem_append_left _ (List.mem_append_left _ (List.mem_append_left _ (List.mem_append_left _ (List.mem_append_left _ (List.mem_append_right _ (List.mem_append_right _ (List.mem_append_right _ (List.mem_append_right _ (List.mem_append_right _ (List.mem_append_right _ (List.mem_append_right _ (List.mem_append_right _ (List.mem_append_right _ (List.mem_append_right _ (List.mem_append_right _ (List.mem_append_right _ (List.mem_append_right _ (List.mem_append_right _ (List.mem_append_right _ (List.mem_append_right _ (List.mem_append_right _ (List.mem_append_right _ (List.mem_append_right _ (List.mem_append_left _ h))))))))))))))))))))))))))))))
theorem wsL_c21 : ∀ w ∈ wsL_law_r21, w ∈ wsL_law := fun _ h => List.mem_append_left _ (List.mem_append_left _ (List.mem_append_left _ (List.mem_append_left _ (List.mem_append_left _ (List.mem_append_left _ (List.mem_append_left _ (List.mem_append_left _ (List.mem_append_left _ (List.mem_append_left _ (List.mem_append_left _ (List.mem_append_right _ (List.mem_append_right _ (List.mem_append_right _ (List.mem_append_right _ (List.mem_append_right _ (List.mem_append_right _ (List.mem_append_right _ (List.mem_append_right _ (List.mem_append_right _ (List.mem_append_right _ (List.mem_append_right _ (List.mem_append_right _ (List.mem_append_right _ (List.mem_append_right _ (List.mem_append_right _ (List.mem_append_right _ (List.mem_append_right _ (List.mem_append_right _ (List.mem_append_right _ (List.mem_append_right _ (List.mem_append_left _ h)))))))))))))))))))))))))))))))
theorem wsL_c22 : ∀ w ∈ wsL_law_r22, w ∈ wsL_law := fun _ h => List.mem_append_left _ (List.mem_append_left _ (List.mem_append_left _ (List.mem_append_left _ (List.mem_append_left _ (List.mem_append_left _ (List.mem_append_left _ (List.mem_append_left _ (List.mem_append_left _ (List.mem_append_left _ (List.mem_append_left _ (List.mem_append_right _ (List.mem_append_right _ (List.mem_append_right _ (List.mem_append_right _ (List.mem_append_right _ (List.mem_append_right _ (List.mem_append_right _ (List.mem_append_right _ (List.mem_append_right _ (List.mem_append_right _ (List.mem_append_right _ (List.mem_append_right _ (List.mem_append_right _ (List.mem_append_right _ (List.mem_append_right _ (List.mem_append_right _ (List.mem_append_right _ (List.mem_append_right _ (List.mem_append_right _ (List.mem_append_right _ (List.mem_append_right _ (List.mem_append_left _ h))))))))))))))))))))))))))))))))
theorem wsL_c23 : ∀ w ∈ wsL_law_r23, w ∈ wsL_law := fun _ h => List.mem_append_left _ (List.mem_append_left _ (List.mem_append_left _ (List.mem_append_left _ (List.mem_append_left _ (List.mem_append_left _ (List.mem_append_left _ (List.mem_append_left _ (List.mem_append_left _ (List.mem_append_left _ (List.mem_append_left _ (List.mem_append_right _ (List.mem_append_right _ (List.mem_append_right _ (List.mem_append_right _ (List.mem_append_right _ (List.mem_append_right _ (List.mem_append_right _ (List.mem_append_right _ (List.mem_append_right _ (List.mem_append_right _ (List.mem_append_right _ (List.mem_append_right _ (List.mem_append_right _ (List.mem_append_right _ (List.mem_append_right _ (List.mem_append_right _ (List.mem_append_right _ (List.mem_append_right _ (List.mem_append_right _ (List.mem_append_right _ (List.mem_append_right _ (List.mem_append_right _ (List.mem_append_left _ h)))))))))))))))))))))))))))))))))
theorem wsL_c24 : ∀ w ∈ wsL_law_r24, w ∈ wsL_law := fun _ h => List.mem_append_left _ (List.mem_append_left _ (List.mem_append_left _ (List.mem_append_left _ (List.mem_append_left _ (List.mem_append_left _ (List.mem_append_left _ (List.mem_append_left _ (List.mem_append_left _ (List.mem_append_left _ (List.mem_append_left _ (List.mem_append_right _ (List.mem_append_right _ (List.mem_append_right _ (List.mem_append_right _ (List.mem_append_right _ (List.mem_append_right _ (List.mem_append_right _ (List.mem_append_right _ (List.mem_append_right _ (List.mem_append_right _ (List.mem_append_right _ (List.mem_append_right _ (List.mem_append_right _ (List.mem_append_right _ (List.mem_append_right _ (List.mem_append_right _ (List.mem_append_right _ (List.mem_append_right _ (List.mem_append_right _ (List.mem_append_right _ (List.mem_append_right _ (List.mem_append_right _ (List.mem_append_right _ (List.mem_append_left _ h))))))))))))))))))))))))))))))))))
theorem wsL_c25 : ∀ w ∈ wsL_law_r25, w ∈ wsL_law := fun _ h => List.mem_append_left _ (List.mem_append_left _ (List.mem_append_left _ (List.mem_append_left _ (List.mem_append_left _ (List.mem_append_left _ (List.mem_append_left _ (List.mem_append_left _ (List.mem_append_left _ (List.mem_append_left _ (List.mem_append_left _ (List.mem_append_right _ (List.mem_append_right _ (List.mem_append_right _ (List.mem_append_right _ (List.mem_append_right _ (List.mem_append_right _ (List.mem_append_right _ (List.mem_append_right _ (List.mem_append_right _ (List.mem_append_right _ (List.mem_append_right _ (List.mem_append_right _ (List.mem_append_right _ (List.mem_append_right _ (List.mem_append_right _ (List.mem_append_right _ (List.mem_append_right _ (List.mem_append_right _ (List.mem_append_right _ (List.mem_append_right _ (List.mem_append_right _ (List.mem_append_right _ (List.mem_append_right _ (List.mem_append_right _ (List.mem_append_left _ h)))))))))))))))))))))))))))))))))))
theorem wsL_c26 : ∀ w ∈ wsL_law_r26, w ∈ wsL_law := fun _ h => List.mem_append_left _ (List.mem_append_left _ (List.mem_append_left _ (List.mem_append_left _ (List.mem_append_left _ (List.mem_append_left _ (List.mem_append_left _ (List.mem_append_left _ (List.mem_append_left _ (List.mem_append_left _ (List.mem_append_left _ (List.mem_append_right _ (List.mem_append_right _ (List.mem_append_right _ (List.mem_append_right _ (List.mem_append_right _ (List.mem_append_right _ (List.mem_append_right _ (List.mem_append_right _ (List.mem_append_right _ (List.mem_append_right _ (List.mem_append_right _ (List.mem_append_right _ (List.mem_append_right _ (List.mem_append_right _ (List.mem_append_right _ (List.mem_append_right _ (List.mem_append_right _ (List.mem_append_right _ (List.mem_append_right _ (List.mem_append_right _ (List.mem_append_right _ (List.mem_append_right _ (List.mem_append_right _ (List.mem_append_right _ (List.mem_append_right _ (List.mem_append_left _ h))))))))))))))))))))))))))))))))))))
theorem wsL_c27 : ∀ w ∈ wsL_law_r27, w ∈ wsL_law := fun _ h => List.mem_append_left _ (List.mem_append_left _ (List.mem_append_left _ (List.mem_append_left _ (List.mem_append_left _ (List.mem_append_left _ (List.mem_append_left _ (List.mem_append_left _ (List.mem_append_left _ (List.mem_append_left _ (List.mem_append_left _ (List.mem_append_right _ (List.mem_append_right _ (List.mem_append_right _ (List.mem_append_right _ (List.mem_append_right _ (List.mem_append_right _ (List.mem_append_right _ (List.mem_append_right _ (List.mem_append_right _ (List.mem_append_right _ (List.mem_append_right _ (List.mem_append_right _ (List.mem_append_right _ (List.mem_append_right _ (List.mem_append_right _ (List.mem_append_right _ (List.mem_append_right _ (List.mem_append_right _ (List.mem_append_right _ (List.mem_append_right _ (List.mem_append_right _ (List.mem_append_right _ (List.mem_append_right _ (List.mem_append_right _ (List.mem_append_right _ (List.mem_append_right _ h))))))))))))))))))))))))))))))))))))
set_option maxRecDepth 20000 in
theorem wsL_good : wsL_law.all goodWord = true := by decide +kernel
