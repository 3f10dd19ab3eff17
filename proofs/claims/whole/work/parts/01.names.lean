-- ===== PART A: goes FIRST, ahead of the names: the tables' words, and 'selects' of the private methods out of them =====
/-- a private method of a class that the tables say can be made, by its rows of tables_1 -/
def lw_okq (q : MethodName × Nat) : Prop := (q.1.cls ≠ "java/lang/invoke/MethodHandle" ∧ q.1.cls ≠ "java/lang/invoke/VarHandle") ∧ Cond.instantiable q.1.cls q.2 ∈ tables_1 ∧ Cond.privateMethod q.1 ∈ tables_1 ∧ Cond.instanceMethod q.1 ∈ tables_1
theorem lw_p0 : lw_okq (⟨"BallotFruit", "forget", "()V"⟩, 13) := ⟨⟨by decide +kernel, by decide +kernel⟩, List.mem_of_getElem? (i := 21) (by decide +kernel), List.mem_of_getElem? (i := 450) (by decide +kernel), List.mem_of_getElem? (i := 451) (by decide +kernel)⟩
theorem lw_p1 : lw_okq (⟨"BallotFruit", "keep", "()V"⟩, 13) := ⟨⟨by decide +kernel, by decide +kernel⟩, List.mem_of_getElem? (i := 21) (by decide +kernel), List.mem_of_getElem? (i := 511) (by decide +kernel), List.mem_of_getElem? (i := 512) (by decide +kernel)⟩
theorem lw_p2 : lw_okq (⟨"BallotFruit$Season", "begin", "()V"⟩, 5) := ⟨⟨by decide +kernel, by decide +kernel⟩, List.mem_of_getElem? (i := 378) (by decide +kernel), List.mem_of_getElem? (i := 562) (by decide +kernel), List.mem_of_getElem? (i := 563) (by decide +kernel)⟩
theorem lw_p3 : lw_okq (⟨"BallotFruit$Season", "follow", "(LBallotFruit$Whole;LBallotFruit$Commune;)V"⟩, 5) := ⟨⟨by decide +kernel, by decide +kernel⟩, List.mem_of_getElem? (i := 378) (by decide +kernel), List.mem_of_getElem? (i := 566) (by decide +kernel), List.mem_of_getElem? (i := 567) (by decide +kernel)⟩
theorem lw_p4 : lw_okq (⟨"BallotFruit$Season", "act", "(LBallotFruit$Whole;LBallotFruit$Commune;I)V"⟩, 5) := ⟨⟨by decide +kernel, by decide +kernel⟩, List.mem_of_getElem? (i := 378) (by decide +kernel), List.mem_of_getElem? (i := 570) (by decide +kernel), List.mem_of_getElem? (i := 571) (by decide +kernel)⟩
theorem lw_p5 : lw_okq (⟨"BallotFruit$Season", "note", "(LBallotFruit$Whole;LBallotFruit$Commune;III)V"⟩, 5) := ⟨⟨by decide +kernel, by decide +kernel⟩, List.mem_of_getElem? (i := 378) (by decide +kernel), List.mem_of_getElem? (i := 575) (by decide +kernel), List.mem_of_getElem? (i := 576) (by decide +kernel)⟩
theorem lw_p6 : lw_okq (⟨"BallotFruit$Law", "ask", "(LBallotFruit$Commune;I)V"⟩, 9) := ⟨⟨by decide +kernel, by decide +kernel⟩, List.mem_of_getElem? (i := 146) (by decide +kernel), List.mem_of_getElem? (i := 588) (by decide +kernel), List.mem_of_getElem? (i := 589) (by decide +kernel)⟩
theorem lw_p7 : lw_okq (⟨"BallotFruit$Law", "askTree", "(LBallotFruit$Commune;I)V"⟩, 9) := ⟨⟨by decide +kernel, by decide +kernel⟩, List.mem_of_getElem? (i := 146) (by decide +kernel), List.mem_of_getElem? (i := 593) (by decide +kernel), List.mem_of_getElem? (i := 594) (by decide +kernel)⟩
theorem lw_p8 : lw_okq (⟨"BallotFruit$Law", "tell", "(II)I"⟩, 9) := ⟨⟨by decide +kernel, by decide +kernel⟩, List.mem_of_getElem? (i := 146) (by decide +kernel), List.mem_of_getElem? (i := 597) (by decide +kernel), List.mem_of_getElem? (i := 598) (by decide +kernel)⟩
theorem lw_p9 : lw_okq (⟨"BallotFruit$Law", "value", "(II)I"⟩, 9) := ⟨⟨by decide +kernel, by decide +kernel⟩, List.mem_of_getElem? (i := 146) (by decide +kernel), List.mem_of_getElem? (i := 601) (by decide +kernel), List.mem_of_getElem? (i := 602) (by decide +kernel)⟩
theorem lw_p10 : lw_okq (⟨"BallotFruit$Season", "eat", "(LBallotFruit$Whole;LBallotFruit$Commune;I)V"⟩, 5) := ⟨⟨by decide +kernel, by decide +kernel⟩, List.mem_of_getElem? (i := 378) (by decide +kernel), List.mem_of_getElem? (i := 612) (by decide +kernel), List.mem_of_getElem? (i := 613) (by decide +kernel)⟩
theorem lw_p11 : lw_okq (⟨"BallotFruit$Season", "pick", "(LBallotFruit$Whole;LBallotFruit$Commune;III)I"⟩, 5) := ⟨⟨by decide +kernel, by decide +kernel⟩, List.mem_of_getElem? (i := 378) (by decide +kernel), List.mem_of_getElem? (i := 624) (by decide +kernel), List.mem_of_getElem? (i := 625) (by decide +kernel)⟩
theorem lw_p12 : lw_okq (⟨"BallotFruit$Season", "count", "(LBallotFruit$Commune;II)V"⟩, 5) := ⟨⟨by decide +kernel, by decide +kernel⟩, List.mem_of_getElem? (i := 378) (by decide +kernel), List.mem_of_getElem? (i := 641) (by decide +kernel), List.mem_of_getElem? (i := 642) (by decide +kernel)⟩
theorem lw_p13 : lw_okq (⟨"BallotFruit$Season", "spoon", "(LBallotFruit$Whole;LBallotFruit$Commune;II)I"⟩, 5) := ⟨⟨by decide +kernel, by decide +kernel⟩, List.mem_of_getElem? (i := 378) (by decide +kernel), List.mem_of_getElem? (i := 653) (by decide +kernel), List.mem_of_getElem? (i := 654) (by decide +kernel)⟩
theorem lw_p14 : lw_okq (⟨"BallotFruit$Season", "sting", "(LBallotFruit$Whole;LBallotFruit$Commune;)V"⟩, 5) := ⟨⟨by decide +kernel, by decide +kernel⟩, List.mem_of_getElem? (i := 378) (by decide +kernel), List.mem_of_getElem? (i := 661) (by decide +kernel), List.mem_of_getElem? (i := 662) (by decide +kernel)⟩
theorem lw_p15 : lw_okq (⟨"BallotFruit$Season", "vote", "(LBallotFruit$Whole;LBallotFruit$Commune;)V"⟩, 5) := ⟨⟨by decide +kernel, by decide +kernel⟩, List.mem_of_getElem? (i := 378) (by decide +kernel), List.mem_of_getElem? (i := 665) (by decide +kernel), List.mem_of_getElem? (i := 666) (by decide +kernel)⟩
def lw_privs_1 : List (MethodName × Nat) := [(⟨"BallotFruit", "forget", "()V"⟩, 13), (⟨"BallotFruit", "keep", "()V"⟩, 13), (⟨"BallotFruit$Season", "begin", "()V"⟩, 5), (⟨"BallotFruit$Season", "follow", "(LBallotFruit$Whole;LBallotFruit$Commune;)V"⟩, 5), (⟨"BallotFruit$Season", "act", "(LBallotFruit$Whole;LBallotFruit$Commune;I)V"⟩, 5), (⟨"BallotFruit$Season", "note", "(LBallotFruit$Whole;LBallotFruit$Commune;III)V"⟩, 5), (⟨"BallotFruit$Law", "ask", "(LBallotFruit$Commune;I)V"⟩, 9), (⟨"BallotFruit$Law", "askTree", "(LBallotFruit$Commune;I)V"⟩, 9), (⟨"BallotFruit$Law", "tell", "(II)I"⟩, 9), (⟨"BallotFruit$Law", "value", "(II)I"⟩, 9), (⟨"BallotFruit$Season", "eat", "(LBallotFruit$Whole;LBallotFruit$Commune;I)V"⟩, 5), (⟨"BallotFruit$Season", "pick", "(LBallotFruit$Whole;LBallotFruit$Commune;III)I"⟩, 5), (⟨"BallotFruit$Season", "count", "(LBallotFruit$Commune;II)V"⟩, 5), (⟨"BallotFruit$Season", "spoon", "(LBallotFruit$Whole;LBallotFruit$Commune;II)I"⟩, 5), (⟨"BallotFruit$Season", "sting", "(LBallotFruit$Whole;LBallotFruit$Commune;)V"⟩, 5), (⟨"BallotFruit$Season", "vote", "(LBallotFruit$Whole;LBallotFruit$Commune;)V"⟩, 5)]
theorem lw_r1 : ∀ q ∈ lw_privs_1, lw_okq q := List.forall_mem_cons.mpr ⟨lw_p0, List.forall_mem_cons.mpr ⟨lw_p1, List.forall_mem_cons.mpr ⟨lw_p2, List.forall_mem_cons.mpr ⟨lw_p3, List.forall_mem_cons.mpr ⟨lw_p4, List.forall_mem_cons.mpr ⟨lw_p5, List.forall_mem_cons.mpr ⟨lw_p6, List.forall_mem_cons.mpr ⟨lw_p7, List.forall_mem_cons.mpr ⟨lw_p8, List.forall_mem_cons.mpr ⟨lw_p9, List.forall_mem_cons.mpr ⟨lw_p10, List.forall_mem_cons.mpr ⟨lw_p11, List.forall_mem_cons.mpr ⟨lw_p12, List.forall_mem_cons.mpr ⟨lw_p13, List.forall_mem_cons.mpr ⟨lw_p14, List.forall_mem_cons.mpr ⟨lw_p15, fun _ h => absurd h List.not_mem_nil⟩⟩⟩⟩⟩⟩⟩⟩⟩⟩⟩⟩⟩⟩⟩⟩
theorem lw_p16 : lw_okq (⟨"BallotFruit$Commune", "greatestRemainder", "(II)I"⟩, 20) := ⟨⟨by decide +kernel, by decide +kernel⟩, List.mem_of_getElem? (i := 35) (by decide +kernel), List.mem_of_getElem? (i := 673) (by decide +kernel), List.mem_of_getElem? (i := 674) (by decide +kernel)⟩
theorem lw_p17 : lw_okq (⟨"BallotFruit$Tape", "word", "(Ljava/lang/String;II)I"⟩, 6) := ⟨⟨by decide +kernel, by decide +kernel⟩, List.mem_of_getElem? (i := 310) (by decide +kernel), List.mem_of_getElem? (i := 717) (by decide +kernel), List.mem_of_getElem? (i := 718) (by decide +kernel)⟩
theorem lw_p18 : lw_okq (⟨"BallotFruit$Tape", "addToken", "(III)V"⟩, 6) := ⟨⟨by decide +kernel, by decide +kernel⟩, List.mem_of_getElem? (i := 310) (by decide +kernel), List.mem_of_getElem? (i := 769) (by decide +kernel), List.mem_of_getElem? (i := 770) (by decide +kernel)⟩
theorem lw_p19 : lw_okq (⟨"BallotFruit$Tape", "number", "(II)I"⟩, 6) := ⟨⟨by decide +kernel, by decide +kernel⟩, List.mem_of_getElem? (i := 310) (by decide +kernel), List.mem_of_getElem? (i := 776) (by decide +kernel), List.mem_of_getElem? (i := 777) (by decide +kernel)⟩
theorem lw_p20 : lw_okq (⟨"BallotFruit$Reader", "kind", "()I"⟩, 9) := ⟨⟨by decide +kernel, by decide +kernel⟩, List.mem_of_getElem? (i := 304) (by decide +kernel), List.mem_of_getElem? (i := 787) (by decide +kernel), List.mem_of_getElem? (i := 788) (by decide +kernel)⟩
theorem lw_p21 : lw_okq (⟨"BallotFruit$Reader", "lawLine", "(I)Z"⟩, 9) := ⟨⟨by decide +kernel, by decide +kernel⟩, List.mem_of_getElem? (i := 304) (by decide +kernel), List.mem_of_getElem? (i := 791) (by decide +kernel), List.mem_of_getElem? (i := 792) (by decide +kernel)⟩
theorem lw_p22 : lw_okq (⟨"BallotFruit$Reader", "fail", "(I)Z"⟩, 9) := ⟨⟨by decide +kernel, by decide +kernel⟩, List.mem_of_getElem? (i := 304) (by decide +kernel), List.mem_of_getElem? (i := 796) (by decide +kernel), List.mem_of_getElem? (i := 797) (by decide +kernel)⟩
theorem lw_p23 : lw_okq (⟨"BallotFruit$Reader", "sum", "()Z"⟩, 9) := ⟨⟨by decide +kernel, by decide +kernel⟩, List.mem_of_getElem? (i := 304) (by decide +kernel), List.mem_of_getElem? (i := 800) (by decide +kernel), List.mem_of_getElem? (i := 801) (by decide +kernel)⟩
theorem lw_p24 : lw_okq (⟨"BallotFruit$Reader", "operand", "()Z"⟩, 9) := ⟨⟨by decide +kernel, by decide +kernel⟩, List.mem_of_getElem? (i := 304) (by decide +kernel), List.mem_of_getElem? (i := 804) (by decide +kernel), List.mem_of_getElem? (i := 805) (by decide +kernel)⟩
theorem lw_p25 : lw_okq (⟨"BallotFruit$Reader", "number", "(II)I"⟩, 9) := ⟨⟨by decide +kernel, by decide +kernel⟩, List.mem_of_getElem? (i := 304) (by decide +kernel), List.mem_of_getElem? (i := 812) (by decide +kernel), List.mem_of_getElem? (i := 813) (by decide +kernel)⟩
theorem lw_p26 : lw_okq (⟨"BallotFruit$Reader", "condition", "(I)Z"⟩, 9) := ⟨⟨by decide +kernel, by decide +kernel⟩, List.mem_of_getElem? (i := 304) (by decide +kernel), List.mem_of_getElem? (i := 816) (by decide +kernel), List.mem_of_getElem? (i := 817) (by decide +kernel)⟩
theorem lw_p27 : lw_okq (⟨"BallotFruit$Reader", "single", "(I)Z"⟩, 9) := ⟨⟨by decide +kernel, by decide +kernel⟩, List.mem_of_getElem? (i := 304) (by decide +kernel), List.mem_of_getElem? (i := 820) (by decide +kernel), List.mem_of_getElem? (i := 821) (by decide +kernel)⟩
theorem lw_p28 : lw_okq (⟨"BallotFruit$Reader", "takes", "(I)Z"⟩, 9) := ⟨⟨by decide +kernel, by decide +kernel⟩, List.mem_of_getElem? (i := 304) (by decide +kernel), List.mem_of_getElem? (i := 824) (by decide +kernel), List.mem_of_getElem? (i := 825) (by decide +kernel)⟩
theorem lw_p29 : lw_okq (⟨"BallotFruit$Reader", "pathLine", "(I)Z"⟩, 9) := ⟨⟨by decide +kernel, by decide +kernel⟩, List.mem_of_getElem? (i := 304) (by decide +kernel), List.mem_of_getElem? (i := 846) (by decide +kernel), List.mem_of_getElem? (i := 847) (by decide +kernel)⟩
theorem lw_p30 : lw_okq (⟨"BallotFruit$Reader", "begins", "(II)Z"⟩, 9) := ⟨⟨by decide +kernel, by decide +kernel⟩, List.mem_of_getElem? (i := 304) (by decide +kernel), List.mem_of_getElem? (i := 850) (by decide +kernel), List.mem_of_getElem? (i := 851) (by decide +kernel)⟩
theorem lw_p31 : lw_okq (⟨"BallotFruit$Reader", "planLine", "(I)Z"⟩, 9) := ⟨⟨by decide +kernel, by decide +kernel⟩, List.mem_of_getElem? (i := 304) (by decide +kernel), List.mem_of_getElem? (i := 869) (by decide +kernel), List.mem_of_getElem? (i := 870) (by decide +kernel)⟩
def lw_privs_2 : List (MethodName × Nat) := [(⟨"BallotFruit$Commune", "greatestRemainder", "(II)I"⟩, 20), (⟨"BallotFruit$Tape", "word", "(Ljava/lang/String;II)I"⟩, 6), (⟨"BallotFruit$Tape", "addToken", "(III)V"⟩, 6), (⟨"BallotFruit$Tape", "number", "(II)I"⟩, 6), (⟨"BallotFruit$Reader", "kind", "()I"⟩, 9), (⟨"BallotFruit$Reader", "lawLine", "(I)Z"⟩, 9), (⟨"BallotFruit$Reader", "fail", "(I)Z"⟩, 9), (⟨"BallotFruit$Reader", "sum", "()Z"⟩, 9), (⟨"BallotFruit$Reader", "operand", "()Z"⟩, 9), (⟨"BallotFruit$Reader", "number", "(II)I"⟩, 9), (⟨"BallotFruit$Reader", "condition", "(I)Z"⟩, 9), (⟨"BallotFruit$Reader", "single", "(I)Z"⟩, 9), (⟨"BallotFruit$Reader", "takes", "(I)Z"⟩, 9), (⟨"BallotFruit$Reader", "pathLine", "(I)Z"⟩, 9), (⟨"BallotFruit$Reader", "begins", "(II)Z"⟩, 9), (⟨"BallotFruit$Reader", "planLine", "(I)Z"⟩, 9)]
theorem lw_r2 : ∀ q ∈ lw_privs_2, lw_okq q := List.forall_mem_cons.mpr ⟨lw_p16, List.forall_mem_cons.mpr ⟨lw_p17, List.forall_mem_cons.mpr ⟨lw_p18, List.forall_mem_cons.mpr ⟨lw_p19, List.forall_mem_cons.mpr ⟨lw_p20, List.forall_mem_cons.mpr ⟨lw_p21, List.forall_mem_cons.mpr ⟨lw_p22, List.forall_mem_cons.mpr ⟨lw_p23, List.forall_mem_cons.mpr ⟨lw_p24, List.forall_mem_cons.mpr ⟨lw_p25, List.forall_mem_cons.mpr ⟨lw_p26, List.forall_mem_cons.mpr ⟨lw_p27, List.forall_mem_cons.mpr ⟨lw_p28, List.forall_mem_cons.mpr ⟨lw_p29, List.forall_mem_cons.mpr ⟨lw_p30, List.forall_mem_cons.mpr ⟨lw_p31, fun _ h => absurd h List.not_mem_nil⟩⟩⟩⟩⟩⟩⟩⟩⟩⟩⟩⟩⟩⟩⟩⟩
theorem lw_p32 : lw_okq (⟨"BallotFruit", "weeksToLastSeating", "(I)I"⟩, 13) := ⟨⟨by decide +kernel, by decide +kernel⟩, List.mem_of_getElem? (i := 21) (by decide +kernel), List.mem_of_getElem? (i := 929) (by decide +kernel), List.mem_of_getElem? (i := 930) (by decide +kernel)⟩
theorem lw_p33 : lw_okq (⟨"BallotFruit", "firstPartyBehind", "(III)I"⟩, 13) := ⟨⟨by decide +kernel, by decide +kernel⟩, List.mem_of_getElem? (i := 21) (by decide +kernel), List.mem_of_getElem? (i := 933) (by decide +kernel), List.mem_of_getElem? (i := 934) (by decide +kernel)⟩
theorem lw_p34 : lw_okq (⟨"BallotFruit", "isEachFedAt", "(I)Z"⟩, 13) := ⟨⟨by decide +kernel, by decide +kernel⟩, List.mem_of_getElem? (i := 21) (by decide +kernel), List.mem_of_getElem? (i := 948) (by decide +kernel), List.mem_of_getElem? (i := 949) (by decide +kernel)⟩
theorem lw_p35 : lw_okq (⟨"BallotFruit", "askNext", "(I)I"⟩, 13) := ⟨⟨by decide +kernel, by decide +kernel⟩, List.mem_of_getElem? (i := 21) (by decide +kernel), List.mem_of_getElem? (i := 969) (by decide +kernel), List.mem_of_getElem? (i := 970) (by decide +kernel)⟩
theorem lw_p36 : lw_okq (⟨"BallotFruit", "leaveUpTo", "(II)V"⟩, 13) := ⟨⟨by decide +kernel, by decide +kernel⟩, List.mem_of_getElem? (i := 21) (by decide +kernel), List.mem_of_getElem? (i := 978) (by decide +kernel), List.mem_of_getElem? (i := 979) (by decide +kernel)⟩
theorem lw_p37 : lw_okq (⟨"BallotFruitModel", "isIn", "(III)Z"⟩, 56) := ⟨⟨by decide +kernel, by decide +kernel⟩, List.mem_of_getElem? (i := 1040) (by decide +kernel), List.mem_of_getElem? (i := 1227) (by decide +kernel), List.mem_of_getElem? (i := 1228) (by decide +kernel)⟩
theorem lw_p38 : lw_okq (⟨"BallotFruitModel", "isEater", "(I)Z"⟩, 56) := ⟨⟨by decide +kernel, by decide +kernel⟩, List.mem_of_getElem? (i := 1040) (by decide +kernel), List.mem_of_getElem? (i := 1239) (by decide +kernel), List.mem_of_getElem? (i := 1240) (by decide +kernel)⟩
theorem lw_p39 : lw_okq (⟨"BallotFruitModel", "isParty", "(I)Z"⟩, 56) := ⟨⟨by decide +kernel, by decide +kernel⟩, List.mem_of_getElem? (i := 1040) (by decide +kernel), List.mem_of_getElem? (i := 1243) (by decide +kernel), List.mem_of_getElem? (i := 1244) (by decide +kernel)⟩
theorem lw_p40 : lw_okq (⟨"BallotFruitModel", "tasteBe", "(III)V"⟩, 56) := ⟨⟨by decide +kernel, by decide +kernel⟩, List.mem_of_getElem? (i := 1040) (by decide +kernel), List.mem_of_getElem? (i := 1247) (by decide +kernel), List.mem_of_getElem? (i := 1248) (by decide +kernel)⟩
theorem lw_p41 : lw_okq (⟨"BallotFruitModel", "held", "(III)I"⟩, 56) := ⟨⟨by decide +kernel, by decide +kernel⟩, List.mem_of_getElem? (i := 1040) (by decide +kernel), List.mem_of_getElem? (i := 1251) (by decide +kernel), List.mem_of_getElem? (i := 1252) (by decide +kernel)⟩
theorem lw_p42 : lw_okq (⟨"BallotFruitModel", "canSet", "(III)Z"⟩, 56) := ⟨⟨by decide +kernel, by decide +kernel⟩, List.mem_of_getElem? (i := 1040) (by decide +kernel), List.mem_of_getElem? (i := 1259) (by decide +kernel), List.mem_of_getElem? (i := 1260) (by decide +kernel)⟩
theorem lw_p43 : lw_okq (⟨"BallotFruitModel", "isTree", "(I)Z"⟩, 56) := ⟨⟨by decide +kernel, by decide +kernel⟩, List.mem_of_getElem? (i := 1040) (by decide +kernel), List.mem_of_getElem? (i := 1263) (by decide +kernel), List.mem_of_getElem? (i := 1264) (by decide +kernel)⟩
theorem lw_p44 : lw_okq (⟨"BallotFruitModel", "types", "(I)V"⟩, 56) := ⟨⟨by decide +kernel, by decide +kernel⟩, List.mem_of_getElem? (i := 1040) (by decide +kernel), List.mem_of_getElem? (i := 1271) (by decide +kernel), List.mem_of_getElem? (i := 1272) (by decide +kernel)⟩
theorem lw_p45 : lw_okq (⟨"BallotFruitModel", "readsText", "(I)I"⟩, 56) := ⟨⟨by decide +kernel, by decide +kernel⟩, List.mem_of_getElem? (i := 1040) (by decide +kernel), List.mem_of_getElem? (i := 1283) (by decide +kernel), List.mem_of_getElem? (i := 1284) (by decide +kernel)⟩
theorem lw_p46 : lw_okq (⟨"BallotFruitModel", "reads", "()V"⟩, 56) := ⟨⟨by decide +kernel, by decide +kernel⟩, List.mem_of_getElem? (i := 1040) (by decide +kernel), List.mem_of_getElem? (i := 1287) (by decide +kernel), List.mem_of_getElem? (i := 1288) (by decide +kernel)⟩
theorem lw_p47 : lw_okq (⟨"BallotFruitModel", "raw", "(I)I"⟩, 56) := ⟨⟨by decide +kernel, by decide +kernel⟩, List.mem_of_getElem? (i := 1040) (by decide +kernel), List.mem_of_getElem? (i := 1291) (by decide +kernel), List.mem_of_getElem? (i := 1292) (by decide +kernel)⟩
def lw_privs_3 : List (MethodName × Nat) := [(⟨"BallotFruit", "weeksToLastSeating", "(I)I"⟩, 13), (⟨"BallotFruit", "firstPartyBehind", "(III)I"⟩, 13), (⟨"BallotFruit", "isEachFedAt", "(I)Z"⟩, 13), (⟨"BallotFruit", "askNext", "(I)I"⟩, 13), (⟨"BallotFruit", "leaveUpTo", "(II)V"⟩, 13), (⟨"BallotFruitModel", "isIn", "(III)Z"⟩, 56), (⟨"BallotFruitModel", "isEater", "(I)Z"⟩, 56), (⟨"BallotFruitModel", "isParty", "(I)Z"⟩, 56), (⟨"BallotFruitModel", "tasteBe", "(III)V"⟩, 56), (⟨"BallotFruitModel", "held", "(III)I"⟩, 56), (⟨"BallotFruitModel", "canSet", "(III)Z"⟩, 56), (⟨"BallotFruitModel", "isTree", "(I)Z"⟩, 56), (⟨"BallotFruitModel", "types", "(I)V"⟩, 56), (⟨"BallotFruitModel", "readsText", "(I)I"⟩, 56), (⟨"BallotFruitModel", "reads", "()V"⟩, 56), (⟨"BallotFruitModel", "raw", "(I)I"⟩, 56)]
theorem lw_r3 : ∀ q ∈ lw_privs_3, lw_okq q := List.forall_mem_cons.mpr ⟨lw_p32, List.forall_mem_cons.mpr ⟨lw_p33, List.forall_mem_cons.mpr ⟨lw_p34, List.forall_mem_cons.mpr ⟨lw_p35, List.forall_mem_cons.mpr ⟨lw_p36, List.forall_mem_cons.mpr ⟨lw_p37, List.forall_mem_cons.mpr ⟨lw_p38, List.forall_mem_cons.mpr ⟨lw_p39, List.forall_mem_cons.mpr ⟨lw_p40, List.forall_mem_cons.mpr ⟨lw_p41, List.forall_mem_cons.mpr ⟨lw_p42, List.forall_mem_cons.mpr ⟨lw_p43, List.forall_mem_cons.mpr ⟨lw_p44, List.forall_mem_cons.mpr ⟨lw_p45, List.forall_mem_cons.mpr ⟨lw_p46, List.forall_mem_cons.mpr ⟨lw_p47, fun _ h => absurd h List.not_mem_nil⟩⟩⟩⟩⟩⟩⟩⟩⟩⟩⟩⟩⟩⟩⟩⟩
theorem lw_p48 : lw_okq (⟨"BallotFruitModel", "isLetter", "(I)Z"⟩, 56) := ⟨⟨by decide +kernel, by decide +kernel⟩, List.mem_of_getElem? (i := 1040) (by decide +kernel), List.mem_of_getElem? (i := 1295) (by decide +kernel), List.mem_of_getElem? (i := 1296) (by decide +kernel)⟩
theorem lw_p49 : lw_okq (⟨"BallotFruitModel", "wordAt", "(II)I"⟩, 56) := ⟨⟨by decide +kernel, by decide +kernel⟩, List.mem_of_getElem? (i := 1040) (by decide +kernel), List.mem_of_getElem? (i := 1299) (by decide +kernel), List.mem_of_getElem? (i := 1300) (by decide +kernel)⟩
theorem lw_p50 : lw_okq (⟨"BallotFruitModel", "isDigit", "(I)Z"⟩, 56) := ⟨⟨by decide +kernel, by decide +kernel⟩, List.mem_of_getElem? (i := 1040) (by decide +kernel), List.mem_of_getElem? (i := 1303) (by decide +kernel), List.mem_of_getElem? (i := 1304) (by decide +kernel)⟩
theorem lw_p51 : lw_okq (⟨"BallotFruitModel", "isMarkSign", "(I)Z"⟩, 56) := ⟨⟨by decide +kernel, by decide +kernel⟩, List.mem_of_getElem? (i := 1040) (by decide +kernel), List.mem_of_getElem? (i := 1307) (by decide +kernel), List.mem_of_getElem? (i := 1308) (by decide +kernel)⟩
theorem lw_p52 : lw_okq (⟨"BallotFruitModel", "readPaths", "()I"⟩, 56) := ⟨⟨by decide +kernel, by decide +kernel⟩, List.mem_of_getElem? (i := 1040) (by decide +kernel), List.mem_of_getElem? (i := 1311) (by decide +kernel), List.mem_of_getElem? (i := 1312) (by decide +kernel)⟩
theorem lw_p53 : lw_okq (⟨"BallotFruitModel", "isWord", "(I)Z"⟩, 56) := ⟨⟨by decide +kernel, by decide +kernel⟩, List.mem_of_getElem? (i := 1040) (by decide +kernel), List.mem_of_getElem? (i := 1315) (by decide +kernel), List.mem_of_getElem? (i := 1316) (by decide +kernel)⟩
theorem lw_p54 : lw_okq (⟨"BallotFruitModel", "errs", "(I)I"⟩, 56) := ⟨⟨by decide +kernel, by decide +kernel⟩, List.mem_of_getElem? (i := 1040) (by decide +kernel), List.mem_of_getElem? (i := 1319) (by decide +kernel), List.mem_of_getElem? (i := 1320) (by decide +kernel)⟩
theorem lw_p55 : lw_okq (⟨"BallotFruitModel", "readPath", "()I"⟩, 56) := ⟨⟨by decide +kernel, by decide +kernel⟩, List.mem_of_getElem? (i := 1040) (by decide +kernel), List.mem_of_getElem? (i := 1323) (by decide +kernel), List.mem_of_getElem? (i := 1324) (by decide +kernel)⟩
theorem lw_p56 : lw_okq (⟨"BallotFruitModel", "readTold", "(III)I"⟩, 56) := ⟨⟨by decide +kernel, by decide +kernel⟩, List.mem_of_getElem? (i := 1040) (by decide +kernel), List.mem_of_getElem? (i := 1327) (by decide +kernel), List.mem_of_getElem? (i := 1328) (by decide +kernel)⟩
theorem lw_p57 : lw_okq (⟨"BallotFruitModel", "readNumber", "(II)I"⟩, 56) := ⟨⟨by decide +kernel, by decide +kernel⟩, List.mem_of_getElem? (i := 1040) (by decide +kernel), List.mem_of_getElem? (i := 1331) (by decide +kernel), List.mem_of_getElem? (i := 1332) (by decide +kernel)⟩
theorem lw_p58 : lw_okq (⟨"BallotFruitModel", "readMark", "(I)I"⟩, 56) := ⟨⟨by decide +kernel, by decide +kernel⟩, List.mem_of_getElem? (i := 1040) (by decide +kernel), List.mem_of_getElem? (i := 1335) (by decide +kernel), List.mem_of_getElem? (i := 1336) (by decide +kernel)⟩
theorem lw_p59 : lw_okq (⟨"BallotFruitModel", "isSign", "(I)Z"⟩, 56) := ⟨⟨by decide +kernel, by decide +kernel⟩, List.mem_of_getElem? (i := 1040) (by decide +kernel), List.mem_of_getElem? (i := 1339) (by decide +kernel), List.mem_of_getElem? (i := 1340) (by decide +kernel)⟩
theorem lw_p60 : lw_okq (⟨"BallotFruitModel", "readPlan", "()I"⟩, 56) := ⟨⟨by decide +kernel, by decide +kernel⟩, List.mem_of_getElem? (i := 1040) (by decide +kernel), List.mem_of_getElem? (i := 1343) (by decide +kernel), List.mem_of_getElem? (i := 1344) (by decide +kernel)⟩
theorem lw_p61 : lw_okq (⟨"BallotFruitModel", "readPlanLine", "(I)I"⟩, 56) := ⟨⟨by decide +kernel, by decide +kernel⟩, List.mem_of_getElem? (i := 1040) (by decide +kernel), List.mem_of_getElem? (i := 1347) (by decide +kernel), List.mem_of_getElem? (i := 1348) (by decide +kernel)⟩
theorem lw_p62 : lw_okq (⟨"BallotFruitModel", "readDeed", "(II)I"⟩, 56) := ⟨⟨by decide +kernel, by decide +kernel⟩, List.mem_of_getElem? (i := 1040) (by decide +kernel), List.mem_of_getElem? (i := 1351) (by decide +kernel), List.mem_of_getElem? (i := 1352) (by decide +kernel)⟩
theorem lw_p63 : lw_okq (⟨"BallotFruitModel", "readLaw", "()I"⟩, 56) := ⟨⟨by decide +kernel, by decide +kernel⟩, List.mem_of_getElem? (i := 1040) (by decide +kernel), List.mem_of_getElem? (i := 1355) (by decide +kernel), List.mem_of_getElem? (i := 1356) (by decide +kernel)⟩
def lw_privs_4 : List (MethodName × Nat) := [(⟨"BallotFruitModel", "isLetter", "(I)Z"⟩, 56), (⟨"BallotFruitModel", "wordAt", "(II)I"⟩, 56), (⟨"BallotFruitModel", "isDigit", "(I)Z"⟩, 56), (⟨"BallotFruitModel", "isMarkSign", "(I)Z"⟩, 56), (⟨"BallotFruitModel", "readPaths", "()I"⟩, 56), (⟨"BallotFruitModel", "isWord", "(I)Z"⟩, 56), (⟨"BallotFruitModel", "errs", "(I)I"⟩, 56), (⟨"BallotFruitModel", "readPath", "()I"⟩, 56), (⟨"BallotFruitModel", "readTold", "(III)I"⟩, 56), (⟨"BallotFruitModel", "readNumber", "(II)I"⟩, 56), (⟨"BallotFruitModel", "readMark", "(I)I"⟩, 56), (⟨"BallotFruitModel", "isSign", "(I)Z"⟩, 56), (⟨"BallotFruitModel", "readPlan", "()I"⟩, 56), (⟨"BallotFruitModel", "readPlanLine", "(I)I"⟩, 56), (⟨"BallotFruitModel", "readDeed", "(II)I"⟩, 56), (⟨"BallotFruitModel", "readLaw", "()I"⟩, 56)]
theorem lw_r4 : ∀ q ∈ lw_privs_4, lw_okq q := List.forall_mem_cons.mpr ⟨lw_p48, List.forall_mem_cons.mpr ⟨lw_p49, List.forall_mem_cons.mpr ⟨lw_p50, List.forall_mem_cons.mpr ⟨lw_p51, List.forall_mem_cons.mpr ⟨lw_p52, List.forall_mem_cons.mpr ⟨lw_p53, List.forall_mem_cons.mpr ⟨lw_p54, List.forall_mem_cons.mpr ⟨lw_p55, List.forall_mem_cons.mpr ⟨lw_p56, List.forall_mem_cons.mpr ⟨lw_p57, List.forall_mem_cons.mpr ⟨lw_p58, List.forall_mem_cons.mpr ⟨lw_p59, List.forall_mem_cons.mpr ⟨lw_p60, List.forall_mem_cons.mpr ⟨lw_p61, List.forall_mem_cons.mpr ⟨lw_p62, List.forall_mem_cons.mpr ⟨lw_p63, fun _ h => absurd h List.not_mem_nil⟩⟩⟩⟩⟩⟩⟩⟩⟩⟩⟩⟩⟩⟩⟩⟩
theorem lw_p64 : lw_okq (⟨"BallotFruitModel", "isLineWord", "()Z"⟩, 56) := ⟨⟨by decide +kernel, by decide +kernel⟩, List.mem_of_getElem? (i := 1040) (by decide +kernel), List.mem_of_getElem? (i := 1359) (by decide +kernel), List.mem_of_getElem? (i := 1360) (by decide +kernel)⟩
theorem lw_p65 : lw_okq (⟨"BallotFruitModel", "readSum", "()I"⟩, 56) := ⟨⟨by decide +kernel, by decide +kernel⟩, List.mem_of_getElem? (i := 1040) (by decide +kernel), List.mem_of_getElem? (i := 1363) (by decide +kernel), List.mem_of_getElem? (i := 1364) (by decide +kernel)⟩
theorem lw_p66 : lw_okq (⟨"BallotFruitModel", "readProduct", "()I"⟩, 56) := ⟨⟨by decide +kernel, by decide +kernel⟩, List.mem_of_getElem? (i := 1040) (by decide +kernel), List.mem_of_getElem? (i := 1367) (by decide +kernel), List.mem_of_getElem? (i := 1368) (by decide +kernel)⟩
theorem lw_p67 : lw_okq (⟨"BallotFruitModel", "readUnit", "()I"⟩, 56) := ⟨⟨by decide +kernel, by decide +kernel⟩, List.mem_of_getElem? (i := 1040) (by decide +kernel), List.mem_of_getElem? (i := 1371) (by decide +kernel), List.mem_of_getElem? (i := 1372) (by decide +kernel)⟩
theorem lw_p68 : lw_okq (⟨"BallotFruitModel", "canAsk", "(I)Z"⟩, 56) := ⟨⟨by decide +kernel, by decide +kernel⟩, List.mem_of_getElem? (i := 1040) (by decide +kernel), List.mem_of_getElem? (i := 1375) (by decide +kernel), List.mem_of_getElem? (i := 1376) (by decide +kernel)⟩
theorem lw_p69 : lw_okq (⟨"BallotFruitModel", "emits", "(II)V"⟩, 56) := ⟨⟨by decide +kernel, by decide +kernel⟩, List.mem_of_getElem? (i := 1040) (by decide +kernel), List.mem_of_getElem? (i := 1379) (by decide +kernel), List.mem_of_getElem? (i := 1380) (by decide +kernel)⟩
theorem lw_p70 : lw_okq (⟨"BallotFruitModel", "readAny", "()I"⟩, 56) := ⟨⟨by decide +kernel, by decide +kernel⟩, List.mem_of_getElem? (i := 1040) (by decide +kernel), List.mem_of_getElem? (i := 1383) (by decide +kernel), List.mem_of_getElem? (i := 1384) (by decide +kernel)⟩
theorem lw_p71 : lw_okq (⟨"BallotFruitModel", "waits", "(I)V"⟩, 56) := ⟨⟨by decide +kernel, by decide +kernel⟩, List.mem_of_getElem? (i := 1040) (by decide +kernel), List.mem_of_getElem? (i := 1387) (by decide +kernel), List.mem_of_getElem? (i := 1388) (by decide +kernel)⟩
theorem lw_p72 : lw_okq (⟨"BallotFruitModel", "readCompared", "()I"⟩, 56) := ⟨⟨by decide +kernel, by decide +kernel⟩, List.mem_of_getElem? (i := 1040) (by decide +kernel), List.mem_of_getElem? (i := 1391) (by decide +kernel), List.mem_of_getElem? (i := 1392) (by decide +kernel)⟩
theorem lw_p73 : lw_okq (⟨"BallotFruitModel", "settles", "(I)V"⟩, 56) := ⟨⟨by decide +kernel, by decide +kernel⟩, List.mem_of_getElem? (i := 1040) (by decide +kernel), List.mem_of_getElem? (i := 1395) (by decide +kernel), List.mem_of_getElem? (i := 1396) (by decide +kernel)⟩
theorem lw_p74 : lw_okq (⟨"BallotFruitModel", "takesLaw", "(I)V"⟩, 56) := ⟨⟨by decide +kernel, by decide +kernel⟩, List.mem_of_getElem? (i := 1040) (by decide +kernel), List.mem_of_getElem? (i := 1399) (by decide +kernel), List.mem_of_getElem? (i := 1400) (by decide +kernel)⟩
theorem lw_p75 : lw_okq (⟨"BallotFruitModel", "takesOther", "(II)V"⟩, 56) := ⟨⟨by decide +kernel, by decide +kernel⟩, List.mem_of_getElem? (i := 1040) (by decide +kernel), List.mem_of_getElem? (i := 1403) (by decide +kernel), List.mem_of_getElem? (i := 1404) (by decide +kernel)⟩
theorem lw_p76 : lw_okq (⟨"BallotFruitModel", "isPlace", "(I)Z"⟩, 56) := ⟨⟨by decide +kernel, by decide +kernel⟩, List.mem_of_getElem? (i := 1040) (by decide +kernel), List.mem_of_getElem? (i := 1415) (by decide +kernel), List.mem_of_getElem? (i := 1416) (by decide +kernel)⟩
theorem lw_p77 : lw_okq (⟨"BallotFruitModel", "keepsAhead", "()V"⟩, 56) := ⟨⟨by decide +kernel, by decide +kernel⟩, List.mem_of_getElem? (i := 1040) (by decide +kernel), List.mem_of_getElem? (i := 1419) (by decide +kernel), List.mem_of_getElem? (i := 1420) (by decide +kernel)⟩
theorem lw_p78 : lw_okq (⟨"BallotFruitModel", "plants", "(III)I"⟩, 56) := ⟨⟨by decide +kernel, by decide +kernel⟩, List.mem_of_getElem? (i := 1040) (by decide +kernel), List.mem_of_getElem? (i := 1423) (by decide +kernel), List.mem_of_getElem? (i := 1424) (by decide +kernel)⟩
theorem lw_p79 : lw_okq (⟨"BallotFruitModel", "notes", "(III)V"⟩, 56) := ⟨⟨by decide +kernel, by decide +kernel⟩, List.mem_of_getElem? (i := 1040) (by decide +kernel), List.mem_of_getElem? (i := 1427) (by decide +kernel), List.mem_of_getElem? (i := 1428) (by decide +kernel)⟩
def lw_privs_5 : List (MethodName × Nat) := [(⟨"BallotFruitModel", "isLineWord", "()Z"⟩, 56), (⟨"BallotFruitModel", "readSum", "()I"⟩, 56), (⟨"BallotFruitModel", "readProduct", "()I"⟩, 56), (⟨"BallotFruitModel", "readUnit", "()I"⟩, 56), (⟨"BallotFruitModel", "canAsk", "(I)Z"⟩, 56), (⟨"BallotFruitModel", "emits", "(II)V"⟩, 56), (⟨"BallotFruitModel", "readAny", "()I"⟩, 56), (⟨"BallotFruitModel", "waits", "(I)V"⟩, 56), (⟨"BallotFruitModel", "readCompared", "()I"⟩, 56), (⟨"BallotFruitModel", "settles", "(I)V"⟩, 56), (⟨"BallotFruitModel", "takesLaw", "(I)V"⟩, 56), (⟨"BallotFruitModel", "takesOther", "(II)V"⟩, 56), (⟨"BallotFruitModel", "isPlace", "(I)Z"⟩, 56), (⟨"BallotFruitModel", "keepsAhead", "()V"⟩, 56), (⟨"BallotFruitModel", "plants", "(III)I"⟩, 56), (⟨"BallotFruitModel", "notes", "(III)V"⟩, 56)]
theorem lw_r5 : ∀ q ∈ lw_privs_5, lw_okq q := List.forall_mem_cons.mpr ⟨lw_p64, List.forall_mem_cons.mpr ⟨lw_p65, List.forall_mem_cons.mpr ⟨lw_p66, List.forall_mem_cons.mpr ⟨lw_p67, List.forall_mem_cons.mpr ⟨lw_p68, List.forall_mem_cons.mpr ⟨lw_p69, List.forall_mem_cons.mpr ⟨lw_p70, List.forall_mem_cons.mpr ⟨lw_p71, List.forall_mem_cons.mpr ⟨lw_p72, List.forall_mem_cons.mpr ⟨lw_p73, List.forall_mem_cons.mpr ⟨lw_p74, List.forall_mem_cons.mpr ⟨lw_p75, List.forall_mem_cons.mpr ⟨lw_p76, List.forall_mem_cons.mpr ⟨lw_p77, List.forall_mem_cons.mpr ⟨lw_p78, List.forall_mem_cons.mpr ⟨lw_p79, fun _ h => absurd h List.not_mem_nil⟩⟩⟩⟩⟩⟩⟩⟩⟩⟩⟩⟩⟩⟩⟩⟩
theorem lw_p80 : lw_okq (⟨"BallotFruitModel", "isFenced", "(I)Z"⟩, 56) := ⟨⟨by decide +kernel, by decide +kernel⟩, List.mem_of_getElem? (i := 1040) (by decide +kernel), List.mem_of_getElem? (i := 1435) (by decide +kernel), List.mem_of_getElem? (i := 1436) (by decide +kernel)⟩
theorem lw_p81 : lw_okq (⟨"BallotFruitModel", "has", "(II)Z"⟩, 56) := ⟨⟨by decide +kernel, by decide +kernel⟩, List.mem_of_getElem? (i := 1040) (by decide +kernel), List.mem_of_getElem? (i := 1439) (by decide +kernel), List.mem_of_getElem? (i := 1440) (by decide +kernel)⟩
theorem lw_p82 : lw_okq (⟨"BallotFruitModel", "fences", "(IZ)V"⟩, 56) := ⟨⟨by decide +kernel, by decide +kernel⟩, List.mem_of_getElem? (i := 1040) (by decide +kernel), List.mem_of_getElem? (i := 1443) (by decide +kernel), List.mem_of_getElem? (i := 1444) (by decide +kernel)⟩
theorem lw_p83 : lw_okq (⟨"BallotFruitModel", "boils", "(II)I"⟩, 56) := ⟨⟨by decide +kernel, by decide +kernel⟩, List.mem_of_getElem? (i := 1040) (by decide +kernel), List.mem_of_getElem? (i := 1451) (by decide +kernel), List.mem_of_getElem? (i := 1452) (by decide +kernel)⟩
theorem lw_p84 : lw_okq (⟨"BallotFruitModel", "lesser", "(II)I"⟩, 56) := ⟨⟨by decide +kernel, by decide +kernel⟩, List.mem_of_getElem? (i := 1040) (by decide +kernel), List.mem_of_getElem? (i := 1455) (by decide +kernel), List.mem_of_getElem? (i := 1456) (by decide +kernel)⟩
theorem lw_p85 : lw_okq (⟨"BallotFruitModel", "goesBy", "()I"⟩, 56) := ⟨⟨by decide +kernel, by decide +kernel⟩, List.mem_of_getElem? (i := 1040) (by decide +kernel), List.mem_of_getElem? (i := 1463) (by decide +kernel), List.mem_of_getElem? (i := 1464) (by decide +kernel)⟩
theorem lw_p86 : lw_okq (⟨"BallotFruitModel", "does", "(I)V"⟩, 56) := ⟨⟨by decide +kernel, by decide +kernel⟩, List.mem_of_getElem? (i := 1040) (by decide +kernel), List.mem_of_getElem? (i := 1467) (by decide +kernel), List.mem_of_getElem? (i := 1468) (by decide +kernel)⟩
theorem lw_p87 : lw_okq (⟨"BallotFruitModel", "bearOf", "(I)I"⟩, 56) := ⟨⟨by decide +kernel, by decide +kernel⟩, List.mem_of_getElem? (i := 1040) (by decide +kernel), List.mem_of_getElem? (i := 1471) (by decide +kernel), List.mem_of_getElem? (i := 1472) (by decide +kernel)⟩
theorem lw_p88 : lw_okq (⟨"BallotFruitModel", "asks", "(IIII)V"⟩, 56) := ⟨⟨by decide +kernel, by decide +kernel⟩, List.mem_of_getElem? (i := 1040) (by decide +kernel), List.mem_of_getElem? (i := 1475) (by decide +kernel), List.mem_of_getElem? (i := 1476) (by decide +kernel)⟩
theorem lw_p89 : lw_okq (⟨"BallotFruitModel", "lawTells", "(III)I"⟩, 56) := ⟨⟨by decide +kernel, by decide +kernel⟩, List.mem_of_getElem? (i := 1040) (by decide +kernel), List.mem_of_getElem? (i := 1479) (by decide +kernel), List.mem_of_getElem? (i := 1480) (by decide +kernel)⟩
theorem lw_p90 : lw_okq (⟨"BallotFruitModel", "lineOf", "(I)I"⟩, 56) := ⟨⟨by decide +kernel, by decide +kernel⟩, List.mem_of_getElem? (i := 1040) (by decide +kernel), List.mem_of_getElem? (i := 1483) (by decide +kernel), List.mem_of_getElem? (i := 1484) (by decide +kernel)⟩
theorem lw_p91 : lw_okq (⟨"BallotFruitModel", "runs", "(III)I"⟩, 56) := ⟨⟨by decide +kernel, by decide +kernel⟩, List.mem_of_getElem? (i := 1040) (by decide +kernel), List.mem_of_getElem? (i := 1487) (by decide +kernel), List.mem_of_getElem? (i := 1488) (by decide +kernel)⟩
theorem lw_p92 : lw_okq (⟨"BallotFruitModel", "twoOf", "(III)I"⟩, 56) := ⟨⟨by decide +kernel, by decide +kernel⟩, List.mem_of_getElem? (i := 1040) (by decide +kernel), List.mem_of_getElem? (i := 1491) (by decide +kernel), List.mem_of_getElem? (i := 1492) (by decide +kernel)⟩
theorem lw_p93 : lw_okq (⟨"BallotFruitModel", "eats", "()I"⟩, 56) := ⟨⟨by decide +kernel, by decide +kernel⟩, List.mem_of_getElem? (i := 1040) (by decide +kernel), List.mem_of_getElem? (i := 1495) (by decide +kernel), List.mem_of_getElem? (i := 1496) (by decide +kernel)⟩
theorem lw_p94 : lw_okq (⟨"BallotFruitModel", "isHungry", "(I)Z"⟩, 56) := ⟨⟨by decide +kernel, by decide +kernel⟩, List.mem_of_getElem? (i := 1040) (by decide +kernel), List.mem_of_getElem? (i := 1499) (by decide +kernel), List.mem_of_getElem? (i := 1500) (by decide +kernel)⟩
theorem lw_p95 : lw_okq (⟨"BallotFruitModel", "wantOf", "(I)I"⟩, 56) := ⟨⟨by decide +kernel, by decide +kernel⟩, List.mem_of_getElem? (i := 1040) (by decide +kernel), List.mem_of_getElem? (i := 1503) (by decide +kernel), List.mem_of_getElem? (i := 1504) (by decide +kernel)⟩
def lw_privs_6 : List (MethodName × Nat) := [(⟨"BallotFruitModel", "isFenced", "(I)Z"⟩, 56), (⟨"BallotFruitModel", "has", "(II)Z"⟩, 56), (⟨"BallotFruitModel", "fences", "(IZ)V"⟩, 56), (⟨"BallotFruitModel", "boils", "(II)I"⟩, 56), (⟨"BallotFruitModel", "lesser", "(II)I"⟩, 56), (⟨"BallotFruitModel", "goesBy", "()I"⟩, 56), (⟨"BallotFruitModel", "does", "(I)V"⟩, 56), (⟨"BallotFruitModel", "bearOf", "(I)I"⟩, 56), (⟨"BallotFruitModel", "asks", "(IIII)V"⟩, 56), (⟨"BallotFruitModel", "lawTells", "(III)I"⟩, 56), (⟨"BallotFruitModel", "lineOf", "(I)I"⟩, 56), (⟨"BallotFruitModel", "runs", "(III)I"⟩, 56), (⟨"BallotFruitModel", "twoOf", "(III)I"⟩, 56), (⟨"BallotFruitModel", "eats", "()I"⟩, 56), (⟨"BallotFruitModel", "isHungry", "(I)Z"⟩, 56), (⟨"BallotFruitModel", "wantOf", "(I)I"⟩, 56)]
theorem lw_r6 : ∀ q ∈ lw_privs_6, lw_okq q := List.forall_mem_cons.mpr ⟨lw_p80, List.forall_mem_cons.mpr ⟨lw_p81, List.forall_mem_cons.mpr ⟨lw_p82, List.forall_mem_cons.mpr ⟨lw_p83, List.forall_mem_cons.mpr ⟨lw_p84, List.forall_mem_cons.mpr ⟨lw_p85, List.forall_mem_cons.mpr ⟨lw_p86, List.forall_mem_cons.mpr ⟨lw_p87, List.forall_mem_cons.mpr ⟨lw_p88, List.forall_mem_cons.mpr ⟨lw_p89, List.forall_mem_cons.mpr ⟨lw_p90, List.forall_mem_cons.mpr ⟨lw_p91, List.forall_mem_cons.mpr ⟨lw_p92, List.forall_mem_cons.mpr ⟨lw_p93, List.forall_mem_cons.mpr ⟨lw_p94, List.forall_mem_cons.mpr ⟨lw_p95, fun _ h => absurd h List.not_mem_nil⟩⟩⟩⟩⟩⟩⟩⟩⟩⟩⟩⟩⟩⟩⟩⟩
theorem lw_p96 : lw_okq (⟨"BallotFruitModel", "leftByPath", "(II)I"⟩, 56) := ⟨⟨by decide +kernel, by decide +kernel⟩, List.mem_of_getElem? (i := 1040) (by decide +kernel), List.mem_of_getElem? (i := 1507) (by decide +kernel), List.mem_of_getElem? (i := 1508) (by decide +kernel)⟩
theorem lw_p97 : lw_okq (⟨"BallotFruitModel", "treeFor", "(II)I"⟩, 56) := ⟨⟨by decide +kernel, by decide +kernel⟩, List.mem_of_getElem? (i := 1040) (by decide +kernel), List.mem_of_getElem? (i := 1511) (by decide +kernel), List.mem_of_getElem? (i := 1512) (by decide +kernel)⟩
theorem lw_p98 : lw_okq (⟨"BallotFruitModel", "tasteOf", "(II)I"⟩, 56) := ⟨⟨by decide +kernel, by decide +kernel⟩, List.mem_of_getElem? (i := 1040) (by decide +kernel), List.mem_of_getElem? (i := 1515) (by decide +kernel), List.mem_of_getElem? (i := 1516) (by decide +kernel)⟩
theorem lw_p99 : lw_okq (⟨"BallotFruitModel", "isGood", "(II)Z"⟩, 56) := ⟨⟨by decide +kernel, by decide +kernel⟩, List.mem_of_getElem? (i := 1040) (by decide +kernel), List.mem_of_getElem? (i := 1519) (by decide +kernel), List.mem_of_getElem? (i := 1520) (by decide +kernel)⟩
theorem lw_p100 : lw_okq (⟨"BallotFruitModel", "countOf", "(III)I"⟩, 56) := ⟨⟨by decide +kernel, by decide +kernel⟩, List.mem_of_getElem? (i := 1040) (by decide +kernel), List.mem_of_getElem? (i := 1523) (by decide +kernel), List.mem_of_getElem? (i := 1524) (by decide +kernel)⟩
theorem lw_p101 : lw_okq (⟨"BallotFruitModel", "counts", "(II)V"⟩, 56) := ⟨⟨by decide +kernel, by decide +kernel⟩, List.mem_of_getElem? (i := 1040) (by decide +kernel), List.mem_of_getElem? (i := 1527) (by decide +kernel), List.mem_of_getElem? (i := 1528) (by decide +kernel)⟩
theorem lw_p102 : lw_okq (⟨"BallotFruitModel", "draw", "(I)I"⟩, 56) := ⟨⟨by decide +kernel, by decide +kernel⟩, List.mem_of_getElem? (i := 1040) (by decide +kernel), List.mem_of_getElem? (i := 1531) (by decide +kernel), List.mem_of_getElem? (i := 1532) (by decide +kernel)⟩
theorem lw_p103 : lw_okq (⟨"BallotFruitModel", "jamFor", "(I)I"⟩, 56) := ⟨⟨by decide +kernel, by decide +kernel⟩, List.mem_of_getElem? (i := 1040) (by decide +kernel), List.mem_of_getElem? (i := 1537) (by decide +kernel), List.mem_of_getElem? (i := 1538) (by decide +kernel)⟩
theorem lw_p104 : lw_okq (⟨"BallotFruitModel", "stings", "()V"⟩, 56) := ⟨⟨by decide +kernel, by decide +kernel⟩, List.mem_of_getElem? (i := 1040) (by decide +kernel), List.mem_of_getElem? (i := 1541) (by decide +kernel), List.mem_of_getElem? (i := 1542) (by decide +kernel)⟩
theorem lw_p105 : lw_okq (⟨"BallotFruitModel", "every", "()I"⟩, 56) := ⟨⟨by decide +kernel, by decide +kernel⟩, List.mem_of_getElem? (i := 1040) (by decide +kernel), List.mem_of_getElem? (i := 1545) (by decide +kernel), List.mem_of_getElem? (i := 1546) (by decide +kernel)⟩
theorem lw_p106 : lw_okq (⟨"BallotFruitModel", "elects", "()V"⟩, 56) := ⟨⟨by decide +kernel, by decide +kernel⟩, List.mem_of_getElem? (i := 1040) (by decide +kernel), List.mem_of_getElem? (i := 1549) (by decide +kernel), List.mem_of_getElem? (i := 1550) (by decide +kernel)⟩
theorem lw_p107 : lw_okq (⟨"BallotFruitModel", "findsGiven", "()V"⟩, 56) := ⟨⟨by decide +kernel, by decide +kernel⟩, List.mem_of_getElem? (i := 1040) (by decide +kernel), List.mem_of_getElem? (i := 1553) (by decide +kernel), List.mem_of_getElem? (i := 1554) (by decide +kernel)⟩
theorem lw_p108 : lw_okq (⟨"BallotFruitModel", "votesInAll", "()I"⟩, 56) := ⟨⟨by decide +kernel, by decide +kernel⟩, List.mem_of_getElem? (i := 1040) (by decide +kernel), List.mem_of_getElem? (i := 1557) (by decide +kernel), List.mem_of_getElem? (i := 1558) (by decide +kernel)⟩
theorem lw_p109 : lw_okq (⟨"BallotFruitModel", "chairs", "()I"⟩, 56) := ⟨⟨by decide +kernel, by decide +kernel⟩, List.mem_of_getElem? (i := 1040) (by decide +kernel), List.mem_of_getElem? (i := 1561) (by decide +kernel), List.mem_of_getElem? (i := 1562) (by decide +kernel)⟩
theorem lw_p110 : lw_okq (⟨"BallotFruitModel", "isAhead", "(II)Z"⟩, 56) := ⟨⟨by decide +kernel, by decide +kernel⟩, List.mem_of_getElem? (i := 1040) (by decide +kernel), List.mem_of_getElem? (i := 1565) (by decide +kernel), List.mem_of_getElem? (i := 1566) (by decide +kernel)⟩
theorem lw_p111 : lw_okq (⟨"BallotFruitModel", "strongest", "()I"⟩, 56) := ⟨⟨by decide +kernel, by decide +kernel⟩, List.mem_of_getElem? (i := 1040) (by decide +kernel), List.mem_of_getElem? (i := 1569) (by decide +kernel), List.mem_of_getElem? (i := 1570) (by decide +kernel)⟩
def lw_privs_7 : List (MethodName × Nat) := [(⟨"BallotFruitModel", "leftByPath", "(II)I"⟩, 56), (⟨"BallotFruitModel", "treeFor", "(II)I"⟩, 56), (⟨"BallotFruitModel", "tasteOf", "(II)I"⟩, 56), (⟨"BallotFruitModel", "isGood", "(II)Z"⟩, 56), (⟨"BallotFruitModel", "countOf", "(III)I"⟩, 56), (⟨"BallotFruitModel", "counts", "(II)V"⟩, 56), (⟨"BallotFruitModel", "draw", "(I)I"⟩, 56), (⟨"BallotFruitModel", "jamFor", "(I)I"⟩, 56), (⟨"BallotFruitModel", "stings", "()V"⟩, 56), (⟨"BallotFruitModel", "every", "()I"⟩, 56), (⟨"BallotFruitModel", "elects", "()V"⟩, 56), (⟨"BallotFruitModel", "findsGiven", "()V"⟩, 56), (⟨"BallotFruitModel", "votesInAll", "()I"⟩, 56), (⟨"BallotFruitModel", "chairs", "()I"⟩, 56), (⟨"BallotFruitModel", "isAhead", "(II)Z"⟩, 56), (⟨"BallotFruitModel", "strongest", "()I"⟩, 56)]
theorem lw_r7 : ∀ q ∈ lw_privs_7, lw_okq q := List.forall_mem_cons.mpr ⟨lw_p96, List.forall_mem_cons.mpr ⟨lw_p97, List.forall_mem_cons.mpr ⟨lw_p98, List.forall_mem_cons.mpr ⟨lw_p99, List.forall_mem_cons.mpr ⟨lw_p100, List.forall_mem_cons.mpr ⟨lw_p101, List.forall_mem_cons.mpr ⟨lw_p102, List.forall_mem_cons.mpr ⟨lw_p103, List.forall_mem_cons.mpr ⟨lw_p104, List.forall_mem_cons.mpr ⟨lw_p105, List.forall_mem_cons.mpr ⟨lw_p106, List.forall_mem_cons.mpr ⟨lw_p107, List.forall_mem_cons.mpr ⟨lw_p108, List.forall_mem_cons.mpr ⟨lw_p109, List.forall_mem_cons.mpr ⟨lw_p110, List.forall_mem_cons.mpr ⟨lw_p111, fun _ h => absurd h List.not_mem_nil⟩⟩⟩⟩⟩⟩⟩⟩⟩⟩⟩⟩⟩⟩⟩⟩
theorem lw_p112 : lw_okq (⟨"BallotFruitModel", "thinks", "()V"⟩, 56) := ⟨⟨by decide +kernel, by decide +kernel⟩, List.mem_of_getElem? (i := 1040) (by decide +kernel), List.mem_of_getElem? (i := 1597) (by decide +kernel), List.mem_of_getElem? (i := 1598) (by decide +kernel)⟩
theorem lw_p113 : lw_okq (⟨"BallotFruitModel", "goesFor", "(I)V"⟩, 56) := ⟨⟨by decide +kernel, by decide +kernel⟩, List.mem_of_getElem? (i := 1040) (by decide +kernel), List.mem_of_getElem? (i := 1601) (by decide +kernel), List.mem_of_getElem? (i := 1602) (by decide +kernel)⟩
theorem lw_p114 : lw_okq (⟨"BallotFruitModel", "endsThought", "()V"⟩, 56) := ⟨⟨by decide +kernel, by decide +kernel⟩, List.mem_of_getElem? (i := 1040) (by decide +kernel), List.mem_of_getElem? (i := 1605) (by decide +kernel), List.mem_of_getElem? (i := 1606) (by decide +kernel)⟩
theorem lw_p115 : lw_okq (⟨"BallotFruitModel", "thinksAnew", "()V"⟩, 56) := ⟨⟨by decide +kernel, by decide +kernel⟩, List.mem_of_getElem? (i := 1040) (by decide +kernel), List.mem_of_getElem? (i := 1609) (by decide +kernel), List.mem_of_getElem? (i := 1610) (by decide +kernel)⟩
theorem lw_p116 : lw_okq (⟨"BallotFruitModel", "greater", "(II)I"⟩, 56) := ⟨⟨by decide +kernel, by decide +kernel⟩, List.mem_of_getElem? (i := 1040) (by decide +kernel), List.mem_of_getElem? (i := 1621) (by decide +kernel), List.mem_of_getElem? (i := 1622) (by decide +kernel)⟩
theorem lw_p117 : lw_okq (⟨"BallotFruitModel", "strongestBehind", "(III)I"⟩, 56) := ⟨⟨by decide +kernel, by decide +kernel⟩, List.mem_of_getElem? (i := 1040) (by decide +kernel), List.mem_of_getElem? (i := 1629) (by decide +kernel), List.mem_of_getElem? (i := 1630) (by decide +kernel)⟩
theorem lw_p118 : lw_okq (⟨"BallotFruitModel", "onesOf", "(I)I"⟩, 56) := ⟨⟨by decide +kernel, by decide +kernel⟩, List.mem_of_getElem? (i := 1040) (by decide +kernel), List.mem_of_getElem? (i := 1637) (by decide +kernel), List.mem_of_getElem? (i := 1638) (by decide +kernel)⟩
theorem lw_p119 : lw_okq (⟨"BallotFruitModel", "feedsAll", "(I)Z"⟩, 56) := ⟨⟨by decide +kernel, by decide +kernel⟩, List.mem_of_getElem? (i := 1040) (by decide +kernel), List.mem_of_getElem? (i := 1641) (by decide +kernel), List.mem_of_getElem? (i := 1642) (by decide +kernel)⟩
theorem lw_p120 : lw_okq (⟨"BallotFruitModel", "placesOf", "(I)I"⟩, 56) := ⟨⟨by decide +kernel, by decide +kernel⟩, List.mem_of_getElem? (i := 1040) (by decide +kernel), List.mem_of_getElem? (i := 1645) (by decide +kernel), List.mem_of_getElem? (i := 1646) (by decide +kernel)⟩
theorem lw_p121 : lw_okq (⟨"BallotFruitModel", "eatersOfAll", "()I"⟩, 56) := ⟨⟨by decide +kernel, by decide +kernel⟩, List.mem_of_getElem? (i := 1040) (by decide +kernel), List.mem_of_getElem? (i := 1657) (by decide +kernel), List.mem_of_getElem? (i := 1658) (by decide +kernel)⟩
theorem lw_p122 : lw_okq (⟨"BallotFruitModel", "likersOf", "(II)I"⟩, 56) := ⟨⟨by decide +kernel, by decide +kernel⟩, List.mem_of_getElem? (i := 1040) (by decide +kernel), List.mem_of_getElem? (i := 1662) (by decide +kernel), List.mem_of_getElem? (i := 1663) (by decide +kernel)⟩
theorem lw_p123 : lw_okq (⟨"BallotFruitModel", "doesRule", "(I)Z"⟩, 56) := ⟨⟨by decide +kernel, by decide +kernel⟩, List.mem_of_getElem? (i := 1040) (by decide +kernel), List.mem_of_getElem? (i := 1675) (by decide +kernel), List.mem_of_getElem? (i := 1676) (by decide +kernel)⟩
theorem lw_p124 : lw_okq (⟨"BallotFruitModel", "seatsOf", "(I)I"⟩, 56) := ⟨⟨by decide +kernel, by decide +kernel⟩, List.mem_of_getElem? (i := 1040) (by decide +kernel), List.mem_of_getElem? (i := 1679) (by decide +kernel), List.mem_of_getElem? (i := 1680) (by decide +kernel)⟩
theorem lw_p125 : lw_okq (⟨"BallotFruitModel", "keeps", "(I)I"⟩, 56) := ⟨⟨by decide +kernel, by decide +kernel⟩, List.mem_of_getElem? (i := 1040) (by decide +kernel), List.mem_of_getElem? (i := 1703) (by decide +kernel), List.mem_of_getElem? (i := 1704) (by decide +kernel)⟩
theorem lw_p126 : lw_okq (⟨"BallotFruitModel", "keepsTold", "()V"⟩, 56) := ⟨⟨by decide +kernel, by decide +kernel⟩, List.mem_of_getElem? (i := 1040) (by decide +kernel), List.mem_of_getElem? (i := 1707) (by decide +kernel), List.mem_of_getElem? (i := 1708) (by decide +kernel)⟩
theorem lw_p127 : lw_okq (⟨"BallotFruitModel", "keepsLaw", "()V"⟩, 56) := ⟨⟨by decide +kernel, by decide +kernel⟩, List.mem_of_getElem? (i := 1040) (by decide +kernel), List.mem_of_getElem? (i := 1711) (by decide +kernel), List.mem_of_getElem? (i := 1712) (by decide +kernel)⟩
def lw_privs_8 : List (MethodName × Nat) := [(⟨"BallotFruitModel", "thinks", "()V"⟩, 56), (⟨"BallotFruitModel", "goesFor", "(I)V"⟩, 56), (⟨"BallotFruitModel", "endsThought", "()V"⟩, 56), (⟨"BallotFruitModel", "thinksAnew", "()V"⟩, 56), (⟨"BallotFruitModel", "greater", "(II)I"⟩, 56), (⟨"BallotFruitModel", "strongestBehind", "(III)I"⟩, 56), (⟨"BallotFruitModel", "onesOf", "(I)I"⟩, 56), (⟨"BallotFruitModel", "feedsAll", "(I)Z"⟩, 56), (⟨"BallotFruitModel", "placesOf", "(I)I"⟩, 56), (⟨"BallotFruitModel", "eatersOfAll", "()I"⟩, 56), (⟨"BallotFruitModel", "likersOf", "(II)I"⟩, 56), (⟨"BallotFruitModel", "doesRule", "(I)Z"⟩, 56), (⟨"BallotFruitModel", "seatsOf", "(I)I"⟩, 56), (⟨"BallotFruitModel", "keeps", "(I)I"⟩, 56), (⟨"BallotFruitModel", "keepsTold", "()V"⟩, 56), (⟨"BallotFruitModel", "keepsLaw", "()V"⟩, 56)]
theorem lw_r8 : ∀ q ∈ lw_privs_8, lw_okq q := List.forall_mem_cons.mpr ⟨lw_p112, List.forall_mem_cons.mpr ⟨lw_p113, List.forall_mem_cons.mpr ⟨lw_p114, List.forall_mem_cons.mpr ⟨lw_p115, List.forall_mem_cons.mpr ⟨lw_p116, List.forall_mem_cons.mpr ⟨lw_p117, List.forall_mem_cons.mpr ⟨lw_p118, List.forall_mem_cons.mpr ⟨lw_p119, List.forall_mem_cons.mpr ⟨lw_p120, List.forall_mem_cons.mpr ⟨lw_p121, List.forall_mem_cons.mpr ⟨lw_p122, List.forall_mem_cons.mpr ⟨lw_p123, List.forall_mem_cons.mpr ⟨lw_p124, List.forall_mem_cons.mpr ⟨lw_p125, List.forall_mem_cons.mpr ⟨lw_p126, List.forall_mem_cons.mpr ⟨lw_p127, fun _ h => absurd h List.not_mem_nil⟩⟩⟩⟩⟩⟩⟩⟩⟩⟩⟩⟩⟩⟩⟩⟩
def lw_privs : List (MethodName × Nat) := lw_privs_1 ++ (lw_privs_2 ++ (lw_privs_3 ++ (lw_privs_4 ++ (lw_privs_5 ++ (lw_privs_6 ++ (lw_privs_7 ++ (lw_privs_8)))))))
def lw_tbl : List Cond := k2_sels lw_privs ++ tables_1
theorem lw_privs_ok : ∀ q ∈ lw_privs, lw_okq q := by
  show ∀ q ∈ lw_privs_1 ++ (lw_privs_2 ++ (lw_privs_3 ++ (lw_privs_4 ++ (lw_privs_5 ++ (lw_privs_6 ++ (lw_privs_7 ++ (lw_privs_8))))))), lw_okq q
  exact List.forall_mem_append.mpr ⟨lw_r1, List.forall_mem_append.mpr ⟨lw_r2, List.forall_mem_append.mpr ⟨lw_r3, List.forall_mem_append.mpr ⟨lw_r4, List.forall_mem_append.mpr ⟨lw_r5, List.forall_mem_append.mpr ⟨lw_r6, List.forall_mem_append.mpr ⟨lw_r7, lw_r8⟩⟩⟩⟩⟩⟩⟩

def RX0 : String := "BallotFruit$Commune"
def TX0 : u_T := fun k => match k with
  | 0 => ("BallotFruit$Commune", "week", "I", false)
  | 1 => ("BallotFruit$Commune", "state", "I", false)
  | 2 => ("BallotFruit$Commune", "bad", "I", false)
  | 3 => ("BallotFruit$Commune", "wasps", "I", false)
  | 4 => ("BallotFruit$Commune", "chairs", "I", false)
  | 5 => ("BallotFruit$Commune", "every", "I", false)
  | 6 => ("BallotFruit$Commune", "fences", "I", false)
  | 7 => ("BallotFruit$Commune", "parties", "I", false)
  | 8 => ("BallotFruit$Commune", "trees", "I", false)
  | 9 => ("BallotFruit$Commune", "eaters", "I", false)
  | 10 => ("BallotFruit$Commune", "lines", "I", false)
  | 11 => ("BallotFruit$Commune", "store", "[I", true)
  | 12 => ("BallotFruit$Commune", "votes", "[I", true)
  | 13 => ("BallotFruit$Commune", "seats", "[I", true)
  | 14 => ("BallotFruit$Commune", "treeParty", "[I", true)
  | 15 => ("BallotFruit$Commune", "treePlace", "[I", true)
  | 16 => ("BallotFruit$Commune", "treeAge", "[I", true)
  | 17 => ("BallotFruit$Commune", "hanging", "[I", true)
  | 18 => ("BallotFruit$Commune", "hungers", "[I", true)
  | _ => ("BallotFruit$Commune", "tastes", "[I", true)
def tyX0 : Nat → FieldType := fun k => match k with
  | 0 => .int
  | 1 => .int
  | 2 => .int
  | 3 => .int
  | 4 => .int
  | 5 => .int
  | 6 => .int
  | 7 => .int
  | 8 => .int
  | 9 => .int
  | 10 => .int
  | 11 => .array .int
  | 12 => .array .int
  | 13 => .array .int
  | 14 => .array .int
  | 15 => .array .int
  | 16 => .array .int
  | 17 => .array .int
  | 18 => .array .int
  | _ => .array .int
abbrev wsX00 : List Cond := u_ws RX0 TX0 20
theorem nmX0 : ∀ a, a < 20 → ∀ b, b < 20 → a ≠ b → (TX0 a).2.1 ≠ (TX0 b).2.1 := by decide +kernel
theorem tyX0_ok : ∀ k, k < 20 → parseFieldDescriptor (TX0 k).2.2.1 = some (tyX0 k) := by decide +kernel
abbrev cX0_init : ByteArray := prog_2_method_1_code
def yX0_init : MethodName := ⟨RX0, "<init>", "()V"⟩
abbrev cX0_copyFrom : ByteArray := prog_2_method_2_code
def yX0_copyFrom : MethodName := ⟨RX0, "copyFrom", "(LBallotFruit$Commune;)V"⟩
abbrev cX0_isParty : ByteArray := prog_2_method_3_code
def yX0_isParty : MethodName := ⟨RX0, "isParty", "(I)Z"⟩
abbrev cX0_isTree : ByteArray := prog_2_method_4_code
def yX0_isTree : MethodName := ⟨RX0, "isTree", "(I)Z"⟩
abbrev cX0_isEater : ByteArray := prog_2_method_5_code
def yX0_isEater : MethodName := ⟨RX0, "isEater", "(I)Z"⟩
abbrev cX0_isFenced : ByteArray := prog_2_method_6_code
def yX0_isFenced : MethodName := ⟨RX0, "isFenced", "(I)Z"⟩
abbrev cX0_turnFence : ByteArray := prog_2_method_7_code
def yX0_turnFence : MethodName := ⟨RX0, "turnFence", "(I)V"⟩
abbrev cX0_tasteFor : ByteArray := prog_2_method_8_code
def yX0_tasteFor : MethodName := ⟨RX0, "tasteFor", "(II)I"⟩
abbrev cX0_addParty : ByteArray := prog_2_method_9_code
def yX0_addParty : MethodName := ⟨RX0, "addParty", "(I)I"⟩
abbrev cX0_addEater : ByteArray := prog_2_method_10_code
def yX0_addEater : MethodName := ⟨RX0, "addEater", "(I)I"⟩
abbrev cX0_addTree : ByteArray := prog_2_method_11_code
def yX0_addTree : MethodName := ⟨RX0, "addTree", "(III)I"⟩
abbrev cX0_setRule : ByteArray := prog_2_method_12_code
def yX0_setRule : MethodName := ⟨RX0, "setRule", "(II)Z"⟩
abbrev cX0_setValue : ByteArray := prog_2_method_13_code
def yX0_setValue : MethodName := ⟨RX0, "setValue", "(III)Z"⟩
abbrev cX0_drawOfThousand : ByteArray := prog_2_method_14_code
def yX0_drawOfThousand : MethodName := ⟨RX0, "drawOfThousand", "()I"⟩
abbrev cX0_cook : ByteArray := prog_2_method_15_code
def yX0_cook : MethodName := ⟨RX0, "cook", "(II)I"⟩
abbrev cX0_hangingOf : ByteArray := prog_2_method_16_code
def yX0_hangingOf : MethodName := ⟨RX0, "hangingOf", "(I)I"⟩
abbrev cX0_treeFor : ByteArray := prog_2_method_17_code
def yX0_treeFor : MethodName := ⟨RX0, "treeFor", "(II)I"⟩
abbrev cX0_jamFor : ByteArray := prog_2_method_18_code
def yX0_jamFor : MethodName := ⟨RX0, "jamFor", "(I)I"⟩
abbrev cX0_seatsOf : ByteArray := prog_2_method_19_code
def yX0_seatsOf : MethodName := ⟨RX0, "seatsOf", "(I)I"⟩
abbrev cX0_partyWithMostSeats : ByteArray := prog_2_method_20_code
def yX0_partyWithMostSeats : MethodName := ⟨RX0, "partyWithMostSeats", "()I"⟩
abbrev cX0_seatAnew : ByteArray := prog_2_method_21_code
def yX0_seatAnew : MethodName := ⟨RX0, "seatAnew", "()V"⟩
abbrev cX0_greatestRemainder : ByteArray := prog_2_method_22_code
def yX0_greatestRemainder : MethodName := ⟨RX0, "greatestRemainder", "(II)I"⟩
abbrev cX0_growOlder : ByteArray := prog_2_method_23_code
def yX0_growOlder : MethodName := ⟨RX0, "growOlder", "()V"⟩
def RX1 : String := "BallotFruit$Cores"
def TX1 : u_T := fun k => match k with
  | 0 => ("BallotFruit$Cores", "count", "I", false)
  | 1 => ("BallotFruit$Cores", "parties", "[I", true)
  | _ => ("BallotFruit$Cores", "places", "[I", true)
def tyX1 : Nat → FieldType := fun k => match k with
  | 0 => .int
  | 1 => .array .int
  | _ => .array .int
abbrev wsX10 : List Cond := u_ws RX1 TX1 3
theorem nmX1 : ∀ a, a < 3 → ∀ b, b < 3 → a ≠ b → (TX1 a).2.1 ≠ (TX1 b).2.1 := by decide +kernel
theorem tyX1_ok : ∀ k, k < 3 → parseFieldDescriptor (TX1 k).2.2.1 = some (tyX1 k) := by decide +kernel
abbrev cX1_init : ByteArray := prog_3_method_1_code
def yX1_init : MethodName := ⟨RX1, "<init>", "()V"⟩
abbrev cX1_copyFrom : ByteArray := prog_3_method_2_code
def yX1_copyFrom : MethodName := ⟨RX1, "copyFrom", "(LBallotFruit$Cores;)V"⟩
abbrev cX1_add : ByteArray := prog_3_method_3_code
def yX1_add : MethodName := ⟨RX1, "add", "(II)I"⟩
abbrev cX1_canBeOf : ByteArray := prog_3_method_4_code
def yX1_canBeOf : MethodName := ⟨RX1, "canBeOf", "(LBallotFruit$Commune;II)Z"⟩
def RX2 : String := "BallotFruit$Law"
def TX2 : u_T := fun k => match k with
  | 0 => ("BallotFruit$Law", "lines", "I", false)
  | 1 => ("BallotFruit$Law", "words", "[I", true)
  | 2 => ("BallotFruit$Law", "starts", "[I", true)
  | 3 => ("BallotFruit$Law", "whens", "[I", true)
  | 4 => ("BallotFruit$Law", "code", "[I", true)
  | 5 => ("BallotFruit$Law", "length", "I", false)
  | 6 => ("BallotFruit$Law", "countsByHanging", "Z", false)
  | 7 => ("BallotFruit$Law", "stack", "[I", true)
  | _ => ("BallotFruit$Law", "asked", "[I", true)
def tyX2 : Nat → FieldType := fun k => match k with
  | 0 => .int
  | 1 => .array .int
  | 2 => .array .int
  | 3 => .array .int
  | 4 => .array .int
  | 5 => .int
  | 6 => .boolean
  | 7 => .array .int
  | _ => .array .int
abbrev wsX20 : List Cond := u_ws RX2 TX2 9
theorem nmX2 : ∀ a, a < 9 → ∀ b, b < 9 → a ≠ b → (TX2 a).2.1 ≠ (TX2 b).2.1 := by decide +kernel
theorem tyX2_ok : ∀ k, k < 9 → parseFieldDescriptor (TX2 k).2.2.1 = some (tyX2 k) := by decide +kernel
abbrev cX2_init : ByteArray := prog_4_method_1_code
def yX2_init : MethodName := ⟨RX2, "<init>", "()V"⟩
abbrev cX2_copyFrom : ByteArray := prog_4_method_2_code
def yX2_copyFrom : MethodName := ⟨RX2, "copyFrom", "(LBallotFruit$Law;)V"⟩
abbrev cX2_clear : ByteArray := prog_4_method_3_code
def yX2_clear : MethodName := ⟨RX2, "clear", "()V"⟩
abbrev cX2_emit : ByteArray := prog_4_method_4_code
def yX2_emit : MethodName := ⟨RX2, "emit", "(II)V"⟩
abbrev cX2_bears : ByteArray := prog_4_method_5_code
def yX2_bears : MethodName := ⟨RX2, "bears", "(LBallotFruit$Commune;I)I"⟩
abbrev cX2_wants : ByteArray := prog_4_method_6_code
def yX2_wants : MethodName := ⟨RX2, "wants", "(LBallotFruit$Commune;I)I"⟩
abbrev cX2_counts : ByteArray := prog_4_method_7_code
def yX2_counts : MethodName := ⟨RX2, "counts", "(LBallotFruit$Commune;III)I"⟩
abbrev cX2_hold : ByteArray := prog_4_method_8_code
def yX2_hold : MethodName := ⟨RX2, "hold", "(II)I"⟩
abbrev cX2_ask : ByteArray := prog_4_method_9_code
def yX2_ask : MethodName := ⟨RX2, "ask", "(LBallotFruit$Commune;I)V"⟩
abbrev cX2_askTree : ByteArray := prog_4_method_10_code
def yX2_askTree : MethodName := ⟨RX2, "askTree", "(LBallotFruit$Commune;I)V"⟩
abbrev cX2_tell : ByteArray := prog_4_method_11_code
def yX2_tell : MethodName := ⟨RX2, "tell", "(II)I"⟩
abbrev cX2_value : ByteArray := prog_4_method_12_code
def yX2_value : MethodName := ⟨RX2, "value", "(II)I"⟩
def RX3 : String := "BallotFruit$Pages"
def TX3 : u_T := fun k => match k with
  | _ => ("BallotFruit$Pages", "rows", "[I", true)
def tyX3 : Nat → FieldType := fun k => match k with
  | _ => .array .int
abbrev wsX30 : List Cond := u_ws RX3 TX3 1
theorem nmX3 : ∀ a, a < 1 → ∀ b, b < 1 → a ≠ b → (TX3 a).2.1 ≠ (TX3 b).2.1 := by decide +kernel
theorem tyX3_ok : ∀ k, k < 1 → parseFieldDescriptor (TX3 k).2.2.1 = some (tyX3 k) := by decide +kernel
abbrev cX3_init : ByteArray := prog_5_method_1_code
def yX3_init : MethodName := ⟨RX3, "<init>", "()V"⟩
abbrev cX3_copyFrom : ByteArray := prog_5_method_2_code
def yX3_copyFrom : MethodName := ⟨RX3, "copyFrom", "(LBallotFruit$Pages;)V"⟩
abbrev cX3_write : ByteArray := prog_5_method_3_code
def yX3_write : MethodName := ⟨RX3, "write", "(LBallotFruit$Commune;III)V"⟩
def RX4 : String := "BallotFruit$Paths"
def TX4 : u_T := fun k => match k with
  | 0 => ("BallotFruit$Paths", "lines", "I", false)
  | 1 => ("BallotFruit$Paths", "lengths", "[I", true)
  | 2 => ("BallotFruit$Paths", "steps", "[I", true)
  | _ => ("BallotFruit$Paths", "passed", "[I", true)
def tyX4 : Nat → FieldType := fun k => match k with
  | 0 => .int
  | 1 => .array .int
  | 2 => .array .int
  | _ => .array .int
abbrev wsX40 : List Cond := u_ws RX4 TX4 4
theorem nmX4 : ∀ a, a < 4 → ∀ b, b < 4 → a ≠ b → (TX4 a).2.1 ≠ (TX4 b).2.1 := by decide +kernel
theorem tyX4_ok : ∀ k, k < 4 → parseFieldDescriptor (TX4 k).2.2.1 = some (tyX4 k) := by decide +kernel
abbrev cX4_init : ByteArray := prog_6_method_1_code
def yX4_init : MethodName := ⟨RX4, "<init>", "()V"⟩
abbrev cX4_copyFrom : ByteArray := prog_6_method_2_code
def yX4_copyFrom : MethodName := ⟨RX4, "copyFrom", "(LBallotFruit$Paths;)V"⟩
abbrev cX4_clear : ByteArray := prog_6_method_3_code
def yX4_clear : MethodName := ⟨RX4, "clear", "()V"⟩
abbrev cX4_clearPath : ByteArray := prog_6_method_4_code
def yX4_clearPath : MethodName := ⟨RX4, "clearPath", "(I)V"⟩
abbrev cX4_addStep : ByteArray := prog_6_method_5_code
def yX4_addStep : MethodName := ⟨RX4, "addStep", "(II)V"⟩
abbrev cX4_step : ByteArray := prog_6_method_6_code
def yX4_step : MethodName := ⟨RX4, "step", "(II)I"⟩
def RX5 : String := "BallotFruit$Plan"
def TX5 : u_T := fun k => match k with
  | 0 => ("BallotFruit$Plan", "lines", "I", false)
  | 1 => ("BallotFruit$Plan", "weeks", "[I", true)
  | 2 => ("BallotFruit$Plan", "whats", "[I", true)
  | 3 => ("BallotFruit$Plan", "whos", "[I", true)
  | _ => ("BallotFruit$Plan", "others", "[I", true)
def tyX5 : Nat → FieldType := fun k => match k with
  | 0 => .int
  | 1 => .array .int
  | 2 => .array .int
  | 3 => .array .int
  | _ => .array .int
abbrev wsX50 : List Cond := u_ws RX5 TX5 5
theorem nmX5 : ∀ a, a < 5 → ∀ b, b < 5 → a ≠ b → (TX5 a).2.1 ≠ (TX5 b).2.1 := by decide +kernel
theorem tyX5_ok : ∀ k, k < 5 → parseFieldDescriptor (TX5 k).2.2.1 = some (tyX5 k) := by decide +kernel
abbrev cX5_init : ByteArray := prog_7_method_1_code
def yX5_init : MethodName := ⟨RX5, "<init>", "()V"⟩
abbrev cX5_copyFrom : ByteArray := prog_7_method_2_code
def yX5_copyFrom : MethodName := ⟨RX5, "copyFrom", "(LBallotFruit$Plan;)V"⟩
def RX6 : String := "BallotFruit$Reader"
def TX6 : u_T := fun k => match k with
  | 0 => ("BallotFruit$Reader", "wrong", "I", false)
  | 1 => ("BallotFruit$Reader", "wrongPlace", "I", false)
  | 2 => ("BallotFruit$Reader", "tape", "LBallotFruit$Tape;", true)
  | 3 => ("BallotFruit$Reader", "law", "LBallotFruit$Law;", true)
  | 4 => ("BallotFruit$Reader", "paths", "LBallotFruit$Paths;", true)
  | 5 => ("BallotFruit$Reader", "plan", "LBallotFruit$Plan;", true)
  | 6 => ("BallotFruit$Reader", "next", "I", false)
  | 7 => ("BallotFruit$Reader", "parties", "I", false)
  | _ => ("BallotFruit$Reader", "eaters", "I", false)
def tyX6 : Nat → FieldType := fun k => match k with
  | 0 => .int
  | 1 => .int
  | 2 => .object "BallotFruit$Tape"
  | 3 => .object "BallotFruit$Law"
  | 4 => .object "BallotFruit$Paths"
  | 5 => .object "BallotFruit$Plan"
  | 6 => .int
  | 7 => .int
  | _ => .int
abbrev wsX60 : List Cond := u_ws RX6 TX6 9
theorem nmX6 : ∀ a, a < 9 → ∀ b, b < 9 → a ≠ b → (TX6 a).2.1 ≠ (TX6 b).2.1 := by decide +kernel
theorem tyX6_ok : ∀ k, k < 9 → parseFieldDescriptor (TX6 k).2.2.1 = some (tyX6 k) := by decide +kernel
abbrev cX6_init : ByteArray := prog_8_method_1_code
def yX6_init : MethodName := ⟨RX6, "<init>", "()V"⟩
abbrev cX6_begin : ByteArray := prog_8_method_2_code
def yX6_begin : MethodName := ⟨RX6, "begin", "(II)V"⟩
abbrev cX6_readLaw : ByteArray := prog_8_method_3_code
def yX6_readLaw : MethodName := ⟨RX6, "readLaw", "(LBallotFruit$Law;)I"⟩
abbrev cX6_readPaths : ByteArray := prog_8_method_4_code
def yX6_readPaths : MethodName := ⟨RX6, "readPaths", "(LBallotFruit$Paths;)I"⟩
abbrev cX6_readPlan : ByteArray := prog_8_method_5_code
def yX6_readPlan : MethodName := ⟨RX6, "readPlan", "(LBallotFruit$Plan;)I"⟩
abbrev cX6_lawLine : ByteArray := prog_8_method_6_code
def yX6_lawLine : MethodName := ⟨RX6, "lawLine", "(I)Z"⟩
abbrev cX6_condition : ByteArray := prog_8_method_7_code
def yX6_condition : MethodName := ⟨RX6, "condition", "(I)Z"⟩
abbrev cX6_single : ByteArray := prog_8_method_8_code
def yX6_single : MethodName := ⟨RX6, "single", "(I)Z"⟩
abbrev cX6_sum : ByteArray := prog_8_method_9_code
def yX6_sum : MethodName := ⟨RX6, "sum", "()Z"⟩
abbrev cX6_operand : ByteArray := prog_8_method_10_code
def yX6_operand : MethodName := ⟨RX6, "operand", "()Z"⟩
abbrev cX6_pathLine : ByteArray := prog_8_method_11_code
def yX6_pathLine : MethodName := ⟨RX6, "pathLine", "(I)Z"⟩
abbrev cX6_planLine : ByteArray := prog_8_method_12_code
def yX6_planLine : MethodName := ⟨RX6, "planLine", "(I)Z"⟩
abbrev cX6_kind : ByteArray := prog_8_method_13_code
def yX6_kind : MethodName := ⟨RX6, "kind", "()I"⟩
abbrev cX6_fail : ByteArray := prog_8_method_14_code
def yX6_fail : MethodName := ⟨RX6, "fail", "(I)Z"⟩
abbrev cX6_takes : ByteArray := prog_8_method_15_code
def yX6_takes : MethodName := ⟨RX6, "takes", "(I)Z"⟩
abbrev cX6_begins : ByteArray := prog_8_method_16_code
def yX6_begins : MethodName := ⟨RX6, "begins", "(II)Z"⟩
abbrev cX6_number : ByteArray := prog_8_method_17_code
def yX6_number : MethodName := ⟨RX6, "number", "(II)I"⟩
def RX7 : String := "BallotFruit$Season"
def TX7 : u_T := fun k => match k with
  | 0 => ("BallotFruit$Season", "isTrue", "Z", true)
  | 1 => ("BallotFruit$Season", "hungry", "I", false)
  | 2 => ("BallotFruit$Season", "firstHungry", "I", false)
  | 3 => ("BallotFruit$Season", "firstWeek", "I", false)
  | _ => ("BallotFruit$Season", "counted", "[I", true)
def tyX7 : Nat → FieldType := fun k => match k with
  | 0 => .boolean
  | 1 => .int
  | 2 => .int
  | 3 => .int
  | _ => .array .int
abbrev wsX70 : List Cond := u_ws RX7 TX7 5
theorem nmX7 : ∀ a, a < 5 → ∀ b, b < 5 → a ≠ b → (TX7 a).2.1 ≠ (TX7 b).2.1 := by decide +kernel
theorem tyX7_ok : ∀ k, k < 5 → parseFieldDescriptor (TX7 k).2.2.1 = some (tyX7 k) := by decide +kernel
abbrev cX7_init : ByteArray := prog_9_method_1_code
def yX7_init : MethodName := ⟨RX7, "<init>", "(Z)V"⟩
abbrev cX7_pass : ByteArray := prog_9_method_2_code
def yX7_pass : MethodName := ⟨RX7, "pass", "(LBallotFruit$Whole;LBallotFruit$Commune;I)V"⟩
abbrev cX7_begin : ByteArray := prog_9_method_3_code
def yX7_begin : MethodName := ⟨RX7, "begin", "()V"⟩
abbrev cX7_follow : ByteArray := prog_9_method_4_code
def yX7_follow : MethodName := ⟨RX7, "follow", "(LBallotFruit$Whole;LBallotFruit$Commune;)V"⟩
abbrev cX7_note : ByteArray := prog_9_method_5_code
def yX7_note : MethodName := ⟨RX7, "note", "(LBallotFruit$Whole;LBallotFruit$Commune;III)V"⟩
abbrev cX7_act : ByteArray := prog_9_method_6_code
def yX7_act : MethodName := ⟨RX7, "act", "(LBallotFruit$Whole;LBallotFruit$Commune;I)V"⟩
abbrev cX7_eat : ByteArray := prog_9_method_7_code
def yX7_eat : MethodName := ⟨RX7, "eat", "(LBallotFruit$Whole;LBallotFruit$Commune;I)V"⟩
abbrev cX7_pick : ByteArray := prog_9_method_8_code
def yX7_pick : MethodName := ⟨RX7, "pick", "(LBallotFruit$Whole;LBallotFruit$Commune;III)I"⟩
abbrev cX7_spoon : ByteArray := prog_9_method_9_code
def yX7_spoon : MethodName := ⟨RX7, "spoon", "(LBallotFruit$Whole;LBallotFruit$Commune;II)I"⟩
abbrev cX7_count : ByteArray := prog_9_method_10_code
def yX7_count : MethodName := ⟨RX7, "count", "(LBallotFruit$Commune;II)V"⟩
abbrev cX7_sting : ByteArray := prog_9_method_11_code
def yX7_sting : MethodName := ⟨RX7, "sting", "(LBallotFruit$Whole;LBallotFruit$Commune;)V"⟩
abbrev cX7_vote : ByteArray := prog_9_method_12_code
def yX7_vote : MethodName := ⟨RX7, "vote", "(LBallotFruit$Whole;LBallotFruit$Commune;)V"⟩
def RX8 : String := "BallotFruit$Tape"
def TX8 : u_T := fun k => match k with
  | 0 => ("BallotFruit$Tape", "bytes", "[I", true)
  | 1 => ("BallotFruit$Tape", "length", "I", false)
  | 2 => ("BallotFruit$Tape", "kinds", "[I", true)
  | 3 => ("BallotFruit$Tape", "places", "[I", true)
  | 4 => ("BallotFruit$Tape", "values", "[I", true)
  | _ => ("BallotFruit$Tape", "tokens", "I", false)
def tyX8 : Nat → FieldType := fun k => match k with
  | 0 => .array .int
  | 1 => .int
  | 2 => .array .int
  | 3 => .array .int
  | 4 => .array .int
  | _ => .int
abbrev wsX80 : List Cond := u_ws RX8 TX8 6
theorem nmX8 : ∀ a, a < 6 → ∀ b, b < 6 → a ≠ b → (TX8 a).2.1 ≠ (TX8 b).2.1 := by decide +kernel
theorem tyX8_ok : ∀ k, k < 6 → parseFieldDescriptor (TX8 k).2.2.1 = some (tyX8 k) := by decide +kernel
abbrev cX8_init : ByteArray := prog_10_method_1_code
def yX8_init : MethodName := ⟨RX8, "<init>", "()V"⟩
abbrev cX8_addFour : ByteArray := prog_10_method_2_code
def yX8_addFour : MethodName := ⟨RX8, "addFour", "(I)V"⟩
abbrev cX8_cut : ByteArray := prog_10_method_3_code
def yX8_cut : MethodName := ⟨RX8, "cut", "(Ljava/lang/String;)V"⟩
abbrev cX8_addToken : ByteArray := prog_10_method_4_code
def yX8_addToken : MethodName := ⟨RX8, "addToken", "(III)V"⟩
abbrev cX8_isLetter : ByteArray := prog_10_method_5_code
def yX8_isLetter : MethodName := ⟨RX8, "isLetter", "(I)Z"⟩
abbrev cX8_isDigit : ByteArray := prog_10_method_6_code
def yX8_isDigit : MethodName := ⟨RX8, "isDigit", "(I)Z"⟩
abbrev cX8_isSign : ByteArray := prog_10_method_7_code
def yX8_isSign : MethodName := ⟨RX8, "isSign", "(I)Z"⟩
abbrev cX8_number : ByteArray := prog_10_method_8_code
def yX8_number : MethodName := ⟨RX8, "number", "(II)I"⟩
abbrev cX8_word : ByteArray := prog_10_method_9_code
def yX8_word : MethodName := ⟨RX8, "word", "(Ljava/lang/String;II)I"⟩
def RX9 : String := "BallotFruit$Whole"
def TX9 : u_T := fun k => match k with
  | 0 => ("BallotFruit$Whole", "commune", "LBallotFruit$Commune;", true)
  | 1 => ("BallotFruit$Whole", "law", "LBallotFruit$Law;", true)
  | 2 => ("BallotFruit$Whole", "paths", "LBallotFruit$Paths;", true)
  | 3 => ("BallotFruit$Whole", "plan", "LBallotFruit$Plan;", true)
  | 4 => ("BallotFruit$Whole", "cores", "LBallotFruit$Cores;", true)
  | _ => ("BallotFruit$Whole", "pages", "LBallotFruit$Pages;", true)
def tyX9 : Nat → FieldType := fun k => match k with
  | 0 => .object "BallotFruit$Commune"
  | 1 => .object "BallotFruit$Law"
  | 2 => .object "BallotFruit$Paths"
  | 3 => .object "BallotFruit$Plan"
  | 4 => .object "BallotFruit$Cores"
  | _ => .object "BallotFruit$Pages"
abbrev wsX90 : List Cond := u_ws RX9 TX9 6
theorem nmX9 : ∀ a, a < 6 → ∀ b, b < 6 → a ≠ b → (TX9 a).2.1 ≠ (TX9 b).2.1 := by decide +kernel
theorem tyX9_ok : ∀ k, k < 6 → parseFieldDescriptor (TX9 k).2.2.1 = some (tyX9 k) := by decide +kernel
abbrev cX9_init : ByteArray := prog_11_method_1_code
def yX9_init : MethodName := ⟨RX9, "<init>", "()V"⟩
abbrev cX9_copyFrom : ByteArray := prog_11_method_2_code
def yX9_copyFrom : MethodName := ⟨RX9, "copyFrom", "(LBallotFruit$Whole;)V"⟩
def RX10 : String := "BallotFruit"
def TX10 : u_T := fun k => match k with
  | 0 => ("BallotFruit", "now", "LBallotFruit$Whole;", true)
  | 1 => ("BallotFruit", "here", "LBallotFruit$Commune;", true)
  | 2 => ("BallotFruit", "picture", "LBallotFruit$Whole;", true)
  | 3 => ("BallotFruit", "isPicture", "Z", false)
  | 4 => ("BallotFruit", "kept", "[LBallotFruit$Commune;", true)
  | 5 => ("BallotFruit", "keptCount", "I", false)
  | 6 => ("BallotFruit", "keptNext", "I", false)
  | 7 => ("BallotFruit", "reader", "LBallotFruit$Reader;", true)
  | 8 => ("BallotFruit", "tape", "LBallotFruit$Tape;", true)
  | 9 => ("BallotFruit", "lived", "LBallotFruit$Season;", true)
  | 10 => ("BallotFruit", "imagined", "LBallotFruit$Season;", true)
  | 11 => ("BallotFruit", "thought", "LBallotFruit$Commune;", true)
  | _ => ("BallotFruit", "ways", "[J", true)
def tyX10 : Nat → FieldType := fun k => match k with
  | 0 => .object "BallotFruit$Whole"
  | 1 => .object "BallotFruit$Commune"
  | 2 => .object "BallotFruit$Whole"
  | 3 => .boolean
  | 4 => .array (.object "BallotFruit$Commune")
  | 5 => .int
  | 6 => .int
  | 7 => .object "BallotFruit$Reader"
  | 8 => .object "BallotFruit$Tape"
  | 9 => .object "BallotFruit$Season"
  | 10 => .object "BallotFruit$Season"
  | 11 => .object "BallotFruit$Commune"
  | _ => .array .long
abbrev wsX100 : List Cond := u_ws RX10 TX10 13
theorem nmX10 : ∀ a, a < 13 → ∀ b, b < 13 → a ≠ b → (TX10 a).2.1 ≠ (TX10 b).2.1 := by decide +kernel
theorem tyX10_ok : ∀ k, k < 13 → parseFieldDescriptor (TX10 k).2.2.1 = some (tyX10 k) := by decide +kernel
abbrev cX10_init : ByteArray := prog_1_method_1_code
def yX10_init : MethodName := ⟨RX10, "<init>", "()V"⟩
abbrev cX10_state : ByteArray := prog_1_method_2_code
def yX10_state : MethodName := ⟨RX10, "state", "(I)I"⟩
abbrev cX10_party : ByteArray := prog_1_method_3_code
def yX10_party : MethodName := ⟨RX10, "party", "(I)I"⟩
abbrev cX10_eater : ByteArray := prog_1_method_4_code
def yX10_eater : MethodName := ⟨RX10, "eater", "(I)I"⟩
abbrev cX10_taste : ByteArray := prog_1_method_5_code
def yX10_taste : MethodName := ⟨RX10, "taste", "(III)Z"⟩
abbrev cX10_set : ByteArray := prog_1_method_6_code
def yX10_set : MethodName := ⟨RX10, "set", "(III)Z"⟩
abbrev cX10_plant : ByteArray := prog_1_method_7_code
def yX10_plant : MethodName := ⟨RX10, "plant", "(III)I"⟩
abbrev cX10_fence : ByteArray := prog_1_method_8_code
def yX10_fence : MethodName := ⟨RX10, "fence", "(IZ)Z"⟩
abbrev cX10_boil : ByteArray := prog_1_method_9_code
def yX10_boil : MethodName := ⟨RX10, "boil", "(II)I"⟩
abbrev cX10_weeks : ByteArray := prog_1_method_10_code
def yX10_weeks : MethodName := ⟨RX10, "weeks", "(I)I"⟩
abbrev cX10_feed : ByteArray := prog_1_method_11_code
def yX10_feed : MethodName := ⟨RX10, "feed", "(IIIII)I"⟩
abbrev cX10_end : ByteArray := prog_1_method_12_code
def yX10_end : MethodName := ⟨RX10, "end", "(I)Z"⟩
abbrev cX10_text : ByteArray := prog_1_method_13_code
def yX10_text : MethodName := ⟨RX10, "text", "(I)I"⟩
abbrev cX10_fault : ByteArray := prog_1_method_14_code
def yX10_fault : MethodName := ⟨RX10, "fault", "(I)I"⟩
abbrev cX10_of : ByteArray := prog_1_method_15_code
def yX10_of : MethodName := ⟨RX10, "of", "(II)I"⟩
abbrev cX10_tree : ByteArray := prog_1_method_16_code
def yX10_tree : MethodName := ⟨RX10, "tree", "(II)I"⟩
abbrev cX10_who : ByteArray := prog_1_method_17_code
def yX10_who : MethodName := ⟨RX10, "who", "(II)I"⟩
abbrev cX10_at : ByteArray := prog_1_method_18_code
def yX10_at : MethodName := ⟨RX10, "at", "(I)I"⟩
abbrev cX10_book : ByteArray := prog_1_method_19_code
def yX10_book : MethodName := ⟨RX10, "book", "(II)I"⟩
abbrev cX10_goes : ByteArray := prog_1_method_20_code
def yX10_goes : MethodName := ⟨RX10, "goes", "(III)I"⟩
abbrev cX10_falls : ByteArray := prog_1_method_21_code
def yX10_falls : MethodName := ⟨RX10, "falls", "(I)I"⟩
abbrev cX10_brings : ByteArray := prog_1_method_22_code
def yX10_brings : MethodName := ⟨RX10, "brings", "(III)I"⟩
abbrev cX10_swings : ByteArray := prog_1_method_23_code
def yX10_swings : MethodName := ⟨RX10, "swings", "(II)I"⟩
abbrev cX10_feeds : ByteArray := prog_1_method_24_code
def yX10_feeds : MethodName := ⟨RX10, "feeds", "(I)I"⟩
abbrev cX10_core : ByteArray := prog_1_method_25_code
def yX10_core : MethodName := ⟨RX10, "core", "(II)I"⟩
abbrev cX10_whose : ByteArray := prog_1_method_26_code
def yX10_whose : MethodName := ⟨RX10, "whose", "(I)I"⟩
abbrev cX10_left : ByteArray := prog_1_method_27_code
def yX10_left : MethodName := ⟨RX10, "left", "(I)I"⟩
abbrev cX10_rules : ByteArray := prog_1_method_28_code
def yX10_rules : MethodName := ⟨RX10, "rules", "(I)I"⟩
abbrev cX10_weighs : ByteArray := prog_1_method_29_code
def yX10_weighs : MethodName := ⟨RX10, "weighs", "(I)I"⟩
abbrev cX10_lasts : ByteArray := prog_1_method_30_code
def yX10_lasts : MethodName := ⟨RX10, "lasts", "(I)I"⟩
abbrev cX10_meets : ByteArray := prog_1_method_31_code
def yX10_meets : MethodName := ⟨RX10, "meets", "(II)I"⟩
abbrev cX10_game : ByteArray := prog_1_method_32_code
def yX10_game : MethodName := ⟨RX10, "game", "(I)I"⟩
abbrev cX10_undo : ByteArray := prog_1_method_33_code
def yX10_undo : MethodName := ⟨RX10, "undo", "()Z"⟩
abbrev cX10_image : ByteArray := prog_1_method_34_code
def yX10_image : MethodName := ⟨RX10, "image", "(Z)Z"⟩
abbrev cX10_look : ByteArray := prog_1_method_35_code
def yX10_look : MethodName := ⟨RX10, "look", "(I)I"⟩
abbrev cX10_isWithin : ByteArray := prog_1_method_36_code
def yX10_isWithin : MethodName := ⟨RX10, "isWithin", "(III)Z"⟩
abbrev cX10_isPlace : ByteArray := prog_1_method_37_code
def yX10_isPlace : MethodName := ⟨RX10, "isPlace", "(I)Z"⟩
abbrev cX10_forget : ByteArray := prog_1_method_38_code
def yX10_forget : MethodName := ⟨RX10, "forget", "()V"⟩
abbrev cX10_keep : ByteArray := prog_1_method_39_code
def yX10_keep : MethodName := ⟨RX10, "keep", "()V"⟩
abbrev cX10_weeksToLastSeating : ByteArray := prog_1_method_40_code
def yX10_weeksToLastSeating : MethodName := ⟨RX10, "weeksToLastSeating", "(I)I"⟩
abbrev cX10_firstPartyBehind : ByteArray := prog_1_method_41_code
def yX10_firstPartyBehind : MethodName := ⟨RX10, "firstPartyBehind", "(III)I"⟩
abbrev cX10_isEachFedAt : ByteArray := prog_1_method_42_code
def yX10_isEachFedAt : MethodName := ⟨RX10, "isEachFedAt", "(I)Z"⟩
abbrev cX10_askNext : ByteArray := prog_1_method_43_code
def yX10_askNext : MethodName := ⟨RX10, "askNext", "(I)I"⟩
abbrev cX10_leaveUpTo : ByteArray := prog_1_method_44_code
def yX10_leaveUpTo : MethodName := ⟨RX10, "leaveUpTo", "(II)V"⟩
abbrev cX10_goodPick : ByteArray := prog_1_method_45_code
def yX10_goodPick : MethodName := ⟨RX10, "goodPick", "(II)I"⟩
def RX11 : String := "BallotFruitModel"
def TX11 : u_T := fun k => match k with
  | 0 => ("BallotFruitModel", "told", "I", false)
  | 1 => ("BallotFruitModel", "now", "[I", true)
  | 2 => ("BallotFruitModel", "rows", "[I", true)
  | 3 => ("BallotFruitModel", "undoable", "I", false)
  | 4 => ("BallotFruitModel", "waiting", "[I", true)
  | 5 => ("BallotFruitModel", "isThought", "Z", false)
  | 6 => ("BallotFruitModel", "parties", "I", false)
  | 7 => ("BallotFruitModel", "eaters", "I", false)
  | 8 => ("BallotFruitModel", "badOdds", "I", false)
  | 9 => ("BallotFruitModel", "waspOdds", "I", false)
  | 10 => ("BallotFruitModel", "chairsBut", "I", false)
  | 11 => ("BallotFruitModel", "everyBut", "I", false)
  | 12 => ("BallotFruitModel", "book", "[I", true)
  | 13 => ("BallotFruitModel", "tape", "[I", true)
  | 14 => ("BallotFruitModel", "taped", "I", false)
  | 15 => ("BallotFruitModel", "spot", "I", false)
  | 16 => ("BallotFruitModel", "from", "I", false)
  | 17 => ("BallotFruitModel", "token", "I", false)
  | 18 => ("BallotFruitModel", "value", "I", false)
  | 19 => ("BallotFruitModel", "words", "[I", true)
  | 20 => ("BallotFruitModel", "lineMany", "[I", true)
  | 21 => ("BallotFruitModel", "lineWord", "[I", true)
  | 22 => ("BallotFruitModel", "lineFrom", "[I", true)
  | 23 => ("BallotFruitModel", "lineWhen", "[I", true)
  | 24 => ("BallotFruitModel", "lineTo", "[I", true)
  | 25 => ("BallotFruitModel", "op", "[I", true)
  | 26 => ("BallotFruitModel", "arg", "[I", true)
  | 27 => ("BallotFruitModel", "which", "I", false)
  | 28 => ("BallotFruitModel", "codes", "I", false)
  | 29 => ("BallotFruitModel", "open", "I", false)
  | 30 => ("BallotFruitModel", "pending", "[I", true)
  | 31 => ("BallotFruitModel", "pendings", "I", false)
  | 32 => ("BallotFruitModel", "readFault", "I", false)
  | 33 => ("BallotFruitModel", "readPlace", "I", false)
  | 34 => ("BallotFruitModel", "faultKind", "I", false)
  | 35 => ("BallotFruitModel", "faultPlace", "I", false)
  | 36 => ("BallotFruitModel", "pathLines", "I", false)
  | 37 => ("BallotFruitModel", "paths", "[I", true)
  | 38 => ("BallotFruitModel", "planMany", "I", false)
  | 39 => ("BallotFruitModel", "plan", "[I", true)
  | 40 => ("BallotFruitModel", "asked", "[I", true)
  | 41 => ("BallotFruitModel", "stack", "[I", true)
  | 42 => ("BallotFruitModel", "gained", "I", false)
  | 43 => ("BallotFruitModel", "gainedFor", "I", false)
  | 44 => ("BallotFruitModel", "hungryFirst", "I", false)
  | 45 => ("BallotFruitModel", "hungryWeek", "I", false)
  | 46 => ("BallotFruitModel", "given", "[I", true)
  | 47 => ("BallotFruitModel", "remains", "[I", true)
  | 48 => ("BallotFruitModel", "coreMany", "I", false)
  | 49 => ("BallotFruitModel", "cores", "[I", true)
  | 50 => ("BallotFruitModel", "ways", "[I", true)
  | 51 => ("BallotFruitModel", "waysThen", "[I", true)
  | 52 => ("BallotFruitModel", "isTaking", "Z", false)
  | 53 => ("BallotFruitModel", "hasImage", "Z", false)
  | 54 => ("BallotFruitModel", "keptAt", "I", false)
  | _ => ("BallotFruitModel", "images", "[I", true)
def tyX11 : Nat → FieldType := fun k => match k with
  | 0 => .int
  | 1 => .array .int
  | 2 => .array .int
  | 3 => .int
  | 4 => .array .int
  | 5 => .boolean
  | 6 => .int
  | 7 => .int
  | 8 => .int
  | 9 => .int
  | 10 => .int
  | 11 => .int
  | 12 => .array .int
  | 13 => .array .int
  | 14 => .int
  | 15 => .int
  | 16 => .int
  | 17 => .int
  | 18 => .int
  | 19 => .array .int
  | 20 => .array .int
  | 21 => .array .int
  | 22 => .array .int
  | 23 => .array .int
  | 24 => .array .int
  | 25 => .array .int
  | 26 => .array .int
  | 27 => .int
  | 28 => .int
  | 29 => .int
  | 30 => .array .int
  | 31 => .int
  | 32 => .int
  | 33 => .int
  | 34 => .int
  | 35 => .int
  | 36 => .int
  | 37 => .array .int
  | 38 => .int
  | 39 => .array .int
  | 40 => .array .int
  | 41 => .array .int
  | 42 => .int
  | 43 => .int
  | 44 => .int
  | 45 => .int
  | 46 => .array .int
  | 47 => .array .int
  | 48 => .int
  | 49 => .array .int
  | 50 => .array .int
  | 51 => .array .int
  | 52 => .boolean
  | 53 => .boolean
  | 54 => .int
  | _ => .array .int
abbrev wsX110 : List Cond := u_ws RX11 TX11 56
theorem nmX11 : ∀ a, a < 56 → ∀ b, b < 56 → a ≠ b → (TX11 a).2.1 ≠ (TX11 b).2.1 := by decide +kernel
theorem tyX11_ok : ∀ k, k < 56 → parseFieldDescriptor (TX11 k).2.2.1 = some (tyX11 k) := by decide +kernel
abbrev cX11_init : ByteArray := prog_13_method_1_code
def yX11_init : MethodName := ⟨RX11, "<init>", "()V"⟩
abbrev cX11_isIn : ByteArray := prog_13_method_3_code
def yX11_isIn : MethodName := ⟨RX11, "isIn", "(III)Z"⟩
abbrev cX11_held : ByteArray := prog_13_method_4_code
def yX11_held : MethodName := ⟨RX11, "held", "(III)I"⟩
abbrev cX11_greater : ByteArray := prog_13_method_5_code
def yX11_greater : MethodName := ⟨RX11, "greater", "(II)I"⟩
abbrev cX11_lesser : ByteArray := prog_13_method_6_code
def yX11_lesser : MethodName := ⟨RX11, "lesser", "(II)I"⟩
abbrev cX11_onesOf : ByteArray := prog_13_method_7_code
def yX11_onesOf : MethodName := ⟨RX11, "onesOf", "(I)I"⟩
abbrev cX11_has : ByteArray := prog_13_method_8_code
def yX11_has : MethodName := ⟨RX11, "has", "(II)Z"⟩
abbrev cX11_keepsAhead : ByteArray := prog_13_method_9_code
def yX11_keepsAhead : MethodName := ⟨RX11, "keepsAhead", "()V"⟩
abbrev cX11_undo : ByteArray := prog_13_method_10_code
def yX11_undo : MethodName := ⟨RX11, "undo", "()Z"⟩
abbrev cX11_thinks : ByteArray := prog_13_method_11_code
def yX11_thinks : MethodName := ⟨RX11, "thinks", "()V"⟩
abbrev cX11_thinksAnew : ByteArray := prog_13_method_12_code
def yX11_thinksAnew : MethodName := ⟨RX11, "thinksAnew", "()V"⟩
abbrev cX11_endsThought : ByteArray := prog_13_method_13_code
def yX11_endsThought : MethodName := ⟨RX11, "endsThought", "()V"⟩
abbrev cX11_state : ByteArray := prog_13_method_14_code
def yX11_state : MethodName := ⟨RX11, "state", "(I)I"⟩
abbrev cX11_draw : ByteArray := prog_13_method_15_code
def yX11_draw : MethodName := ⟨RX11, "draw", "(I)I"⟩
abbrev cX11_chairs : ByteArray := prog_13_method_16_code
def yX11_chairs : MethodName := ⟨RX11, "chairs", "()I"⟩
abbrev cX11_every : ByteArray := prog_13_method_17_code
def yX11_every : MethodName := ⟨RX11, "every", "()I"⟩
abbrev cX11_isParty : ByteArray := prog_13_method_18_code
def yX11_isParty : MethodName := ⟨RX11, "isParty", "(I)Z"⟩
abbrev cX11_isEater : ByteArray := prog_13_method_19_code
def yX11_isEater : MethodName := ⟨RX11, "isEater", "(I)Z"⟩
abbrev cX11_isPlace : ByteArray := prog_13_method_20_code
def yX11_isPlace : MethodName := ⟨RX11, "isPlace", "(I)Z"⟩
abbrev cX11_isTree : ByteArray := prog_13_method_21_code
def yX11_isTree : MethodName := ⟨RX11, "isTree", "(I)Z"⟩
abbrev cX11_tasteOf : ByteArray := prog_13_method_22_code
def yX11_tasteOf : MethodName := ⟨RX11, "tasteOf", "(II)I"⟩
abbrev cX11_tasteBe : ByteArray := prog_13_method_23_code
def yX11_tasteBe : MethodName := ⟨RX11, "tasteBe", "(III)V"⟩
abbrev cX11_party : ByteArray := prog_13_method_24_code
def yX11_party : MethodName := ⟨RX11, "party", "(I)I"⟩
abbrev cX11_eater : ByteArray := prog_13_method_25_code
def yX11_eater : MethodName := ⟨RX11, "eater", "(I)I"⟩
abbrev cX11_taste : ByteArray := prog_13_method_26_code
def yX11_taste : MethodName := ⟨RX11, "taste", "(III)Z"⟩
abbrev cX11_canSet : ByteArray := prog_13_method_27_code
def yX11_canSet : MethodName := ⟨RX11, "canSet", "(III)Z"⟩
abbrev cX11_set : ByteArray := prog_13_method_28_code
def yX11_set : MethodName := ⟨RX11, "set", "(III)Z"⟩
abbrev cX11_types : ByteArray := prog_13_method_29_code
def yX11_types : MethodName := ⟨RX11, "types", "(I)V"⟩
abbrev cX11_feed : ByteArray := prog_13_method_30_code
def yX11_feed : MethodName := ⟨RX11, "feed", "(IIIII)I"⟩
abbrev cX11_end : ByteArray := prog_13_method_31_code
def yX11_end : MethodName := ⟨RX11, "end", "(I)Z"⟩
abbrev cX11_raw : ByteArray := prog_13_method_32_code
def yX11_raw : MethodName := ⟨RX11, "raw", "(I)I"⟩
abbrev cX11_isLetter : ByteArray := prog_13_method_33_code
def yX11_isLetter : MethodName := ⟨RX11, "isLetter", "(I)Z"⟩
abbrev cX11_isDigit : ByteArray := prog_13_method_34_code
def yX11_isDigit : MethodName := ⟨RX11, "isDigit", "(I)Z"⟩
abbrev cX11_isMarkSign : ByteArray := prog_13_method_35_code
def yX11_isMarkSign : MethodName := ⟨RX11, "isMarkSign", "(I)Z"⟩
abbrev cX11_wordAt : ByteArray := prog_13_method_36_code
def yX11_wordAt : MethodName := ⟨RX11, "wordAt", "(II)I"⟩
abbrev cX11_reads : ByteArray := prog_13_method_37_code
def yX11_reads : MethodName := ⟨RX11, "reads", "()V"⟩
abbrev cX11_errs : ByteArray := prog_13_method_38_code
def yX11_errs : MethodName := ⟨RX11, "errs", "(I)I"⟩
abbrev cX11_isWord : ByteArray := prog_13_method_39_code
def yX11_isWord : MethodName := ⟨RX11, "isWord", "(I)Z"⟩
abbrev cX11_isSign : ByteArray := prog_13_method_40_code
def yX11_isSign : MethodName := ⟨RX11, "isSign", "(I)Z"⟩
abbrev cX11_emits : ByteArray := prog_13_method_41_code
def yX11_emits : MethodName := ⟨RX11, "emits", "(II)V"⟩
abbrev cX11_canAsk : ByteArray := prog_13_method_42_code
def yX11_canAsk : MethodName := ⟨RX11, "canAsk", "(I)Z"⟩
abbrev cX11_readUnit : ByteArray := prog_13_method_43_code
def yX11_readUnit : MethodName := ⟨RX11, "readUnit", "()I"⟩
abbrev cX11_readProduct : ByteArray := prog_13_method_44_code
def yX11_readProduct : MethodName := ⟨RX11, "readProduct", "()I"⟩
abbrev cX11_readSum : ByteArray := prog_13_method_45_code
def yX11_readSum : MethodName := ⟨RX11, "readSum", "()I"⟩
abbrev cX11_readCompared : ByteArray := prog_13_method_46_code
def yX11_readCompared : MethodName := ⟨RX11, "readCompared", "()I"⟩
abbrev cX11_waits : ByteArray := prog_13_method_47_code
def yX11_waits : MethodName := ⟨RX11, "waits", "(I)V"⟩
abbrev cX11_settles : ByteArray := prog_13_method_48_code
def yX11_settles : MethodName := ⟨RX11, "settles", "(I)V"⟩
abbrev cX11_readAny : ByteArray := prog_13_method_49_code
def yX11_readAny : MethodName := ⟨RX11, "readAny", "()I"⟩
abbrev cX11_isLineWord : ByteArray := prog_13_method_50_code
def yX11_isLineWord : MethodName := ⟨RX11, "isLineWord", "()Z"⟩
abbrev cX11_readLaw : ByteArray := prog_13_method_51_code
def yX11_readLaw : MethodName := ⟨RX11, "readLaw", "()I"⟩
abbrev cX11_takesLaw : ByteArray := prog_13_method_52_code
def yX11_takesLaw : MethodName := ⟨RX11, "takesLaw", "(I)V"⟩
abbrev cX11_readNumber : ByteArray := prog_13_method_53_code
def yX11_readNumber : MethodName := ⟨RX11, "readNumber", "(II)I"⟩
abbrev cX11_readMark : ByteArray := prog_13_method_54_code
def yX11_readMark : MethodName := ⟨RX11, "readMark", "(I)I"⟩
abbrev cX11_readTold : ByteArray := prog_13_method_55_code
def yX11_readTold : MethodName := ⟨RX11, "readTold", "(III)I"⟩
abbrev cX11_readPath : ByteArray := prog_13_method_56_code
def yX11_readPath : MethodName := ⟨RX11, "readPath", "()I"⟩
abbrev cX11_readPaths : ByteArray := prog_13_method_57_code
def yX11_readPaths : MethodName := ⟨RX11, "readPaths", "()I"⟩
abbrev cX11_readDeed : ByteArray := prog_13_method_58_code
def yX11_readDeed : MethodName := ⟨RX11, "readDeed", "(II)I"⟩
abbrev cX11_readPlanLine : ByteArray := prog_13_method_59_code
def yX11_readPlanLine : MethodName := ⟨RX11, "readPlanLine", "(I)I"⟩
abbrev cX11_readPlan : ByteArray := prog_13_method_60_code
def yX11_readPlan : MethodName := ⟨RX11, "readPlan", "()I"⟩
abbrev cX11_readsText : ByteArray := prog_13_method_61_code
def yX11_readsText : MethodName := ⟨RX11, "readsText", "(I)I"⟩
abbrev cX11_takesOther : ByteArray := prog_13_method_62_code
def yX11_takesOther : MethodName := ⟨RX11, "takesOther", "(II)V"⟩
abbrev cX11_text : ByteArray := prog_13_method_63_code
def yX11_text : MethodName := ⟨RX11, "text", "(I)I"⟩
abbrev cX11_fault : ByteArray := prog_13_method_64_code
def yX11_fault : MethodName := ⟨RX11, "fault", "(I)I"⟩
abbrev cX11_twoOf : ByteArray := prog_13_method_65_code
def yX11_twoOf : MethodName := ⟨RX11, "twoOf", "(III)I"⟩
abbrev cX11_runs : ByteArray := prog_13_method_66_code
def yX11_runs : MethodName := ⟨RX11, "runs", "(III)I"⟩
abbrev cX11_lineOf : ByteArray := prog_13_method_67_code
def yX11_lineOf : MethodName := ⟨RX11, "lineOf", "(I)I"⟩
abbrev cX11_asks : ByteArray := prog_13_method_68_code
def yX11_asks : MethodName := ⟨RX11, "asks", "(IIII)V"⟩
abbrev cX11_lawTells : ByteArray := prog_13_method_69_code
def yX11_lawTells : MethodName := ⟨RX11, "lawTells", "(III)I"⟩
abbrev cX11_bearOf : ByteArray := prog_13_method_70_code
def yX11_bearOf : MethodName := ⟨RX11, "bearOf", "(I)I"⟩
abbrev cX11_wantOf : ByteArray := prog_13_method_71_code
def yX11_wantOf : MethodName := ⟨RX11, "wantOf", "(I)I"⟩
abbrev cX11_countOf : ByteArray := prog_13_method_72_code
def yX11_countOf : MethodName := ⟨RX11, "countOf", "(III)I"⟩
abbrev cX11_notes : ByteArray := prog_13_method_73_code
def yX11_notes : MethodName := ⟨RX11, "notes", "(III)V"⟩
abbrev cX11_plants : ByteArray := prog_13_method_74_code
def yX11_plants : MethodName := ⟨RX11, "plants", "(III)I"⟩
abbrev cX11_isFenced : ByteArray := prog_13_method_75_code
def yX11_isFenced : MethodName := ⟨RX11, "isFenced", "(I)Z"⟩
abbrev cX11_fences : ByteArray := prog_13_method_76_code
def yX11_fences : MethodName := ⟨RX11, "fences", "(IZ)V"⟩
abbrev cX11_boils : ByteArray := prog_13_method_77_code
def yX11_boils : MethodName := ⟨RX11, "boils", "(II)I"⟩
abbrev cX11_plant : ByteArray := prog_13_method_78_code
def yX11_plant : MethodName := ⟨RX11, "plant", "(III)I"⟩
abbrev cX11_fence : ByteArray := prog_13_method_79_code
def yX11_fence : MethodName := ⟨RX11, "fence", "(IZ)Z"⟩
abbrev cX11_boil : ByteArray := prog_13_method_80_code
def yX11_boil : MethodName := ⟨RX11, "boil", "(II)I"⟩
abbrev cX11_counts : ByteArray := prog_13_method_81_code
def yX11_counts : MethodName := ⟨RX11, "counts", "(II)V"⟩
abbrev cX11_treeFor : ByteArray := prog_13_method_82_code
def yX11_treeFor : MethodName := ⟨RX11, "treeFor", "(II)I"⟩
abbrev cX11_jamFor : ByteArray := prog_13_method_83_code
def yX11_jamFor : MethodName := ⟨RX11, "jamFor", "(I)I"⟩
abbrev cX11_isGood : ByteArray := prog_13_method_84_code
def yX11_isGood : MethodName := ⟨RX11, "isGood", "(II)Z"⟩
abbrev cX11_leftByPath : ByteArray := prog_13_method_85_code
def yX11_leftByPath : MethodName := ⟨RX11, "leftByPath", "(II)I"⟩
abbrev cX11_isHungry : ByteArray := prog_13_method_86_code
def yX11_isHungry : MethodName := ⟨RX11, "isHungry", "(I)Z"⟩
abbrev cX11_votesInAll : ByteArray := prog_13_method_87_code
def yX11_votesInAll : MethodName := ⟨RX11, "votesInAll", "()I"⟩
abbrev cX11_isAhead : ByteArray := prog_13_method_88_code
def yX11_isAhead : MethodName := ⟨RX11, "isAhead", "(II)Z"⟩
abbrev cX11_findsGiven : ByteArray := prog_13_method_89_code
def yX11_findsGiven : MethodName := ⟨RX11, "findsGiven", "()V"⟩
abbrev cX11_strongest : ByteArray := prog_13_method_90_code
def yX11_strongest : MethodName := ⟨RX11, "strongest", "()I"⟩
abbrev cX11_elects : ByteArray := prog_13_method_91_code
def yX11_elects : MethodName := ⟨RX11, "elects", "()V"⟩
abbrev cX11_does : ByteArray := prog_13_method_92_code
def yX11_does : MethodName := ⟨RX11, "does", "(I)V"⟩
abbrev cX11_stings : ByteArray := prog_13_method_93_code
def yX11_stings : MethodName := ⟨RX11, "stings", "()V"⟩
abbrev cX11_eats : ByteArray := prog_13_method_94_code
def yX11_eats : MethodName := ⟨RX11, "eats", "()I"⟩
abbrev cX11_goesBy : ByteArray := prog_13_method_95_code
def yX11_goesBy : MethodName := ⟨RX11, "goesBy", "()I"⟩
abbrev cX11_goesFor : ByteArray := prog_13_method_96_code
def yX11_goesFor : MethodName := ⟨RX11, "goesFor", "(I)V"⟩
abbrev cX11_weeks : ByteArray := prog_13_method_97_code
def yX11_weeks : MethodName := ⟨RX11, "weeks", "(I)I"⟩
abbrev cX11_of : ByteArray := prog_13_method_98_code
def yX11_of : MethodName := ⟨RX11, "of", "(II)I"⟩
abbrev cX11_tree : ByteArray := prog_13_method_99_code
def yX11_tree : MethodName := ⟨RX11, "tree", "(II)I"⟩
abbrev cX11_who : ByteArray := prog_13_method_100_code
def yX11_who : MethodName := ⟨RX11, "who", "(II)I"⟩
abbrev cX11_at : ByteArray := prog_13_method_101_code
def yX11_at : MethodName := ⟨RX11, "at", "(I)I"⟩
abbrev cX11_book : ByteArray := prog_13_method_102_code
def yX11_book : MethodName := ⟨RX11, "book", "(II)I"⟩
abbrev cX11_goes : ByteArray := prog_13_method_103_code
def yX11_goes : MethodName := ⟨RX11, "goes", "(III)I"⟩
abbrev cX11_falls : ByteArray := prog_13_method_104_code
def yX11_falls : MethodName := ⟨RX11, "falls", "(I)I"⟩
abbrev cX11_brings : ByteArray := prog_13_method_105_code
def yX11_brings : MethodName := ⟨RX11, "brings", "(III)I"⟩
abbrev cX11_strongestBehind : ByteArray := prog_13_method_106_code
def yX11_strongestBehind : MethodName := ⟨RX11, "strongestBehind", "(III)I"⟩
abbrev cX11_swings : ByteArray := prog_13_method_107_code
def yX11_swings : MethodName := ⟨RX11, "swings", "(II)I"⟩
abbrev cX11_placesOf : ByteArray := prog_13_method_108_code
def yX11_placesOf : MethodName := ⟨RX11, "placesOf", "(I)I"⟩
abbrev cX11_feedsAll : ByteArray := prog_13_method_109_code
def yX11_feedsAll : MethodName := ⟨RX11, "feedsAll", "(I)Z"⟩
abbrev cX11_feeds : ByteArray := prog_13_method_110_code
def yX11_feeds : MethodName := ⟨RX11, "feeds", "(I)I"⟩
abbrev cX11_core : ByteArray := prog_13_method_111_code
def yX11_core : MethodName := ⟨RX11, "core", "(II)I"⟩
abbrev cX11_eatersOfAll : ByteArray := prog_13_method_112_code
def yX11_eatersOfAll : MethodName := ⟨RX11, "eatersOfAll", "()I"⟩
abbrev cX11_likersOf : ByteArray := prog_13_method_113_code
def yX11_likersOf : MethodName := ⟨RX11, "likersOf", "(II)I"⟩
abbrev cX11_whose : ByteArray := prog_13_method_114_code
def yX11_whose : MethodName := ⟨RX11, "whose", "(I)I"⟩
abbrev cX11_left : ByteArray := prog_13_method_115_code
def yX11_left : MethodName := ⟨RX11, "left", "(I)I"⟩
abbrev cX11_seatsOf : ByteArray := prog_13_method_116_code
def yX11_seatsOf : MethodName := ⟨RX11, "seatsOf", "(I)I"⟩
abbrev cX11_doesRule : ByteArray := prog_13_method_117_code
def yX11_doesRule : MethodName := ⟨RX11, "doesRule", "(I)Z"⟩
abbrev cX11_rules : ByteArray := prog_13_method_118_code
def yX11_rules : MethodName := ⟨RX11, "rules", "(I)I"⟩
abbrev cX11_weighs : ByteArray := prog_13_method_119_code
def yX11_weighs : MethodName := ⟨RX11, "weighs", "(I)I"⟩
abbrev cX11_lasts : ByteArray := prog_13_method_120_code
def yX11_lasts : MethodName := ⟨RX11, "lasts", "(I)I"⟩
abbrev cX11_meets : ByteArray := prog_13_method_121_code
def yX11_meets : MethodName := ⟨RX11, "meets", "(II)I"⟩
abbrev cX11_game : ByteArray := prog_13_method_122_code
def yX11_game : MethodName := ⟨RX11, "game", "(I)I"⟩
abbrev cX11_keeps : ByteArray := prog_13_method_123_code
def yX11_keeps : MethodName := ⟨RX11, "keeps", "(I)I"⟩
abbrev cX11_keepsLaw : ByteArray := prog_13_method_124_code
def yX11_keepsLaw : MethodName := ⟨RX11, "keepsLaw", "()V"⟩
abbrev cX11_keepsTold : ByteArray := prog_13_method_125_code
def yX11_keepsTold : MethodName := ⟨RX11, "keepsTold", "()V"⟩
abbrev cX11_image : ByteArray := prog_13_method_126_code
def yX11_image : MethodName := ⟨RX11, "image", "(Z)Z"⟩
abbrev cX11_look : ByteArray := prog_13_method_127_code
def yX11_look : MethodName := ⟨RX11, "look", "(I)I"⟩
def RJ6 : String := "java/lang/Integer"
def TJ6 : u_T := fun k => match k with
  | _ => ("", "", "", false)
def tyJ6 : Nat → FieldType := fun k => match k with
  | _ => .int
abbrev wsJ60 : List Cond := u_ws RJ6 TJ6 0
theorem nmJ6 : ∀ a, a < 0 → ∀ b, b < 0 → a ≠ b → (TJ6 a).2.1 ≠ (TJ6 b).2.1 := by decide +kernel
theorem tyJ6_ok : ∀ k, k < 0 → parseFieldDescriptor (TJ6 k).2.2.1 = some (tyJ6 k) := by decide +kernel
abbrev cJ6_bitCount_0f7a4 : ByteArray := prog_14_method_49_code
def yJ6_bitCount_0f7a4 : MethodName := ⟨RJ6, "bitCount", "(I)I"⟩
def RJ9 : String := "java/lang/Math"
def TJ9 : u_T := fun k => match k with
  | _ => ("", "", "", false)
def tyJ9 : Nat → FieldType := fun k => match k with
  | _ => .int
abbrev wsJ90 : List Cond := u_ws RJ9 TJ9 0
theorem nmJ9 : ∀ a, a < 0 → ∀ b, b < 0 → a ≠ b → (TJ9 a).2.1 ≠ (TJ9 b).2.1 := by decide +kernel
theorem tyJ9_ok : ∀ k, k < 0 → parseFieldDescriptor (TJ9 k).2.2.1 = some (tyJ9 k) := by decide +kernel
abbrev cJ9_max_7cf53 : ByteArray := prog_15_method_65_code
def yJ9_max_7cf53 : MethodName := ⟨RJ9, "max", "(II)I"⟩
abbrev cJ9_min_7cf53 : ByteArray := prog_15_method_69_code
def yJ9_min_7cf53 : MethodName := ⟨RJ9, "min", "(II)I"⟩
def RJ0 : String := "java/lang/String"
def TJ0 : u_T := fun k => match k with
  | _ => ("", "", "", false)
def tyJ0 : Nat → FieldType := fun k => match k with
  | _ => .int
abbrev wsJ00 : List Cond := u_ws RJ0 TJ0 0
theorem nmJ0 : ∀ a, a < 0 → ∀ b, b < 0 → a ≠ b → (TJ0 a).2.1 ≠ (TJ0 b).2.1 := by decide +kernel
theorem tyJ0_ok : ∀ k, k < 0 → parseFieldDescriptor (TJ0 k).2.2.1 = some (tyJ0 k) := by decide +kernel
abbrev cJ0_length_8abf5 : ByteArray := prog_16_method_54_code
def yJ0_length_8abf5 : MethodName := ⟨RJ0, "length", "()I"⟩
abbrev cJ0_charAt_5068e : ByteArray := prog_16_method_56_code
def yJ0_charAt_5068e : MethodName := ⟨RJ0, "charAt", "(I)C"⟩
abbrev cJ0_coder_7d493 : ByteArray := prog_16_method_152_code
def yJ0_coder_7d493 : MethodName := ⟨RJ0, "coder", "()B"⟩
abbrev cJ0_isLatin1_aae02 : ByteArray := prog_16_method_154_code
def yJ0_isLatin1_aae02 : MethodName := ⟨RJ0, "isLatin1", "()Z"⟩
abbrev cJ0_checkIndex_df160 : ByteArray := prog_16_method_155_code
def yJ0_checkIndex_df160 : MethodName := ⟨RJ0, "checkIndex", "(II)V"⟩
def RJ1 : String := "java/lang/StringLatin1"
def TJ1 : u_T := fun k => match k with
  | _ => ("", "", "", false)
def tyJ1 : Nat → FieldType := fun k => match k with
  | _ => .int
abbrev wsJ10 : List Cond := u_ws RJ1 TJ1 0
theorem nmJ1 : ∀ a, a < 0 → ∀ b, b < 0 → a ≠ b → (TJ1 a).2.1 ≠ (TJ1 b).2.1 := by decide +kernel
theorem tyJ1_ok : ∀ k, k < 0 → parseFieldDescriptor (TJ1 k).2.2.1 = some (tyJ1 k) := by decide +kernel
abbrev cJ1_charAt_3b067 : ByteArray := prog_17_method_2_code
def yJ1_charAt_3b067 : MethodName := ⟨RJ1, "charAt", "([BI)C"⟩
def RJ2 : String := "java/lang/StringUTF16"
def TJ2 : u_T := fun k => match k with
  | _ => ("", "", "", false)
def tyJ2 : Nat → FieldType := fun k => match k with
  | _ => .int
abbrev wsJ20 : List Cond := u_ws RJ2 TJ2 0
theorem nmJ2 : ∀ a, a < 0 → ∀ b, b < 0 → a ≠ b → (TJ2 a).2.1 ≠ (TJ2 b).2.1 := by decide +kernel
theorem tyJ2_ok : ∀ k, k < 0 → parseFieldDescriptor (TJ2 k).2.2.1 = some (tyJ2 k) := by decide +kernel
abbrev cJ2_getChar_3b067 : ByteArray := prog_18_method_5_code
def yJ2_getChar_3b067 : MethodName := ⟨RJ2, "getChar", "([BI)C"⟩
abbrev cJ2_length_9d52b : ByteArray := prog_18_method_6_code
def yJ2_length_9d52b : MethodName := ⟨RJ2, "length", "([B)I"⟩
abbrev cJ2_charAt_3b067 : ByteArray := prog_18_method_83_code
def yJ2_charAt_3b067 : MethodName := ⟨RJ2, "charAt", "([BI)C"⟩
abbrev cJ2_checkIndex_2214a : ByteArray := prog_18_method_91_code
def yJ2_checkIndex_2214a : MethodName := ⟨RJ2, "checkIndex", "(I[B)V"⟩
def RJ10 : String := "java/lang/System"
def TJ10 : u_T := fun k => match k with
  | _ => ("", "", "", false)
def tyJ10 : Nat → FieldType := fun k => match k with
  | _ => .int
abbrev wsJ100 : List Cond := u_ws RJ10 TJ10 0
theorem nmJ10 : ∀ a, a < 0 → ∀ b, b < 0 → a ≠ b → (TJ10 a).2.1 ≠ (TJ10 b).2.1 := by decide +kernel
theorem tyJ10_ok : ∀ k, k < 0 → parseFieldDescriptor (TJ10 k).2.2.1 = some (tyJ10 k) := by decide +kernel
def RJ3 : String := "jdk/internal/util/Preconditions"
def TJ3 : u_T := fun k => match k with
  | _ => ("", "", "", false)
def tyJ3 : Nat → FieldType := fun k => match k with
  | _ => .int
abbrev wsJ30 : List Cond := u_ws RJ3 TJ3 0
theorem nmJ3 : ∀ a, a < 0 → ∀ b, b < 0 → a ≠ b → (TJ3 a).2.1 ≠ (TJ3 b).2.1 := by decide +kernel
theorem tyJ3_ok : ∀ k, k < 0 → parseFieldDescriptor (TJ3 k).2.2.1 = some (tyJ3 k) := by decide +kernel
abbrev cJ3_checkIndex_8e157 : ByteArray := prog_20_method_11_code
def yJ3_checkIndex_8e157 : MethodName := ⟨RJ3, "checkIndex", "(IILjava/util/function/BiFunction;)I"⟩
def RL : String := "BallotFruitLaw"
abbrev cL_law : ByteArray := code
def yL_law : MethodName := ⟨RL, "law", "([I)Z"⟩
abbrev vwCl : List vw_C := [(RX0, TX0, 20), (RX1, TX1, 3), (RX2, TX2, 9), (RX3, TX3, 1), (RX4, TX4, 4), (RX5, TX5, 5), (RX6, TX6, 9), (RX7, TX7, 5), (RX8, TX8, 6), (RX9, TX9, 6), (RX10, TX10, 13), (RX11, TX11, 56)]
