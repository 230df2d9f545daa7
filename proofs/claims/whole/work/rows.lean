section
-- ===== PART A: goes FIRST, ahead of the names: the tables' words, and 'selects' of the private methods out of them =====
/-- a private method of a class that the tables say can be made, by its rows of tables_1 -/
def lw_okq (q : MethodName × Nat) : Prop := (q.1.cls ≠ "java/lang/invoke/MethodHandle" ∧ q.1.cls ≠ "java/lang/invoke/VarHandle") ∧ Cond.instantiable q.1.cls q.2 ∈ tables_1 ∧ Cond.privateMethod q.1 ∈ tables_1 ∧ Cond.instanceMethod q.1 ∈ tables_1
theorem lw_p0 : lw_okq (⟨"BlackSun$Reader", "forget", "()V"⟩, 15) := ⟨⟨by decide +kernel, by decide +kernel⟩, List.mem_of_getElem? (i := 227) (by decide +kernel), List.mem_of_getElem? (i := 481) (by decide +kernel), List.mem_of_getElem? (i := 482) (by decide +kernel)⟩
theorem lw_p1 : lw_okq (⟨"BlackSun$Reader", "readClause", "(I)Z"⟩, 15) := ⟨⟨by decide +kernel, by decide +kernel⟩, List.mem_of_getElem? (i := 227) (by decide +kernel), List.mem_of_getElem? (i := 485) (by decide +kernel), List.mem_of_getElem? (i := 486) (by decide +kernel)⟩
theorem lw_p2 : lw_okq (⟨"BlackSun$Reader", "next", "()I"⟩, 15) := ⟨⟨by decide +kernel, by decide +kernel⟩, List.mem_of_getElem? (i := 227) (by decide +kernel), List.mem_of_getElem? (i := 489) (by decide +kernel), List.mem_of_getElem? (i := 490) (by decide +kernel)⟩
theorem lw_p3 : lw_okq (⟨"BlackSun$Reader", "takeWord", "(Ljava/lang/String;)I"⟩, 15) := ⟨⟨by decide +kernel, by decide +kernel⟩, List.mem_of_getElem? (i := 227) (by decide +kernel), List.mem_of_getElem? (i := 494) (by decide +kernel), List.mem_of_getElem? (i := 495) (by decide +kernel)⟩
theorem lw_p4 : lw_okq (⟨"BlackSun$Reader", "fail", "(II)Z"⟩, 15) := ⟨⟨by decide +kernel, by decide +kernel⟩, List.mem_of_getElem? (i := 227) (by decide +kernel), List.mem_of_getElem? (i := 546) (by decide +kernel), List.mem_of_getElem? (i := 547) (by decide +kernel)⟩
theorem lw_p5 : lw_okq (⟨"BlackSun$Reader", "readTerm", "(I)Z"⟩, 15) := ⟨⟨by decide +kernel, by decide +kernel⟩, List.mem_of_getElem? (i := 227) (by decide +kernel), List.mem_of_getElem? (i := 550) (by decide +kernel), List.mem_of_getElem? (i := 551) (by decide +kernel)⟩
theorem lw_p6 : lw_okq (⟨"BlackSun$Reader", "readHeld", "(I)Z"⟩, 15) := ⟨⟨by decide +kernel, by decide +kernel⟩, List.mem_of_getElem? (i := 227) (by decide +kernel), List.mem_of_getElem? (i := 555) (by decide +kernel), List.mem_of_getElem? (i := 556) (by decide +kernel)⟩
theorem lw_p7 : lw_okq (⟨"BlackSun$Reader", "readNumber", "(I)I"⟩, 15) := ⟨⟨by decide +kernel, by decide +kernel⟩, List.mem_of_getElem? (i := 227) (by decide +kernel), List.mem_of_getElem? (i := 560) (by decide +kernel), List.mem_of_getElem? (i := 561) (by decide +kernel)⟩
theorem lw_p8 : lw_okq (⟨"BlackSun$Reader", "readLeave", "()Z"⟩, 15) := ⟨⟨by decide +kernel, by decide +kernel⟩, List.mem_of_getElem? (i := 227) (by decide +kernel), List.mem_of_getElem? (i := 567) (by decide +kernel), List.mem_of_getElem? (i := 568) (by decide +kernel)⟩
theorem lw_p9 : lw_okq (⟨"BlackSun$Reader", "readOperand", "()Z"⟩, 15) := ⟨⟨by decide +kernel, by decide +kernel⟩, List.mem_of_getElem? (i := 227) (by decide +kernel), List.mem_of_getElem? (i := 572) (by decide +kernel), List.mem_of_getElem? (i := 573) (by decide +kernel)⟩
theorem lw_p10 : lw_okq (⟨"BlackSun$Reader", "openDeeper", "(II)Z"⟩, 15) := ⟨⟨by decide +kernel, by decide +kernel⟩, List.mem_of_getElem? (i := 227) (by decide +kernel), List.mem_of_getElem? (i := 576) (by decide +kernel), List.mem_of_getElem? (i := 577) (by decide +kernel)⟩
theorem lw_p11 : lw_okq (⟨"BlackSun$Reader", "await", "(I)V"⟩, 15) := ⟨⟨by decide +kernel, by decide +kernel⟩, List.mem_of_getElem? (i := 227) (by decide +kernel), List.mem_of_getElem? (i := 580) (by decide +kernel), List.mem_of_getElem? (i := 581) (by decide +kernel)⟩
theorem lw_p12 : lw_okq (⟨"BlackSun$Reader", "readValue", "()Z"⟩, 15) := ⟨⟨by decide +kernel, by decide +kernel⟩, List.mem_of_getElem? (i := 227) (by decide +kernel), List.mem_of_getElem? (i := 585) (by decide +kernel), List.mem_of_getElem? (i := 586) (by decide +kernel)⟩
theorem lw_p13 : lw_okq (⟨"BlackSun$Reader", "step", "(II)V"⟩, 15) := ⟨⟨by decide +kernel, by decide +kernel⟩, List.mem_of_getElem? (i := 227) (by decide +kernel), List.mem_of_getElem? (i := 590) (by decide +kernel), List.mem_of_getElem? (i := 591) (by decide +kernel)⟩
theorem lw_p14 : lw_okq (⟨"BlackSun$Reader", "countOneMore", "(I)Z"⟩, 15) := ⟨⟨by decide +kernel, by decide +kernel⟩, List.mem_of_getElem? (i := 227) (by decide +kernel), List.mem_of_getElem? (i := 594) (by decide +kernel), List.mem_of_getElem? (i := 595) (by decide +kernel)⟩
theorem lw_p15 : lw_okq (⟨"BlackSun$Reader", "readOperator", "()Z"⟩, 15) := ⟨⟨by decide +kernel, by decide +kernel⟩, List.mem_of_getElem? (i := 227) (by decide +kernel), List.mem_of_getElem? (i := 598) (by decide +kernel), List.mem_of_getElem? (i := 599) (by decide +kernel)⟩
def lw_privs_1 : List (MethodName × Nat) := [(⟨"BlackSun$Reader", "forget", "()V"⟩, 15), (⟨"BlackSun$Reader", "readClause", "(I)Z"⟩, 15), (⟨"BlackSun$Reader", "next", "()I"⟩, 15), (⟨"BlackSun$Reader", "takeWord", "(Ljava/lang/String;)I"⟩, 15), (⟨"BlackSun$Reader", "fail", "(II)Z"⟩, 15), (⟨"BlackSun$Reader", "readTerm", "(I)Z"⟩, 15), (⟨"BlackSun$Reader", "readHeld", "(I)Z"⟩, 15), (⟨"BlackSun$Reader", "readNumber", "(I)I"⟩, 15), (⟨"BlackSun$Reader", "readLeave", "()Z"⟩, 15), (⟨"BlackSun$Reader", "readOperand", "()Z"⟩, 15), (⟨"BlackSun$Reader", "openDeeper", "(II)Z"⟩, 15), (⟨"BlackSun$Reader", "await", "(I)V"⟩, 15), (⟨"BlackSun$Reader", "readValue", "()Z"⟩, 15), (⟨"BlackSun$Reader", "step", "(II)V"⟩, 15), (⟨"BlackSun$Reader", "countOneMore", "(I)Z"⟩, 15), (⟨"BlackSun$Reader", "readOperator", "()Z"⟩, 15)]
theorem lw_r1 : ∀ q ∈ lw_privs_1, lw_okq q := List.forall_mem_cons.mpr ⟨lw_p0, List.forall_mem_cons.mpr ⟨lw_p1, List.forall_mem_cons.mpr ⟨lw_p2, List.forall_mem_cons.mpr ⟨lw_p3, List.forall_mem_cons.mpr ⟨lw_p4, List.forall_mem_cons.mpr ⟨lw_p5, List.forall_mem_cons.mpr ⟨lw_p6, List.forall_mem_cons.mpr ⟨lw_p7, List.forall_mem_cons.mpr ⟨lw_p8, List.forall_mem_cons.mpr ⟨lw_p9, List.forall_mem_cons.mpr ⟨lw_p10, List.forall_mem_cons.mpr ⟨lw_p11, List.forall_mem_cons.mpr ⟨lw_p12, List.forall_mem_cons.mpr ⟨lw_p13, List.forall_mem_cons.mpr ⟨lw_p14, List.forall_mem_cons.mpr ⟨lw_p15, fun _ h => absurd h List.not_mem_nil⟩⟩⟩⟩⟩⟩⟩⟩⟩⟩⟩⟩⟩⟩⟩⟩
theorem lw_p16 : lw_okq (⟨"BlackSun$Reader", "bind", "(I)V"⟩, 15) := ⟨⟨by decide +kernel, by decide +kernel⟩, List.mem_of_getElem? (i := 227) (by decide +kernel), List.mem_of_getElem? (i := 602) (by decide +kernel), List.mem_of_getElem? (i := 603) (by decide +kernel)⟩
theorem lw_p17 : lw_okq (⟨"BlackSun$Reader", "readSign", "(I)Z"⟩, 15) := ⟨⟨by decide +kernel, by decide +kernel⟩, List.mem_of_getElem? (i := 227) (by decide +kernel), List.mem_of_getElem? (i := 606) (by decide +kernel), List.mem_of_getElem? (i := 607) (by decide +kernel)⟩
theorem lw_p18 : lw_okq (⟨"BlackSun$Reader", "readClosing", "(I)Z"⟩, 15) := ⟨⟨by decide +kernel, by decide +kernel⟩, List.mem_of_getElem? (i := 227) (by decide +kernel), List.mem_of_getElem? (i := 612) (by decide +kernel), List.mem_of_getElem? (i := 613) (by decide +kernel)⟩
theorem lw_p19 : lw_okq (⟨"BlackSun$Reader", "readHand", "(I)Z"⟩, 15) := ⟨⟨by decide +kernel, by decide +kernel⟩, List.mem_of_getElem? (i := 227) (by decide +kernel), List.mem_of_getElem? (i := 616) (by decide +kernel), List.mem_of_getElem? (i := 617) (by decide +kernel)⟩
theorem lw_p20 : lw_okq (⟨"BlackSun$Reader", "copyOfSteps", "()[I"⟩, 15) := ⟨⟨by decide +kernel, by decide +kernel⟩, List.mem_of_getElem? (i := 227) (by decide +kernel), List.mem_of_getElem? (i := 629) (by decide +kernel), List.mem_of_getElem? (i := 630) (by decide +kernel)⟩
theorem lw_p21 : lw_okq (⟨"BlackSun", "answerOf", "(LBlackSun$Way;II)I"⟩, 5) := ⟨⟨by decide +kernel, by decide +kernel⟩, List.mem_of_getElem? (i := 21) (by decide +kernel), List.mem_of_getElem? (i := 700) (by decide +kernel), List.mem_of_getElem? (i := 701) (by decide +kernel)⟩
theorem lw_p22 : lw_okq (⟨"BlackSun$Fit", "settle", "(LBlackSun$Book;LBlackSun$Way;II)Z"⟩, 15) := ⟨⟨by decide +kernel, by decide +kernel⟩, List.mem_of_getElem? (i := 281) (by decide +kernel), List.mem_of_getElem? (i := 709) (by decide +kernel), List.mem_of_getElem? (i := 710) (by decide +kernel)⟩
theorem lw_p23 : lw_okq (⟨"BlackSun$Fit", "settleCheck", "(LBlackSun$Book;LBlackSun$Way;II)Z"⟩, 15) := ⟨⟨by decide +kernel, by decide +kernel⟩, List.mem_of_getElem? (i := 281) (by decide +kernel), List.mem_of_getElem? (i := 713) (by decide +kernel), List.mem_of_getElem? (i := 714) (by decide +kernel)⟩
theorem lw_p24 : lw_okq (⟨"BlackSun$Fit", "put", "(IJJ)Z"⟩, 15) := ⟨⟨by decide +kernel, by decide +kernel⟩, List.mem_of_getElem? (i := 281) (by decide +kernel), List.mem_of_getElem? (i := 723) (by decide +kernel), List.mem_of_getElem? (i := 724) (by decide +kernel)⟩
theorem lw_p25 : lw_okq (⟨"BlackSun$Fit", "makeRows", "(LBlackSun$Book;)V"⟩, 15) := ⟨⟨by decide +kernel, by decide +kernel⟩, List.mem_of_getElem? (i := 281) (by decide +kernel), List.mem_of_getElem? (i := 733) (by decide +kernel), List.mem_of_getElem? (i := 734) (by decide +kernel)⟩
theorem lw_p26 : lw_okq (⟨"BlackSun$Fit", "settledOf", "(LBlackSun$Book;II)I"⟩, 15) := ⟨⟨by decide +kernel, by decide +kernel⟩, List.mem_of_getElem? (i := 281) (by decide +kernel), List.mem_of_getElem? (i := 737) (by decide +kernel), List.mem_of_getElem? (i := 738) (by decide +kernel)⟩
theorem lw_p27 : lw_okq (⟨"BlackSun$Fit", "addUp", "(LBlackSun$Images;)V"⟩, 15) := ⟨⟨by decide +kernel, by decide +kernel⟩, List.mem_of_getElem? (i := 281) (by decide +kernel), List.mem_of_getElem? (i := 742) (by decide +kernel), List.mem_of_getElem? (i := 743) (by decide +kernel)⟩
theorem lw_p28 : lw_okq (⟨"BlackSun$Fit", "clearSum", "()V"⟩, 15) := ⟨⟨by decide +kernel, by decide +kernel⟩, List.mem_of_getElem? (i := 281) (by decide +kernel), List.mem_of_getElem? (i := 746) (by decide +kernel), List.mem_of_getElem? (i := 747) (by decide +kernel)⟩
theorem lw_p29 : lw_okq (⟨"BlackSun$Fit", "addRow", "(I)V"⟩, 15) := ⟨⟨by decide +kernel, by decide +kernel⟩, List.mem_of_getElem? (i := 281) (by decide +kernel), List.mem_of_getElem? (i := 750) (by decide +kernel), List.mem_of_getElem? (i := 751) (by decide +kernel)⟩
theorem lw_p30 : lw_okq (⟨"BlackSun$Fit", "solve", "()Z"⟩, 15) := ⟨⟨by decide +kernel, by decide +kernel⟩, List.mem_of_getElem? (i := 281) (by decide +kernel), List.mem_of_getElem? (i := 762) (by decide +kernel), List.mem_of_getElem? (i := 763) (by decide +kernel)⟩
theorem lw_p31 : lw_okq (⟨"BlackSun$Fit", "leaveOut", "([J)V"⟩, 15) := ⟨⟨by decide +kernel, by decide +kernel⟩, List.mem_of_getElem? (i := 281) (by decide +kernel), List.mem_of_getElem? (i := 784) (by decide +kernel), List.mem_of_getElem? (i := 785) (by decide +kernel)⟩
def lw_privs_2 : List (MethodName × Nat) := [(⟨"BlackSun$Reader", "bind", "(I)V"⟩, 15), (⟨"BlackSun$Reader", "readSign", "(I)Z"⟩, 15), (⟨"BlackSun$Reader", "readClosing", "(I)Z"⟩, 15), (⟨"BlackSun$Reader", "readHand", "(I)Z"⟩, 15), (⟨"BlackSun$Reader", "copyOfSteps", "()[I"⟩, 15), (⟨"BlackSun", "answerOf", "(LBlackSun$Way;II)I"⟩, 5), (⟨"BlackSun$Fit", "settle", "(LBlackSun$Book;LBlackSun$Way;II)Z"⟩, 15), (⟨"BlackSun$Fit", "settleCheck", "(LBlackSun$Book;LBlackSun$Way;II)Z"⟩, 15), (⟨"BlackSun$Fit", "put", "(IJJ)Z"⟩, 15), (⟨"BlackSun$Fit", "makeRows", "(LBlackSun$Book;)V"⟩, 15), (⟨"BlackSun$Fit", "settledOf", "(LBlackSun$Book;II)I"⟩, 15), (⟨"BlackSun$Fit", "addUp", "(LBlackSun$Images;)V"⟩, 15), (⟨"BlackSun$Fit", "clearSum", "()V"⟩, 15), (⟨"BlackSun$Fit", "addRow", "(I)V"⟩, 15), (⟨"BlackSun$Fit", "solve", "()Z"⟩, 15), (⟨"BlackSun$Fit", "leaveOut", "([J)V"⟩, 15)]
theorem lw_r2 : ∀ q ∈ lw_privs_2, lw_okq q := List.forall_mem_cons.mpr ⟨lw_p16, List.forall_mem_cons.mpr ⟨lw_p17, List.forall_mem_cons.mpr ⟨lw_p18, List.forall_mem_cons.mpr ⟨lw_p19, List.forall_mem_cons.mpr ⟨lw_p20, List.forall_mem_cons.mpr ⟨lw_p21, List.forall_mem_cons.mpr ⟨lw_p22, List.forall_mem_cons.mpr ⟨lw_p23, List.forall_mem_cons.mpr ⟨lw_p24, List.forall_mem_cons.mpr ⟨lw_p25, List.forall_mem_cons.mpr ⟨lw_p26, List.forall_mem_cons.mpr ⟨lw_p27, List.forall_mem_cons.mpr ⟨lw_p28, List.forall_mem_cons.mpr ⟨lw_p29, List.forall_mem_cons.mpr ⟨lw_p30, List.forall_mem_cons.mpr ⟨lw_p31, fun _ h => absurd h List.not_mem_nil⟩⟩⟩⟩⟩⟩⟩⟩⟩⟩⟩⟩⟩⟩⟩⟩
theorem lw_p32 : lw_okq (⟨"BlackSun$Fit", "findRulable", "(LBlackSun$Plates;)I"⟩, 15) := ⟨⟨by decide +kernel, by decide +kernel⟩, List.mem_of_getElem? (i := 281) (by decide +kernel), List.mem_of_getElem? (i := 798) (by decide +kernel), List.mem_of_getElem? (i := 799) (by decide +kernel)⟩
theorem lw_p33 : lw_okq (⟨"BlackSun$Fit", "leaveOutChoice", "(II)I"⟩, 15) := ⟨⟨by decide +kernel, by decide +kernel⟩, List.mem_of_getElem? (i := 281) (by decide +kernel), List.mem_of_getElem? (i := 802) (by decide +kernel), List.mem_of_getElem? (i := 803) (by decide +kernel)⟩
theorem lw_p34 : lw_okq (⟨"BlackSun$Mix", "add", "(LBlackSun$Stars;II)V"⟩, 3) := ⟨⟨by decide +kernel, by decide +kernel⟩, List.mem_of_getElem? (i := 340) (by decide +kernel), List.mem_of_getElem? (i := 844) (by decide +kernel), List.mem_of_getElem? (i := 845) (by decide +kernel)⟩
theorem lw_p35 : lw_okq (⟨"BlackSun$Lean", "addPlace", "(LBlackSun$Book;III)V"⟩, 2) := ⟨⟨by decide +kernel, by decide +kernel⟩, List.mem_of_getElem? (i := 910) (by decide +kernel), List.mem_of_getElem? (i := 930) (by decide +kernel), List.mem_of_getElem? (i := 931) (by decide +kernel)⟩
theorem lw_p36 : lw_okq (⟨"BlackSun$Fit", "makeLawful", "(LBlackSun$Book;I)V"⟩, 15) := ⟨⟨by decide +kernel, by decide +kernel⟩, List.mem_of_getElem? (i := 281) (by decide +kernel), List.mem_of_getElem? (i := 1011) (by decide +kernel), List.mem_of_getElem? (i := 1012) (by decide +kernel)⟩
theorem lw_p37 : lw_okq (⟨"BlackSun$Fit", "drawWorld", "(LBlackSun$Book;I)V"⟩, 15) := ⟨⟨by decide +kernel, by decide +kernel⟩, List.mem_of_getElem? (i := 281) (by decide +kernel), List.mem_of_getElem? (i := 1015) (by decide +kernel), List.mem_of_getElem? (i := 1016) (by decide +kernel)⟩
theorem lw_p38 : lw_okq (⟨"BlackSun$Fit", "drawSlip", "(I)I"⟩, 15) := ⟨⟨by decide +kernel, by decide +kernel⟩, List.mem_of_getElem? (i := 281) (by decide +kernel), List.mem_of_getElem? (i := 1019) (by decide +kernel), List.mem_of_getElem? (i := 1020) (by decide +kernel)⟩
theorem lw_p39 : lw_okq (⟨"BlackSun$Moves", "add", "(LBlackSun$Images;II)V"⟩, 6) := ⟨⟨by decide +kernel, by decide +kernel⟩, List.mem_of_getElem? (i := 1085) (by decide +kernel), List.mem_of_getElem? (i := 1116) (by decide +kernel), List.mem_of_getElem? (i := 1117) (by decide +kernel)⟩
theorem lw_p40 : lw_okq (⟨"BlackSun$Moves", "isBefore", "(LBlackSun$Images;I)Z"⟩, 6) := ⟨⟨by decide +kernel, by decide +kernel⟩, List.mem_of_getElem? (i := 1085) (by decide +kernel), List.mem_of_getElem? (i := 1120) (by decide +kernel), List.mem_of_getElem? (i := 1121) (by decide +kernel)⟩
theorem lw_p41 : lw_okq (⟨"BlackSunModel", "isStar", "(I)Z"⟩, 75) := ⟨⟨by decide +kernel, by decide +kernel⟩, List.mem_of_getElem? (i := 1160) (by decide +kernel), List.mem_of_getElem? (i := 1411) (by decide +kernel), List.mem_of_getElem? (i := 1412) (by decide +kernel)⟩
theorem lw_p42 : lw_okq (⟨"BlackSunModel", "far", "(I)I"⟩, 75) := ⟨⟨by decide +kernel, by decide +kernel⟩, List.mem_of_getElem? (i := 1160) (by decide +kernel), List.mem_of_getElem? (i := 1415) (by decide +kernel), List.mem_of_getElem? (i := 1416) (by decide +kernel)⟩
theorem lw_p43 : lw_okq (⟨"BlackSunModel", "isPlate", "(I)Z"⟩, 75) := ⟨⟨by decide +kernel, by decide +kernel⟩, List.mem_of_getElem? (i := 1160) (by decide +kernel), List.mem_of_getElem? (i := 1429) (by decide +kernel), List.mem_of_getElem? (i := 1430) (by decide +kernel)⟩
theorem lw_p44 : lw_okq (⟨"BlackSunModel", "counting", "(IIII)I"⟩, 75) := ⟨⟨by decide +kernel, by decide +kernel⟩, List.mem_of_getElem? (i := 1160) (by decide +kernel), List.mem_of_getElem? (i := 1446) (by decide +kernel), List.mem_of_getElem? (i := 1447) (by decide +kernel)⟩
theorem lw_p45 : lw_okq (⟨"BlackSunModel", "given", "(III)I"⟩, 75) := ⟨⟨by decide +kernel, by decide +kernel⟩, List.mem_of_getElem? (i := 1160) (by decide +kernel), List.mem_of_getElem? (i := 1455) (by decide +kernel), List.mem_of_getElem? (i := 1456) (by decide +kernel)⟩
theorem lw_p46 : lw_okq (⟨"BlackSunModel", "put", "(I)V"⟩, 75) := ⟨⟨by decide +kernel, by decide +kernel⟩, List.mem_of_getElem? (i := 1160) (by decide +kernel), List.mem_of_getElem? (i := 1463) (by decide +kernel), List.mem_of_getElem? (i := 1464) (by decide +kernel)⟩
theorem lw_p47 : lw_okq (⟨"BlackSunModel", "clause", "(I)V"⟩, 75) := ⟨⟨by decide +kernel, by decide +kernel⟩, List.mem_of_getElem? (i := 1160) (by decide +kernel), List.mem_of_getElem? (i := 1475) (by decide +kernel), List.mem_of_getElem? (i := 1476) (by decide +kernel)⟩
def lw_privs_3 : List (MethodName × Nat) := [(⟨"BlackSun$Fit", "findRulable", "(LBlackSun$Plates;)I"⟩, 15), (⟨"BlackSun$Fit", "leaveOutChoice", "(II)I"⟩, 15), (⟨"BlackSun$Mix", "add", "(LBlackSun$Stars;II)V"⟩, 3), (⟨"BlackSun$Lean", "addPlace", "(LBlackSun$Book;III)V"⟩, 2), (⟨"BlackSun$Fit", "makeLawful", "(LBlackSun$Book;I)V"⟩, 15), (⟨"BlackSun$Fit", "drawWorld", "(LBlackSun$Book;I)V"⟩, 15), (⟨"BlackSun$Fit", "drawSlip", "(I)I"⟩, 15), (⟨"BlackSun$Moves", "add", "(LBlackSun$Images;II)V"⟩, 6), (⟨"BlackSun$Moves", "isBefore", "(LBlackSun$Images;I)Z"⟩, 6), (⟨"BlackSunModel", "isStar", "(I)Z"⟩, 75), (⟨"BlackSunModel", "far", "(I)I"⟩, 75), (⟨"BlackSunModel", "isPlate", "(I)Z"⟩, 75), (⟨"BlackSunModel", "counting", "(IIII)I"⟩, 75), (⟨"BlackSunModel", "given", "(III)I"⟩, 75), (⟨"BlackSunModel", "put", "(I)V"⟩, 75), (⟨"BlackSunModel", "clause", "(I)V"⟩, 75)]
theorem lw_r3 : ∀ q ∈ lw_privs_3, lw_okq q := List.forall_mem_cons.mpr ⟨lw_p32, List.forall_mem_cons.mpr ⟨lw_p33, List.forall_mem_cons.mpr ⟨lw_p34, List.forall_mem_cons.mpr ⟨lw_p35, List.forall_mem_cons.mpr ⟨lw_p36, List.forall_mem_cons.mpr ⟨lw_p37, List.forall_mem_cons.mpr ⟨lw_p38, List.forall_mem_cons.mpr ⟨lw_p39, List.forall_mem_cons.mpr ⟨lw_p40, List.forall_mem_cons.mpr ⟨lw_p41, List.forall_mem_cons.mpr ⟨lw_p42, List.forall_mem_cons.mpr ⟨lw_p43, List.forall_mem_cons.mpr ⟨lw_p44, List.forall_mem_cons.mpr ⟨lw_p45, List.forall_mem_cons.mpr ⟨lw_p46, List.forall_mem_cons.mpr ⟨lw_p47, fun _ h => absurd h List.not_mem_nil⟩⟩⟩⟩⟩⟩⟩⟩⟩⟩⟩⟩⟩⟩⟩⟩
theorem lw_p48 : lw_okq (⟨"BlackSunModel", "blanks", "()V"⟩, 75) := ⟨⟨by decide +kernel, by decide +kernel⟩, List.mem_of_getElem? (i := 1160) (by decide +kernel), List.mem_of_getElem? (i := 1479) (by decide +kernel), List.mem_of_getElem? (i := 1480) (by decide +kernel)⟩
theorem lw_p49 : lw_okq (⟨"BlackSunModel", "sign", "()I"⟩, 75) := ⟨⟨by decide +kernel, by decide +kernel⟩, List.mem_of_getElem? (i := 1160) (by decide +kernel), List.mem_of_getElem? (i := 1483) (by decide +kernel), List.mem_of_getElem? (i := 1484) (by decide +kernel)⟩
theorem lw_p50 : lw_okq (⟨"BlackSunModel", "stands", "(Ljava/lang/String;)Z"⟩, 75) := ⟨⟨by decide +kernel, by decide +kernel⟩, List.mem_of_getElem? (i := 1160) (by decide +kernel), List.mem_of_getElem? (i := 1488) (by decide +kernel), List.mem_of_getElem? (i := 1489) (by decide +kernel)⟩
theorem lw_p51 : lw_okq (⟨"BlackSunModel", "fails", "(II)V"⟩, 75) := ⟨⟨by decide +kernel, by decide +kernel⟩, List.mem_of_getElem? (i := 1160) (by decide +kernel), List.mem_of_getElem? (i := 1498) (by decide +kernel), List.mem_of_getElem? (i := 1499) (by decide +kernel)⟩
theorem lw_p52 : lw_okq (⟨"BlackSunModel", "digits", "(I)I"⟩, 75) := ⟨⟨by decide +kernel, by decide +kernel⟩, List.mem_of_getElem? (i := 1160) (by decide +kernel), List.mem_of_getElem? (i := 1502) (by decide +kernel), List.mem_of_getElem? (i := 1503) (by decide +kernel)⟩
theorem lw_p53 : lw_okq (⟨"BlackSunModel", "isDigit", "()Z"⟩, 75) := ⟨⟨by decide +kernel, by decide +kernel⟩, List.mem_of_getElem? (i := 1160) (by decide +kernel), List.mem_of_getElem? (i := 1506) (by decide +kernel), List.mem_of_getElem? (i := 1507) (by decide +kernel)⟩
theorem lw_p54 : lw_okq (⟨"BlackSunModel", "takes", "(Ljava/lang/String;)Z"⟩, 75) := ⟨⟨by decide +kernel, by decide +kernel⟩, List.mem_of_getElem? (i := 1160) (by decide +kernel), List.mem_of_getElem? (i := 1513) (by decide +kernel), List.mem_of_getElem? (i := 1514) (by decide +kernel)⟩
theorem lw_p55 : lw_okq (⟨"BlackSunModel", "test", "()V"⟩, 75) := ⟨⟨by decide +kernel, by decide +kernel⟩, List.mem_of_getElem? (i := 1160) (by decide +kernel), List.mem_of_getElem? (i := 1517) (by decide +kernel), List.mem_of_getElem? (i := 1518) (by decide +kernel)⟩
theorem lw_p56 : lw_okq (⟨"BlackSunModel", "fact", "()Z"⟩, 75) := ⟨⟨by decide +kernel, by decide +kernel⟩, List.mem_of_getElem? (i := 1160) (by decide +kernel), List.mem_of_getElem? (i := 1521) (by decide +kernel), List.mem_of_getElem? (i := 1522) (by decide +kernel)⟩
theorem lw_p57 : lw_okq (⟨"BlackSunModel", "opens", "(I)V"⟩, 75) := ⟨⟨by decide +kernel, by decide +kernel⟩, List.mem_of_getElem? (i := 1160) (by decide +kernel), List.mem_of_getElem? (i := 1526) (by decide +kernel), List.mem_of_getElem? (i := 1527) (by decide +kernel)⟩
theorem lw_p58 : lw_okq (⟨"BlackSunModel", "compared", "()V"⟩, 75) := ⟨⟨by decide +kernel, by decide +kernel⟩, List.mem_of_getElem? (i := 1160) (by decide +kernel), List.mem_of_getElem? (i := 1530) (by decide +kernel), List.mem_of_getElem? (i := 1531) (by decide +kernel)⟩
theorem lw_p59 : lw_okq (⟨"BlackSunModel", "sum", "()V"⟩, 75) := ⟨⟨by decide +kernel, by decide +kernel⟩, List.mem_of_getElem? (i := 1160) (by decide +kernel), List.mem_of_getElem? (i := 1534) (by decide +kernel), List.mem_of_getElem? (i := 1535) (by decide +kernel)⟩
theorem lw_p60 : lw_okq (⟨"BlackSunModel", "value", "()V"⟩, 75) := ⟨⟨by decide +kernel, by decide +kernel⟩, List.mem_of_getElem? (i := 1160) (by decide +kernel), List.mem_of_getElem? (i := 1538) (by decide +kernel), List.mem_of_getElem? (i := 1539) (by decide +kernel)⟩
theorem lw_p61 : lw_okq (⟨"BlackSunModel", "isCounted", "(I)V"⟩, 75) := ⟨⟨by decide +kernel, by decide +kernel⟩, List.mem_of_getElem? (i := 1160) (by decide +kernel), List.mem_of_getElem? (i := 1543) (by decide +kernel), List.mem_of_getElem? (i := 1544) (by decide +kernel)⟩
theorem lw_p62 : lw_okq (⟨"BlackSunModel", "entry", "(II)V"⟩, 75) := ⟨⟨by decide +kernel, by decide +kernel⟩, List.mem_of_getElem? (i := 1160) (by decide +kernel), List.mem_of_getElem? (i := 1547) (by decide +kernel), List.mem_of_getElem? (i := 1548) (by decide +kernel)⟩
theorem lw_p63 : lw_okq (⟨"BlackSunModel", "answers", "(I)V"⟩, 75) := ⟨⟨by decide +kernel, by decide +kernel⟩, List.mem_of_getElem? (i := 1160) (by decide +kernel), List.mem_of_getElem? (i := 1566) (by decide +kernel), List.mem_of_getElem? (i := 1567) (by decide +kernel)⟩
def lw_privs_4 : List (MethodName × Nat) := [(⟨"BlackSunModel", "blanks", "()V"⟩, 75), (⟨"BlackSunModel", "sign", "()I"⟩, 75), (⟨"BlackSunModel", "stands", "(Ljava/lang/String;)Z"⟩, 75), (⟨"BlackSunModel", "fails", "(II)V"⟩, 75), (⟨"BlackSunModel", "digits", "(I)I"⟩, 75), (⟨"BlackSunModel", "isDigit", "()Z"⟩, 75), (⟨"BlackSunModel", "takes", "(Ljava/lang/String;)Z"⟩, 75), (⟨"BlackSunModel", "test", "()V"⟩, 75), (⟨"BlackSunModel", "fact", "()Z"⟩, 75), (⟨"BlackSunModel", "opens", "(I)V"⟩, 75), (⟨"BlackSunModel", "compared", "()V"⟩, 75), (⟨"BlackSunModel", "sum", "()V"⟩, 75), (⟨"BlackSunModel", "value", "()V"⟩, 75), (⟨"BlackSunModel", "isCounted", "(I)V"⟩, 75), (⟨"BlackSunModel", "entry", "(II)V"⟩, 75), (⟨"BlackSunModel", "answers", "(I)V"⟩, 75)]
theorem lw_r4 : ∀ q ∈ lw_privs_4, lw_okq q := List.forall_mem_cons.mpr ⟨lw_p48, List.forall_mem_cons.mpr ⟨lw_p49, List.forall_mem_cons.mpr ⟨lw_p50, List.forall_mem_cons.mpr ⟨lw_p51, List.forall_mem_cons.mpr ⟨lw_p52, List.forall_mem_cons.mpr ⟨lw_p53, List.forall_mem_cons.mpr ⟨lw_p54, List.forall_mem_cons.mpr ⟨lw_p55, List.forall_mem_cons.mpr ⟨lw_p56, List.forall_mem_cons.mpr ⟨lw_p57, List.forall_mem_cons.mpr ⟨lw_p58, List.forall_mem_cons.mpr ⟨lw_p59, List.forall_mem_cons.mpr ⟨lw_p60, List.forall_mem_cons.mpr ⟨lw_p61, List.forall_mem_cons.mpr ⟨lw_p62, List.forall_mem_cons.mpr ⟨lw_p63, fun _ h => absurd h List.not_mem_nil⟩⟩⟩⟩⟩⟩⟩⟩⟩⟩⟩⟩⟩⟩⟩⟩
theorem lw_p64 : lw_okq (⟨"BlackSunModel", "top", "()I"⟩, 75) := ⟨⟨by decide +kernel, by decide +kernel⟩, List.mem_of_getElem? (i := 1160) (by decide +kernel), List.mem_of_getElem? (i := 1570) (by decide +kernel), List.mem_of_getElem? (i := 1571) (by decide +kernel)⟩
theorem lw_p65 : lw_okq (⟨"BlackSunModel", "term", "(Z)I"⟩, 75) := ⟨⟨by decide +kernel, by decide +kernel⟩, List.mem_of_getElem? (i := 1160) (by decide +kernel), List.mem_of_getElem? (i := 1576) (by decide +kernel), List.mem_of_getElem? (i := 1577) (by decide +kernel)⟩
theorem lw_p66 : lw_okq (⟨"BlackSunModel", "names", "(II)V"⟩, 75) := ⟨⟨by decide +kernel, by decide +kernel⟩, List.mem_of_getElem? (i := 1160) (by decide +kernel), List.mem_of_getElem? (i := 1589) (by decide +kernel), List.mem_of_getElem? (i := 1590) (by decide +kernel)⟩
theorem lw_p67 : lw_okq (⟨"BlackSunModel", "isWay", "(I)Z"⟩, 75) := ⟨⟨by decide +kernel, by decide +kernel⟩, List.mem_of_getElem? (i := 1160) (by decide +kernel), List.mem_of_getElem? (i := 1597) (by decide +kernel), List.mem_of_getElem? (i := 1598) (by decide +kernel)⟩
theorem lw_p68 : lw_okq (⟨"BlackSunModel", "takesAll", "(II)V"⟩, 75) := ⟨⟨by decide +kernel, by decide +kernel⟩, List.mem_of_getElem? (i := 1160) (by decide +kernel), List.mem_of_getElem? (i := 1608) (by decide +kernel), List.mem_of_getElem? (i := 1609) (by decide +kernel)⟩
theorem lw_p69 : lw_okq (⟨"BlackSunModel", "isByHand", "(II)Z"⟩, 75) := ⟨⟨by decide +kernel, by decide +kernel⟩, List.mem_of_getElem? (i := 1160) (by decide +kernel), List.mem_of_getElem? (i := 1612) (by decide +kernel), List.mem_of_getElem? (i := 1613) (by decide +kernel)⟩
theorem lw_p70 : lw_okq (⟨"BlackSunModel", "counts", "(II)Z"⟩, 75) := ⟨⟨by decide +kernel, by decide +kernel⟩, List.mem_of_getElem? (i := 1160) (by decide +kernel), List.mem_of_getElem? (i := 1616) (by decide +kernel), List.mem_of_getElem? (i := 1617) (by decide +kernel)⟩
theorem lw_p71 : lw_okq (⟨"BlackSunModel", "isLeft", "(II)Z"⟩, 75) := ⟨⟨by decide +kernel, by decide +kernel⟩, List.mem_of_getElem? (i := 1160) (by decide +kernel), List.mem_of_getElem? (i := 1620) (by decide +kernel), List.mem_of_getElem? (i := 1621) (by decide +kernel)⟩
theorem lw_p72 : lw_okq (⟨"BlackSunModel", "isTrue", "(III)Z"⟩, 75) := ⟨⟨by decide +kernel, by decide +kernel⟩, List.mem_of_getElem? (i := 1160) (by decide +kernel), List.mem_of_getElem? (i := 1624) (by decide +kernel), List.mem_of_getElem? (i := 1625) (by decide +kernel)⟩
theorem lw_p73 : lw_okq (⟨"BlackSunModel", "answerIn", "(III)I"⟩, 75) := ⟨⟨by decide +kernel, by decide +kernel⟩, List.mem_of_getElem? (i := 1160) (by decide +kernel), List.mem_of_getElem? (i := 1638) (by decide +kernel), List.mem_of_getElem? (i := 1639) (by decide +kernel)⟩
theorem lw_p74 : lw_okq (⟨"BlackSunModel", "isAnswered", "(II)Z"⟩, 75) := ⟨⟨by decide +kernel, by decide +kernel⟩, List.mem_of_getElem? (i := 1160) (by decide +kernel), List.mem_of_getElem? (i := 1642) (by decide +kernel), List.mem_of_getElem? (i := 1643) (by decide +kernel)⟩
theorem lw_p75 : lw_okq (⟨"BlackSunModel", "measures", "()V"⟩, 75) := ⟨⟨by decide +kernel, by decide +kernel⟩, List.mem_of_getElem? (i := 1160) (by decide +kernel), List.mem_of_getElem? (i := 1646) (by decide +kernel), List.mem_of_getElem? (i := 1647) (by decide +kernel)⟩
theorem lw_p76 : lw_okq (⟨"BlackSunModel", "begins", "(IIZI)Z"⟩, 75) := ⟨⟨by decide +kernel, by decide +kernel⟩, List.mem_of_getElem? (i := 1160) (by decide +kernel), List.mem_of_getElem? (i := 1650) (by decide +kernel), List.mem_of_getElem? (i := 1651) (by decide +kernel)⟩
theorem lw_p77 : lw_okq (⟨"BlackSunModel", "checks", "(III)Z"⟩, 75) := ⟨⟨by decide +kernel, by decide +kernel⟩, List.mem_of_getElem? (i := 1160) (by decide +kernel), List.mem_of_getElem? (i := 1654) (by decide +kernel), List.mem_of_getElem? (i := 1655) (by decide +kernel)⟩
theorem lw_p78 : lw_okq (⟨"BlackSunModel", "fit", "()Z"⟩, 75) := ⟨⟨by decide +kernel, by decide +kernel⟩, List.mem_of_getElem? (i := 1160) (by decide +kernel), List.mem_of_getElem? (i := 1662) (by decide +kernel), List.mem_of_getElem? (i := 1663) (by decide +kernel)⟩
theorem lw_p79 : lw_okq (⟨"BlackSunModel", "empties", "()V"⟩, 75) := ⟨⟨by decide +kernel, by decide +kernel⟩, List.mem_of_getElem? (i := 1160) (by decide +kernel), List.mem_of_getElem? (i := 1666) (by decide +kernel), List.mem_of_getElem? (i := 1667) (by decide +kernel)⟩
def lw_privs_5 : List (MethodName × Nat) := [(⟨"BlackSunModel", "top", "()I"⟩, 75), (⟨"BlackSunModel", "term", "(Z)I"⟩, 75), (⟨"BlackSunModel", "names", "(II)V"⟩, 75), (⟨"BlackSunModel", "isWay", "(I)Z"⟩, 75), (⟨"BlackSunModel", "takesAll", "(II)V"⟩, 75), (⟨"BlackSunModel", "isByHand", "(II)Z"⟩, 75), (⟨"BlackSunModel", "counts", "(II)Z"⟩, 75), (⟨"BlackSunModel", "isLeft", "(II)Z"⟩, 75), (⟨"BlackSunModel", "isTrue", "(III)Z"⟩, 75), (⟨"BlackSunModel", "answerIn", "(III)I"⟩, 75), (⟨"BlackSunModel", "isAnswered", "(II)Z"⟩, 75), (⟨"BlackSunModel", "measures", "()V"⟩, 75), (⟨"BlackSunModel", "begins", "(IIZI)Z"⟩, 75), (⟨"BlackSunModel", "checks", "(III)Z"⟩, 75), (⟨"BlackSunModel", "fit", "()Z"⟩, 75), (⟨"BlackSunModel", "empties", "()V"⟩, 75)]
theorem lw_r5 : ∀ q ∈ lw_privs_5, lw_okq q := List.forall_mem_cons.mpr ⟨lw_p64, List.forall_mem_cons.mpr ⟨lw_p65, List.forall_mem_cons.mpr ⟨lw_p66, List.forall_mem_cons.mpr ⟨lw_p67, List.forall_mem_cons.mpr ⟨lw_p68, List.forall_mem_cons.mpr ⟨lw_p69, List.forall_mem_cons.mpr ⟨lw_p70, List.forall_mem_cons.mpr ⟨lw_p71, List.forall_mem_cons.mpr ⟨lw_p72, List.forall_mem_cons.mpr ⟨lw_p73, List.forall_mem_cons.mpr ⟨lw_p74, List.forall_mem_cons.mpr ⟨lw_p75, List.forall_mem_cons.mpr ⟨lw_p76, List.forall_mem_cons.mpr ⟨lw_p77, List.forall_mem_cons.mpr ⟨lw_p78, List.forall_mem_cons.mpr ⟨lw_p79, fun _ h => absurd h List.not_mem_nil⟩⟩⟩⟩⟩⟩⟩⟩⟩⟩⟩⟩⟩⟩⟩⟩
theorem lw_p80 : lw_okq (⟨"BlackSunModel", "rows", "(II)V"⟩, 75) := ⟨⟨by decide +kernel, by decide +kernel⟩, List.mem_of_getElem? (i := 1160) (by decide +kernel), List.mem_of_getElem? (i := 1670) (by decide +kernel), List.mem_of_getElem? (i := 1671) (by decide +kernel)⟩
theorem lw_p81 : lw_okq (⟨"BlackSunModel", "left", "(II)J"⟩, 75) := ⟨⟨by decide +kernel, by decide +kernel⟩, List.mem_of_getElem? (i := 1160) (by decide +kernel), List.mem_of_getElem? (i := 1674) (by decide +kernel), List.mem_of_getElem? (i := 1675) (by decide +kernel)⟩
theorem lw_p82 : lw_okq (⟨"BlackSunModel", "givenOn", "(III)J"⟩, 75) := ⟨⟨by decide +kernel, by decide +kernel⟩, List.mem_of_getElem? (i := 1160) (by decide +kernel), List.mem_of_getElem? (i := 1678) (by decide +kernel), List.mem_of_getElem? (i := 1679) (by decide +kernel)⟩
theorem lw_p83 : lw_okq (⟨"BlackSunModel", "solves", "()Z"⟩, 75) := ⟨⟨by decide +kernel, by decide +kernel⟩, List.mem_of_getElem? (i := 1160) (by decide +kernel), List.mem_of_getElem? (i := 1682) (by decide +kernel), List.mem_of_getElem? (i := 1683) (by decide +kernel)⟩
theorem lw_p84 : lw_okq (⟨"BlackSunModel", "factor", "(II)J"⟩, 75) := ⟨⟨by decide +kernel, by decide +kernel⟩, List.mem_of_getElem? (i := 1160) (by decide +kernel), List.mem_of_getElem? (i := 1686) (by decide +kernel), List.mem_of_getElem? (i := 1687) (by decide +kernel)⟩
theorem lw_p85 : lw_okq (⟨"BlackSunModel", "sumAt", "(II)J"⟩, 75) := ⟨⟨by decide +kernel, by decide +kernel⟩, List.mem_of_getElem? (i := 1160) (by decide +kernel), List.mem_of_getElem? (i := 1690) (by decide +kernel), List.mem_of_getElem? (i := 1691) (by decide +kernel)⟩
theorem lw_p86 : lw_okq (⟨"BlackSunModel", "adds", "(JJJ)V"⟩, 75) := ⟨⟨by decide +kernel, by decide +kernel⟩, List.mem_of_getElem? (i := 1160) (by decide +kernel), List.mem_of_getElem? (i := 1694) (by decide +kernel), List.mem_of_getElem? (i := 1695) (by decide +kernel)⟩
theorem lw_p87 : lw_okq (⟨"BlackSunModel", "missed", "()J"⟩, 75) := ⟨⟨by decide +kernel, by decide +kernel⟩, List.mem_of_getElem? (i := 1160) (by decide +kernel), List.mem_of_getElem? (i := 1709) (by decide +kernel), List.mem_of_getElem? (i := 1710) (by decide +kernel)⟩
theorem lw_p88 : lw_okq (⟨"BlackSunModel", "known", "(II)V"⟩, 75) := ⟨⟨by decide +kernel, by decide +kernel⟩, List.mem_of_getElem? (i := 1160) (by decide +kernel), List.mem_of_getElem? (i := 1735) (by decide +kernel), List.mem_of_getElem? (i := 1736) (by decide +kernel)⟩
theorem lw_p89 : lw_okq (⟨"BlackSunModel", "mixes", "()V"⟩, 75) := ⟨⟨by decide +kernel, by decide +kernel⟩, List.mem_of_getElem? (i := 1160) (by decide +kernel), List.mem_of_getElem? (i := 1739) (by decide +kernel), List.mem_of_getElem? (i := 1740) (by decide +kernel)⟩
theorem lw_p90 : lw_okq (⟨"BlackSunModel", "isKnowing", "(II)Z"⟩, 75) := ⟨⟨by decide +kernel, by decide +kernel⟩, List.mem_of_getElem? (i := 1160) (by decide +kernel), List.mem_of_getElem? (i := 1762) (by decide +kernel), List.mem_of_getElem? (i := 1763) (by decide +kernel)⟩
theorem lw_p91 : lw_okq (⟨"BlackSunModel", "toldBy", "(II)I"⟩, 75) := ⟨⟨by decide +kernel, by decide +kernel⟩, List.mem_of_getElem? (i := 1160) (by decide +kernel), List.mem_of_getElem? (i := 1771) (by decide +kernel), List.mem_of_getElem? (i := 1772) (by decide +kernel)⟩
theorem lw_p92 : lw_okq (⟨"BlackSunModel", "areIslands", "(IIII)Z"⟩, 75) := ⟨⟨by decide +kernel, by decide +kernel⟩, List.mem_of_getElem? (i := 1160) (by decide +kernel), List.mem_of_getElem? (i := 1780) (by decide +kernel), List.mem_of_getElem? (i := 1781) (by decide +kernel)⟩
theorem lw_p93 : lw_okq (⟨"BlackSunModel", "alone", "(III)Z"⟩, 75) := ⟨⟨by decide +kernel, by decide +kernel⟩, List.mem_of_getElem? (i := 1160) (by decide +kernel), List.mem_of_getElem? (i := 1784) (by decide +kernel), List.mem_of_getElem? (i := 1785) (by decide +kernel)⟩
theorem lw_p94 : lw_okq (⟨"BlackSunModel", "slipOf", "(I)I"⟩, 75) := ⟨⟨by decide +kernel, by decide +kernel⟩, List.mem_of_getElem? (i := 1160) (by decide +kernel), List.mem_of_getElem? (i := 1813) (by decide +kernel), List.mem_of_getElem? (i := 1814) (by decide +kernel)⟩
theorem lw_p95 : lw_okq (⟨"BlackSunModel", "standing", "(IIIII)I"⟩, 75) := ⟨⟨by decide +kernel, by decide +kernel⟩, List.mem_of_getElem? (i := 1160) (by decide +kernel), List.mem_of_getElem? (i := 1841) (by decide +kernel), List.mem_of_getElem? (i := 1842) (by decide +kernel)⟩
def lw_privs_6 : List (MethodName × Nat) := [(⟨"BlackSunModel", "rows", "(II)V"⟩, 75), (⟨"BlackSunModel", "left", "(II)J"⟩, 75), (⟨"BlackSunModel", "givenOn", "(III)J"⟩, 75), (⟨"BlackSunModel", "solves", "()Z"⟩, 75), (⟨"BlackSunModel", "factor", "(II)J"⟩, 75), (⟨"BlackSunModel", "sumAt", "(II)J"⟩, 75), (⟨"BlackSunModel", "adds", "(JJJ)V"⟩, 75), (⟨"BlackSunModel", "missed", "()J"⟩, 75), (⟨"BlackSunModel", "known", "(II)V"⟩, 75), (⟨"BlackSunModel", "mixes", "()V"⟩, 75), (⟨"BlackSunModel", "isKnowing", "(II)Z"⟩, 75), (⟨"BlackSunModel", "toldBy", "(II)I"⟩, 75), (⟨"BlackSunModel", "areIslands", "(IIII)Z"⟩, 75), (⟨"BlackSunModel", "alone", "(III)Z"⟩, 75), (⟨"BlackSunModel", "slipOf", "(I)I"⟩, 75), (⟨"BlackSunModel", "standing", "(IIIII)I"⟩, 75)]
theorem lw_r6 : ∀ q ∈ lw_privs_6, lw_okq q := List.forall_mem_cons.mpr ⟨lw_p80, List.forall_mem_cons.mpr ⟨lw_p81, List.forall_mem_cons.mpr ⟨lw_p82, List.forall_mem_cons.mpr ⟨lw_p83, List.forall_mem_cons.mpr ⟨lw_p84, List.forall_mem_cons.mpr ⟨lw_p85, List.forall_mem_cons.mpr ⟨lw_p86, List.forall_mem_cons.mpr ⟨lw_p87, List.forall_mem_cons.mpr ⟨lw_p88, List.forall_mem_cons.mpr ⟨lw_p89, List.forall_mem_cons.mpr ⟨lw_p90, List.forall_mem_cons.mpr ⟨lw_p91, List.forall_mem_cons.mpr ⟨lw_p92, List.forall_mem_cons.mpr ⟨lw_p93, List.forall_mem_cons.mpr ⟨lw_p94, List.forall_mem_cons.mpr ⟨lw_p95, fun _ h => absurd h List.not_mem_nil⟩⟩⟩⟩⟩⟩⟩⟩⟩⟩⟩⟩⟩⟩⟩⟩
theorem lw_p96 : lw_okq (⟨"BlackSunModel", "offBy", "(IIII)J"⟩, 75) := ⟨⟨by decide +kernel, by decide +kernel⟩, List.mem_of_getElem? (i := 1160) (by decide +kernel), List.mem_of_getElem? (i := 1850) (by decide +kernel), List.mem_of_getElem? (i := 1851) (by decide +kernel)⟩
theorem lw_p97 : lw_okq (⟨"BlackSunModel", "carries", "(I)V"⟩, 75) := ⟨⟨by decide +kernel, by decide +kernel⟩, List.mem_of_getElem? (i := 1160) (by decide +kernel), List.mem_of_getElem? (i := 1866) (by decide +kernel), List.mem_of_getElem? (i := 1867) (by decide +kernel)⟩
theorem lw_p98 : lw_okq (⟨"BlackSunModel", "carry", "([I)V"⟩, 75) := ⟨⟨by decide +kernel, by decide +kernel⟩, List.mem_of_getElem? (i := 1160) (by decide +kernel), List.mem_of_getElem? (i := 1870) (by decide +kernel), List.mem_of_getElem? (i := 1871) (by decide +kernel)⟩
def lw_privs_7 : List (MethodName × Nat) := [(⟨"BlackSunModel", "offBy", "(IIII)J"⟩, 75), (⟨"BlackSunModel", "carries", "(I)V"⟩, 75), (⟨"BlackSunModel", "carry", "([I)V"⟩, 75)]
theorem lw_r7 : ∀ q ∈ lw_privs_7, lw_okq q := List.forall_mem_cons.mpr ⟨lw_p96, List.forall_mem_cons.mpr ⟨lw_p97, List.forall_mem_cons.mpr ⟨lw_p98, fun _ h => absurd h List.not_mem_nil⟩⟩⟩
def lw_privs : List (MethodName × Nat) := lw_privs_1 ++ (lw_privs_2 ++ (lw_privs_3 ++ (lw_privs_4 ++ (lw_privs_5 ++ (lw_privs_6 ++ (lw_privs_7))))))
def lw_tbl : List Cond := k2_sels lw_privs ++ tables_1
theorem lw_privs_ok : ∀ q ∈ lw_privs, lw_okq q := by
  show ∀ q ∈ lw_privs_1 ++ (lw_privs_2 ++ (lw_privs_3 ++ (lw_privs_4 ++ (lw_privs_5 ++ (lw_privs_6 ++ (lw_privs_7)))))), lw_okq q
  exact List.forall_mem_append.mpr ⟨lw_r1, List.forall_mem_append.mpr ⟨lw_r2, List.forall_mem_append.mpr ⟨lw_r3, List.forall_mem_append.mpr ⟨lw_r4, List.forall_mem_append.mpr ⟨lw_r5, List.forall_mem_append.mpr ⟨lw_r6, lw_r7⟩⟩⟩⟩⟩⟩
end
section
/-! THE PURE HEAP: next address, slots made, shapes, ints, longs, references (0: null; 1..39 constants, 40 the script, from 64 on what was made) -/
abbrev ax_H : Type := Nat × Nat × (Nat → Nat × Nat) × (Nat → Nat → Int32) × (Nat → Nat → Int64) × (Nat → Nat → Nat)
def gN (h : ax_H) : Nat := h.1
def gZ (h : ax_H) : Nat := h.2.1
def gS (h : ax_H) (a : Nat) : Nat × Nat := h.2.2.1 a
def gI (h : ax_H) (a k : Nat) : Int32 := h.2.2.2.1 a k
def gL (h : ax_H) (a k : Nat) : Int64 := h.2.2.2.2.1 a k
def gR (h : ax_H) (a k : Nat) : Nat := h.2.2.2.2.2 a k
def u1 {α : Type} (f : Nat → α) (a : Nat) (v : α) : Nat → α := fun x => if x = a then v else f x
def u2 {α : Type} (f : Nat → Nat → α) (a k : Nat) (v : α) : Nat → Nat → α := fun x y => if x = a ∧ y = k then v else f x y
def pI (h : ax_H) (a k : Nat) (v : Int32) : ax_H := (h.1, h.2.1, h.2.2.1, u2 h.2.2.2.1 a k v, h.2.2.2.2)
def pL (h : ax_H) (a k : Nat) (v : Int64) : ax_H := (h.1, h.2.1, h.2.2.1, h.2.2.2.1, u2 h.2.2.2.2.1 a k v, h.2.2.2.2.2)
def pR (h : ax_H) (a k : Nat) (v : Nat) : ax_H := (h.1, h.2.1, h.2.2.1, h.2.2.2.1, h.2.2.2.2.1, u2 h.2.2.2.2.2 a k v)
/-- a row of ints for a whole cell -/
def rI (h : ax_H) (a : Nat) (f : Nat → Int32) : ax_H := (h.1, h.2.1, h.2.2.1, u1 h.2.2.2.1 a f, h.2.2.2.2)
def rL (h : ax_H) (a : Nat) (f : Nat → Int64) : ax_H := (h.1, h.2.1, h.2.2.1, h.2.2.2.1, u1 h.2.2.2.2.1 a f, h.2.2.2.2.2)
/-- a new cell: kind, length, slots -/
def nW (h : ax_H) (kd len z : Nat) : ax_H := (h.1 + 1, h.2.1 + z, u1 h.2.2.1 h.1 (kd, len), u1 h.2.2.2.1 h.1 (fun _ => 0), u1 h.2.2.2.2.1 h.1 (fun _ => 0), u1 h.2.2.2.2.2 h.1 (fun _ => 0))
/-- n rows of k longs, and the row of them: addresses a0 (the outer) and a0+1 .. a0+n -/
def nG (h : ax_H) (kd kr n k : Nat) : ax_H := (h.1 + (n + 1), h.2.1 + (n + n * k), (fun x => if x = h.1 then (kd, n) else if h.1 < x ∧ x ≤ h.1 + n then (kr, k) else h.2.2.1 x), (fun x => if h.1 ≤ x ∧ x ≤ h.1 + n then fun _ => 0 else h.2.2.2.1 x), (fun x => if h.1 ≤ x ∧ x ≤ h.1 + n then fun _ => 0 else h.2.2.2.2.1 x), (fun x => if x = h.1 then fun y => if y < n then h.1 + 1 + y else 0 else if h.1 ≤ x ∧ x ≤ h.1 + n then fun _ => 0 else h.2.2.2.2.2 x))
/-! the context: base, heap at the start, constants' addresses, class numbers, field slots, array classes, the script -/
abbrev ax_X : Type := Nat × Heap × (Nat → Nat) × (Nat → ClassId) × (Nat → Nat → Nat) × (Nat → ClassId) × Nat × (Nat → Int32)
abbrev xB (X : ax_X) : Nat := X.1
abbrev xH (X : ax_X) : Heap := X.2.1
abbrev xA (X : ax_X) : Nat → Nat := X.2.2.1
abbrev xC (X : ax_X) : Nat → ClassId := X.2.2.2.1
abbrev xI (X : ax_X) : Nat → Nat → Nat := X.2.2.2.2.1
abbrev xR (X : ax_X) : Nat → ClassId := X.2.2.2.2.2.1
abbrev xL (X : ax_X) : Nat := X.2.2.2.2.2.2.1
abbrev xS (X : ax_X) : Nat → Int32 := X.2.2.2.2.2.2.2
def ax_r (X : ax_X) (a : Nat) : Nat := if a < 64 then xA X a else xB X + (a - 64)
def ax_v (X : ax_X) : Value → Value
  | .ref a => if a = 0 then .null else .ref (ax_r X a)
  | v => v
theorem ax_v_int (X : ax_X) (x : Int32) : ax_v X (.int x) = .int x := rfl
theorem ax_v_long (X : ax_X) (x : Int64) : ax_v X (.long x) = .long x := rfl
theorem ax_v_null (X : ax_X) : ax_v X (.ref 0) = .null := by simp [ax_v]
theorem ax_v_ref {X : ax_X} {a : Nat} (h : a ≠ 0) : ax_v X (.ref a) = .ref (ax_r X a) := by simp [ax_v, h]
theorem ax_v_ref_or (X : ax_X) (a : Nat) : ax_v X (.ref a) = .null ∨ ∃ b, ax_v X (.ref a) = .ref b := by
  by_cases h : a = 0
  · exact Or.inl (by rw [h, ax_v_null])
  · exact Or.inr ⟨_, ax_v_ref h⟩
theorem ax_v_cat (X : ax_X) (v : Value) : (ax_v X v).category = v.category := by
  cases v with
  | ref a => by_cases h : a = 0 <;> simp [ax_v, h, Value.category]
  | _ => rfl
theorem ax_r_hi {X : ax_X} {a : Nat} (h : 64 ≤ a) : ax_r X a = xB X + (a - 64) := by simp [ax_r, Nat.not_lt.mpr h]
theorem ax_r_inj {X : ax_X} {a b : Nat} (ha : 64 ≤ a) (hb : 64 ≤ b) (h : ax_r X a = ax_r X b) : a = b := by
  rw [ax_r_hi ha, ax_r_hi hb] at h; omega
/-- a field's value: t 0 int, 3 boolean, 1 long, 2 reference -/
def ax_fv (X : ax_X) (h : ax_H) (a t k : Nat) : Value := if t = 1 then .long (gL h a k) else if t = 2 then ax_v X (.ref (gR h a k)) else .int (gI h a k)
/-- kinds of rows: 16 int, 17 long, 18 byte, 19 boolean, 20 Way, 21 Book, 22 rows of longs -/
def ax_av (X : ax_X) (h : ax_H) (a kd j : Nat) : Value := if kd = 17 then .long (gL h a j) else if kd < 20 then .int (gI h a j) else ax_v X (.ref (gR h a j))
end
section
/-! names: the classes by number, their fields, the private nest links, the String constants (printed by wip/gen/names.py) -/
def ax_cn : Nat → String
  | 0 => "BlackSun"
  | 1 => "BlackSun$Book"
  | 2 => "BlackSun$Stars"
  | 3 => "BlackSun$Plates"
  | 4 => "BlackSun$Images"
  | 5 => "BlackSun$Way"
  | 6 => "BlackSun$Reader"
  | 7 => "BlackSun$Fit"
  | 8 => "BlackSun$Mix"
  | 9 => "BlackSun$Lean"
  | 10 => "BlackSun$Moves"
  | 11 => "BlackSunModel"
  | _ => ""
def ax_fl_0 : List (String × String × String × Bool) := [("BlackSun", "book", "LBlackSun$Book;", true), ("BlackSun", "marks", "[LBlackSun$Book;", true), ("BlackSun", "reader", "LBlackSun$Reader;", true), ("BlackSun", "fit", "LBlackSun$Fit;", true), ("BlackSun", "mix", "LBlackSun$Mix;", true)]
def ax_fl_1 : List (String × String × String × Bool) := [("BlackSun$Book", "now", "I", false), ("BlackSun$Book", "stars", "LBlackSun$Stars;", true), ("BlackSun$Book", "plates", "LBlackSun$Plates;", true), ("BlackSun$Book", "images", "LBlackSun$Images;", true), ("BlackSun$Book", "wayCount", "I", false), ("BlackSun$Book", "ways", "[LBlackSun$Way;", true), ("BlackSun$Book", "saidCount", "I", false), ("BlackSun$Book", "saidWay", "[I", true), ("BlackSun$Book", "saidWeek", "[I", true), ("BlackSun$Book", "saidNumber", "[I", true), ("BlackSun$Book", "fieldCount", "I", false), ("BlackSun$Book", "fieldMinutes", "[I", true), ("BlackSun$Book", "fieldStars", "[I", true), ("BlackSun$Book", "cold", "[I", true), ("BlackSun$Book", "more", "[I", true), ("BlackSun$Book", "knowsFrom", "[I", true), ("BlackSun$Book", "warmed", "[I", true)]
def ax_fl_2 : List (String × String × String × Bool) := [("BlackSun$Stars", "count", "I", false), ("BlackSun$Stars", "x", "[I", true), ("BlackSun$Stars", "y", "[I", true), ("BlackSun$Stars", "bright", "[I", true)]
def ax_fl_3 : List (String × String × String × Bool) := [("BlackSun$Plates", "count", "I", false), ("BlackSun$Plates", "island", "[I", true), ("BlackSun$Plates", "kind", "[I", true), ("BlackSun$Plates", "heat", "[I", true)]
def ax_fl_4 : List (String × String × String × Bool) := [("BlackSun$Images", "count", "I", false), ("BlackSun$Images", "plate", "[I", true), ("BlackSun$Images", "star", "[I", true), ("BlackSun$Images", "hand", "[I", true), ("BlackSun$Images", "dx", "[I", true), ("BlackSun$Images", "dy", "[I", true), ("BlackSun$Images", "week", "[I", true), ("BlackSun$Images", "until", "[I", true)]
def ax_fl_5 : List (String × String × String × Bool) := [("BlackSun$Way", "doing", "[I", true), ("BlackSun$Way", "held", "[I", true), ("BlackSun$Way", "hand", "I", true), ("BlackSun$Way", "steps", "[I", true)]
def ax_fl_6 : List (String × String × String × Bool) := [("BlackSun$Reader", "length", "I", false), ("BlackSun$Reader", "fault", "I", false), ("BlackSun$Reader", "tape", "[I", true), ("BlackSun$Reader", "place", "I", false), ("BlackSun$Reader", "counted", "I", false), ("BlackSun$Reader", "fitted", "I", false), ("BlackSun$Reader", "hand", "I", false), ("BlackSun$Reader", "state", "I", false), ("BlackSun$Reader", "deep", "I", false), ("BlackSun$Reader", "waitingCount", "I", false), ("BlackSun$Reader", "waiting", "[I", true), ("BlackSun$Reader", "stepCount", "I", false), ("BlackSun$Reader", "steps", "[I", true), ("BlackSun$Reader", "doing", "[I", true), ("BlackSun$Reader", "held", "[I", true)]
def ax_fl_7 : List (String × String × String × Bool) := [("BlackSun$Fit", "takenCount", "I", false), ("BlackSun$Fit", "taken", "[I", true), ("BlackSun$Fit", "number", "[I", true), ("BlackSun$Fit", "nearestAnswer", "I", false), ("BlackSun$Fit", "fittedCount", "I", false), ("BlackSun$Fit", "fitted", "[I", true), ("BlackSun$Fit", "give", "[I", true), ("BlackSun$Fit", "settled", "[I", true), ("BlackSun$Fit", "rest", "[I", true), ("BlackSun$Fit", "lawful", "[I", true), ("BlackSun$Fit", "sums", "[[J", true), ("BlackSun$Fit", "sum", "[J", true), ("BlackSun$Fit", "rulable", "[I", true), ("BlackSun$Fit", "stack", "[I", true), ("BlackSun$Fit", "seed", "J", false)]
def ax_fl_8 : List (String × String × String × Bool) := [("BlackSun$Mix", "scale", "J", false), ("BlackSun$Mix", "light", "J", false), ("BlackSun$Mix", "both", "J", false)]
def ax_fl_9 : List (String × String × String × Bool) := [("BlackSun$Lean", "above", "J", false), ("BlackSun$Lean", "below", "J", false)]
def ax_fl_10 : List (String × String × String × Bool) := [("BlackSun$Moves", "found", "I", false), ("BlackSun$Moves", "allDx", "I", false), ("BlackSun$Moves", "allDy", "I", false), ("BlackSun$Moves", "greatest", "I", false), ("BlackSun$Moves", "plate", "I", false), ("BlackSun$Moves", "star", "I", false)]
def ax_fl_11 : List (String × String × String × Bool) := [("BlackSunModel", "thrown", "I", false), ("BlackSunModel", "now", "I", false), ("BlackSunModel", "stars", "I", false), ("BlackSunModel", "plates", "I", false), ("BlackSunModel", "images", "I", false), ("BlackSunModel", "starX", "[I", true), ("BlackSunModel", "starY", "[I", true), ("BlackSunModel", "bright", "[I", true), ("BlackSunModel", "island", "[I", true), ("BlackSunModel", "kind", "[I", true), ("BlackSunModel", "heat", "[I", true), ("BlackSunModel", "plateOf", "[I", true), ("BlackSunModel", "starOf", "[I", true), ("BlackSunModel", "handOf", "[I", true), ("BlackSunModel", "dxOf", "[I", true), ("BlackSunModel", "dyOf", "[I", true), ("BlackSunModel", "weekOf", "[I", true), ("BlackSunModel", "taped", "I", false), ("BlackSunModel", "p", "I", false), ("BlackSunModel", "fault", "I", false), ("BlackSunModel", "ways", "I", false), ("BlackSunModel", "entries", "I", false), ("BlackSunModel", "deep", "I", false), ("BlackSunModel", "counted", "I", false), ("BlackSunModel", "opened", "I", false), ("BlackSunModel", "fitted", "I", false), ("BlackSunModel", "tape", "[B", true), ("BlackSunModel", "sort", "[I", true), ("BlackSunModel", "number", "[I", true), ("BlackSunModel", "leaveAt", "[I", true), ("BlackSunModel", "leaveEnd", "[I", true), ("BlackSunModel", "leaves", "[I", true), ("BlackSunModel", "handIn", "[I", true), ("BlackSunModel", "role", "[I", true), ("BlackSunModel", "heldAt", "[I", true), ("BlackSunModel", "open", "[I", true), ("BlackSunModel", "asked", "[J", true), ("BlackSunModel", "stack", "[J", true), ("BlackSunModel", "taken", "[Z", true), ("BlackSunModel", "fits", "[I", true), ("BlackSunModel", "held", "[J", true), ("BlackSunModel", "sums", "[J", true), ("BlackSunModel", "right", "[J", true), ("BlackSunModel", "factors", "[J", true), ("BlackSunModel", "answers", "[J", true), ("BlackSunModel", "isHeld", "[Z", true), ("BlackSunModel", "outX", "[I", true), ("BlackSunModel", "outY", "[I", true), ("BlackSunModel", "isOut", "[Z", true), ("BlackSunModel", "fitMany", "I", false), ("BlackSunModel", "used", "I", false), ("BlackSunModel", "quotient", "J", false), ("BlackSunModel", "rest", "J", false), ("BlackSunModel", "has", "[Z", true), ("BlackSunModel", "above", "J", false), ("BlackSunModel", "below", "J", false), ("BlackSunModel", "toldIn", "[I", true), ("BlackSunModel", "joinAnswer", "J", false), ("BlackSunModel", "joinUsed", "I", false), ("BlackSunModel", "sayings", "I", false), ("BlackSunModel", "saidWay", "[I", true), ("BlackSunModel", "saidNumber", "[I", true), ("BlackSunModel", "saidIn", "[I", true), ("BlackSunModel", "fields", "I", false), ("BlackSunModel", "minutesOf", "[I", true), ("BlackSunModel", "fieldStars", "[I", true), ("BlackSunModel", "draw", "J", false), ("BlackSunModel", "cold", "[I", true), ("BlackSunModel", "more", "[I", true), ("BlackSunModel", "onPlate", "I", false), ("BlackSunModel", "marks", "[I", true), ("BlackSunModel", "scalars", "[I", true), ("BlackSunModel", "isMarked", "[Z", true), ("BlackSunModel", "markAt", "I", false), ("BlackSunModel", "isBack", "Z", false)]
def ax_fl : Nat → List (String × String × String × Bool)
  | 0 => ax_fl_0
  | 1 => ax_fl_1
  | 2 => ax_fl_2
  | 3 => ax_fl_3
  | 4 => ax_fl_4
  | 5 => ax_fl_5
  | 6 => ax_fl_6
  | 7 => ax_fl_7
  | 8 => ax_fl_8
  | 9 => ax_fl_9
  | 10 => ax_fl_10
  | 11 => ax_fl_11
  | _ => []
def ax_tl : Nat → List Nat
  | 0 => [2, 2, 2, 2, 2]
  | 1 => [0, 2, 2, 2, 0, 2, 0, 2, 2, 2, 0, 2, 2, 2, 2, 2, 2]
  | 2 => [0, 2, 2, 2]
  | 3 => [0, 2, 2, 2]
  | 4 => [0, 2, 2, 2, 2, 2, 2, 2]
  | 5 => [2, 2, 0, 2]
  | 6 => [0, 0, 2, 0, 0, 0, 0, 0, 0, 0, 2, 0, 2, 2, 2]
  | 7 => [0, 2, 2, 0, 0, 2, 2, 2, 2, 2, 2, 2, 2, 2, 1]
  | 8 => [1, 1, 1]
  | 9 => [1, 1]
  | 10 => [0, 0, 0, 0, 0, 0]
  | 11 => [0, 0, 0, 0, 0, 2, 2, 2, 2, 2, 2, 2, 2, 2, 2, 2, 2, 0, 0, 0, 0, 0, 0, 0, 0, 0, 2, 2, 2, 2, 2, 2, 2, 2, 2, 2, 2, 2, 2, 2, 2, 2, 2, 2, 2, 2, 2, 2, 2, 0, 0, 1, 1, 2, 1, 1, 2, 1, 0, 0, 2, 2, 2, 0, 2, 2, 1, 2, 2, 0, 2, 2, 2, 0, 3]
  | _ => []
def ax_ft (c k : Nat) : Nat := (ax_tl c).getD k 0
def ax_n : Nat → Nat
  | 0 => 5
  | 1 => 17
  | 2 => 4
  | 3 => 4
  | 4 => 8
  | 5 => 4
  | 6 => 15
  | 7 => 15
  | 8 => 3
  | 9 => 2
  | 10 => 6
  | 11 => 75
  | _ => 0
def ax_T (c : Nat) : u_T := fun k => (ax_fl c).getD k ("", "", "", false)
def ax_ty (c k : Nat) : FieldType := (parseFieldDescriptor (ax_T c k).2.2.1).getD .int
def ax_cls : List vw_C := (List.range 12).map (fun c => (ax_cn c, ax_T c, ax_n c))
def ax_nest : List (String × Nat × MethodName × String) := [("BlackSun$Book", 11, ⟨"BlackSun$Stars", "<init>", "()V"⟩, "BlackSun"), ("BlackSun$Book", 20, ⟨"BlackSun$Plates", "<init>", "()V"⟩, "BlackSun"), ("BlackSun$Book", 27, ⟨"BlackSun$Images", "<init>", "()V"⟩, "BlackSun"), ("BlackSun", 22, ⟨"BlackSun$Reader", "<init>", "()V"⟩, "BlackSun"), ("BlackSun", 29, ⟨"BlackSun$Fit", "<init>", "()V"⟩, "BlackSun"), ("BlackSun", 36, ⟨"BlackSun$Mix", "<init>", "()V"⟩, "BlackSun"), ("BlackSun$Stars", 25, ⟨"BlackSun", "isWithin", "(III)Z"⟩, "BlackSun"), ("BlackSun$Plates", 25, ⟨"BlackSun", "isWithin", "(III)Z"⟩, "BlackSun"), ("BlackSun$Book", 70, ⟨"BlackSun", "isWithin", "(III)Z"⟩, "BlackSun"), ("BlackSun$Book", 133, ⟨"BlackSun", "isNear", "(III)Z"⟩, "BlackSun"), ("BlackSun", 241, ⟨"BlackSun$Lean", "<init>", "()V"⟩, "BlackSun"), ("BlackSun$Fit", 233, ⟨"BlackSun", "isNear", "(III)Z"⟩, "BlackSun"), ("BlackSun", 337, ⟨"BlackSun$Moves", "<init>", "()V"⟩, "BlackSun")]
def ax_strs : List (String × Nat × String) := [("BlackSun$Reader", 84, "fit hold check leave hand "), ("BlackSun$Reader", 100, "east north scale turn light bend "), ("BlackSun$Reader", 110, "if "), ("BlackSun$Reader", 134, "not "), ("BlackSun$Reader", 162, "plate island kind heat star bright far x y dx dy week hand "), ("BlackSun$Reader", 149, "and "), ("BlackSun$Reader", 151, "or "), ("BlackSunModel", 358, "fit"), ("BlackSunModel", 360, "hold"), ("BlackSunModel", 362, "check"), ("BlackSunModel", 364, "leave"), ("BlackSunModel", 257, "hand"), ("BlackSunModel", 366, "if"), ("BlackSunModel", 335, "not"), ("BlackSunModel", 238, "plate"), ("BlackSunModel", 240, "island"), ("BlackSunModel", 241, "kind"), ("BlackSunModel", 242, "heat"), ("BlackSunModel", 243, "star"), ("BlackSunModel", 245, "bright"), ("BlackSunModel", 246, "far"), ("BlackSunModel", 247, "x"), ("BlackSunModel", 249, "y"), ("BlackSunModel", 251, "dx"), ("BlackSunModel", 253, "dy"), ("BlackSunModel", 255, "week"), ("BlackSunModel", 348, "and"), ("BlackSunModel", 350, "or"), ("BlackSunModel", 226, "east"), ("BlackSunModel", 228, "north"), ("BlackSunModel", 230, "scale"), ("BlackSunModel", 232, "turn"), ("BlackSunModel", 234, "light"), ("BlackSunModel", 236, "bend")]
/-- kinds of rows and their component types -/
def ax_at : Nat → FieldType
  | 16 => .int
  | 17 => .long
  | 18 => .byte
  | 19 => .boolean
  | 20 => .object "BlackSun$Way"
  | 21 => .object "BlackSun$Book"
  | _ => .array .long
theorem ax_lt12 {P : Nat → Prop} (h0 : P 0) (h1 : P 1) (h2 : P 2) (h3 : P 3) (h4 : P 4) (h5 : P 5) (h6 : P 6) (h7 : P 7) (h8 : P 8) (h9 : P 9) (h10 : P 10) (h11 : P 11) : ∀ c, c < 12 → P c := by
  intro c hc
  match c, hc with
  | 0, _ => exact h0
  | 1, _ => exact h1
  | 2, _ => exact h2
  | 3, _ => exact h3
  | 4, _ => exact h4
  | 5, _ => exact h5
  | 6, _ => exact h6
  | 7, _ => exact h7
  | 8, _ => exact h8
  | 9, _ => exact h9
  | 10, _ => exact h10
  | 11, _ => exact h11
  | n + 12, h => exact absurd h (by omega)
theorem ax_cls_at : ∀ c, c < 12 → ax_cls[c]? = some (ax_cn c, ax_T c, ax_n c) := ax_lt12 rfl rfl rfl rfl rfl rfl rfl rfl rfl rfl rfl rfl
theorem ax_cls_len : ax_cls.length = 12 := rfl
theorem ax_tok : ∀ c, c < 12 → ∀ k, k < ax_n c → parseFieldDescriptor (ax_T c k).2.2.1 = some (ax_ty c k) := by decide +kernel
theorem ax_nok : ∀ c, c < 12 → ∀ a, a < ax_n c → ∀ b, b < ax_n c → a ≠ b → (ax_T c a).2.1 ≠ (ax_T c b).2.1 := by decide +kernel
/-- the types by their numbers -/
def ax_tyok (c k : Nat) : Bool := match ax_ft c k, ax_ty c k with
  | 0, .int => true
  | 3, .boolean => true
  | 1, .long => true
  | 2, .object _ => true
  | 2, .array _ => true
  | _, _ => false
theorem ax_tyoks : ∀ c, c < 12 → ∀ k, k < ax_n c → ax_tyok c k = true := by decide +kernel
def ax_G : List Cond := lw_tbl.filter goodWord
theorem ax_win_0 : ∀ w ∈ u_ws (ax_cn 0) (ax_T 0) (ax_n 0), w ∈ ax_G := by decide +kernel
theorem ax_win_1 : ∀ w ∈ u_ws (ax_cn 1) (ax_T 1) (ax_n 1), w ∈ ax_G := by decide +kernel
theorem ax_win_2 : ∀ w ∈ u_ws (ax_cn 2) (ax_T 2) (ax_n 2), w ∈ ax_G := by decide +kernel
theorem ax_win_3 : ∀ w ∈ u_ws (ax_cn 3) (ax_T 3) (ax_n 3), w ∈ ax_G := by decide +kernel
theorem ax_win_4 : ∀ w ∈ u_ws (ax_cn 4) (ax_T 4) (ax_n 4), w ∈ ax_G := by decide +kernel
theorem ax_win_5 : ∀ w ∈ u_ws (ax_cn 5) (ax_T 5) (ax_n 5), w ∈ ax_G := by decide +kernel
theorem ax_win_6 : ∀ w ∈ u_ws (ax_cn 6) (ax_T 6) (ax_n 6), w ∈ ax_G := by decide +kernel
theorem ax_win_7 : ∀ w ∈ u_ws (ax_cn 7) (ax_T 7) (ax_n 7), w ∈ ax_G := by decide +kernel
theorem ax_win_8 : ∀ w ∈ u_ws (ax_cn 8) (ax_T 8) (ax_n 8), w ∈ ax_G := by decide +kernel
theorem ax_win_9 : ∀ w ∈ u_ws (ax_cn 9) (ax_T 9) (ax_n 9), w ∈ ax_G := by decide +kernel
theorem ax_win_10 : ∀ w ∈ u_ws (ax_cn 10) (ax_T 10) (ax_n 10), w ∈ ax_G := by decide +kernel
theorem ax_win_11 : ∀ w ∈ u_ws (ax_cn 11) (ax_T 11) (ax_n 11), w ∈ ax_G := by decide +kernel
theorem ax_win : ∀ c, c < 12 → ∀ w ∈ u_ws (ax_cn c) (ax_T c) (ax_n c), w ∈ ax_G := ax_lt12 ax_win_0 ax_win_1 ax_win_2 ax_win_3 ax_win_4 ax_win_5 ax_win_6 ax_win_7 ax_win_8 ax_win_9 ax_win_10 ax_win_11
theorem ax_inst : ∀ c, c < 12 → Cond.instantiable (ax_cn c) (ax_n c) ∈ ax_G := by decide +kernel
theorem ax_init : ∀ c, c < 12 → Cond.initialized (ax_cn c) ∈ ax_G := by decide +kernel
theorem ax_G_sub {w : Cond} (h : w ∈ ax_G) : w ∈ lw_tbl := (List.mem_filter.mp h).1
theorem ax_G_good : GoodIn ax_G ax_G := fun w h => ⟨h, good_of_word (List.mem_filter.mp h).2⟩
end
section
theorem ax_u1n {α : Type} {f : Nat → α} {a b : Nat} {v : α} (h : b ≠ a) : u1 f a v b = f b := by simp [u1, h]
theorem ax_u1s {α : Type} {f : Nat → α} {a : Nat} {v : α} : u1 f a v a = v := by simp [u1]
/-! THE PICTURE: what the machine's heap is, of a pure heap -/
def ax_obj (X : ax_X) (h : ax_H) (H : Heap) (a c : Nat) : Prop := t_OB (ax_r X a) (xC X c) (ax_n c) (xI X c) H (fun k => ax_fv X h a (ax_ft c k) k)
def ax_row (X : ax_X) (h : ax_H) (H : Heap) (a kd : Nat) : Prop := H[ax_r X a]? = some (arrV (xR X kd) (gS h a).2 (ax_av X h a kd))
def ax_cell (X : ax_X) (h : ax_H) (H : Heap) (a : Nat) : Prop := ((gS h a).1 < 12 ∧ ax_obj X h H a (gS h a).1) ∨ (16 ≤ (gS h a).1 ∧ (gS h a).1 < 23 ∧ ax_row X h H a (gS h a).1)
def ax_Rep (X : ax_X) (h : ax_H) (H : Heap) : Prop :=
  64 ≤ gN h ∧ H.size = xB X + (gN h - 64) ∧ (∀ a, 64 ≤ a → a < gN h → ax_cell X h H a) ∧ (∀ q, q < xB X → H[q]? = (xH X)[q]?) ∧
  (∀ a, (a < 64 ∨ gN h ≤ a) → a ≠ 40 → (gS h a).1 = 99) ∧ gS h 40 = (24, xL X) ∧ (∀ j, j < xL X → gI h 40 j = xS X j) ∧ (xH X).size = xB X
theorem ax_valid {X : ax_X} {h : ax_H} {H : Heap} (R : ax_Rep X h H) {a : Nat} (hk : (gS h a).1 < 23) : 64 ≤ a ∧ a < gN h := by
  obtain ⟨-, -, -, -, r5, r6, -⟩ := R
  by_cases h40 : a = 40
  · subst h40; rw [r6] at hk; exact absurd hk (by show ¬ 24 < 23; decide)
  · by_cases hv : a < 64 ∨ gN h ≤ a
    · have := r5 a hv h40; omega
    · omega
theorem ax_getO {X : ax_X} {h : ax_H} {H : Heap} (R : ax_Rep X h H) {a c : Nat} (hk : (gS h a).1 = c) (hc : c < 12) : ax_obj X h H a c := by
  obtain ⟨h1, h2⟩ := ax_valid R (a := a) (by omega)
  rcases R.2.2.1 a h1 h2 with ⟨-, h⟩ | ⟨h, -⟩
  · rw [hk] at h; exact h
  · omega
theorem ax_getA {X : ax_X} {h : ax_H} {H : Heap} (R : ax_Rep X h H) {a c : Nat} (hk : (gS h a).1 = c) (hc : 16 ≤ c) (hc2 : c < 23) : ax_row X h H a c := by
  obtain ⟨h1, h2⟩ := ax_valid R (a := a) (by omega)
  rcases R.2.2.1 a h1 h2 with ⟨h, -⟩ | ⟨-, -, h⟩
  · omega
  · rw [hk] at h; exact h
theorem ax_ne0 {X : ax_X} {h : ax_H} {H : Heap} (R : ax_Rep X h H) {a : Nat} (hk : (gS h a).1 < 23) : a ≠ 0 := by
  have := (ax_valid R hk).1; omega
/-- the pure heap changes at one cell only; the machine's likewise -/
theorem ax_set {X : ax_X} {h h1 : ax_H} {H H1 : Heap} (R : ax_Rep X h H) {a : Nat} (ha : (gS h a).1 < 23) (eN : gN h1 = gN h) (eS : ∀ b, gS h1 b = gS h b) (hoI : ∀ b, b ≠ a → gI h1 b = gI h b) (hoL : ∀ b, b ≠ a → gL h1 b = gL h b) (hoR : ∀ b, b ≠ a → gR h1 b = gR h b)
    (hz : H1.size = H.size) (ho : ∀ q, q ≠ ax_r X a → H1[q]? = H[q]?) (hc : ax_cell X h1 H1 a) : ax_Rep X h1 H1 := by
  obtain ⟨v1, v2⟩ := ax_valid R ha
  obtain ⟨r1, r2, r3, r4, r5, r6, r7, r8⟩ := R
  refine ⟨by rw [eN]; exact r1, by rw [hz, eN]; exact r2, fun b b1 b2 => ?_, fun q hq => ?_, fun b hb h40 => ?_, by rw [eS]; exact r6, fun j hj => ?_, r8⟩
  · by_cases hb : b = a
    · rw [hb]; exact hc
    · have hne : ax_r X b ≠ ax_r X a := fun e => hb (ax_r_inj b1 v1 e)
      have e1 : H1[ax_r X b]? = H[ax_r X b]? := ho _ hne
      have f1 := hoI b hb
      have f2 := hoL b hb
      have f3 := hoR b hb
      rcases r3 b b1 (by rw [← eN]; exact b2) with ⟨k1, k2⟩ | ⟨k1, k2, k3⟩
      · left
        rw [eS]
        refine ⟨k1, ?_⟩
        exact t_OB.to (t_OB.kept k2 e1) (fun k _ => by simp only [ax_fv, f1, f2, f3])
      · right
        rw [eS]
        refine ⟨k1, k2, ?_⟩
        unfold ax_row at k3 ⊢
        rw [e1, k3, eS]
        have : ax_av X h b (gS h b).1 = ax_av X h1 b (gS h b).1 := by
          funext j; simp only [ax_av, f1, f2, f3]
        rw [this]
  · rw [ho q (by rw [ax_r_hi v1]; omega)]; exact r4 q hq
  · rw [eS]; exact r5 b (by rw [← eN]; exact hb) h40
  · rw [hoI 40 (by omega)]; exact r7 j hj
theorem ax_gI_p (h : ax_H) (a k : Nat) (v : Int32) (b : Nat) : gI (pI h a k v) b = if b = a then upd (gI h a) k v else gI h b := by
  funext j
  by_cases e : b = a
  · subst e; by_cases e2 : j = k <;> simp [gI, pI, u2, upd, e2]
  · simp [gI, pI, u2, e]
theorem ax_putI {X : ax_X} {h : ax_H} {H H1 : Heap} (R : ax_Rep X h H) {a c k : Nat} {cell : Cell} {v : Int32} (hk : (gS h a).1 = c) (hc : c < 12) (hap : ∀ x y, x < ax_n c → y < ax_n c → x ≠ y → (xI X c) x ≠ (xI X c) y) (hn : k < ax_n c) (ht : ax_ft c k ≠ 1 ∧ ax_ft c k ≠ 2) (e0 : H[ax_r X a]? = some cell)
    (e1 : H1[ax_r X a]? = some (cell.setSlot (xI X c k) (.int v))) (e2 : H1.size = H.size) (e3 : ∀ q, q ≠ ax_r X a → H1[q]? = H[q]?) : ax_Rep X (pI h a k v) H1 := by
  refine ax_set R (by omega) rfl (fun _ => rfl) (fun b hb => by rw [ax_gI_p, if_neg hb]) (fun _ _ => rfl) (fun _ _ => rfl) e2 e3 ?_
  obtain ⟨cell', q1, q2, q3, q4⟩ := ax_getO R hk hc
  cases e0.symm.trans q1
  left
  refine ⟨by show (gS h a).1 < 12; omega, ?_⟩
  show ax_obj X (pI h a k v) H1 a (gS h a).1
  rw [hk]
  refine t_OB.to (V := updV (fun k => ax_fv X h a (ax_ft c k) k) k (.int v)) ⟨_, e1, q2, q3, t_set q4 hap hn (.int v)⟩ (fun j _ => ?_)
  by_cases e : j = k
  · subst e
    simp [updV, ax_fv, ht.1, ht.2, gI, pI, u2]
  · simp [updV, ax_fv, e, gI, pI, u2, gL, gR]
theorem ax_putL {X : ax_X} {h : ax_H} {H H1 : Heap} (R : ax_Rep X h H) {a c k : Nat} {cell : Cell} {v : Int64} (hk : (gS h a).1 = c) (hc : c < 12) (hap : ∀ x y, x < ax_n c → y < ax_n c → x ≠ y → (xI X c) x ≠ (xI X c) y) (hn : k < ax_n c) (ht : ax_ft c k = 1) (e0 : H[ax_r X a]? = some cell)
    (e1 : H1[ax_r X a]? = some (cell.setSlot (xI X c k) (.long v))) (e2 : H1.size = H.size) (e3 : ∀ q, q ≠ ax_r X a → H1[q]? = H[q]?) : ax_Rep X (pL h a k v) H1 := by
  refine ax_set R (by omega) rfl (fun _ => rfl) (fun _ _ => rfl) (fun b hb => by funext j; simp [gL, pL, u2, hb]) (fun _ _ => rfl) e2 e3 ?_
  obtain ⟨cell', q1, q2, q3, q4⟩ := ax_getO R hk hc
  cases e0.symm.trans q1
  left
  refine ⟨by show (gS h a).1 < 12; omega, ?_⟩
  show ax_obj X (pL h a k v) H1 a (gS h a).1
  rw [hk]
  refine t_OB.to (V := updV (fun k => ax_fv X h a (ax_ft c k) k) k (.long v)) ⟨_, e1, q2, q3, t_set q4 hap hn (.long v)⟩ (fun j _ => ?_)
  by_cases e : j = k
  · subst e
    simp [updV, ax_fv, ht, gL, pL, u2]
  · simp [updV, ax_fv, e, gI, pL, u2, gL, gR]
theorem ax_putR {X : ax_X} {h : ax_H} {H H1 : Heap} (R : ax_Rep X h H) {a c k : Nat} {cell : Cell} {v : Nat} (hk : (gS h a).1 = c) (hc : c < 12) (hap : ∀ x y, x < ax_n c → y < ax_n c → x ≠ y → (xI X c) x ≠ (xI X c) y) (hn : k < ax_n c) (ht : ax_ft c k = 2) (e0 : H[ax_r X a]? = some cell)
    (e1 : H1[ax_r X a]? = some (cell.setSlot (xI X c k) (ax_v X (.ref v)))) (e2 : H1.size = H.size) (e3 : ∀ q, q ≠ ax_r X a → H1[q]? = H[q]?) : ax_Rep X (pR h a k v) H1 := by
  refine ax_set R (by omega) rfl (fun _ => rfl) (fun _ _ => rfl) (fun _ _ => rfl) (fun b hb => by funext j; simp [gR, pR, u2, hb]) e2 e3 ?_
  obtain ⟨cell', q1, q2, q3, q4⟩ := ax_getO R hk hc
  cases e0.symm.trans q1
  left
  refine ⟨by show (gS h a).1 < 12; omega, ?_⟩
  show ax_obj X (pR h a k v) H1 a (gS h a).1
  rw [hk]
  refine t_OB.to (V := updV (fun k => ax_fv X h a (ax_ft c k) k) k (ax_v X (.ref v))) ⟨_, e1, q2, q3, t_set q4 hap hn (ax_v X (.ref v))⟩ (fun j _ => ?_)
  by_cases e : j = k
  · subst e
    simp [updV, ax_fv, ht, gR, pR, u2]
  · simp [updV, ax_fv, e, gI, pR, u2, gL, gR]
/-- a row's cell after a store -/
theorem ax_astI {X : ax_X} {h : ax_H} {H H1 : Heap} (R : ax_Rep X h H) {a c j : Nat} {v : Int32} (hk : (gS h a).1 = c) (hc : c = 16 ∨ c = 18 ∨ c = 19)
    (e1 : H1[ax_r X a]? = some ((arrV (xR X c) (gS h a).2 (ax_av X h a c)).setSlot j (.int v))) (e2 : H1.size = H.size) (e3 : ∀ q, q ≠ ax_r X a → H1[q]? = H[q]?) : ax_Rep X (pI h a j v) H1 := by
  refine ax_set R (by omega) rfl (fun _ => rfl) (fun b hb => by rw [ax_gI_p, if_neg hb]) (fun _ _ => rfl) (fun _ _ => rfl) e2 e3 ?_
  right
  refine ⟨by show 16 ≤ (gS h a).1; omega, by show (gS h a).1 < 23; omega, ?_⟩
  show H1[ax_r X a]? = some (arrV (xR X (gS h a).1) (gS h a).2 (ax_av X (pI h a j v) a (gS h a).1))
  rw [e1, hk, arrV_store]
  have : updV (ax_av X h a c) j (.int v) = ax_av X (pI h a j v) a c := by
    funext i
    by_cases e : i = j
    · subst e; simp only [updV, ax_av]; rcases hc with rfl | rfl | rfl <;> simp [gI, pI, u2]
    · simp only [updV, ax_av]; rcases hc with rfl | rfl | rfl <;> simp [gI, pI, u2, e]
  rw [this]
theorem ax_astL {X : ax_X} {h : ax_H} {H H1 : Heap} (R : ax_Rep X h H) {a j : Nat} {v : Int64} (hk : (gS h a).1 = 17)
    (e1 : H1[ax_r X a]? = some ((arrV (xR X 17) (gS h a).2 (ax_av X h a 17)).setSlot j (.long v))) (e2 : H1.size = H.size) (e3 : ∀ q, q ≠ ax_r X a → H1[q]? = H[q]?) : ax_Rep X (pL h a j v) H1 := by
  refine ax_set R (by omega) rfl (fun _ => rfl) (fun _ _ => rfl) (fun b hb => by funext j; simp [gL, pL, u2, hb]) (fun _ _ => rfl) e2 e3 ?_
  right
  refine ⟨by show 16 ≤ (gS h a).1; omega, by show (gS h a).1 < 23; omega, ?_⟩
  show H1[ax_r X a]? = some (arrV (xR X (gS h a).1) (gS h a).2 (ax_av X (pL h a j v) a (gS h a).1))
  rw [e1, hk, arrV_store]
  have : updV (ax_av X h a 17) j (.long v) = ax_av X (pL h a j v) a 17 := by
    funext i
    by_cases e : i = j
    · subst e; simp [updV, ax_av, gL, pL, u2]
    · simp [updV, ax_av, gL, pL, u2, e]
  rw [this]
theorem ax_astR {X : ax_X} {h : ax_H} {H H1 : Heap} (R : ax_Rep X h H) {a c j v : Nat} (hk : (gS h a).1 = c) (hc : 20 ≤ c) (hc2 : c < 23)
    (e1 : H1[ax_r X a]? = some ((arrV (xR X c) (gS h a).2 (ax_av X h a c)).setSlot j (ax_v X (.ref v)))) (e2 : H1.size = H.size) (e3 : ∀ q, q ≠ ax_r X a → H1[q]? = H[q]?) : ax_Rep X (pR h a j v) H1 := by
  refine ax_set R (by omega) rfl (fun _ => rfl) (fun _ _ => rfl) (fun _ _ => rfl) (fun b hb => by funext j; simp [gR, pR, u2, hb]) e2 e3 ?_
  right
  refine ⟨by show 16 ≤ (gS h a).1; omega, by show (gS h a).1 < 23; omega, ?_⟩
  show H1[ax_r X a]? = some (arrV (xR X (gS h a).1) (gS h a).2 (ax_av X (pR h a j v) a (gS h a).1))
  rw [e1, hk, arrV_store]
  have n1 : ¬ c = 17 := by omega
  have n2 : ¬ c < 20 := by omega
  have : updV (ax_av X h a c) j (ax_v X (.ref v)) = ax_av X (pR h a j v) a c := by
    funext i
    by_cases e : i = j
    · subst e; simp [updV, ax_av, n1, n2, gR, pR, u2]
    · simp [updV, ax_av, n1, n2, gR, pR, u2, e]
  rw [this]
/-- a whole row anew -/
theorem ax_rowI {X : ax_X} {h : ax_H} {H H1 : Heap} (R : ax_Rep X h H) {a c : Nat} {f : Nat → Int32} (hk : (gS h a).1 = c) (hc : c = 16 ∨ c = 18 ∨ c = 19)
    (e1 : H1[ax_r X a]? = some (arrV (xR X c) (gS h a).2 (fun j => .int (f j)))) (e2 : H1.size = H.size) (e3 : ∀ q, q ≠ ax_r X a → H1[q]? = H[q]?) : ax_Rep X (rI h a f) H1 := by
  refine ax_set R (by omega) rfl (fun _ => rfl) (fun b hb => ax_u1n (f := h.2.2.2.1) hb) (fun _ _ => rfl) (fun _ _ => rfl) e2 e3 ?_
  right
  refine ⟨by show 16 ≤ (gS h a).1; omega, by show (gS h a).1 < 23; omega, ?_⟩
  show H1[ax_r X a]? = some (arrV (xR X (gS h a).1) (gS h a).2 (ax_av X (rI h a f) a (gS h a).1))
  rw [e1, hk]
  have : (fun j => Value.int (f j)) = ax_av X (rI h a f) a c := by
    funext i
    simp only [ax_av]; rcases hc with rfl | rfl | rfl <;> simp [gI, rI, u1]
  rw [this]
theorem ax_rowL {X : ax_X} {h : ax_H} {H H1 : Heap} (R : ax_Rep X h H) {a : Nat} {f : Nat → Int64} (hk : (gS h a).1 = 17)
    (e1 : H1[ax_r X a]? = some (arrV (xR X 17) (gS h a).2 (fun j => .long (f j)))) (e2 : H1.size = H.size) (e3 : ∀ q, q ≠ ax_r X a → H1[q]? = H[q]?) : ax_Rep X (rL h a f) H1 := by
  refine ax_set R (by omega) rfl (fun _ => rfl) (fun _ _ => rfl) (fun b hb => ax_u1n (f := h.2.2.2.2.1) hb) (fun _ _ => rfl) e2 e3 ?_
  right
  refine ⟨by show 16 ≤ (gS h a).1; omega, by show (gS h a).1 < 23; omega, ?_⟩
  show H1[ax_r X a]? = some (arrV (xR X (gS h a).1) (gS h a).2 (ax_av X (rL h a f) a (gS h a).1))
  rw [e1, hk]
  have : (fun j => Value.long (f j)) = ax_av X (rL h a f) a 17 := by
    funext i
    simp [ax_av, gL, rL, u1]
  rw [this]
/-- a new cell -/
theorem ax_new {X : ax_X} {h : ax_H} {H H1 : Heap} (R : ax_Rep X h H) {kd len z : Nat} (hz : H1.size = H.size + 1) (ho : ∀ q, q < H.size → H1[q]? = H[q]?) (hc : ax_cell X (nW h kd len z) H1 (gN h)) : ax_Rep X (nW h kd len z) H1 := by
  obtain ⟨r1, r2, r3, r4, r5, r6, r7, r8⟩ := R
  have eN : gN (nW h kd len z) = gN h + 1 := rfl
  have eS : ∀ b, b ≠ gN h → gS (nW h kd len z) b = gS h b := fun b hb => ax_u1n (f := h.2.2.1) (show b ≠ h.1 from hb)
  have f1 : ∀ b, b ≠ gN h → gI (nW h kd len z) b = gI h b := fun b hb => ax_u1n (f := h.2.2.2.1) (show b ≠ h.1 from hb)
  have f2 : ∀ b, b ≠ gN h → gL (nW h kd len z) b = gL h b := fun b hb => ax_u1n (f := h.2.2.2.2.1) (show b ≠ h.1 from hb)
  have f3 : ∀ b, b ≠ gN h → gR (nW h kd len z) b = gR h b := fun b hb => ax_u1n (f := h.2.2.2.2.2) (show b ≠ h.1 from hb)
  refine ⟨by omega, by rw [hz, r2, eN]; omega, fun b b1 b2 => ?_, fun q hq => by rw [ho q (by omega)]; exact r4 q hq, fun b hb h40 => by rw [eS b (by omega)]; exact r5 b (by omega) h40, by rw [eS 40 (by omega)]; exact r6, fun j hj => by rw [f1 40 (by omega)]; exact r7 j hj, r8⟩
  by_cases hb : b = gN h
  · rw [hb]; exact hc
  · have e1 : H1[ax_r X b]? = H[ax_r X b]? := ho _ (by rw [ax_r_hi b1, r2]; omega)
    rcases r3 b b1 (by omega) with ⟨k1, k2⟩ | ⟨k1, k2, k3⟩
    · left
      rw [eS b hb]
      exact ⟨k1, t_OB.to (t_OB.kept k2 e1) (fun k _ => by simp only [ax_fv, f1 b hb, f2 b hb, f3 b hb])⟩
    · right
      rw [eS b hb]
      refine ⟨k1, k2, ?_⟩
      unfold ax_row at k3 ⊢
      rw [e1, k3, eS b hb]
      have : ax_av X h b (gS h b).1 = ax_av X (nW h kd len z) b (gS h b).1 := by
        funext j; simp only [ax_av, f1 b hb, f2 b hb, f3 b hb]
      rw [this]
end
section
/-! WHAT IS KNOWN of the launch in every state: classes, rows, private links, String constants, the script -/
def ax_tys (X : ax_X) : List (ClassId × FieldType) := [(xR X 16, ax_at 16), (xR X 17, ax_at 17), (xR X 18, ax_at 18), (xR X 19, ax_at 19), (xR X 20, ax_at 20), (xR X 21, ax_at 21), (xR X 22, ax_at 22)]
/-- String constant number i (from 0): its bytes are those of its text -/
def ax_str (X : ax_X) (U : State) (i : Nat) (tx : String) : Prop := ∃ v : Nat, va_O "java/lang/String" (xA X (i + 1)) (fun q => xB X ≤ q) U (xH X) ∧ va_OF "java/lang/String" "coder" "B" (.int 0) (xA X (i + 1)) (fun q => xB X ≤ q) U (xH X) ∧ va_OF "java/lang/String" "value" "[B" (.ref v) (xA X (i + 1)) (fun q => xB X ≤ q) U (xH X) ∧ va_T .byte v tx.length (fun j => .int (nI ((tx.toList.map Char.toNat).getD j 0))) (fun q => xB X ≤ q) U (xH X)
def ax_K (X : ax_X) (U : State) : Prop :=
  va_K (xC X, xI X) ax_cls (ax_tys X) U ∧ (∀ q ∈ ax_nest, va_Nw (.methodLinkNest q.1 q.2.1 q.2.2.1 q.2.2.2) U) ∧ (∀ (i : Nat) (q : String × Nat × String), ax_strs[i]? = some q → vk_R q.1 q.2.1 q.2.2 (xA X (i + 1)) U ∧ ax_str X U i q.2.2) ∧
  (va_Nw (.arrayOver (.object "BlackSun$Way")) U ∧ va_Nw (.arrayOver (.object "BlackSun$Book")) U ∧ va_Nw (.arrayOver (.array .long)) U ∧ va_Nw (.castable "[I" "java/lang/Cloneable") U) ∧
  va_X (xA X 40) (xL X) (xS X) U (xH X) ∧ xA X 40 < xB X ∧ xL X < 2 ^ 31 ∧ (xH X).size = xB X
theorem ax_str.moved {X : ax_X} {u U : State} {i : Nat} {tx : String} (hvm : u.vm.Alike U.vm) (h : ax_str X u i tx) : ax_str X U i tx := by
  obtain ⟨v, h1, h2, h3, h4⟩ := h
  exact ⟨v, va_O.moved hvm h1, va_OF.moved hvm h2, va_OF.moved hvm h3, va_T.moved hvm h4⟩
theorem ax_overA {t : FieldType} {u U : State} (hvm : u.vm.Alike U.vm) (h : va_Nw (.arrayOver (.array t)) u) : va_Nw (.arrayOver (.array t)) U := by
  obtain ⟨comp, c, k, h1, h2, h3, h4, h5⟩ := arrayOverA_spec (args := #[]) (first := u) (o := none) (idx := []) h
  obtain ⟨k', hk', he⟩ := hvm.2.2 _ _ h3
  have hi : (U.vm.classes.findIdx? fun (x : Class) => match x.kind with | .array component _ => component == comp | _ => false) = some c := by
    rw [hvm.findIdx?_eq _ (fun _ => rfl)]; exact h2
  have hkind : k'.kind = .array comp (.array t) := by rw [he]; exact h4
  have f1 : U.vm.findClass (FieldType.array t).toString = some comp := by rw [hvm.findClass]; exact h1
  have f2 : U.vm.findClass ("[" ++ (FieldType.array t).toString) = some c := by rw [hvm.findClass]; exact h5
  unfold va_Nw Cond.before Cond.holds
  simp only [Cond.value]
  rw [f1, Option.bind_some]
  refine (congrArg (fun o : Option Nat => (o.bind (fun c => (U.vm.classes[c]?).map fun (k : Class) => match k.kind with | .array _ ty => decide (ty = FieldType.array t) && decide (U.vm.findClass ("[" ++ (FieldType.array t).toString) = some c) | _ => false) == some true)) hi).trans ?_
  simp [hk', hkind, f2]
theorem ax_overO {C : String} {u U : State} (hvm : u.vm.Alike U.vm) (h : va_Nw (.arrayOver (.object C)) u) : va_Nw (.arrayOver (.object C)) U := va_AO.moved hvm h
theorem ax_K.warm {X : ax_X} {s U : State} (hW : s.WarmedH U.vm) (h : ax_K X s) : ax_K X U := by
  obtain ⟨h1, h2, h3, ⟨h4, h5, h6, h7⟩, h8, h9⟩ := h
  refine ⟨va_K.moved hW.alike h1, fun q hq => va_Nw.warmM hW (h2 q hq), fun i q hq => ⟨vk_R.warm hW (h3 i q hq).1, (h3 i q hq).2.moved hW.alike⟩, ⟨ax_overO hW.alike h4, ax_overO hW.alike h5, ax_overA hW.alike h6, va_Nw.warmC hW h7⟩, va_X.moved hW.alike h8, h9⟩
theorem ax_K.same {X : ax_X} {u U : State} (hv : u.vm = U.vm) (h : ax_K X u) : ax_K X U := by
  have hal : u.vm.Alike U.vm := by rw [hv]; exact Vm.Alike.refl _
  obtain ⟨h1, h2, h3, ⟨h4, h5, h6, h7⟩, h8, h9⟩ := h
  refine ⟨va_K.moved hal h1, fun q hq => va_Nw.same rfl hv (h2 q hq), fun i q hq => ⟨vk_R.same hv.symm (h3 i q hq).1, (h3 i q hq).2.moved hal⟩, ⟨ax_overO hal h4, ax_overO hal h5, ax_overA hal h6, va_Nw.same rfl hv h7⟩, va_X.moved hal h8, h9⟩
theorem ax_Kc {X : ax_X} {U : State} (h : ax_K X U) {c : Nat} (hc : c < 12) : u_Kn U (ax_cn c) (ax_T c) (ax_n c) (xC X c) (xI X c) := h.1.1 c _ (ax_cls_at c hc)
theorem ax_Ka {X : ax_X} {U : State} (h : ax_K X U) {c : Nat} (hc : 16 ≤ c) (hc2 : c < 23) : ArrOfT U (xR X c) (ax_at c) ∧ va_RA U (xR X c) (ax_at c) := by
  have h1 := h.1.2
  match c, hc, hc2 with
  | 16, _, _ => exact h1 0 _ rfl
  | 17, _, _ => exact h1 1 _ rfl
  | 18, _, _ => exact h1 2 _ rfl
  | 19, _, _ => exact h1 3 _ rfl
  | 20, _, _ => exact h1 4 _ rfl
  | 21, _, _ => exact h1 5 _ rfl
  | 22, _, _ => exact h1 6 _ rfl
  | n + 23, _, h => exact absurd h (by omega)
/-- a contract's start and end -/
def ax_Pc (X : ax_X) (av : List Value) (h : ax_H) : Array Value → State → Prop := fun v U => v = (av.map (ax_v X)).toArray ∧ ax_Rep X h U.heap ∧ ax_K X U
def ax_Qc (X : ax_X) (r : Option Value) (h : ax_H) : Array Value → State → Outcome → State → Prop := fun _ _ o t => o = .returned (r.map (ax_v X)) ∧ ax_Rep X h t.heap
theorem ax_Pc.blind {X : ax_X} {av : List Value} {h : ax_H} : FrameBlind (ax_Pc X av h) := fun a U g mk q => ⟨q.1, q.2.1, ax_K.same (u := U) (U := U.calling g mk a) rfl q.2.2⟩
end
section
/-! THE PURE MACHINE: a row of the code is (pc, instruction, length, a, b, z); a method's code is a list of rows; a mark (.jsr) keeps the locals of a mask -/
abbrev ax_E : Type := Nat × Instr × Nat × Nat × Nat × Int
abbrev ax_L : Type := List (Nat × Value)
def ax_c1 (i : Nat) (l : ax_L) : ax_L := l.filter (fun q => !(q.1 == i) && !(q.1 + 1 == i && q.2.category == 2))
def ax_c2 (i : Nat) (l : ax_L) : ax_L := l.filter (fun q => !(q.1 == i) && (!(q.1 == i + 1) && !(q.1 + 1 == i && q.2.category == 2)))
def ax_get (l : ax_L) (i : Nat) : Option Value := match l with
  | [] => none
  | q :: t => if q.1 == i then some q.2 else ax_get t i
/-- the locals of a mark, in order -/
def ax_keep (l : ax_L) : Nat → Nat → ax_L
  | 0, _ => []
  | n + 1, i => if i.testBit 0 then (match ax_get l (32 - (n + 1)) with
      | some v => (32 - (n + 1), v) :: ax_keep l n (i / 2)
      | none => ax_keep l n (i / 2)) else ax_keep l n (i / 2)
def ax_gv (h : ax_H) (x c k : Nat) : Value := if ax_ft c k = 1 then .long (gL h x k) else if ax_ft c k = 2 then .ref (gR h x k) else .int (gI h x k)
abbrev ax_in (h : ax_H) (x kd : Nat) (j : Int32) : Prop := (gS h x).1 = kd ∧ ¬ j < 0 ∧ j.toNatClampNeg < (gS h x).2
abbrev ax_cp (h : ax_H) (x kd : Nat) (p n : Int32) : Prop := (gS h x).1 = kd ∧ ¬ p < 0 ∧ p.toNatClampNeg + n.toNatClampNeg ≤ (gS h x).2
section
variable {α : Type}
def ax_ii (f : Int32 → Int32 → Int32) (st : List Value) (k : List Value → Option α) : Option α := match st with
  | .int y :: .int x :: r => k (.int (f x y) :: r)
  | _ => none
def ax_ll (f : Int64 → Int64 → Int64) (st : List Value) (k : List Value → Option α) : Option α := match st with
  | .long y :: .long x :: r => k (.long (f x y) :: r)
  | _ => none
/-- getfield, putfield -/
def ax_gf (c kf : Nat) (st : List Value) (h : ax_H) (k : List Value → Option α) : Option α := match st with
  | .ref x :: r => if (gS h x).1 = c then k (ax_gv h x c kf :: r) else none
  | _ => none
def ax_pf (c kf : Nat) (st : List Value) (h : ax_H) (k : List Value → ax_H → Option α) : Option α := match st with
  | .int i :: .ref x :: r => if (gS h x).1 = c then (if ax_ft c kf = 0 then k r (pI h x kf i) else if ax_ft c kf = 3 then (if i = 0 ∨ i = 1 then k r (pI h x kf i) else none) else none) else none
  | .long i :: .ref x :: r => if (gS h x).1 = c then (if ax_ft c kf = 1 then k r (pL h x kf i) else none) else none
  | .ref i :: .ref x :: r => if (gS h x).1 = c then (if ax_ft c kf = 2 then k r (pR h x kf i) else none) else none
  | _ => none
/-- reading rows -/
def ax_al (kd : Nat) (st : List Value) (h : ax_H) (k : List Value → Option α) : Option α := match st with
  | .int j :: .ref x :: r => if ax_in h x kd j then k ((if kd = 17 then .long (gL h x j.toNatClampNeg) else if kd < 20 ∨ kd = 24 then .int (gI h x j.toNatClampNeg) else .ref (gR h x j.toNatClampNeg)) :: r) else none
  | _ => none
/-- writing rows; t: what a byte or a boolean keeps of an int -/
def ax_as (kd : Nat) (st : List Value) (h : ax_H) (k : List Value → ax_H → Option α) : Option α := match st with
  | .int v :: .int j :: .ref x :: r => if ax_in h x kd j then (if kd = 16 then k r (pI h x j.toNatClampNeg v) else if kd = 18 then k r (pI h x j.toNatClampNeg v.toInt8.toInt32) else if kd = 19 then k r (pI h x j.toNatClampNeg (v &&& 1)) else none) else none
  | .long v :: .int j :: .ref x :: r => if ax_in h x kd j then (if kd = 17 then k r (pL h x j.toNatClampNeg v) else none) else none
  | .ref v :: .int j :: .ref x :: r => if ax_in h x kd j then (if kd = 20 then (if v = 0 ∨ (gS h v).1 = 5 then k r (pR h x j.toNatClampNeg v) else none) else if kd = 21 then (if v = 0 ∨ (gS h v).1 = 1 then k r (pR h x j.toNatClampNeg v) else none) else none) else none
  | _ => none
def ax_ln (kd : Nat) (st : List Value) (h : ax_H) (k : List Value → Option α) : Option α := match st with
  | .ref x :: r => if (gS h x).1 = kd then k (.int (nI (gS h x).2) :: r) else none
  | _ => none
def ax_na (kd : Nat) (st : List Value) (h : ax_H) (k : List Value → ax_H → Option α) : Option α := match st with
  | .int n :: r => if ¬ n < 0 ∧ n.toNatClampNeg ≤ 100000 then k (.ref (gN h) :: r) (nW h kd n.toNatClampNeg n.toNatClampNeg) else none
  | _ => none
def ax_mn (st : List Value) (h : ax_H) (k : List Value → ax_H → Option α) : Option α := match st with
  | .int k2 :: .int n :: r => if n = 47 ∧ k2 = 13 then k (.ref (gN h) :: r) (nG h 22 17 47 13) else none
  | _ => none
/-- System.arraycopy of rows of kind kd (16 or 17) -/
def ax_ac (kd : Nat) (st : List Value) (h : ax_H) (k : List Value → ax_H → Option α) : Option α := match st with
  | .int n :: .int dp :: .ref y :: .int sp :: .ref x :: r => if ax_cp h x kd sp n ∧ ax_cp h y kd dp n ∧ ¬ n < 0 ∧ (r.map (fun v => v.category)).sum ≤ 8 then
      (if kd = 16 then k r (rI h y (va_cpy (gI h x) (gI h y) sp.toNatClampNeg dp.toNatClampNeg n.toNatClampNeg)) else if kd = 17 then k r (rL h y (va_cpy (gL h x) (gL h y) sp.toNatClampNeg dp.toNatClampNeg n.toNatClampNeg)) else none) else none
  | _ => none
/-- clone of a row of ints -/
def ax_cl (st : List Value) (h : ax_H) (k : List Value → ax_H → Option α) : Option α := match st with
  | .ref x :: r => if (gS h x).1 = 16 ∧ (gS h x).2 ≤ 100000 ∧ (r.map (fun v => v.category)).sum ≤ 8 then k (.ref (gN h) :: r) (rI (nW h 16 (gS h x).2 (gS h x).2) (gN h) (gI h x)) else none
  | _ => none
def ax_cc (kd : Nat) (st : List Value) (h : ax_H) (k : List Value → Option α) : Option α := match st with
  | .ref x :: r => if (gS h x).1 = kd then k (.ref x :: r) else none
  | _ => none
/-- an instruction that goes on at the next row -/
def ax_stp (e : ax_E) (ls : ax_L) (st : List Value) (h : ax_H) (k : ax_L → List Value → ax_H → Option α) : Option α :=
  match e.2.1 with
  | .jsr _ => k (ax_keep ls 32 e.2.2.2.1) st h
  | .iconst _ => k ls (.int (Int32.ofInt e.2.2.2.2.2) :: st) h
  | .bipush _ => k ls (.int (Int32.ofInt e.2.2.2.2.2) :: st) h
  | .sipush _ => k ls (.int (Int32.ofInt e.2.2.2.2.2) :: st) h
  | .ldc_w _ => k ls (.int (Int32.ofInt e.2.2.2.2.2) :: st) h
  | .ldc _ => if e.2.2.2.2.1 = 0 then k ls (.int (Int32.ofInt e.2.2.2.2.2) :: st) h else k ls (.ref e.2.2.2.1 :: st) h
  | .lconst _ => k ls (.long (Int64.ofInt e.2.2.2.2.2) :: st) h
  | .ldc2_w _ => k ls (.long (Int64.ofInt e.2.2.2.2.2) :: st) h
  | .aconst_null => k ls (.ref 0 :: st) h
  | .iload _ => (match ax_get ls e.2.2.2.1 with | some (.int x) => k ls (.int x :: st) h | _ => none)
  | .iload_n _ => (match ax_get ls e.2.2.2.1 with | some (.int x) => k ls (.int x :: st) h | _ => none)
  | .lload _ => (match ax_get ls e.2.2.2.1 with | some (.long x) => k ls (.long x :: st) h | _ => none)
  | .lload_n _ => (match ax_get ls e.2.2.2.1 with | some (.long x) => k ls (.long x :: st) h | _ => none)
  | .aload _ => (match ax_get ls e.2.2.2.1 with | some (.ref x) => k ls (.ref x :: st) h | _ => none)
  | .aload_n _ => (match ax_get ls e.2.2.2.1 with | some (.ref x) => k ls (.ref x :: st) h | _ => none)
  | .istore _ => (match st with | .int x :: r => k ((e.2.2.2.1, .int x) :: ax_c1 e.2.2.2.1 ls) r h | _ => none)
  | .istore_n _ => (match st with | .int x :: r => k ((e.2.2.2.1, .int x) :: ax_c1 e.2.2.2.1 ls) r h | _ => none)
  | .lstore _ => (match st with | .long x :: r => k ((e.2.2.2.1, .long x) :: ax_c2 e.2.2.2.1 ls) r h | _ => none)
  | .lstore_n _ => (match st with | .long x :: r => k ((e.2.2.2.1, .long x) :: ax_c2 e.2.2.2.1 ls) r h | _ => none)
  | .astore _ => (match st with | .ref x :: r => k ((e.2.2.2.1, .ref x) :: ax_c1 e.2.2.2.1 ls) r h | _ => none)
  | .astore_n _ => (match st with | .ref x :: r => k ((e.2.2.2.1, .ref x) :: ax_c1 e.2.2.2.1 ls) r h | _ => none)
  | .iinc _ _ => (match ax_get ls e.2.2.2.1 with | some (.int x) => k ((e.2.2.2.1, .int (x + Int32.ofInt e.2.2.2.2.2)) :: ax_c1 e.2.2.2.1 ls) st h | _ => none)
  | .iadd => ax_ii (fun x y => x + y) st (fun r => k ls r h)
  | .isub => ax_ii (fun x y => x - y) st (fun r => k ls r h)
  | .imul => ax_ii (fun x y => x * y) st (fun r => k ls r h)
  | .iand => ax_ii (fun x y => x &&& y) st (fun r => k ls r h)
  | .ior => ax_ii (fun x y => x ||| y) st (fun r => k ls r h)
  | .ishl => ax_ii (fun x y => x <<< (y &&& 31)) st (fun r => k ls r h)
  | .ishr => ax_ii (fun x y => x >>> (y &&& 31)) st (fun r => k ls r h)
  | .iushr => ax_ii (fun x y => (x.toUInt32 >>> (y.toUInt32 &&& Int32.toUInt32 31)).toInt32) st (fun r => k ls r h)
  | .idiv => (match st with | .int y :: .int x :: r => if y = 0 then none else k ls (.int (x / y) :: r) h | _ => none)
  | .irem => (match st with | .int y :: .int x :: r => if y = 0 then none else k ls (.int (x - x / y * y) :: r) h | _ => none)
  | .ineg => (match st with | .int x :: r => k ls (.int (-x) :: r) h | _ => none)
  | .ladd => ax_ll (fun x y => x + y) st (fun r => k ls r h)
  | .lsub => ax_ll (fun x y => x - y) st (fun r => k ls r h)
  | .lmul => ax_ll (fun x y => x * y) st (fun r => k ls r h)
  | .land => ax_ll (fun x y => x &&& y) st (fun r => k ls r h)
  | .lor => ax_ll (fun x y => x ||| y) st (fun r => k ls r h)
  | .lxor => ax_ll (fun x y => x ^^^ y) st (fun r => k ls r h)
  | .ldiv => (match st with | .long y :: .long x :: r => if y = 0 then none else k ls (.long (x / y) :: r) h | _ => none)
  | .lrem => (match st with | .long y :: .long x :: r => if y = 0 then none else k ls (.long (x - x / y * y) :: r) h | _ => none)
  | .lneg => (match st with | .long x :: r => k ls (.long (-x) :: r) h | _ => none)
  | .lcmp => (match st with | .long y :: .long x :: r => k ls (.int (lg_cmp x y) :: r) h | _ => none)
  | .i2l => (match st with | .int x :: r => k ls (.long x.toInt64 :: r) h | _ => none)
  | .l2i => (match st with | .long x :: r => k ls (.int x.toInt32 :: r) h | _ => none)
  | .i2b => (match st with | .int x :: r => k ls (.int x.toInt8.toInt32 :: r) h | _ => none)
  | .dup => (match st with | v :: r => if v.category = 1 then k ls (v :: v :: r) h else none | _ => none)
  | .dup2 => (match st with | v :: r => if v.category = 2 then k ls (v :: v :: r) h else (match r with | w :: r' => if w.category = 1 then k ls (v :: w :: v :: w :: r') h else none | _ => none) | _ => none)
  | .pop => (match st with | v :: r => if v.category = 1 then k ls r h else none | _ => none)
  | .getfield _ => ax_gf e.2.2.2.1 e.2.2.2.2.1 st h (fun r => k ls r h)
  | .putfield _ => ax_pf e.2.2.2.1 e.2.2.2.2.1 st h (fun r h1 => k ls r h1)
  | .iaload => ax_al (if e.2.2.2.2.1 = 1 then 24 else 16) st h (fun r => k ls r h)
  | .laload => ax_al 17 st h (fun r => k ls r h)
  | .baload => ax_al e.2.2.2.1 st h (fun r => k ls r h)
  | .aaload => ax_al e.2.2.2.1 st h (fun r => k ls r h)
  | .iastore => ax_as 16 st h (fun r h1 => k ls r h1)
  | .lastore => ax_as 17 st h (fun r h1 => k ls r h1)
  | .bastore => ax_as e.2.2.2.1 st h (fun r h1 => k ls r h1)
  | .aastore => ax_as e.2.2.2.1 st h (fun r h1 => k ls r h1)
  | .arraylength => ax_ln (if e.2.2.2.2.1 = 1 then 24 else 16) st h (fun r => k ls r h)
  | .new _ => k ls (.ref (gN h) :: st) (nW h e.2.2.2.1 0 (ax_n e.2.2.2.1))
  | .newarray _ => ax_na e.2.2.2.1 st h (fun r h1 => k ls r h1)
  | .anewarray _ => ax_na e.2.2.2.1 st h (fun r h1 => k ls r h1)
  | .multianewarray _ _ => ax_mn st h (fun r h1 => k ls r h1)
  | .checkcast _ => ax_cc 16 st h (fun r => k ls r h)
  | .invokestatic _ => ax_ac e.2.2.2.1 st h (fun r h1 => k ls r h1)
  | .invokevirtual _ => ax_cl st h (fun r h1 => k ls r h1)
  | .invokespecial _ => (match st with | .ref x :: r => if (gS h x).1 < 12 ∧ (r.map (fun v => v.category)).sum ≤ 8 then k ls r h else none | _ => none)
  | _ => none
end
def ax_h1 (c : ClassFile.Cond) (x : Int32) : Bool := match c with
  | .eq => decide (x = 0)
  | .ne => decide (¬ x = 0)
  | .lt => decide (x < 0)
  | .ge => decide (0 ≤ x)
  | .gt => decide (0 < x)
  | .le => decide (x ≤ 0)
def ax_h2 (c : ClassFile.Cond) (x y : Int32) : Bool := match c with
  | .eq => decide (x = y)
  | .ne => decide (¬ x = y)
  | .lt => decide (x < y)
  | .ge => decide (y ≤ x)
  | .gt => decide (y < x)
  | .le => decide (x ≤ y)
/-- the rows from a pc on -/
def ax_to (C : List ax_E) (t : Nat) : List ax_E := match C with
  | [] => []
  | e :: r => if e.1 == t then e :: r else ax_to r t
/-- the environment: void, int, long, reference methods by number -/
abbrev ax_Env : Type := (Nat → List Value → ax_H → Option ax_H) × (Nat → List Value → ax_H → Option (Int32 × ax_H)) × (Nat → List Value → ax_H → Option (Int64 × ax_H)) × (Nat → List Value → ax_H → Option (Nat × ax_H))
/-- a switch: the values from v on, by their targets -/
def ax_sw {α : Type} (x : Int32) (k : Nat → Option α) : Int → List (Nat) → Nat → Option α
  | _, [], d => k d
  | v, t :: r, d => if x = Int32.ofInt v then k t else ax_sw x k (v + 1) r d
def ax_call {α : Type} (E : ax_Env) (e : ax_E) (n : Nat) (st : List Value) (h : ax_H) (k : List Value → ax_H → Option α) : Option α :=
  if n ≤ st.length ∧ ((st.drop n).map (fun v => v.category)).sum ≤ 8 then
    (if e.2.2.2.2.2 = 0 then (E.1 e.2.2.2.1 (st.take n).reverse h).bind (fun r => k (st.drop n) r)
     else if e.2.2.2.2.2 = 1 then (E.2.1 e.2.2.2.1 (st.take n).reverse h).bind (fun r => k (.int r.1 :: st.drop n) r.2)
     else if e.2.2.2.2.2 = 2 then (E.2.2.1 e.2.2.2.1 (st.take n).reverse h).bind (fun r => k (.long r.1 :: st.drop n) r.2)
     else (E.2.2.2 e.2.2.2.1 (st.take n).reverse h).bind (fun r => k (.ref r.1 :: st.drop n) r.2))
  else none
/-- kinds of rows: 0 on, 1 goto, 2 if, 3 if_icmp, 4 ifnull, 5 ifnonnull, 6 switch, 7 return, 8 call -/
def ax_kind (e : ax_E) : Nat := match e.2.1 with
  | .goto _ => 1
  | .ifCond _ _ => 2
  | .if_icmp _ _ => 3
  | .ifnull _ => 4
  | .ifnonnull _ => 5
  | .tableswitch _ _ _ _ => 6
  | .lookupswitch _ _ => 9
  | .ireturn => 7
  | .lreturn => 7
  | .areturn => 7
  | .return_ => 7
  | .invokevirtual _ => if e.2.2.2.2.1 < 100 then 8 else 0
  | .invokestatic _ => if e.2.2.2.2.1 < 100 then 8 else 0
  | .invokespecial _ => if e.2.2.2.2.1 < 100 then 8 else 0
  | _ => 0
end
section
/-! ONE INSTRUCTION: the pure machine's step is the machine's. First those that leave the heap as it is -/
def ax_q (X : ax_X) (q : Nat × Value) : Nat × Value := (q.1, ax_v X q.2)
theorem ax_get_mem {ls : ax_L} {i : Nat} {v : Value} (h : ax_get ls i = some v) : (i, v) ∈ ls := by
  induction ls with
  | nil => simp [ax_get] at h
  | cons q t ih =>
    unfold ax_get at h
    by_cases e : q.1 = i
    · rw [if_pos (by simpa using e)] at h
      cases h
      subst e
      exact List.mem_cons_self
    · rw [if_neg (by simpa using e)] at h
      exact List.mem_cons_of_mem _ (ih h)
theorem ax_get_at {X : ax_X} {lsr : Array Slot} {nL : Nat} {ls : ax_L} {i : Nat} {v : Value} (hl : lv_has lsr nL (ls.map (ax_q X))) (h : ax_get ls i = some v) : lsr[i]? = some (.val (ax_v X v)) :=
  hl.2.2 (i, ax_v X v) (List.mem_map.mpr ⟨(i, v), ax_get_mem h, rfl⟩)
theorem ax_c1_map (X : ax_X) (i : Nat) (ls : ax_L) : (ls.map (ax_q X)).filter (fun q => !(q.1 == i) && !(q.1 + 1 == i && q.2.category == 2)) = (ax_c1 i ls).map (ax_q X) := by
  rw [ax_c1, List.filter_map]
  congr 2
  funext q
  simp [ax_q, ax_v_cat]
theorem ax_c2_map (X : ax_X) (i : Nat) (ls : ax_L) : (ls.map (ax_q X)).filter (fun q => !(q.1 == i) && (!(q.1 == i + 1) && !(q.1 + 1 == i && q.2.category == 2))) = (ax_c2 i ls).map (ax_q X) := by
  rw [ax_c2, List.filter_map]
  congr 2
  funext q
  simp [ax_q, ax_v_cat]
theorem ax_keep_mem {ls : ax_L} {q : Nat × Value} : ∀ (n m : Nat), q ∈ ax_keep ls n m → q ∈ ls
  | 0, m, h => by simp [ax_keep] at h
  | n + 1, m, h => by
    unfold ax_keep at h
    by_cases hb : m.testBit 0 = true
    · rw [if_pos hb] at h
      cases hg : ax_get ls (32 - (n + 1)) with
      | none => rw [hg] at h; exact ax_keep_mem n _ h
      | some v =>
        rw [hg] at h
        rcases List.mem_cons.mp h with rfl | h
        · exact ax_get_mem hg
        · exact ax_keep_mem n _ h
    · rw [if_neg hb] at h
      exact ax_keep_mem n _ h
theorem ax_keep_has {X : ax_X} {lsr : Array Slot} {nL : Nat} {ls : ax_L} {n m : Nat} (hl : lv_has lsr nL (ls.map (ax_q X))) : lv_has lsr nL ((ax_keep ls n m).map (ax_q X)) :=
  ⟨hl.1, hl.2.1, fun q hq => by
    obtain ⟨q0, h0, rfl⟩ := List.mem_map.mp hq
    exact hl.2.2 _ (List.mem_map.mpr ⟨q0, ax_keep_mem n m h0, rfl⟩)⟩
section AXW
variable {X : ax_X} {p : Program} {l : Launch} {e : Env} {R : Room} {s : State} {m : MethodId} {args : Array Value} {below : List Frame} {meth : Method} {c : Code} {Q : State → Prop} {cc : ByteArray} {nL n0 z0 : Nat} {hf : ax_H}
def ax_W (X : ax_X) (p : Program) (l : Launch) (e : Env) (R : Room) (s : State) (m : MethodId) (args : Array Value) (below : List Frame) (meth : Method) (c : Code) (nL : Nat) (Q : State → Prop) (n0 z0 : Nat) (hf : ax_H) (pc : Nat) (ls : ax_L) (st : List Value) (h : ax_H) : Prop :=
  gN h ≤ gN hf ∧ gZ h ≤ gZ hf ∧ (n0 ≤ gN h → z0 ≤ gZ h → ∀ (H : Heap) (locs : List Loc) (lsr : Array Slot), ax_Rep X h H → (∀ l ∈ locs, xB X ≤ l.base) → lv_has lsr nL (ls.map (ax_q X)) → W p l e R s m args below meth c H locs (gN h - n0) (gZ h - z0) Q (F0 m pc lsr (st.map (ax_v X))))
/-- the heap stays -/
theorem ax_stay {pc pc' : Nat} {ls ls' : ax_L} {st st' : List Value} {h : ax_H} (k : ax_W X p l e R s m args below meth c nL Q n0 z0 hf pc' ls' st' h)
    (g : ∀ (H : Heap) (locs : List Loc) (cells slots : Nat) (lsr : Array Slot), ax_Rep X h H → lv_has lsr nL (ls.map (ax_q X)) → (∀ lsr' : Array Slot, lv_has lsr' nL (ls'.map (ax_q X)) → W p l e R s m args below meth c H locs cells slots Q (F0 m pc' lsr' (st'.map (ax_v X)))) → W p l e R s m args below meth c H locs cells slots Q (F0 m pc lsr (st.map (ax_v X)))) : ax_W X p l e R s m args below meth c nL Q n0 z0 hf pc ls st h :=
  ⟨k.1, k.2.1, fun a1 a2 H locs lsr hR hlo hl => g H locs _ _ lsr hR hl (fun lsr' hl' => k.2.2 a1 a2 H locs lsr' hR hlo hl')⟩
variable {pc : Nat} {lsr : Array Slot} {rest : List Value} {H : Heap} {locs : List Loc} {cells slots : Nat}
theorem ax_aload_n (hexec : p.tables.exec = Jvm.exec) (hb : c.code = cc) {k : Fin 4} {i x : Nat} (hdg : decode cc pc = .ok (.aload_n k, 1)) (hi : (k : Nat) = i) (hl : lsr[i]? = some (.val (ax_v X (.ref x))))
    (kk : W p l e R s m args below meth c H locs cells slots Q (F0 m (pc + 1) lsr (ax_v X (.ref x) :: rest))) : W p l e R s m args below meth c H locs cells slots Q (F0 m pc lsr rest) := by
  by_cases h0 : x = 0
  · subst h0
    subst hi
    rw [ax_v_null] at hl kk
    intro T hT X
    obtain ⟨t, a, b⟩ := kk T hT X
    refine ⟨t, ?_, b⟩
    jvm_step X.here [X.here.top, hexec, hb, hdg, hl]
    exact ⟨rfl, a⟩
  · rw [ax_v_ref h0] at hl kk
    exact lv_aload_n hexec hb hdg hi hl kk
theorem ax_aload (hexec : p.tables.exec = Jvm.exec) (hb : c.code = cc) {i x : Nat} (hdg : decode cc pc = .ok (.aload i, 2)) (hl : lsr[i]? = some (.val (ax_v X (.ref x))))
    (kk : W p l e R s m args below meth c H locs cells slots Q (F0 m (pc + 2) lsr (ax_v X (.ref x) :: rest))) : W p l e R s m args below meth c H locs cells slots Q (F0 m pc lsr rest) := by
  by_cases h0 : x = 0
  · subst h0
    rw [ax_v_null] at hl kk
    intro T hT X
    obtain ⟨t, a, b⟩ := kk T hT X
    refine ⟨t, ?_, b⟩
    jvm_step X.here [X.here.top, hexec, hb, hdg, hl]
    exact ⟨rfl, a⟩
  · rw [ax_v_ref h0] at hl kk
    exact lv_aload hexec hb hdg hl kk
theorem ax_astore_n (hexec : p.tables.exec = Jvm.exec) (hb : c.code = cc) {k : Fin 4} {i x : Nat} {lv lv' : List (Nat × Value)} (hdg : decode cc pc = .ok (.astore_n k, 1)) (hi : (k : Nat) = i) (h : lv_has lsr nL lv) (hn : i < nL) (hl : (i, ax_v X (.ref x)) :: lv.filter (fun q => !(q.1 == i) && !(q.1 + 1 == i && q.2.category == 2)) = lv')
    (kk : ∀ ls' : Array Slot, lv_has ls' nL lv' → W p l e R s m args below meth c H locs cells slots Q (F0 m (pc + 1) ls' rest)) : W p l e R s m args below meth c H locs cells slots Q (F0 m pc lsr (ax_v X (.ref x) :: rest)) := by
  by_cases h0 : x = 0
  · subst h0
    subst hi
    rw [ax_v_null] at hl ⊢
    obtain ⟨ls', e', h'⟩ := lv_store1 (v := .null) h hn rfl
    intro T hT X
    obtain ⟨t, a, b⟩ := kk ls' (hl ▸ h') T hT X
    refine ⟨t, ?_, b⟩
    jvm_step X.here [X.here.top, ↓top_set X.here.top, hexec, hb, hdg, e']
    exact ⟨rfl, a⟩
  · rw [ax_v_ref h0] at hl ⊢
    exact lv_astore_n hexec hb hdg hi h hn hl kk
theorem ax_astore (hexec : p.tables.exec = Jvm.exec) (hb : c.code = cc) {i x : Nat} {lv lv' : List (Nat × Value)} (hdg : decode cc pc = .ok (.astore i, 2)) (h : lv_has lsr nL lv) (hn : i < nL) (hl : (i, ax_v X (.ref x)) :: lv.filter (fun q => !(q.1 == i) && !(q.1 + 1 == i && q.2.category == 2)) = lv')
    (kk : ∀ ls' : Array Slot, lv_has ls' nL lv' → W p l e R s m args below meth c H locs cells slots Q (F0 m (pc + 2) ls' rest)) : W p l e R s m args below meth c H locs cells slots Q (F0 m pc lsr (ax_v X (.ref x) :: rest)) := by
  by_cases h0 : x = 0
  · subst h0
    rw [ax_v_null] at hl ⊢
    obtain ⟨ls', e', h'⟩ := lv_store1 (v := .null) h hn rfl
    intro T hT X
    obtain ⟨t, a, b⟩ := kk ls' (hl ▸ h') T hT X
    refine ⟨t, ?_, b⟩
    jvm_step X.here [X.here.top, ↓top_set X.here.top, hexec, hb, hdg, e']
    exact ⟨rfl, a⟩
  · rw [ax_v_ref h0] at hl ⊢
    exact lv_astore hexec hb hdg h hn hl kk
end AXW
end
section
/-! what a row of the code must be; first the rows that leave the heap as it is -/
def ax_ok0 (nL : Nat) (e : ax_E) : Bool := match e.2.1 with
  | .iconst n => e.2.2.1 == 1 && decide (Int32.ofInt n = Int32.ofInt e.2.2.2.2.2)
  | .bipush n => e.2.2.1 == 2 && decide ((Int8.ofInt n).toInt32 = Int32.ofInt e.2.2.2.2.2)
  | .sipush n => e.2.2.1 == 3 && decide ((Int16.ofInt n).toInt32 = Int32.ofInt e.2.2.2.2.2)
  | .lconst n => e.2.2.1 == 1 && decide (Int64.ofNat (n : Nat) = Int64.ofInt e.2.2.2.2.2)
  | .aconst_null => e.2.2.1 == 1
  | .iload i => e.2.2.1 == 2 && i == e.2.2.2.1
  | .lload i => e.2.2.1 == 2 && i == e.2.2.2.1
  | .aload i => e.2.2.1 == 2 && i == e.2.2.2.1
  | .iload_n i => e.2.2.1 == 1 && (i : Nat) == e.2.2.2.1
  | .lload_n i => e.2.2.1 == 1 && (i : Nat) == e.2.2.2.1
  | .aload_n i => e.2.2.1 == 1 && (i : Nat) == e.2.2.2.1
  | .istore i => e.2.2.1 == 2 && i == e.2.2.2.1 && decide (i < nL)
  | .lstore i => e.2.2.1 == 2 && i == e.2.2.2.1 && decide (i + 1 < nL)
  | .astore i => e.2.2.1 == 2 && i == e.2.2.2.1 && decide (i < nL)
  | .istore_n i => e.2.2.1 == 1 && (i : Nat) == e.2.2.2.1 && decide (e.2.2.2.1 < nL)
  | .lstore_n i => e.2.2.1 == 1 && (i : Nat) == e.2.2.2.1 && decide (e.2.2.2.1 + 1 < nL)
  | .astore_n i => e.2.2.1 == 1 && (i : Nat) == e.2.2.2.1 && decide (e.2.2.2.1 < nL)
  | .iinc i n => e.2.2.1 == 3 && i == e.2.2.2.1 && decide (i < nL) && decide (Int32.ofInt n = Int32.ofInt e.2.2.2.2.2)
  | _ => e.2.2.1 == 1
section AXS
variable {α : Type} {X : ax_X} {p : Program} {l : Launch} {e : Env} {R : Room} {s : State} {m : MethodId} {args : Array Value} {below : List Frame} {meth : Method} {c : Code} {Q : State → Prop} {cc : ByteArray} {nL n0 z0 : Nat} {hf : ax_H}
variable {pc len a b : Nat} {z : Int} {ls : ax_L} {st : List Value} {h : ax_H} {k : ax_L → List Value → ax_H → Option α} {res : α}
theorem ax_s_ii {f : Int32 → Int32 → Int32} (hx : ax_ii f st (fun r => k ls r h) = some res) : ∃ x y r, st = .int y :: .int x :: r ∧ k ls (.int (f x y) :: r) h = some res := by
  unfold ax_ii at hx
  split at hx
  · exact ⟨_, _, _, rfl, hx⟩
  · cases hx
theorem ax_s_ll {f : Int64 → Int64 → Int64} (hx : ax_ll f st (fun r => k ls r h) = some res) : ∃ x y r, st = .long y :: .long x :: r ∧ k ls (.long (f x y) :: r) h = some res := by
  unfold ax_ll at hx
  split at hx
  · exact ⟨_, _, _, rfl, hx⟩
  · cases hx
set_option maxHeartbeats 4000000 in
/-- constants, locals, arithmetic, stack: the heap stays -/
theorem ax_stay_ok (hexec : p.tables.exec = Jvm.exec) (hb : c.code = cc) {ins : Instr} (hd : decode cc pc = .ok (ins, len)) (hk : ax_ok0 nL (pc, ins, len, a, b, z) = true)
    (hin : match ins with | .iconst _ | .bipush _ | .sipush _ | .lconst _ | .aconst_null | .iload _ | .iload_n _ | .lload _ | .lload_n _ | .aload _ | .aload_n _ | .istore _ | .istore_n _ | .lstore _ | .lstore_n _ | .astore _ | .astore_n _ | .iinc _ _ | .iadd | .isub | .imul | .iand | .ior | .ishl | .ishr | .iushr | .idiv | .irem | .ineg | .ladd | .lsub | .lmul | .land | .lor | .lxor | .ldiv | .lrem | .lneg | .lcmp | .i2l | .l2i | .i2b | .dup | .dup2 | .pop => True | _ => False)
    (kk : ∀ ls' st' h1, k ls' st' h1 = some res → ax_W X p l e R s m args below meth c nL Q n0 z0 hf (pc + len) ls' st' h1) (hs : ax_stp (pc, ins, len, a, b, z) ls st h k = some res) : ax_W X p l e R s m args below meth c nL Q n0 z0 hf pc ls st h := by
  cases ins with
  | iconst n =>
    simp [ax_ok0] at hk
    obtain ⟨rfl, hv⟩ := hk
    exact ax_stay (kk _ _ _ hs) fun H locs cells slots lsr hR hl w => lv_iconst hexec hb hd hv (w lsr hl)
  | bipush n =>
    simp [ax_ok0] at hk
    obtain ⟨rfl, hv⟩ := hk
    exact ax_stay (kk _ _ _ hs) fun H locs cells slots lsr hR hl w => lv_bipush hexec hb hd hv (w lsr hl)
  | sipush n =>
    simp [ax_ok0] at hk
    obtain ⟨rfl, hv⟩ := hk
    exact ax_stay (kk _ _ _ hs) fun H locs cells slots lsr hR hl w => lv_sipush hexec hb hd hv (w lsr hl)
  | lconst n =>
    simp only [ax_ok0, Bool.and_eq_true, beq_iff_eq, decide_eq_true_eq] at hk
    obtain ⟨rfl, hv⟩ := hk
    exact ax_stay (kk _ _ _ hs) fun H locs cells slots lsr hR hl w => lv_lconst hexec hb hd hv (w lsr hl)
  | aconst_null =>
    simp [ax_ok0] at hk
    subst hk
    exact ax_stay (kk _ _ _ hs) fun H locs cells slots lsr hR hl w => lv_null hexec hb hd (by have := w lsr hl; rwa [List.map_cons, ax_v_null] at this)
  | iload i =>
    simp [ax_ok0] at hk
    obtain ⟨rfl, rfl⟩ := hk
    simp only [ax_stp] at hs
    split at hs
    · rename_i x hg
      exact ax_stay (kk _ _ _ hs) fun H locs cells slots lsr hR hl w => lv_iload hexec hb hd (ax_get_at hl hg) (w lsr hl)
    · cases hs
  | iload_n i =>
    simp [ax_ok0] at hk
    obtain ⟨rfl, hi⟩ := hk
    simp only [ax_stp] at hs
    split at hs
    · rename_i x hg
      exact ax_stay (kk _ _ _ hs) fun H locs cells slots lsr hR hl w => lv_iload_n hexec hb hd hi (ax_get_at hl hg) (w lsr hl)
    · cases hs
  | lload i =>
    simp [ax_ok0] at hk
    obtain ⟨rfl, rfl⟩ := hk
    simp only [ax_stp] at hs
    split at hs
    · rename_i x hg
      exact ax_stay (kk _ _ _ hs) fun H locs cells slots lsr hR hl w => lv_lload hexec hb hd (ax_get_at hl hg) (w lsr hl)
    · cases hs
  | lload_n i =>
    simp [ax_ok0] at hk
    obtain ⟨rfl, hi⟩ := hk
    simp only [ax_stp] at hs
    split at hs
    · rename_i x hg
      exact ax_stay (kk _ _ _ hs) fun H locs cells slots lsr hR hl w => lv_lload_n hexec hb hd hi (ax_get_at hl hg) (w lsr hl)
    · cases hs
  | aload i =>
    simp [ax_ok0] at hk
    obtain ⟨rfl, rfl⟩ := hk
    simp only [ax_stp] at hs
    split at hs
    · rename_i x hg
      exact ax_stay (kk _ _ _ hs) fun H locs cells slots lsr hR hl w => ax_aload hexec hb hd (ax_get_at hl hg) (w lsr hl)
    · cases hs
  | aload_n i =>
    simp [ax_ok0] at hk
    obtain ⟨rfl, hi⟩ := hk
    simp only [ax_stp] at hs
    split at hs
    · rename_i x hg
      exact ax_stay (kk _ _ _ hs) fun H locs cells slots lsr hR hl w => ax_aload_n hexec hb hd hi (ax_get_at hl hg) (w lsr hl)
    · cases hs
  | istore i =>
    simp [ax_ok0] at hk
    obtain ⟨⟨rfl, rfl⟩, hn⟩ := hk
    simp only [ax_stp] at hs
    split at hs
    · exact ax_stay (kk _ _ _ hs) fun H locs cells slots lsr hR hl w => lv_istore hexec hb hd hl hn (by rw [ax_c1_map]; rfl) w
    · cases hs
  | istore_n i =>
    simp [ax_ok0] at hk
    obtain ⟨⟨rfl, hi⟩, hn⟩ := hk
    simp only [ax_stp] at hs
    split at hs
    · exact ax_stay (kk _ _ _ hs) fun H locs cells slots lsr hR hl w => lv_istore_n hexec hb hd hi hl hn (by rw [ax_c1_map]; rfl) w
    · cases hs
  | lstore i =>
    simp [ax_ok0] at hk
    obtain ⟨⟨rfl, rfl⟩, hn⟩ := hk
    simp only [ax_stp] at hs
    split at hs
    · exact ax_stay (kk _ _ _ hs) fun H locs cells slots lsr hR hl w => lv_lstore hexec hb hd hl hn (by rw [ax_c2_map]; rfl) w
    · cases hs
  | lstore_n i =>
    simp [ax_ok0] at hk
    obtain ⟨⟨rfl, hi⟩, hn⟩ := hk
    simp only [ax_stp] at hs
    split at hs
    · exact ax_stay (kk _ _ _ hs) fun H locs cells slots lsr hR hl w => lv_lstore_n hexec hb hd hi hl hn (by rw [ax_c2_map]; rfl) w
    · cases hs
  | astore i =>
    simp [ax_ok0] at hk
    obtain ⟨⟨rfl, rfl⟩, hn⟩ := hk
    simp only [ax_stp] at hs
    split at hs
    · exact ax_stay (kk _ _ _ hs) fun H locs cells slots lsr hR hl w => ax_astore hexec hb hd hl hn (by rw [ax_c1_map]; rfl) w
    · cases hs
  | astore_n i =>
    simp [ax_ok0] at hk
    obtain ⟨⟨rfl, hi⟩, hn⟩ := hk
    simp only [ax_stp] at hs
    split at hs
    · exact ax_stay (kk _ _ _ hs) fun H locs cells slots lsr hR hl w => ax_astore_n hexec hb hd hi hl hn (by rw [ax_c1_map]; rfl) w
    · cases hs
  | iinc i n =>
    simp [ax_ok0] at hk
    obtain ⟨⟨⟨rfl, rfl⟩, hn⟩, hv⟩ := hk
    simp only [ax_stp] at hs
    split at hs
    · rename_i x hg
      refine ax_stay (kk _ _ _ hs) fun H locs cells slots lsr hR hl w => ?_
      obtain ⟨k0, hk0⟩ := List.getElem?_of_mem (List.mem_map.mpr ⟨(i, Value.int x), ax_get_mem hg, rfl⟩ : ax_q X (i, Value.int x) ∈ ls.map (ax_q X))
      exact lv_iinc hexec hb hd hl hk0 (by rw [hv]) hn (by rw [ax_c1_map]; rfl) w
    · cases hs
  | iadd => simp [ax_ok0] at hk; subst hk; obtain ⟨x, y, r, rfl, hs⟩ := ax_s_ii hs; exact ax_stay (kk _ _ _ hs) fun H locs cells slots lsr hR hl w => lv_iadd hexec hb hd (w lsr hl)
  | isub => simp [ax_ok0] at hk; subst hk; obtain ⟨x, y, r, rfl, hs⟩ := ax_s_ii hs; exact ax_stay (kk _ _ _ hs) fun H locs cells slots lsr hR hl w => lv_isub hexec hb hd (w lsr hl)
  | imul => simp [ax_ok0] at hk; subst hk; obtain ⟨x, y, r, rfl, hs⟩ := ax_s_ii hs; exact ax_stay (kk _ _ _ hs) fun H locs cells slots lsr hR hl w => lv_imul hexec hb hd (w lsr hl)
  | iand => simp [ax_ok0] at hk; subst hk; obtain ⟨x, y, r, rfl, hs⟩ := ax_s_ii hs; exact ax_stay (kk _ _ _ hs) fun H locs cells slots lsr hR hl w => lv_iand hexec hb hd (w lsr hl)
  | ior => simp [ax_ok0] at hk; subst hk; obtain ⟨x, y, r, rfl, hs⟩ := ax_s_ii hs; exact ax_stay (kk _ _ _ hs) fun H locs cells slots lsr hR hl w => lv_ior hexec hb hd (w lsr hl)
  | ishl => simp [ax_ok0] at hk; subst hk; obtain ⟨x, y, r, rfl, hs⟩ := ax_s_ii hs; exact ax_stay (kk _ _ _ hs) fun H locs cells slots lsr hR hl w => lv_ishl hexec hb hd (w lsr hl)
  | ishr => simp [ax_ok0] at hk; subst hk; obtain ⟨x, y, r, rfl, hs⟩ := ax_s_ii hs; exact ax_stay (kk _ _ _ hs) fun H locs cells slots lsr hR hl w => lv_ishr hexec hb hd (w lsr hl)
  | iushr => simp [ax_ok0] at hk; subst hk; obtain ⟨x, y, r, rfl, hs⟩ := ax_s_ii hs; exact ax_stay (kk _ _ _ hs) fun H locs cells slots lsr hR hl w => lv_iushr hexec hb hd rfl (w lsr hl)
  | ladd => simp [ax_ok0] at hk; subst hk; obtain ⟨x, y, r, rfl, hs⟩ := ax_s_ll hs; exact ax_stay (kk _ _ _ hs) fun H locs cells slots lsr hR hl w => lv_ladd hexec hb hd (w lsr hl)
  | lsub => simp [ax_ok0] at hk; subst hk; obtain ⟨x, y, r, rfl, hs⟩ := ax_s_ll hs; exact ax_stay (kk _ _ _ hs) fun H locs cells slots lsr hR hl w => lv_lsub hexec hb hd (w lsr hl)
  | lmul => simp [ax_ok0] at hk; subst hk; obtain ⟨x, y, r, rfl, hs⟩ := ax_s_ll hs; exact ax_stay (kk _ _ _ hs) fun H locs cells slots lsr hR hl w => lv_lmul hexec hb hd (w lsr hl)
  | land => simp [ax_ok0] at hk; subst hk; obtain ⟨x, y, r, rfl, hs⟩ := ax_s_ll hs; exact ax_stay (kk _ _ _ hs) fun H locs cells slots lsr hR hl w => lv_land hexec hb hd (w lsr hl)
  | lor => simp [ax_ok0] at hk; subst hk; obtain ⟨x, y, r, rfl, hs⟩ := ax_s_ll hs; exact ax_stay (kk _ _ _ hs) fun H locs cells slots lsr hR hl w => lv_lor hexec hb hd (w lsr hl)
  | lxor => simp [ax_ok0] at hk; subst hk; obtain ⟨x, y, r, rfl, hs⟩ := ax_s_ll hs; exact ax_stay (kk _ _ _ hs) fun H locs cells slots lsr hR hl w => lv_lxor hexec hb hd (w lsr hl)
  | idiv =>
    simp [ax_ok0] at hk; subst hk
    simp only [ax_stp] at hs
    split at hs
    · split at hs
      · cases hs
      · rename_i hy
        exact ax_stay (kk _ _ _ hs) fun H locs cells slots lsr hR hl w => lv_idiv hexec hb hd hy (w lsr hl)
    · cases hs
  | irem =>
    simp [ax_ok0] at hk; subst hk
    simp only [ax_stp] at hs
    split at hs
    · split at hs
      · cases hs
      · rename_i hy
        exact ax_stay (kk _ _ _ hs) fun H locs cells slots lsr hR hl w => lv_irem hexec hb hd hy (w lsr hl)
    · cases hs
  | ldiv =>
    simp [ax_ok0] at hk; subst hk
    simp only [ax_stp] at hs
    split at hs
    · split at hs
      · cases hs
      · rename_i hy
        exact ax_stay (kk _ _ _ hs) fun H locs cells slots lsr hR hl w => lv_ldiv hexec hb hd hy (w lsr hl)
    · cases hs
  | lrem =>
    simp [ax_ok0] at hk; subst hk
    simp only [ax_stp] at hs
    split at hs
    · split at hs
      · cases hs
      · rename_i hy
        exact ax_stay (kk _ _ _ hs) fun H locs cells slots lsr hR hl w => lv_lrem hexec hb hd hy (w lsr hl)
    · cases hs
  | ineg =>
    simp [ax_ok0] at hk; subst hk
    simp only [ax_stp] at hs
    split at hs
    · exact ax_stay (kk _ _ _ hs) fun H locs cells slots lsr hR hl w => lv_ineg hexec hb hd (w lsr hl)
    · cases hs
  | lneg =>
    simp [ax_ok0] at hk; subst hk
    simp only [ax_stp] at hs
    split at hs
    · exact ax_stay (kk _ _ _ hs) fun H locs cells slots lsr hR hl w => lv_lneg hexec hb hd (w lsr hl)
    · cases hs
  | lcmp =>
    simp [ax_ok0] at hk; subst hk
    simp only [ax_stp] at hs
    split at hs
    · exact ax_stay (kk _ _ _ hs) fun H locs cells slots lsr hR hl w => W.lcmp hexec hb hd (w lsr hl)
    · cases hs
  | i2l =>
    simp [ax_ok0] at hk; subst hk
    simp only [ax_stp] at hs
    split at hs
    · exact ax_stay (kk _ _ _ hs) fun H locs cells slots lsr hR hl w => lv_i2l hexec hb hd rfl (w lsr hl)
    · cases hs
  | l2i =>
    simp [ax_ok0] at hk; subst hk
    simp only [ax_stp] at hs
    split at hs
    · exact ax_stay (kk _ _ _ hs) fun H locs cells slots lsr hR hl w => lv_l2i hexec hb hd rfl (w lsr hl)
    · cases hs
  | i2b =>
    simp [ax_ok0] at hk; subst hk
    simp only [ax_stp] at hs
    split at hs
    · exact ax_stay (kk _ _ _ hs) fun H locs cells slots lsr hR hl w => lv_i2b hexec hb hd rfl (w lsr hl)
    · cases hs
  | dup =>
    simp [ax_ok0] at hk; subst hk
    simp only [ax_stp] at hs
    split at hs
    · split at hs
      · rename_i hv
        exact ax_stay (kk _ _ _ hs) fun H locs cells slots lsr hR hl w => lv_dup hexec hb hd (by rw [ax_v_cat]; exact hv) (w lsr hl)
      · cases hs
    · cases hs
  | pop =>
    simp [ax_ok0] at hk; subst hk
    simp only [ax_stp] at hs
    split at hs
    · split at hs
      · rename_i hv
        exact ax_stay (kk _ _ _ hs) fun H locs cells slots lsr hR hl w => lv_pop hexec hb hd (by rw [ax_v_cat]; exact hv) (w lsr hl)
      · cases hs
    · cases hs
  | dup2 =>
    simp [ax_ok0] at hk; subst hk
    simp only [ax_stp] at hs
    split at hs
    · split at hs
      · rename_i hv
        exact ax_stay (kk _ _ _ hs) fun H locs cells slots lsr hR hl w => lv_dup2_2 hexec hb hd (by rw [ax_v_cat]; exact hv) (w lsr hl)
      · rename_i v r hv
        have hv1 : v.category = 1 := (lv_cat v).resolve_right hv
        split at hs
        · split at hs
          · rename_i hw
            exact ax_stay (kk _ _ _ hs) fun H locs cells slots lsr hR hl w => lv_dup2_11 hexec hb hd (by rw [ax_v_cat]; exact hv1) (by rw [ax_v_cat]; exact hw) (w lsr hl)
          · cases hs
        · cases hs
    · cases hs
  | _ => exact absurd hin id
end AXS
end
section
/-! fields -/
section AXF
variable {α : Type} {X : ax_X} {p : Program} {l : Launch} {e : Env} {R : Room} {s : State} {m : MethodId} {args : Array Value} {below : List Frame} {meth : Method} {c : Code} {Q : State → Prop} {cc : ByteArray} {nL n0 z0 : Nat} {hf : ax_H}
variable {pc : Nat} {lsr : Array Slot} {rest : List Value} {H : Heap} {locs : List Loc} {cells slots : Nat} {h : ax_H} {own : String}
theorem ax_gv_fv (X : ax_X) (h : ax_H) (x a b : Nat) : ax_v X (ax_gv h x a b) = ax_fv X h x (ax_ft a b) b := by
  unfold ax_gv ax_fv
  by_cases h1 : ax_ft a b = 1
  · simp [h1, ax_v_long]
  · by_cases h2 : ax_ft a b = 2
    · simp [h2]
    · simp [h1, h2, ax_v_int]
theorem ax_getf (hexec : p.tables.exec = Jvm.exec) (hb : c.code = cc) (hts : ∀ w ∈ ax_G, w.before args s = true) (hown : s.vm.findClass own = some m.cls) (hK : ax_K X s) (hR : ax_Rep X h H) {x a b idx : Nat} (ha : a < 12) (hbn : b < ax_n a) (hk : (gS h x).1 = a)
    (hlink : Cond.fieldLink own idx (ax_T a b).1 (ax_T a b).2.1 (ax_T a b).2.2.1 ∈ ax_G) (hdg : decode cc pc = .ok (.getfield idx, 3))
    (kk : W p l e R s m args below meth c H locs cells slots Q (F0 m (pc + 3) lsr (ax_v X (ax_gv h x a b) :: rest))) : W p l e R s m args below meth c H locs cells slots Q (F0 m pc lsr (ax_v X (.ref x) :: rest)) := by
  rw [ax_v_ref (ax_ne0 hR (by omega))]
  rw [ax_gv_fv] at kk
  have hP : va_P (xC X, xI X) ax_cls [(ax_r X x, .inr (a, (List.range (ax_n a)).map (fun k => ax_fv X h x (ax_ft a k) k)))] H := by
    intro k q hq
    match k, hq with
    | 0, hq =>
      cases hq
      refine ⟨_, ax_cls_at a ha, ?_⟩
      exact t_OB.to (ax_getO hR hk ha) (fun k hk => by simp [vp_V, hk])
    | k + 1, hq => simp at hq
  exact va_get (D := (xC X, xI X)) (cl := ax_cls) (tys := ax_tys X) (ci := a) (C := ax_cn a) (T := ax_T a) (N := ax_n a) hexec hb hts (ax_win a ha) hown hK.1 hP 0 rfl (ax_cls_at a ha) b hbn (hts _ hlink) (fun _ h9 => h9) (v := ax_fv X h x (ax_ft a b) b) (by simp [hbn]) hdg kk
theorem ax_apart (hts : ∀ w ∈ ax_G, w.before args s = true) (hK : ax_K X s) {a : Nat} (ha : a < 12) : ∀ x y, x < ax_n a → y < ax_n a → x ≠ y → (xI X a) x ≠ (xI X a) y :=
  va_apart (own := "") (D := (xC X, xI X)) hts (ax_win a ha) (ax_ty a) (ax_tok a ha) (ax_nok a ha) hK.1 (ax_cls_at a ha)
theorem ax_putf (hexec : p.tables.exec = Jvm.exec) (hb : c.code = cc) (hts : ∀ w ∈ ax_G, w.before args s = true) (hown : s.vm.findClass own = some m.cls) (hK : ax_K X s) (hR : ax_Rep X h H) {x a b idx : Nat} (ha : a < 12) (hbn : b < ax_n a) (hk : (gS h x).1 = a)
    (hlink : Cond.fieldLink own idx (ax_T a b).1 (ax_T a b).2.1 (ax_T a b).2.2.1 ∈ ax_G) (hfin : (ax_T a b).2.2.2 = false ∨ (meth.name = "<init>" ∧ (ax_T a b).1 = own)) {v : Value} (hn : narrow (ax_ty a b) v = v) (hfit : fits (ax_ty a b) v = true) (hdg : decode cc pc = .ok (.putfield idx, 3))
    (kk : ∀ (cell : Cell) (H1 : Heap) (lo : Loc), H[ax_r X x]? = some cell → lo.base = ax_r X x → H1[ax_r X x]? = some (cell.setSlot (xI X a b) v) → H1.size = H.size → (∀ q, q ≠ ax_r X x → H1[q]? = H[q]?) → W p l e R s m args below meth c H1 (locs ++ [lo]) cells slots Q (F0 m (pc + 3) lsr rest)) : W p l e R s m args below meth c H locs cells slots Q (F0 m pc lsr (v :: ax_v X (.ref x) :: rest)) := by
  rw [ax_v_ref (ax_ne0 hR (by omega))]
  obtain ⟨cell, q1, q2, q3, q4⟩ := ax_getO hR hk ha
  obtain ⟨hS, hfc, kC, hkC, hkind⟩ := ax_Kc hK ha
  obtain ⟨cf, kf, fi, f, hi, hsl⟩ := hS b hbn
  have hst := (u_facts hfc hkC (u_lays hts (ax_win a ha) hbn) hi).1
  have hlay := hts _ (ax_win a ha _ (u_in_lay hbn))
  by_cases hff : (ax_T a b).2.2.2 = false
  · unfold u_lay at hlay
    rw [if_neg (by rw [hff]; decide)] at hlay
    have h6 := u_store hfc hkC hkind hlay hi (ax_tok a ha b hbn) hn hfit
    refine W.putK hexec hb (f := f) ⟨hown, hts _ hlink, ⟨_, _, _, hi⟩, hst⟩ (by rw [q2]; exact h6) q1 q3 (by rw [hsl]; exact k2_hasslot (q4 b hbn)) rfl rfl hdg fun H' e1 e2 e3 => ?_
    rw [hsl] at e1 ⊢
    exact kk cell H' _ q1 rfl e1 e2 e3
  · obtain ⟨hin2, hdecl⟩ := hfin.resolve_left hff
    have hft : (ax_T a b).2.2.2 = true := by simpa using hff
    unfold u_lay at hlay
    rw [if_pos hft] at hlay
    have hcf : m.cls = cf := by
      obtain ⟨_, _, c', _, _, _, -, -, hf', -, -, -, hown2, -⟩ := Cond.laysFinal_spec hlay
      have e1 : c' = cf := by have := hi.symm.trans hf'; simp at this; exact this.1.symm
      rw [hdecl] at hown2
      rw [← e1]; exact Option.some.inj (hown.symm.trans hown2)
    have h6 := u_fits hfc hkC hkind (Or.inr hlay) hi (ax_tok a ha b hbn) hn hfit
    refine W.putFinK hexec hb hown (hts _ hlink) hi hst hcf hin2 (by rw [q2]; exact h6) q1 q3 (by rw [hsl]; exact k2_hasslot (q4 b hbn)) rfl rfl hdg fun H' e1 e2 e3 => ?_
    rw [hsl] at e1 ⊢
    exact kk cell H' _ q1 rfl e1 e2 e3
theorem ax_ty0 {a b : Nat} (ha : a < 12) (hb : b < ax_n a) (h : ax_ft a b = 0) : ax_ty a b = .int := by
  have := ax_tyoks a ha b hb
  unfold ax_tyok at this
  rw [h] at this
  split at this <;> simp_all
theorem ax_ty3 {a b : Nat} (ha : a < 12) (hb : b < ax_n a) (h : ax_ft a b = 3) : ax_ty a b = .boolean := by
  have := ax_tyoks a ha b hb
  unfold ax_tyok at this
  rw [h] at this
  split at this <;> simp_all
theorem ax_ty1 {a b : Nat} (ha : a < 12) (hb : b < ax_n a) (h : ax_ft a b = 1) : ax_ty a b = .long := by
  have := ax_tyoks a ha b hb
  unfold ax_tyok at this
  rw [h] at this
  split at this <;> simp_all
theorem ax_ty2 {a b : Nat} (ha : a < 12) (hb : b < ax_n a) (h : ax_ft a b = 2) : (∃ n, ax_ty a b = .object n) ∨ ∃ t, ax_ty a b = .array t := by
  have := ax_tyoks a ha b hb
  unfold ax_tyok at this
  rw [h] at this
  split at this <;> simp_all
theorem ax_ref_fits {X : ax_X} {ty : FieldType} (h : (∃ n, ty = .object n) ∨ ∃ t, ty = .array t) (i : Nat) : narrow ty (ax_v X (.ref i)) = ax_v X (.ref i) ∧ fits ty (ax_v X (.ref i)) = true := by
  rcases h with ⟨n, rfl⟩ | ⟨t, rfl⟩ <;> rcases ax_v_ref_or X i with e | ⟨b, e⟩ <;> rw [e] <;> exact ⟨rfl, rfl⟩
variable {st : List Value} {ls : ax_L} {k : ax_L → List Value → ax_H → Option α} {res : α}
theorem ax_app_base {X : ax_X} {locs : List Loc} {lo : Loc} {x : Nat} (hlo : ∀ l ∈ locs, xB X ≤ l.base) (hx : 64 ≤ x) (hb : lo.base = ax_r X x) : ∀ l ∈ locs ++ [lo], xB X ≤ l.base := by
  intro q hq
  rcases List.mem_append.mp hq with h | h
  · exact hlo q h
  · rw [List.mem_singleton.mp h, hb, ax_r_hi hx]; omega
/-- a store into a cell that is there: the pure heap changes at that cell -/
theorem ax_getf_ok (hexec : p.tables.exec = Jvm.exec) (hb : c.code = cc) (hts : ∀ w ∈ ax_G, w.before args s = true) (hown : s.vm.findClass own = some m.cls) (hK : ax_K X s) {a b idx : Nat} (ha : a < 12) (hbn : b < ax_n a)
    (hlink : Cond.fieldLink own idx (ax_T a b).1 (ax_T a b).2.1 (ax_T a b).2.2.1 ∈ ax_G) (hd : decode cc pc = .ok (.getfield idx, 3))
    (kk : ∀ ls' st' h1, k ls' st' h1 = some res → ax_W X p l e R s m args below meth c nL Q n0 z0 hf (pc + 3) ls' st' h1) (hs : ax_gf a b st h (fun r => k ls r h) = some res) : ax_W X p l e R s m args below meth c nL Q n0 z0 hf pc ls st h := by
  unfold ax_gf at hs
  split at hs
  · split at hs
    · rename_i x r hk
      exact ax_stay (kk _ _ _ hs) fun H locs cells slots lsr hR hl w => ax_getf hexec hb hts hown hK hR ha hbn hk hlink hd (w lsr hl)
    · cases hs
  · cases hs
theorem ax_putf_ok (hexec : p.tables.exec = Jvm.exec) (hb : c.code = cc) (hts : ∀ w ∈ ax_G, w.before args s = true) (hown : s.vm.findClass own = some m.cls) (hK : ax_K X s) {a b idx : Nat} (ha : a < 12) (hbn : b < ax_n a)
    (hlink : Cond.fieldLink own idx (ax_T a b).1 (ax_T a b).2.1 (ax_T a b).2.2.1 ∈ ax_G) (hfin : (ax_T a b).2.2.2 = false ∨ (meth.name = "<init>" ∧ (ax_T a b).1 = own)) (hd : decode cc pc = .ok (.putfield idx, 3))
    (kk : ∀ ls' st' h1, k ls' st' h1 = some res → ax_W X p l e R s m args below meth c nL Q n0 z0 hf (pc + 3) ls' st' h1) (hs : ax_pf a b st h (fun r h1 => k ls r h1) = some res) : ax_W X p l e R s m args below meth c nL Q n0 z0 hf pc ls st h := by
  have hap := ax_apart hts hK ha
  unfold ax_pf at hs
  split at hs
  · rename_i i x r
    split at hs
    · rename_i hk
      have go : ∀ (h0 : ax_ft a b ≠ 1 ∧ ax_ft a b ≠ 2), narrow (ax_ty a b) (.int i) = .int i → fits (ax_ty a b) (.int i) = true → k ls r (pI h x b i) = some res → ax_W X p l e R s m args below meth c nL Q n0 z0 hf pc ls (.int i :: .ref x :: r) h := by
        intro h0 hn hfit hs
        have k1 := kk _ _ _ hs
        refine ⟨k1.1, k1.2.1, fun a1 a2 H locs lsr hR hlo hl => ?_⟩
        refine ax_putf hexec hb hts hown hK hR ha hbn hk hlink hfin (v := .int i) hn hfit hd fun cell H1 lo q1 q2 q3 q4 q5 => ?_
        exact k1.2.2 a1 a2 H1 _ lsr (ax_putI hR hk ha hap hbn h0 q1 q3 q4 q5) (ax_app_base hlo (ax_valid hR (by omega)).1 q2) hl
      split at hs
      · rename_i h0
        exact go (by omega) (by rw [ax_ty0 ha hbn h0]; rfl) (by rw [ax_ty0 ha hbn h0]; rfl) hs
      · split at hs
        · rename_i h3
          split at hs
          · rename_i hi
            exact go (by omega) (by rw [ax_ty3 ha hbn h3]; rcases hi with rfl | rfl <;> rfl) (by rw [ax_ty3 ha hbn h3]; rcases hi with rfl | rfl <;> rfl) hs
          · cases hs
        · cases hs
    · cases hs
  · rename_i i x r
    split at hs
    · rename_i hk
      split at hs
      · rename_i h1
        have k1 := kk _ _ _ hs
        refine ⟨k1.1, k1.2.1, fun a1 a2 H locs lsr hR hlo hl => ?_⟩
        refine ax_putf hexec hb hts hown hK hR ha hbn hk hlink hfin (v := .long i) (by rw [ax_ty1 ha hbn h1]; rfl) (by rw [ax_ty1 ha hbn h1]; rfl) hd fun cell H1 lo q1 q2 q3 q4 q5 => ?_
        exact k1.2.2 a1 a2 H1 _ lsr (ax_putL hR hk ha hap hbn h1 q1 q3 q4 q5) (ax_app_base hlo (ax_valid hR (by omega)).1 q2) hl
      · cases hs
    · cases hs
  · rename_i i x r
    split at hs
    · rename_i hk
      split at hs
      · rename_i h1
        have k1 := kk _ _ _ hs
        refine ⟨k1.1, k1.2.1, fun a1 a2 H locs lsr hR hlo hl => ?_⟩
        have hf2 := ax_ref_fits (X := X) (ax_ty2 ha hbn h1) i
        refine ax_putf hexec hb hts hown hK hR ha hbn hk hlink hfin (v := ax_v X (.ref i)) hf2.1 hf2.2 hd fun cell H1 lo q1 q2 q3 q4 q5 => ?_
        exact k1.2.2 a1 a2 H1 _ lsr (ax_putR hR hk ha hap hbn h1 q1 q3 q4 q5) (ax_app_base hlo (ax_valid hR (by omega)).1 q2) hl
      · cases hs
    · cases hs
  · cases hs
end AXF
end
section
/-! rows: reading, writing, length -/
section AXA
variable {α : Type} {X : ax_X} {p : Program} {l : Launch} {e : Env} {R : Room} {s : State} {m : MethodId} {args : Array Value} {below : List Frame} {meth : Method} {c : Code} {Q : State → Prop} {cc : ByteArray} {nL n0 z0 : Nat} {hf : ax_H}
variable {pc : Nat} {lsr : Array Slot} {rest : List Value} {H : Heap} {locs : List Loc} {cells slots : Nat} {h : ax_H}
theorem ax_k24 (hR : ax_Rep X h H) {x : Nat} (hk : (gS h x).1 = 24) : x = 40 := by
  by_cases h40 : x = 40
  · exact h40
  · by_cases hv : x < 64 ∨ gN h ≤ x
    · have := hR.2.2.2.2.1 x hv h40; omega
    · rcases hR.2.2.1 x (by omega) (by omega) with ⟨h1, -⟩ | ⟨-, h1, -⟩ <;> omega
theorem ax_nin {j : Int32} {n k : Nat} (h1 : ¬ j < 0) (h2 : j.toNatClampNeg < n) (hk : k = n) : ¬ (j < 0 ∨ k ≤ j.toNatClampNeg) := by
  rintro (h | h)
  · exact h1 h
  · omega
theorem ax_iald (hexec : p.tables.exec = Jvm.exec) (hb : c.code = cc) (hK : ax_K X s) (hR : ax_Rep X h H) {x : Nat} {j : Int32} (hin : ax_in h x 16 j) (hdg : decode cc pc = .ok (.iaload, 1))
    (kk : W p l e R s m args below meth c H locs cells slots Q (F0 m (pc + 1) lsr (.int (gI h x j.toNatClampNeg) :: rest))) : W p l e R s m args below meth c H locs cells slots Q (F0 m pc lsr (.int j :: ax_v X (.ref x) :: rest)) := by
  obtain ⟨h1, h2, h3⟩ := hin
  rw [ax_v_ref (ax_ne0 hR (by omega))]
  exact W.iald (v := .int (gI h x j.toNatClampNeg)) hexec hb (ax_getA hR h1 (by omega) (by omega)) ((ax_Ka hK (c := 16) (by omega) (by omega)).1 _ _) (fun q => by cases q) (ax_nin h2 h3 (arrV_size _ _ _)) (by rw [arrV_read _ _ h3]; rfl) rfl rfl hdg kk
theorem ax_sald (hexec : p.tables.exec = Jvm.exec) (hb : c.code = cc) (hK : ax_K X s) (hR : ax_Rep X h H) {x : Nat} {j : Int32} (hin : ax_in h x 24 j) (hdg : decode cc pc = .ok (.iaload, 1))
    (kk : W p l e R s m args below meth c H locs cells slots Q (F0 m (pc + 1) lsr (.int (gI h x j.toNatClampNeg) :: rest))) : W p l e R s m args below meth c H locs cells slots Q (F0 m pc lsr (.int j :: ax_v X (.ref x) :: rest)) := by
  obtain ⟨h1, h2, h3⟩ := hin
  have e40 := ax_k24 hR h1
  subst e40
  obtain ⟨scr, s1, s2, s3, s4, s5⟩ := hK.2.2.2.2.1
  have eS := hR.2.2.2.2.2.1
  rw [eS] at h3
  have hH : H[ax_r X 40]? = some scr := by
    show H[xA X 40]? = _
    rw [hR.2.2.2.1 _ hK.2.2.2.2.2.1]; exact s1
  rw [hR.2.2.2.2.2.2.1 _ h3] at kk
  rw [ax_v_ref (by decide)]
  exact W.iald (v := .int (xS X j.toNatClampNeg)) hexec hb hH s2 s3 (ax_nin h2 h3 s4) (s5 _ h3) rfl rfl hdg kk
theorem ax_lald (hexec : p.tables.exec = Jvm.exec) (hb : c.code = cc) (hK : ax_K X s) (hR : ax_Rep X h H) {x : Nat} {j : Int32} (hin : ax_in h x 17 j) (hdg : decode cc pc = .ok (.laload, 1))
    (kk : W p l e R s m args below meth c H locs cells slots Q (F0 m (pc + 1) lsr (.long (gL h x j.toNatClampNeg) :: rest))) : W p l e R s m args below meth c H locs cells slots Q (F0 m pc lsr (.int j :: ax_v X (.ref x) :: rest)) := by
  obtain ⟨h1, h2, h3⟩ := hin
  rw [ax_v_ref (ax_ne0 hR (by omega))]
  exact W.lald (v := .long (gL h x j.toNatClampNeg)) hexec hb (ax_getA hR h1 (by omega) (by omega)) ((ax_Ka hK (c := 17) (by omega) (by omega)).1 _ _) (fun q => by cases q) (ax_nin h2 h3 (arrV_size _ _ _)) (by rw [arrV_read _ _ h3]; rfl) rfl rfl hdg kk
theorem ax_bald (hexec : p.tables.exec = Jvm.exec) (hb : c.code = cc) (hK : ax_K X s) (hR : ax_Rep X h H) {x : Nat} {j : Int32} (hin : ax_in h x 18 j) (hdg : decode cc pc = .ok (.baload, 1))
    (kk : W p l e R s m args below meth c H locs cells slots Q (F0 m (pc + 1) lsr (.int (gI h x j.toNatClampNeg) :: rest))) : W p l e R s m args below meth c H locs cells slots Q (F0 m pc lsr (.int j :: ax_v X (.ref x) :: rest)) := by
  obtain ⟨h1, h2, h3⟩ := hin
  rw [ax_v_ref (ax_ne0 hR (by omega))]
  exact W.bald (v := .int (gI h x j.toNatClampNeg)) hexec hb (ax_getA hR h1 (by omega) (by omega)) ((ax_Ka hK (c := 18) (by omega) (by omega)).1 _ _) (fun q => by cases q) (ax_nin h2 h3 (arrV_size _ _ _)) (by rw [arrV_read _ _ h3]; rfl) rfl rfl hdg kk
theorem ax_zald (hexec : p.tables.exec = Jvm.exec) (hb : c.code = cc) (hK : ax_K X s) (hR : ax_Rep X h H) {x : Nat} {j : Int32} (hin : ax_in h x 19 j) (hdg : decode cc pc = .ok (.baload, 1))
    (kk : W p l e R s m args below meth c H locs cells slots Q (F0 m (pc + 1) lsr (.int (gI h x j.toNatClampNeg) :: rest))) : W p l e R s m args below meth c H locs cells slots Q (F0 m pc lsr (.int j :: ax_v X (.ref x) :: rest)) := by
  obtain ⟨h1, h2, h3⟩ := hin
  rw [ax_v_ref (ax_ne0 hR (by omega))]
  exact W.zald (v := .int (gI h x j.toNatClampNeg)) hexec hb (ax_getA hR h1 (by omega) (by omega)) ((ax_Ka hK (c := 19) (by omega) (by omega)).1 _ _) (fun q => by cases q) (ax_nin h2 h3 (arrV_size _ _ _)) (by rw [arrV_read _ _ h3]; rfl) rfl rfl hdg kk
theorem ax_at_ref {kd : Nat} (h1 : 20 ≤ kd) : (ax_at kd).isReference = true := by
  unfold ax_at
  split <;> first | rfl | omega
theorem ax_aald (hexec : p.tables.exec = Jvm.exec) (hb : c.code = cc) (hK : ax_K X s) (hR : ax_Rep X h H) {x kd : Nat} (hkd : 20 ≤ kd) (hkd2 : kd < 23) {j : Int32} (hin : ax_in h x kd j) (hdg : decode cc pc = .ok (.aaload, 1))
    (kk : W p l e R s m args below meth c H locs cells slots Q (F0 m (pc + 1) lsr (ax_v X (.ref (gR h x j.toNatClampNeg)) :: rest))) : W p l e R s m args below meth c H locs cells slots Q (F0 m pc lsr (.int j :: ax_v X (.ref x) :: rest)) := by
  obtain ⟨h1, h2, h3⟩ := hin
  rw [ax_v_ref (ax_ne0 hR (by omega))]
  exact W.aald (v := ax_v X (.ref (gR h x j.toNatClampNeg))) hexec hb (ax_getA hR h1 (by omega) hkd2) ((ax_Ka hK (c := kd) (by omega) hkd2).1 _ _) (ax_at_ref hkd) (fun q => by cases q) (ax_nin h2 h3 (arrV_size _ _ _)) (by rw [arrV_read _ _ h3]; simp [ax_av, show ¬ kd = 17 by omega, show ¬ kd < 20 by omega]) rfl rfl hdg kk
variable {st : List Value} {ls : ax_L} {k : ax_L → List Value → ax_H → Option α} {res : α}
theorem ax_al_ok (hexec : p.tables.exec = Jvm.exec) (hb : c.code = cc) (hK : ax_K X s) {kd : Nat} {ins : Instr} (hd : decode cc pc = .ok (ins, 1)) (hi : (ins = .iaload ∧ (kd = 16 ∨ kd = 24)) ∨ (ins = .laload ∧ kd = 17) ∨ (ins = .baload ∧ (kd = 18 ∨ kd = 19)) ∨ (ins = .aaload ∧ 20 ≤ kd ∧ kd < 23))
    (kk : ∀ ls' st' h1, k ls' st' h1 = some res → ax_W X p l e R s m args below meth c nL Q n0 z0 hf (pc + 1) ls' st' h1) (hs : ax_al kd st h (fun r => k ls r h) = some res) : ax_W X p l e R s m args below meth c nL Q n0 z0 hf pc ls st h := by
  unfold ax_al at hs
  split at hs
  · rename_i j x r
    by_cases hin : ax_in h x kd j
    · rw [if_pos hin] at hs
      refine ax_stay (kk _ _ _ hs) fun H locs cells slots lsr hR hl w => ?_
      have w := w lsr hl
      rcases hi with ⟨rfl, rfl | rfl⟩ | ⟨rfl, rfl⟩ | ⟨rfl, rfl | rfl⟩ | ⟨rfl, h1, h2⟩
      · exact ax_iald hexec hb hK hR hin hd w
      · exact ax_sald hexec hb hK hR hin hd w
      · exact ax_lald hexec hb hK hR hin hd w
      · exact ax_bald hexec hb hK hR hin hd w
      · exact ax_zald hexec hb hK hR hin hd w
      · rw [if_neg (by omega), if_neg (by omega)] at w
        exact ax_aald hexec hb hK hR h1 h2 hin hd w
    · rw [if_neg hin] at hs; cases hs
  · cases hs
theorem ax_alen (hexec : p.tables.exec = Jvm.exec) (hb : c.code = cc) (hK : ax_K X s) (hR : ax_Rep X h H) {x kd : Nat} (hkd : kd = 16 ∨ kd = 24) (hk : (gS h x).1 = kd) (hdg : decode cc pc = .ok (.arraylength, 1))
    (kk : W p l e R s m args below meth c H locs cells slots Q (F0 m (pc + 1) lsr (.int (nI (gS h x).2) :: rest))) : W p l e R s m args below meth c H locs cells slots Q (F0 m pc lsr (ax_v X (.ref x) :: rest)) := by
  rcases hkd with rfl | rfl
  · rw [ax_v_ref (ax_ne0 hR (by omega))]
    exact W.alen (n := nI (gS h x).2) hexec hb (ax_getA hR hk (by omega) (by omega)) ((ax_Ka hK (c := 16) (by omega) (by omega)).1 _ _) (by rw [arrV_size]; rfl) rfl rfl hdg kk
  · have e40 := ax_k24 hR hk
    subst e40
    obtain ⟨scr, s1, s2, s3, s4, s5⟩ := hK.2.2.2.2.1
    have hH : H[ax_r X 40]? = some scr := by
      show H[xA X 40]? = _
      rw [hR.2.2.2.1 _ hK.2.2.2.2.2.1]; exact s1
    rw [ax_v_ref (by decide)]
    exact W.alen (n := nI (gS h 40).2) hexec hb hH s2 (by rw [s4, hR.2.2.2.2.2.1]; rfl) rfl rfl hdg kk
theorem ax_ln_ok (hexec : p.tables.exec = Jvm.exec) (hb : c.code = cc) (hK : ax_K X s) {kd : Nat} (hkd : kd = 16 ∨ kd = 24) (hd : decode cc pc = .ok (.arraylength, 1))
    (kk : ∀ ls' st' h1, k ls' st' h1 = some res → ax_W X p l e R s m args below meth c nL Q n0 z0 hf (pc + 1) ls' st' h1) (hs : ax_ln kd st h (fun r => k ls r h) = some res) : ax_W X p l e R s m args below meth c nL Q n0 z0 hf pc ls st h := by
  unfold ax_ln at hs
  split at hs
  · split at hs
    · rename_i x r hk
      exact ax_stay (kk _ _ _ hs) fun H locs cells slots lsr hR hl w => ax_alen hexec hb hK hR hkd hk hd (w lsr hl)
    · cases hs
  · cases hs
/-- writing -/
theorem ax_aast (hexec : p.tables.exec = Jvm.exec) (hb : c.code = cc) (hK : ax_K X s) (hR : ax_Rep X h H) {x kd v : Nat} {cn : Nat} (hkd : (kd = 20 ∧ cn = 5) ∨ (kd = 21 ∧ cn = 1)) (hv : v = 0 ∨ (gS h v).1 = cn) {j : Int32} (hin : ax_in h x kd j) (hdg : decode cc pc = .ok (.aastore, 1))
    (kk : ∀ (H1 : Heap) (lo : Loc), lo.base = ax_r X x → H1[ax_r X x]? = some ((arrV (xR X kd) (gS h x).2 (ax_av X h x kd)).setSlot j.toNatClampNeg (ax_v X (.ref v))) → H1.size = H.size → (∀ q, q ≠ ax_r X x → H1[q]? = H[q]?) → W p l e R s m args below meth c H1 (locs ++ [lo]) cells slots Q (F0 m (pc + 1) lsr rest)) : W p l e R s m args below meth c H locs cells slots Q (F0 m pc lsr (ax_v X (.ref v) :: .int j :: ax_v X (.ref x) :: rest)) := by
  obtain ⟨h1, h2, h3⟩ := hin
  rw [ax_v_ref (a := x) (ax_ne0 hR (by omega))]
  have hA := ax_Ka hK (c := kd) (by omega) (by omega)
  have hcell := ax_getA hR h1 (by omega) (by omega)
  have hat : ax_at kd = .object (ax_cn cn) := by rcases hkd with ⟨rfl, rfl⟩ | ⟨rfl, rfl⟩ <;> rfl
  by_cases h0 : v = 0
  · subst h0
    rw [ax_v_null] at kk ⊢
    rw [hat] at hA
    exact va_WaastN (C := ax_cn cn) hexec hb hcell (hA.1 _ _) (fun q => by cases q) (ax_nin h2 h3 (arrV_size _ _ _)) rfl rfl hdg (fun H1 e1 e2 e3 => kk H1 _ rfl e1 e2 e3)
  · have hv := hv.resolve_left h0
    rw [ax_v_ref h0] at kk ⊢
    have hcn : cn < 12 := by omega
    obtain ⟨cv, q1, q2, q3, q4⟩ := ax_getO hR hv hcn
    obtain ⟨-, hfc, kC, hkC, -⟩ := ax_Kc hK hcn
    rw [hat] at hA
    obtain ⟨kA, comp, f1, f2, f3, f4⟩ := hA.2
    have hcc : comp = xC X cn := Option.some.inj (f3.symm.trans hfc)
    subst hcc
    exact W.aast (k := kA) (kv := kC) (kcomp := kC) (comp := xC X cn) (t := .object (ax_cn cn)) hexec hb hcell (fun q h => by cases h) (fun q => by cases q) f1 f2 rfl hkC ⟨h2, by rw [arrV_size]; exact h3⟩ q1 (fun q h => by rw [q3] at h; cases h) (by rw [q2]; exact hkC) (by rw [q2]; exact va_asg _ _) rfl rfl hdg (fun H1 e1 e2 e3 => kk H1 _ rfl e1 e2 e3)
theorem ax_as_ok (hexec : p.tables.exec = Jvm.exec) (hb : c.code = cc) (hK : ax_K X s) {kd : Nat} {ins : Instr} (hd : decode cc pc = .ok (ins, 1)) (hi : (ins = .iastore ∧ kd = 16) ∨ (ins = .lastore ∧ kd = 17) ∨ (ins = .bastore ∧ (kd = 18 ∨ kd = 19)) ∨ (ins = .aastore ∧ (kd = 20 ∨ kd = 21)))
    (kk : ∀ ls' st' h1, k ls' st' h1 = some res → ax_W X p l e R s m args below meth c nL Q n0 z0 hf (pc + 1) ls' st' h1) (hs : ax_as kd st h (fun r h1 => k ls r h1) = some res) : ax_W X p l e R s m args below meth c nL Q n0 z0 hf pc ls st h := by
  unfold ax_as at hs
  split at hs
  · rename_i v j x r
    by_cases hin : ax_in h x kd j
    · rw [if_pos hin] at hs
      obtain ⟨h1, h2, h3⟩ := id hin
      rcases hi with ⟨rfl, rfl⟩ | ⟨rfl, rfl⟩ | ⟨rfl, rfl | rfl⟩ | ⟨rfl, rfl | rfl⟩
      · have k1 := kk _ _ _ hs
        refine ⟨k1.1, k1.2.1, fun a1 a2 H locs lsr hR hlo hl => ?_⟩
        simp only [List.map_cons, ax_v_int]
        rw [ax_v_ref (ax_ne0 hR (by omega))]
        exact W.iast hexec hb (ax_getA hR h1 (by omega) (by omega)) ((ax_Ka hK (c := 16) (by omega) (by omega)).1 _ _) (fun q => by cases q) (ax_nin h2 h3 (arrV_size _ _ _)) rfl rfl hd fun H1 e1 e2 e3 => k1.2.2 a1 a2 H1 _ lsr (ax_astI hR h1 (Or.inl rfl) e1 e2 e3) (ax_app_base hlo (ax_valid hR (by omega)).1 rfl) hl
      · simp at hs
      · have k1 := kk _ _ _ hs
        refine ⟨k1.1, k1.2.1, fun a1 a2 H locs lsr hR hlo hl => ?_⟩
        simp only [List.map_cons, ax_v_int]
        rw [ax_v_ref (ax_ne0 hR (by omega))]
        exact W.bast hexec hb (ax_getA hR h1 (by omega) (by omega)) ((ax_Ka hK (c := 18) (by omega) (by omega)).1 _ _) (fun q => by cases q) (ax_nin h2 h3 (arrV_size _ _ _)) rfl rfl hd fun H1 e1 e2 e3 => k1.2.2 a1 a2 H1 _ lsr (ax_astI hR h1 (Or.inr (Or.inl rfl)) e1 e2 e3) (ax_app_base hlo (ax_valid hR (by omega)).1 rfl) hl
      · have k1 := kk _ _ _ hs
        refine ⟨k1.1, k1.2.1, fun a1 a2 H locs lsr hR hlo hl => ?_⟩
        simp only [List.map_cons, ax_v_int]
        rw [ax_v_ref (ax_ne0 hR (by omega))]
        exact W.zast hexec hb (ax_getA hR h1 (by omega) (by omega)) ((ax_Ka hK (c := 19) (by omega) (by omega)).1 _ _) (fun q => by cases q) (ax_nin h2 h3 (arrV_size _ _ _)) rfl rfl hd fun H1 e1 e2 e3 => k1.2.2 a1 a2 H1 _ lsr (ax_astI hR h1 (Or.inr (Or.inr rfl)) e1 e2 e3) (ax_app_base hlo (ax_valid hR (by omega)).1 rfl) hl
      · simp at hs
      · simp at hs
    · rw [if_neg hin] at hs; cases hs
  · rename_i v j x r
    by_cases hin : ax_in h x kd j
    · rw [if_pos hin] at hs
      obtain ⟨h1, h2, h3⟩ := id hin
      split at hs
      · rename_i h17
        subst h17
        have hins : ins = .lastore := by simpa using hi
        subst hins
        have k1 := kk _ _ _ hs
        refine ⟨k1.1, k1.2.1, fun a1 a2 H locs lsr hR hlo hl => ?_⟩
        simp only [List.map_cons, ax_v_int, ax_v_long]
        rw [ax_v_ref (ax_ne0 hR (by omega))]
        exact W.last hexec hb (ax_getA hR h1 (by omega) (by omega)) ((ax_Ka hK (c := 17) (by omega) (by omega)).1 _ _) (fun q => by cases q) (ax_nin h2 h3 (arrV_size _ _ _)) rfl rfl hd fun H1 e1 e2 e3 => k1.2.2 a1 a2 H1 _ lsr (ax_astL hR h1 e1 e2 e3) (ax_app_base hlo (ax_valid hR (by omega)).1 rfl) hl
      · cases hs
    · rw [if_neg hin] at hs; cases hs
  · rename_i v j x r
    by_cases hin : ax_in h x kd j
    · rw [if_pos hin] at hs
      have go : ∀ cn, ((kd = 20 ∧ cn = 5) ∨ (kd = 21 ∧ cn = 1)) → (v = 0 ∨ (gS h v).1 = cn) → ins = .aastore → k ls r (pR h x j.toNatClampNeg v) = some res → ax_W X p l e R s m args below meth c nL Q n0 z0 hf pc ls (.ref v :: .int j :: .ref x :: r) h := by
        intro cn hkd hv hins hs
        subst hins
        have k1 := kk _ _ _ hs
        refine ⟨k1.1, k1.2.1, fun a1 a2 H locs lsr hR hlo hl => ?_⟩
        exact ax_aast hexec hb hK hR hkd hv hin hd fun H1 lo q1 e1 e2 e3 => k1.2.2 a1 a2 H1 _ lsr (ax_astR hR hin.1 (by omega) (by omega) e1 e2 e3) (ax_app_base hlo (ax_valid hR (by have := hin.1; omega)).1 q1) hl
      split at hs
      · rename_i h20
        split at hs
        · rename_i hv
          subst h20
          exact go 5 (Or.inl ⟨rfl, rfl⟩) hv (by simpa using hi) hs
        · cases hs
      · split at hs
        · rename_i h21
          split at hs
          · rename_i hv
            subst h21
            exact go 1 (Or.inr ⟨rfl, rfl⟩) hv (by simpa using hi) hs
          · cases hs
        · cases hs
    · rw [if_neg hin] at hs; cases hs
  · cases hs
end AXA
end
section
/-! what is made: objects, rows, clones; constants; copies -/
section AXN
variable {α : Type} {X : ax_X} {p : Program} {l : Launch} {e : Env} {R : Room} {s : State} {m : MethodId} {args : Array Value} {below : List Frame} {meth : Method} {c : Code} {Q : State → Prop} {cc : ByteArray} {nL n0 z0 : Nat} {hf : ax_H}
variable {pc : Nat} {lsr : Array Slot} {rest : List Value} {H : Heap} {locs : List Loc} {cells slots : Nat} {h : ax_H} {own : String}
variable {st : List Value} {ls : ax_L} {k : ax_L → List Value → ax_H → Option α} {res : α}
theorem ax_rN (hR : ax_Rep X h H) : ax_r X (gN h) = H.size := by
  rw [ax_r_hi hR.1, hR.2.1]
theorem ax_vN (hR : ax_Rep X h H) : ax_v X (.ref (gN h)) = .ref H.size := by
  have := hR.1
  rw [ax_v_ref (by omega), ax_rN hR]
theorem ax_gS_new (h : ax_H) (kd len z : Nat) : gS (nW h kd len z) (gN h) = (kd, len) := ax_u1s (f := h.2.2.1)
theorem ax_gI_new (h : ax_H) (kd len z : Nat) : gI (nW h kd len z) (gN h) = fun _ => 0 := ax_u1s (f := h.2.2.2.1)
theorem ax_gL_new (h : ax_H) (kd len z : Nat) : gL (nW h kd len z) (gN h) = fun _ => 0 := ax_u1s (f := h.2.2.2.2.1)
theorem ax_gR_new (h : ax_H) (kd len z : Nat) : gR (nW h kd len z) (gN h) = fun _ => 0 := ax_u1s (f := h.2.2.2.2.2)
theorem ax_new_ok (hexec : p.tables.exec = Jvm.exec) (hb : c.code = cc) (hts : ∀ w ∈ ax_G, w.before args s = true) (hown : s.vm.findClass own = some m.cls) (hK : ax_K X s) (hRc : gN hf ≤ n0 + R.cells) (hRz : gZ hf ≤ z0 + R.slots) {a idx : Nat} (ha : a < 12) (hlink : Cond.classLink own idx (ax_cn a) ∈ ax_G) (hd : decode cc pc = .ok (.new idx, 3))
    (kk : ∀ ls' st' h1, k ls' st' h1 = some res → ax_W X p l e R s m args below meth c nL Q n0 z0 hf (pc + 3) ls' st' h1) (hs : k ls (.ref (gN h) :: st) (nW h a 0 (ax_n a)) = some res) : ax_W X p l e R s m args below meth c nL Q n0 z0 hf pc ls st h := by
  have k1 := kk _ _ _ hs
  have b1 : gN h + 1 ≤ gN hf := k1.1
  have b2 : gZ h + ax_n a ≤ gZ hf := k1.2.1
  refine ⟨by omega, by omega, fun a1 a2 H locs lsr hR hlo hl => ?_⟩
  have hKn := ax_Kc hK ha
  refine W.newcK hexec hb hown (hts _ hlink) (hts _ (ax_inst a ha)) (hts _ (ax_init a ha)) rfl hd (by omega) (by omega) hKn.2.1 rfl fun H1 kC hkC e1 z1 o1 => ?_
  have hob := u_born (ax_ty a) hts (ax_win a ha) hKn hkC e1 (ax_tok a ha)
  have hR1 : ax_Rep X (nW h a 0 (ax_n a)) H1 := by
    refine ax_new hR z1 o1 (Or.inl ?_)
    rw [ax_gS_new]
    refine ⟨ha, ?_⟩
    unfold ax_obj
    rw [ax_rN hR]
    refine t_OB.to hob (fun j hj => ?_)
    simp only [ax_fv, ax_gI_new, ax_gL_new, ax_gR_new]
    have ht := ax_tyoks a ha j hj
    unfold ax_tyok at ht
    split at ht
    · rename_i h1 h2; simp [h1, h2, defaultValue]
    · rename_i h1 h2; simp [h1, h2, defaultValue]
    · rename_i h1 h2; simp [h1, h2, defaultValue]
    · rename_i h1 h2; simp [h1, h2, defaultValue, ax_v_null]
    · rename_i h1 h2; simp [h1, h2, defaultValue, ax_v_null]
    · cases ht
  have w := k1.2.2 (by show n0 ≤ gN h + 1; omega) (by show z0 ≤ gZ h + ax_n a; omega) H1 locs lsr hR1 hlo hl
  rw [List.map_cons, ax_vN hR] at w
  exact W.cs (show gN h - n0 + 1 = gN h + 1 - n0 by omega) (show gZ h - z0 + ax_n a = gZ h + ax_n a - z0 by omega) w
theorem ax_na_ok (hexec : p.tables.exec = Jvm.exec) (hb : c.code = cc) (hts : ∀ w ∈ ax_G, w.before args s = true) (hown : s.vm.findClass own = some m.cls) (hK : ax_K X s) (hRc : gN hf ≤ n0 + R.cells) (hRz : gZ hf ≤ z0 + R.slots) {kd : Nat} {ins : Instr} {len : Nat} (hd : decode cc pc = .ok (ins, len))
    (hi : (∃ at', ins = .newarray at' ∧ len = 2 ∧ 16 ≤ kd ∧ kd < 20 ∧ newarray.typeOf at' = ax_at kd ∧ Cond.arrayClass (ax_at kd) ∈ ax_G) ∨ (∃ idx cn, ins = .anewarray idx ∧ len = 3 ∧ ((kd = 20 ∧ cn = 5) ∨ (kd = 21 ∧ cn = 1)) ∧ Cond.classLink own idx (ax_cn cn) ∈ ax_G))
    (kk : ∀ ls' st' h1, k ls' st' h1 = some res → ax_W X p l e R s m args below meth c nL Q n0 z0 hf (pc + len) ls' st' h1) (hs : ax_na kd st h (fun r h1 => k ls r h1) = some res) : ax_W X p l e R s m args below meth c nL Q n0 z0 hf pc ls st h := by
  unfold ax_na at hs
  split at hs
  · rename_i n r
    by_cases hn : ¬ n < 0 ∧ n.toNatClampNeg ≤ 100000
    · rw [if_pos hn] at hs
      obtain ⟨hn0, hn1⟩ := hn
      have k1 := kk _ _ _ hs
      have b1 : gN h + 1 ≤ gN hf := k1.1
      have b2 : gZ h + n.toNatClampNeg ≤ gZ hf := k1.2.1
      refine ⟨by omega, by omega, fun a1 a2 H locs lsr hR hlo hl => ?_⟩
      have fin : ∀ H1 : Heap, H1[H.size]? = some (arrV (xR X kd) n.toNatClampNeg (fun _ => if kd = 17 then .long 0 else if kd < 20 then .int 0 else .null)) → H1.size = H.size + 1 → (∀ q, q < H.size → H1[q]? = H[q]?) → 16 ≤ kd → kd < 23 → W p l e R s m args below meth c H1 locs (gN h - n0 + 1) (gZ h - z0 + n.toNatClampNeg) Q (F0 m (pc + len) lsr (.ref H.size :: r.map (ax_v X))) := by
        intro H1 e1 z1 o1 g1 g2
        have hR1 : ax_Rep X (nW h kd n.toNatClampNeg n.toNatClampNeg) H1 := by
          refine ax_new hR z1 o1 (Or.inr ?_)
          unfold ax_row
          rw [ax_gS_new]
          refine ⟨g1, g2, ?_⟩
          rw [ax_rN hR, e1]
          have : (fun _ => if kd = 17 then Value.long 0 else if kd < 20 then .int 0 else .null) = ax_av X (nW h kd n.toNatClampNeg n.toNatClampNeg) (gN h) kd := by
            funext j
            simp only [ax_av, ax_gI_new, ax_gL_new, ax_gR_new, ax_v_null]
          rw [this]
        have w := k1.2.2 (by show n0 ≤ gN h + 1; omega) (by show z0 ≤ gZ h + n.toNatClampNeg; omega) H1 locs lsr hR1 hlo hl
        rw [List.map_cons, ax_vN hR] at w
        exact W.cs (show gN h - n0 + 1 = gN h + 1 - n0 by omega) (show gZ h - z0 + n.toNatClampNeg = gZ h + n.toNatClampNeg - z0 by omega) w
      rcases hi with ⟨at', rfl, rfl, g1, g2, hty, harr⟩ | ⟨idx, cn, rfl, rfl, hkc, hlink⟩
      · have hRA := (ax_Ka hK g1 (by omega)).2
        refine va_newaK hexec hb (atype := at') (N := n.toNatClampNeg) (by rw [hty]; exact hts _ harr) rfl hd rfl hn0 rfl ?_ (by omega) (by omega) rfl fun H1 cA e1 z1 o1 _ hnm => ?_
        · have : componentBytes (newarray.typeOf at') ≤ 8 := by cases at' <;> decide
          have := Nat.mul_le_mul hn1 this
          omega
        · have hcA : cA = xR X kd := by
            rw [hty] at hnm
            match kd, g1, g2, hRA, hnm with
            | 16, _, _, hRA, hnm => exact Option.some.inj (hnm.symm.trans hRA)
            | 17, _, _, hRA, hnm => exact Option.some.inj (hnm.symm.trans hRA)
            | 18, _, _, hRA, hnm => exact Option.some.inj (hnm.symm.trans hRA)
            | 19, _, _, hRA, hnm => exact Option.some.inj (hnm.symm.trans hRA)
            | k + 20, _, h, _, _ => exact absurd h (by omega)
          rw [hcA, hty] at e1
          refine fin H1 ?_ z1 o1 g1 (by omega)
          rw [e1]
          match kd, g1, g2 with
          | 16, _, _ => rfl
          | 17, _, _ => rfl
          | 18, _, _ => rfl
          | 19, _, _ => rfl
          | k + 20, _, h => exact absurd h (by omega)
      · have hover : (Jvm.Cond.arrayOver (.object (ax_cn cn))).before args s = true := by
          obtain ⟨o1, o2, -, -⟩ := hK.2.2.2.1
          rcases hkc with ⟨rfl, rfl⟩ | ⟨rfl, rfl⟩
          · exact va_AO.use o1
          · exact va_AO.use o2
        have hat : ax_at kd = .object (ax_cn cn) := by rcases hkc with ⟨rfl, rfl⟩ | ⟨rfl, rfl⟩ <;> rfl
        have hRA := (ax_Ka hK (c := kd) (by omega) (by omega)).2
        rw [hat] at hRA
        obtain ⟨kA0, comp0, -, -, -, hnm0⟩ := hRA
        refine W.anew hexec hb hown (hts _ hlink) hover rfl hd rfl hn0 (by omega) (by omega) (by omega) fun cA kA comp hnm _ _ _ => ?_
        have hcA : cA = xR X kd := Option.some.inj (hnm.symm.trans hnm0)
        refine fin _ ?_ (by simp) (fun q hq => by rw [Array.getElem?_push, if_neg (Nat.ne_of_lt hq)]) (by omega) (by omega)
        rw [Array.getElem?_push_size, arrV_new, hcA, if_neg (by omega), if_neg (by omega)]
    · rw [if_neg hn] at hs; cases hs
  · cases hs
theorem ax_cc_ok (hexec : p.tables.exec = Jvm.exec) (hb : c.code = cc) (hts : ∀ w ∈ ax_G, w.before args s = true) (hown : s.vm.findClass own = some m.cls) (hK : ax_K X s) {idx : Nat} (hlink : Cond.classLink own idx "[I" ∈ ax_G) (hd : decode cc pc = .ok (.checkcast idx, 3))
    (kk : ∀ ls' st' h1, k ls' st' h1 = some res → ax_W X p l e R s m args below meth c nL Q n0 z0 hf (pc + 3) ls' st' h1) (hs : ax_cc 16 st h (fun r => k ls r h) = some res) : ax_W X p l e R s m args below meth c nL Q n0 z0 hf pc ls st h := by
  unfold ax_cc at hs
  split at hs
  · split at hs
    · rename_i x r hk
      refine ax_stay (kk _ _ _ hs) fun H locs cells slots lsr hR hl w => ?_
      have w := w lsr hl
      rw [List.map_cons, ax_v_ref (ax_ne0 hR (by omega))] at w ⊢
      exact va_castE hexec hb hown (hts _ hlink) ⟨_, ax_getA hR hk (by omega) (by omega), rfl, va_nm_int (ax_Ka hK (c := 16) (by omega) (by omega)).2⟩ hd w
    · cases hs
  · cases hs
theorem ax_init_ok (hexec : p.tables.exec = Jvm.exec) (hb : c.code = cc) (hml : c.maxLocals = nL) (hts : ∀ w ∈ ax_G, w.before args s = true) (hown : s.vm.findClass own = some m.cls) {idx : Nat} (hlink : Cond.methodLink own idx Lib.objectInit ∈ ax_G) (hinst : Cond.instanceMethod Lib.objectInit ∈ ax_G) (hcode : Cond.code Lib.objectInit ⟨#[0xb1]⟩ 1 none ∈ ax_G) (hfr : 1 ≤ R.frames) (hlo : 20 ≤ R.locals) (hd : decode cc pc = .ok (.invokespecial idx, 3))
    (kk : ∀ ls' st' h1, k ls' st' h1 = some res → ax_W X p l e R s m args below meth c nL Q n0 z0 hf (pc + 3) ls' st' h1) (hs : (match st with | .ref x :: r => if (gS h x).1 < 12 ∧ (r.map (fun v => v.category)).sum ≤ 8 then k ls r h else none | _ => none) = some res) : ax_W X p l e R s m args below meth c nL Q n0 z0 hf pc ls st h := by
  split at hs
  · rename_i x r
    split at hs
    · rename_i hx
      refine ax_stay (kk _ _ _ hs) fun H locs cells slots lsr hR hl w => ?_
      rw [List.map_cons, ax_v_ref (ax_ne0 hR (by omega))]
      have hcat : ((r.map (ax_v X)).map fun v => v.category) = r.map (fun v => v.category) := by
        rw [List.map_map]; congr 1; funext v; exact ax_v_cat X v
      refine W.objInit hexec hb hown (hts _ hlink) (hts _ hinst) (hts _ hcode) (g := F0 m pc lsr (.ref (ax_r X x) :: r.map (ax_v X))) rfl (by rw [hml]; exact hl.1) rfl hd hfr ?_ (w lsr hl)
      show 2 * 0 + _ + 12 ≤ _
      rw [hcat]; omega
    · cases hs
  · cases hs
end AXN
end
section
/-! copies, clones, constants -/
section AXC
variable {α : Type} {X : ax_X} {p : Program} {l : Launch} {e : Env} {R : Room} {s : State} {m : MethodId} {args : Array Value} {below : List Frame} {meth : Method} {c : Code} {Q : State → Prop} {cc : ByteArray} {nL n0 z0 : Nat} {hf : ax_H}
variable {pc : Nat} {lsr : Array Slot} {rest : List Value} {H : Heap} {locs : List Loc} {cells slots : Nat} {h : ax_H} {own : String}
variable {st : List Value} {ls : ax_L} {k : ax_L → List Value → ax_H → Option α} {res : α}
theorem ax_cats (X : ax_X) (r : List Value) : ((r.map (ax_v X)).map fun v => v.category) = r.map (fun v => v.category) := by
  rw [List.map_map]; congr 1; funext v; exact ax_v_cat X v
theorem ax_nnI {z : Int32} (hz : ¬ z < 0) : z.toInt = (z.toNatClampNeg : Int) := by
  have hz0 : (0 : Int) ≤ z.toInt := by
    have := Int32.not_lt.mp hz
    simpa using Int32.le_iff_toInt_le.mp this
  show z.toInt = ((z.toInt.toNat : Nat) : Int)
  omega
/-- System.arraycopy between rows of one primitive kind -/
theorem ax_acp (hexec : p.tables.exec = Jvm.exec) (hb : c.code = cc) (hml : c.maxLocals = lsr.size) (hts : ∀ w ∈ ax_G, w.before args s = true) {idx : Nat} (hown : s.vm.findClass own = some m.cls) (hlink : Cond.methodLink own idx arraycopyName ∈ ax_G) (hnat : Cond.native arraycopyName ∈ ax_G) (hstat : Cond.static arraycopyName ∈ ax_G) (hini : Cond.initialized "java/lang/System" ∈ ax_G)
    (hfr : 1 ≤ R.frames) (hlo : nativeFrameWords "java/lang/System" "arraycopy" 5 + 19 ≤ R.locals) (hrest : (rest.map fun v => v.category).sum ≤ 8) {ra rb nA nB : Nat} {cA : ClassId} {ty : FieldType} {T : Type} (mk : T → Value) {f g : Nat → T} (hA : ArrOfT s cA ty) (hprim : refKind ty = false) (hfits : ∀ v, fits ty (mk v) = true)
    (hno : ∀ (U : State) (cm : ClassId) (v : T), U.takes cm (mk v))
    (ha : H[ra]? = some (arrV cA nA (fun j => mk (f j)))) (hb2 : H[rb]? = some (arrV cA nB (fun j => mk (g j)))) {sp dp n : Int32} (h1 : ¬ sp < 0) (h2 : ¬ dp < 0) (h3 : ¬ n < 0) (h4 : sp.toNatClampNeg + n.toNatClampNeg ≤ nA) (h5 : dp.toNatClampNeg + n.toNatClampNeg ≤ nB)
    (hdg : decode cc pc = .ok (.invokestatic idx, 3))
    (kk : ∀ (H1 : Heap) (L : List Loc), (∀ q ∈ L, q.base = rb) → H1[rb]? = some (arrV cA nB (fun j => mk (va_cpy f g sp.toNatClampNeg dp.toNatClampNeg n.toNatClampNeg j))) → H1.size = H.size → (∀ q, q ≠ rb → H1[q]? = H[q]?) → W p l e R s m args below meth c H1 (locs ++ L) cells slots Q (F0 m (pc + 3) lsr rest)) : W p l e R s m args below meth c H locs cells slots Q (F0 m pc lsr (.int n :: .int dp :: .ref rb :: .int sp :: .ref ra :: rest)) := by
  intro T hT S
  obtain ⟨-, k0, hk0, cm0, hkk0⟩ := hA nA (fun j => mk (f j))
  obtain ⟨-, k1, hk1, cm1, hkk1⟩ := hA nB (fun j => mk (g j))
  obtain ⟨vm', S', step⟩ := S.arraycopy hexec hown (hts _ hlink) (hts _ hnat) (hts _ hstat) (hts _ hini) (src := ra) (dst := rb) (cs := arrV cA nA (fun j => mk (f j))) (cd := arrV cA nB (fun j => mk (g j))) (srcPos := sp) (destPos := dp) (n := n) (by rw [hT]; exact ha) (by rw [hT]; exact hb2)
    (fun _ h => by cases h) (fun _ h => by cases h) (fun h => by cases h) (fun h => by cases h) hk0 hk1 hkk0 hkk1 (by simp [hprim]) h1 h2 h3
    (by rw [ax_nnI h1, ax_nnI h3, arrV_size]; omega)
    (by rw [ax_nnI h2, ax_nnI h3, arrV_size]; omega)
    (fun vm₁ _ i hi => by
      have e : (arrV cA nA (fun j => mk (f j))).slots.getD (sp.toNatClampNeg + i) .null = mk (f (sp.toNatClampNeg + i)) := by
        rw [Array.getD_eq_getD_getElem?, arrV_read _ _ (by omega)]
        rfl
      refine ⟨?_, ?_⟩
      · rw [e]
        exact hfits _
      · rw [e]
        exact hno _ _ _)
    (g := F0 m pc lsr (.int n :: .int dp :: .ref rb :: .int sp :: .ref ra :: rest)) rfl (by rw [hml]) (rest := rest) rfl (by rw [hb]; exact hdg) hfr (by show 2 * 0 + _ + _ ≤ _; omega)
  have e1 : copied (arrV cA nA (fun j => mk (f j))) (arrV cA nB (fun j => mk (g j))) sp dp n = arrV cA nB (fun j => mk (va_cpy f g sp.toNatClampNeg dp.toNatClampNeg n.toNatClampNeg j)) := va_copied mk cA cA f g h4
  rw [e1] at S' step
  have hl : rb < H.size := (Array.getElem?_eq_some_iff.mp hb2).1
  have hheap : ((T.setVm vm').setCell rb (arrV cA nB (fun j => mk (va_cpy f g sp.toNatClampNeg dp.toNatClampNeg n.toNatClampNeg j)))).heap = H.setIfInBounds rb (arrV cA nB (fun j => mk (va_cpy f g sp.toNatClampNeg dp.toNatClampNeg n.toNatClampNeg j))) := by rw [← hT]; rfl
  obtain ⟨t, a1, b1⟩ := kk (H.setIfInBounds rb (arrV cA nB (fun j => mk (va_cpy f g sp.toNatClampNeg dp.toNatClampNeg n.toNatClampNeg j)))) _ (fun q hq => by
      obtain ⟨z, -, hz⟩ := List.mem_map.mp hq
      rw [← hz]) (by simp [Array.getElem?_setIfInBounds, hl]) (by simp) (fun q hq => by simp [Array.getElem?_setIfInBounds, Ne.symm hq]) _ hheap S'
  exact ⟨t, step t a1, b1⟩
theorem ax_ac_ok (hexec : p.tables.exec = Jvm.exec) (hb : c.code = cc) (hml : c.maxLocals = nL) (hts : ∀ w ∈ ax_G, w.before args s = true) (hown : s.vm.findClass own = some m.cls) (hK : ax_K X s) {idx kd : Nat} (hkd : kd = 16 ∨ kd = 17) (hlink : Cond.methodLink own idx arraycopyName ∈ ax_G) (hnat : Cond.native arraycopyName ∈ ax_G) (hstat : Cond.static arraycopyName ∈ ax_G) (hini : Cond.initialized "java/lang/System" ∈ ax_G)
    (hfr : 1 ≤ R.frames) (hlo : nativeFrameWords "java/lang/System" "arraycopy" 5 + 19 ≤ R.locals) (hd : decode cc pc = .ok (.invokestatic idx, 3))
    (kk : ∀ ls' st' h1, k ls' st' h1 = some res → ax_W X p l e R s m args below meth c nL Q n0 z0 hf (pc + 3) ls' st' h1) (hs : ax_ac kd st h (fun r h1 => k ls r h1) = some res) : ax_W X p l e R s m args below meth c nL Q n0 z0 hf pc ls st h := by
  unfold ax_ac at hs
  split at hs
  · rename_i n dp y sp x r
    by_cases hc : ax_cp h x kd sp n ∧ ax_cp h y kd dp n ∧ ¬ n < 0 ∧ (r.map (fun v => v.category)).sum ≤ 8
    · rw [if_pos hc] at hs
      obtain ⟨⟨x1, x2, x3⟩, ⟨y1, y2, y3⟩, hn, hr⟩ := hc
      have app : ∀ (locs L : List Loc), (∀ l ∈ locs, xB X ≤ l.base) → 64 ≤ y → (∀ q ∈ L, q.base = ax_r X y) → ∀ l ∈ locs ++ L, xB X ≤ l.base := by
        intro locs L h1 hy h2 q hq
        rcases List.mem_append.mp hq with h | h
        · exact h1 q h
        · rw [h2 q h, ax_r_hi hy]; omega
      rcases hkd with rfl | rfl
      · rw [if_pos rfl] at hs
        have k1 := kk _ _ _ hs
        refine ⟨k1.1, k1.2.1, fun a1 a2 H locs lsr hR hlo' hl => ?_⟩
        simp only [List.map_cons, ax_v_int]
        rw [ax_v_ref (a := x) (ax_ne0 hR (by omega)), ax_v_ref (a := y) (ax_ne0 hR (by omega))]
        exact ax_acp hexec hb (by rw [hml]; exact hl.1.symm) hts hown hlink hnat hstat hini hfr hlo (by rw [ax_cats]; exact hr) (fun z : Int32 => Value.int z) (f := gI h x) (g := gI h y) (ax_Ka hK (c := 16) (by omega) (by omega)).1 rfl (fun _ => rfl) (fun _ _ _ => trivial) (ax_getA hR x1 (by omega) (by omega)) (ax_getA hR y1 (by omega) (by omega)) x2 y2 hn x3 y3 hd
          (fun H1 L hL e1 e2 e3 => k1.2.2 a1 a2 H1 _ lsr (ax_rowI hR y1 (Or.inl rfl) e1 e2 e3) (app locs L hlo' (ax_valid hR (by omega)).1 hL) hl)
      · rw [if_neg (by omega), if_pos rfl] at hs
        have k1 := kk _ _ _ hs
        refine ⟨k1.1, k1.2.1, fun a1 a2 H locs lsr hR hlo' hl => ?_⟩
        simp only [List.map_cons, ax_v_int]
        rw [ax_v_ref (a := x) (ax_ne0 hR (by omega)), ax_v_ref (a := y) (ax_ne0 hR (by omega))]
        exact ax_acp hexec hb (by rw [hml]; exact hl.1.symm) hts hown hlink hnat hstat hini hfr hlo (by rw [ax_cats]; exact hr) (fun z : Int64 => Value.long z) (f := gL h x) (g := gL h y) (ax_Ka hK (c := 17) (by omega) (by omega)).1 rfl (fun _ => rfl) (fun _ _ _ => trivial) (ax_getA hR x1 (by omega) (by omega)) (ax_getA hR y1 (by omega) (by omega)) x2 y2 hn x3 y3 hd
          (fun H1 L hL e1 e2 e3 => k1.2.2 a1 a2 H1 _ lsr (ax_rowL hR y1 e1 e2 e3) (app locs L hlo' (ax_valid hR (by omega)).1 hL) hl)
    · rw [if_neg hc] at hs; cases hs
  · cases hs
theorem ax_cl_ok (hexec : p.tables.exec = Jvm.exec) (hb : c.code = cc) (hml : c.maxLocals = nL) (hts : ∀ w ∈ ax_G, w.before args s = true) (hown : s.vm.findClass own = some m.cls) (hK : ax_K X s) (hRc : gN hf ≤ n0 + R.cells) (hRz : gZ hf ≤ z0 + R.slots) {idx : Nat} (hlink : Cond.methodLink own idx ⟨"[I", "clone", "()Ljava/lang/Object;"⟩ ∈ ax_G) (hsame : Cond.sameMethod "[I" "java/lang/Object" "clone" "()Ljava/lang/Object;" ∈ ax_G) (hnat : Cond.native ⟨"java/lang/Object", "clone", "()Ljava/lang/Object;"⟩ ∈ ax_G) (hinst : Cond.instanceMethod ⟨"java/lang/Object", "clone", "()Ljava/lang/Object;"⟩ ∈ ax_G) (hsel : Cond.selects "[I" ⟨"[I", "clone", "()Ljava/lang/Object;"⟩ ⟨"java/lang/Object", "clone", "()Ljava/lang/Object;"⟩ ∈ ax_G)
    (hfr : 1 ≤ R.frames) (hlo : 22 ≤ R.locals) (hd : decode cc pc = .ok (.invokevirtual idx, 3))
    (kk : ∀ ls' st' h1, k ls' st' h1 = some res → ax_W X p l e R s m args below meth c nL Q n0 z0 hf (pc + 3) ls' st' h1) (hs : ax_cl st h (fun r h1 => k ls r h1) = some res) : ax_W X p l e R s m args below meth c nL Q n0 z0 hf pc ls st h := by
  unfold ax_cl at hs
  split at hs
  · rename_i x r
    by_cases hc : (gS h x).1 = 16 ∧ (gS h x).2 ≤ 100000 ∧ (r.map (fun v => v.category)).sum ≤ 8
    · rw [if_pos hc] at hs
      obtain ⟨x1, x2, x3⟩ := hc
      have k1 := kk _ _ _ hs
      have b1 : gN h + 1 ≤ gN hf := k1.1
      have b2 : gZ h + (gS h x).2 ≤ gZ hf := k1.2.1
      refine ⟨by omega, by omega, fun a1 a2 H locs lsr hR hlo' hl => ?_⟩
      obtain ⟨-, -, -, -, -, ⟨-, -, -, hcl⟩, -⟩ := (⟨hK.1, hK.2.1, hK.2.2.1, hK.2.2.1, trivial, hK.2.2.2.1, trivial⟩ : _ ∧ _ ∧ _ ∧ _ ∧ True ∧ _ ∧ True)
      have hA := ax_Ka hK (c := 16) (by omega) (by omega)
      have hnm := va_nm_int hA.2
      have hcell := ax_getA hR x1 (by omega) (by omega)
      unfold ax_row at hcell
      obtain ⟨c0, t0', f1, f2, f3⟩ := Cond.castable_spec (va_Nw.use (A := args) rfl hcl)
      cases hnm.symm.trans f1
      simp only [List.map_cons]
      rw [ax_v_ref (a := x) (ax_ne0 hR (by omega))]
      intro T hT S
      obtain ⟨-, kA, hkA, comp, hkind⟩ := State.isArrayOf_alike S.warmed.alike (hA.1 0 (fun _ => .null))
      obtain ⟨-, kS, hkS, compS, hkindS⟩ := hA.1 0 (fun _ => .null)
      obtain ⟨vm', S', step⟩ := S.cloneArray hexec hown (hts _ hlink) (hts _ hsame) (hts _ hnat) (hts _ hinst) (hts _ hsel) (a := ax_r X x) (cell := arrV (xR X 16) (gS h x).2 (ax_av X h x 16)) (by rw [hT]; exact hcell) (fun k h => by cases h) (fun h => by cases h) hnm f2 f3
        (fun i v hv => by
          have hk' : T.vm.classes[xR X 16]? = some kA := hkA
          have hi : i < (gS h x).2 := by
            have := (Array.getElem?_eq_some_iff.mp hv).1
            rwa [arrV_size] at this
          rw [arrV_read _ _ hi] at hv
          cases hv
          simp [State.fitsSlot, State.slotType?, hk', hkind, ax_av, arrV, ax_at, fits])
        (g := F0 m pc lsr (.ref (ax_r X x) :: r.map (ax_v X))) rfl (by rw [hml]; exact hl.1) rfl (by rw [hb]; exact hd) hfr (by show 2 * 0 + _ + 14 ≤ _; rw [ax_cats]; omega) (by omega) (by rw [arrV_size]; omega) (hloader := Vm.clonesLoader_of_array hkS hkindS)
      rw [arrV_size] at S'
      have hR1 : ax_Rep X (nW h 16 (gS h x).2 (gS h x).2) (H.push (arrV (xR X 16) (gS h x).2 (fun _ => .int 0))) := by
        refine ax_new hR (by simp) (fun q hq => by rw [Array.getElem?_push, if_neg (Nat.ne_of_lt hq)]) (Or.inr ?_)
        unfold ax_row
        rw [ax_gS_new]
        refine ⟨by omega, by omega, ?_⟩
        rw [ax_rN hR, Array.getElem?_push_size]
        have : (fun _ => Value.int 0) = ax_av X (nW h 16 (gS h x).2 (gS h x).2) (gN h) 16 := by
          funext j
          simp [ax_av, ax_gI_new]
        rw [this]
      have hR2 : ax_Rep X (rI (nW h 16 (gS h x).2 (gS h x).2) (gN h) (gI h x)) (H.push (arrV (xR X 16) (gS h x).2 (ax_av X h x 16))) := by
        refine ax_rowI (c := 16) hR1 (by rw [ax_gS_new]) (Or.inl rfl) ?_ (by simp) (fun q hq => ?_)
        · rw [ax_gS_new, ax_rN hR, Array.getElem?_push_size]
          rfl
        · rw [ax_rN hR] at hq
          rw [Array.getElem?_push, Array.getElem?_push, if_neg hq, if_neg hq]
      have w := k1.2.2 (by show n0 ≤ gN h + 1; omega) (by show z0 ≤ gZ h + (gS h x).2; omega) _ locs lsr hR2 hlo' hl
      rw [List.map_cons, ax_vN hR] at w
      have w2 := W.cs (show gN h - n0 + 1 = gN h + 1 - n0 by omega) (show gZ h - z0 + (gS h x).2 = gZ h + (gS h x).2 - z0 by omega) w
      obtain ⟨t, b1, b2⟩ := w2 ((T.setVm vm').pushCell (arrV (xR X 16) (gS h x).2 (ax_av X h x 16))) (by rw [← hT]; rfl) S'
      refine ⟨t, step t ?_, b2⟩
      rw [hT]
      exact b1
    · rw [if_neg hc] at hs; cases hs
  · cases hs
/-- constants out of the pool -/
theorem ax_ldc_ok (hexec : p.tables.exec = Jvm.exec) (hb : c.code = cc) (hts : ∀ w ∈ ax_G, w.before args s = true) (hown : s.vm.findClass own = some m.cls) {idx : Nat} {z : Int} (hlink : Jvm.Cond.constant own idx (Int32.ofInt z) ∈ ax_G) (hd : decode cc pc = .ok (.ldc idx, 2))
    (kk : ax_W X p l e R s m args below meth c nL Q n0 z0 hf (pc + 2) ls (.int (Int32.ofInt z) :: st) h) : ax_W X p l e R s m args below meth c nL Q n0 z0 hf pc ls st h :=
  ax_stay kk fun H locs cells slots lsr hR hl w => lv_ldc hexec hb hown (hts _ hlink) hd (w lsr hl)
theorem ax_ldcw_ok (hexec : p.tables.exec = Jvm.exec) (hb : c.code = cc) (hts : ∀ w ∈ ax_G, w.before args s = true) (hown : s.vm.findClass own = some m.cls) {idx : Nat} {z : Int} (hlink : Jvm.Cond.constant own idx (Int32.ofInt z) ∈ ax_G) (hd : decode cc pc = .ok (.ldc_w idx, 3))
    (kk : ax_W X p l e R s m args below meth c nL Q n0 z0 hf (pc + 3) ls (.int (Int32.ofInt z) :: st) h) : ax_W X p l e R s m args below meth c nL Q n0 z0 hf pc ls st h :=
  ax_stay kk fun H locs cells slots lsr hR hl w => lv_ldcw hexec hb hown (hts _ hlink) hd (w lsr hl)
theorem ax_ldc2_ok (hexec : p.tables.exec = Jvm.exec) (hb : c.code = cc) (hts : ∀ w ∈ ax_G, w.before args s = true) (hown : s.vm.findClass own = some m.cls) {idx : Nat} {z : Int} (hlink : Jvm.Cond.constantLong own idx (Int64.ofInt z) ∈ ax_G) (hd : decode cc pc = .ok (.ldc2_w idx, 3))
    (kk : ax_W X p l e R s m args below meth c nL Q n0 z0 hf (pc + 3) ls (.long (Int64.ofInt z) :: st) h) : ax_W X p l e R s m args below meth c nL Q n0 z0 hf pc ls st h :=
  ax_stay kk fun H locs cells slots lsr hR hl w => lv_ldc2 hexec hb hown (hts _ hlink) hd (w lsr hl)
theorem ax_ldcs_ok (hexec : p.tables.exec = Jvm.exec) (hb : c.code = cc) (hown : s.vm.findClass own = some m.cls) (hK : ax_K X s) {i idx : Nat} {tx : String} (hi : ax_strs[i]? = some (own, idx, tx)) (hi2 : i + 1 < 64) (hd : decode cc pc = .ok (.ldc idx, 2))
    (kk : ax_W X p l e R s m args below meth c nL Q n0 z0 hf (pc + 2) ls (.ref (i + 1) :: st) h) : ax_W X p l e R s m args below meth c nL Q n0 z0 hf pc ls st h :=
  ax_stay kk fun H locs cells slots lsr hR hl w => by
    have w := w lsr hl
    rw [List.map_cons, ax_v_ref (by omega), ax_r, if_pos hi2] at w
    exact va_ldcS hexec hb hown (hK.2.2.1 i _ hi).1 hd w
end AXC
end
section
/-! calls: a method's number, its contract, its use -/
/-- name, bytes, locals, return type, values taken off the stack, frames, words -/
abbrev ax_MI : Type := MethodName × ByteArray × Nat × Option FieldType × Nat × Nat × Nat
def ax_Imp (M : Nat → ax_MI) (N : Nat) (av : List Value) (h : ax_H) (o : Option Value) (h' : ax_H) : Prop :=
  gN h ≤ gN h' ∧ gZ h ≤ gZ h' ∧ ∀ (l : Launch) (X : ax_X), Met l (M N).1 (Cond.code (M N).1 (M N).2.1 (M N).2.2.1 (M N).2.2.2.1 :: ax_G) { frames := (M N).2.2.2.2.2.1, cells := gN h' - gN h, slots := gZ h' - gZ h, locals := (M N).2.2.2.2.2.2 } (ax_Pc X av h) (ax_Qc X o h') (gN h' - gN h) (gZ h' - gZ h) (fun q => xB X ≤ q)
def ax_Es (M : Nat → ax_MI) (E : ax_Env) (N : Nat) : Prop :=
  (∀ av h h', E.1 N av h = some h' → ax_Imp M N av h none h') ∧ (∀ av h x h', E.2.1 N av h = some (x, h') → ax_Imp M N av h (some (.int x)) h') ∧ (∀ av h x h', E.2.2.1 N av h = some (x, h') → ax_Imp M N av h (some (.long x)) h') ∧ (∀ av h x h', E.2.2.2 N av h = some (x, h') → ax_Imp M N av h (some (.ref x)) h')
/-- which cell may receive: b / 2 its class, 45 a String constant -/
abbrev ax_rcv (h : ax_H) (b x : Nat) : Prop := if b / 2 = 45 then 1 ≤ x ∧ x ≤ 34 else (gS h x).1 = b / 2
/-- what a call's method must be: good words -/
def ax_Mok (M : Nat → ax_MI) (N : Nat) : Prop :=
  Cond.code (M N).1 (M N).2.1 (M N).2.2.1 (M N).2.2.2.1 ∈ ax_G ∧ Cond.initialized (M N).1.cls ∈ ax_G ∧ (M N).1.cls ≠ "java/lang/invoke/MethodHandle" ∧ (M N).1.cls ≠ "java/lang/invoke/VarHandle"
section AXK
variable {α : Type} {X : ax_X} {p : Program} {l : Launch} {e : Env} {R : Room} {s : State} {m : MethodId} {args : Array Value} {below : List Frame} {meth : Method} {c : Code} {Q : State → Prop} {cc : ByteArray} {nL n0 z0 : Nat} {hf : ax_H}
variable {pc : Nat} {lsr : Array Slot} {rest st0 : List Value} {H : Heap} {locs : List Loc} {cells slots : Nat} {h h' : ax_H} {own : String} {M : Nat → ax_MI} {N : Nat}
theorem ax_Gws (hts : ∀ w ∈ ax_G, w.before args s = true) (hM : ax_Mok M N) : ∀ w ∈ (Cond.code (M N).1 (M N).2.1 (M N).2.2.1 (M N).2.2.2.1 :: ax_G), ∀ (a' : Array Value) (U : State), s.WarmedH U.vm → w.before a' U = true := by
  refine pay_in hts (fun w hw => ?_)
  rcases List.mem_cons.mp hw with rfl | hw
  · exact ⟨hM.1, Or.inl rfl⟩
  · exact ax_G_good w hw
theorem ax_after {mc ms : Nat} {o : Option Value} {a : Array Value} (hr : va_Run p l e R s m args below meth c H locs cells slots mc ms (F0 m pc lsr st0) rest (ax_Qc X o h' a) (fun q => xB X ≤ q)) (hlo : ∀ l ∈ locs, xB X ≤ l.base)
    (kk : ∀ (H1 : Heap) (locs1 : List Loc), ax_Rep X h' H1 → (∀ l ∈ locs1, xB X ≤ l.base) → W p l e R s m args below meth c H1 locs1 (cells + mc) (slots + ms) Q (F0 m (pc + 3) lsr ((o.map (ax_v X)).toList ++ rest))) : W p l e R s m args below meth c H locs cells slots Q (F0 m pc lsr st0) := by
  intro T hT S
  obtain ⟨v, st₀, t, T', L, h0, S', hL, e1, e2, ⟨hv, hrep⟩, step⟩ := hr T hT S
  cases hv
  obtain ⟨t2, a1, b1⟩ := kk T'.heap (locs ++ L) (by rw [e1]; exact hrep) (fun q hq => by
    rcases List.mem_append.mp hq with h | h
    · exact hlo q h
    · exact hL q h) T' rfl S'
  exact ⟨t2, step t2 a1, b1⟩
theorem ax_pre (hK : ax_K X s) (hR : ax_Rep X h H) {av : List Value} : ∀ U : State, U.heap = H → s.WarmedH U.vm → ax_Pc X av h (av.map (ax_v X)).toArray U := fun U hU hW => ⟨rfl, by rw [hU]; exact hR, ax_K.warm hW hK⟩
/-- the numbers that a call's row must bring -/
def ax_room (M : Nat → ax_MI) (N : Nat) (R : Room) : Prop := (M N).2.2.2.2.2.1 + 1 ≤ R.frames ∧ 8 + ((M N).2.2.1 + 11) + (M N).2.2.2.2.2.2 ≤ R.locals
theorem ax_recv (hK : ax_K X s) (hR : ax_Rep X h H) {b x : Nat} (hx : ax_rcv h b x) (hb : b / 2 = 45 ∨ b / 2 < 12) {C : String} (hC : C = if b / 2 = 45 then "java/lang/String" else ax_cn (b / 2)) : x ≠ 0 ∧ ∃ cellB : Cell, H[ax_r X x]? = some cellB ∧ cellB.vm.isStatics = false ∧ s.vm.findClass C = some cellB.cls := by
  by_cases h45 : b / 2 = 45
  · rw [if_pos h45] at hC
    simp only [ax_rcv, h45, if_true] at hx
    refine ⟨by omega, ?_⟩
    have hlen : x - 1 < ax_strs.length := by
      have : ax_strs.length = 34 := rfl
      omega
    obtain ⟨v, hO, -⟩ := (hK.2.2.1 (x - 1) _ (List.getElem?_eq_getElem hlen)).2
    rw [show x - 1 + 1 = x by omega] at hO
    obtain ⟨cell, g1, g2, g3, g4⟩ := hO
    have hlt : xA X x < xB X := by
      have := Nat.not_le.mp g4
      exact this
    refine ⟨cell, ?_, g2, by rw [hC]; exact g3⟩
    rw [ax_r, if_pos (by omega), hR.2.2.2.1 _ hlt]
    exact g1
  · rw [if_neg h45] at hC
    simp only [ax_rcv, h45, if_false] at hx
    have hc : b / 2 < 12 := by omega
    refine ⟨ax_ne0 hR (by omega), ?_⟩
    obtain ⟨cell, q1, q2, q3, -⟩ := ax_getO hR hx hc
    exact ⟨cell, q1, by rw [q3]; rfl, by rw [hC, q2]; exact (ax_Kc hK hc).2.1⟩
variable {idx n : Nat} {st : List Value} {o : Option Value}
/-- a virtual call -/
theorem ax_cv (hexec : p.tables.exec = Jvm.exec) (hb : c.code = cc) (hml : c.maxLocals = lsr.size) (hts : ∀ w ∈ ax_G, w.before args s = true) (hown : s.vm.findClass own = some m.cls) (hK : ax_K X s) (hR : ax_Rep X h H) (hM : ax_Mok M N) (hI : Cond.instanceMethod (M N).1 ∈ ax_G) (hse : Cond.selects (M N).1.cls (M N).1 (M N).1 ∈ ax_G) (hn : (parseMethodDescriptor (M N).1.desc).map (fun d => d.parameters.length) = some n)
    (hlink : Cond.methodLink own idx (M N).1 ∈ ax_G ∨ ∃ host, (own, idx, (M N).1, host) ∈ ax_nest) (hroom : ax_room M N R) {x : Nat} {av : List Value} (hav : av.length = n) (hst : st = av.reverse ++ .ref x :: rest) {bb : Nat} (hx : ax_rcv h bb x) (hbb : bb / 2 = 45 ∨ bb / 2 < 12) (hC : (M N).1.cls = if bb / 2 = 45 then "java/lang/String" else ax_cn (bb / 2))
    (hrest : (rest.map fun v => v.category).sum ≤ 8) (hImp : ax_Imp M N (.ref x :: av) h o h') (hc1 : cells + (gN h' - gN h) ≤ R.cells) (hc2 : slots + (gZ h' - gZ h) ≤ R.slots) (hlo : ∀ l ∈ locs, xB X ≤ l.base) (hdg : decode cc pc = .ok (.invokevirtual idx, 3))
    (kk : ∀ (H1 : Heap) (locs1 : List Loc), ax_Rep X h' H1 → (∀ l ∈ locs1, xB X ≤ l.base) → W p l e R s m args below meth c H1 locs1 (cells + (gN h' - gN h)) (slots + (gZ h' - gZ h)) Q (F0 m (pc + 3) lsr ((o.toList ++ rest).map (ax_v X)))) : W p l e R s m args below meth c H locs cells slots Q (F0 m pc lsr (st.map (ax_v X))) := by
  obtain ⟨hx0, hcell⟩ := ax_recv hK hR hx hbb hC
  have hsig : ∀ sig, parseMethodDescriptor (M N).1.desc = some sig → n = sig.parameters.length := fun sig h => by rw [h] at hn; exact (Option.some.inj hn).symm
  have hpv : PreV s H (M N).1.cls (ax_r X x) (ax_Pc X (.ref x :: av) h) (av.map (ax_v X)) := ⟨ax_Pc.blind, hcell, fun U hU hW => by have := ax_pre hK hR (av := .ref x :: av) U hU hW; rwa [List.map_cons, ax_v_ref hx0] at this⟩
  have hstk : st.map (ax_v X) = (av.map (ax_v X)).reverse ++ .ref (ax_r X x) :: rest.map (ax_v X) := by rw [hst, List.map_append, List.map_cons, ax_v_ref hx0, List.map_reverse]
  have kk2 : ∀ (H1 : Heap) (locs1 : List Loc), ax_Rep X h' H1 → (∀ l ∈ locs1, xB X ≤ l.base) → W p l e R s m args below meth c H1 locs1 (cells + (gN h' - gN h)) (slots + (gZ h' - gZ h)) Q (F0 m (pc + 3) lsr ((o.map (ax_v X)).toList ++ rest.map (ax_v X))) := by
    intro H1 locs1 a1 a2
    have := kk H1 locs1 a1 a2
    rw [List.map_append] at this
    cases o <;> exact this
  rcases hlink with hl | ⟨host, hl⟩
  · exact ax_after (va_runV (cc := cc) (nL := lsr.size) (Ts := ax_G) (own := own) (C := (M N).1.cls) (bytes := (M N).2.1) (maxL := (M N).2.2.1) (ret := (M N).2.2.2.1) (n := n) (As := av.map (ax_v X)) (rest := rest.map (ax_v X)) ⟨hexec, hb, hml, hown, hts⟩ (hImp.2.2 l X) ⟨⟨rfl, rfl, hroom.1, hroom.2, ax_Gws hts hM, List.mem_cons_self, hts _ hM.1, hts _ hM.2.1, ⟨hM.2.2.1, hM.2.2.2⟩, hsig, hts _ hl⟩, hts _ hI, hts _ hse⟩ hpv rfl (by simpa using hav) rfl hstk (by show 2 * 0 + _ ≤ 8; rw [ax_cats]; omega) hdg ⟨hc1, hc2⟩) hlo kk2
  · exact ax_after (va_runVN (cc := cc) (nL := lsr.size) (Ts := ax_G) (own := own) (host := host) (C := (M N).1.cls) (bytes := (M N).2.1) (maxL := (M N).2.2.1) (ret := (M N).2.2.2.1) (n := n) (As := av.map (ax_v X)) (rest := rest.map (ax_v X)) ⟨hexec, hb, hml, hown, hts⟩ (hImp.2.2 l X) ⟨⟨⟨rfl, rfl, hroom.1, hroom.2, ax_Gws hts hM, List.mem_cons_self⟩, hts _ hM.1, hts _ hM.2.1, ⟨hM.2.2.1, hM.2.2.2⟩, hsig, va_Nw.use rfl (hK.2.1 _ hl)⟩, hts _ hI, hts _ hse⟩ hpv rfl (by simpa using hav) rfl hstk (by show 2 * 0 + _ ≤ 8; rw [ax_cats]; omega) hdg ⟨hc1, hc2⟩) hlo kk2
/-- a static call -/
theorem ax_cs (hexec : p.tables.exec = Jvm.exec) (hb : c.code = cc) (hml : c.maxLocals = lsr.size) (hts : ∀ w ∈ ax_G, w.before args s = true) (hown : s.vm.findClass own = some m.cls) (hK : ax_K X s) (hR : ax_Rep X h H) (hM : ax_Mok M N) (hI : Cond.static (M N).1 ∈ ax_G) (hn : (parseMethodDescriptor (M N).1.desc).map (fun d => d.parameters.length) = some n)
    (hlink : Cond.methodLink own idx (M N).1 ∈ ax_G ∨ ∃ host, (own, idx, (M N).1, host) ∈ ax_nest) (hroom : ax_room M N R) {av : List Value} (hav : av.length = n) (hst : st = av.reverse ++ rest)
    (hrest : (rest.map fun v => v.category).sum ≤ 8) (hImp : ax_Imp M N av h o h') (hc1 : cells + (gN h' - gN h) ≤ R.cells) (hc2 : slots + (gZ h' - gZ h) ≤ R.slots) (hlo : ∀ l ∈ locs, xB X ≤ l.base) (hdg : decode cc pc = .ok (.invokestatic idx, 3))
    (kk : ∀ (H1 : Heap) (locs1 : List Loc), ax_Rep X h' H1 → (∀ l ∈ locs1, xB X ≤ l.base) → W p l e R s m args below meth c H1 locs1 (cells + (gN h' - gN h)) (slots + (gZ h' - gZ h)) Q (F0 m (pc + 3) lsr ((o.toList ++ rest).map (ax_v X)))) : W p l e R s m args below meth c H locs cells slots Q (F0 m pc lsr (st.map (ax_v X))) := by
  have hsig : ∀ sig, parseMethodDescriptor (M N).1.desc = some sig → n = sig.parameters.length := fun sig h => by rw [h] at hn; exact (Option.some.inj hn).symm
  have hps : PreS s H (ax_Pc X av h) (av.map (ax_v X)) := ⟨ax_Pc.blind, ax_pre hK hR⟩
  have hstk : st.map (ax_v X) = (av.map (ax_v X)).reverse ++ rest.map (ax_v X) := by rw [hst, List.map_append, List.map_reverse]
  have kk2 : ∀ (H1 : Heap) (locs1 : List Loc), ax_Rep X h' H1 → (∀ l ∈ locs1, xB X ≤ l.base) → W p l e R s m args below meth c H1 locs1 (cells + (gN h' - gN h)) (slots + (gZ h' - gZ h)) Q (F0 m (pc + 3) lsr ((o.map (ax_v X)).toList ++ rest.map (ax_v X))) := by
    intro H1 locs1 a1 a2
    have := kk H1 locs1 a1 a2
    rw [List.map_append] at this
    cases o <;> exact this
  rcases hlink with hl | ⟨host, hl⟩
  · exact ax_after (va_runS (cc := cc) (nL := lsr.size) (Ts := ax_G) (own := own) (bytes := (M N).2.1) (maxL := (M N).2.2.1) (ret := (M N).2.2.2.1) (n := n) (As := av.map (ax_v X)) (rest := rest.map (ax_v X)) ⟨hexec, hb, hml, hown, hts⟩ (hImp.2.2 l X) ⟨⟨rfl, rfl, hroom.1, hroom.2, ax_Gws hts hM, List.mem_cons_self, hts _ hM.1, hts _ hM.2.1, ⟨hM.2.2.1, hM.2.2.2⟩, hsig, hts _ hl⟩, hts _ hI⟩ hps rfl (by simpa using hav) rfl hstk (by show 2 * 0 + _ ≤ 8; rw [ax_cats]; omega) hdg ⟨hc1, hc2⟩) hlo kk2
  · exact ax_after (va_runSN (cc := cc) (nL := lsr.size) (Ts := ax_G) (own := own) (host := host) (bytes := (M N).2.1) (maxL := (M N).2.2.1) (ret := (M N).2.2.2.1) (n := n) (As := av.map (ax_v X)) (rest := rest.map (ax_v X)) ⟨hexec, hb, hml, hown, hts⟩ (hImp.2.2 l X) ⟨⟨⟨rfl, rfl, hroom.1, hroom.2, ax_Gws hts hM, List.mem_cons_self⟩, hts _ hM.1, hts _ hM.2.1, ⟨hM.2.2.1, hM.2.2.2⟩, hsig, va_Nw.use rfl (hK.2.1 _ hl)⟩, hts _ hI, trivial⟩ hps rfl (by simpa using hav) rfl hstk (by show 2 * 0 + _ ≤ 8; rw [ax_cats]; omega) hdg ⟨hc1, hc2⟩) hlo kk2
/-- a constructor -/
theorem ax_ci (hexec : p.tables.exec = Jvm.exec) (hb : c.code = cc) (hml : c.maxLocals = lsr.size) (hts : ∀ w ∈ ax_G, w.before args s = true) (hown : s.vm.findClass own = some m.cls) (hK : ax_K X s) (hR : ax_Rep X h H) (hM : ax_Mok M N) (hI : Cond.instanceMethod (M N).1 ∈ ax_G) (hin : (M N).1.name = "<init>") (hrt : (M N).2.2.2.1 = none) (hn : (parseMethodDescriptor (M N).1.desc).map (fun d => d.parameters.length) = some n)
    (hlink : Cond.methodLink own idx (M N).1 ∈ ax_G ∨ ∃ host, (own, idx, (M N).1, host) ∈ ax_nest) (hroom : ax_room M N R) {x : Nat} {av : List Value} (hav : av.length = n) (hst : st = av.reverse ++ .ref x :: rest) {bb : Nat} (hx : ax_rcv h bb x) (hbb : bb / 2 < 12)
    (hrest : (rest.map fun v => v.category).sum ≤ 8) (hImp : ax_Imp M N (.ref x :: av) h o h') (hc1 : cells + (gN h' - gN h) ≤ R.cells) (hc2 : slots + (gZ h' - gZ h) ≤ R.slots) (hlo : ∀ l ∈ locs, xB X ≤ l.base) (hdg : decode cc pc = .ok (.invokespecial idx, 3))
    (kk : ∀ (H1 : Heap) (locs1 : List Loc), ax_Rep X h' H1 → (∀ l ∈ locs1, xB X ≤ l.base) → W p l e R s m args below meth c H1 locs1 (cells + (gN h' - gN h)) (slots + (gZ h' - gZ h)) Q (F0 m (pc + 3) lsr ((o.toList ++ rest).map (ax_v X)))) : W p l e R s m args below meth c H locs cells slots Q (F0 m pc lsr (st.map (ax_v X))) := by
  have hx0 : x ≠ 0 := by
    simp only [ax_rcv, show ¬ bb / 2 = 45 by omega, if_false] at hx
    exact ax_ne0 hR (by omega)
  have hsig : ∀ sig, parseMethodDescriptor (M N).1.desc = some sig → n = sig.parameters.length := fun sig h => by rw [h] at hn; exact (Option.some.inj hn).symm
  have hps : PreS s H (ax_Pc X (.ref x :: av) h) (.ref (ax_r X x) :: av.map (ax_v X)) := ⟨ax_Pc.blind, fun U hU hW => by have := ax_pre hK hR (av := .ref x :: av) U hU hW; rwa [List.map_cons, ax_v_ref hx0] at this⟩
  have hstk : st.map (ax_v X) = (av.map (ax_v X)).reverse ++ .ref (ax_r X x) :: rest.map (ax_v X) := by rw [hst, List.map_append, List.map_cons, ax_v_ref hx0, List.map_reverse]
  have kk2 : ∀ (H1 : Heap) (locs1 : List Loc), ax_Rep X h' H1 → (∀ l ∈ locs1, xB X ≤ l.base) → W p l e R s m args below meth c H1 locs1 (cells + (gN h' - gN h)) (slots + (gZ h' - gZ h)) Q (F0 m (pc + 3) lsr ((o.map (ax_v X)).toList ++ rest.map (ax_v X))) := by
    intro H1 locs1 a1 a2
    have := kk H1 locs1 a1 a2
    rw [List.map_append] at this
    cases o <;> exact this
  have hcode : Cond.code (M N).1 (M N).2.1 (M N).2.2.1 none ∈ (Cond.code (M N).1 (M N).2.1 (M N).2.2.1 (M N).2.2.2.1 :: ax_G) := by rw [hrt]; exact List.mem_cons_self
  have hcode2 : Cond.code (M N).1 (M N).2.1 (M N).2.2.1 none ∈ ax_G := by have := hM.1; rwa [hrt] at this
  rcases hlink with hl | ⟨host, hl⟩
  · exact ax_after (va_runI (cc := cc) (nL := lsr.size) (Ts := ax_G) (own := own) (bytes := (M N).2.1) (maxL := (M N).2.2.1) (n := n) (As := av.map (ax_v X)) (rest := rest.map (ax_v X)) ⟨hexec, hb, hml, hown, hts⟩ (hImp.2.2 l X) ⟨⟨rfl, rfl, hroom.1, hroom.2, ax_Gws hts hM, hcode, hts _ hcode2, hts _ hM.2.1, ⟨hM.2.2.1, hM.2.2.2⟩, hsig, hts _ hl⟩, hin, hts _ hI⟩ hps rfl (by simpa using hav) rfl hstk (by show 2 * 0 + _ ≤ 8; rw [ax_cats]; omega) hdg ⟨hc1, hc2⟩) hlo kk2
  · exact ax_after (va_runIN (cc := cc) (nL := lsr.size) (Ts := ax_G) (own := own) (host := host) (bytes := (M N).2.1) (maxL := (M N).2.2.1) (n := n) (As := av.map (ax_v X)) (rest := rest.map (ax_v X)) ⟨hexec, hb, hml, hown, hts⟩ (hImp.2.2 l X) ⟨⟨⟨rfl, rfl, hroom.1, hroom.2, ax_Gws hts hM, hcode⟩, hts _ hcode2, hts _ hM.2.1, ⟨hM.2.2.1, hM.2.2.2⟩, hsig, va_Nw.use rfl (hK.2.1 _ hl)⟩, hin, hts _ hI⟩ hps rfl (by simpa using hav) rfl hstk (by show 2 * 0 + _ ≤ 8; rw [ax_cats]; omega) hdg ⟨hc1, hc2⟩) hlo kk2
end AXK
end
section
/-! THE PURE MACHINE RUNS: n steps at most -/
def ax_lsw {α : Type} (x : Int32) (k : Nat → Option α) : List (Int × Nat) → Nat → Option α
  | [], d => k d
  | q :: r, d => if x = Int32.ofInt q.1 then k q.2 else ax_lsw x k r d
def ax_ex {α : Type} (ρ : Value → ax_H → Option α) (E : ax_Env) (na : Nat → Nat) (C : List ax_E) : Nat → List ax_E → ax_L → List Value → ax_H → Option α
  | 0, _, _, _, _ => none
  | _ + 1, [], _, _, _ => none
  | n + 1, e :: t, ls, st, h =>
    match ax_kind e with
    | 0 => ax_stp e ls st h (ax_ex ρ E na C n t)
    | 1 => ax_ex ρ E na C n (ax_to C e.2.2.2.1) ls st h
    | 2 => (match e.2.1, st with
      | .ifCond c _, .int x :: r => if ax_h1 c x then ax_ex ρ E na C n (ax_to C e.2.2.2.1) ls r h else ax_ex ρ E na C n t ls r h
      | _, _ => none)
    | 3 => (match e.2.1, st with
      | .if_icmp c _, .int y :: .int x :: r => if ax_h2 c x y then ax_ex ρ E na C n (ax_to C e.2.2.2.1) ls r h else ax_ex ρ E na C n t ls r h
      | _, _ => none)
    | 4 => (match st with
      | .ref x :: r => if x = 0 then ax_ex ρ E na C n (ax_to C e.2.2.2.1) ls r h else ax_ex ρ E na C n t ls r h
      | _ => none)
    | 5 => (match st with
      | .ref x :: r => if x = 0 then ax_ex ρ E na C n t ls r h else ax_ex ρ E na C n (ax_to C e.2.2.2.1) ls r h
      | _ => none)
    | 6 => (match e.2.1, st with
      | .tableswitch d lo _ offs, .int x :: r => ax_sw x (fun tg => ax_ex ρ E na C n (ax_to C tg) ls r h) lo (offs.toList.map (fun o => ((e.1 : Int) + o).toNat)) ((e.1 : Int) + d).toNat
      | _, _ => none)
    | 9 => (match e.2.1, st with
      | .lookupswitch d ps, .int x :: r => ax_lsw x (fun tg => ax_ex ρ E na C n (ax_to C tg) ls r h) (ps.toList.map (fun q => (q.1, ((e.1 : Int) + q.2).toNat))) ((e.1 : Int) + d).toNat
      | _, _ => none)
    | 7 => (match e.2.1, st with
      | .ireturn, [.int x] => if e.2.2.2.1 = 1 then (if x = 0 ∨ x = 1 then ρ (.int x) h else none) else ρ (.int x) h
      | .lreturn, [.long x] => ρ (.long x) h
      | .areturn, [.ref x] => ρ (.ref x) h
      | .return_, [] => ρ (.retAddr 0) h
      | _, _ => none)
    | _ => (match e.2.1 with
      | .invokestatic _ => ax_call E e (na e.2.2.2.1) st h (fun st' h' => ax_ex ρ E na C n t ls st' h')
      | _ => (match st.drop (na e.2.2.2.1 - 1) with
        | .ref x :: _ => if ax_rcv h e.2.2.2.2.1 x then ax_call E e (na e.2.2.2.1) st h (fun st' h' => ax_ex ρ E na C n t ls st' h') else none
        | _ => none))
/-- the rows follow one another -/
def ax_seq : List ax_E → Prop
  | [] => True
  | e :: t => (match t with | [] => True | e' :: _ => e'.1 = e.1 + e.2.2.1) ∧ ax_seq t
/-- what a row must be, in a method of the class own, with the bytes cc, nL locals, in the room R -/
def ax_okE (M : Nat → ax_MI) (na : Nat → Nat) (own : String) (cc : ByteArray) (nL : Nat) (fr lo : Nat) (ini : Bool) (e : ax_E) : Prop :=
  match e.2.1 with
  | .jsr _ => e.2.2.1 = 0
  | .ldc idx => decode cc e.1 = .ok (.ldc idx, 2) ∧ e.2.2.1 = 2 ∧ ((e.2.2.2.2.1 = 0 ∧ Jvm.Cond.constant own idx (Int32.ofInt e.2.2.2.2.2) ∈ ax_G) ∨ (e.2.2.2.2.1 ≠ 0 ∧ ∃ i tx, e.2.2.2.1 = i + 1 ∧ i + 1 < 64 ∧ ax_strs[i]? = some (own, idx, tx)))
  | .ldc_w idx => decode cc e.1 = .ok (.ldc_w idx, 3) ∧ e.2.2.1 = 3 ∧ Jvm.Cond.constant own idx (Int32.ofInt e.2.2.2.2.2) ∈ ax_G
  | .ldc2_w idx => decode cc e.1 = .ok (.ldc2_w idx, 3) ∧ e.2.2.1 = 3 ∧ Jvm.Cond.constantLong own idx (Int64.ofInt e.2.2.2.2.2) ∈ ax_G
  | .getfield idx => decode cc e.1 = .ok (.getfield idx, 3) ∧ e.2.2.1 = 3 ∧ e.2.2.2.1 < 12 ∧ e.2.2.2.2.1 < ax_n e.2.2.2.1 ∧ Cond.fieldLink own idx (ax_T e.2.2.2.1 e.2.2.2.2.1).1 (ax_T e.2.2.2.1 e.2.2.2.2.1).2.1 (ax_T e.2.2.2.1 e.2.2.2.2.1).2.2.1 ∈ ax_G
  | .putfield idx => decode cc e.1 = .ok (.putfield idx, 3) ∧ e.2.2.1 = 3 ∧ e.2.2.2.1 < 12 ∧ e.2.2.2.2.1 < ax_n e.2.2.2.1 ∧ Cond.fieldLink own idx (ax_T e.2.2.2.1 e.2.2.2.2.1).1 (ax_T e.2.2.2.1 e.2.2.2.2.1).2.1 (ax_T e.2.2.2.1 e.2.2.2.2.1).2.2.1 ∈ ax_G ∧ ((ax_T e.2.2.2.1 e.2.2.2.2.1).2.2.2 = false ∨ (ini = true ∧ (ax_T e.2.2.2.1 e.2.2.2.2.1).1 = own))
  | .iaload => decode cc e.1 = .ok (.iaload, 1) ∧ e.2.2.1 = 1
  | .laload => decode cc e.1 = .ok (.laload, 1) ∧ e.2.2.1 = 1
  | .baload => decode cc e.1 = .ok (.baload, 1) ∧ e.2.2.1 = 1 ∧ (e.2.2.2.1 = 18 ∨ e.2.2.2.1 = 19)
  | .aaload => decode cc e.1 = .ok (.aaload, 1) ∧ e.2.2.1 = 1 ∧ 20 ≤ e.2.2.2.1 ∧ e.2.2.2.1 < 23
  | .iastore => decode cc e.1 = .ok (.iastore, 1) ∧ e.2.2.1 = 1
  | .lastore => decode cc e.1 = .ok (.lastore, 1) ∧ e.2.2.1 = 1
  | .bastore => decode cc e.1 = .ok (.bastore, 1) ∧ e.2.2.1 = 1 ∧ (e.2.2.2.1 = 18 ∨ e.2.2.2.1 = 19)
  | .aastore => decode cc e.1 = .ok (.aastore, 1) ∧ e.2.2.1 = 1 ∧ (e.2.2.2.1 = 20 ∨ e.2.2.2.1 = 21)
  | .arraylength => decode cc e.1 = .ok (.arraylength, 1) ∧ e.2.2.1 = 1
  | .new idx => decode cc e.1 = .ok (.new idx, 3) ∧ e.2.2.1 = 3 ∧ e.2.2.2.1 < 12 ∧ Cond.classLink own idx (ax_cn e.2.2.2.1) ∈ ax_G
  | .newarray at' => decode cc e.1 = .ok (.newarray at', 2) ∧ e.2.2.1 = 2 ∧ 16 ≤ e.2.2.2.1 ∧ e.2.2.2.1 < 20 ∧ newarray.typeOf at' = ax_at e.2.2.2.1 ∧ Cond.arrayClass (ax_at e.2.2.2.1) ∈ ax_G
  | .anewarray idx => decode cc e.1 = .ok (.anewarray idx, 3) ∧ e.2.2.1 = 3 ∧ ∃ cn, ((e.2.2.2.1 = 20 ∧ cn = 5) ∨ (e.2.2.2.1 = 21 ∧ cn = 1)) ∧ Cond.classLink own idx (ax_cn cn) ∈ ax_G
  | .multianewarray idx d => decode cc e.1 = .ok (.multianewarray idx 2, 4) ∧ e.2.2.1 = 4 ∧ d = 2 ∧ Cond.classLink own idx "[[J" ∈ ax_G ∧ Cond.arrayClass .long ∈ ax_G
  | .checkcast idx => decode cc e.1 = .ok (.checkcast idx, 3) ∧ e.2.2.1 = 3 ∧ Cond.classLink own idx "[I" ∈ ax_G
  | .goto off => decode cc e.1 = .ok (.goto off, 3) ∧ (e.1 : Int) + off = e.2.2.2.1
  | .ifCond cd off => decode cc e.1 = .ok (.ifCond cd off, 3) ∧ e.2.2.1 = 3 ∧ (e.1 : Int) + off = e.2.2.2.1
  | .if_icmp cd off => decode cc e.1 = .ok (.if_icmp cd off, 3) ∧ e.2.2.1 = 3 ∧ (e.1 : Int) + off = e.2.2.2.1
  | .ifnull off => decode cc e.1 = .ok (.ifnull off, 3) ∧ e.2.2.1 = 3 ∧ (e.1 : Int) + off = e.2.2.2.1
  | .ifnonnull off => decode cc e.1 = .ok (.ifnonnull off, 3) ∧ e.2.2.1 = 3 ∧ (e.1 : Int) + off = e.2.2.2.1
  | .tableswitch d lw hi offs => decode cc e.1 = .ok (.tableswitch d lw hi offs, e.2.2.1) ∧ 0 ≤ (e.1 : Int) + d ∧ (∀ o ∈ offs.toList, 0 ≤ (e.1 : Int) + o) ∧ lw + offs.toList.length = hi + 1 ∧ -2147483648 ≤ lw ∧ hi < 2147483648
  | .lookupswitch d ps => decode cc e.1 = .ok (.lookupswitch d ps, e.2.2.1) ∧ 0 ≤ (e.1 : Int) + d ∧ (∀ q ∈ ps.toList, 0 ≤ (e.1 : Int) + q.2 ∧ -2147483648 ≤ q.1 ∧ q.1 < 2147483648) ∧ (ps.toList.zip (ps.toList.drop 1)).all (fun (a, next) => a.1 < next.1) = true
  | .ireturn => decode cc e.1 = .ok (.ireturn, 1)
  | .lreturn => decode cc e.1 = .ok (.lreturn, 1)
  | .areturn => decode cc e.1 = .ok (.areturn, 1)
  | .return_ => decode cc e.1 = .ok (.return_, 1)
  | .invokestatic idx => decode cc e.1 = .ok (.invokestatic idx, 3) ∧ e.2.2.1 = 3 ∧ (if e.2.2.2.2.1 < 100 then ax_Mok M e.2.2.2.1 ∧ Cond.static (M e.2.2.2.1).1 ∈ ax_G ∧ (parseMethodDescriptor (M e.2.2.2.1).1.desc).map (fun d => d.parameters.length) = some (na e.2.2.2.1) ∧ (Cond.methodLink own idx (M e.2.2.2.1).1 ∈ ax_G ∨ ∃ host, (own, idx, (M e.2.2.2.1).1, host) ∈ ax_nest) ∧ (M e.2.2.2.1).2.2.2.2.2.1 + 1 ≤ fr ∧ 8 + ((M e.2.2.2.1).2.2.1 + 11) + (M e.2.2.2.1).2.2.2.2.2.2 ≤ lo
      else (e.2.2.2.1 = 16 ∨ e.2.2.2.1 = 17) ∧ Cond.methodLink own idx arraycopyName ∈ ax_G ∧ Cond.native arraycopyName ∈ ax_G ∧ Cond.static arraycopyName ∈ ax_G ∧ Cond.initialized "java/lang/System" ∈ ax_G ∧ 1 ≤ fr ∧ nativeFrameWords "java/lang/System" "arraycopy" 5 + 19 ≤ lo)
  | .invokevirtual idx => decode cc e.1 = .ok (.invokevirtual idx, 3) ∧ e.2.2.1 = 3 ∧ (if e.2.2.2.2.1 < 100 then ax_Mok M e.2.2.2.1 ∧ Cond.instanceMethod (M e.2.2.2.1).1 ∈ ax_G ∧ Cond.selects (M e.2.2.2.1).1.cls (M e.2.2.2.1).1 (M e.2.2.2.1).1 ∈ ax_G ∧ (parseMethodDescriptor (M e.2.2.2.1).1.desc).map (fun d => d.parameters.length + 1) = some (na e.2.2.2.1) ∧ (Cond.methodLink own idx (M e.2.2.2.1).1 ∈ ax_G ∨ ∃ host, (own, idx, (M e.2.2.2.1).1, host) ∈ ax_nest) ∧ ((e.2.2.2.2.1 / 2 = 45 ∨ e.2.2.2.2.1 / 2 < 12) ∧ (M e.2.2.2.1).1.cls = if e.2.2.2.2.1 / 2 = 45 then "java/lang/String" else ax_cn (e.2.2.2.2.1 / 2)) ∧ (M e.2.2.2.1).2.2.2.2.2.1 + 1 ≤ fr ∧ 8 + ((M e.2.2.2.1).2.2.1 + 11) + (M e.2.2.2.1).2.2.2.2.2.2 ≤ lo
      else Cond.methodLink own idx ⟨"[I", "clone", "()Ljava/lang/Object;"⟩ ∈ ax_G ∧ Cond.sameMethod "[I" "java/lang/Object" "clone" "()Ljava/lang/Object;" ∈ ax_G ∧ Cond.native ⟨"java/lang/Object", "clone", "()Ljava/lang/Object;"⟩ ∈ ax_G ∧ Cond.instanceMethod ⟨"java/lang/Object", "clone", "()Ljava/lang/Object;"⟩ ∈ ax_G ∧ Cond.selects "[I" ⟨"[I", "clone", "()Ljava/lang/Object;"⟩ ⟨"java/lang/Object", "clone", "()Ljava/lang/Object;"⟩ ∈ ax_G ∧ 1 ≤ fr ∧ 22 ≤ lo)
  | .invokespecial idx => decode cc e.1 = .ok (.invokespecial idx, 3) ∧ e.2.2.1 = 3 ∧ (if e.2.2.2.2.1 < 100 then ax_Mok M e.2.2.2.1 ∧ Cond.instanceMethod (M e.2.2.2.1).1 ∈ ax_G ∧ (M e.2.2.2.1).1.name = "<init>" ∧ (M e.2.2.2.1).2.2.2.1 = none ∧ (parseMethodDescriptor (M e.2.2.2.1).1.desc).map (fun d => d.parameters.length + 1) = some (na e.2.2.2.1) ∧ (Cond.methodLink own idx (M e.2.2.2.1).1 ∈ ax_G ∨ ∃ host, (own, idx, (M e.2.2.2.1).1, host) ∈ ax_nest) ∧ e.2.2.2.2.1 / 2 < 12 ∧ (M e.2.2.2.1).2.2.2.2.2.1 + 1 ≤ fr ∧ 8 + ((M e.2.2.2.1).2.2.1 + 11) + (M e.2.2.2.1).2.2.2.2.2.2 ≤ lo
      else Cond.methodLink own idx Lib.objectInit ∈ ax_G ∧ Cond.instanceMethod Lib.objectInit ∈ ax_G ∧ Cond.code Lib.objectInit ⟨#[0xb1]⟩ 1 none ∈ ax_G ∧ 1 ≤ fr ∧ 20 ≤ lo)
  | ins => decode cc e.1 = .ok (ins, e.2.2.1) ∧ ax_ok0 nL e = true
theorem ax_to_in {C : List ax_E} {t : Nat} : ∀ {e : ax_E} {r : List ax_E}, ax_to C t = e :: r → e.1 = t ∧ (∀ e' ∈ e :: r, e' ∈ C) ∧ (ax_seq C → ax_seq (e :: r)) := by
  induction C with
  | nil => intro e r h; simp [ax_to] at h
  | cons q C ih =>
    intro e r h
    unfold ax_to at h
    by_cases hq : q.1 = t
    · rw [if_pos (by simpa using hq)] at h
      cases h
      exact ⟨hq, fun _ h => h, id⟩
    · rw [if_neg (by simpa using hq)] at h
      obtain ⟨h1, h2, h3⟩ := ih h
      exact ⟨h1, fun e' he' => List.mem_cons_of_mem _ (h2 e' he'), fun hs => h3 (by unfold ax_seq at hs; exact hs.2)⟩
end
section
/-! THE PURE MACHINE IS RIGHT -/
theorem ax_i32 {z : Int} (h1 : -2147483648 ≤ z) (h2 : z < 2147483648) : (Int32.ofInt z).toInt = z := by
  rw [Int32.toInt_ofInt]
  exact Int.bmod_eq_of_le (by show -(2147483648 : Int) ≤ z; exact h1) (by show z < (2147483648 : Int); exact h2)
theorem ax_sw_spec {α : Type} {x : Int32} {k : Nat → Option α} {d : Nat} {res : α} : ∀ {L : List Nat} {v : Int}, ax_sw x k v L d = some res → (∃ (i : Nat) (t : Nat), L[i]? = some t ∧ x = Int32.ofInt (v + i) ∧ k t = some res) ∨ ((∀ i : Nat, i < L.length → x ≠ Int32.ofInt (v + i)) ∧ k d = some res)
  | [], v, h => Or.inr ⟨fun i hi => absurd hi (Nat.not_lt_zero i), h⟩
  | t :: L, v, h => by
    unfold ax_sw at h
    split at h
    · rename_i hx
      exact Or.inl ⟨0, t, rfl, by simpa using hx, h⟩
    · rename_i hx
      rcases ax_sw_spec h with ⟨i, t', h1, h2, h3⟩ | ⟨h1, h2⟩
      · exact Or.inl ⟨i + 1, t', by simpa using h1, by rw [h2]; congr 1; push_cast; omega, h3⟩
      · refine Or.inr ⟨fun i hi => ?_, h2⟩
        cases i with
        | zero => simpa using hx
        | succ i =>
          have := h1 i (by simpa using hi)
          rw [show v + ((i + 1 : Nat) : Int) = v + 1 + (i : Int) by push_cast; omega]
          exact this
theorem ax_lsw_spec {α : Type} {x : Int32} {k : Nat → Option α} {res : α} {pc : Nat} {dd : Int} : ∀ {L : List (Int × Int)}, (∀ q ∈ L, -2147483648 ≤ q.1 ∧ q.1 < 2147483648) → ax_lsw x k (L.map (fun q => (q.1, ((pc : Int) + q.2).toNat))) ((pc : Int) + dd).toNat = some res → k ((pc : Int) + Op.lookupswitch.offset L dd x.toInt).toNat = some res
  | [], _, h => by simpa [ax_lsw, Op.lookupswitch.offset] using h
  | q :: L, hb, h => by
    simp only [List.map_cons] at h
    unfold ax_lsw at h
    rw [Op.lookupswitch.offset_cons]
    have hq := hb q List.mem_cons_self
    split at h
    · rename_i hx
      have hx : x = Int32.ofInt q.1 := hx
      rw [if_pos (by rw [hx, ax_i32 hq.1 hq.2])]
      exact h
    · rename_i hx
      have hx : ¬ x = Int32.ofInt q.1 := hx
      rw [if_neg (by intro e; exact hx (by rw [e, Int32.ofInt_toInt]))]
      exact ax_lsw_spec (fun q' h' => hb q' (List.mem_cons_of_mem _ h')) h
section AXX
variable {α : Type} {X : ax_X} {p : Program} {l : Launch} {e : Env} {R : Room} {s : State} {m : MethodId} {args : Array Value} {below : List Frame} {meth : Method} {c : Code} {Q : State → Prop} {cc : ByteArray} {nL n0 z0 fr lo : Nat} {hf : ax_H} {ini : Bool}
variable {own : String} {M : Nat → ax_MI} {na : Nat → Nat} {ls : ax_L} {st : List Value} {h : ax_H} {k : ax_L → List Value → ax_H → Option α} {res : α}
theorem ax_mn_ok (hexec : p.tables.exec = Jvm.exec) (hb : c.code = cc) (hts : ∀ w ∈ ax_G, w.before args s = true) (hown : s.vm.findClass own = some m.cls) (hK : ax_K X s) (hRc : gN hf ≤ n0 + R.cells) (hRz : gZ hf ≤ z0 + R.slots) {pc idx : Nat} (hlink : Cond.classLink own idx "[[J" ∈ ax_G) (harr : Cond.arrayClass .long ∈ ax_G) (hd : decode cc pc = .ok (.multianewarray idx 2, 4))
    (kk : ∀ ls' st' h1, k ls' st' h1 = some res → ax_W X p l e R s m args below meth c nL Q n0 z0 hf (pc + 4) ls' st' h1) (hs : ax_mn st h (fun r h1 => k ls r h1) = some res) : ax_W X p l e R s m args below meth c nL Q n0 z0 hf pc ls st h := by
  sorry
set_option maxHeartbeats 4000000 in
theorem ax_stp_ok (hexec : p.tables.exec = Jvm.exec) (hb : c.code = cc) (hml : c.maxLocals = nL) (hts : ∀ w ∈ ax_G, w.before args s = true) (hown : s.vm.findClass own = some m.cls) (hK : ax_K X s) (hRc : gN hf ≤ n0 + R.cells) (hRz : gZ hf ≤ z0 + R.slots) (hini : ini = true → meth.name = "<init>") (hfr : fr ≤ R.frames) (hlo : lo ≤ R.locals)
    {r : ax_E} (he : ax_okE M na own cc nL fr lo ini r) (hkd : ax_kind r = 0) (kk : ∀ ls' st' h1, k ls' st' h1 = some res → ax_W X p l e R s m args below meth c nL Q n0 z0 hf (r.1 + r.2.2.1) ls' st' h1) (hs : ax_stp r ls st h k = some res) : ax_W X p l e R s m args below meth c nL Q n0 z0 hf r.1 ls st h := by
  obtain ⟨pc, ins, len, a, b, z⟩ := r
  cases ins with
  | jsr off =>
    have hlen : len = 0 := he
    subst hlen
    exact ax_stay (kk _ _ _ hs) fun H locs cells slots lsr hR hl w => w lsr (ax_keep_has hl)
  | ldc idx =>
    obtain ⟨hd, hlen, hc⟩ := he
    simp only at hd hlen hc
    subst hlen
    simp only [ax_stp] at hs
    rcases hc with ⟨hb0, hc⟩ | ⟨hb0, i, tx, hi, hi2, hi3⟩
    · rw [if_pos hb0] at hs
      exact ax_ldc_ok hexec hb hts hown hc hd (kk _ _ _ hs)
    · rw [if_neg hb0] at hs
      subst hi
      exact ax_ldcs_ok hexec hb hown hK hi3 hi2 hd (kk _ _ _ hs)
  | ldc_w idx =>
    obtain ⟨hd, hlen, hc⟩ := he
    simp only at hd hlen hc
    subst hlen
    exact ax_ldcw_ok hexec hb hts hown hc hd (kk _ _ _ hs)
  | ldc2_w idx =>
    obtain ⟨hd, hlen, hc⟩ := he
    simp only at hd hlen hc
    subst hlen
    exact ax_ldc2_ok hexec hb hts hown hc hd (kk _ _ _ hs)
  | getfield idx =>
    obtain ⟨hd, hlen, h1, h2, h3⟩ := he
    simp only at hd hlen h1 h2 h3
    subst hlen
    exact ax_getf_ok hexec hb hts hown hK h1 h2 h3 hd kk hs
  | putfield idx =>
    obtain ⟨hd, hlen, h1, h2, h3, h4⟩ := he
    simp only at hd hlen h1 h2 h3 h4
    subst hlen
    exact ax_putf_ok hexec hb hts hown hK h1 h2 h3 (h4.imp id (fun q => ⟨hini q.1, q.2⟩)) hd kk hs
  | iaload =>
    obtain ⟨hd, hlen⟩ := he
    simp only at hd hlen
    subst hlen
    refine ax_al_ok hexec hb hK hd (Or.inl ⟨rfl, ?_⟩) kk hs
    by_cases hb1 : b = 1
    · exact Or.inr (if_pos hb1)
    · exact Or.inl (if_neg hb1)
  | laload =>
    obtain ⟨hd, hlen⟩ := he
    simp only at hd hlen
    subst hlen
    exact ax_al_ok hexec hb hK hd (Or.inr (Or.inl ⟨rfl, rfl⟩)) kk hs
  | baload =>
    obtain ⟨hd, hlen, h1⟩ := he
    simp only at hd hlen h1
    subst hlen
    exact ax_al_ok hexec hb hK hd (Or.inr (Or.inr (Or.inl ⟨rfl, h1⟩))) kk hs
  | aaload =>
    obtain ⟨hd, hlen, h1, h2⟩ := he
    simp only at hd hlen h1 h2
    subst hlen
    exact ax_al_ok hexec hb hK hd (Or.inr (Or.inr (Or.inr ⟨rfl, h1, h2⟩))) kk hs
  | iastore =>
    obtain ⟨hd, hlen⟩ := he
    simp only at hd hlen
    subst hlen
    exact ax_as_ok hexec hb hK hd (Or.inl ⟨rfl, rfl⟩) kk hs
  | lastore =>
    obtain ⟨hd, hlen⟩ := he
    simp only at hd hlen
    subst hlen
    exact ax_as_ok hexec hb hK hd (Or.inr (Or.inl ⟨rfl, rfl⟩)) kk hs
  | bastore =>
    obtain ⟨hd, hlen, h1⟩ := he
    simp only at hd hlen h1
    subst hlen
    exact ax_as_ok hexec hb hK hd (Or.inr (Or.inr (Or.inl ⟨rfl, h1⟩))) kk hs
  | aastore =>
    obtain ⟨hd, hlen, h1⟩ := he
    simp only at hd hlen h1
    subst hlen
    exact ax_as_ok hexec hb hK hd (Or.inr (Or.inr (Or.inr ⟨rfl, h1⟩))) kk hs
  | arraylength =>
    obtain ⟨hd, hlen⟩ := he
    simp only at hd hlen
    subst hlen
    refine ax_ln_ok hexec hb hK ?_ hd kk hs
    by_cases hb1 : b = 1
    · exact Or.inr (if_pos hb1)
    · exact Or.inl (if_neg hb1)
  | new idx =>
    obtain ⟨hd, hlen, h1, h2⟩ := he
    simp only at hd hlen h1 h2
    subst hlen
    exact ax_new_ok hexec hb hts hown hK hRc hRz h1 h2 hd kk hs
  | newarray at' =>
    obtain ⟨hd, hlen, h1, h2, h3, h4⟩ := he
    simp only at hd hlen h1 h2 h3 h4
    subst hlen
    exact ax_na_ok hexec hb hts hown hK hRc hRz hd (Or.inl ⟨at', rfl, rfl, h1, h2, h3, h4⟩) kk hs
  | anewarray idx =>
    obtain ⟨hd, hlen, cn, h1, h2⟩ := he
    simp only at hd hlen h1 h2
    subst hlen
    exact ax_na_ok hexec hb hts hown hK hRc hRz hd (Or.inr ⟨idx, cn, rfl, rfl, h1, h2⟩) kk hs
  | multianewarray idx d =>
    obtain ⟨hd, hlen, h0, h1, h2⟩ := he
    simp only at hd hlen h0 h1 h2
    subst hlen
    exact ax_mn_ok hexec hb hts hown hK hRc hRz h1 h2 hd kk hs
  | checkcast idx =>
    obtain ⟨hd, hlen, h1⟩ := he
    simp only at hd hlen h1
    subst hlen
    exact ax_cc_ok hexec hb hts hown hK h1 hd kk hs
  | invokestatic idx =>
    obtain ⟨hd, hlen, h1⟩ := he
    simp only at hd hlen h1
    subst hlen
    have hb100 : ¬ b < 100 := fun q => by simp [ax_kind, q] at hkd
    rw [if_neg hb100] at h1
    obtain ⟨g1, g2, g3, g4, g5, g6, g7⟩ := h1
    exact ax_ac_ok hexec hb hml hts hown hK g1 g2 g3 g4 g5 (Nat.le_trans g6 hfr) (Nat.le_trans g7 hlo) hd kk hs
  | invokevirtual idx =>
    obtain ⟨hd, hlen, h1⟩ := he
    simp only at hd hlen h1
    subst hlen
    have hb100 : ¬ b < 100 := fun q => by simp [ax_kind, q] at hkd
    rw [if_neg hb100] at h1
    obtain ⟨g1, g2, g3, g4, g5, g6, g7⟩ := h1
    exact ax_cl_ok hexec hb hml hts hown hK hRc hRz g1 g2 g3 g4 g5 (Nat.le_trans g6 hfr) (Nat.le_trans g7 hlo) hd kk hs
  | invokespecial idx =>
    obtain ⟨hd, hlen, h1⟩ := he
    simp only at hd hlen h1
    subst hlen
    have hb100 : ¬ b < 100 := fun q => by simp [ax_kind, q] at hkd
    rw [if_neg hb100] at h1
    obtain ⟨g1, g2, g3, g6, g7⟩ := h1
    exact ax_init_ok hexec hb hml hts hown g1 g2 g3 (Nat.le_trans g6 hfr) (Nat.le_trans g7 hlo) hd kk hs
  | _ => first | (exact ax_stay_ok hexec hb he.1 he.2 trivial kk hs) | (simp [ax_kind] at hkd; done) | (simp [ax_stp] at hs; done)
/-- a call's row -/
theorem ax_call_spec {E : ax_Env} {r : ax_E} {n : Nat} {kc : List Value → ax_H → Option α} (hE : ax_Es M E r.2.2.2.1) (hs : ax_call E r n st h kc = some res) : n ≤ st.length ∧ ((st.drop n).map (fun v => v.category)).sum ≤ 8 ∧ ∃ (o : Option Value) (h1 : ax_H), ax_Imp M r.2.2.2.1 (st.take n).reverse h o h1 ∧ kc (o.toList ++ st.drop n) h1 = some res := by
  unfold ax_call at hs
  split at hs
  · rename_i hc
    refine ⟨hc.1, hc.2, ?_⟩
    split at hs
    · obtain ⟨h1, g1, g2⟩ := Option.bind_eq_some_iff.mp hs
      exact ⟨none, h1, hE.1 _ _ _ g1, g2⟩
    · split at hs
      · obtain ⟨⟨x, h1⟩, g1, g2⟩ := Option.bind_eq_some_iff.mp hs
        exact ⟨some (.int x), h1, hE.2.1 _ _ _ _ g1, g2⟩
      · split at hs
        · obtain ⟨⟨x, h1⟩, g1, g2⟩ := Option.bind_eq_some_iff.mp hs
          exact ⟨some (.long x), h1, hE.2.2.1 _ _ _ _ g1, g2⟩
        · obtain ⟨⟨x, h1⟩, g1, g2⟩ := Option.bind_eq_some_iff.mp hs
          exact ⟨some (.ref x), h1, hE.2.2.2 _ _ _ _ g1, g2⟩
  · cases hs
theorem ax_take_drop {x : Value} {r : List Value} {n : Nat} (hn : 0 < n) (h : st.drop (n - 1) = x :: r) : (st.take n).reverse = x :: (st.take (n - 1)).reverse ∧ st.drop n = r ∧ st = (st.take (n - 1)) ++ x :: r := by
  have e1 : st = st.take (n - 1) ++ x :: r := by rw [← h, List.take_append_drop]
  have hl : (st.take (n - 1)).length = n - 1 := by
    rw [List.length_take]
    have : (st.drop (n - 1)).length = r.length + 1 := by rw [h]; rfl
    rw [List.length_drop] at this
    omega
  have e2 : st.take n = st.take (n - 1) ++ [x] := by
    rw [show n = n - 1 + 1 by omega, List.take_succ, show n - 1 + 1 - 1 = n - 1 by omega]
    congr 1
    have : st[n - 1]? = some x := by
      rw [← List.head?_drop, h]; rfl
    rw [this]; rfl
  refine ⟨by rw [e2]; simp, ?_, e1⟩
  rw [show n = n - 1 + 1 by omega, ← List.drop_drop, h]
  rfl
theorem ax_h1_true {X : ax_X} {H : Heap} {locs : List Loc} {cells slots : Nat} {lsr : Array Slot} (hexec : p.tables.exec = Jvm.exec) (hb : c.code = cc) {pc tgt : Nat} {cd : ClassFile.Cond} {off : Int} {x : Int32} {rest : List Value} (hd : decode cc pc = .ok (.ifCond cd off, 3)) (ht : (pc : Int) + off = (tgt : Int))
    (kt : ax_h1 cd x = true → W p l e R s m args below meth c H locs cells slots Q (F0 m tgt lsr rest)) (kf : ¬ ax_h1 cd x = true → W p l e R s m args below meth c H locs cells slots Q (F0 m (pc + 3) lsr rest)) : W p l e R s m args below meth c H locs cells slots Q (F0 m pc lsr (.int x :: rest)) := by
  cases cd with
  | eq => exact lv_if_eq hexec hb hd ht (fun q => kt (by simpa [ax_h1] using q)) (fun q => kf (by simpa [ax_h1] using q))
  | ne => exact lv_if_ne hexec hb hd ht (fun q => kt (by simpa [ax_h1] using q)) (fun q => kf (by simpa [ax_h1] using q))
  | lt => exact lv_if_lt hexec hb hd ht (fun q => kt (by simpa [ax_h1] using q)) (fun q => kf (by simpa [ax_h1] using q))
  | ge => exact lv_if_ge hexec hb hd ht (fun q => kt (by simpa [ax_h1] using q)) (fun q => kf (by simpa [ax_h1] using q))
  | gt => exact lv_if_gt hexec hb hd ht (fun q => kt (by simpa [ax_h1] using q)) (fun q => kf (by simpa [ax_h1] using q))
  | le => exact lv_if_le hexec hb hd ht (fun q => kt (by simpa [ax_h1] using q)) (fun q => kf (by simpa [ax_h1] using q))
theorem ax_h2_true {X : ax_X} {H : Heap} {locs : List Loc} {cells slots : Nat} {lsr : Array Slot} (hexec : p.tables.exec = Jvm.exec) (hb : c.code = cc) {pc tgt : Nat} {cd : ClassFile.Cond} {off : Int} {x y : Int32} {rest : List Value} (hd : decode cc pc = .ok (.if_icmp cd off, 3)) (ht : (pc : Int) + off = (tgt : Int))
    (kt : ax_h2 cd x y = true → W p l e R s m args below meth c H locs cells slots Q (F0 m tgt lsr rest)) (kf : ¬ ax_h2 cd x y = true → W p l e R s m args below meth c H locs cells slots Q (F0 m (pc + 3) lsr rest)) : W p l e R s m args below meth c H locs cells slots Q (F0 m pc lsr (.int y :: .int x :: rest)) := by
  cases cd with
  | eq => exact lv_icmp_eq hexec hb hd ht (fun q => kt (by simpa [ax_h2] using q)) (fun q => kf (by simpa [ax_h2] using q))
  | ne => exact lv_icmp_ne hexec hb hd ht (fun q => kt (by simpa [ax_h2] using q)) (fun q => kf (by simpa [ax_h2] using q))
  | lt => exact lv_icmp_lt hexec hb hd ht (fun q => kt (by simpa [ax_h2] using q)) (fun q => kf (by simpa [ax_h2] using q))
  | ge => exact lv_icmp_ge hexec hb hd ht (fun q => kt (by simpa [ax_h2] using q)) (fun q => kf (by simpa [ax_h2] using q))
  | gt => exact lv_icmp_gt hexec hb hd ht (fun q => kt (by simpa [ax_h2] using q)) (fun q => kf (by simpa [ax_h2] using q))
  | le => exact lv_icmp_le hexec hb hd ht (fun q => kt (by simpa [ax_h2] using q)) (fun q => kf (by simpa [ax_h2] using q))
/-- what a return's row does -/
def ax_Rt (X : ax_X) (p : Program) (l : Launch) (e : Env) (R : Room) (s : State) (m : MethodId) (args : Array Value) (below : List Frame) (meth : Method) (c : Code) (nL : Nat) (Q : State → Prop) (n0 z0 : Nat) (hf : ax_H) (ρ : Value → ax_H → Option α) (res : α) (r : ax_E) : Prop :=
  (∀ (ls : ax_L) (x : Int32) (h1 : ax_H), r.2.1 = .ireturn → (r.2.2.2.1 = 1 → x = 0 ∨ x = 1) → ρ (.int x) h1 = some res → ax_W X p l e R s m args below meth c nL Q n0 z0 hf r.1 ls [.int x] h1) ∧
  (∀ (ls : ax_L) (x : Int64) (h1 : ax_H), r.2.1 = .lreturn → ρ (.long x) h1 = some res → ax_W X p l e R s m args below meth c nL Q n0 z0 hf r.1 ls [.long x] h1) ∧
  (∀ (ls : ax_L) (x : Nat) (h1 : ax_H), r.2.1 = .areturn → ρ (.ref x) h1 = some res → ax_W X p l e R s m args below meth c nL Q n0 z0 hf r.1 ls [.ref x] h1) ∧
  (∀ (ls : ax_L) (h1 : ax_H), r.2.1 = .return_ → ρ (.retAddr 0) h1 = some res → ax_W X p l e R s m args below meth c nL Q n0 z0 hf r.1 ls [] h1)
end AXX
end
section
/-! THE PURE MACHINE'S RUN IS THE MACHINE'S -/
section AXR
variable {α : Type} {X : ax_X} {p : Program} {l : Launch} {e : Env} {R : Room} {s : State} {m : MethodId} {args : Array Value} {below : List Frame} {meth : Method} {c : Code} {Q : State → Prop} {cc : ByteArray} {nL n0 z0 fr lo : Nat} {hf : ax_H} {ini : Bool}
variable {own : String} {M : Nat → ax_MI} {na : Nat → Nat} {ρ : Value → ax_H → Option α} {res : α} {E : ax_Env} {C : List ax_E}
set_option maxHeartbeats 4000000 in
theorem ax_ex_ok (hexec : p.tables.exec = Jvm.exec) (hb : c.code = cc) (hml : c.maxLocals = nL) (hts : ∀ w ∈ ax_G, w.before args s = true) (hown : s.vm.findClass own = some m.cls) (hK : ax_K X s) (hRc : gN hf ≤ n0 + R.cells) (hRz : gZ hf ≤ z0 + R.slots) (hini : ini = true → meth.name = "<init>") (hfr : fr ≤ R.frames) (hlo : lo ≤ R.locals)
    (hE : ∀ r ∈ C, ax_kind r = 8 → ax_Es M E r.2.2.2.1) (hna : ∀ r ∈ C, ax_kind r = 8 → ¬ (∃ i, r.2.1 = .invokestatic i) → 0 < na r.2.2.2.1) (hok : ∀ r ∈ C, ax_okE M na own cc nL fr lo ini r) (hsq : ax_seq C) (hrt : ∀ r ∈ C, ax_Rt X p l e R s m args below meth c nL Q n0 z0 hf ρ res r) :
    ∀ (n : Nat) (sfx : List ax_E) (ls : ax_L) (st : List Value) (h : ax_H), (∀ r ∈ sfx, r ∈ C) → ax_seq sfx → ax_ex ρ E na C n sfx ls st h = some res → ∃ r t, sfx = r :: t ∧ ax_W X p l e R s m args below meth c nL Q n0 z0 hf r.1 ls st h := by
  intro n
  induction n with
  | zero => intro sfx ls st h _ _ hs; simp [ax_ex] at hs
  | succ n ih =>
    intro sfx ls st h hin hseq hs
    cases sfx with
    | nil => simp [ax_ex] at hs
    | cons r t =>
      refine ⟨r, t, rfl, ?_⟩
      have hrC := hin r List.mem_cons_self
      have he := hok r hrC
      -- the next row
      have next : ∀ (ls' : ax_L) (st' : List Value) (h1 : ax_H), ax_ex ρ E na C n t ls' st' h1 = some res → ax_W X p l e R s m args below meth c nL Q n0 z0 hf (r.1 + r.2.2.1) ls' st' h1 := by
        intro ls' st' h1 hx
        obtain ⟨r', t', ht, hw⟩ := ih t ls' st' h1 (fun q hq => hin q (List.mem_cons_of_mem _ hq)) (by unfold ax_seq at hseq; exact hseq.2) hx
        subst ht
        unfold ax_seq at hseq
        have : r'.1 = r.1 + r.2.2.1 := hseq.1
        rw [← this]
        exact hw
      -- a jump
      have jump : ∀ (tg : Nat) (ls' : ax_L) (st' : List Value) (h1 : ax_H), ax_ex ρ E na C n (ax_to C tg) ls' st' h1 = some res → ax_W X p l e R s m args below meth c nL Q n0 z0 hf tg ls' st' h1 := by
        intro tg ls' st' h1 hx
        cases hto : ax_to C tg with
        | nil => rw [hto] at hx; cases n <;> simp [ax_ex] at hx
        | cons r' t' =>
          obtain ⟨g1, g2, g3⟩ := ax_to_in hto
          rw [hto] at hx
          obtain ⟨r2, t2, ht, hw⟩ := ih (r' :: t') ls' st' h1 g2 (g3 hsq) hx
          cases ht
          rw [← g1]
          exact hw
      unfold ax_ex at hs
      split at hs
      · -- on
        rename_i hk
        exact ax_stp_ok hexec hb hml hts hown hK hRc hRz hini hfr hlo he hk next hs
      · -- goto
        rename_i hk
        obtain ⟨pc, ins, len, a, b, z⟩ := r
        cases ins <;> simp [ax_kind] at hk <;> try (split at hk <;> cases hk)
        rename_i off
        obtain ⟨hd, ht⟩ := he
        exact ax_stay (jump _ _ _ _ hs) fun H locs cells slots lsr hR hl w => lv_goto hexec hb hd ht (w lsr hl)
      · -- if
        rename_i hk
        obtain ⟨pc, ins, len, a, b, z⟩ := r
        simp only at hs
        split at hs
        · rename_i cd off x rr
          obtain ⟨hd, hlen, ht⟩ := he
          simp only at hd hlen ht
          subst hlen
          by_cases hc : ax_h1 cd x = true
          · rw [if_pos hc] at hs
            have w0 := jump _ _ _ _ hs
            exact ax_stay w0 fun H locs cells slots lsr hR hl w => ax_h1_true (X := X) hexec hb hd ht (fun _ => w lsr hl) (fun q => absurd hc q)
          · rw [if_neg hc] at hs
            have w0 := next _ _ _ hs
            exact ax_stay w0 fun H locs cells slots lsr hR hl w => ax_h1_true (X := X) hexec hb hd ht (fun q => absurd q hc) (fun _ => w lsr hl)
        · cases hs
      · -- if_icmp
        rename_i hk
        obtain ⟨pc, ins, len, a, b, z⟩ := r
        simp only at hs
        split at hs
        · rename_i cd off y x rr
          obtain ⟨hd, hlen, ht⟩ := he
          simp only at hd hlen ht
          subst hlen
          by_cases hc : ax_h2 cd x y = true
          · rw [if_pos hc] at hs
            have w0 := jump _ _ _ _ hs
            exact ax_stay w0 fun H locs cells slots lsr hR hl w => ax_h2_true (X := X) hexec hb hd ht (fun _ => w lsr hl) (fun q => absurd hc q)
          · rw [if_neg hc] at hs
            have w0 := next _ _ _ hs
            exact ax_stay w0 fun H locs cells slots lsr hR hl w => ax_h2_true (X := X) hexec hb hd ht (fun q => absurd q hc) (fun _ => w lsr hl)
        · cases hs
      · -- ifnull
        rename_i hk
        obtain ⟨pc, ins, len, a, b, z⟩ := r
        simp only at hs
        have hins : ∃ off, ins = .ifnull off := by
          cases ins <;> simp [ax_kind] at hk <;> try (split at hk <;> cases hk)
          exact ⟨_, rfl⟩
        obtain ⟨off, rfl⟩ := hins
        obtain ⟨hd, hlen, ht⟩ := he
        simp only at hd hlen ht
        subst hlen
        split at hs
        · rename_i x rr
          by_cases hc : x = 0
          · rw [if_pos hc] at hs
            subst hc
            exact ax_stay (jump _ _ _ _ hs) fun H locs cells slots lsr hR hl w => by rw [List.map_cons, ax_v_null]; exact lv_ifnullN hexec hb hd ht (w lsr hl)
          · rw [if_neg hc] at hs
            exact ax_stay (next _ _ _ hs) fun H locs cells slots lsr hR hl w => by rw [List.map_cons, ax_v_ref hc]; exact lv_ifnull hexec hb hd (w lsr hl)
        · cases hs
      · -- ifnonnull
        rename_i hk
        obtain ⟨pc, ins, len, a, b, z⟩ := r
        simp only at hs
        have hins : ∃ off, ins = .ifnonnull off := by
          cases ins <;> simp [ax_kind] at hk <;> try (split at hk <;> cases hk)
          exact ⟨_, rfl⟩
        obtain ⟨off, rfl⟩ := hins
        obtain ⟨hd, hlen, ht⟩ := he
        simp only at hd hlen ht
        subst hlen
        split at hs
        · rename_i x rr
          by_cases hc : x = 0
          · rw [if_pos hc] at hs
            subst hc
            exact ax_stay (next _ _ _ hs) fun H locs cells slots lsr hR hl w => by rw [List.map_cons, ax_v_null]; exact lv_ifnonnullN hexec hb hd (w lsr hl)
          · rw [if_neg hc] at hs
            exact ax_stay (jump _ _ _ _ hs) fun H locs cells slots lsr hR hl w => by rw [List.map_cons, ax_v_ref hc]; exact lv_ifnonnull hexec hb hd ht (w lsr hl)
        · cases hs
      · -- tableswitch
        rename_i hk
        obtain ⟨pc, ins, len, a, b, z⟩ := r
        simp only at hs
        split at hs
        · rename_i d lw hi offs x rr
          obtain ⟨hd, h1, h2, h3, h4, h5⟩ := he
          simp only at hd h1 h2 h3 h4 h5
          rcases ax_sw_spec hs with ⟨i, tg, g1, g2, g3⟩ | ⟨g1, g2⟩
          · rw [List.getElem?_map] at g1
            obtain ⟨o, ho, hto⟩ := Option.map_eq_some_iff.mp g1
            have hil : i < offs.toList.length := (List.getElem?_eq_some_iff.mp ho).1
            have hx : x.toInt = lw + i := by rw [g2, ax_i32 (by omega) (by omega)]
            have ho2 := h2 o (List.mem_of_getElem? ho)
            exact ax_stay (jump _ _ _ _ g3) fun H locs cells slots lsr hR hl w => lv_tableIn (off := o) (tgt := tg) hexec hb hd (by omega) (by omega) (by rw [hx, show (lw + (i : Int) - lw).toNat = i by omega, ← Array.getElem?_toList]; exact ho) (by rw [← hto]; omega) (w lsr hl)
          · refine ax_stay (jump _ _ _ _ g2) fun H locs cells slots lsr hR hl w => lv_tableOut hexec hb hd ?_ (by omega) (w lsr hl)
            by_cases q1 : x.toInt < lw
            · exact Or.inl q1
            · by_cases q2 : hi < x.toInt
              · exact Or.inr q2
              · exfalso
                refine g1 (x.toInt - lw).toNat (by rw [List.length_map]; omega) ?_
                rw [show lw + ((x.toInt - lw).toNat : Int) = x.toInt by omega, Int32.ofInt_toInt]
        · cases hs
      · -- lookupswitch
        rename_i hk
        obtain ⟨pc, ins, len, a, b, z⟩ := r
        simp only at hs
        split at hs
        · rename_i d ps x rr
          obtain ⟨hd, h1, h2, h3⟩ := he
          simp only at hd h1 h2 h3
          have g := ax_lsw_spec (fun q hq => (h2 q hq).2) hs
          have hoff : ∀ (L : List (Int × Int)), (∀ q ∈ L, 0 ≤ (pc : Int) + q.2) → 0 ≤ (pc : Int) + Op.lookupswitch.offset L d x.toInt := by
            intro L
            induction L with
            | nil => intro _; simpa [Op.lookupswitch.offset] using h1
            | cons q L ihL =>
              intro hq
              rw [Op.lookupswitch.offset_cons]
              split
              · exact hq q List.mem_cons_self
              · exact ihL (fun q' h' => hq q' (List.mem_cons_of_mem _ h'))
          have h0 := hoff ps.toList (fun q hq => (h2 q hq).1)
          exact ax_stay (jump _ _ _ _ g) fun H locs cells slots lsr hR hl w => lv_lookup hexec hb hd h3 rfl (by omega) (w lsr hl)
        · cases hs
      · -- returns
        rename_i hk
        obtain ⟨t1, t2, t3, t4⟩ := hrt r hrC
        split at hs
        · rename_i x hr
          split at hs
          · rename_i h1
            split at hs
            · rename_i hx
              exact t1 ls x h hr (fun _ => hx) hs
            · cases hs
          · rename_i h1
            exact t1 ls x h hr (fun q => absurd q h1) hs
        · rename_i x hr
          exact t2 ls x h hr hs
        · rename_i x hr
          exact t3 ls x h hr hs
        · rename_i hr
          exact t4 ls h hr hs
        · cases hs
      · -- calls
        rename_i k0 k1 k2 k3 k4 k5 k6 k7 k8
        have hk : ax_kind r = 8 := by
          obtain ⟨pc, ins, len, a, b, z⟩ := r
          cases ins <;> simp [ax_kind] at k0 k1 k2 k3 k4 k5 k6 k7 k8 ⊢ <;> omega
        have hEs := hE r hrC hk
        have hn0 := hna r hrC hk
        obtain ⟨pc, ins, len, a, b, z⟩ := r
        simp only at hs hEs hn0
        split at hs
        · rename_i idx
          obtain ⟨hd, hlen, h1⟩ := he
          simp only at hd hlen h1
          subst hlen
          have hb100 : b < 100 := by simp only [ax_kind] at hk; split at hk <;> simp_all
          rw [if_pos hb100] at h1
          obtain ⟨g1, g2, g3, g4, g5, g6⟩ := h1
          obtain ⟨c1, c2, o, h1, hImp, hs⟩ := ax_call_spec hEs hs
          have w0 := next _ _ _ hs
          refine ⟨Nat.le_trans hImp.1 w0.1, Nat.le_trans hImp.2.1 w0.2.1, fun a1 a2 H locs lsr hR hlo' hl => ?_⟩
          have m1 := hImp.1
          have m2 := hImp.2.1
          have m3 := w0.1
          have m4 := w0.2.1
          refine ax_cs (n := na a) (av := (st.take (na a)).reverse) (rest := st.drop (na a)) (h := h) (h' := h1) (o := o) (M := M) (N := a) hexec hb (by rw [hml]; exact hl.1.symm) hts hown hK hR g1 g2 g3 g4 ⟨Nat.le_trans g5 hfr, Nat.le_trans g6 hlo⟩ (by simp; omega) (by rw [List.reverse_reverse, List.take_append_drop]) c2 hImp (by omega) (by omega) hlo' hd fun H1 locs1 q1 q2 => ?_
          exact W.cs (show gN h - n0 + (gN h1 - gN h) = gN h1 - n0 by omega) (show gZ h - z0 + (gZ h1 - gZ h) = gZ h1 - z0 by omega) (w0.2.2 (by omega) (by omega) H1 locs1 lsr q1 q2 hl)
        · rename_i hnst
          split at hs
          · rename_i x rr hdrop
            by_cases hx : ax_rcv h b x
            · rw [if_pos hx] at hs
              have hpos : 0 < na a := hn0 (fun ⟨i, hi⟩ => hnst i hi)
              obtain ⟨td1, td2, td3⟩ := ax_take_drop hpos hdrop
              obtain ⟨c1, c2, o, h1, hImp, hs⟩ := ax_call_spec hEs hs
              have w0 := next _ _ _ hs
              refine ⟨Nat.le_trans hImp.1 w0.1, Nat.le_trans hImp.2.1 w0.2.1, fun a1 a2 H locs lsr hR hlo' hl => ?_⟩
              have m1 := hImp.1
              have m2 := hImp.2.1
              have m3 := w0.1
              have m4 := w0.2.1
              rw [td1] at hImp
              rw [td2] at c2 hs w0
              have fin : ∀ (H1 : Heap) (locs1 : List Loc), ax_Rep X h1 H1 → (∀ l ∈ locs1, xB X ≤ l.base) → W p l e R s m args below meth c H1 locs1 (gN h - n0 + (gN h1 - gN h)) (gZ h - z0 + (gZ h1 - gZ h)) Q (F0 m (pc + len) lsr ((o.toList ++ rr).map (ax_v X))) := fun H1 locs1 q1 q2 =>
                W.cs (show gN h - n0 + (gN h1 - gN h) = gN h1 - n0 by omega) (show gZ h - z0 + (gZ h1 - gZ h) = gZ h1 - z0 by omega) (w0.2.2 (by omega) (by omega) H1 locs1 lsr q1 q2 hl)
              have hlen1 : ((st.take (na a - 1)).reverse).length = na a - 1 := by
                rw [List.length_reverse, List.length_take]; omega
              cases ins <;> simp [ax_kind] at hk
              · rename_i idx
                obtain ⟨hd, hlen, h1'⟩ := he
                simp only at hd hlen h1'
                subst hlen
                rw [if_pos hk] at h1'
                obtain ⟨g1, g2, g3, g4, g5, g6, g7, g8, g9⟩ := h1'
                have g5' : (parseMethodDescriptor (M a).1.desc).map (fun d => d.parameters.length) = some (na a - 1) := by
                  cases hpd : parseMethodDescriptor (M a).1.desc with
                  | none => rw [hpd] at g5; simp at g5
                  | some sig => rw [hpd] at g5; simp at g5 ⊢; omega
                exact ax_ci (n := na a - 1) (x := x) (av := (st.take (na a - 1)).reverse) (rest := rr) (h := h) (h' := h1) (o := o) (M := M) (N := a) hexec hb (by rw [hml]; exact hl.1.symm) hts hown hK hR g1 g2 g3 g4 g5' g6 ⟨Nat.le_trans g8 hfr, Nat.le_trans g9 hlo⟩ hlen1 (by rw [List.reverse_reverse]; exact td3) hx g7 c2 hImp (by omega) (by omega) hlo' hd fin
              · rename_i idx
                exact absurd rfl (hnst idx)
              · rename_i idx
                obtain ⟨hd, hlen, h1'⟩ := he
                simp only at hd hlen h1'
                subst hlen
                rw [if_pos hk] at h1'
                obtain ⟨g1, g2, g3, g4, g5, ⟨g6, g7⟩, g8, g9⟩ := h1'
                have g4' : (parseMethodDescriptor (M a).1.desc).map (fun d => d.parameters.length) = some (na a - 1) := by
                  cases hpd : parseMethodDescriptor (M a).1.desc with
                  | none => rw [hpd] at g4; simp at g4
                  | some sig => rw [hpd] at g4; simp at g4 ⊢; omega
                exact ax_cv (n := na a - 1) (x := x) (av := (st.take (na a - 1)).reverse) (rest := rr) (h := h) (h' := h1) (o := o) (M := M) (N := a) hexec hb (by rw [hml]; exact hl.1.symm) hts hown hK hR g1 g2 g3 g4' g5 ⟨Nat.le_trans g8 hfr, Nat.le_trans g9 hlo⟩ hlen1 (by rw [List.reverse_reverse]; exact td3) hx g6 g7 c2 hImp (by omega) (by omega) hlo' hd fin
            · rw [if_neg hx] at hs; cases hs
          · cases hs
end AXR
end
section
/-! the heap only grows -/
section AXM
variable {α : Type} {ls : ax_L} {st : List Value} {h : ax_H} {k : ax_L → List Value → ax_H → Option α} {res : α}
abbrev ax_mo (h h1 : ax_H) : Prop := gN h ≤ gN h1 ∧ gZ h ≤ gZ h1
theorem ax_mo_rf (h : ax_H) : ax_mo h h := ⟨Nat.le_refl _, Nat.le_refl _⟩
theorem ax_mo_pI (h : ax_H) (a k : Nat) (v : Int32) : ax_mo h (pI h a k v) := ⟨Nat.le_refl _, Nat.le_refl _⟩
theorem ax_mo_pL (h : ax_H) (a k : Nat) (v : Int64) : ax_mo h (pL h a k v) := ⟨Nat.le_refl _, Nat.le_refl _⟩
theorem ax_mo_pR (h : ax_H) (a k : Nat) (v : Nat) : ax_mo h (pR h a k v) := ⟨Nat.le_refl _, Nat.le_refl _⟩
theorem ax_mo_nW (h : ax_H) (a k z : Nat) : ax_mo h (nW h a k z) := ⟨Nat.le_succ _, Nat.le_add_right _ _⟩
theorem ax_mo_nG (h : ax_H) (a b n k : Nat) : ax_mo h (nG h a b n k) := ⟨Nat.le_add_right _ _, Nat.le_add_right _ _⟩
theorem ax_mo_rI (h : ax_H) (a : Nat) (f : Nat → Int32) : ax_mo h (rI h a f) := ⟨Nat.le_refl _, Nat.le_refl _⟩
theorem ax_mo_rL (h : ax_H) (a : Nat) (f : Nat → Int64) : ax_mo h (rL h a f) := ⟨Nat.le_refl _, Nat.le_refl _⟩
theorem ax_mo_cl (h : ax_H) (x : Nat) : ax_mo h (rI (nW h 16 (gS h x).2 (gS h x).2) (gN h) (gI h x)) := ⟨Nat.le_succ _, Nat.le_add_right _ _⟩
set_option maxHeartbeats 4000000 in
theorem ax_stp_mono {r : ax_E} (hs : ax_stp r ls st h k = some res) : ∃ ls' st' h1, k ls' st' h1 = some res ∧ ax_mo h h1 := by
  obtain ⟨pc, ins, len, a, b, z⟩ := r
  cases ins <;> simp only [ax_stp, ax_ii, ax_ll, ax_gf, ax_pf, ax_al, ax_as, ax_ln, ax_na, ax_mn, ax_ac, ax_cl, ax_cc] at hs <;> (repeat' (split at hs)) <;>
    first
    | (cases hs; done)
    | exact ⟨_, _, _, hs, ax_mo_rf h⟩
    | exact ⟨_, _, _, hs, ax_mo_pI _ _ _ _⟩
    | exact ⟨_, _, _, hs, ax_mo_pL _ _ _ _⟩
    | exact ⟨_, _, _, hs, ax_mo_pR _ _ _ _⟩
    | exact ⟨_, _, _, hs, ax_mo_nW _ _ _ _⟩
    | exact ⟨_, _, _, hs, ax_mo_nG _ _ _ _ _⟩
    | exact ⟨_, _, _, hs, ax_mo_rI _ _ _⟩
    | exact ⟨_, _, _, hs, ax_mo_rL _ _ _⟩
    | exact ⟨_, _, _, hs, ax_mo_cl _ _⟩
theorem ax_lsw_some {x : Int32} {kt : Nat → Option α} {d : Nat} : ∀ {L : List (Int × Nat)}, ax_lsw x kt L d = some res → ∃ t, kt t = some res
  | [], h => ⟨d, h⟩
  | q :: L, h => by
    unfold ax_lsw at h
    split at h
    · exact ⟨_, h⟩
    · exact ax_lsw_some h
variable {M : Nat → ax_MI} {na : Nat → Nat} {ρ : Value → ax_H → Option α} {E : ax_Env} {C : List ax_E}
set_option maxHeartbeats 4000000 in
theorem ax_ex_mono {hf : ax_H} (hρ : ∀ v h1, ρ v h1 = some res → ax_mo h1 hf) (hE : ∀ r ∈ C, ax_kind r = 8 → ax_Es M E r.2.2.2.1) :
    ∀ (n : Nat) (sfx : List ax_E) (ls : ax_L) (st : List Value) (h : ax_H), (∀ r ∈ sfx, r ∈ C) → ax_ex ρ E na C n sfx ls st h = some res → ax_mo h hf := by
  intro n
  induction n with
  | zero => intro sfx ls st h _ hs; simp [ax_ex] at hs
  | succ n ih =>
    intro sfx ls st h hin hs
    cases sfx with
    | nil => simp [ax_ex] at hs
    | cons r t =>
      have hrC := hin r List.mem_cons_self
      have next : ∀ (ls' : ax_L) (st' : List Value) (h1 : ax_H), ax_ex ρ E na C n t ls' st' h1 = some res → ax_mo h1 hf := fun ls' st' h1 hx => ih t ls' st' h1 (fun q hq => hin q (List.mem_cons_of_mem _ hq)) hx
      have jump : ∀ (tg : Nat) (ls' : ax_L) (st' : List Value) (h1 : ax_H), ax_ex ρ E na C n (ax_to C tg) ls' st' h1 = some res → ax_mo h1 hf := by
        intro tg ls' st' h1 hx
        cases hto : ax_to C tg with
        | nil => rw [hto] at hx; cases n <;> simp [ax_ex] at hx
        | cons r' t' =>
          obtain ⟨g1, g2, g3⟩ := ax_to_in hto
          rw [hto] at hx
          exact ih (r' :: t') ls' st' h1 g2 hx
      unfold ax_ex at hs
      split at hs
      · obtain ⟨ls', st', h1, g1, g2⟩ := ax_stp_mono hs
        have := next _ _ _ g1
        exact ⟨Nat.le_trans g2.1 this.1, Nat.le_trans g2.2 this.2⟩
      · exact jump _ _ _ _ hs
      · split at hs
        · split at hs
          · exact jump _ _ _ _ hs
          · exact next _ _ _ hs
        · cases hs
      · split at hs
        · split at hs
          · exact jump _ _ _ _ hs
          · exact next _ _ _ hs
        · cases hs
      · split at hs
        · split at hs
          · exact jump _ _ _ _ hs
          · exact next _ _ _ hs
        · cases hs
      · split at hs
        · split at hs
          · exact next _ _ _ hs
          · exact jump _ _ _ _ hs
        · cases hs
      · split at hs
        · rcases ax_sw_spec hs with ⟨i, tg, g1, g2, g3⟩ | ⟨g1, g2⟩
          · exact jump _ _ _ _ g3
          · exact jump _ _ _ _ g2
        · cases hs
      · split at hs
        · obtain ⟨tg, g⟩ := ax_lsw_some hs
          exact jump _ _ _ _ g
        · cases hs
      · split at hs
        · split at hs
          · split at hs
            · exact hρ _ _ hs
            · cases hs
          · exact hρ _ _ hs
        · exact hρ _ _ hs
        · exact hρ _ _ hs
        · exact hρ _ _ hs
        · cases hs
      · rename_i k0 k1 k2 k3 k4 k5 k6 k7 k8
        have hk : ax_kind r = 8 := by
          have q : ax_kind r < 10 := by
            unfold ax_kind
            split <;> (try split) <;> decide
          have j0 : ax_kind r ≠ 0 := k0
          have j1 : ax_kind r ≠ 1 := k1
          have j2 : ax_kind r ≠ 2 := k2
          have j3 : ax_kind r ≠ 3 := k3
          have j4 : ax_kind r ≠ 4 := k4
          have j5 : ax_kind r ≠ 5 := k5
          have j6 : ax_kind r ≠ 6 := k6
          have j7 : ax_kind r ≠ 9 := k7
          have j8 : ax_kind r ≠ 7 := k8
          omega
        have hEs := hE r hrC hk
        split at hs
        · obtain ⟨c1, c2, o, h1, hImp, hs⟩ := ax_call_spec hEs hs
          have := next _ _ _ hs
          exact ⟨Nat.le_trans hImp.1 this.1, Nat.le_trans hImp.2.1 this.2⟩
        · split at hs
          · split at hs
            · obtain ⟨c1, c2, o, h1, hImp, hs⟩ := ax_call_spec hEs hs
              have := next _ _ _ hs
              exact ⟨Nat.le_trans hImp.1 this.1, Nat.le_trans hImp.2.1 this.2⟩
            · cases hs
          · cases hs
end AXM
/-! a method's contract out of its run -/
def ax_ρV : Value → ax_H → Option ax_H := fun v h => match v with | .retAddr _ => some h | _ => none
def ax_ρI : Value → ax_H → Option (Int32 × ax_H) := fun v h => match v with | .int x => some (x, h) | _ => none
def ax_ρL : Value → ax_H → Option (Int64 × ax_H) := fun v h => match v with | .long x => some (x, h) | _ => none
def ax_ρR : Value → ax_H → Option (Nat × ax_H) := fun v h => match v with | .ref x => some (x, h) | _ => none
theorem ax_lvargs (X : ax_X) : ∀ (av : List Value) (i : Nat), lv_args i (av.map (ax_v X)) = (lv_args i av).map (ax_q X)
  | [], _ => rfl
  | v :: av, i => by
    simp only [List.map_cons, lv_args, ax_v_cat]
    rw [ax_lvargs X av]
    rfl
theorem ax_lgsl (X : ax_X) (av : List Value) : (lg_sl (av.map (ax_v X))).length = (lg_sl av).length := by
  induction av with
  | nil => rfl
  | cons v av ih =>
    simp only [List.map_cons, lg_sl, List.flatMap_cons, List.length_append, ax_v_cat] at ih ⊢
    rw [ih]
    split <;> rfl
section AXZ
variable {α : Type} {M : Nat → ax_MI} {na : Nat → Nat} {E : ax_Env} {C : List ax_E} {N : Nat} {own : String} {ini : Bool}
/-- all that is asked of a method's rows -/
def ax_Code (M : Nat → ax_MI) (na : Nat → Nat) (E : ax_Env) (C : List ax_E) (N : Nat) (own : String) (ini : Bool) : Prop :=
  (M N).1.cls = own ∧ plainName own = true ∧ (ini = true → (M N).1.name = "<init>") ∧ (∀ r ∈ C, ax_okE M na own (M N).2.1 (M N).2.2.1 (M N).2.2.2.2.2.1 (M N).2.2.2.2.2.2 ini r) ∧ ax_seq C ∧ (∃ r t, C = r :: t ∧ r.1 = 0) ∧ (∀ r ∈ C, ax_kind r = 8 → ¬ (∃ i, r.2.1 = .invokestatic i) → 0 < na r.2.2.2.1) ∧
  (∀ r ∈ C, (r.2.1 = .ireturn → (M N).2.2.2.1 = some .int ∨ ((M N).2.2.2.1 = some .boolean ∧ r.2.2.2.1 = 1)) ∧ (r.2.1 = .lreturn → (M N).2.2.2.1 = some .long) ∧ (r.2.1 = .areturn → ∃ rt, (M N).2.2.2.1 = some rt ∧ ((∃ n, rt = .object n) ∨ ∃ t, rt = .array t)) ∧ (r.2.1 = .return_ → (M N).2.2.2.1 = none))
/-- the common part: from the run to the walk; what a return does is asked for -/
theorem ax_method {res : α} {ρ : Value → ax_H → Option α} (hC : ax_Code M na E C N own ini) (hE : ∀ r ∈ C, ax_kind r = 8 → ax_Es M E r.2.2.2.1) {av : List Value} {h hf : ax_H} {o : Option Value} {n : Nat} (hav : (lg_sl av).length ≤ (M N).2.2.1)
    (hρ : ∀ v h1, ρ v h1 = some res → h1 = hf ∧ o = (match v with | .retAddr _ => none | v => some v))
    (hrun : ax_ex ρ E na C n C (lv_args 0 av) [] h = some res) : ax_Imp M N av h o hf := by
  obtain ⟨hcls, hpl, hini, hok, hsq, ⟨r0, t0, hC0, hpc0⟩, hna, hret⟩ := hC
  have hmo := ax_ex_mono (M := M) (hf := hf) (fun v h1 q => by rw [(hρ v h1 q).1]; exact ax_mo_rf hf) hE n C (lv_args 0 av) [] h (fun _ q => q) hrun
  refine ⟨hmo.1, hmo.2, fun l X => ?_⟩
  refine Met.ofW (cc := (M N).2.1) (maxL := (M N).2.2.1) (ret := (M N).2.2.2.1) (by rw [hcls]; exact hpl) rfl ?_
  intro p e s m args below meth c s₁ B hml hv
  obtain ⟨rfl, hRep, hK⟩ := hv
  have hx := B.exec
  have hb := B.bytes
  have hr := B.returns
  have hts0 := atoms_spec (ws := Cond.code (M N).1 (M N).2.1 (M N).2.2.1 (M N).2.2.2.1 :: ax_G) B.pre
  have hts : ∀ w ∈ ax_G, w.before (av.map (ax_v X)).toArray s = true := fun w hw => hts0 w (List.mem_cons_of_mem _ hw)
  have hown : s.vm.findClass own = some m.cls := by rw [← hcls]; exact findClass_of_methodNamed B.named
  have hlocks := B.notSynchronized
  have hnm : meth.name = (M N).1.name := (name_of_methodNamed B.named B.method).1
  have hl := lv_entry (av.map (ax_v X)) (n := (M N).2.2.1) (by rw [ax_lgsl]; exact hav)
  rw [lg_entry_eq]
  generalize (lg_sl (av.map (ax_v X)) ++ List.replicate ((M N).2.2.1 - (lg_sl (av.map (ax_v X))).length) Slot.unset).toArray = lsr at hl ⊢
  rw [ax_lvargs] at hl
  have key := ax_ex_ok (X := X) (p := p) (l := l) (e := e) (R := (headSpec (Cond.code (M N).1 (M N).2.1 (M N).2.2.1 (M N).2.2.2.1 :: ax_G) { frames := (M N).2.2.2.2.2.1, cells := gN hf - gN h, slots := gZ hf - gZ h, locals := (M N).2.2.2.2.2.2 }).room) (s := s) (m := m) (args := (av.map (ax_v X)).toArray) (below := below) (meth := meth) (c := c) (Q := MQ below (ax_Qc X o hf) (av.map (ax_v X)).toArray s (gN hf - gN h) (gZ hf - gZ h) (fun q => xB X ≤ q)) (cc := (M N).2.1) (nL := (M N).2.2.1) (n0 := gN h) (z0 := gZ h) (fr := (M N).2.2.2.2.2.1) (lo := (M N).2.2.2.2.2.2) (hf := hf) (ini := ini) (own := own) (M := M) (na := na) (ρ := ρ) (res := res) (E := E) (C := C)
    hx hb hml hts hown hK (by show gN hf ≤ gN h + (gN hf - gN h); omega) (by show gZ hf ≤ gZ h + (gZ hf - gZ h); omega) (fun q => by rw [hnm]; exact hini q) (Nat.le_refl _) (Nat.le_refl _) hE hna hok hsq ?_ n C (lv_args 0 av) [] h (fun _ q => q) hsq hrun
  · obtain ⟨r, t, hCr, hw⟩ := key
    have e1 : r = r0 := by rw [hC0] at hCr; exact (List.cons.inj hCr).1.symm
    subst e1
    rw [hpc0] at hw
    have w := hw.2.2 (Nat.le_refl _) (Nat.le_refl _) s.heap [] lsr hRep (fun _ q => by cases q) hl
    exact W.cs (show 0 = gN h - gN h by omega) (show 0 = gZ h - gZ h by omega) w
  · intro r hrC
    obtain ⟨i1, i2, i3, i4⟩ := hret r hrC
    have hokr := hok r hrC
    refine ⟨fun ls x h1 hi hz hq => ?_, fun ls x h1 hi hq => ?_, fun ls x h1 hi hq => ?_, fun ls h1 hi hq => ?_⟩
    · obtain ⟨rfl, rfl⟩ := hρ _ _ hq
      have hd : decode (M N).2.1 r.1 = .ok (.ireturn, 1) := by
        unfold ax_okE at hokr; rw [hi] at hokr; exact hokr
      refine ⟨Nat.le_refl _, Nat.le_refl _, fun a1 a2 H locs lsr' hR' hlo' hl' => ?_⟩
      rcases i1 hi with hrt | ⟨hrt, hz1⟩
      · exact W.iret (v := x) hx hb (by rw [hr, hrt]) (fun t ht hW => ⟨rfl, by rw [ht]; exact hR'⟩) hlo' hd
      · exact W.zret (v := x) (ty := .boolean) hx hb (by rw [hr, hrt]) (by rcases hz hz1 with rfl | rfl <;> rfl) (fun t ht hW => ⟨rfl, by rw [ht]; exact hR'⟩) hlo' hd
    · obtain ⟨rfl, rfl⟩ := hρ _ _ hq
      have hd : decode (M N).2.1 r.1 = .ok (.lreturn, 1) := by
        unfold ax_okE at hokr; rw [hi] at hokr; exact hokr
      refine ⟨Nat.le_refl _, Nat.le_refl _, fun a1 a2 H locs lsr' hR' hlo' hl' => ?_⟩
      exact W.lret (v := x) hx hb (by rw [hr, i2 hi]) (fun t ht hW => ⟨rfl, by rw [ht]; exact hR'⟩) hlo' hd
    · obtain ⟨rfl, rfl⟩ := hρ _ _ hq
      have hd : decode (M N).2.1 r.1 = .ok (.areturn, 1) := by
        unfold ax_okE at hokr; rw [hi] at hokr; exact hokr
      refine ⟨Nat.le_refl _, Nat.le_refl _, fun a1 a2 H locs lsr' hR' hlo' hl' => ?_⟩
      obtain ⟨rt, hrt, hrt2⟩ := i3 hi
      exact W.aret (v := ax_v X (.ref x)) (rt := rt) hx hb (by rw [hr, hrt]) hrt2 (ax_v_ref_or X x) (fun t ht hW => ⟨rfl, by rw [ht]; exact hR'⟩) hlo' hd
    · obtain ⟨rfl, rfl⟩ := hρ _ _ hq
      have hd : decode (M N).2.1 r.1 = .ok (.return_, 1) := by
        unfold ax_okE at hokr; rw [hi] at hokr; exact hokr
      refine ⟨Nat.le_refl _, Nat.le_refl _, fun a1 a2 H locs lsr' hR' hlo' hl' => ?_⟩
      exact W.vret hx hb (by rw [hr, i4 hi]) (fun t ht hW => ⟨rfl, by rw [ht]; exact hR'⟩) hlo' hd
theorem ax_methI (hC : ax_Code M na E C N own ini) (hE : ∀ r ∈ C, ax_kind r = 8 → ax_Es M E r.2.2.2.1) {av : List Value} {h h' : ax_H} {x : Int32} (hav : (lg_sl av).length ≤ (M N).2.2.1) (hrun : ∃ n, ax_ex ax_ρI E na C n C (lv_args 0 av) [] h = some (x, h')) : ax_Imp M N av h (some (.int x)) h' := by
  obtain ⟨n, hrun⟩ := hrun
  refine ax_method hC hE hav (fun v h1 q => ?_) hrun
  unfold ax_ρI at q
  split at q
  · cases q; exact ⟨rfl, rfl⟩
  · cases q
theorem ax_methL (hC : ax_Code M na E C N own ini) (hE : ∀ r ∈ C, ax_kind r = 8 → ax_Es M E r.2.2.2.1) {av : List Value} {h h' : ax_H} {x : Int64} (hav : (lg_sl av).length ≤ (M N).2.2.1) (hrun : ∃ n, ax_ex ax_ρL E na C n C (lv_args 0 av) [] h = some (x, h')) : ax_Imp M N av h (some (.long x)) h' := by
  obtain ⟨n, hrun⟩ := hrun
  refine ax_method hC hE hav (fun v h1 q => ?_) hrun
  unfold ax_ρL at q
  split at q
  · cases q; exact ⟨rfl, rfl⟩
  · cases q
theorem ax_methR (hC : ax_Code M na E C N own ini) (hE : ∀ r ∈ C, ax_kind r = 8 → ax_Es M E r.2.2.2.1) {av : List Value} {h h' : ax_H} {x : Nat} (hav : (lg_sl av).length ≤ (M N).2.2.1) (hrun : ∃ n, ax_ex ax_ρR E na C n C (lv_args 0 av) [] h = some (x, h')) : ax_Imp M N av h (some (.ref x)) h' := by
  obtain ⟨n, hrun⟩ := hrun
  refine ax_method hC hE hav (fun v h1 q => ?_) hrun
  unfold ax_ρR at q
  split at q
  · cases q; exact ⟨rfl, rfl⟩
  · cases q
theorem ax_methV (hC : ax_Code M na E C N own ini) (hE : ∀ r ∈ C, ax_kind r = 8 → ax_Es M E r.2.2.2.1) {av : List Value} {h h' : ax_H} (hav : (lg_sl av).length ≤ (M N).2.2.1) (hrun : ∃ n, ax_ex ax_ρV E na C n C (lv_args 0 av) [] h = some h') : ax_Imp M N av h none h' := by
  obtain ⟨n, hrun⟩ := hrun
  refine ax_method hC hE hav (fun v h1 q => ?_) hrun
  unfold ax_ρV at q
  split at q
  · cases q; exact ⟨rfl, rfl⟩
  · cases q
end AXZ
end
section
/-! BETWEEN MARKS: the run up to the next mark, and the least solution of the equations -/
section AXI
variable {α : Type}
abbrev ax_K0 (α : Type) : Type := List ax_E → ax_L → List Value → ax_H → Option α
def ax_in1 (G : ax_K0 α) (ρ : Value → ax_H → Option α) (E : ax_Env) (na : Nat → Nat) (C : List ax_E) : Nat → List ax_E → ax_L → List Value → ax_H → Option α
  | 0, _, _, _, _ => none
  | _ + 1, [], _, _, _ => none
  | n + 1, e :: t, ls, st, h =>
    match ax_kind e with
    | 0 => (match e.2.1 with
      | .jsr _ => G t (ax_keep ls 32 e.2.2.2.1) st h
      | _ => ax_stp e ls st h (ax_in1 G ρ E na C n t))
    | 1 => ax_in1 G ρ E na C n (ax_to C e.2.2.2.1) ls st h
    | 2 => (match e.2.1, st with
      | .ifCond c _, .int x :: r => if ax_h1 c x then ax_in1 G ρ E na C n (ax_to C e.2.2.2.1) ls r h else ax_in1 G ρ E na C n t ls r h
      | _, _ => none)
    | 3 => (match e.2.1, st with
      | .if_icmp c _, .int y :: .int x :: r => if ax_h2 c x y then ax_in1 G ρ E na C n (ax_to C e.2.2.2.1) ls r h else ax_in1 G ρ E na C n t ls r h
      | _, _ => none)
    | 4 => (match st with
      | .ref x :: r => if x = 0 then ax_in1 G ρ E na C n (ax_to C e.2.2.2.1) ls r h else ax_in1 G ρ E na C n t ls r h
      | _ => none)
    | 5 => (match st with
      | .ref x :: r => if x = 0 then ax_in1 G ρ E na C n t ls r h else ax_in1 G ρ E na C n (ax_to C e.2.2.2.1) ls r h
      | _ => none)
    | 6 => (match e.2.1, st with
      | .tableswitch d lo _ offs, .int x :: r => ax_sw x (fun tg => ax_in1 G ρ E na C n (ax_to C tg) ls r h) lo (offs.toList.map (fun o => ((e.1 : Int) + o).toNat)) ((e.1 : Int) + d).toNat
      | _, _ => none)
    | 9 => (match e.2.1, st with
      | .lookupswitch d ps, .int x :: r => ax_lsw x (fun tg => ax_in1 G ρ E na C n (ax_to C tg) ls r h) (ps.toList.map (fun q => (q.1, ((e.1 : Int) + q.2).toNat))) ((e.1 : Int) + d).toNat
      | _, _ => none)
    | 7 => (match e.2.1, st with
      | .ireturn, [.int x] => if e.2.2.2.1 = 1 then (if x = 0 ∨ x = 1 then ρ (.int x) h else none) else ρ (.int x) h
      | .lreturn, [.long x] => ρ (.long x) h
      | .areturn, [.ref x] => ρ (.ref x) h
      | .return_, [] => ρ (.retAddr 0) h
      | _, _ => none)
    | _ => (match e.2.1 with
      | .invokestatic _ => ax_call E e (na e.2.2.2.1) st h (fun st' h' => ax_in1 G ρ E na C n t ls st' h')
      | _ => (match st.drop (na e.2.2.2.1 - 1) with
        | .ref x :: _ => if ax_rcv h e.2.2.2.2.1 x then ax_call E e (na e.2.2.2.1) st h (fun st' h' => ax_in1 G ρ E na C n t ls st' h') else none
        | _ => none))
def ax_out (ρ : Value → ax_H → Option α) (E : ax_Env) (na : Nat → Nat) (C : List ax_E) : Nat → ax_K0 α
  | 0 => fun _ _ _ _ => none
  | F + 1 => ax_in1 (ax_out ρ E na C F) ρ E na C 4000
variable {ρ : Value → ax_H → Option α} {E : ax_Env} {na : Nat → Nat} {C : List ax_E} {res : α}
theorem ax_al_par {kd : Nat} {st : List Value} {h : ax_H} {k : List Value → Option α} (hs : ax_al kd st h k = some res) : ∃ st', k st' = some res ∧ ∀ k' : List Value → Option α, k' st' = some res → ax_al kd st h k' = some res := by
  unfold ax_al at hs
  split at hs
  · rename_i j x r
    by_cases hin : ax_in h x kd j
    · rw [if_pos hin] at hs
      exact ⟨_, hs, fun k' q => by unfold ax_al; simp only; rw [if_pos hin]; exact q⟩
    · rw [if_neg hin] at hs; cases hs
  · cases hs
set_option maxHeartbeats 8000000 in
theorem ax_stp_par {ls : ax_L} {st : List Value} {h : ax_H} {k : ax_L → List Value → ax_H → Option α} {r : ax_E} (hs : ax_stp r ls st h k = some res) : ∃ ls' st' h1, k ls' st' h1 = some res ∧ ∀ k' : ax_L → List Value → ax_H → Option α, k' ls' st' h1 = some res → ax_stp r ls st h k' = some res := by
  obtain ⟨pc, ins, len, a, b, z⟩ := r
  cases ins <;> simp only [ax_stp, ax_ii, ax_ll, ax_gf, ax_pf, ax_as, ax_ln, ax_na, ax_mn, ax_ac, ax_cl, ax_cc] at hs ⊢ <;>
    first
    | (obtain ⟨st', g1, g2⟩ := ax_al_par hs; exact ⟨_, _, _, g1, fun k' q => g2 (fun r => k' ls r h) q⟩)
    | ((repeat' (split at hs)) <;>
        first
        | (cases hs; done)
        | exact ⟨_, _, _, hs, fun k' hk' => hk'⟩
        | exact ⟨_, _, _, hs, fun k' hk' => by simp_all⟩)
theorem ax_sw_par {x : Int32} {k : Nat → Option α} {d : Nat} : ∀ {L : List Nat} {v : Int}, ax_sw x k v L d = some res → ∃ t, k t = some res ∧ ∀ k' : Nat → Option α, k' t = some res → ax_sw x k' v L d = some res
  | [], v, h => ⟨d, h, fun _ q => q⟩
  | t :: L, v, h => by
    unfold ax_sw at h
    split at h
    · rename_i hx
      exact ⟨t, h, fun k' q => by unfold ax_sw; rw [if_pos hx]; exact q⟩
    · rename_i hx
      obtain ⟨t', g1, g2⟩ := ax_sw_par h
      exact ⟨t', g1, fun k' q => by unfold ax_sw; rw [if_neg hx]; exact g2 k' q⟩
theorem ax_lsw_par {x : Int32} {k : Nat → Option α} {d : Nat} : ∀ {L : List (Int × Nat)}, ax_lsw x k L d = some res → ∃ t, k t = some res ∧ ∀ k' : Nat → Option α, k' t = some res → ax_lsw x k' L d = some res
  | [], h => ⟨d, h, fun _ q => q⟩
  | q :: L, h => by
    unfold ax_lsw at h
    split at h
    · rename_i hx
      exact ⟨_, h, fun k' q => by unfold ax_lsw; rw [if_pos hx]; exact q⟩
    · rename_i hx
      obtain ⟨t', g1, g2⟩ := ax_lsw_par h
      exact ⟨t', g1, fun k' q => by unfold ax_lsw; rw [if_neg hx]; exact g2 k' q⟩
theorem ax_call_par {e : ax_E} {n : Nat} {st : List Value} {h : ax_H} {k : List Value → ax_H → Option α} (hs : ax_call E e n st h k = some res) : ∃ st' h1, k st' h1 = some res ∧ ∀ k' : List Value → ax_H → Option α, k' st' h1 = some res → ax_call E e n st h k' = some res := by
  unfold ax_call at hs
  split at hs
  · rename_i hc
    split at hs
    · rename_i hz
      obtain ⟨r, g1, g2⟩ := Option.bind_eq_some_iff.mp hs
      exact ⟨_, _, g2, fun k' q => by unfold ax_call; rw [if_pos hc, if_pos hz, g1]; exact q⟩
    · rename_i hz
      split at hs
      · rename_i hz1
        obtain ⟨r, g1, g2⟩ := Option.bind_eq_some_iff.mp hs
        exact ⟨_, _, g2, fun k' q => by unfold ax_call; rw [if_pos hc, if_neg hz, if_pos hz1, g1]; exact q⟩
      · rename_i hz1
        split at hs
        · rename_i hz2
          obtain ⟨r, g1, g2⟩ := Option.bind_eq_some_iff.mp hs
          exact ⟨_, _, g2, fun k' q => by unfold ax_call; rw [if_pos hc, if_neg hz, if_neg hz1, if_pos hz2, g1]; exact q⟩
        · rename_i hz2
          obtain ⟨r, g1, g2⟩ := Option.bind_eq_some_iff.mp hs
          exact ⟨_, _, g2, fun k' q => by unfold ax_call; rw [if_pos hc, if_neg hz, if_neg hz1, if_neg hz2, g1]; exact q⟩
  · cases hs
/-- what a run up to the next mark uses of what comes behind it: nothing, or one point -/
def ax_use (f : ax_K0 α → Option α) (G : ax_K0 α) (res : α) : Prop := (∀ G', f G' = some res) ∨ ∃ s l t h1, G s l t h1 = some res ∧ ∀ G' : ax_K0 α, G' s l t h1 = some res → f G' = some res
theorem ax_use.of {f g : ax_K0 α → Option α} {G : ax_K0 α} (h : ax_use f G res) (hg : ∀ G', f G' = some res → g G' = some res) : ax_use g G res :=
  h.imp (fun q G' => hg G' (q G')) (fun ⟨s, l, t, h1, q1, q2⟩ => ⟨s, l, t, h1, q1, fun G' q => hg G' (q2 G' q)⟩)
set_option maxHeartbeats 8000000 in
theorem ax_in1_par (G : ax_K0 α) : ∀ (n : Nat) (sfx : List ax_E) (ls : ax_L) (st : List Value) (h : ax_H), ax_in1 G ρ E na C n sfx ls st h = some res → ax_use (fun G' => ax_in1 G' ρ E na C n sfx ls st h) G res := by
  intro n
  induction n with
  | zero => intro sfx ls st h hs; simp [ax_in1] at hs
  | succ n ih =>
    intro sfx ls st h hs
    cases sfx with
    | nil => simp [ax_in1] at hs
    | cons r t =>
      unfold ax_in1 at hs
      split at hs
      · rename_i hk
        split at hs
        · rename_i q hj
          exact Or.inr ⟨_, _, _, _, hs, fun G' q' => by unfold ax_in1; rw [hk]; simp only [hj]; exact q'⟩
        · rename_i hj
          obtain ⟨ls', st', h1, g1, g2⟩ := ax_stp_par hs
          refine (ih _ _ _ _ g1).of (fun G' q => ?_)
          unfold ax_in1
          rw [hk]
          simp only
          exact g2 _ q
      · rename_i hk
        exact (ih _ _ _ _ hs).of (fun G' q => by unfold ax_in1; rw [hk]; exact q)
      · rename_i hk
        split at hs
        · rename_i c off x r' hi
          split at hs
          · rename_i hc
            exact (ih _ _ _ _ hs).of (fun G' q => by unfold ax_in1; rw [hk]; simp only [hi, hc, if_true]; exact q)
          · rename_i hc
            exact (ih _ _ _ _ hs).of (fun G' q => by unfold ax_in1; rw [hk]; simp only [hi]; rw [if_neg hc]; exact q)
        · cases hs
      · rename_i hk
        split at hs
        · rename_i c off x y r' hi
          split at hs
          · rename_i hc
            exact (ih _ _ _ _ hs).of (fun G' q => by unfold ax_in1; rw [hk]; simp only [hi, hc, if_true]; exact q)
          · rename_i hc
            exact (ih _ _ _ _ hs).of (fun G' q => by unfold ax_in1; rw [hk]; simp only [hi]; rw [if_neg hc]; exact q)
        · cases hs
      · rename_i hk
        split at hs
        · split at hs
          · rename_i hc
            exact (ih _ _ _ _ hs).of (fun G' q => by unfold ax_in1; rw [hk]; simp only; rw [if_pos hc]; exact q)
          · rename_i hc
            exact (ih _ _ _ _ hs).of (fun G' q => by unfold ax_in1; rw [hk]; simp only; rw [if_neg hc]; exact q)
        · cases hs
      · rename_i hk
        split at hs
        · split at hs
          · rename_i hc
            exact (ih _ _ _ _ hs).of (fun G' q => by unfold ax_in1; rw [hk]; simp only; rw [if_pos hc]; exact q)
          · rename_i hc
            exact (ih _ _ _ _ hs).of (fun G' q => by unfold ax_in1; rw [hk]; simp only; rw [if_neg hc]; exact q)
        · cases hs
      · rename_i hk
        split at hs
        · rename_i d lo hi' offs x r' hi
          obtain ⟨tg, g1, g2⟩ := ax_sw_par hs
          exact (ih _ _ _ _ g1).of (fun G' q => by unfold ax_in1; rw [hk]; simp only [hi]; exact g2 _ q)
        · cases hs
      · rename_i hk
        split at hs
        · rename_i d ps x r' hi
          obtain ⟨tg, g1, g2⟩ := ax_lsw_par hs
          exact (ih _ _ _ _ g1).of (fun G' q => by unfold ax_in1; rw [hk]; simp only [hi]; exact g2 _ q)
        · cases hs
      · rename_i hk
        refine Or.inl (fun G' => ?_)
        unfold ax_in1
        rw [hk]
        exact hs
      · rename_i k0 k1 k2 k3 k4 k5 k6 k7 k8
        have key : ∀ G' : ax_K0 α, ax_in1 G' ρ E na C (n + 1) (r :: t) ls st h = (match r.2.1 with
          | .invokestatic _ => ax_call E r (na r.2.2.2.1) st h (fun st' h' => ax_in1 G' ρ E na C n t ls st' h')
          | _ => (match st.drop (na r.2.2.2.1 - 1) with
            | .ref x :: _ => if ax_rcv h r.2.2.2.2.1 x then ax_call E r (na r.2.2.2.1) st h (fun st' h' => ax_in1 G' ρ E na C n t ls st' h') else none
            | _ => none)) := by
          intro G'
          conv => lhs; unfold ax_in1
          split
          · exact absurd ‹_› k0
          · exact absurd ‹_› k1
          · exact absurd ‹_› k2
          · exact absurd ‹_› k3
          · exact absurd ‹_› k4
          · exact absurd ‹_› k5
          · exact absurd ‹_› k6
          · exact absurd ‹_› k7
          · exact absurd ‹_› k8
          · rfl
        split at hs
        · rename_i q hi
          obtain ⟨st', h1, g1, g2⟩ := ax_call_par hs
          exact (ih _ _ _ _ g1).of (fun G' q => by rw [key]; simp only [hi]; exact g2 _ q)
        · rename_i hi
          split at hs
          · rename_i x rr hdr
            split at hs
            · rename_i hx
              obtain ⟨st', h1, g1, g2⟩ := ax_call_par hs
              refine (ih _ _ _ _ g1).of (fun G' q => ?_)
              rw [key]
              split
              · rename_i hj2
                exact absurd hj2 (hi _)
              · rw [hdr]
                simp only
                rw [if_pos hx]
                exact g2 _ q
            · cases hs
          · cases hs
end AXI
end
section
/-! the least solution; and that it is a run -/
section AXP
variable {α : Type} {ρ : Value → ax_H → Option α} {E : ax_Env} {na : Nat → Nat} {C : List ax_E} {res : α}
theorem ax_in1_mono {G G' : ax_K0 α} {n : Nat} {sfx : List ax_E} {ls : ax_L} {st : List Value} {h : ax_H} (hG : ∀ s l t h1 r, G s l t h1 = some r → G' s l t h1 = some r) (hs : ax_in1 G ρ E na C n sfx ls st h = some res) : ax_in1 G' ρ E na C n sfx ls st h = some res := by
  rcases ax_in1_par G n sfx ls st h hs with q | ⟨s, l, t, h1, q1, q2⟩
  · exact q G'
  · exact q2 G' (hG _ _ _ _ _ q1)
theorem ax_out_succ : ∀ (F : Nat) (s : List ax_E) (l : ax_L) (t : List Value) (h1 : ax_H) (r : α), ax_out ρ E na C F s l t h1 = some r → ax_out ρ E na C (F + 1) s l t h1 = some r
  | 0, s, l, t, h1, r, h => by simp [ax_out] at h
  | F + 1, s, l, t, h1, r, h => by
    rw [ax_out] at h ⊢
    exact ax_in1_mono (ax_out_succ F) h
theorem ax_out_add (F : Nat) {s : List ax_E} {l : ax_L} {t : List Value} {h1 : ax_H} {r : α} (h : ax_out ρ E na C F s l t h1 = some r) : ∀ k, ax_out ρ E na C (F + k) s l t h1 = some r
  | 0 => h
  | k + 1 => ax_out_succ (F + k) s l t h1 r (ax_out_add F h k)
theorem ax_out_one {F F' : Nat} {s : List ax_E} {l : ax_L} {t : List Value} {h1 : ax_H} {r r' : α} (h : ax_out ρ E na C F s l t h1 = some r) (h' : ax_out ρ E na C F' s l t h1 = some r') : r = r' := by
  have a := ax_out_add F h F'
  have b := ax_out_add F' h' F
  rw [Nat.add_comm] at b
  exact Option.some.inj (a.symm.trans b)
noncomputable def ax_S (ρ : Value → ax_H → Option α) (E : ax_Env) (na : Nat → Nat) (C : List ax_E) : ax_K0 α := fun s l t h1 =>
  @dite _ (∃ r F, ax_out ρ E na C F s l t h1 = some r) (Classical.propDecidable _) (fun hx => some (Classical.choose hx)) (fun _ => none)
theorem ax_S_some {s : List ax_E} {l : ax_L} {t : List Value} {h1 : ax_H} {r : α} : ax_S ρ E na C s l t h1 = some r ↔ ∃ F, ax_out ρ E na C F s l t h1 = some r := by
  unfold ax_S
  by_cases hx : ∃ r F, ax_out ρ E na C F s l t h1 = some r
  · rw [dif_pos hx]
    obtain ⟨F, hF⟩ := Classical.choose_spec hx
    constructor
    · intro e
      exact ⟨F, by rw [hF]; exact e⟩
    · rintro ⟨F', hF'⟩
      rw [ax_out_one hF hF']
  · rw [dif_neg hx]
    constructor
    · intro e; cases e
    · rintro ⟨F, hF⟩
      exact absurd ⟨r, F, hF⟩ hx
/-- the equation -/
theorem ax_S_eq (s : List ax_E) (l : ax_L) (t : List Value) (h1 : ax_H) : ax_S ρ E na C s l t h1 = ax_in1 (ax_S ρ E na C) ρ E na C 4000 s l t h1 := by
  have one : ∀ r, ax_S ρ E na C s l t h1 = some r → ax_in1 (ax_S ρ E na C) ρ E na C 4000 s l t h1 = some r := by
    intro r h
    obtain ⟨F, hF⟩ := ax_S_some.mp h
    cases F with
    | zero => simp [ax_out] at hF
    | succ F =>
      rw [ax_out] at hF
      exact ax_in1_mono (fun s l t h1 r q => ax_S_some.mpr ⟨F, q⟩) hF
  have two : ∀ r, ax_in1 (ax_S ρ E na C) ρ E na C 4000 s l t h1 = some r → ax_S ρ E na C s l t h1 = some r := by
    intro r h
    rcases ax_in1_par _ 4000 s l t h1 h with q | ⟨s', l', t', h', q1, q2⟩
    · exact ax_S_some.mpr ⟨1, by rw [ax_out]; exact q _⟩
    · obtain ⟨F, hF⟩ := ax_S_some.mp q1
      exact ax_S_some.mpr ⟨F + 1, by rw [ax_out]; exact q2 _ hF⟩
  cases ha : ax_S ρ E na C s l t h1 with
  | some r => exact (one r ha).symm
  | none =>
    cases hb : ax_in1 (ax_S ρ E na C) ρ E na C 4000 s l t h1 with
    | none => rfl
    | some r => rw [two r hb] at ha; cases ha
/-- a run up to marks is a run -/
theorem ax_in1_ex {G : ax_K0 α} (hG : ∀ s l t h1, G s l t h1 = some res → ∃ m, ax_ex ρ E na C m s l t h1 = some res) : ∀ (n : Nat) (sfx : List ax_E) (ls : ax_L) (st : List Value) (h : ax_H), ax_in1 G ρ E na C n sfx ls st h = some res → ∃ m, ax_ex ρ E na C m sfx ls st h = some res := by
  intro n
  induction n with
  | zero => intro sfx ls st h hs; simp [ax_in1] at hs
  | succ n ih =>
    intro sfx ls st h hs
    cases sfx with
    | nil => simp [ax_in1] at hs
    | cons r t =>
      unfold ax_in1 at hs
      split at hs
      · rename_i hk
        split at hs
        · rename_i q hj
          obtain ⟨m, hm⟩ := hG _ _ _ _ hs
          refine ⟨m + 1, ?_⟩
          unfold ax_ex
          rw [hk]
          simp only [ax_stp, hj]
          exact hm
        · rename_i hj
          obtain ⟨ls', st', h1, g1, g2⟩ := ax_stp_par hs
          obtain ⟨m, hm⟩ := ih _ _ _ _ g1
          refine ⟨m + 1, ?_⟩
          unfold ax_ex
          rw [hk]
          exact g2 _ hm
      · rename_i hk
        obtain ⟨m, hm⟩ := ih _ _ _ _ hs
        exact ⟨m + 1, by unfold ax_ex; rw [hk]; exact hm⟩
      · rename_i hk
        split at hs
        · rename_i c off x r' hi
          split at hs
          · rename_i hc
            obtain ⟨m, hm⟩ := ih _ _ _ _ hs
            exact ⟨m + 1, by unfold ax_ex; rw [hk]; simp only [hi, hc, if_true]; exact hm⟩
          · rename_i hc
            obtain ⟨m, hm⟩ := ih _ _ _ _ hs
            exact ⟨m + 1, by unfold ax_ex; rw [hk]; simp only [hi]; rw [if_neg hc]; exact hm⟩
        · cases hs
      · rename_i hk
        split at hs
        · rename_i c off x y r' hi
          split at hs
          · rename_i hc
            obtain ⟨m, hm⟩ := ih _ _ _ _ hs
            exact ⟨m + 1, by unfold ax_ex; rw [hk]; simp only [hi, hc, if_true]; exact hm⟩
          · rename_i hc
            obtain ⟨m, hm⟩ := ih _ _ _ _ hs
            exact ⟨m + 1, by unfold ax_ex; rw [hk]; simp only [hi]; rw [if_neg hc]; exact hm⟩
        · cases hs
      · rename_i hk
        split at hs
        · split at hs
          · rename_i hc
            obtain ⟨m, hm⟩ := ih _ _ _ _ hs
            exact ⟨m + 1, by unfold ax_ex; rw [hk]; simp only; rw [if_pos hc]; exact hm⟩
          · rename_i hc
            obtain ⟨m, hm⟩ := ih _ _ _ _ hs
            exact ⟨m + 1, by unfold ax_ex; rw [hk]; simp only; rw [if_neg hc]; exact hm⟩
        · cases hs
      · rename_i hk
        split at hs
        · split at hs
          · rename_i hc
            obtain ⟨m, hm⟩ := ih _ _ _ _ hs
            exact ⟨m + 1, by unfold ax_ex; rw [hk]; simp only; rw [if_pos hc]; exact hm⟩
          · rename_i hc
            obtain ⟨m, hm⟩ := ih _ _ _ _ hs
            exact ⟨m + 1, by unfold ax_ex; rw [hk]; simp only; rw [if_neg hc]; exact hm⟩
        · cases hs
      · rename_i hk
        split at hs
        · rename_i d lo hi' offs x r' hi
          obtain ⟨tg, g1, g2⟩ := ax_sw_par hs
          obtain ⟨m, hm⟩ := ih _ _ _ _ g1
          exact ⟨m + 1, by unfold ax_ex; rw [hk]; simp only [hi]; exact g2 _ hm⟩
        · cases hs
      · rename_i hk
        split at hs
        · rename_i d ps x r' hi
          obtain ⟨tg, g1, g2⟩ := ax_lsw_par hs
          obtain ⟨m, hm⟩ := ih _ _ _ _ g1
          exact ⟨m + 1, by unfold ax_ex; rw [hk]; simp only [hi]; exact g2 _ hm⟩
        · cases hs
      · rename_i hk
        refine ⟨1, ?_⟩
        unfold ax_ex
        rw [hk]
        exact hs
      · rename_i k0 k1 k2 k3 k4 k5 k6 k7 k8
        have key : ∀ m, ax_ex ρ E na C (m + 1) (r :: t) ls st h = (match r.2.1 with
          | .invokestatic _ => ax_call E r (na r.2.2.2.1) st h (fun st' h' => ax_ex ρ E na C m t ls st' h')
          | _ => (match st.drop (na r.2.2.2.1 - 1) with
            | .ref x :: _ => if ax_rcv h r.2.2.2.2.1 x then ax_call E r (na r.2.2.2.1) st h (fun st' h' => ax_ex ρ E na C m t ls st' h') else none
            | _ => none)) := by
          intro m
          conv => lhs; unfold ax_ex
          split
          · exact absurd ‹_› k0
          · exact absurd ‹_› k1
          · exact absurd ‹_› k2
          · exact absurd ‹_› k3
          · exact absurd ‹_› k4
          · exact absurd ‹_› k5
          · exact absurd ‹_› k6
          · exact absurd ‹_› k7
          · exact absurd ‹_› k8
          · rfl
        split at hs
        · rename_i q hi
          obtain ⟨st', h1, g1, g2⟩ := ax_call_par hs
          obtain ⟨m, hm⟩ := ih _ _ _ _ g1
          exact ⟨m + 1, by rw [key]; simp only [hi]; exact g2 _ hm⟩
        · rename_i hi
          split at hs
          · rename_i x rr hdr
            split at hs
            · rename_i hx
              obtain ⟨st', h1, g1, g2⟩ := ax_call_par hs
              obtain ⟨m, hm⟩ := ih _ _ _ _ g1
              refine ⟨m + 1, ?_⟩
              rw [key]
              split
              · rename_i hj2
                exact absurd hj2 (hi _)
              · rw [hdr]
                simp only
                rw [if_pos hx]
                exact g2 _ hm
            · cases hs
          · cases hs
theorem ax_out_ex : ∀ (F : Nat) (s : List ax_E) (l : ax_L) (t : List Value) (h1 : ax_H), ax_out ρ E na C F s l t h1 = some res → ∃ m, ax_ex ρ E na C m s l t h1 = some res
  | 0, s, l, t, h1, h => by simp [ax_out] at h
  | F + 1, s, l, t, h1, h => by
    rw [ax_out] at h
    exact ax_in1_ex (ax_out_ex F) 4000 s l t h1 h
theorem ax_S_ex {s : List ax_E} {l : ax_L} {t : List Value} {h1 : ax_H} (h : ax_S ρ E na C s l t h1 = some res) : ∃ m, ax_ex ρ E na C m s l t h1 = some res := by
  obtain ⟨F, hF⟩ := ax_S_some.mp h
  exact ax_out_ex F s l t h1 hF
end AXP
end
