section
-- ===== PART A: goes FIRST, ahead of the names: the tables' words, and 'selects' of the private methods out of them =====
/-- a private method of a class that the tables say can be made, by its rows of tables_1 -/
def lw_okq (q : MethodName × Nat) : Prop := (q.1.cls ≠ "java/lang/invoke/MethodHandle" ∧ q.1.cls ≠ "java/lang/invoke/VarHandle") ∧ Cond.instantiable q.1.cls q.2 ∈ tables_1 ∧ Cond.privateMethod q.1 ∈ tables_1 ∧ Cond.instanceMethod q.1 ∈ tables_1
theorem lw_p0 : lw_okq (⟨"BlackSun$Reader", "forget", "()V"⟩, 15) := ⟨⟨by decide +kernel, by decide +kernel⟩, List.mem_of_getElem? (i := 227) (by decide +kernel), List.mem_of_getElem? (i := 481) (by decide +kernel), List.mem_of_getElem? (i := 482) (by decide +kernel)⟩
theorem lw_p1 : lw_okq (⟨"BlackSun$Reader", "readClause", "(I)Z"⟩, 15) := ⟨⟨by decide +kernel, by decide +kernel⟩, List.mem_of_getElem? (i := 227) (by decide +kernel), List.mem_of_getElem? (i := 485) (by decide +kernel), List.mem_of_getElem? (i := 486) (by decide +kernel)⟩
theorem lw_p2 : lw_okq (⟨"BlackSun$Reader", "next", "()I"⟩, 15) := ⟨⟨by decide +kernel, by decide +kernel⟩, List.mem_of_getElem? (i := 227) (by decide +kernel), List.mem_of_getElem? (i := 489) (by decide +kernel), List.mem_of_getElem? (i := 490) (by decide +kernel)⟩
theorem lw_p3 : lw_okq (⟨"BlackSun$Reader", "takeWord", "(Ljava/lang/String;)I"⟩, 15) := ⟨⟨by decide +kernel, by decide +kernel⟩, List.mem_of_getElem? (i := 227) (by decide +kernel), List.mem_of_getElem? (i := 494) (by decide +kernel), List.mem_of_getElem? (i := 495) (by decide +kernel)⟩
theorem lw_p4 : lw_okq (⟨"BlackSun$Reader", "fail", "(II)Z"⟩, 15) := ⟨⟨by decide +kernel, by decide +kernel⟩, List.mem_of_getElem? (i := 227) (by decide +kernel), List.mem_of_getElem? (i := 546) (by decide +kernel), List.mem_of_getElem? (i := 547) (by decide +kernel)⟩
theorem lw_p5 : lw_okq (⟨"BlackSun$Reader", "readTerm", "(I)Z"⟩, 15) := ⟨⟨by decide +kernel, by decide +kernel⟩, List.mem_of_getElem? (i := 227) (by decide +kernel), List.mem_of_getElem? (i := 550) (by decide +kernel), List.mem_of_getElem? (i := 551) (by decide +kernel)⟩
theorem lw_p6 : lw_okq (⟨"BlackSun$Reader", "readHeld", "(I)Z"⟩, 15) := ⟨⟨by decide +kernel, by decide +kernel⟩, List.mem_of_getElem? (i := 227) (by decide +kernel), List.mem_of_getElem? (i := 555) (by decide +kernel), List.mem_of_getElem? (i := 556) (by decide +kernel)⟩
theorem lw_p7 : lw_okq (⟨"BlackSun$Reader", "readNumber", "(I)I"⟩, 15) := ⟨⟨by decide +kernel, by decide +kernel⟩, List.mem_of_getElem? (i := 227) (by decide +kernel), List.mem_of_getElem? (i := 560) (by decide +kernel), List.mem_of_getElem? (i := 561) (by decide +kernel)⟩
theorem lw_p8 : lw_okq (⟨"BlackSun$Reader", "readLeave", "()Z"⟩, 15) := ⟨⟨by decide +kernel, by decide +kernel⟩, List.mem_of_getElem? (i := 227) (by decide +kernel), List.mem_of_getElem? (i := 567) (by decide +kernel), List.mem_of_getElem? (i := 568) (by decide +kernel)⟩
theorem lw_p9 : lw_okq (⟨"BlackSun$Reader", "readOperand", "()Z"⟩, 15) := ⟨⟨by decide +kernel, by decide +kernel⟩, List.mem_of_getElem? (i := 227) (by decide +kernel), List.mem_of_getElem? (i := 572) (by decide +kernel), List.mem_of_getElem? (i := 573) (by decide +kernel)⟩
theorem lw_p10 : lw_okq (⟨"BlackSun$Reader", "openDeeper", "(II)Z"⟩, 15) := ⟨⟨by decide +kernel, by decide +kernel⟩, List.mem_of_getElem? (i := 227) (by decide +kernel), List.mem_of_getElem? (i := 576) (by decide +kernel), List.mem_of_getElem? (i := 577) (by decide +kernel)⟩
theorem lw_p11 : lw_okq (⟨"BlackSun$Reader", "await", "(I)V"⟩, 15) := ⟨⟨by decide +kernel, by decide +kernel⟩, List.mem_of_getElem? (i := 227) (by decide +kernel), List.mem_of_getElem? (i := 580) (by decide +kernel), List.mem_of_getElem? (i := 581) (by decide +kernel)⟩
theorem lw_p12 : lw_okq (⟨"BlackSun$Reader", "readValue", "()Z"⟩, 15) := ⟨⟨by decide +kernel, by decide +kernel⟩, List.mem_of_getElem? (i := 227) (by decide +kernel), List.mem_of_getElem? (i := 585) (by decide +kernel), List.mem_of_getElem? (i := 586) (by decide +kernel)⟩
theorem lw_p13 : lw_okq (⟨"BlackSun$Reader", "step", "(II)V"⟩, 15) := ⟨⟨by decide +kernel, by decide +kernel⟩, List.mem_of_getElem? (i := 227) (by decide +kernel), List.mem_of_getElem? (i := 590) (by decide +kernel), List.mem_of_getElem? (i := 591) (by decide +kernel)⟩
theorem lw_p14 : lw_okq (⟨"BlackSun$Reader", "countOneMore", "(I)Z"⟩, 15) := ⟨⟨by decide +kernel, by decide +kernel⟩, List.mem_of_getElem? (i := 227) (by decide +kernel), List.mem_of_getElem? (i := 594) (by decide +kernel), List.mem_of_getElem? (i := 595) (by decide +kernel)⟩
theorem lw_p15 : lw_okq (⟨"BlackSun$Reader", "readOperator", "()Z"⟩, 15) := ⟨⟨by decide +kernel, by decide +kernel⟩, List.mem_of_getElem? (i := 227) (by decide +kernel), List.mem_of_getElem? (i := 598) (by decide +kernel), List.mem_of_getElem? (i := 599) (by decide +kernel)⟩
def lw_privs_1 : List (MethodName × Nat) := [(⟨"BlackSun$Reader", "forget", "()V"⟩, 15), (⟨"BlackSun$Reader", "readClause", "(I)Z"⟩, 15), (⟨"BlackSun$Reader", "next", "()I"⟩, 15), (⟨"BlackSun$Reader", "takeWord", "(Ljava/lang/String;)I"⟩, 15), (⟨"BlackSun$Reader", "fail", "(II)Z"⟩, 15), (⟨"BlackSun$Reader", "readTerm", "(I)Z"⟩, 15), (⟨"BlackSun$Reader", "readHeld", "(I)Z"⟩, 15), (⟨"BlackSun$Reader", "readNumber", "(I)I"⟩, 15), (⟨"BlackSun$Reader", "readLeave", "()Z"⟩, 15), (⟨"BlackSun$Reader", "readOperand", "()Z"⟩, 15), (⟨"BlackSun$Reader", "openDeeper", "(II)Z"⟩, 15), (⟨"BlackSun$Reader", "await", "(I)V"⟩, 15), (⟨"BlackSun$Reader", "readValue", "()Z"⟩, 15), (⟨"BlackSun$Reader", "step", "(II)V"⟩, 15), (⟨"BlackSun$Reader", "countOneMore", "(I)Z"⟩, 15), (⟨"BlackSun$Reader", "readOperator", "()Z"⟩, 15)]
theorem lw_r1 : ∀ q ∈ lw_privs_1, lw_okq q := List.forall_mem_cons.mpr ⟨lw_p0, List.forall_mem_cons.mpr ⟨lw_p1, List.forall_mem_cons.mpr ⟨lw_p2, List.forall_mem_cons.mpr ⟨lw_p3, List.forall_mem_cons.mpr ⟨lw_p4, List.forall_mem_cons.mpr ⟨lw_p5, List.forall_mem_cons.mpr ⟨lw_p6, List.forall_mem_cons.mpr ⟨lw_p7, List.forall_mem_cons.mpr ⟨lw_p8, List.forall_mem_cons.mpr ⟨lw_p9, List.forall_mem_cons.mpr ⟨lw_p10, List.forall_mem_cons.mpr ⟨lw_p11, List.forall_mem_cons.mpr ⟨lw_p12, List.forall_mem_cons.mpr ⟨lw_p13, List.forall_mem_cons.mpr ⟨lw_p14, List.forall_mem_cons.mpr ⟨lw_p15, fun _ h => absurd h List.not_mem_nil⟩⟩⟩⟩⟩⟩⟩⟩⟩⟩⟩⟩⟩⟩⟩⟩
theorem lw_p16 : lw_okq (⟨"BlackSun$Reader", "bind", "(I)V"⟩, 15) := ⟨⟨by decide +kernel, by decide +kernel⟩, List.mem_of_getElem? (i := 227) (by decide +kernel), List.mem_of_getElem? (i := 602) (by decide +kernel), List.mem_of_getElem? (i := 603) (by decide +kernel)⟩
theorem lw_p17 : lw_okq (⟨"BlackSun$Reader", "readSign", "(I)Z"⟩, 15) := ⟨⟨by decide +kernel, by decide +kernel⟩, List.mem_of_getElem? (i := 227) (by decide +kernel), List.mem_of_getElem? (i := 606) (by decide +kernel), List.mem_of_getElem? (i := 607) (by decide +kernel)⟩
theorem lw_p18 : lw_okq (⟨"BlackSun$Reader", "readClosing", "(I)Z"⟩, 15) := ⟨⟨by decide +kernel, by decide +kernel⟩, List.mem_of_getElem? (i := 227) (by decide +kernel), List.mem_of_getElem? (i := 612) (by decide +kernel), List.mem_of_getElem? (i := 613) (by decide +kernel)⟩
theorem lw_p19 : lw_okq (⟨"BlackSun$Reader", "readHand", "(I)Z"⟩, 15) := ⟨⟨by decide +kernel, by decide +kernel⟩, List.mem_of_getElem? (i := 227) (by decide +kernel), List.mem_of_getElem? (i := 616) (by decide +kernel), List.mem_of_getElem? (i := 617) (by decide +kernel)⟩
theorem lw_p20 : lw_okq (⟨"BlackSun$Reader", "copyOfSteps", "()[I"⟩, 15) := ⟨⟨by decide +kernel, by decide +kernel⟩, List.mem_of_getElem? (i := 227) (by decide +kernel), List.mem_of_getElem? (i := 629) (by decide +kernel), List.mem_of_getElem? (i := 630) (by decide +kernel)⟩
theorem lw_p21 : lw_okq (⟨"BlackSun", "answerOf", "(LBlackSun$Way;II)I"⟩, 5) := ⟨⟨by decide +kernel, by decide +kernel⟩, List.mem_of_getElem? (i := 21) (by decide +kernel), List.mem_of_getElem? (i := 700) (by decide +kernel), List.mem_of_getElem? (i := 701) (by decide +kernel)⟩
theorem lw_p22 : lw_okq (⟨"BlackSun$Fit", "settle", "(LBlackSun$Book;LBlackSun$Way;II)Z"⟩, 15) := ⟨⟨by decide +kernel, by decide +kernel⟩, List.mem_of_getElem? (i := 281) (by decide +kernel), List.mem_of_getElem? (i := 709) (by decide +kernel), List.mem_of_getElem? (i := 710) (by decide +kernel)⟩
theorem lw_p23 : lw_okq (⟨"BlackSun$Fit", "settleCheck", "(LBlackSun$Book;LBlackSun$Way;II)Z"⟩, 15) := ⟨⟨by decide +kernel, by decide +kernel⟩, List.mem_of_getElem? (i := 281) (by decide +kernel), List.mem_of_getElem? (i := 713) (by decide +kernel), List.mem_of_getElem? (i := 714) (by decide +kernel)⟩
theorem lw_p24 : lw_okq (⟨"BlackSun$Fit", "put", "(IJJ)Z"⟩, 15) := ⟨⟨by decide +kernel, by decide +kernel⟩, List.mem_of_getElem? (i := 281) (by decide +kernel), List.mem_of_getElem? (i := 723) (by decide +kernel), List.mem_of_getElem? (i := 724) (by decide +kernel)⟩
theorem lw_p25 : lw_okq (⟨"BlackSun$Fit", "makeRows", "(LBlackSun$Book;)V"⟩, 15) := ⟨⟨by decide +kernel, by decide +kernel⟩, List.mem_of_getElem? (i := 281) (by decide +kernel), List.mem_of_getElem? (i := 733) (by decide +kernel), List.mem_of_getElem? (i := 734) (by decide +kernel)⟩
theorem lw_p26 : lw_okq (⟨"BlackSun$Fit", "settledOf", "(LBlackSun$Book;II)I"⟩, 15) := ⟨⟨by decide +kernel, by decide +kernel⟩, List.mem_of_getElem? (i := 281) (by decide +kernel), List.mem_of_getElem? (i := 737) (by decide +kernel), List.mem_of_getElem? (i := 738) (by decide +kernel)⟩
theorem lw_p27 : lw_okq (⟨"BlackSun$Fit", "addUp", "(LBlackSun$Images;)V"⟩, 15) := ⟨⟨by decide +kernel, by decide +kernel⟩, List.mem_of_getElem? (i := 281) (by decide +kernel), List.mem_of_getElem? (i := 742) (by decide +kernel), List.mem_of_getElem? (i := 743) (by decide +kernel)⟩
theorem lw_p28 : lw_okq (⟨"BlackSun$Fit", "clearSum", "()V"⟩, 15) := ⟨⟨by decide +kernel, by decide +kernel⟩, List.mem_of_getElem? (i := 281) (by decide +kernel), List.mem_of_getElem? (i := 746) (by decide +kernel), List.mem_of_getElem? (i := 747) (by decide +kernel)⟩
theorem lw_p29 : lw_okq (⟨"BlackSun$Fit", "addRow", "(I)V"⟩, 15) := ⟨⟨by decide +kernel, by decide +kernel⟩, List.mem_of_getElem? (i := 281) (by decide +kernel), List.mem_of_getElem? (i := 750) (by decide +kernel), List.mem_of_getElem? (i := 751) (by decide +kernel)⟩
theorem lw_p30 : lw_okq (⟨"BlackSun$Fit", "solve", "()Z"⟩, 15) := ⟨⟨by decide +kernel, by decide +kernel⟩, List.mem_of_getElem? (i := 281) (by decide +kernel), List.mem_of_getElem? (i := 762) (by decide +kernel), List.mem_of_getElem? (i := 763) (by decide +kernel)⟩
theorem lw_p31 : lw_okq (⟨"BlackSun$Fit", "leaveOut", "([J)V"⟩, 15) := ⟨⟨by decide +kernel, by decide +kernel⟩, List.mem_of_getElem? (i := 281) (by decide +kernel), List.mem_of_getElem? (i := 784) (by decide +kernel), List.mem_of_getElem? (i := 785) (by decide +kernel)⟩
def lw_privs_2 : List (MethodName × Nat) := [(⟨"BlackSun$Reader", "bind", "(I)V"⟩, 15), (⟨"BlackSun$Reader", "readSign", "(I)Z"⟩, 15), (⟨"BlackSun$Reader", "readClosing", "(I)Z"⟩, 15), (⟨"BlackSun$Reader", "readHand", "(I)Z"⟩, 15), (⟨"BlackSun$Reader", "copyOfSteps", "()[I"⟩, 15), (⟨"BlackSun", "answerOf", "(LBlackSun$Way;II)I"⟩, 5), (⟨"BlackSun$Fit", "settle", "(LBlackSun$Book;LBlackSun$Way;II)Z"⟩, 15), (⟨"BlackSun$Fit", "settleCheck", "(LBlackSun$Book;LBlackSun$Way;II)Z"⟩, 15), (⟨"BlackSun$Fit", "put", "(IJJ)Z"⟩, 15), (⟨"BlackSun$Fit", "makeRows", "(LBlackSun$Book;)V"⟩, 15), (⟨"BlackSun$Fit", "settledOf", "(LBlackSun$Book;II)I"⟩, 15), (⟨"BlackSun$Fit", "addUp", "(LBlackSun$Images;)V"⟩, 15), (⟨"BlackSun$Fit", "clearSum", "()V"⟩, 15), (⟨"BlackSun$Fit", "addRow", "(I)V"⟩, 15), (⟨"BlackSun$Fit", "solve", "()Z"⟩, 15), (⟨"BlackSun$Fit", "leaveOut", "([J)V"⟩, 15)]
theorem lw_r2 : ∀ q ∈ lw_privs_2, lw_okq q := List.forall_mem_cons.mpr ⟨lw_p16, List.forall_mem_cons.mpr ⟨lw_p17, List.forall_mem_cons.mpr ⟨lw_p18, List.forall_mem_cons.mpr ⟨lw_p19, List.forall_mem_cons.mpr ⟨lw_p20, List.forall_mem_cons.mpr ⟨lw_p21, List.forall_mem_cons.mpr ⟨lw_p22, List.forall_mem_cons.mpr ⟨lw_p23, List.forall_mem_cons.mpr ⟨lw_p24, List.forall_mem_cons.mpr ⟨lw_p25, List.forall_mem_cons.mpr ⟨lw_p26, List.forall_mem_cons.mpr ⟨lw_p27, List.forall_mem_cons.mpr ⟨lw_p28, List.forall_mem_cons.mpr ⟨lw_p29, List.forall_mem_cons.mpr ⟨lw_p30, List.forall_mem_cons.mpr ⟨lw_p31, fun _ h => absurd h List.not_mem_nil⟩⟩⟩⟩⟩⟩⟩⟩⟩⟩⟩⟩⟩⟩⟩⟩
theorem lw_p32 : lw_okq (⟨"BlackSun$Fit", "findRulable", "(LBlackSun$Plates;)I"⟩, 15) := ⟨⟨by decide +kernel, by decide +kernel⟩, List.mem_of_getElem? (i := 281) (by decide +kernel), List.mem_of_getElem? (i := 798) (by decide +kernel), List.mem_of_getElem? (i := 799) (by decide +kernel)⟩
theorem lw_p33 : lw_okq (⟨"BlackSun$Fit", "leaveOutChoice", "(II)I"⟩, 15) := ⟨⟨by decide +kernel, by decide +kernel⟩, List.mem_of_getElem? (i := 281) (by decide +kernel), List.mem_of_getElem? (i := 802) (by decide +kernel), List.mem_of_getElem? (i := 803) (by decide +kernel)⟩
theorem lw_p34 : lw_okq (⟨"BlackSun$Mix", "add", "(LBlackSun$Stars;II)V"⟩, 3) := ⟨⟨by decide +kernel, by decide +kernel⟩, List.mem_of_getElem? (i := 340) (by decide +kernel), List.mem_of_getElem? (i := 844) (by decide +kernel), List.mem_of_getElem? (i := 845) (by decide +kernel)⟩
theorem lw_p35 : lw_okq (⟨"BlackSun$Lean", "addPlace", "(LBlackSun$Book;III)V"⟩, 2) := ⟨⟨by decide +kernel, by decide +kernel⟩, List.mem_of_getElem? (i := 910) (by decide +kernel), List.mem_of_getElem? (i := 930) (by decide +kernel), List.mem_of_getElem? (i := 931) (by decide +kernel)⟩
theorem lw_p36 : lw_okq (⟨"BlackSun$Fit", "makeLawful", "(LBlackSun$Book;I)V"⟩, 15) := ⟨⟨by decide +kernel, by decide +kernel⟩, List.mem_of_getElem? (i := 281) (by decide +kernel), List.mem_of_getElem? (i := 1011) (by decide +kernel), List.mem_of_getElem? (i := 1012) (by decide +kernel)⟩
theorem lw_p37 : lw_okq (⟨"BlackSun$Fit", "drawWorld", "(LBlackSun$Book;I)V"⟩, 15) := ⟨⟨by decide +kernel, by decide +kernel⟩, List.mem_of_getElem? (i := 281) (by decide +kernel), List.mem_of_getElem? (i := 1015) (by decide +kernel), List.mem_of_getElem? (i := 1016) (by decide +kernel)⟩
theorem lw_p38 : lw_okq (⟨"BlackSun$Fit", "drawSlip", "(I)I"⟩, 15) := ⟨⟨by decide +kernel, by decide +kernel⟩, List.mem_of_getElem? (i := 281) (by decide +kernel), List.mem_of_getElem? (i := 1019) (by decide +kernel), List.mem_of_getElem? (i := 1020) (by decide +kernel)⟩
theorem lw_p39 : lw_okq (⟨"BlackSun$Moves", "add", "(LBlackSun$Images;II)V"⟩, 6) := ⟨⟨by decide +kernel, by decide +kernel⟩, List.mem_of_getElem? (i := 1085) (by decide +kernel), List.mem_of_getElem? (i := 1116) (by decide +kernel), List.mem_of_getElem? (i := 1117) (by decide +kernel)⟩
theorem lw_p40 : lw_okq (⟨"BlackSun$Moves", "isBefore", "(LBlackSun$Images;I)Z"⟩, 6) := ⟨⟨by decide +kernel, by decide +kernel⟩, List.mem_of_getElem? (i := 1085) (by decide +kernel), List.mem_of_getElem? (i := 1120) (by decide +kernel), List.mem_of_getElem? (i := 1121) (by decide +kernel)⟩
theorem lw_p41 : lw_okq (⟨"BlackSunModel", "isStar", "(I)Z"⟩, 75) := ⟨⟨by decide +kernel, by decide +kernel⟩, List.mem_of_getElem? (i := 1160) (by decide +kernel), List.mem_of_getElem? (i := 1411) (by decide +kernel), List.mem_of_getElem? (i := 1412) (by decide +kernel)⟩
theorem lw_p42 : lw_okq (⟨"BlackSunModel", "far", "(I)I"⟩, 75) := ⟨⟨by decide +kernel, by decide +kernel⟩, List.mem_of_getElem? (i := 1160) (by decide +kernel), List.mem_of_getElem? (i := 1415) (by decide +kernel), List.mem_of_getElem? (i := 1416) (by decide +kernel)⟩
theorem lw_p43 : lw_okq (⟨"BlackSunModel", "isPlate", "(I)Z"⟩, 75) := ⟨⟨by decide +kernel, by decide +kernel⟩, List.mem_of_getElem? (i := 1160) (by decide +kernel), List.mem_of_getElem? (i := 1429) (by decide +kernel), List.mem_of_getElem? (i := 1430) (by decide +kernel)⟩
theorem lw_p44 : lw_okq (⟨"BlackSunModel", "counting", "(IIII)I"⟩, 75) := ⟨⟨by decide +kernel, by decide +kernel⟩, List.mem_of_getElem? (i := 1160) (by decide +kernel), List.mem_of_getElem? (i := 1446) (by decide +kernel), List.mem_of_getElem? (i := 1447) (by decide +kernel)⟩
theorem lw_p45 : lw_okq (⟨"BlackSunModel", "given", "(III)I"⟩, 75) := ⟨⟨by decide +kernel, by decide +kernel⟩, List.mem_of_getElem? (i := 1160) (by decide +kernel), List.mem_of_getElem? (i := 1455) (by decide +kernel), List.mem_of_getElem? (i := 1456) (by decide +kernel)⟩
theorem lw_p46 : lw_okq (⟨"BlackSunModel", "put", "(I)V"⟩, 75) := ⟨⟨by decide +kernel, by decide +kernel⟩, List.mem_of_getElem? (i := 1160) (by decide +kernel), List.mem_of_getElem? (i := 1463) (by decide +kernel), List.mem_of_getElem? (i := 1464) (by decide +kernel)⟩
theorem lw_p47 : lw_okq (⟨"BlackSunModel", "clause", "(I)V"⟩, 75) := ⟨⟨by decide +kernel, by decide +kernel⟩, List.mem_of_getElem? (i := 1160) (by decide +kernel), List.mem_of_getElem? (i := 1475) (by decide +kernel), List.mem_of_getElem? (i := 1476) (by decide +kernel)⟩
def lw_privs_3 : List (MethodName × Nat) := [(⟨"BlackSun$Fit", "findRulable", "(LBlackSun$Plates;)I"⟩, 15), (⟨"BlackSun$Fit", "leaveOutChoice", "(II)I"⟩, 15), (⟨"BlackSun$Mix", "add", "(LBlackSun$Stars;II)V"⟩, 3), (⟨"BlackSun$Lean", "addPlace", "(LBlackSun$Book;III)V"⟩, 2), (⟨"BlackSun$Fit", "makeLawful", "(LBlackSun$Book;I)V"⟩, 15), (⟨"BlackSun$Fit", "drawWorld", "(LBlackSun$Book;I)V"⟩, 15), (⟨"BlackSun$Fit", "drawSlip", "(I)I"⟩, 15), (⟨"BlackSun$Moves", "add", "(LBlackSun$Images;II)V"⟩, 6), (⟨"BlackSun$Moves", "isBefore", "(LBlackSun$Images;I)Z"⟩, 6), (⟨"BlackSunModel", "isStar", "(I)Z"⟩, 75), (⟨"BlackSunModel", "far", "(I)I"⟩, 75), (⟨"BlackSunModel", "isPlate", "(I)Z"⟩, 75), (⟨"BlackSunModel", "counting", "(IIII)I"⟩, 75), (⟨"BlackSunModel", "given", "(III)I"⟩, 75), (⟨"BlackSunModel", "put", "(I)V"⟩, 75), (⟨"BlackSunModel", "clause", "(I)V"⟩, 75)]
theorem lw_r3 : ∀ q ∈ lw_privs_3, lw_okq q := List.forall_mem_cons.mpr ⟨lw_p32, List.forall_mem_cons.mpr ⟨lw_p33, List.forall_mem_cons.mpr ⟨lw_p34, List.forall_mem_cons.mpr ⟨lw_p35, List.forall_mem_cons.mpr ⟨lw_p36, List.forall_mem_cons.mpr ⟨lw_p37, List.forall_mem_cons.mpr ⟨lw_p38, List.forall_mem_cons.mpr ⟨lw_p39, List.forall_mem_cons.mpr ⟨lw_p40, List.forall_mem_cons.mpr ⟨lw_p41, List.forall_mem_cons.mpr ⟨lw_p42, List.forall_mem_cons.mpr ⟨lw_p43, List.forall_mem_cons.mpr ⟨lw_p44, List.forall_mem_cons.mpr ⟨lw_p45, List.forall_mem_cons.mpr ⟨lw_p46, List.forall_mem_cons.mpr ⟨lw_p47, fun _ h => absurd h List.not_mem_nil⟩⟩⟩⟩⟩⟩⟩⟩⟩⟩⟩⟩⟩⟩⟩⟩
theorem lw_p48 : lw_okq (⟨"BlackSunModel", "blanks", "()V"⟩, 75) := ⟨⟨by decide +kernel, by decide +kernel⟩, List.mem_of_getElem? (i := 1160) (by decide +kernel), List.mem_of_getElem? (i := 1479) (by decide +kernel), List.mem_of_getElem? (i := 1480) (by decide +kernel)⟩
theorem lw_p49 : lw_okq (⟨"BlackSunModel", "sign", "()I"⟩, 75) := ⟨⟨by decide +kernel, by decide +kernel⟩, List.mem_of_getElem? (i := 1160) (by decide +kernel), List.mem_of_getElem? (i := 1483) (by decide +kernel), List.mem_of_getElem? (i := 1484) (by decide +kernel)⟩
theorem lw_p50 : lw_okq (⟨"BlackSunModel", "stands", "(Ljava/lang/String;)Z"⟩, 75) := ⟨⟨by decide +kernel, by decide +kernel⟩, List.mem_of_getElem? (i := 1160) (by decide +kernel), List.mem_of_getElem? (i := 1488) (by decide +kernel), List.mem_of_getElem? (i := 1489) (by decide +kernel)⟩
theorem lw_p51 : lw_okq (⟨"BlackSunModel", "fails", "(II)V"⟩, 75) := ⟨⟨by decide +kernel, by decide +kernel⟩, List.mem_of_getElem? (i := 1160) (by decide +kernel), List.mem_of_getElem? (i := 1498) (by decide +kernel), List.mem_of_getElem? (i := 1499) (by decide +kernel)⟩
theorem lw_p52 : lw_okq (⟨"BlackSunModel", "digits", "(I)I"⟩, 75) := ⟨⟨by decide +kernel, by decide +kernel⟩, List.mem_of_getElem? (i := 1160) (by decide +kernel), List.mem_of_getElem? (i := 1502) (by decide +kernel), List.mem_of_getElem? (i := 1503) (by decide +kernel)⟩
theorem lw_p53 : lw_okq (⟨"BlackSunModel", "isDigit", "()Z"⟩, 75) := ⟨⟨by decide +kernel, by decide +kernel⟩, List.mem_of_getElem? (i := 1160) (by decide +kernel), List.mem_of_getElem? (i := 1506) (by decide +kernel), List.mem_of_getElem? (i := 1507) (by decide +kernel)⟩
theorem lw_p54 : lw_okq (⟨"BlackSunModel", "takes", "(Ljava/lang/String;)Z"⟩, 75) := ⟨⟨by decide +kernel, by decide +kernel⟩, List.mem_of_getElem? (i := 1160) (by decide +kernel), List.mem_of_getElem? (i := 1513) (by decide +kernel), List.mem_of_getElem? (i := 1514) (by decide +kernel)⟩
theorem lw_p55 : lw_okq (⟨"BlackSunModel", "test", "()V"⟩, 75) := ⟨⟨by decide +kernel, by decide +kernel⟩, List.mem_of_getElem? (i := 1160) (by decide +kernel), List.mem_of_getElem? (i := 1517) (by decide +kernel), List.mem_of_getElem? (i := 1518) (by decide +kernel)⟩
theorem lw_p56 : lw_okq (⟨"BlackSunModel", "fact", "()Z"⟩, 75) := ⟨⟨by decide +kernel, by decide +kernel⟩, List.mem_of_getElem? (i := 1160) (by decide +kernel), List.mem_of_getElem? (i := 1521) (by decide +kernel), List.mem_of_getElem? (i := 1522) (by decide +kernel)⟩
theorem lw_p57 : lw_okq (⟨"BlackSunModel", "opens", "(I)V"⟩, 75) := ⟨⟨by decide +kernel, by decide +kernel⟩, List.mem_of_getElem? (i := 1160) (by decide +kernel), List.mem_of_getElem? (i := 1526) (by decide +kernel), List.mem_of_getElem? (i := 1527) (by decide +kernel)⟩
theorem lw_p58 : lw_okq (⟨"BlackSunModel", "compared", "()V"⟩, 75) := ⟨⟨by decide +kernel, by decide +kernel⟩, List.mem_of_getElem? (i := 1160) (by decide +kernel), List.mem_of_getElem? (i := 1530) (by decide +kernel), List.mem_of_getElem? (i := 1531) (by decide +kernel)⟩
theorem lw_p59 : lw_okq (⟨"BlackSunModel", "sum", "()V"⟩, 75) := ⟨⟨by decide +kernel, by decide +kernel⟩, List.mem_of_getElem? (i := 1160) (by decide +kernel), List.mem_of_getElem? (i := 1534) (by decide +kernel), List.mem_of_getElem? (i := 1535) (by decide +kernel)⟩
theorem lw_p60 : lw_okq (⟨"BlackSunModel", "value", "()V"⟩, 75) := ⟨⟨by decide +kernel, by decide +kernel⟩, List.mem_of_getElem? (i := 1160) (by decide +kernel), List.mem_of_getElem? (i := 1538) (by decide +kernel), List.mem_of_getElem? (i := 1539) (by decide +kernel)⟩
theorem lw_p61 : lw_okq (⟨"BlackSunModel", "isCounted", "(I)V"⟩, 75) := ⟨⟨by decide +kernel, by decide +kernel⟩, List.mem_of_getElem? (i := 1160) (by decide +kernel), List.mem_of_getElem? (i := 1543) (by decide +kernel), List.mem_of_getElem? (i := 1544) (by decide +kernel)⟩
theorem lw_p62 : lw_okq (⟨"BlackSunModel", "entry", "(II)V"⟩, 75) := ⟨⟨by decide +kernel, by decide +kernel⟩, List.mem_of_getElem? (i := 1160) (by decide +kernel), List.mem_of_getElem? (i := 1547) (by decide +kernel), List.mem_of_getElem? (i := 1548) (by decide +kernel)⟩
theorem lw_p63 : lw_okq (⟨"BlackSunModel", "answers", "(I)V"⟩, 75) := ⟨⟨by decide +kernel, by decide +kernel⟩, List.mem_of_getElem? (i := 1160) (by decide +kernel), List.mem_of_getElem? (i := 1566) (by decide +kernel), List.mem_of_getElem? (i := 1567) (by decide +kernel)⟩
def lw_privs_4 : List (MethodName × Nat) := [(⟨"BlackSunModel", "blanks", "()V"⟩, 75), (⟨"BlackSunModel", "sign", "()I"⟩, 75), (⟨"BlackSunModel", "stands", "(Ljava/lang/String;)Z"⟩, 75), (⟨"BlackSunModel", "fails", "(II)V"⟩, 75), (⟨"BlackSunModel", "digits", "(I)I"⟩, 75), (⟨"BlackSunModel", "isDigit", "()Z"⟩, 75), (⟨"BlackSunModel", "takes", "(Ljava/lang/String;)Z"⟩, 75), (⟨"BlackSunModel", "test", "()V"⟩, 75), (⟨"BlackSunModel", "fact", "()Z"⟩, 75), (⟨"BlackSunModel", "opens", "(I)V"⟩, 75), (⟨"BlackSunModel", "compared", "()V"⟩, 75), (⟨"BlackSunModel", "sum", "()V"⟩, 75), (⟨"BlackSunModel", "value", "()V"⟩, 75), (⟨"BlackSunModel", "isCounted", "(I)V"⟩, 75), (⟨"BlackSunModel", "entry", "(II)V"⟩, 75), (⟨"BlackSunModel", "answers", "(I)V"⟩, 75)]
theorem lw_r4 : ∀ q ∈ lw_privs_4, lw_okq q := List.forall_mem_cons.mpr ⟨lw_p48, List.forall_mem_cons.mpr ⟨lw_p49, List.forall_mem_cons.mpr ⟨lw_p50, List.forall_mem_cons.mpr ⟨lw_p51, List.forall_mem_cons.mpr ⟨lw_p52, List.forall_mem_cons.mpr ⟨lw_p53, List.forall_mem_cons.mpr ⟨lw_p54, List.forall_mem_cons.mpr ⟨lw_p55, List.forall_mem_cons.mpr ⟨lw_p56, List.forall_mem_cons.mpr ⟨lw_p57, List.forall_mem_cons.mpr ⟨lw_p58, List.forall_mem_cons.mpr ⟨lw_p59, List.forall_mem_cons.mpr ⟨lw_p60, List.forall_mem_cons.mpr ⟨lw_p61, List.forall_mem_cons.mpr ⟨lw_p62, List.forall_mem_cons.mpr ⟨lw_p63, fun _ h => absurd h List.not_mem_nil⟩⟩⟩⟩⟩⟩⟩⟩⟩⟩⟩⟩⟩⟩⟩⟩
theorem lw_p64 : lw_okq (⟨"BlackSunModel", "top", "()I"⟩, 75) := ⟨⟨by decide +kernel, by decide +kernel⟩, List.mem_of_getElem? (i := 1160) (by decide +kernel), List.mem_of_getElem? (i := 1570) (by decide +kernel), List.mem_of_getElem? (i := 1571) (by decide +kernel)⟩
theorem lw_p65 : lw_okq (⟨"BlackSunModel", "term", "(Z)I"⟩, 75) := ⟨⟨by decide +kernel, by decide +kernel⟩, List.mem_of_getElem? (i := 1160) (by decide +kernel), List.mem_of_getElem? (i := 1576) (by decide +kernel), List.mem_of_getElem? (i := 1577) (by decide +kernel)⟩
theorem lw_p66 : lw_okq (⟨"BlackSunModel", "names", "(II)V"⟩, 75) := ⟨⟨by decide +kernel, by decide +kernel⟩, List.mem_of_getElem? (i := 1160) (by decide +kernel), List.mem_of_getElem? (i := 1589) (by decide +kernel), List.mem_of_getElem? (i := 1590) (by decide +kernel)⟩
theorem lw_p67 : lw_okq (⟨"BlackSunModel", "isWay", "(I)Z"⟩, 75) := ⟨⟨by decide +kernel, by decide +kernel⟩, List.mem_of_getElem? (i := 1160) (by decide +kernel), List.mem_of_getElem? (i := 1597) (by decide +kernel), List.mem_of_getElem? (i := 1598) (by decide +kernel)⟩
theorem lw_p68 : lw_okq (⟨"BlackSunModel", "takesAll", "(II)V"⟩, 75) := ⟨⟨by decide +kernel, by decide +kernel⟩, List.mem_of_getElem? (i := 1160) (by decide +kernel), List.mem_of_getElem? (i := 1608) (by decide +kernel), List.mem_of_getElem? (i := 1609) (by decide +kernel)⟩
theorem lw_p69 : lw_okq (⟨"BlackSunModel", "isByHand", "(II)Z"⟩, 75) := ⟨⟨by decide +kernel, by decide +kernel⟩, List.mem_of_getElem? (i := 1160) (by decide +kernel), List.mem_of_getElem? (i := 1612) (by decide +kernel), List.mem_of_getElem? (i := 1613) (by decide +kernel)⟩
theorem lw_p70 : lw_okq (⟨"BlackSunModel", "counts", "(II)Z"⟩, 75) := ⟨⟨by decide +kernel, by decide +kernel⟩, List.mem_of_getElem? (i := 1160) (by decide +kernel), List.mem_of_getElem? (i := 1616) (by decide +kernel), List.mem_of_getElem? (i := 1617) (by decide +kernel)⟩
theorem lw_p71 : lw_okq (⟨"BlackSunModel", "isLeft", "(II)Z"⟩, 75) := ⟨⟨by decide +kernel, by decide +kernel⟩, List.mem_of_getElem? (i := 1160) (by decide +kernel), List.mem_of_getElem? (i := 1620) (by decide +kernel), List.mem_of_getElem? (i := 1621) (by decide +kernel)⟩
theorem lw_p72 : lw_okq (⟨"BlackSunModel", "isTrue", "(III)Z"⟩, 75) := ⟨⟨by decide +kernel, by decide +kernel⟩, List.mem_of_getElem? (i := 1160) (by decide +kernel), List.mem_of_getElem? (i := 1624) (by decide +kernel), List.mem_of_getElem? (i := 1625) (by decide +kernel)⟩
theorem lw_p73 : lw_okq (⟨"BlackSunModel", "answerIn", "(III)I"⟩, 75) := ⟨⟨by decide +kernel, by decide +kernel⟩, List.mem_of_getElem? (i := 1160) (by decide +kernel), List.mem_of_getElem? (i := 1638) (by decide +kernel), List.mem_of_getElem? (i := 1639) (by decide +kernel)⟩
theorem lw_p74 : lw_okq (⟨"BlackSunModel", "isAnswered", "(II)Z"⟩, 75) := ⟨⟨by decide +kernel, by decide +kernel⟩, List.mem_of_getElem? (i := 1160) (by decide +kernel), List.mem_of_getElem? (i := 1642) (by decide +kernel), List.mem_of_getElem? (i := 1643) (by decide +kernel)⟩
theorem lw_p75 : lw_okq (⟨"BlackSunModel", "measures", "()V"⟩, 75) := ⟨⟨by decide +kernel, by decide +kernel⟩, List.mem_of_getElem? (i := 1160) (by decide +kernel), List.mem_of_getElem? (i := 1646) (by decide +kernel), List.mem_of_getElem? (i := 1647) (by decide +kernel)⟩
theorem lw_p76 : lw_okq (⟨"BlackSunModel", "begins", "(IIZI)Z"⟩, 75) := ⟨⟨by decide +kernel, by decide +kernel⟩, List.mem_of_getElem? (i := 1160) (by decide +kernel), List.mem_of_getElem? (i := 1650) (by decide +kernel), List.mem_of_getElem? (i := 1651) (by decide +kernel)⟩
theorem lw_p77 : lw_okq (⟨"BlackSunModel", "checks", "(III)Z"⟩, 75) := ⟨⟨by decide +kernel, by decide +kernel⟩, List.mem_of_getElem? (i := 1160) (by decide +kernel), List.mem_of_getElem? (i := 1654) (by decide +kernel), List.mem_of_getElem? (i := 1655) (by decide +kernel)⟩
theorem lw_p78 : lw_okq (⟨"BlackSunModel", "fit", "()Z"⟩, 75) := ⟨⟨by decide +kernel, by decide +kernel⟩, List.mem_of_getElem? (i := 1160) (by decide +kernel), List.mem_of_getElem? (i := 1662) (by decide +kernel), List.mem_of_getElem? (i := 1663) (by decide +kernel)⟩
theorem lw_p79 : lw_okq (⟨"BlackSunModel", "empties", "()V"⟩, 75) := ⟨⟨by decide +kernel, by decide +kernel⟩, List.mem_of_getElem? (i := 1160) (by decide +kernel), List.mem_of_getElem? (i := 1666) (by decide +kernel), List.mem_of_getElem? (i := 1667) (by decide +kernel)⟩
def lw_privs_5 : List (MethodName × Nat) := [(⟨"BlackSunModel", "top", "()I"⟩, 75), (⟨"BlackSunModel", "term", "(Z)I"⟩, 75), (⟨"BlackSunModel", "names", "(II)V"⟩, 75), (⟨"BlackSunModel", "isWay", "(I)Z"⟩, 75), (⟨"BlackSunModel", "takesAll", "(II)V"⟩, 75), (⟨"BlackSunModel", "isByHand", "(II)Z"⟩, 75), (⟨"BlackSunModel", "counts", "(II)Z"⟩, 75), (⟨"BlackSunModel", "isLeft", "(II)Z"⟩, 75), (⟨"BlackSunModel", "isTrue", "(III)Z"⟩, 75), (⟨"BlackSunModel", "answerIn", "(III)I"⟩, 75), (⟨"BlackSunModel", "isAnswered", "(II)Z"⟩, 75), (⟨"BlackSunModel", "measures", "()V"⟩, 75), (⟨"BlackSunModel", "begins", "(IIZI)Z"⟩, 75), (⟨"BlackSunModel", "checks", "(III)Z"⟩, 75), (⟨"BlackSunModel", "fit", "()Z"⟩, 75), (⟨"BlackSunModel", "empties", "()V"⟩, 75)]
theorem lw_r5 : ∀ q ∈ lw_privs_5, lw_okq q := List.forall_mem_cons.mpr ⟨lw_p64, List.forall_mem_cons.mpr ⟨lw_p65, List.forall_mem_cons.mpr ⟨lw_p66, List.forall_mem_cons.mpr ⟨lw_p67, List.forall_mem_cons.mpr ⟨lw_p68, List.forall_mem_cons.mpr ⟨lw_p69, List.forall_mem_cons.mpr ⟨lw_p70, List.forall_mem_cons.mpr ⟨lw_p71, List.forall_mem_cons.mpr ⟨lw_p72, List.forall_mem_cons.mpr ⟨lw_p73, List.forall_mem_cons.mpr ⟨lw_p74, List.forall_mem_cons.mpr ⟨lw_p75, List.forall_mem_cons.mpr ⟨lw_p76, List.forall_mem_cons.mpr ⟨lw_p77, List.forall_mem_cons.mpr ⟨lw_p78, List.forall_mem_cons.mpr ⟨lw_p79, fun _ h => absurd h List.not_mem_nil⟩⟩⟩⟩⟩⟩⟩⟩⟩⟩⟩⟩⟩⟩⟩⟩
theorem lw_p80 : lw_okq (⟨"BlackSunModel", "rows", "(II)V"⟩, 75) := ⟨⟨by decide +kernel, by decide +kernel⟩, List.mem_of_getElem? (i := 1160) (by decide +kernel), List.mem_of_getElem? (i := 1670) (by decide +kernel), List.mem_of_getElem? (i := 1671) (by decide +kernel)⟩
theorem lw_p81 : lw_okq (⟨"BlackSunModel", "left", "(II)J"⟩, 75) := ⟨⟨by decide +kernel, by decide +kernel⟩, List.mem_of_getElem? (i := 1160) (by decide +kernel), List.mem_of_getElem? (i := 1674) (by decide +kernel), List.mem_of_getElem? (i := 1675) (by decide +kernel)⟩
theorem lw_p82 : lw_okq (⟨"BlackSunModel", "givenOn", "(III)J"⟩, 75) := ⟨⟨by decide +kernel, by decide +kernel⟩, List.mem_of_getElem? (i := 1160) (by decide +kernel), List.mem_of_getElem? (i := 1678) (by decide +kernel), List.mem_of_getElem? (i := 1679) (by decide +kernel)⟩
theorem lw_p83 : lw_okq (⟨"BlackSunModel", "solves", "()Z"⟩, 75) := ⟨⟨by decide +kernel, by decide +kernel⟩, List.mem_of_getElem? (i := 1160) (by decide +kernel), List.mem_of_getElem? (i := 1682) (by decide +kernel), List.mem_of_getElem? (i := 1683) (by decide +kernel)⟩
theorem lw_p84 : lw_okq (⟨"BlackSunModel", "factor", "(II)J"⟩, 75) := ⟨⟨by decide +kernel, by decide +kernel⟩, List.mem_of_getElem? (i := 1160) (by decide +kernel), List.mem_of_getElem? (i := 1686) (by decide +kernel), List.mem_of_getElem? (i := 1687) (by decide +kernel)⟩
theorem lw_p85 : lw_okq (⟨"BlackSunModel", "sumAt", "(II)J"⟩, 75) := ⟨⟨by decide +kernel, by decide +kernel⟩, List.mem_of_getElem? (i := 1160) (by decide +kernel), List.mem_of_getElem? (i := 1690) (by decide +kernel), List.mem_of_getElem? (i := 1691) (by decide +kernel)⟩
theorem lw_p86 : lw_okq (⟨"BlackSunModel", "adds", "(JJJ)V"⟩, 75) := ⟨⟨by decide +kernel, by decide +kernel⟩, List.mem_of_getElem? (i := 1160) (by decide +kernel), List.mem_of_getElem? (i := 1694) (by decide +kernel), List.mem_of_getElem? (i := 1695) (by decide +kernel)⟩
theorem lw_p87 : lw_okq (⟨"BlackSunModel", "missed", "()J"⟩, 75) := ⟨⟨by decide +kernel, by decide +kernel⟩, List.mem_of_getElem? (i := 1160) (by decide +kernel), List.mem_of_getElem? (i := 1709) (by decide +kernel), List.mem_of_getElem? (i := 1710) (by decide +kernel)⟩
theorem lw_p88 : lw_okq (⟨"BlackSunModel", "known", "(II)V"⟩, 75) := ⟨⟨by decide +kernel, by decide +kernel⟩, List.mem_of_getElem? (i := 1160) (by decide +kernel), List.mem_of_getElem? (i := 1735) (by decide +kernel), List.mem_of_getElem? (i := 1736) (by decide +kernel)⟩
theorem lw_p89 : lw_okq (⟨"BlackSunModel", "mixes", "()V"⟩, 75) := ⟨⟨by decide +kernel, by decide +kernel⟩, List.mem_of_getElem? (i := 1160) (by decide +kernel), List.mem_of_getElem? (i := 1739) (by decide +kernel), List.mem_of_getElem? (i := 1740) (by decide +kernel)⟩
theorem lw_p90 : lw_okq (⟨"BlackSunModel", "isKnowing", "(II)Z"⟩, 75) := ⟨⟨by decide +kernel, by decide +kernel⟩, List.mem_of_getElem? (i := 1160) (by decide +kernel), List.mem_of_getElem? (i := 1762) (by decide +kernel), List.mem_of_getElem? (i := 1763) (by decide +kernel)⟩
theorem lw_p91 : lw_okq (⟨"BlackSunModel", "toldBy", "(II)I"⟩, 75) := ⟨⟨by decide +kernel, by decide +kernel⟩, List.mem_of_getElem? (i := 1160) (by decide +kernel), List.mem_of_getElem? (i := 1771) (by decide +kernel), List.mem_of_getElem? (i := 1772) (by decide +kernel)⟩
theorem lw_p92 : lw_okq (⟨"BlackSunModel", "areIslands", "(IIII)Z"⟩, 75) := ⟨⟨by decide +kernel, by decide +kernel⟩, List.mem_of_getElem? (i := 1160) (by decide +kernel), List.mem_of_getElem? (i := 1780) (by decide +kernel), List.mem_of_getElem? (i := 1781) (by decide +kernel)⟩
theorem lw_p93 : lw_okq (⟨"BlackSunModel", "alone", "(III)Z"⟩, 75) := ⟨⟨by decide +kernel, by decide +kernel⟩, List.mem_of_getElem? (i := 1160) (by decide +kernel), List.mem_of_getElem? (i := 1784) (by decide +kernel), List.mem_of_getElem? (i := 1785) (by decide +kernel)⟩
theorem lw_p94 : lw_okq (⟨"BlackSunModel", "slipOf", "(I)I"⟩, 75) := ⟨⟨by decide +kernel, by decide +kernel⟩, List.mem_of_getElem? (i := 1160) (by decide +kernel), List.mem_of_getElem? (i := 1813) (by decide +kernel), List.mem_of_getElem? (i := 1814) (by decide +kernel)⟩
theorem lw_p95 : lw_okq (⟨"BlackSunModel", "standing", "(IIIII)I"⟩, 75) := ⟨⟨by decide +kernel, by decide +kernel⟩, List.mem_of_getElem? (i := 1160) (by decide +kernel), List.mem_of_getElem? (i := 1841) (by decide +kernel), List.mem_of_getElem? (i := 1842) (by decide +kernel)⟩
def lw_privs_6 : List (MethodName × Nat) := [(⟨"BlackSunModel", "rows", "(II)V"⟩, 75), (⟨"BlackSunModel", "left", "(II)J"⟩, 75), (⟨"BlackSunModel", "givenOn", "(III)J"⟩, 75), (⟨"BlackSunModel", "solves", "()Z"⟩, 75), (⟨"BlackSunModel", "factor", "(II)J"⟩, 75), (⟨"BlackSunModel", "sumAt", "(II)J"⟩, 75), (⟨"BlackSunModel", "adds", "(JJJ)V"⟩, 75), (⟨"BlackSunModel", "missed", "()J"⟩, 75), (⟨"BlackSunModel", "known", "(II)V"⟩, 75), (⟨"BlackSunModel", "mixes", "()V"⟩, 75), (⟨"BlackSunModel", "isKnowing", "(II)Z"⟩, 75), (⟨"BlackSunModel", "toldBy", "(II)I"⟩, 75), (⟨"BlackSunModel", "areIslands", "(IIII)Z"⟩, 75), (⟨"BlackSunModel", "alone", "(III)Z"⟩, 75), (⟨"BlackSunModel", "slipOf", "(I)I"⟩, 75), (⟨"BlackSunModel", "standing", "(IIIII)I"⟩, 75)]
theorem lw_r6 : ∀ q ∈ lw_privs_6, lw_okq q := List.forall_mem_cons.mpr ⟨lw_p80, List.forall_mem_cons.mpr ⟨lw_p81, List.forall_mem_cons.mpr ⟨lw_p82, List.forall_mem_cons.mpr ⟨lw_p83, List.forall_mem_cons.mpr ⟨lw_p84, List.forall_mem_cons.mpr ⟨lw_p85, List.forall_mem_cons.mpr ⟨lw_p86, List.forall_mem_cons.mpr ⟨lw_p87, List.forall_mem_cons.mpr ⟨lw_p88, List.forall_mem_cons.mpr ⟨lw_p89, List.forall_mem_cons.mpr ⟨lw_p90, List.forall_mem_cons.mpr ⟨lw_p91, List.forall_mem_cons.mpr ⟨lw_p92, List.forall_mem_cons.mpr ⟨lw_p93, List.forall_mem_cons.mpr ⟨lw_p94, List.forall_mem_cons.mpr ⟨lw_p95, fun _ h => absurd h List.not_mem_nil⟩⟩⟩⟩⟩⟩⟩⟩⟩⟩⟩⟩⟩⟩⟩⟩
theorem lw_p96 : lw_okq (⟨"BlackSunModel", "offBy", "(IIII)J"⟩, 75) := ⟨⟨by decide +kernel, by decide +kernel⟩, List.mem_of_getElem? (i := 1160) (by decide +kernel), List.mem_of_getElem? (i := 1850) (by decide +kernel), List.mem_of_getElem? (i := 1851) (by decide +kernel)⟩
theorem lw_p97 : lw_okq (⟨"BlackSunModel", "carries", "(I)V"⟩, 75) := ⟨⟨by decide +kernel, by decide +kernel⟩, List.mem_of_getElem? (i := 1160) (by decide +kernel), List.mem_of_getElem? (i := 1866) (by decide +kernel), List.mem_of_getElem? (i := 1867) (by decide +kernel)⟩
theorem lw_p98 : lw_okq (⟨"BlackSunModel", "carry", "([I)V"⟩, 75) := ⟨⟨by decide +kernel, by decide +kernel⟩, List.mem_of_getElem? (i := 1160) (by decide +kernel), List.mem_of_getElem? (i := 1870) (by decide +kernel), List.mem_of_getElem? (i := 1871) (by decide +kernel)⟩
def lw_privs_7 : List (MethodName × Nat) := [(⟨"BlackSunModel", "offBy", "(IIII)J"⟩, 75), (⟨"BlackSunModel", "carries", "(I)V"⟩, 75), (⟨"BlackSunModel", "carry", "([I)V"⟩, 75)]
theorem lw_r7 : ∀ q ∈ lw_privs_7, lw_okq q := List.forall_mem_cons.mpr ⟨lw_p96, List.forall_mem_cons.mpr ⟨lw_p97, List.forall_mem_cons.mpr ⟨lw_p98, fun _ h => absurd h List.not_mem_nil⟩⟩⟩
def lw_privs : List (MethodName × Nat) := lw_privs_1 ++ (lw_privs_2 ++ (lw_privs_3 ++ (lw_privs_4 ++ (lw_privs_5 ++ (lw_privs_6 ++ (lw_privs_7))))))
def lw_tbl : List Cond := k2_sels lw_privs ++ tables_1
theorem lw_privs_ok : ∀ q ∈ lw_privs, lw_okq q := by
  show ∀ q ∈ lw_privs_1 ++ (lw_privs_2 ++ (lw_privs_3 ++ (lw_privs_4 ++ (lw_privs_5 ++ (lw_privs_6 ++ (lw_privs_7)))))), lw_okq q
  exact List.forall_mem_append.mpr ⟨lw_r1, List.forall_mem_append.mpr ⟨lw_r2, List.forall_mem_append.mpr ⟨lw_r3, List.forall_mem_append.mpr ⟨lw_r4, List.forall_mem_append.mpr ⟨lw_r5, List.forall_mem_append.mpr ⟨lw_r6, lw_r7⟩⟩⟩⟩⟩⟩
end
section
/-! THE PURE HEAP: next address, slots made, shapes, ints, longs, references (0: null; 1..39 constants, 40 the script, from 64 on what was made) -/
abbrev ax_H : Type := Nat × Nat × (Nat → Nat × Nat) × (Nat → Nat → Int32) × (Nat → Nat → Int64) × (Nat → Nat → Nat)
def gN (h : ax_H) : Nat := h.1
def gZ (h : ax_H) : Nat := h.2.1
def gS (h : ax_H) (a : Nat) : Nat × Nat := h.2.2.1 a
def gI (h : ax_H) (a k : Nat) : Int32 := h.2.2.2.1 a k
def gL (h : ax_H) (a k : Nat) : Int64 := h.2.2.2.2.1 a k
def gR (h : ax_H) (a k : Nat) : Nat := h.2.2.2.2.2 a k
def u1 {α : Type} (f : Nat → α) (a : Nat) (v : α) : Nat → α := fun x => if x = a then v else f x
def u2 {α : Type} (f : Nat → Nat → α) (a k : Nat) (v : α) : Nat → Nat → α := fun x y => if x = a ∧ y = k then v else f x y
def pI (h : ax_H) (a k : Nat) (v : Int32) : ax_H := (h.1, h.2.1, h.2.2.1, u2 h.2.2.2.1 a k v, h.2.2.2.2)
def pL (h : ax_H) (a k : Nat) (v : Int64) : ax_H := (h.1, h.2.1, h.2.2.1, h.2.2.2.1, u2 h.2.2.2.2.1 a k v, h.2.2.2.2.2)
def pR (h : ax_H) (a k : Nat) (v : Nat) : ax_H := (h.1, h.2.1, h.2.2.1, h.2.2.2.1, h.2.2.2.2.1, u2 h.2.2.2.2.2 a k v)
/-- a row of ints for a whole cell -/
def rI (h : ax_H) (a : Nat) (f : Nat → Int32) : ax_H := (h.1, h.2.1, h.2.2.1, u1 h.2.2.2.1 a f, h.2.2.2.2)
def rL (h : ax_H) (a : Nat) (f : Nat → Int64) : ax_H := (h.1, h.2.1, h.2.2.1, h.2.2.2.1, u1 h.2.2.2.2.1 a f, h.2.2.2.2.2)
/-- a new cell: kind, length, slots -/
def nW (h : ax_H) (kd len z : Nat) : ax_H := (h.1 + 1, h.2.1 + z, u1 h.2.2.1 h.1 (kd, len), u1 h.2.2.2.1 h.1 (fun _ => 0), u1 h.2.2.2.2.1 h.1 (fun _ => 0), u1 h.2.2.2.2.2 h.1 (fun _ => 0))
/-- n rows of k longs, and the row of them: addresses a0 (the outer) and a0+1 .. a0+n -/
def nG (h : ax_H) (kd kr n k : Nat) : ax_H := (h.1 + (n + 1), h.2.1 + (n + n * k), (fun x => if x = h.1 then (kd, n) else if h.1 < x ∧ x ≤ h.1 + n then (kr, k) else h.2.2.1 x), (fun x => if h.1 ≤ x ∧ x ≤ h.1 + n then fun _ => 0 else h.2.2.2.1 x), (fun x => if h.1 ≤ x ∧ x ≤ h.1 + n then fun _ => 0 else h.2.2.2.2.1 x), (fun x => if x = h.1 then fun y => if y < n then h.1 + 1 + y else 0 else if h.1 ≤ x ∧ x ≤ h.1 + n then fun _ => 0 else h.2.2.2.2.2 x))
/-! the context: base, heap at the start, constants' addresses, class numbers, field slots, array classes, the script -/
abbrev ax_X : Type := Nat × Heap × (Nat → Nat) × (Nat → ClassId) × (Nat → Nat → Nat) × (Nat → ClassId) × Nat × (Nat → Int32)
abbrev xB (X : ax_X) : Nat := X.1
abbrev xH (X : ax_X) : Heap := X.2.1
abbrev xA (X : ax_X) : Nat → Nat := X.2.2.1
abbrev xC (X : ax_X) : Nat → ClassId := X.2.2.2.1
abbrev xI (X : ax_X) : Nat → Nat → Nat := X.2.2.2.2.1
abbrev xR (X : ax_X) : Nat → ClassId := X.2.2.2.2.2.1
abbrev xL (X : ax_X) : Nat := X.2.2.2.2.2.2.1
abbrev xS (X : ax_X) : Nat → Int32 := X.2.2.2.2.2.2.2
def ax_r (X : ax_X) (a : Nat) : Nat := if a < 64 then xA X a else xB X + (a - 64)
def ax_v (X : ax_X) : Value → Value
  | .ref a => if a = 0 then .null else .ref (ax_r X a)
  | v => v
theorem ax_v_int (X : ax_X) (x : Int32) : ax_v X (.int x) = .int x := rfl
theorem ax_v_long (X : ax_X) (x : Int64) : ax_v X (.long x) = .long x := rfl
theorem ax_v_null (X : ax_X) : ax_v X (.ref 0) = .null := by simp [ax_v]
theorem ax_v_ref {X : ax_X} {a : Nat} (h : a ≠ 0) : ax_v X (.ref a) = .ref (ax_r X a) := by simp [ax_v, h]
theorem ax_v_ref_or (X : ax_X) (a : Nat) : ax_v X (.ref a) = .null ∨ ∃ b, ax_v X (.ref a) = .ref b := by
  by_cases h : a = 0
  · exact Or.inl (by rw [h, ax_v_null])
  · exact Or.inr ⟨_, ax_v_ref h⟩
theorem ax_v_cat (X : ax_X) (v : Value) : (ax_v X v).category = v.category := by
  cases v with
  | ref a => by_cases h : a = 0 <;> simp [ax_v, h, Value.category]
  | _ => rfl
theorem ax_r_hi {X : ax_X} {a : Nat} (h : 64 ≤ a) : ax_r X a = xB X + (a - 64) := by simp [ax_r, Nat.not_lt.mpr h]
theorem ax_r_inj {X : ax_X} {a b : Nat} (ha : 64 ≤ a) (hb : 64 ≤ b) (h : ax_r X a = ax_r X b) : a = b := by
  rw [ax_r_hi ha, ax_r_hi hb] at h; omega
/-- a field's value: t 0 int, 3 boolean, 1 long, 2 reference -/
def ax_fv (X : ax_X) (h : ax_H) (a t k : Nat) : Value := if t = 1 then .long (gL h a k) else if t = 2 then ax_v X (.ref (gR h a k)) else .int (gI h a k)
/-- kinds of rows: 16 int, 17 long, 18 byte, 19 boolean, 20 Way, 21 Book, 22 rows of longs -/
def ax_av (X : ax_X) (h : ax_H) (a kd j : Nat) : Value := if kd = 17 then .long (gL h a j) else if kd < 20 then .int (gI h a j) else ax_v X (.ref (gR h a j))
end
section
/-! names: the classes by number, their fields, the private nest links, the String constants (printed by wip/gen/names.py) -/
def ax_cn : Nat → String
  | 0 => "BlackSun"
  | 1 => "BlackSun$Book"
  | 2 => "BlackSun$Stars"
  | 3 => "BlackSun$Plates"
  | 4 => "BlackSun$Images"
  | 5 => "BlackSun$Way"
  | 6 => "BlackSun$Reader"
  | 7 => "BlackSun$Fit"
  | 8 => "BlackSun$Mix"
  | 9 => "BlackSun$Lean"
  | 10 => "BlackSun$Moves"
  | 11 => "BlackSunModel"
  | _ => ""
def ax_fl_0 : List (String × String × String × Bool) := [("BlackSun", "book", "LBlackSun$Book;", true), ("BlackSun", "marks", "[LBlackSun$Book;", true), ("BlackSun", "reader", "LBlackSun$Reader;", true), ("BlackSun", "fit", "LBlackSun$Fit;", true), ("BlackSun", "mix", "LBlackSun$Mix;", true)]
def ax_fl_1 : List (String × String × String × Bool) := [("BlackSun$Book", "now", "I", false), ("BlackSun$Book", "stars", "LBlackSun$Stars;", true), ("BlackSun$Book", "plates", "LBlackSun$Plates;", true), ("BlackSun$Book", "images", "LBlackSun$Images;", true), ("BlackSun$Book", "wayCount", "I", false), ("BlackSun$Book", "ways", "[LBlackSun$Way;", true), ("BlackSun$Book", "saidCount", "I", false), ("BlackSun$Book", "saidWay", "[I", true), ("BlackSun$Book", "saidWeek", "[I", true), ("BlackSun$Book", "saidNumber", "[I", true), ("BlackSun$Book", "fieldCount", "I", false), ("BlackSun$Book", "fieldMinutes", "[I", true), ("BlackSun$Book", "fieldStars", "[I", true), ("BlackSun$Book", "cold", "[I", true), ("BlackSun$Book", "more", "[I", true), ("BlackSun$Book", "knowsFrom", "[I", true), ("BlackSun$Book", "warmed", "[I", true)]
def ax_fl_2 : List (String × String × String × Bool) := [("BlackSun$Stars", "count", "I", false), ("BlackSun$Stars", "x", "[I", true), ("BlackSun$Stars", "y", "[I", true), ("BlackSun$Stars", "bright", "[I", true)]
def ax_fl_3 : List (String × String × String × Bool) := [("BlackSun$Plates", "count", "I", false), ("BlackSun$Plates", "island", "[I", true), ("BlackSun$Plates", "kind", "[I", true), ("BlackSun$Plates", "heat", "[I", true)]
def ax_fl_4 : List (String × String × String × Bool) := [("BlackSun$Images", "count", "I", false), ("BlackSun$Images", "plate", "[I", true), ("BlackSun$Images", "star", "[I", true), ("BlackSun$Images", "hand", "[I", true), ("BlackSun$Images", "dx", "[I", true), ("BlackSun$Images", "dy", "[I", true), ("BlackSun$Images", "week", "[I", true), ("BlackSun$Images", "until", "[I", true)]
def ax_fl_5 : List (String × String × String × Bool) := [("BlackSun$Way", "doing", "[I", true), ("BlackSun$Way", "held", "[I", true), ("BlackSun$Way", "hand", "I", true), ("BlackSun$Way", "steps", "[I", true)]
def ax_fl_6 : List (String × String × String × Bool) := [("BlackSun$Reader", "length", "I", false), ("BlackSun$Reader", "fault", "I", false), ("BlackSun$Reader", "tape", "[I", true), ("BlackSun$Reader", "place", "I", false), ("BlackSun$Reader", "counted", "I", false), ("BlackSun$Reader", "fitted", "I", false), ("BlackSun$Reader", "hand", "I", false), ("BlackSun$Reader", "state", "I", false), ("BlackSun$Reader", "deep", "I", false), ("BlackSun$Reader", "waitingCount", "I", false), ("BlackSun$Reader", "waiting", "[I", true), ("BlackSun$Reader", "stepCount", "I", false), ("BlackSun$Reader", "steps", "[I", true), ("BlackSun$Reader", "doing", "[I", true), ("BlackSun$Reader", "held", "[I", true)]
def ax_fl_7 : List (String × String × String × Bool) := [("BlackSun$Fit", "takenCount", "I", false), ("BlackSun$Fit", "taken", "[I", true), ("BlackSun$Fit", "number", "[I", true), ("BlackSun$Fit", "nearestAnswer", "I", false), ("BlackSun$Fit", "fittedCount", "I", false), ("BlackSun$Fit", "fitted", "[I", true), ("BlackSun$Fit", "give", "[I", true), ("BlackSun$Fit", "settled", "[I", true), ("BlackSun$Fit", "rest", "[I", true), ("BlackSun$Fit", "lawful", "[I", true), ("BlackSun$Fit", "sums", "[[J", true), ("BlackSun$Fit", "sum", "[J", true), ("BlackSun$Fit", "rulable", "[I", true), ("BlackSun$Fit", "stack", "[I", true), ("BlackSun$Fit", "seed", "J", false)]
def ax_fl_8 : List (String × String × String × Bool) := [("BlackSun$Mix", "scale", "J", false), ("BlackSun$Mix", "light", "J", false), ("BlackSun$Mix", "both", "J", false)]
def ax_fl_9 : List (String × String × String × Bool) := [("BlackSun$Lean", "above", "J", false), ("BlackSun$Lean", "below", "J", false)]
def ax_fl_10 : List (String × String × String × Bool) := [("BlackSun$Moves", "found", "I", false), ("BlackSun$Moves", "allDx", "I", false), ("BlackSun$Moves", "allDy", "I", false), ("BlackSun$Moves", "greatest", "I", false), ("BlackSun$Moves", "plate", "I", false), ("BlackSun$Moves", "star", "I", false)]
def ax_fl_11 : List (String × String × String × Bool) := [("BlackSunModel", "thrown", "I", false), ("BlackSunModel", "now", "I", false), ("BlackSunModel", "stars", "I", false), ("BlackSunModel", "plates", "I", false), ("BlackSunModel", "images", "I", false), ("BlackSunModel", "starX", "[I", true), ("BlackSunModel", "starY", "[I", true), ("BlackSunModel", "bright", "[I", true), ("BlackSunModel", "island", "[I", true), ("BlackSunModel", "kind", "[I", true), ("BlackSunModel", "heat", "[I", true), ("BlackSunModel", "plateOf", "[I", true), ("BlackSunModel", "starOf", "[I", true), ("BlackSunModel", "handOf", "[I", true), ("BlackSunModel", "dxOf", "[I", true), ("BlackSunModel", "dyOf", "[I", true), ("BlackSunModel", "weekOf", "[I", true), ("BlackSunModel", "taped", "I", false), ("BlackSunModel", "p", "I", false), ("BlackSunModel", "fault", "I", false), ("BlackSunModel", "ways", "I", false), ("BlackSunModel", "entries", "I", false), ("BlackSunModel", "deep", "I", false), ("BlackSunModel", "counted", "I", false), ("BlackSunModel", "opened", "I", false), ("BlackSunModel", "fitted", "I", false), ("BlackSunModel", "tape", "[B", true), ("BlackSunModel", "sort", "[I", true), ("BlackSunModel", "number", "[I", true), ("BlackSunModel", "leaveAt", "[I", true), ("BlackSunModel", "leaveEnd", "[I", true), ("BlackSunModel", "leaves", "[I", true), ("BlackSunModel", "handIn", "[I", true), ("BlackSunModel", "role", "[I", true), ("BlackSunModel", "heldAt", "[I", true), ("BlackSunModel", "open", "[I", true), ("BlackSunModel", "asked", "[J", true), ("BlackSunModel", "stack", "[J", true), ("BlackSunModel", "taken", "[Z", true), ("BlackSunModel", "fits", "[I", true), ("BlackSunModel", "held", "[J", true), ("BlackSunModel", "sums", "[J", true), ("BlackSunModel", "right", "[J", true), ("BlackSunModel", "factors", "[J", true), ("BlackSunModel", "answers", "[J", true), ("BlackSunModel", "isHeld", "[Z", true), ("BlackSunModel", "outX", "[I", true), ("BlackSunModel", "outY", "[I", true), ("BlackSunModel", "isOut", "[Z", true), ("BlackSunModel", "fitMany", "I", false), ("BlackSunModel", "used", "I", false), ("BlackSunModel", "quotient", "J", false), ("BlackSunModel", "rest", "J", false), ("BlackSunModel", "has", "[Z", true), ("BlackSunModel", "above", "J", false), ("BlackSunModel", "below", "J", false), ("BlackSunModel", "toldIn", "[I", true), ("BlackSunModel", "joinAnswer", "J", false), ("BlackSunModel", "joinUsed", "I", false), ("BlackSunModel", "sayings", "I", false), ("BlackSunModel", "saidWay", "[I", true), ("BlackSunModel", "saidNumber", "[I", true), ("BlackSunModel", "saidIn", "[I", true), ("BlackSunModel", "fields", "I", false), ("BlackSunModel", "minutesOf", "[I", true), ("BlackSunModel", "fieldStars", "[I", true), ("BlackSunModel", "draw", "J", false), ("BlackSunModel", "cold", "[I", true), ("BlackSunModel", "more", "[I", true), ("BlackSunModel", "onPlate", "I", false), ("BlackSunModel", "marks", "[I", true), ("BlackSunModel", "scalars", "[I", true), ("BlackSunModel", "isMarked", "[Z", true), ("BlackSunModel", "markAt", "I", false), ("BlackSunModel", "isBack", "Z", false)]
def ax_fl : Nat → List (String × String × String × Bool)
  | 0 => ax_fl_0
  | 1 => ax_fl_1
  | 2 => ax_fl_2
  | 3 => ax_fl_3
  | 4 => ax_fl_4
  | 5 => ax_fl_5
  | 6 => ax_fl_6
  | 7 => ax_fl_7
  | 8 => ax_fl_8
  | 9 => ax_fl_9
  | 10 => ax_fl_10
  | 11 => ax_fl_11
  | _ => []
def ax_tl : Nat → List Nat
  | 0 => [2, 2, 2, 2, 2]
  | 1 => [0, 2, 2, 2, 0, 2, 0, 2, 2, 2, 0, 2, 2, 2, 2, 2, 2]
  | 2 => [0, 2, 2, 2]
  | 3 => [0, 2, 2, 2]
  | 4 => [0, 2, 2, 2, 2, 2, 2, 2]
  | 5 => [2, 2, 0, 2]
  | 6 => [0, 0, 2, 0, 0, 0, 0, 0, 0, 0, 2, 0, 2, 2, 2]
  | 7 => [0, 2, 2, 0, 0, 2, 2, 2, 2, 2, 2, 2, 2, 2, 1]
  | 8 => [1, 1, 1]
  | 9 => [1, 1]
  | 10 => [0, 0, 0, 0, 0, 0]
  | 11 => [0, 0, 0, 0, 0, 2, 2, 2, 2, 2, 2, 2, 2, 2, 2, 2, 2, 0, 0, 0, 0, 0, 0, 0, 0, 0, 2, 2, 2, 2, 2, 2, 2, 2, 2, 2, 2, 2, 2, 2, 2, 2, 2, 2, 2, 2, 2, 2, 2, 0, 0, 1, 1, 2, 1, 1, 2, 1, 0, 0, 2, 2, 2, 0, 2, 2, 1, 2, 2, 0, 2, 2, 2, 0, 3]
  | _ => []
def ax_ft (c k : Nat) : Nat := (ax_tl c).getD k 0
def ax_n : Nat → Nat
  | 0 => 5
  | 1 => 17
  | 2 => 4
  | 3 => 4
  | 4 => 8
  | 5 => 4
  | 6 => 15
  | 7 => 15
  | 8 => 3
  | 9 => 2
  | 10 => 6
  | 11 => 75
  | _ => 0
def ax_T (c : Nat) : u_T := fun k => (ax_fl c).getD k ("", "", "", false)
def ax_ty (c k : Nat) : FieldType := (parseFieldDescriptor (ax_T c k).2.2.1).getD .int
def ax_cls : List vw_C := (List.range 12).map (fun c => (ax_cn c, ax_T c, ax_n c))
def ax_nest : List (String × Nat × MethodName × String) := [("BlackSun$Book", 11, ⟨"BlackSun$Stars", "<init>", "()V"⟩, "BlackSun"), ("BlackSun$Book", 20, ⟨"BlackSun$Plates", "<init>", "()V"⟩, "BlackSun"), ("BlackSun$Book", 27, ⟨"BlackSun$Images", "<init>", "()V"⟩, "BlackSun"), ("BlackSun", 22, ⟨"BlackSun$Reader", "<init>", "()V"⟩, "BlackSun"), ("BlackSun", 29, ⟨"BlackSun$Fit", "<init>", "()V"⟩, "BlackSun"), ("BlackSun", 36, ⟨"BlackSun$Mix", "<init>", "()V"⟩, "BlackSun"), ("BlackSun$Stars", 25, ⟨"BlackSun", "isWithin", "(III)Z"⟩, "BlackSun"), ("BlackSun$Plates", 25, ⟨"BlackSun", "isWithin", "(III)Z"⟩, "BlackSun"), ("BlackSun$Book", 70, ⟨"BlackSun", "isWithin", "(III)Z"⟩, "BlackSun"), ("BlackSun$Book", 133, ⟨"BlackSun", "isNear", "(III)Z"⟩, "BlackSun"), ("BlackSun", 241, ⟨"BlackSun$Lean", "<init>", "()V"⟩, "BlackSun"), ("BlackSun$Fit", 233, ⟨"BlackSun", "isNear", "(III)Z"⟩, "BlackSun"), ("BlackSun", 337, ⟨"BlackSun$Moves", "<init>", "()V"⟩, "BlackSun")]
def ax_strs : List (String × Nat × String) := [("BlackSun$Reader", 84, "fit hold check leave hand "), ("BlackSun$Reader", 100, "east north scale turn light bend "), ("BlackSun$Reader", 110, "if "), ("BlackSun$Reader", 134, "not "), ("BlackSun$Reader", 162, "plate island kind heat star bright far x y dx dy week hand "), ("BlackSun$Reader", 149, "and "), ("BlackSun$Reader", 151, "or "), ("BlackSunModel", 358, "fit"), ("BlackSunModel", 360, "hold"), ("BlackSunModel", 362, "check"), ("BlackSunModel", 364, "leave"), ("BlackSunModel", 257, "hand"), ("BlackSunModel", 366, "if"), ("BlackSunModel", 335, "not"), ("BlackSunModel", 238, "plate"), ("BlackSunModel", 240, "island"), ("BlackSunModel", 241, "kind"), ("BlackSunModel", 242, "heat"), ("BlackSunModel", 243, "star"), ("BlackSunModel", 245, "bright"), ("BlackSunModel", 246, "far"), ("BlackSunModel", 247, "x"), ("BlackSunModel", 249, "y"), ("BlackSunModel", 251, "dx"), ("BlackSunModel", 253, "dy"), ("BlackSunModel", 255, "week"), ("BlackSunModel", 348, "and"), ("BlackSunModel", 350, "or"), ("BlackSunModel", 226, "east"), ("BlackSunModel", 228, "north"), ("BlackSunModel", 230, "scale"), ("BlackSunModel", 232, "turn"), ("BlackSunModel", 234, "light"), ("BlackSunModel", 236, "bend")]
/-- kinds of rows and their component types -/
def ax_at : Nat → FieldType
  | 16 => .int
  | 17 => .long
  | 18 => .byte
  | 19 => .boolean
  | 20 => .object "BlackSun$Way"
  | 21 => .object "BlackSun$Book"
  | _ => .array .long
theorem ax_lt12 {P : Nat → Prop} (h0 : P 0) (h1 : P 1) (h2 : P 2) (h3 : P 3) (h4 : P 4) (h5 : P 5) (h6 : P 6) (h7 : P 7) (h8 : P 8) (h9 : P 9) (h10 : P 10) (h11 : P 11) : ∀ c, c < 12 → P c := by
  intro c hc
  match c, hc with
  | 0, _ => exact h0
  | 1, _ => exact h1
  | 2, _ => exact h2
  | 3, _ => exact h3
  | 4, _ => exact h4
  | 5, _ => exact h5
  | 6, _ => exact h6
  | 7, _ => exact h7
  | 8, _ => exact h8
  | 9, _ => exact h9
  | 10, _ => exact h10
  | 11, _ => exact h11
  | n + 12, h => exact absurd h (by omega)
theorem ax_cls_at : ∀ c, c < 12 → ax_cls[c]? = some (ax_cn c, ax_T c, ax_n c) := ax_lt12 rfl rfl rfl rfl rfl rfl rfl rfl rfl rfl rfl rfl
theorem ax_cls_len : ax_cls.length = 12 := rfl
theorem ax_tok : ∀ c, c < 12 → ∀ k, k < ax_n c → parseFieldDescriptor (ax_T c k).2.2.1 = some (ax_ty c k) := by decide +kernel
theorem ax_nok : ∀ c, c < 12 → ∀ a, a < ax_n c → ∀ b, b < ax_n c → a ≠ b → (ax_T c a).2.1 ≠ (ax_T c b).2.1 := by decide +kernel
/-- the types by their numbers -/
def ax_tyok (c k : Nat) : Bool := match ax_ft c k, ax_ty c k with
  | 0, .int => true
  | 3, .boolean => true
  | 1, .long => true
  | 2, .object _ => true
  | 2, .array _ => true
  | _, _ => false
theorem ax_tyoks : ∀ c, c < 12 → ∀ k, k < ax_n c → ax_tyok c k = true := by decide +kernel
def ax_G : List Cond := lw_tbl.filter goodWord
theorem ax_win_0 : ∀ w ∈ u_ws (ax_cn 0) (ax_T 0) (ax_n 0), w ∈ ax_G := by decide +kernel
theorem ax_win_1 : ∀ w ∈ u_ws (ax_cn 1) (ax_T 1) (ax_n 1), w ∈ ax_G := by decide +kernel
theorem ax_win_2 : ∀ w ∈ u_ws (ax_cn 2) (ax_T 2) (ax_n 2), w ∈ ax_G := by decide +kernel
theorem ax_win_3 : ∀ w ∈ u_ws (ax_cn 3) (ax_T 3) (ax_n 3), w ∈ ax_G := by decide +kernel
theorem ax_win_4 : ∀ w ∈ u_ws (ax_cn 4) (ax_T 4) (ax_n 4), w ∈ ax_G := by decide +kernel
theorem ax_win_5 : ∀ w ∈ u_ws (ax_cn 5) (ax_T 5) (ax_n 5), w ∈ ax_G := by decide +kernel
theorem ax_win_6 : ∀ w ∈ u_ws (ax_cn 6) (ax_T 6) (ax_n 6), w ∈ ax_G := by decide +kernel
theorem ax_win_7 : ∀ w ∈ u_ws (ax_cn 7) (ax_T 7) (ax_n 7), w ∈ ax_G := by decide +kernel
theorem ax_win_8 : ∀ w ∈ u_ws (ax_cn 8) (ax_T 8) (ax_n 8), w ∈ ax_G := by decide +kernel
theorem ax_win_9 : ∀ w ∈ u_ws (ax_cn 9) (ax_T 9) (ax_n 9), w ∈ ax_G := by decide +kernel
theorem ax_win_10 : ∀ w ∈ u_ws (ax_cn 10) (ax_T 10) (ax_n 10), w ∈ ax_G := by decide +kernel
theorem ax_win_11 : ∀ w ∈ u_ws (ax_cn 11) (ax_T 11) (ax_n 11), w ∈ ax_G := by decide +kernel
theorem ax_win : ∀ c, c < 12 → ∀ w ∈ u_ws (ax_cn c) (ax_T c) (ax_n c), w ∈ ax_G := ax_lt12 ax_win_0 ax_win_1 ax_win_2 ax_win_3 ax_win_4 ax_win_5 ax_win_6 ax_win_7 ax_win_8 ax_win_9 ax_win_10 ax_win_11
theorem ax_inst : ∀ c, c < 12 → Cond.instantiable (ax_cn c) (ax_n c) ∈ ax_G := by decide +kernel
theorem ax_init : ∀ c, c < 12 → Cond.initialized (ax_cn c) ∈ ax_G := by decide +kernel
theorem ax_G_sub {w : Cond} (h : w ∈ ax_G) : w ∈ lw_tbl := (List.mem_filter.mp h).1
theorem ax_G_good : GoodIn ax_G ax_G := fun w h => ⟨h, good_of_word (List.mem_filter.mp h).2⟩
end
section
theorem ax_u1n {α : Type} {f : Nat → α} {a b : Nat} {v : α} (h : b ≠ a) : u1 f a v b = f b := by simp [u1, h]
theorem ax_u1s {α : Type} {f : Nat → α} {a : Nat} {v : α} : u1 f a v a = v := by simp [u1]
/-! THE PICTURE: what the machine's heap is, of a pure heap -/
def ax_obj (X : ax_X) (h : ax_H) (H : Heap) (a c : Nat) : Prop := t_OB (ax_r X a) (xC X c) (ax_n c) (xI X c) H (fun k => ax_fv X h a (ax_ft c k) k)
def ax_row (X : ax_X) (h : ax_H) (H : Heap) (a kd : Nat) : Prop := H[ax_r X a]? = some (arrV (xR X kd) (gS h a).2 (ax_av X h a kd))
def ax_cell (X : ax_X) (h : ax_H) (H : Heap) (a : Nat) : Prop := ((gS h a).1 < 12 ∧ ax_obj X h H a (gS h a).1) ∨ (16 ≤ (gS h a).1 ∧ (gS h a).1 < 23 ∧ ax_row X h H a (gS h a).1)
def ax_Rep (X : ax_X) (h : ax_H) (H : Heap) : Prop :=
  64 ≤ gN h ∧ H.size = xB X + (gN h - 64) ∧ (∀ a, 64 ≤ a → a < gN h → ax_cell X h H a) ∧ (∀ q, q < xB X → H[q]? = (xH X)[q]?) ∧
  (∀ a, (a < 64 ∨ gN h ≤ a) → a ≠ 40 → (gS h a).1 = 99) ∧ gS h 40 = (24, xL X) ∧ (∀ j, j < xL X → gI h 40 j = xS X j) ∧ (xH X).size = xB X
theorem ax_valid {X : ax_X} {h : ax_H} {H : Heap} (R : ax_Rep X h H) {a : Nat} (hk : (gS h a).1 < 23) : 64 ≤ a ∧ a < gN h := by
  obtain ⟨-, -, -, -, r5, r6, -⟩ := R
  by_cases h40 : a = 40
  · subst h40; rw [r6] at hk; exact absurd hk (by show ¬ 24 < 23; decide)
  · by_cases hv : a < 64 ∨ gN h ≤ a
    · have := r5 a hv h40; omega
    · omega
theorem ax_getO {X : ax_X} {h : ax_H} {H : Heap} (R : ax_Rep X h H) {a c : Nat} (hk : (gS h a).1 = c) (hc : c < 12) : ax_obj X h H a c := by
  obtain ⟨h1, h2⟩ := ax_valid R (a := a) (by omega)
  rcases R.2.2.1 a h1 h2 with ⟨-, h⟩ | ⟨h, -⟩
  · rw [hk] at h; exact h
  · omega
theorem ax_getA {X : ax_X} {h : ax_H} {H : Heap} (R : ax_Rep X h H) {a c : Nat} (hk : (gS h a).1 = c) (hc : 16 ≤ c) (hc2 : c < 23) : ax_row X h H a c := by
  obtain ⟨h1, h2⟩ := ax_valid R (a := a) (by omega)
  rcases R.2.2.1 a h1 h2 with ⟨h, -⟩ | ⟨-, -, h⟩
  · omega
  · rw [hk] at h; exact h
theorem ax_ne0 {X : ax_X} {h : ax_H} {H : Heap} (R : ax_Rep X h H) {a : Nat} (hk : (gS h a).1 < 23) : a ≠ 0 := by
  have := (ax_valid R hk).1; omega
/-- the pure heap changes at one cell only; the machine's likewise -/
theorem ax_set {X : ax_X} {h h1 : ax_H} {H H1 : Heap} (R : ax_Rep X h H) {a : Nat} (ha : (gS h a).1 < 23) (eN : gN h1 = gN h) (eS : ∀ b, gS h1 b = gS h b) (hoI : ∀ b, b ≠ a → gI h1 b = gI h b) (hoL : ∀ b, b ≠ a → gL h1 b = gL h b) (hoR : ∀ b, b ≠ a → gR h1 b = gR h b)
    (hz : H1.size = H.size) (ho : ∀ q, q ≠ ax_r X a → H1[q]? = H[q]?) (hc : ax_cell X h1 H1 a) : ax_Rep X h1 H1 := by
  obtain ⟨v1, v2⟩ := ax_valid R ha
  obtain ⟨r1, r2, r3, r4, r5, r6, r7, r8⟩ := R
  refine ⟨by rw [eN]; exact r1, by rw [hz, eN]; exact r2, fun b b1 b2 => ?_, fun q hq => ?_, fun b hb h40 => ?_, by rw [eS]; exact r6, fun j hj => ?_, r8⟩
  · by_cases hb : b = a
    · rw [hb]; exact hc
    · have hne : ax_r X b ≠ ax_r X a := fun e => hb (ax_r_inj b1 v1 e)
      have e1 : H1[ax_r X b]? = H[ax_r X b]? := ho _ hne
      have f1 := hoI b hb
      have f2 := hoL b hb
      have f3 := hoR b hb
      rcases r3 b b1 (by rw [← eN]; exact b2) with ⟨k1, k2⟩ | ⟨k1, k2, k3⟩
      · left
        rw [eS]
        refine ⟨k1, ?_⟩
        exact t_OB.to (t_OB.kept k2 e1) (fun k _ => by simp only [ax_fv, f1, f2, f3])
      · right
        rw [eS]
        refine ⟨k1, k2, ?_⟩
        unfold ax_row at k3 ⊢
        rw [e1, k3, eS]
        have : ax_av X h b (gS h b).1 = ax_av X h1 b (gS h b).1 := by
          funext j; simp only [ax_av, f1, f2, f3]
        rw [this]
  · rw [ho q (by rw [ax_r_hi v1]; omega)]; exact r4 q hq
  · rw [eS]; exact r5 b (by rw [← eN]; exact hb) h40
  · rw [hoI 40 (by omega)]; exact r7 j hj
theorem ax_gI_p (h : ax_H) (a k : Nat) (v : Int32) (b : Nat) : gI (pI h a k v) b = if b = a then upd (gI h a) k v else gI h b := by
  funext j
  by_cases e : b = a
  · subst e; by_cases e2 : j = k <;> simp [gI, pI, u2, upd, e2]
  · simp [gI, pI, u2, e]
theorem ax_putI {X : ax_X} {h : ax_H} {H H1 : Heap} (R : ax_Rep X h H) {a c k : Nat} {cell : Cell} {v : Int32} (hk : (gS h a).1 = c) (hc : c < 12) (hap : ∀ x y, x < ax_n c → y < ax_n c → x ≠ y → (xI X c) x ≠ (xI X c) y) (hn : k < ax_n c) (ht : ax_ft c k ≠ 1 ∧ ax_ft c k ≠ 2) (e0 : H[ax_r X a]? = some cell)
    (e1 : H1[ax_r X a]? = some (cell.setSlot (xI X c k) (.int v))) (e2 : H1.size = H.size) (e3 : ∀ q, q ≠ ax_r X a → H1[q]? = H[q]?) : ax_Rep X (pI h a k v) H1 := by
  refine ax_set R (by omega) rfl (fun _ => rfl) (fun b hb => by rw [ax_gI_p, if_neg hb]) (fun _ _ => rfl) (fun _ _ => rfl) e2 e3 ?_
  obtain ⟨cell', q1, q2, q3, q4⟩ := ax_getO R hk hc
  cases e0.symm.trans q1
  left
  refine ⟨by show (gS h a).1 < 12; omega, ?_⟩
  show ax_obj X (pI h a k v) H1 a (gS h a).1
  rw [hk]
  refine t_OB.to (V := updV (fun k => ax_fv X h a (ax_ft c k) k) k (.int v)) ⟨_, e1, q2, q3, t_set q4 hap hn (.int v)⟩ (fun j _ => ?_)
  by_cases e : j = k
  · subst e
    simp [updV, ax_fv, ht.1, ht.2, gI, pI, u2]
  · simp [updV, ax_fv, e, gI, pI, u2, gL, gR]
theorem ax_putL {X : ax_X} {h : ax_H} {H H1 : Heap} (R : ax_Rep X h H) {a c k : Nat} {cell : Cell} {v : Int64} (hk : (gS h a).1 = c) (hc : c < 12) (hap : ∀ x y, x < ax_n c → y < ax_n c → x ≠ y → (xI X c) x ≠ (xI X c) y) (hn : k < ax_n c) (ht : ax_ft c k = 1) (e0 : H[ax_r X a]? = some cell)
    (e1 : H1[ax_r X a]? = some (cell.setSlot (xI X c k) (.long v))) (e2 : H1.size = H.size) (e3 : ∀ q, q ≠ ax_r X a → H1[q]? = H[q]?) : ax_Rep X (pL h a k v) H1 := by
  refine ax_set R (by omega) rfl (fun _ => rfl) (fun _ _ => rfl) (fun b hb => by funext j; simp [gL, pL, u2, hb]) (fun _ _ => rfl) e2 e3 ?_
  obtain ⟨cell', q1, q2, q3, q4⟩ := ax_getO R hk hc
  cases e0.symm.trans q1
  left
  refine ⟨by show (gS h a).1 < 12; omega, ?_⟩
  show ax_obj X (pL h a k v) H1 a (gS h a).1
  rw [hk]
  refine t_OB.to (V := updV (fun k => ax_fv X h a (ax_ft c k) k) k (.long v)) ⟨_, e1, q2, q3, t_set q4 hap hn (.long v)⟩ (fun j _ => ?_)
  by_cases e : j = k
  · subst e
    simp [updV, ax_fv, ht, gL, pL, u2]
  · simp [updV, ax_fv, e, gI, pL, u2, gL, gR]
theorem ax_putR {X : ax_X} {h : ax_H} {H H1 : Heap} (R : ax_Rep X h H) {a c k : Nat} {cell : Cell} {v : Nat} (hk : (gS h a).1 = c) (hc : c < 12) (hap : ∀ x y, x < ax_n c → y < ax_n c → x ≠ y → (xI X c) x ≠ (xI X c) y) (hn : k < ax_n c) (ht : ax_ft c k = 2) (e0 : H[ax_r X a]? = some cell)
    (e1 : H1[ax_r X a]? = some (cell.setSlot (xI X c k) (ax_v X (.ref v)))) (e2 : H1.size = H.size) (e3 : ∀ q, q ≠ ax_r X a → H1[q]? = H[q]?) : ax_Rep X (pR h a k v) H1 := by
  refine ax_set R (by omega) rfl (fun _ => rfl) (fun _ _ => rfl) (fun _ _ => rfl) (fun b hb => by funext j; simp [gR, pR, u2, hb]) e2 e3 ?_
  obtain ⟨cell', q1, q2, q3, q4⟩ := ax_getO R hk hc
  cases e0.symm.trans q1
  left
  refine ⟨by show (gS h a).1 < 12; omega, ?_⟩
  show ax_obj X (pR h a k v) H1 a (gS h a).1
  rw [hk]
  refine t_OB.to (V := updV (fun k => ax_fv X h a (ax_ft c k) k) k (ax_v X (.ref v))) ⟨_, e1, q2, q3, t_set q4 hap hn (ax_v X (.ref v))⟩ (fun j _ => ?_)
  by_cases e : j = k
  · subst e
    simp [updV, ax_fv, ht, gR, pR, u2]
  · simp [updV, ax_fv, e, gI, pR, u2, gL, gR]
/-- a row's cell after a store -/
theorem ax_astI {X : ax_X} {h : ax_H} {H H1 : Heap} (R : ax_Rep X h H) {a c j : Nat} {v : Int32} (hk : (gS h a).1 = c) (hc : c = 16 ∨ c = 18 ∨ c = 19)
    (e1 : H1[ax_r X a]? = some ((arrV (xR X c) (gS h a).2 (ax_av X h a c)).setSlot j (.int v))) (e2 : H1.size = H.size) (e3 : ∀ q, q ≠ ax_r X a → H1[q]? = H[q]?) : ax_Rep X (pI h a j v) H1 := by
  refine ax_set R (by omega) rfl (fun _ => rfl) (fun b hb => by rw [ax_gI_p, if_neg hb]) (fun _ _ => rfl) (fun _ _ => rfl) e2 e3 ?_
  right
  refine ⟨by show 16 ≤ (gS h a).1; omega, by show (gS h a).1 < 23; omega, ?_⟩
  show H1[ax_r X a]? = some (arrV (xR X (gS h a).1) (gS h a).2 (ax_av X (pI h a j v) a (gS h a).1))
  rw [e1, hk, arrV_store]
  have : updV (ax_av X h a c) j (.int v) = ax_av X (pI h a j v) a c := by
    funext i
    by_cases e : i = j
    · subst e; simp only [updV, ax_av]; rcases hc with rfl | rfl | rfl <;> simp [gI, pI, u2]
    · simp only [updV, ax_av]; rcases hc with rfl | rfl | rfl <;> simp [gI, pI, u2, e]
  rw [this]
theorem ax_astL {X : ax_X} {h : ax_H} {H H1 : Heap} (R : ax_Rep X h H) {a j : Nat} {v : Int64} (hk : (gS h a).1 = 17)
    (e1 : H1[ax_r X a]? = some ((arrV (xR X 17) (gS h a).2 (ax_av X h a 17)).setSlot j (.long v))) (e2 : H1.size = H.size) (e3 : ∀ q, q ≠ ax_r X a → H1[q]? = H[q]?) : ax_Rep X (pL h a j v) H1 := by
  refine ax_set R (by omega) rfl (fun _ => rfl) (fun _ _ => rfl) (fun b hb => by funext j; simp [gL, pL, u2, hb]) (fun _ _ => rfl) e2 e3 ?_
  right
  refine ⟨by show 16 ≤ (gS h a).1; omega, by show (gS h a).1 < 23; omega, ?_⟩
  show H1[ax_r X a]? = some (arrV (xR X (gS h a).1) (gS h a).2 (ax_av X (pL h a j v) a (gS h a).1))
  rw [e1, hk, arrV_store]
  have : updV (ax_av X h a 17) j (.long v) = ax_av X (pL h a j v) a 17 := by
    funext i
    by_cases e : i = j
    · subst e; simp [updV, ax_av, gL, pL, u2]
    · simp [updV, ax_av, gL, pL, u2, e]
  rw [this]
theorem ax_astR {X : ax_X} {h : ax_H} {H H1 : Heap} (R : ax_Rep X h H) {a c j v : Nat} (hk : (gS h a).1 = c) (hc : 20 ≤ c) (hc2 : c < 23)
    (e1 : H1[ax_r X a]? = some ((arrV (xR X c) (gS h a).2 (ax_av X h a c)).setSlot j (ax_v X (.ref v)))) (e2 : H1.size = H.size) (e3 : ∀ q, q ≠ ax_r X a → H1[q]? = H[q]?) : ax_Rep X (pR h a j v) H1 := by
  refine ax_set R (by omega) rfl (fun _ => rfl) (fun _ _ => rfl) (fun _ _ => rfl) (fun b hb => by funext j; simp [gR, pR, u2, hb]) e2 e3 ?_
  right
  refine ⟨by show 16 ≤ (gS h a).1; omega, by show (gS h a).1 < 23; omega, ?_⟩
  show H1[ax_r X a]? = some (arrV (xR X (gS h a).1) (gS h a).2 (ax_av X (pR h a j v) a (gS h a).1))
  rw [e1, hk, arrV_store]
  have n1 : ¬ c = 17 := by omega
  have n2 : ¬ c < 20 := by omega
  have : updV (ax_av X h a c) j (ax_v X (.ref v)) = ax_av X (pR h a j v) a c := by
    funext i
    by_cases e : i = j
    · subst e; simp [updV, ax_av, n1, n2, gR, pR, u2]
    · simp [updV, ax_av, n1, n2, gR, pR, u2, e]
  rw [this]
/-- a whole row anew -/
theorem ax_rowI {X : ax_X} {h : ax_H} {H H1 : Heap} (R : ax_Rep X h H) {a c : Nat} {f : Nat → Int32} (hk : (gS h a).1 = c) (hc : c = 16 ∨ c = 18 ∨ c = 19)
    (e1 : H1[ax_r X a]? = some (arrV (xR X c) (gS h a).2 (fun j => .int (f j)))) (e2 : H1.size = H.size) (e3 : ∀ q, q ≠ ax_r X a → H1[q]? = H[q]?) : ax_Rep X (rI h a f) H1 := by
  refine ax_set R (by omega) rfl (fun _ => rfl) (fun b hb => ax_u1n (f := h.2.2.2.1) hb) (fun _ _ => rfl) (fun _ _ => rfl) e2 e3 ?_
  right
  refine ⟨by show 16 ≤ (gS h a).1; omega, by show (gS h a).1 < 23; omega, ?_⟩
  show H1[ax_r X a]? = some (arrV (xR X (gS h a).1) (gS h a).2 (ax_av X (rI h a f) a (gS h a).1))
  rw [e1, hk]
  have : (fun j => Value.int (f j)) = ax_av X (rI h a f) a c := by
    funext i
    simp only [ax_av]; rcases hc with rfl | rfl | rfl <;> simp [gI, rI, u1]
  rw [this]
theorem ax_rowL {X : ax_X} {h : ax_H} {H H1 : Heap} (R : ax_Rep X h H) {a : Nat} {f : Nat → Int64} (hk : (gS h a).1 = 17)
    (e1 : H1[ax_r X a]? = some (arrV (xR X 17) (gS h a).2 (fun j => .long (f j)))) (e2 : H1.size = H.size) (e3 : ∀ q, q ≠ ax_r X a → H1[q]? = H[q]?) : ax_Rep X (rL h a f) H1 := by
  refine ax_set R (by omega) rfl (fun _ => rfl) (fun _ _ => rfl) (fun b hb => ax_u1n (f := h.2.2.2.2.1) hb) (fun _ _ => rfl) e2 e3 ?_
  right
  refine ⟨by show 16 ≤ (gS h a).1; omega, by show (gS h a).1 < 23; omega, ?_⟩
  show H1[ax_r X a]? = some (arrV (xR X (gS h a).1) (gS h a).2 (ax_av X (rL h a f) a (gS h a).1))
  rw [e1, hk]
  have : (fun j => Value.long (f j)) = ax_av X (rL h a f) a 17 := by
    funext i
    simp [ax_av, gL, rL, u1]
  rw [this]
/-- a new cell -/
theorem ax_new {X : ax_X} {h : ax_H} {H H1 : Heap} (R : ax_Rep X h H) {kd len z : Nat} (hz : H1.size = H.size + 1) (ho : ∀ q, q < H.size → H1[q]? = H[q]?) (hc : ax_cell X (nW h kd len z) H1 (gN h)) : ax_Rep X (nW h kd len z) H1 := by
  obtain ⟨r1, r2, r3, r4, r5, r6, r7, r8⟩ := R
  have eN : gN (nW h kd len z) = gN h + 1 := rfl
  have eS : ∀ b, b ≠ gN h → gS (nW h kd len z) b = gS h b := fun b hb => ax_u1n (f := h.2.2.1) (show b ≠ h.1 from hb)
  have f1 : ∀ b, b ≠ gN h → gI (nW h kd len z) b = gI h b := fun b hb => ax_u1n (f := h.2.2.2.1) (show b ≠ h.1 from hb)
  have f2 : ∀ b, b ≠ gN h → gL (nW h kd len z) b = gL h b := fun b hb => ax_u1n (f := h.2.2.2.2.1) (show b ≠ h.1 from hb)
  have f3 : ∀ b, b ≠ gN h → gR (nW h kd len z) b = gR h b := fun b hb => ax_u1n (f := h.2.2.2.2.2) (show b ≠ h.1 from hb)
  refine ⟨by omega, by rw [hz, r2, eN]; omega, fun b b1 b2 => ?_, fun q hq => by rw [ho q (by omega)]; exact r4 q hq, fun b hb h40 => by rw [eS b (by omega)]; exact r5 b (by omega) h40, by rw [eS 40 (by omega)]; exact r6, fun j hj => by rw [f1 40 (by omega)]; exact r7 j hj, r8⟩
  by_cases hb : b = gN h
  · rw [hb]; exact hc
  · have e1 : H1[ax_r X b]? = H[ax_r X b]? := ho _ (by rw [ax_r_hi b1, r2]; omega)
    rcases r3 b b1 (by omega) with ⟨k1, k2⟩ | ⟨k1, k2, k3⟩
    · left
      rw [eS b hb]
      exact ⟨k1, t_OB.to (t_OB.kept k2 e1) (fun k _ => by simp only [ax_fv, f1 b hb, f2 b hb, f3 b hb])⟩
    · right
      rw [eS b hb]
      refine ⟨k1, k2, ?_⟩
      unfold ax_row at k3 ⊢
      rw [e1, k3, eS b hb]
      have : ax_av X h b (gS h b).1 = ax_av X (nW h kd len z) b (gS h b).1 := by
        funext j; simp only [ax_av, f1 b hb, f2 b hb, f3 b hb]
      rw [this]
end
section
/-! WHAT IS KNOWN of the launch in every state: classes, rows, private links, String constants, the script -/
def ax_tys (X : ax_X) : List (ClassId × FieldType) := [(xR X 16, ax_at 16), (xR X 17, ax_at 17), (xR X 18, ax_at 18), (xR X 19, ax_at 19), (xR X 20, ax_at 20), (xR X 21, ax_at 21), (xR X 22, ax_at 22)]
/-- String constant number i (from 0): its bytes are those of its text -/
def ax_str (X : ax_X) (U : State) (i : Nat) (tx : String) : Prop := ∃ v : Nat, va_O "java/lang/String" (xA X (i + 1)) (fun q => xB X ≤ q) U (xH X) ∧ va_OF "java/lang/String" "coder" "B" (.int 0) (xA X (i + 1)) (fun q => xB X ≤ q) U (xH X) ∧ va_OF "java/lang/String" "value" "[B" (.ref v) (xA X (i + 1)) (fun q => xB X ≤ q) U (xH X) ∧ va_T .byte v tx.length (fun j => .int (nI ((tx.toList.map Char.toNat).getD j 0))) (fun q => xB X ≤ q) U (xH X)
def ax_K (X : ax_X) (U : State) : Prop :=
  va_K (xC X, xI X) ax_cls (ax_tys X) U ∧ (∀ q ∈ ax_nest, va_Nw (.methodLinkNest q.1 q.2.1 q.2.2.1 q.2.2.2) U) ∧ (∀ (i : Nat) (q : String × Nat × String), ax_strs[i]? = some q → vk_R q.1 q.2.1 q.2.2 (xA X (i + 1)) U ∧ ax_str X U i q.2.2) ∧
  (va_Nw (.arrayOver (.object "BlackSun$Way")) U ∧ va_Nw (.arrayOver (.object "BlackSun$Book")) U ∧ va_Nw (.arrayOver (.array .long)) U ∧ va_Nw (.castable "[I" "java/lang/Cloneable") U) ∧
  va_X (xA X 40) (xL X) (xS X) U (xH X) ∧ xA X 40 < xB X ∧ xL X < 2 ^ 31 ∧ (xH X).size = xB X ∧
  va_Z "java/lang/String" "COMPACT_STRINGS" "Z" (.int 1) (fun q => xB X ≤ q) U (xH X) ∧ va_Zq "jdk/internal/util/Preconditions" "SIOOBE_FORMATTER" "Ljava/util/function/BiFunction;" (fun q => xB X ≤ q) U (xH X)
theorem ax_str.moved {X : ax_X} {u U : State} {i : Nat} {tx : String} (hvm : u.vm.Alike U.vm) (h : ax_str X u i tx) : ax_str X U i tx := by
  obtain ⟨v, h1, h2, h3, h4⟩ := h
  exact ⟨v, va_O.moved hvm h1, va_OF.moved hvm h2, va_OF.moved hvm h3, va_T.moved hvm h4⟩
theorem ax_overA {t : FieldType} {u U : State} (hvm : u.vm.Alike U.vm) (h : va_Nw (.arrayOver (.array t)) u) : va_Nw (.arrayOver (.array t)) U := by
  obtain ⟨comp, c, k, h1, h2, h3, h4, h5⟩ := arrayOverA_spec (args := #[]) (first := u) (o := none) (idx := []) h
  obtain ⟨k', hk', he⟩ := hvm.2.2 _ _ h3
  have hi : (U.vm.classes.findIdx? fun (x : Class) => match x.kind with | .array component _ => component == comp | _ => false) = some c := by
    rw [hvm.findIdx?_eq _ (fun _ => rfl)]; exact h2
  have hkind : k'.kind = .array comp (.array t) := by rw [he]; exact h4
  have f1 : U.vm.findClass (FieldType.array t).toString = some comp := by rw [hvm.findClass]; exact h1
  have f2 : U.vm.findClass ("[" ++ (FieldType.array t).toString) = some c := by rw [hvm.findClass]; exact h5
  unfold va_Nw Cond.before Cond.holds
  simp only [Cond.value]
  rw [f1, Option.bind_some]
  refine (congrArg (fun o : Option Nat => (o.bind (fun c => (U.vm.classes[c]?).map fun (k : Class) => match k.kind with | .array _ ty => decide (ty = FieldType.array t) && decide (U.vm.findClass ("[" ++ (FieldType.array t).toString) = some c) | _ => false) == some true)) hi).trans ?_
  simp [hk', hkind, f2]
theorem ax_overO {C : String} {u U : State} (hvm : u.vm.Alike U.vm) (h : va_Nw (.arrayOver (.object C)) u) : va_Nw (.arrayOver (.object C)) U := va_AO.moved hvm h
theorem ax_K.warm {X : ax_X} {s U : State} (hW : s.WarmedH U.vm) (h : ax_K X s) : ax_K X U := by
  obtain ⟨h1, h2, h3, ⟨h4, h5, h6, h7⟩, h8, h9, h10, h11, h12, h13⟩ := h
  refine ⟨va_K.moved hW.alike h1, fun q hq => va_Nw.warmM hW (h2 q hq), fun i q hq => ⟨vk_R.warm hW (h3 i q hq).1, (h3 i q hq).2.moved hW.alike⟩, ⟨ax_overO hW.alike h4, ax_overO hW.alike h5, ax_overA hW.alike h6, va_Nw.warmC hW h7⟩, va_X.moved hW.alike h8, h9, h10, h11, va_Z.moved hW.alike h12, va_Zq.moved hW.alike h13⟩
theorem ax_K.same {X : ax_X} {u U : State} (hv : u.vm = U.vm) (h : ax_K X u) : ax_K X U := by
  have hal : u.vm.Alike U.vm := by rw [hv]; exact Vm.Alike.refl _
  obtain ⟨h1, h2, h3, ⟨h4, h5, h6, h7⟩, h8, h9, h10, h11, h12, h13⟩ := h
  refine ⟨va_K.moved hal h1, fun q hq => va_Nw.same rfl hv (h2 q hq), fun i q hq => ⟨vk_R.same hv.symm (h3 i q hq).1, (h3 i q hq).2.moved hal⟩, ⟨ax_overO hal h4, ax_overO hal h5, ax_overA hal h6, va_Nw.same rfl hv h7⟩, va_X.moved hal h8, h9, h10, h11, va_Z.moved hal h12, va_Zq.moved hal h13⟩
theorem ax_Kc {X : ax_X} {U : State} (h : ax_K X U) {c : Nat} (hc : c < 12) : u_Kn U (ax_cn c) (ax_T c) (ax_n c) (xC X c) (xI X c) := h.1.1 c _ (ax_cls_at c hc)
theorem ax_Ka {X : ax_X} {U : State} (h : ax_K X U) {c : Nat} (hc : 16 ≤ c) (hc2 : c < 23) : ArrOfT U (xR X c) (ax_at c) ∧ va_RA U (xR X c) (ax_at c) := by
  have h1 := h.1.2
  match c, hc, hc2 with
  | 16, _, _ => exact h1 0 _ rfl
  | 17, _, _ => exact h1 1 _ rfl
  | 18, _, _ => exact h1 2 _ rfl
  | 19, _, _ => exact h1 3 _ rfl
  | 20, _, _ => exact h1 4 _ rfl
  | 21, _, _ => exact h1 5 _ rfl
  | 22, _, _ => exact h1 6 _ rfl
  | n + 23, _, h => exact absurd h (by omega)
/-- a contract's start and end -/
def ax_Pc (X : ax_X) (av : List Value) (h : ax_H) : Array Value → State → Prop := fun v U => v = (av.map (ax_v X)).toArray ∧ ax_Rep X h U.heap ∧ ax_K X U
def ax_Qc (X : ax_X) (r : Option Value) (h : ax_H) : Array Value → State → Outcome → State → Prop := fun _ _ o t => o = .returned (r.map (ax_v X)) ∧ ax_Rep X h t.heap
theorem ax_Pc.blind {X : ax_X} {av : List Value} {h : ax_H} : FrameBlind (ax_Pc X av h) := fun a U g mk q => ⟨q.1, q.2.1, ax_K.same (u := U) (U := U.calling g mk a) rfl q.2.2⟩
end
section
/-! THE PURE MACHINE: a row of the code is (pc, instruction, length, a, b, z); a method's code is a list of rows; a mark (.jsr) keeps the locals of a mask -/
abbrev ax_E : Type := Nat × Instr × Nat × Nat × Nat × Int
abbrev ax_L : Type := List (Nat × Value)
def ax_c1 (i : Nat) (l : ax_L) : ax_L := l.filter (fun q => !(q.1 == i) && !(q.1 + 1 == i && q.2.category == 2))
def ax_c2 (i : Nat) (l : ax_L) : ax_L := l.filter (fun q => !(q.1 == i) && (!(q.1 == i + 1) && !(q.1 + 1 == i && q.2.category == 2)))
def ax_get (l : ax_L) (i : Nat) : Option Value := match l with
  | [] => none
  | q :: t => if q.1 == i then some q.2 else ax_get t i
/-- the locals of a mark, in order -/
def ax_keep (l : ax_L) : Nat → Nat → ax_L
  | 0, _ => []
  | n + 1, i => if i.testBit 0 then (match ax_get l (32 - (n + 1)) with
      | some v => (32 - (n + 1), v) :: ax_keep l n (i / 2)
      | none => ax_keep l n (i / 2)) else ax_keep l n (i / 2)
def ax_gv (h : ax_H) (x c k : Nat) : Value := if ax_ft c k = 1 then .long (gL h x k) else if ax_ft c k = 2 then .ref (gR h x k) else .int (gI h x k)
abbrev ax_in (h : ax_H) (x kd : Nat) (j : Int32) : Prop := (gS h x).1 = kd ∧ ¬ j < 0 ∧ j.toNatClampNeg < (gS h x).2
abbrev ax_cp (h : ax_H) (x kd : Nat) (p n : Int32) : Prop := (gS h x).1 = kd ∧ ¬ p < 0 ∧ p.toNatClampNeg + n.toNatClampNeg ≤ (gS h x).2
section
variable {α : Type}
def ax_ii (f : Int32 → Int32 → Int32) (st : List Value) (k : List Value → Option α) : Option α := match st with
  | .int y :: .int x :: r => k (.int (f x y) :: r)
  | _ => none
def ax_ll (f : Int64 → Int64 → Int64) (st : List Value) (k : List Value → Option α) : Option α := match st with
  | .long y :: .long x :: r => k (.long (f x y) :: r)
  | _ => none
/-- getfield, putfield -/
def ax_gf (c kf : Nat) (st : List Value) (h : ax_H) (k : List Value → Option α) : Option α := match st with
  | .ref x :: r => if (gS h x).1 = c then k (ax_gv h x c kf :: r) else none
  | _ => none
def ax_pf (c kf : Nat) (st : List Value) (h : ax_H) (k : List Value → ax_H → Option α) : Option α := match st with
  | .int i :: .ref x :: r => if (gS h x).1 = c then (if ax_ft c kf = 0 then k r (pI h x kf i) else if ax_ft c kf = 3 then (if i = 0 ∨ i = 1 then k r (pI h x kf i) else none) else none) else none
  | .long i :: .ref x :: r => if (gS h x).1 = c then (if ax_ft c kf = 1 then k r (pL h x kf i) else none) else none
  | .ref i :: .ref x :: r => if (gS h x).1 = c then (if ax_ft c kf = 2 then k r (pR h x kf i) else none) else none
  | _ => none
/-- reading rows -/
def ax_al (kd : Nat) (st : List Value) (h : ax_H) (k : List Value → Option α) : Option α := match st with
  | .int j :: .ref x :: r => if ax_in h x kd j then k ((if kd = 17 then .long (gL h x j.toNatClampNeg) else if kd < 20 ∨ kd = 24 then .int (gI h x j.toNatClampNeg) else .ref (gR h x j.toNatClampNeg)) :: r) else none
  | _ => none
/-- writing rows; t: what a byte or a boolean keeps of an int -/
def ax_as (kd : Nat) (st : List Value) (h : ax_H) (k : List Value → ax_H → Option α) : Option α := match st with
  | .int v :: .int j :: .ref x :: r => if ax_in h x kd j then (if kd = 16 then k r (pI h x j.toNatClampNeg v) else if kd = 18 then k r (pI h x j.toNatClampNeg v.toInt8.toInt32) else if kd = 19 then k r (pI h x j.toNatClampNeg (v &&& 1)) else none) else none
  | .long v :: .int j :: .ref x :: r => if ax_in h x kd j then (if kd = 17 then k r (pL h x j.toNatClampNeg v) else none) else none
  | .ref v :: .int j :: .ref x :: r => if ax_in h x kd j then (if kd = 20 then (if v = 0 ∨ (gS h v).1 = 5 then k r (pR h x j.toNatClampNeg v) else none) else if kd = 21 then (if v = 0 ∨ (gS h v).1 = 1 then k r (pR h x j.toNatClampNeg v) else none) else none) else none
  | _ => none
def ax_ln (kd : Nat) (st : List Value) (h : ax_H) (k : List Value → Option α) : Option α := match st with
  | .ref x :: r => if (gS h x).1 = kd then k (.int (nI (gS h x).2) :: r) else none
  | _ => none
def ax_na (kd : Nat) (st : List Value) (h : ax_H) (k : List Value → ax_H → Option α) : Option α := match st with
  | .int n :: r => if ¬ n < 0 ∧ n.toNatClampNeg ≤ 100000 then k (.ref (gN h) :: r) (nW h kd n.toNatClampNeg n.toNatClampNeg) else none
  | _ => none
def ax_mn (st : List Value) (h : ax_H) (k : List Value → ax_H → Option α) : Option α := match st with
  | .int k2 :: .int n :: r => if n = 47 ∧ k2 = 13 then k (.ref (gN h) :: r) (nG h 22 17 47 13) else none
  | _ => none
/-- System.arraycopy of rows of kind kd (16 or 17) -/
def ax_ac (kd : Nat) (st : List Value) (h : ax_H) (k : List Value → ax_H → Option α) : Option α := match st with
  | .int n :: .int dp :: .ref y :: .int sp :: .ref x :: r => if ax_cp h x kd sp n ∧ ax_cp h y kd dp n ∧ ¬ n < 0 ∧ (r.map (fun v => v.category)).sum ≤ 8 then
      (if kd = 16 then k r (rI h y (va_cpy (gI h x) (gI h y) sp.toNatClampNeg dp.toNatClampNeg n.toNatClampNeg)) else if kd = 17 then k r (rL h y (va_cpy (gL h x) (gL h y) sp.toNatClampNeg dp.toNatClampNeg n.toNatClampNeg)) else none) else none
  | _ => none
/-- clone of a row of ints -/
def ax_cl (st : List Value) (h : ax_H) (k : List Value → ax_H → Option α) : Option α := match st with
  | .ref x :: r => if (gS h x).1 = 16 ∧ (gS h x).2 ≤ 100000 ∧ (r.map (fun v => v.category)).sum ≤ 8 then k (.ref (gN h) :: r) (rI (nW h 16 (gS h x).2 (gS h x).2) (gN h) (gI h x)) else none
  | _ => none
def ax_cc (kd : Nat) (st : List Value) (h : ax_H) (k : List Value → Option α) : Option α := match st with
  | .ref x :: r => if (gS h x).1 = kd then k (.ref x :: r) else none
  | _ => none
/-- an instruction that goes on at the next row -/
def ax_stp (e : ax_E) (ls : ax_L) (st : List Value) (h : ax_H) (k : ax_L → List Value → ax_H → Option α) : Option α :=
  match e.2.1 with
  | .jsr _ => k (ax_keep ls 32 e.2.2.2.1) st h
  | .iconst _ => k ls (.int (Int32.ofInt e.2.2.2.2.2) :: st) h
  | .bipush _ => k ls (.int (Int32.ofInt e.2.2.2.2.2) :: st) h
  | .sipush _ => k ls (.int (Int32.ofInt e.2.2.2.2.2) :: st) h
  | .ldc_w _ => if e.2.2.2.2.1 = 0 then k ls (.int (Int32.ofInt e.2.2.2.2.2) :: st) h else k ls (.ref e.2.2.2.1 :: st) h
  | .ldc _ => if e.2.2.2.2.1 = 0 then k ls (.int (Int32.ofInt e.2.2.2.2.2) :: st) h else k ls (.ref e.2.2.2.1 :: st) h
  | .lconst _ => k ls (.long (Int64.ofInt e.2.2.2.2.2) :: st) h
  | .ldc2_w _ => k ls (.long (Int64.ofInt e.2.2.2.2.2) :: st) h
  | .aconst_null => k ls (.ref 0 :: st) h
  | .iload _ => (match ax_get ls e.2.2.2.1 with | some (.int x) => k ls (.int x :: st) h | _ => none)
  | .iload_n _ => (match ax_get ls e.2.2.2.1 with | some (.int x) => k ls (.int x :: st) h | _ => none)
  | .lload _ => (match ax_get ls e.2.2.2.1 with | some (.long x) => k ls (.long x :: st) h | _ => none)
  | .lload_n _ => (match ax_get ls e.2.2.2.1 with | some (.long x) => k ls (.long x :: st) h | _ => none)
  | .aload _ => (match ax_get ls e.2.2.2.1 with | some (.ref x) => k ls (.ref x :: st) h | _ => none)
  | .aload_n _ => (match ax_get ls e.2.2.2.1 with | some (.ref x) => k ls (.ref x :: st) h | _ => none)
  | .istore _ => (match st with | .int x :: r => k ((e.2.2.2.1, .int x) :: ax_c1 e.2.2.2.1 ls) r h | _ => none)
  | .istore_n _ => (match st with | .int x :: r => k ((e.2.2.2.1, .int x) :: ax_c1 e.2.2.2.1 ls) r h | _ => none)
  | .lstore _ => (match st with | .long x :: r => k ((e.2.2.2.1, .long x) :: ax_c2 e.2.2.2.1 ls) r h | _ => none)
  | .lstore_n _ => (match st with | .long x :: r => k ((e.2.2.2.1, .long x) :: ax_c2 e.2.2.2.1 ls) r h | _ => none)
  | .astore _ => (match st with | .ref x :: r => k ((e.2.2.2.1, .ref x) :: ax_c1 e.2.2.2.1 ls) r h | _ => none)
  | .astore_n _ => (match st with | .ref x :: r => k ((e.2.2.2.1, .ref x) :: ax_c1 e.2.2.2.1 ls) r h | _ => none)
  | .iinc _ _ => (match ax_get ls e.2.2.2.1 with | some (.int x) => k ((e.2.2.2.1, .int (x + Int32.ofInt e.2.2.2.2.2)) :: ax_c1 e.2.2.2.1 ls) st h | _ => none)
  | .iadd => ax_ii (fun x y => x + y) st (fun r => k ls r h)
  | .isub => ax_ii (fun x y => x - y) st (fun r => k ls r h)
  | .imul => ax_ii (fun x y => x * y) st (fun r => k ls r h)
  | .iand => ax_ii (fun x y => x &&& y) st (fun r => k ls r h)
  | .ior => ax_ii (fun x y => x ||| y) st (fun r => k ls r h)
  | .ishl => ax_ii (fun x y => x <<< (y &&& 31)) st (fun r => k ls r h)
  | .ishr => ax_ii (fun x y => x >>> (y &&& 31)) st (fun r => k ls r h)
  | .iushr => ax_ii (fun x y => (x.toUInt32 >>> (y.toUInt32 &&& Int32.toUInt32 31)).toInt32) st (fun r => k ls r h)
  | .idiv => (match st with | .int y :: .int x :: r => if y = 0 then none else k ls (.int (x / y) :: r) h | _ => none)
  | .irem => (match st with | .int y :: .int x :: r => if y = 0 then none else k ls (.int (x - x / y * y) :: r) h | _ => none)
  | .ineg => (match st with | .int x :: r => k ls (.int (-x) :: r) h | _ => none)
  | .ladd => ax_ll (fun x y => x + y) st (fun r => k ls r h)
  | .lsub => ax_ll (fun x y => x - y) st (fun r => k ls r h)
  | .lmul => ax_ll (fun x y => x * y) st (fun r => k ls r h)
  | .land => ax_ll (fun x y => x &&& y) st (fun r => k ls r h)
  | .lor => ax_ll (fun x y => x ||| y) st (fun r => k ls r h)
  | .lxor => ax_ll (fun x y => x ^^^ y) st (fun r => k ls r h)
  | .ldiv => (match st with | .long y :: .long x :: r => if y = 0 then none else k ls (.long (x / y) :: r) h | _ => none)
  | .lrem => (match st with | .long y :: .long x :: r => if y = 0 then none else k ls (.long (x - x / y * y) :: r) h | _ => none)
  | .lneg => (match st with | .long x :: r => k ls (.long (-x) :: r) h | _ => none)
  | .lcmp => (match st with | .long y :: .long x :: r => k ls (.int (lg_cmp x y) :: r) h | _ => none)
  | .i2l => (match st with | .int x :: r => k ls (.long x.toInt64 :: r) h | _ => none)
  | .l2i => (match st with | .long x :: r => k ls (.int x.toInt32 :: r) h | _ => none)
  | .i2b => (match st with | .int x :: r => k ls (.int x.toInt8.toInt32 :: r) h | _ => none)
  | .dup => (match st with | v :: r => if v.category = 1 then k ls (v :: v :: r) h else none | _ => none)
  | .dup2 => (match st with | v :: r => if v.category = 2 then k ls (v :: v :: r) h else (match r with | w :: r' => if w.category = 1 then k ls (v :: w :: v :: w :: r') h else none | _ => none) | _ => none)
  | .pop => (match st with | v :: r => if v.category = 1 then k ls r h else none | _ => none)
  | .getfield _ => ax_gf e.2.2.2.1 e.2.2.2.2.1 st h (fun r => k ls r h)
  | .putfield _ => ax_pf e.2.2.2.1 e.2.2.2.2.1 st h (fun r h1 => k ls r h1)
  | .iaload => ax_al (if e.2.2.2.2.1 = 1 then 24 else 16) st h (fun r => k ls r h)
  | .laload => ax_al 17 st h (fun r => k ls r h)
  | .baload => ax_al e.2.2.2.1 st h (fun r => k ls r h)
  | .aaload => ax_al e.2.2.2.1 st h (fun r => k ls r h)
  | .iastore => ax_as 16 st h (fun r h1 => k ls r h1)
  | .lastore => ax_as 17 st h (fun r h1 => k ls r h1)
  | .bastore => ax_as e.2.2.2.1 st h (fun r h1 => k ls r h1)
  | .aastore => ax_as e.2.2.2.1 st h (fun r h1 => k ls r h1)
  | .arraylength => ax_ln (if e.2.2.2.2.1 = 1 then 24 else 16) st h (fun r => k ls r h)
  | .new _ => k ls (.ref (gN h) :: st) (nW h e.2.2.2.1 0 (ax_n e.2.2.2.1))
  | .newarray _ => ax_na e.2.2.2.1 st h (fun r h1 => k ls r h1)
  | .anewarray _ => ax_na e.2.2.2.1 st h (fun r h1 => k ls r h1)
  | .multianewarray _ _ => ax_mn st h (fun r h1 => k ls r h1)
  | .checkcast _ => ax_cc 16 st h (fun r => k ls r h)
  | .invokestatic _ => ax_ac e.2.2.2.1 st h (fun r h1 => k ls r h1)
  | .invokevirtual _ => ax_cl st h (fun r h1 => k ls r h1)
  | .invokespecial _ => (match st with | .ref x :: r => if (gS h x).1 < 12 ∧ (r.map (fun v => v.category)).sum ≤ 8 then k ls r h else none | _ => none)
  | _ => none
end
def ax_h1 (c : ClassFile.Cond) (x : Int32) : Bool := match c with
  | .eq => decide (x = 0)
  | .ne => decide (¬ x = 0)
  | .lt => decide (x < 0)
  | .ge => decide (0 ≤ x)
  | .gt => decide (0 < x)
  | .le => decide (x ≤ 0)
def ax_h2 (c : ClassFile.Cond) (x y : Int32) : Bool := match c with
  | .eq => decide (x = y)
  | .ne => decide (¬ x = y)
  | .lt => decide (x < y)
  | .ge => decide (y ≤ x)
  | .gt => decide (y < x)
  | .le => decide (x ≤ y)
/-- the rows from a pc on -/
def ax_to (C : List ax_E) (t : Nat) : List ax_E := match C with
  | [] => []
  | e :: r => if e.1 == t then e :: r else ax_to r t
/-- the environment: void, int, long, reference methods by number -/
abbrev ax_Env : Type := (Nat → List Value → ax_H → Option ax_H) × (Nat → List Value → ax_H → Option (Int32 × ax_H)) × (Nat → List Value → ax_H → Option (Int64 × ax_H)) × (Nat → List Value → ax_H → Option (Nat × ax_H))
/-- a switch: the values from v on, by their targets -/
def ax_sw {α : Type} (x : Int32) (k : Nat → Option α) : Int → List (Nat) → Nat → Option α
  | _, [], d => k d
  | v, t :: r, d => if x = Int32.ofInt v then k t else ax_sw x k (v + 1) r d
def ax_call {α : Type} (E : ax_Env) (e : ax_E) (n : Nat) (st : List Value) (h : ax_H) (k : List Value → ax_H → Option α) : Option α :=
  if n ≤ st.length ∧ ((st.drop n).map (fun v => v.category)).sum ≤ 8 then
    (if e.2.2.2.2.2 = 0 then (E.1 e.2.2.2.1 (st.take n).reverse h).bind (fun r => k (st.drop n) r)
     else if e.2.2.2.2.2 = 1 then (E.2.1 e.2.2.2.1 (st.take n).reverse h).bind (fun r => k (.int r.1 :: st.drop n) r.2)
     else if e.2.2.2.2.2 = 2 then (E.2.2.1 e.2.2.2.1 (st.take n).reverse h).bind (fun r => k (.long r.1 :: st.drop n) r.2)
     else (E.2.2.2 e.2.2.2.1 (st.take n).reverse h).bind (fun r => k (.ref r.1 :: st.drop n) r.2))
  else none
/-- kinds of rows: 0 on, 1 goto, 2 if, 3 if_icmp, 4 ifnull, 5 ifnonnull, 6 switch, 7 return, 8 call -/
def ax_kind (e : ax_E) : Nat := match e.2.1 with
  | .goto _ => 1
  | .ifCond _ _ => 2
  | .if_icmp _ _ => 3
  | .ifnull _ => 4
  | .ifnonnull _ => 5
  | .tableswitch _ _ _ _ => 6
  | .lookupswitch _ _ => 9
  | .ireturn => 7
  | .lreturn => 7
  | .areturn => 7
  | .return_ => 7
  | .invokevirtual _ => if e.2.2.2.2.1 < 100 then 8 else 0
  | .invokestatic _ => if e.2.2.2.2.1 < 100 then 8 else 0
  | .invokespecial _ => if e.2.2.2.2.1 < 100 then 8 else 0
  | _ => 0
end
section
/-! ONE INSTRUCTION: the pure machine's step is the machine's. First those that leave the heap as it is -/
def ax_q (X : ax_X) (q : Nat × Value) : Nat × Value := (q.1, ax_v X q.2)
theorem ax_get_mem {ls : ax_L} {i : Nat} {v : Value} (h : ax_get ls i = some v) : (i, v) ∈ ls := by
  induction ls with
  | nil => simp [ax_get] at h
  | cons q t ih =>
    unfold ax_get at h
    by_cases e : q.1 = i
    · rw [if_pos (by simpa using e)] at h
      cases h
      subst e
      exact List.mem_cons_self
    · rw [if_neg (by simpa using e)] at h
      exact List.mem_cons_of_mem _ (ih h)
theorem ax_get_at {X : ax_X} {lsr : Array Slot} {nL : Nat} {ls : ax_L} {i : Nat} {v : Value} (hl : lv_has lsr nL (ls.map (ax_q X))) (h : ax_get ls i = some v) : lsr[i]? = some (.val (ax_v X v)) :=
  hl.2.2 (i, ax_v X v) (List.mem_map.mpr ⟨(i, v), ax_get_mem h, rfl⟩)
theorem ax_c1_map (X : ax_X) (i : Nat) (ls : ax_L) : (ls.map (ax_q X)).filter (fun q => !(q.1 == i) && !(q.1 + 1 == i && q.2.category == 2)) = (ax_c1 i ls).map (ax_q X) := by
  rw [ax_c1, List.filter_map]
  congr 2
  funext q
  simp [ax_q, ax_v_cat]
theorem ax_c2_map (X : ax_X) (i : Nat) (ls : ax_L) : (ls.map (ax_q X)).filter (fun q => !(q.1 == i) && (!(q.1 == i + 1) && !(q.1 + 1 == i && q.2.category == 2))) = (ax_c2 i ls).map (ax_q X) := by
  rw [ax_c2, List.filter_map]
  congr 2
  funext q
  simp [ax_q, ax_v_cat]
theorem ax_keep_mem {ls : ax_L} {q : Nat × Value} : ∀ (n m : Nat), q ∈ ax_keep ls n m → q ∈ ls
  | 0, m, h => by simp [ax_keep] at h
  | n + 1, m, h => by
    unfold ax_keep at h
    by_cases hb : m.testBit 0 = true
    · rw [if_pos hb] at h
      cases hg : ax_get ls (32 - (n + 1)) with
      | none => rw [hg] at h; exact ax_keep_mem n _ h
      | some v =>
        rw [hg] at h
        rcases List.mem_cons.mp h with rfl | h
        · exact ax_get_mem hg
        · exact ax_keep_mem n _ h
    · rw [if_neg hb] at h
      exact ax_keep_mem n _ h
theorem ax_keep_has {X : ax_X} {lsr : Array Slot} {nL : Nat} {ls : ax_L} {n m : Nat} (hl : lv_has lsr nL (ls.map (ax_q X))) : lv_has lsr nL ((ax_keep ls n m).map (ax_q X)) :=
  ⟨hl.1, hl.2.1, fun q hq => by
    obtain ⟨q0, h0, rfl⟩ := List.mem_map.mp hq
    exact hl.2.2 _ (List.mem_map.mpr ⟨q0, ax_keep_mem n m h0, rfl⟩)⟩
section AXW
variable {X : ax_X} {p : Program} {l : Launch} {e : Env} {R : Room} {s : State} {m : MethodId} {args : Array Value} {below : List Frame} {meth : Method} {c : Code} {Q : State → Prop} {cc : ByteArray} {nL n0 z0 : Nat} {hf : ax_H}
def ax_W (X : ax_X) (p : Program) (l : Launch) (e : Env) (R : Room) (s : State) (m : MethodId) (args : Array Value) (below : List Frame) (meth : Method) (c : Code) (nL : Nat) (Q : State → Prop) (n0 z0 : Nat) (hf : ax_H) (pc : Nat) (ls : ax_L) (st : List Value) (h : ax_H) : Prop :=
  gN h ≤ gN hf ∧ gZ h ≤ gZ hf ∧ (n0 ≤ gN h → z0 ≤ gZ h → ∀ (H : Heap) (locs : List Loc) (lsr : Array Slot), ax_Rep X h H → (∀ l ∈ locs, xB X ≤ l.base) → lv_has lsr nL (ls.map (ax_q X)) → W p l e R s m args below meth c H locs (gN h - n0) (gZ h - z0) Q (F0 m pc lsr (st.map (ax_v X))))
/-- the heap stays -/
theorem ax_stay {pc pc' : Nat} {ls ls' : ax_L} {st st' : List Value} {h : ax_H} (k : ax_W X p l e R s m args below meth c nL Q n0 z0 hf pc' ls' st' h)
    (g : ∀ (H : Heap) (locs : List Loc) (cells slots : Nat) (lsr : Array Slot), ax_Rep X h H → lv_has lsr nL (ls.map (ax_q X)) → (∀ lsr' : Array Slot, lv_has lsr' nL (ls'.map (ax_q X)) → W p l e R s m args below meth c H locs cells slots Q (F0 m pc' lsr' (st'.map (ax_v X)))) → W p l e R s m args below meth c H locs cells slots Q (F0 m pc lsr (st.map (ax_v X)))) : ax_W X p l e R s m args below meth c nL Q n0 z0 hf pc ls st h :=
  ⟨k.1, k.2.1, fun a1 a2 H locs lsr hR hlo hl => g H locs _ _ lsr hR hl (fun lsr' hl' => k.2.2 a1 a2 H locs lsr' hR hlo hl')⟩
variable {pc : Nat} {lsr : Array Slot} {rest : List Value} {H : Heap} {locs : List Loc} {cells slots : Nat}
theorem ax_aload_n (hexec : p.tables.exec = Jvm.exec) (hb : c.code = cc) {k : Fin 4} {i x : Nat} (hdg : decode cc pc = .ok (.aload_n k, 1)) (hi : (k : Nat) = i) (hl : lsr[i]? = some (.val (ax_v X (.ref x))))
    (kk : W p l e R s m args below meth c H locs cells slots Q (F0 m (pc + 1) lsr (ax_v X (.ref x) :: rest))) : W p l e R s m args below meth c H locs cells slots Q (F0 m pc lsr rest) := by
  by_cases h0 : x = 0
  · subst h0
    subst hi
    rw [ax_v_null] at hl kk
    intro T hT X
    obtain ⟨t, a, b⟩ := kk T hT X
    refine ⟨t, ?_, b⟩
    jvm_step X.here [X.here.top, hexec, hb, hdg, hl]
    exact ⟨rfl, a⟩
  · rw [ax_v_ref h0] at hl kk
    exact lv_aload_n hexec hb hdg hi hl kk
theorem ax_aload (hexec : p.tables.exec = Jvm.exec) (hb : c.code = cc) {i x : Nat} (hdg : decode cc pc = .ok (.aload i, 2)) (hl : lsr[i]? = some (.val (ax_v X (.ref x))))
    (kk : W p l e R s m args below meth c H locs cells slots Q (F0 m (pc + 2) lsr (ax_v X (.ref x) :: rest))) : W p l e R s m args below meth c H locs cells slots Q (F0 m pc lsr rest) := by
  by_cases h0 : x = 0
  · subst h0
    rw [ax_v_null] at hl kk
    intro T hT X
    obtain ⟨t, a, b⟩ := kk T hT X
    refine ⟨t, ?_, b⟩
    jvm_step X.here [X.here.top, hexec, hb, hdg, hl]
    exact ⟨rfl, a⟩
  · rw [ax_v_ref h0] at hl kk
    exact lv_aload hexec hb hdg hl kk
theorem ax_astore_n (hexec : p.tables.exec = Jvm.exec) (hb : c.code = cc) {k : Fin 4} {i x : Nat} {lv lv' : List (Nat × Value)} (hdg : decode cc pc = .ok (.astore_n k, 1)) (hi : (k : Nat) = i) (h : lv_has lsr nL lv) (hn : i < nL) (hl : (i, ax_v X (.ref x)) :: lv.filter (fun q => !(q.1 == i) && !(q.1 + 1 == i && q.2.category == 2)) = lv')
    (kk : ∀ ls' : Array Slot, lv_has ls' nL lv' → W p l e R s m args below meth c H locs cells slots Q (F0 m (pc + 1) ls' rest)) : W p l e R s m args below meth c H locs cells slots Q (F0 m pc lsr (ax_v X (.ref x) :: rest)) := by
  by_cases h0 : x = 0
  · subst h0
    subst hi
    rw [ax_v_null] at hl ⊢
    obtain ⟨ls', e', h'⟩ := lv_store1 (v := .null) h hn rfl
    intro T hT X
    obtain ⟨t, a, b⟩ := kk ls' (hl ▸ h') T hT X
    refine ⟨t, ?_, b⟩
    jvm_step X.here [X.here.top, ↓top_set X.here.top, hexec, hb, hdg, e']
    exact ⟨rfl, a⟩
  · rw [ax_v_ref h0] at hl ⊢
    exact lv_astore_n hexec hb hdg hi h hn hl kk
theorem ax_astore (hexec : p.tables.exec = Jvm.exec) (hb : c.code = cc) {i x : Nat} {lv lv' : List (Nat × Value)} (hdg : decode cc pc = .ok (.astore i, 2)) (h : lv_has lsr nL lv) (hn : i < nL) (hl : (i, ax_v X (.ref x)) :: lv.filter (fun q => !(q.1 == i) && !(q.1 + 1 == i && q.2.category == 2)) = lv')
    (kk : ∀ ls' : Array Slot, lv_has ls' nL lv' → W p l e R s m args below meth c H locs cells slots Q (F0 m (pc + 2) ls' rest)) : W p l e R s m args below meth c H locs cells slots Q (F0 m pc lsr (ax_v X (.ref x) :: rest)) := by
  by_cases h0 : x = 0
  · subst h0
    rw [ax_v_null] at hl ⊢
    obtain ⟨ls', e', h'⟩ := lv_store1 (v := .null) h hn rfl
    intro T hT X
    obtain ⟨t, a, b⟩ := kk ls' (hl ▸ h') T hT X
    refine ⟨t, ?_, b⟩
    jvm_step X.here [X.here.top, ↓top_set X.here.top, hexec, hb, hdg, e']
    exact ⟨rfl, a⟩
  · rw [ax_v_ref h0] at hl ⊢
    exact lv_astore hexec hb hdg h hn hl kk
end AXW
end
section
/-! what a row of the code must be; first the rows that leave the heap as it is -/
def ax_ok0 (nL : Nat) (e : ax_E) : Bool := match e.2.1 with
  | .iconst n => e.2.2.1 == 1 && decide (Int32.ofInt n = Int32.ofInt e.2.2.2.2.2)
  | .bipush n => e.2.2.1 == 2 && decide ((Int8.ofInt n).toInt32 = Int32.ofInt e.2.2.2.2.2)
  | .sipush n => e.2.2.1 == 3 && decide ((Int16.ofInt n).toInt32 = Int32.ofInt e.2.2.2.2.2)
  | .lconst n => e.2.2.1 == 1 && decide (Int64.ofNat (n : Nat) = Int64.ofInt e.2.2.2.2.2)
  | .aconst_null => e.2.2.1 == 1
  | .iload i => e.2.2.1 == 2 && i == e.2.2.2.1
  | .lload i => e.2.2.1 == 2 && i == e.2.2.2.1
  | .aload i => e.2.2.1 == 2 && i == e.2.2.2.1
  | .iload_n i => e.2.2.1 == 1 && (i : Nat) == e.2.2.2.1
  | .lload_n i => e.2.2.1 == 1 && (i : Nat) == e.2.2.2.1
  | .aload_n i => e.2.2.1 == 1 && (i : Nat) == e.2.2.2.1
  | .istore i => e.2.2.1 == 2 && i == e.2.2.2.1 && decide (i < nL)
  | .lstore i => e.2.2.1 == 2 && i == e.2.2.2.1 && decide (i + 1 < nL)
  | .astore i => e.2.2.1 == 2 && i == e.2.2.2.1 && decide (i < nL)
  | .istore_n i => e.2.2.1 == 1 && (i : Nat) == e.2.2.2.1 && decide (e.2.2.2.1 < nL)
  | .lstore_n i => e.2.2.1 == 1 && (i : Nat) == e.2.2.2.1 && decide (e.2.2.2.1 + 1 < nL)
  | .astore_n i => e.2.2.1 == 1 && (i : Nat) == e.2.2.2.1 && decide (e.2.2.2.1 < nL)
  | .iinc i n => e.2.2.1 == 3 && i == e.2.2.2.1 && decide (i < nL) && decide (Int32.ofInt n = Int32.ofInt e.2.2.2.2.2)
  | _ => e.2.2.1 == 1
section AXS
variable {α : Type} {X : ax_X} {p : Program} {l : Launch} {e : Env} {R : Room} {s : State} {m : MethodId} {args : Array Value} {below : List Frame} {meth : Method} {c : Code} {Q : State → Prop} {cc : ByteArray} {nL n0 z0 : Nat} {hf : ax_H}
variable {pc len a b : Nat} {z : Int} {ls : ax_L} {st : List Value} {h : ax_H} {k : ax_L → List Value → ax_H → Option α} {res : α}
theorem ax_s_ii {f : Int32 → Int32 → Int32} (hx : ax_ii f st (fun r => k ls r h) = some res) : ∃ x y r, st = .int y :: .int x :: r ∧ k ls (.int (f x y) :: r) h = some res := by
  unfold ax_ii at hx
  split at hx
  · exact ⟨_, _, _, rfl, hx⟩
  · cases hx
theorem ax_s_ll {f : Int64 → Int64 → Int64} (hx : ax_ll f st (fun r => k ls r h) = some res) : ∃ x y r, st = .long y :: .long x :: r ∧ k ls (.long (f x y) :: r) h = some res := by
  unfold ax_ll at hx
  split at hx
  · exact ⟨_, _, _, rfl, hx⟩
  · cases hx
set_option maxHeartbeats 4000000 in
/-- constants, locals, arithmetic, stack: the heap stays -/
theorem ax_stay_ok (hexec : p.tables.exec = Jvm.exec) (hb : c.code = cc) {ins : Instr} (hd : decode cc pc = .ok (ins, len)) (hk : ax_ok0 nL (pc, ins, len, a, b, z) = true)
    (hin : match ins with | .iconst _ | .bipush _ | .sipush _ | .lconst _ | .aconst_null | .iload _ | .iload_n _ | .lload _ | .lload_n _ | .aload _ | .aload_n _ | .istore _ | .istore_n _ | .lstore _ | .lstore_n _ | .astore _ | .astore_n _ | .iinc _ _ | .iadd | .isub | .imul | .iand | .ior | .ishl | .ishr | .iushr | .idiv | .irem | .ineg | .ladd | .lsub | .lmul | .land | .lor | .lxor | .ldiv | .lrem | .lneg | .lcmp | .i2l | .l2i | .i2b | .dup | .dup2 | .pop => True | _ => False)
    (kk : ∀ ls' st' h1, k ls' st' h1 = some res → ax_W X p l e R s m args below meth c nL Q n0 z0 hf (pc + len) ls' st' h1) (hs : ax_stp (pc, ins, len, a, b, z) ls st h k = some res) : ax_W X p l e R s m args below meth c nL Q n0 z0 hf pc ls st h := by
  cases ins with
  | iconst n =>
    simp [ax_ok0] at hk
    obtain ⟨rfl, hv⟩ := hk
    exact ax_stay (kk _ _ _ hs) fun H locs cells slots lsr hR hl w => lv_iconst hexec hb hd hv (w lsr hl)
  | bipush n =>
    simp [ax_ok0] at hk
    obtain ⟨rfl, hv⟩ := hk
    exact ax_stay (kk _ _ _ hs) fun H locs cells slots lsr hR hl w => lv_bipush hexec hb hd hv (w lsr hl)
  | sipush n =>
    simp [ax_ok0] at hk
    obtain ⟨rfl, hv⟩ := hk
    exact ax_stay (kk _ _ _ hs) fun H locs cells slots lsr hR hl w => lv_sipush hexec hb hd hv (w lsr hl)
  | lconst n =>
    simp only [ax_ok0, Bool.and_eq_true, beq_iff_eq, decide_eq_true_eq] at hk
    obtain ⟨rfl, hv⟩ := hk
    exact ax_stay (kk _ _ _ hs) fun H locs cells slots lsr hR hl w => lv_lconst hexec hb hd hv (w lsr hl)
  | aconst_null =>
    simp [ax_ok0] at hk
    subst hk
    exact ax_stay (kk _ _ _ hs) fun H locs cells slots lsr hR hl w => lv_null hexec hb hd (by have := w lsr hl; rwa [List.map_cons, ax_v_null] at this)
  | iload i =>
    simp [ax_ok0] at hk
    obtain ⟨rfl, rfl⟩ := hk
    simp only [ax_stp] at hs
    split at hs
    · rename_i x hg
      exact ax_stay (kk _ _ _ hs) fun H locs cells slots lsr hR hl w => lv_iload hexec hb hd (ax_get_at hl hg) (w lsr hl)
    · cases hs
  | iload_n i =>
    simp [ax_ok0] at hk
    obtain ⟨rfl, hi⟩ := hk
    simp only [ax_stp] at hs
    split at hs
    · rename_i x hg
      exact ax_stay (kk _ _ _ hs) fun H locs cells slots lsr hR hl w => lv_iload_n hexec hb hd hi (ax_get_at hl hg) (w lsr hl)
    · cases hs
  | lload i =>
    simp [ax_ok0] at hk
    obtain ⟨rfl, rfl⟩ := hk
    simp only [ax_stp] at hs
    split at hs
    · rename_i x hg
      exact ax_stay (kk _ _ _ hs) fun H locs cells slots lsr hR hl w => lv_lload hexec hb hd (ax_get_at hl hg) (w lsr hl)
    · cases hs
  | lload_n i =>
    simp [ax_ok0] at hk
    obtain ⟨rfl, hi⟩ := hk
    simp only [ax_stp] at hs
    split at hs
    · rename_i x hg
      exact ax_stay (kk _ _ _ hs) fun H locs cells slots lsr hR hl w => lv_lload_n hexec hb hd hi (ax_get_at hl hg) (w lsr hl)
    · cases hs
  | aload i =>
    simp [ax_ok0] at hk
    obtain ⟨rfl, rfl⟩ := hk
    simp only [ax_stp] at hs
    split at hs
    · rename_i x hg
      exact ax_stay (kk _ _ _ hs) fun H locs cells slots lsr hR hl w => ax_aload hexec hb hd (ax_get_at hl hg) (w lsr hl)
    · cases hs
  | aload_n i =>
    simp [ax_ok0] at hk
    obtain ⟨rfl, hi⟩ := hk
    simp only [ax_stp] at hs
    split at hs
    · rename_i x hg
      exact ax_stay (kk _ _ _ hs) fun H locs cells slots lsr hR hl w => ax_aload_n hexec hb hd hi (ax_get_at hl hg) (w lsr hl)
    · cases hs
  | istore i =>
    simp [ax_ok0] at hk
    obtain ⟨⟨rfl, rfl⟩, hn⟩ := hk
    simp only [ax_stp] at hs
    split at hs
    · exact ax_stay (kk _ _ _ hs) fun H locs cells slots lsr hR hl w => lv_istore hexec hb hd hl hn (by rw [ax_c1_map]; rfl) w
    · cases hs
  | istore_n i =>
    simp [ax_ok0] at hk
    obtain ⟨⟨rfl, hi⟩, hn⟩ := hk
    simp only [ax_stp] at hs
    split at hs
    · exact ax_stay (kk _ _ _ hs) fun H locs cells slots lsr hR hl w => lv_istore_n hexec hb hd hi hl hn (by rw [ax_c1_map]; rfl) w
    · cases hs
  | lstore i =>
    simp [ax_ok0] at hk
    obtain ⟨⟨rfl, rfl⟩, hn⟩ := hk
    simp only [ax_stp] at hs
    split at hs
    · exact ax_stay (kk _ _ _ hs) fun H locs cells slots lsr hR hl w => lv_lstore hexec hb hd hl hn (by rw [ax_c2_map]; rfl) w
    · cases hs
  | lstore_n i =>
    simp [ax_ok0] at hk
    obtain ⟨⟨rfl, hi⟩, hn⟩ := hk
    simp only [ax_stp] at hs
    split at hs
    · exact ax_stay (kk _ _ _ hs) fun H locs cells slots lsr hR hl w => lv_lstore_n hexec hb hd hi hl hn (by rw [ax_c2_map]; rfl) w
    · cases hs
  | astore i =>
    simp [ax_ok0] at hk
    obtain ⟨⟨rfl, rfl⟩, hn⟩ := hk
    simp only [ax_stp] at hs
    split at hs
    · exact ax_stay (kk _ _ _ hs) fun H locs cells slots lsr hR hl w => ax_astore hexec hb hd hl hn (by rw [ax_c1_map]; rfl) w
    · cases hs
  | astore_n i =>
    simp [ax_ok0] at hk
    obtain ⟨⟨rfl, hi⟩, hn⟩ := hk
    simp only [ax_stp] at hs
    split at hs
    · exact ax_stay (kk _ _ _ hs) fun H locs cells slots lsr hR hl w => ax_astore_n hexec hb hd hi hl hn (by rw [ax_c1_map]; rfl) w
    · cases hs
  | iinc i n =>
    simp [ax_ok0] at hk
    obtain ⟨⟨⟨rfl, rfl⟩, hn⟩, hv⟩ := hk
    simp only [ax_stp] at hs
    split at hs
    · rename_i x hg
      refine ax_stay (kk _ _ _ hs) fun H locs cells slots lsr hR hl w => ?_
      obtain ⟨k0, hk0⟩ := List.getElem?_of_mem (List.mem_map.mpr ⟨(i, Value.int x), ax_get_mem hg, rfl⟩ : ax_q X (i, Value.int x) ∈ ls.map (ax_q X))
      exact lv_iinc hexec hb hd hl hk0 (by rw [hv]) hn (by rw [ax_c1_map]; rfl) w
    · cases hs
  | iadd => simp [ax_ok0] at hk; subst hk; obtain ⟨x, y, r, rfl, hs⟩ := ax_s_ii hs; exact ax_stay (kk _ _ _ hs) fun H locs cells slots lsr hR hl w => lv_iadd hexec hb hd (w lsr hl)
  | isub => simp [ax_ok0] at hk; subst hk; obtain ⟨x, y, r, rfl, hs⟩ := ax_s_ii hs; exact ax_stay (kk _ _ _ hs) fun H locs cells slots lsr hR hl w => lv_isub hexec hb hd (w lsr hl)
  | imul => simp [ax_ok0] at hk; subst hk; obtain ⟨x, y, r, rfl, hs⟩ := ax_s_ii hs; exact ax_stay (kk _ _ _ hs) fun H locs cells slots lsr hR hl w => lv_imul hexec hb hd (w lsr hl)
  | iand => simp [ax_ok0] at hk; subst hk; obtain ⟨x, y, r, rfl, hs⟩ := ax_s_ii hs; exact ax_stay (kk _ _ _ hs) fun H locs cells slots lsr hR hl w => lv_iand hexec hb hd (w lsr hl)
  | ior => simp [ax_ok0] at hk; subst hk; obtain ⟨x, y, r, rfl, hs⟩ := ax_s_ii hs; exact ax_stay (kk _ _ _ hs) fun H locs cells slots lsr hR hl w => lv_ior hexec hb hd (w lsr hl)
  | ishl => simp [ax_ok0] at hk; subst hk; obtain ⟨x, y, r, rfl, hs⟩ := ax_s_ii hs; exact ax_stay (kk _ _ _ hs) fun H locs cells slots lsr hR hl w => lv_ishl hexec hb hd (w lsr hl)
  | ishr => simp [ax_ok0] at hk; subst hk; obtain ⟨x, y, r, rfl, hs⟩ := ax_s_ii hs; exact ax_stay (kk _ _ _ hs) fun H locs cells slots lsr hR hl w => lv_ishr hexec hb hd (w lsr hl)
  | iushr => simp [ax_ok0] at hk; subst hk; obtain ⟨x, y, r, rfl, hs⟩ := ax_s_ii hs; exact ax_stay (kk _ _ _ hs) fun H locs cells slots lsr hR hl w => lv_iushr hexec hb hd rfl (w lsr hl)
  | ladd => simp [ax_ok0] at hk; subst hk; obtain ⟨x, y, r, rfl, hs⟩ := ax_s_ll hs; exact ax_stay (kk _ _ _ hs) fun H locs cells slots lsr hR hl w => lv_ladd hexec hb hd (w lsr hl)
  | lsub => simp [ax_ok0] at hk; subst hk; obtain ⟨x, y, r, rfl, hs⟩ := ax_s_ll hs; exact ax_stay (kk _ _ _ hs) fun H locs cells slots lsr hR hl w => lv_lsub hexec hb hd (w lsr hl)
  | lmul => simp [ax_ok0] at hk; subst hk; obtain ⟨x, y, r, rfl, hs⟩ := ax_s_ll hs; exact ax_stay (kk _ _ _ hs) fun H locs cells slots lsr hR hl w => lv_lmul hexec hb hd (w lsr hl)
  | land => simp [ax_ok0] at hk; subst hk; obtain ⟨x, y, r, rfl, hs⟩ := ax_s_ll hs; exact ax_stay (kk _ _ _ hs) fun H locs cells slots lsr hR hl w => lv_land hexec hb hd (w lsr hl)
  | lor => simp [ax_ok0] at hk; subst hk; obtain ⟨x, y, r, rfl, hs⟩ := ax_s_ll hs; exact ax_stay (kk _ _ _ hs) fun H locs cells slots lsr hR hl w => lv_lor hexec hb hd (w lsr hl)
  | lxor => simp [ax_ok0] at hk; subst hk; obtain ⟨x, y, r, rfl, hs⟩ := ax_s_ll hs; exact ax_stay (kk _ _ _ hs) fun H locs cells slots lsr hR hl w => lv_lxor hexec hb hd (w lsr hl)
  | idiv =>
    simp [ax_ok0] at hk; subst hk
    simp only [ax_stp] at hs
    split at hs
    · split at hs
      · cases hs
      · rename_i hy
        exact ax_stay (kk _ _ _ hs) fun H locs cells slots lsr hR hl w => lv_idiv hexec hb hd hy (w lsr hl)
    · cases hs
  | irem =>
    simp [ax_ok0] at hk; subst hk
    simp only [ax_stp] at hs
    split at hs
    · split at hs
      · cases hs
      · rename_i hy
        exact ax_stay (kk _ _ _ hs) fun H locs cells slots lsr hR hl w => lv_irem hexec hb hd hy (w lsr hl)
    · cases hs
  | ldiv =>
    simp [ax_ok0] at hk; subst hk
    simp only [ax_stp] at hs
    split at hs
    · split at hs
      · cases hs
      · rename_i hy
        exact ax_stay (kk _ _ _ hs) fun H locs cells slots lsr hR hl w => lv_ldiv hexec hb hd hy (w lsr hl)
    · cases hs
  | lrem =>
    simp [ax_ok0] at hk; subst hk
    simp only [ax_stp] at hs
    split at hs
    · split at hs
      · cases hs
      · rename_i hy
        exact ax_stay (kk _ _ _ hs) fun H locs cells slots lsr hR hl w => lv_lrem hexec hb hd hy (w lsr hl)
    · cases hs
  | ineg =>
    simp [ax_ok0] at hk; subst hk
    simp only [ax_stp] at hs
    split at hs
    · exact ax_stay (kk _ _ _ hs) fun H locs cells slots lsr hR hl w => lv_ineg hexec hb hd (w lsr hl)
    · cases hs
  | lneg =>
    simp [ax_ok0] at hk; subst hk
    simp only [ax_stp] at hs
    split at hs
    · exact ax_stay (kk _ _ _ hs) fun H locs cells slots lsr hR hl w => lv_lneg hexec hb hd (w lsr hl)
    · cases hs
  | lcmp =>
    simp [ax_ok0] at hk; subst hk
    simp only [ax_stp] at hs
    split at hs
    · exact ax_stay (kk _ _ _ hs) fun H locs cells slots lsr hR hl w => W.lcmp hexec hb hd (w lsr hl)
    · cases hs
  | i2l =>
    simp [ax_ok0] at hk; subst hk
    simp only [ax_stp] at hs
    split at hs
    · exact ax_stay (kk _ _ _ hs) fun H locs cells slots lsr hR hl w => lv_i2l hexec hb hd rfl (w lsr hl)
    · cases hs
  | l2i =>
    simp [ax_ok0] at hk; subst hk
    simp only [ax_stp] at hs
    split at hs
    · exact ax_stay (kk _ _ _ hs) fun H locs cells slots lsr hR hl w => lv_l2i hexec hb hd rfl (w lsr hl)
    · cases hs
  | i2b =>
    simp [ax_ok0] at hk; subst hk
    simp only [ax_stp] at hs
    split at hs
    · exact ax_stay (kk _ _ _ hs) fun H locs cells slots lsr hR hl w => lv_i2b hexec hb hd rfl (w lsr hl)
    · cases hs
  | dup =>
    simp [ax_ok0] at hk; subst hk
    simp only [ax_stp] at hs
    split at hs
    · split at hs
      · rename_i hv
        exact ax_stay (kk _ _ _ hs) fun H locs cells slots lsr hR hl w => lv_dup hexec hb hd (by rw [ax_v_cat]; exact hv) (w lsr hl)
      · cases hs
    · cases hs
  | pop =>
    simp [ax_ok0] at hk; subst hk
    simp only [ax_stp] at hs
    split at hs
    · split at hs
      · rename_i hv
        exact ax_stay (kk _ _ _ hs) fun H locs cells slots lsr hR hl w => lv_pop hexec hb hd (by rw [ax_v_cat]; exact hv) (w lsr hl)
      · cases hs
    · cases hs
  | dup2 =>
    simp [ax_ok0] at hk; subst hk
    simp only [ax_stp] at hs
    split at hs
    · split at hs
      · rename_i hv
        exact ax_stay (kk _ _ _ hs) fun H locs cells slots lsr hR hl w => lv_dup2_2 hexec hb hd (by rw [ax_v_cat]; exact hv) (w lsr hl)
      · rename_i v r hv
        have hv1 : v.category = 1 := (lv_cat v).resolve_right hv
        split at hs
        · split at hs
          · rename_i hw
            exact ax_stay (kk _ _ _ hs) fun H locs cells slots lsr hR hl w => lv_dup2_11 hexec hb hd (by rw [ax_v_cat]; exact hv1) (by rw [ax_v_cat]; exact hw) (w lsr hl)
          · cases hs
        · cases hs
    · cases hs
  | _ => exact absurd hin id
end AXS
end
section
/-! fields -/
section AXF
variable {α : Type} {X : ax_X} {p : Program} {l : Launch} {e : Env} {R : Room} {s : State} {m : MethodId} {args : Array Value} {below : List Frame} {meth : Method} {c : Code} {Q : State → Prop} {cc : ByteArray} {nL n0 z0 : Nat} {hf : ax_H}
variable {pc : Nat} {lsr : Array Slot} {rest : List Value} {H : Heap} {locs : List Loc} {cells slots : Nat} {h : ax_H} {own : String}
theorem ax_gv_fv (X : ax_X) (h : ax_H) (x a b : Nat) : ax_v X (ax_gv h x a b) = ax_fv X h x (ax_ft a b) b := by
  unfold ax_gv ax_fv
  by_cases h1 : ax_ft a b = 1
  · simp [h1, ax_v_long]
  · by_cases h2 : ax_ft a b = 2
    · simp [h2]
    · simp [h1, h2, ax_v_int]
theorem ax_getf (hexec : p.tables.exec = Jvm.exec) (hb : c.code = cc) (hts : ∀ w ∈ ax_G, w.before args s = true) (hown : s.vm.findClass own = some m.cls) (hK : ax_K X s) (hR : ax_Rep X h H) {x a b idx : Nat} (ha : a < 12) (hbn : b < ax_n a) (hk : (gS h x).1 = a)
    (hlink : Cond.fieldLink own idx (ax_T a b).1 (ax_T a b).2.1 (ax_T a b).2.2.1 ∈ ax_G) (hdg : decode cc pc = .ok (.getfield idx, 3))
    (kk : W p l e R s m args below meth c H locs cells slots Q (F0 m (pc + 3) lsr (ax_v X (ax_gv h x a b) :: rest))) : W p l e R s m args below meth c H locs cells slots Q (F0 m pc lsr (ax_v X (.ref x) :: rest)) := by
  rw [ax_v_ref (ax_ne0 hR (by omega))]
  rw [ax_gv_fv] at kk
  have hP : va_P (xC X, xI X) ax_cls [(ax_r X x, .inr (a, (List.range (ax_n a)).map (fun k => ax_fv X h x (ax_ft a k) k)))] H := by
    intro k q hq
    match k, hq with
    | 0, hq =>
      cases hq
      refine ⟨_, ax_cls_at a ha, ?_⟩
      exact t_OB.to (ax_getO hR hk ha) (fun k hk => by simp [vp_V, hk])
    | k + 1, hq => simp at hq
  exact va_get (D := (xC X, xI X)) (cl := ax_cls) (tys := ax_tys X) (ci := a) (C := ax_cn a) (T := ax_T a) (N := ax_n a) hexec hb hts (ax_win a ha) hown hK.1 hP 0 rfl (ax_cls_at a ha) b hbn (hts _ hlink) (fun _ h9 => h9) (v := ax_fv X h x (ax_ft a b) b) (by simp [hbn]) hdg kk
theorem ax_apart (hts : ∀ w ∈ ax_G, w.before args s = true) (hK : ax_K X s) {a : Nat} (ha : a < 12) : ∀ x y, x < ax_n a → y < ax_n a → x ≠ y → (xI X a) x ≠ (xI X a) y :=
  va_apart (own := "") (D := (xC X, xI X)) hts (ax_win a ha) (ax_ty a) (ax_tok a ha) (ax_nok a ha) hK.1 (ax_cls_at a ha)
theorem ax_putf (hexec : p.tables.exec = Jvm.exec) (hb : c.code = cc) (hts : ∀ w ∈ ax_G, w.before args s = true) (hown : s.vm.findClass own = some m.cls) (hK : ax_K X s) (hR : ax_Rep X h H) {x a b idx : Nat} (ha : a < 12) (hbn : b < ax_n a) (hk : (gS h x).1 = a)
    (hlink : Cond.fieldLink own idx (ax_T a b).1 (ax_T a b).2.1 (ax_T a b).2.2.1 ∈ ax_G) (hfin : (ax_T a b).2.2.2 = false ∨ (meth.name = "<init>" ∧ (ax_T a b).1 = own)) {v : Value} (hn : narrow (ax_ty a b) v = v) (hfit : fits (ax_ty a b) v = true) (hdg : decode cc pc = .ok (.putfield idx, 3))
    (kk : ∀ (cell : Cell) (H1 : Heap) (lo : Loc), H[ax_r X x]? = some cell → lo.base = ax_r X x → H1[ax_r X x]? = some (cell.setSlot (xI X a b) v) → H1.size = H.size → (∀ q, q ≠ ax_r X x → H1[q]? = H[q]?) → W p l e R s m args below meth c H1 (locs ++ [lo]) cells slots Q (F0 m (pc + 3) lsr rest)) : W p l e R s m args below meth c H locs cells slots Q (F0 m pc lsr (v :: ax_v X (.ref x) :: rest)) := by
  rw [ax_v_ref (ax_ne0 hR (by omega))]
  obtain ⟨cell, q1, q2, q3, q4⟩ := ax_getO hR hk ha
  obtain ⟨hS, hfc, kC, hkC, hkind⟩ := ax_Kc hK ha
  obtain ⟨cf, kf, fi, f, hi, hsl⟩ := hS b hbn
  have hst := (u_facts hfc hkC (u_lays hts (ax_win a ha) hbn) hi).1
  have hlay := hts _ (ax_win a ha _ (u_in_lay hbn))
  by_cases hff : (ax_T a b).2.2.2 = false
  · unfold u_lay at hlay
    rw [if_neg (by rw [hff]; decide)] at hlay
    have h6 := u_store hfc hkC hkind hlay hi (ax_tok a ha b hbn) hn hfit
    refine W.putK hexec hb (f := f) ⟨hown, hts _ hlink, ⟨_, _, _, hi⟩, hst⟩ (by rw [q2]; exact h6) q1 q3 (by rw [hsl]; exact k2_hasslot (q4 b hbn)) rfl rfl hdg fun H' e1 e2 e3 => ?_
    rw [hsl] at e1 ⊢
    exact kk cell H' _ q1 rfl e1 e2 e3
  · obtain ⟨hin2, hdecl⟩ := hfin.resolve_left hff
    have hft : (ax_T a b).2.2.2 = true := by simpa using hff
    unfold u_lay at hlay
    rw [if_pos hft] at hlay
    have hcf : m.cls = cf := by
      obtain ⟨_, _, c', _, _, _, -, -, hf', -, -, -, hown2, -⟩ := Cond.laysFinal_spec hlay
      have e1 : c' = cf := by have := hi.symm.trans hf'; simp at this; exact this.1.symm
      rw [hdecl] at hown2
      rw [← e1]; exact Option.some.inj (hown.symm.trans hown2)
    have h6 := u_fits hfc hkC hkind (Or.inr hlay) hi (ax_tok a ha b hbn) hn hfit
    refine W.putFinK hexec hb hown (hts _ hlink) hi hst hcf hin2 (by rw [q2]; exact h6) q1 q3 (by rw [hsl]; exact k2_hasslot (q4 b hbn)) rfl rfl hdg fun H' e1 e2 e3 => ?_
    rw [hsl] at e1 ⊢
    exact kk cell H' _ q1 rfl e1 e2 e3
theorem ax_ty0 {a b : Nat} (ha : a < 12) (hb : b < ax_n a) (h : ax_ft a b = 0) : ax_ty a b = .int := by
  have := ax_tyoks a ha b hb
  unfold ax_tyok at this
  rw [h] at this
  split at this <;> simp_all
theorem ax_ty3 {a b : Nat} (ha : a < 12) (hb : b < ax_n a) (h : ax_ft a b = 3) : ax_ty a b = .boolean := by
  have := ax_tyoks a ha b hb
  unfold ax_tyok at this
  rw [h] at this
  split at this <;> simp_all
theorem ax_ty1 {a b : Nat} (ha : a < 12) (hb : b < ax_n a) (h : ax_ft a b = 1) : ax_ty a b = .long := by
  have := ax_tyoks a ha b hb
  unfold ax_tyok at this
  rw [h] at this
  split at this <;> simp_all
theorem ax_ty2 {a b : Nat} (ha : a < 12) (hb : b < ax_n a) (h : ax_ft a b = 2) : (∃ n, ax_ty a b = .object n) ∨ ∃ t, ax_ty a b = .array t := by
  have := ax_tyoks a ha b hb
  unfold ax_tyok at this
  rw [h] at this
  split at this <;> simp_all
theorem ax_ref_fits {X : ax_X} {ty : FieldType} (h : (∃ n, ty = .object n) ∨ ∃ t, ty = .array t) (i : Nat) : narrow ty (ax_v X (.ref i)) = ax_v X (.ref i) ∧ fits ty (ax_v X (.ref i)) = true := by
  rcases h with ⟨n, rfl⟩ | ⟨t, rfl⟩ <;> rcases ax_v_ref_or X i with e | ⟨b, e⟩ <;> rw [e] <;> exact ⟨rfl, rfl⟩
variable {st : List Value} {ls : ax_L} {k : ax_L → List Value → ax_H → Option α} {res : α}
theorem ax_app_base {X : ax_X} {locs : List Loc} {lo : Loc} {x : Nat} (hlo : ∀ l ∈ locs, xB X ≤ l.base) (hx : 64 ≤ x) (hb : lo.base = ax_r X x) : ∀ l ∈ locs ++ [lo], xB X ≤ l.base := by
  intro q hq
  rcases List.mem_append.mp hq with h | h
  · exact hlo q h
  · rw [List.mem_singleton.mp h, hb, ax_r_hi hx]; omega
/-- a store into a cell that is there: the pure heap changes at that cell -/
theorem ax_getf_ok (hexec : p.tables.exec = Jvm.exec) (hb : c.code = cc) (hts : ∀ w ∈ ax_G, w.before args s = true) (hown : s.vm.findClass own = some m.cls) (hK : ax_K X s) {a b idx : Nat} (ha : a < 12) (hbn : b < ax_n a)
    (hlink : Cond.fieldLink own idx (ax_T a b).1 (ax_T a b).2.1 (ax_T a b).2.2.1 ∈ ax_G) (hd : decode cc pc = .ok (.getfield idx, 3))
    (kk : ∀ ls' st' h1, k ls' st' h1 = some res → ax_W X p l e R s m args below meth c nL Q n0 z0 hf (pc + 3) ls' st' h1) (hs : ax_gf a b st h (fun r => k ls r h) = some res) : ax_W X p l e R s m args below meth c nL Q n0 z0 hf pc ls st h := by
  unfold ax_gf at hs
  split at hs
  · split at hs
    · rename_i x r hk
      exact ax_stay (kk _ _ _ hs) fun H locs cells slots lsr hR hl w => ax_getf hexec hb hts hown hK hR ha hbn hk hlink hd (w lsr hl)
    · cases hs
  · cases hs
theorem ax_putf_ok (hexec : p.tables.exec = Jvm.exec) (hb : c.code = cc) (hts : ∀ w ∈ ax_G, w.before args s = true) (hown : s.vm.findClass own = some m.cls) (hK : ax_K X s) {a b idx : Nat} (ha : a < 12) (hbn : b < ax_n a)
    (hlink : Cond.fieldLink own idx (ax_T a b).1 (ax_T a b).2.1 (ax_T a b).2.2.1 ∈ ax_G) (hfin : (ax_T a b).2.2.2 = false ∨ (meth.name = "<init>" ∧ (ax_T a b).1 = own)) (hd : decode cc pc = .ok (.putfield idx, 3))
    (kk : ∀ ls' st' h1, k ls' st' h1 = some res → ax_W X p l e R s m args below meth c nL Q n0 z0 hf (pc + 3) ls' st' h1) (hs : ax_pf a b st h (fun r h1 => k ls r h1) = some res) : ax_W X p l e R s m args below meth c nL Q n0 z0 hf pc ls st h := by
  have hap := ax_apart hts hK ha
  unfold ax_pf at hs
  split at hs
  · rename_i i x r
    split at hs
    · rename_i hk
      have go : ∀ (h0 : ax_ft a b ≠ 1 ∧ ax_ft a b ≠ 2), narrow (ax_ty a b) (.int i) = .int i → fits (ax_ty a b) (.int i) = true → k ls r (pI h x b i) = some res → ax_W X p l e R s m args below meth c nL Q n0 z0 hf pc ls (.int i :: .ref x :: r) h := by
        intro h0 hn hfit hs
        have k1 := kk _ _ _ hs
        refine ⟨k1.1, k1.2.1, fun a1 a2 H locs lsr hR hlo hl => ?_⟩
        refine ax_putf hexec hb hts hown hK hR ha hbn hk hlink hfin (v := .int i) hn hfit hd fun cell H1 lo q1 q2 q3 q4 q5 => ?_
        exact k1.2.2 a1 a2 H1 _ lsr (ax_putI hR hk ha hap hbn h0 q1 q3 q4 q5) (ax_app_base hlo (ax_valid hR (by omega)).1 q2) hl
      split at hs
      · rename_i h0
        exact go (by omega) (by rw [ax_ty0 ha hbn h0]; rfl) (by rw [ax_ty0 ha hbn h0]; rfl) hs
      · split at hs
        · rename_i h3
          split at hs
          · rename_i hi
            exact go (by omega) (by rw [ax_ty3 ha hbn h3]; rcases hi with rfl | rfl <;> rfl) (by rw [ax_ty3 ha hbn h3]; rcases hi with rfl | rfl <;> rfl) hs
          · cases hs
        · cases hs
    · cases hs
  · rename_i i x r
    split at hs
    · rename_i hk
      split at hs
      · rename_i h1
        have k1 := kk _ _ _ hs
        refine ⟨k1.1, k1.2.1, fun a1 a2 H locs lsr hR hlo hl => ?_⟩
        refine ax_putf hexec hb hts hown hK hR ha hbn hk hlink hfin (v := .long i) (by rw [ax_ty1 ha hbn h1]; rfl) (by rw [ax_ty1 ha hbn h1]; rfl) hd fun cell H1 lo q1 q2 q3 q4 q5 => ?_
        exact k1.2.2 a1 a2 H1 _ lsr (ax_putL hR hk ha hap hbn h1 q1 q3 q4 q5) (ax_app_base hlo (ax_valid hR (by omega)).1 q2) hl
      · cases hs
    · cases hs
  · rename_i i x r
    split at hs
    · rename_i hk
      split at hs
      · rename_i h1
        have k1 := kk _ _ _ hs
        refine ⟨k1.1, k1.2.1, fun a1 a2 H locs lsr hR hlo hl => ?_⟩
        have hf2 := ax_ref_fits (X := X) (ax_ty2 ha hbn h1) i
        refine ax_putf hexec hb hts hown hK hR ha hbn hk hlink hfin (v := ax_v X (.ref i)) hf2.1 hf2.2 hd fun cell H1 lo q1 q2 q3 q4 q5 => ?_
        exact k1.2.2 a1 a2 H1 _ lsr (ax_putR hR hk ha hap hbn h1 q1 q3 q4 q5) (ax_app_base hlo (ax_valid hR (by omega)).1 q2) hl
      · cases hs
    · cases hs
  · cases hs
end AXF
end
section
/-! rows: reading, writing, length -/
section AXA
variable {α : Type} {X : ax_X} {p : Program} {l : Launch} {e : Env} {R : Room} {s : State} {m : MethodId} {args : Array Value} {below : List Frame} {meth : Method} {c : Code} {Q : State → Prop} {cc : ByteArray} {nL n0 z0 : Nat} {hf : ax_H}
variable {pc : Nat} {lsr : Array Slot} {rest : List Value} {H : Heap} {locs : List Loc} {cells slots : Nat} {h : ax_H}
theorem ax_k24 (hR : ax_Rep X h H) {x : Nat} (hk : (gS h x).1 = 24) : x = 40 := by
  by_cases h40 : x = 40
  · exact h40
  · by_cases hv : x < 64 ∨ gN h ≤ x
    · have := hR.2.2.2.2.1 x hv h40; omega
    · rcases hR.2.2.1 x (by omega) (by omega) with ⟨h1, -⟩ | ⟨-, h1, -⟩ <;> omega
theorem ax_nin {j : Int32} {n k : Nat} (h1 : ¬ j < 0) (h2 : j.toNatClampNeg < n) (hk : k = n) : ¬ (j < 0 ∨ k ≤ j.toNatClampNeg) := by
  rintro (h | h)
  · exact h1 h
  · omega
theorem ax_iald (hexec : p.tables.exec = Jvm.exec) (hb : c.code = cc) (hK : ax_K X s) (hR : ax_Rep X h H) {x : Nat} {j : Int32} (hin : ax_in h x 16 j) (hdg : decode cc pc = .ok (.iaload, 1))
    (kk : W p l e R s m args below meth c H locs cells slots Q (F0 m (pc + 1) lsr (.int (gI h x j.toNatClampNeg) :: rest))) : W p l e R s m args below meth c H locs cells slots Q (F0 m pc lsr (.int j :: ax_v X (.ref x) :: rest)) := by
  obtain ⟨h1, h2, h3⟩ := hin
  rw [ax_v_ref (ax_ne0 hR (by omega))]
  exact W.iald (v := .int (gI h x j.toNatClampNeg)) hexec hb (ax_getA hR h1 (by omega) (by omega)) ((ax_Ka hK (c := 16) (by omega) (by omega)).1 _ _) (fun q => by cases q) (ax_nin h2 h3 (arrV_size _ _ _)) (by rw [arrV_read _ _ h3]; rfl) rfl rfl hdg kk
theorem ax_sald (hexec : p.tables.exec = Jvm.exec) (hb : c.code = cc) (hK : ax_K X s) (hR : ax_Rep X h H) {x : Nat} {j : Int32} (hin : ax_in h x 24 j) (hdg : decode cc pc = .ok (.iaload, 1))
    (kk : W p l e R s m args below meth c H locs cells slots Q (F0 m (pc + 1) lsr (.int (gI h x j.toNatClampNeg) :: rest))) : W p l e R s m args below meth c H locs cells slots Q (F0 m pc lsr (.int j :: ax_v X (.ref x) :: rest)) := by
  obtain ⟨h1, h2, h3⟩ := hin
  have e40 := ax_k24 hR h1
  subst e40
  obtain ⟨scr, s1, s2, s3, s4, s5⟩ := hK.2.2.2.2.1
  have eS := hR.2.2.2.2.2.1
  rw [eS] at h3
  have hH : H[ax_r X 40]? = some scr := by
    show H[xA X 40]? = _
    rw [hR.2.2.2.1 _ hK.2.2.2.2.2.1]; exact s1
  rw [hR.2.2.2.2.2.2.1 _ h3] at kk
  rw [ax_v_ref (by decide)]
  exact W.iald (v := .int (xS X j.toNatClampNeg)) hexec hb hH s2 s3 (ax_nin h2 h3 s4) (s5 _ h3) rfl rfl hdg kk
theorem ax_lald (hexec : p.tables.exec = Jvm.exec) (hb : c.code = cc) (hK : ax_K X s) (hR : ax_Rep X h H) {x : Nat} {j : Int32} (hin : ax_in h x 17 j) (hdg : decode cc pc = .ok (.laload, 1))
    (kk : W p l e R s m args below meth c H locs cells slots Q (F0 m (pc + 1) lsr (.long (gL h x j.toNatClampNeg) :: rest))) : W p l e R s m args below meth c H locs cells slots Q (F0 m pc lsr (.int j :: ax_v X (.ref x) :: rest)) := by
  obtain ⟨h1, h2, h3⟩ := hin
  rw [ax_v_ref (ax_ne0 hR (by omega))]
  exact W.lald (v := .long (gL h x j.toNatClampNeg)) hexec hb (ax_getA hR h1 (by omega) (by omega)) ((ax_Ka hK (c := 17) (by omega) (by omega)).1 _ _) (fun q => by cases q) (ax_nin h2 h3 (arrV_size _ _ _)) (by rw [arrV_read _ _ h3]; rfl) rfl rfl hdg kk
theorem ax_bald (hexec : p.tables.exec = Jvm.exec) (hb : c.code = cc) (hK : ax_K X s) (hR : ax_Rep X h H) {x : Nat} {j : Int32} (hin : ax_in h x 18 j) (hdg : decode cc pc = .ok (.baload, 1))
    (kk : W p l e R s m args below meth c H locs cells slots Q (F0 m (pc + 1) lsr (.int (gI h x j.toNatClampNeg) :: rest))) : W p l e R s m args below meth c H locs cells slots Q (F0 m pc lsr (.int j :: ax_v X (.ref x) :: rest)) := by
  obtain ⟨h1, h2, h3⟩ := hin
  rw [ax_v_ref (ax_ne0 hR (by omega))]
  exact W.bald (v := .int (gI h x j.toNatClampNeg)) hexec hb (ax_getA hR h1 (by omega) (by omega)) ((ax_Ka hK (c := 18) (by omega) (by omega)).1 _ _) (fun q => by cases q) (ax_nin h2 h3 (arrV_size _ _ _)) (by rw [arrV_read _ _ h3]; rfl) rfl rfl hdg kk
theorem ax_zald (hexec : p.tables.exec = Jvm.exec) (hb : c.code = cc) (hK : ax_K X s) (hR : ax_Rep X h H) {x : Nat} {j : Int32} (hin : ax_in h x 19 j) (hdg : decode cc pc = .ok (.baload, 1))
    (kk : W p l e R s m args below meth c H locs cells slots Q (F0 m (pc + 1) lsr (.int (gI h x j.toNatClampNeg) :: rest))) : W p l e R s m args below meth c H locs cells slots Q (F0 m pc lsr (.int j :: ax_v X (.ref x) :: rest)) := by
  obtain ⟨h1, h2, h3⟩ := hin
  rw [ax_v_ref (ax_ne0 hR (by omega))]
  exact W.zald (v := .int (gI h x j.toNatClampNeg)) hexec hb (ax_getA hR h1 (by omega) (by omega)) ((ax_Ka hK (c := 19) (by omega) (by omega)).1 _ _) (fun q => by cases q) (ax_nin h2 h3 (arrV_size _ _ _)) (by rw [arrV_read _ _ h3]; rfl) rfl rfl hdg kk
theorem ax_at_ref {kd : Nat} (h1 : 20 ≤ kd) : (ax_at kd).isReference = true := by
  unfold ax_at
  split <;> first | rfl | omega
theorem ax_aald (hexec : p.tables.exec = Jvm.exec) (hb : c.code = cc) (hK : ax_K X s) (hR : ax_Rep X h H) {x kd : Nat} (hkd : 20 ≤ kd) (hkd2 : kd < 23) {j : Int32} (hin : ax_in h x kd j) (hdg : decode cc pc = .ok (.aaload, 1))
    (kk : W p l e R s m args below meth c H locs cells slots Q (F0 m (pc + 1) lsr (ax_v X (.ref (gR h x j.toNatClampNeg)) :: rest))) : W p l e R s m args below meth c H locs cells slots Q (F0 m pc lsr (.int j :: ax_v X (.ref x) :: rest)) := by
  obtain ⟨h1, h2, h3⟩ := hin
  rw [ax_v_ref (ax_ne0 hR (by omega))]
  exact W.aald (v := ax_v X (.ref (gR h x j.toNatClampNeg))) hexec hb (ax_getA hR h1 (by omega) hkd2) ((ax_Ka hK (c := kd) (by omega) hkd2).1 _ _) (ax_at_ref hkd) (fun q => by cases q) (ax_nin h2 h3 (arrV_size _ _ _)) (by rw [arrV_read _ _ h3]; simp [ax_av, show ¬ kd = 17 by omega, show ¬ kd < 20 by omega]) rfl rfl hdg kk
variable {st : List Value} {ls : ax_L} {k : ax_L → List Value → ax_H → Option α} {res : α}
theorem ax_al_ok (hexec : p.tables.exec = Jvm.exec) (hb : c.code = cc) (hK : ax_K X s) {kd : Nat} {ins : Instr} (hd : decode cc pc = .ok (ins, 1)) (hi : (ins = .iaload ∧ (kd = 16 ∨ kd = 24)) ∨ (ins = .laload ∧ kd = 17) ∨ (ins = .baload ∧ (kd = 18 ∨ kd = 19)) ∨ (ins = .aaload ∧ 20 ≤ kd ∧ kd < 23))
    (kk : ∀ ls' st' h1, k ls' st' h1 = some res → ax_W X p l e R s m args below meth c nL Q n0 z0 hf (pc + 1) ls' st' h1) (hs : ax_al kd st h (fun r => k ls r h) = some res) : ax_W X p l e R s m args below meth c nL Q n0 z0 hf pc ls st h := by
  unfold ax_al at hs
  split at hs
  · rename_i j x r
    by_cases hin : ax_in h x kd j
    · rw [if_pos hin] at hs
      refine ax_stay (kk _ _ _ hs) fun H locs cells slots lsr hR hl w => ?_
      have w := w lsr hl
      rcases hi with ⟨rfl, rfl | rfl⟩ | ⟨rfl, rfl⟩ | ⟨rfl, rfl | rfl⟩ | ⟨rfl, h1, h2⟩
      · exact ax_iald hexec hb hK hR hin hd w
      · exact ax_sald hexec hb hK hR hin hd w
      · exact ax_lald hexec hb hK hR hin hd w
      · exact ax_bald hexec hb hK hR hin hd w
      · exact ax_zald hexec hb hK hR hin hd w
      · rw [if_neg (by omega), if_neg (by omega)] at w
        exact ax_aald hexec hb hK hR h1 h2 hin hd w
    · rw [if_neg hin] at hs; cases hs
  · cases hs
theorem ax_alen (hexec : p.tables.exec = Jvm.exec) (hb : c.code = cc) (hK : ax_K X s) (hR : ax_Rep X h H) {x kd : Nat} (hkd : kd = 16 ∨ kd = 24) (hk : (gS h x).1 = kd) (hdg : decode cc pc = .ok (.arraylength, 1))
    (kk : W p l e R s m args below meth c H locs cells slots Q (F0 m (pc + 1) lsr (.int (nI (gS h x).2) :: rest))) : W p l e R s m args below meth c H locs cells slots Q (F0 m pc lsr (ax_v X (.ref x) :: rest)) := by
  rcases hkd with rfl | rfl
  · rw [ax_v_ref (ax_ne0 hR (by omega))]
    exact W.alen (n := nI (gS h x).2) hexec hb (ax_getA hR hk (by omega) (by omega)) ((ax_Ka hK (c := 16) (by omega) (by omega)).1 _ _) (by rw [arrV_size]; rfl) rfl rfl hdg kk
  · have e40 := ax_k24 hR hk
    subst e40
    obtain ⟨scr, s1, s2, s3, s4, s5⟩ := hK.2.2.2.2.1
    have hH : H[ax_r X 40]? = some scr := by
      show H[xA X 40]? = _
      rw [hR.2.2.2.1 _ hK.2.2.2.2.2.1]; exact s1
    rw [ax_v_ref (by decide)]
    exact W.alen (n := nI (gS h 40).2) hexec hb hH s2 (by rw [s4, hR.2.2.2.2.2.1]; rfl) rfl rfl hdg kk
theorem ax_ln_ok (hexec : p.tables.exec = Jvm.exec) (hb : c.code = cc) (hK : ax_K X s) {kd : Nat} (hkd : kd = 16 ∨ kd = 24) (hd : decode cc pc = .ok (.arraylength, 1))
    (kk : ∀ ls' st' h1, k ls' st' h1 = some res → ax_W X p l e R s m args below meth c nL Q n0 z0 hf (pc + 1) ls' st' h1) (hs : ax_ln kd st h (fun r => k ls r h) = some res) : ax_W X p l e R s m args below meth c nL Q n0 z0 hf pc ls st h := by
  unfold ax_ln at hs
  split at hs
  · split at hs
    · rename_i x r hk
      exact ax_stay (kk _ _ _ hs) fun H locs cells slots lsr hR hl w => ax_alen hexec hb hK hR hkd hk hd (w lsr hl)
    · cases hs
  · cases hs
/-- writing -/
theorem ax_aast (hexec : p.tables.exec = Jvm.exec) (hb : c.code = cc) (hK : ax_K X s) (hR : ax_Rep X h H) {x kd v : Nat} {cn : Nat} (hkd : (kd = 20 ∧ cn = 5) ∨ (kd = 21 ∧ cn = 1)) (hv : v = 0 ∨ (gS h v).1 = cn) {j : Int32} (hin : ax_in h x kd j) (hdg : decode cc pc = .ok (.aastore, 1))
    (kk : ∀ (H1 : Heap) (lo : Loc), lo.base = ax_r X x → H1[ax_r X x]? = some ((arrV (xR X kd) (gS h x).2 (ax_av X h x kd)).setSlot j.toNatClampNeg (ax_v X (.ref v))) → H1.size = H.size → (∀ q, q ≠ ax_r X x → H1[q]? = H[q]?) → W p l e R s m args below meth c H1 (locs ++ [lo]) cells slots Q (F0 m (pc + 1) lsr rest)) : W p l e R s m args below meth c H locs cells slots Q (F0 m pc lsr (ax_v X (.ref v) :: .int j :: ax_v X (.ref x) :: rest)) := by
  obtain ⟨h1, h2, h3⟩ := hin
  rw [ax_v_ref (a := x) (ax_ne0 hR (by omega))]
  have hA := ax_Ka hK (c := kd) (by omega) (by omega)
  have hcell := ax_getA hR h1 (by omega) (by omega)
  have hat : ax_at kd = .object (ax_cn cn) := by rcases hkd with ⟨rfl, rfl⟩ | ⟨rfl, rfl⟩ <;> rfl
  by_cases h0 : v = 0
  · subst h0
    rw [ax_v_null] at kk ⊢
    rw [hat] at hA
    exact va_WaastN (C := ax_cn cn) hexec hb hcell (hA.1 _ _) (fun q => by cases q) (ax_nin h2 h3 (arrV_size _ _ _)) rfl rfl hdg (fun H1 e1 e2 e3 => kk H1 _ rfl e1 e2 e3)
  · have hv := hv.resolve_left h0
    rw [ax_v_ref h0] at kk ⊢
    have hcn : cn < 12 := by omega
    obtain ⟨cv, q1, q2, q3, q4⟩ := ax_getO hR hv hcn
    obtain ⟨-, hfc, kC, hkC, -⟩ := ax_Kc hK hcn
    rw [hat] at hA
    obtain ⟨kA, comp, f1, f2, f3, f4⟩ := hA.2
    have hcc : comp = xC X cn := Option.some.inj (f3.symm.trans hfc)
    subst hcc
    exact W.aast (k := kA) (kv := kC) (kcomp := kC) (comp := xC X cn) (t := .object (ax_cn cn)) hexec hb hcell (fun q h => by cases h) (fun q => by cases q) f1 f2 rfl hkC ⟨h2, by rw [arrV_size]; exact h3⟩ q1 (fun q h => by rw [q3] at h; cases h) (by rw [q2]; exact hkC) (by rw [q2]; exact va_asg _ _) rfl rfl hdg (fun H1 e1 e2 e3 => kk H1 _ rfl e1 e2 e3)
theorem ax_as_ok (hexec : p.tables.exec = Jvm.exec) (hb : c.code = cc) (hK : ax_K X s) {kd : Nat} {ins : Instr} (hd : decode cc pc = .ok (ins, 1)) (hi : (ins = .iastore ∧ kd = 16) ∨ (ins = .lastore ∧ kd = 17) ∨ (ins = .bastore ∧ (kd = 18 ∨ kd = 19)) ∨ (ins = .aastore ∧ (kd = 20 ∨ kd = 21)))
    (kk : ∀ ls' st' h1, k ls' st' h1 = some res → ax_W X p l e R s m args below meth c nL Q n0 z0 hf (pc + 1) ls' st' h1) (hs : ax_as kd st h (fun r h1 => k ls r h1) = some res) : ax_W X p l e R s m args below meth c nL Q n0 z0 hf pc ls st h := by
  unfold ax_as at hs
  split at hs
  · rename_i v j x r
    by_cases hin : ax_in h x kd j
    · rw [if_pos hin] at hs
      obtain ⟨h1, h2, h3⟩ := id hin
      rcases hi with ⟨rfl, rfl⟩ | ⟨rfl, rfl⟩ | ⟨rfl, rfl | rfl⟩ | ⟨rfl, rfl | rfl⟩
      · have k1 := kk _ _ _ hs
        refine ⟨k1.1, k1.2.1, fun a1 a2 H locs lsr hR hlo hl => ?_⟩
        simp only [List.map_cons, ax_v_int]
        rw [ax_v_ref (ax_ne0 hR (by omega))]
        exact W.iast hexec hb (ax_getA hR h1 (by omega) (by omega)) ((ax_Ka hK (c := 16) (by omega) (by omega)).1 _ _) (fun q => by cases q) (ax_nin h2 h3 (arrV_size _ _ _)) rfl rfl hd fun H1 e1 e2 e3 => k1.2.2 a1 a2 H1 _ lsr (ax_astI hR h1 (Or.inl rfl) e1 e2 e3) (ax_app_base hlo (ax_valid hR (by omega)).1 rfl) hl
      · simp at hs
      · have k1 := kk _ _ _ hs
        refine ⟨k1.1, k1.2.1, fun a1 a2 H locs lsr hR hlo hl => ?_⟩
        simp only [List.map_cons, ax_v_int]
        rw [ax_v_ref (ax_ne0 hR (by omega))]
        exact W.bast hexec hb (ax_getA hR h1 (by omega) (by omega)) ((ax_Ka hK (c := 18) (by omega) (by omega)).1 _ _) (fun q => by cases q) (ax_nin h2 h3 (arrV_size _ _ _)) rfl rfl hd fun H1 e1 e2 e3 => k1.2.2 a1 a2 H1 _ lsr (ax_astI hR h1 (Or.inr (Or.inl rfl)) e1 e2 e3) (ax_app_base hlo (ax_valid hR (by omega)).1 rfl) hl
      · have k1 := kk _ _ _ hs
        refine ⟨k1.1, k1.2.1, fun a1 a2 H locs lsr hR hlo hl => ?_⟩
        simp only [List.map_cons, ax_v_int]
        rw [ax_v_ref (ax_ne0 hR (by omega))]
        exact W.zast hexec hb (ax_getA hR h1 (by omega) (by omega)) ((ax_Ka hK (c := 19) (by omega) (by omega)).1 _ _) (fun q => by cases q) (ax_nin h2 h3 (arrV_size _ _ _)) rfl rfl hd fun H1 e1 e2 e3 => k1.2.2 a1 a2 H1 _ lsr (ax_astI hR h1 (Or.inr (Or.inr rfl)) e1 e2 e3) (ax_app_base hlo (ax_valid hR (by omega)).1 rfl) hl
      · simp at hs
      · simp at hs
    · rw [if_neg hin] at hs; cases hs
  · rename_i v j x r
    by_cases hin : ax_in h x kd j
    · rw [if_pos hin] at hs
      obtain ⟨h1, h2, h3⟩ := id hin
      split at hs
      · rename_i h17
        subst h17
        have hins : ins = .lastore := by simpa using hi
        subst hins
        have k1 := kk _ _ _ hs
        refine ⟨k1.1, k1.2.1, fun a1 a2 H locs lsr hR hlo hl => ?_⟩
        simp only [List.map_cons, ax_v_int, ax_v_long]
        rw [ax_v_ref (ax_ne0 hR (by omega))]
        exact W.last hexec hb (ax_getA hR h1 (by omega) (by omega)) ((ax_Ka hK (c := 17) (by omega) (by omega)).1 _ _) (fun q => by cases q) (ax_nin h2 h3 (arrV_size _ _ _)) rfl rfl hd fun H1 e1 e2 e3 => k1.2.2 a1 a2 H1 _ lsr (ax_astL hR h1 e1 e2 e3) (ax_app_base hlo (ax_valid hR (by omega)).1 rfl) hl
      · cases hs
    · rw [if_neg hin] at hs; cases hs
  · rename_i v j x r
    by_cases hin : ax_in h x kd j
    · rw [if_pos hin] at hs
      have go : ∀ cn, ((kd = 20 ∧ cn = 5) ∨ (kd = 21 ∧ cn = 1)) → (v = 0 ∨ (gS h v).1 = cn) → ins = .aastore → k ls r (pR h x j.toNatClampNeg v) = some res → ax_W X p l e R s m args below meth c nL Q n0 z0 hf pc ls (.ref v :: .int j :: .ref x :: r) h := by
        intro cn hkd hv hins hs
        subst hins
        have k1 := kk _ _ _ hs
        refine ⟨k1.1, k1.2.1, fun a1 a2 H locs lsr hR hlo hl => ?_⟩
        exact ax_aast hexec hb hK hR hkd hv hin hd fun H1 lo q1 e1 e2 e3 => k1.2.2 a1 a2 H1 _ lsr (ax_astR hR hin.1 (by omega) (by omega) e1 e2 e3) (ax_app_base hlo (ax_valid hR (by have := hin.1; omega)).1 q1) hl
      split at hs
      · rename_i h20
        split at hs
        · rename_i hv
          subst h20
          exact go 5 (Or.inl ⟨rfl, rfl⟩) hv (by simpa using hi) hs
        · cases hs
      · split at hs
        · rename_i h21
          split at hs
          · rename_i hv
            subst h21
            exact go 1 (Or.inr ⟨rfl, rfl⟩) hv (by simpa using hi) hs
          · cases hs
        · cases hs
    · rw [if_neg hin] at hs; cases hs
  · cases hs
end AXA
end
section
/-! what is made: objects, rows, clones; constants; copies -/
section AXN
variable {α : Type} {X : ax_X} {p : Program} {l : Launch} {e : Env} {R : Room} {s : State} {m : MethodId} {args : Array Value} {below : List Frame} {meth : Method} {c : Code} {Q : State → Prop} {cc : ByteArray} {nL n0 z0 : Nat} {hf : ax_H}
variable {pc : Nat} {lsr : Array Slot} {rest : List Value} {H : Heap} {locs : List Loc} {cells slots : Nat} {h : ax_H} {own : String}
variable {st : List Value} {ls : ax_L} {k : ax_L → List Value → ax_H → Option α} {res : α}
theorem ax_rN (hR : ax_Rep X h H) : ax_r X (gN h) = H.size := by
  rw [ax_r_hi hR.1, hR.2.1]
theorem ax_vN (hR : ax_Rep X h H) : ax_v X (.ref (gN h)) = .ref H.size := by
  have := hR.1
  rw [ax_v_ref (by omega), ax_rN hR]
theorem ax_gS_new (h : ax_H) (kd len z : Nat) : gS (nW h kd len z) (gN h) = (kd, len) := ax_u1s (f := h.2.2.1)
theorem ax_gI_new (h : ax_H) (kd len z : Nat) : gI (nW h kd len z) (gN h) = fun _ => 0 := ax_u1s (f := h.2.2.2.1)
theorem ax_gL_new (h : ax_H) (kd len z : Nat) : gL (nW h kd len z) (gN h) = fun _ => 0 := ax_u1s (f := h.2.2.2.2.1)
theorem ax_gR_new (h : ax_H) (kd len z : Nat) : gR (nW h kd len z) (gN h) = fun _ => 0 := ax_u1s (f := h.2.2.2.2.2)
theorem ax_new_ok (hexec : p.tables.exec = Jvm.exec) (hb : c.code = cc) (hts : ∀ w ∈ ax_G, w.before args s = true) (hown : s.vm.findClass own = some m.cls) (hK : ax_K X s) (hRc : gN hf ≤ n0 + R.cells) (hRz : gZ hf ≤ z0 + R.slots) {a idx : Nat} (ha : a < 12) (hlink : Cond.classLink own idx (ax_cn a) ∈ ax_G) (hd : decode cc pc = .ok (.new idx, 3))
    (kk : ∀ ls' st' h1, k ls' st' h1 = some res → ax_W X p l e R s m args below meth c nL Q n0 z0 hf (pc + 3) ls' st' h1) (hs : k ls (.ref (gN h) :: st) (nW h a 0 (ax_n a)) = some res) : ax_W X p l e R s m args below meth c nL Q n0 z0 hf pc ls st h := by
  have k1 := kk _ _ _ hs
  have b1 : gN h + 1 ≤ gN hf := k1.1
  have b2 : gZ h + ax_n a ≤ gZ hf := k1.2.1
  refine ⟨by omega, by omega, fun a1 a2 H locs lsr hR hlo hl => ?_⟩
  have hKn := ax_Kc hK ha
  refine W.newcK hexec hb hown (hts _ hlink) (hts _ (ax_inst a ha)) (hts _ (ax_init a ha)) rfl hd (by omega) (by omega) hKn.2.1 rfl fun H1 kC hkC e1 z1 o1 => ?_
  have hob := u_born (ax_ty a) hts (ax_win a ha) hKn hkC e1 (ax_tok a ha)
  have hR1 : ax_Rep X (nW h a 0 (ax_n a)) H1 := by
    refine ax_new hR z1 o1 (Or.inl ?_)
    rw [ax_gS_new]
    refine ⟨ha, ?_⟩
    unfold ax_obj
    rw [ax_rN hR]
    refine t_OB.to hob (fun j hj => ?_)
    simp only [ax_fv, ax_gI_new, ax_gL_new, ax_gR_new]
    have ht := ax_tyoks a ha j hj
    unfold ax_tyok at ht
    split at ht
    · rename_i h1 h2; simp [h1, h2, defaultValue]
    · rename_i h1 h2; simp [h1, h2, defaultValue]
    · rename_i h1 h2; simp [h1, h2, defaultValue]
    · rename_i h1 h2; simp [h1, h2, defaultValue, ax_v_null]
    · rename_i h1 h2; simp [h1, h2, defaultValue, ax_v_null]
    · cases ht
  have w := k1.2.2 (by show n0 ≤ gN h + 1; omega) (by show z0 ≤ gZ h + ax_n a; omega) H1 locs lsr hR1 hlo hl
  rw [List.map_cons, ax_vN hR] at w
  exact W.cs (show gN h - n0 + 1 = gN h + 1 - n0 by omega) (show gZ h - z0 + ax_n a = gZ h + ax_n a - z0 by omega) w
theorem ax_na_ok (hexec : p.tables.exec = Jvm.exec) (hb : c.code = cc) (hts : ∀ w ∈ ax_G, w.before args s = true) (hown : s.vm.findClass own = some m.cls) (hK : ax_K X s) (hRc : gN hf ≤ n0 + R.cells) (hRz : gZ hf ≤ z0 + R.slots) {kd : Nat} {ins : Instr} {len : Nat} (hd : decode cc pc = .ok (ins, len))
    (hi : (∃ at', ins = .newarray at' ∧ len = 2 ∧ 16 ≤ kd ∧ kd < 20 ∧ newarray.typeOf at' = ax_at kd ∧ Cond.arrayClass (ax_at kd) ∈ ax_G) ∨ (∃ idx cn, ins = .anewarray idx ∧ len = 3 ∧ ((kd = 20 ∧ cn = 5) ∨ (kd = 21 ∧ cn = 1)) ∧ Cond.classLink own idx (ax_cn cn) ∈ ax_G))
    (kk : ∀ ls' st' h1, k ls' st' h1 = some res → ax_W X p l e R s m args below meth c nL Q n0 z0 hf (pc + len) ls' st' h1) (hs : ax_na kd st h (fun r h1 => k ls r h1) = some res) : ax_W X p l e R s m args below meth c nL Q n0 z0 hf pc ls st h := by
  unfold ax_na at hs
  split at hs
  · rename_i n r
    by_cases hn : ¬ n < 0 ∧ n.toNatClampNeg ≤ 100000
    · rw [if_pos hn] at hs
      obtain ⟨hn0, hn1⟩ := hn
      have k1 := kk _ _ _ hs
      have b1 : gN h + 1 ≤ gN hf := k1.1
      have b2 : gZ h + n.toNatClampNeg ≤ gZ hf := k1.2.1
      refine ⟨by omega, by omega, fun a1 a2 H locs lsr hR hlo hl => ?_⟩
      have fin : ∀ H1 : Heap, H1[H.size]? = some (arrV (xR X kd) n.toNatClampNeg (fun _ => if kd = 17 then .long 0 else if kd < 20 then .int 0 else .null)) → H1.size = H.size + 1 → (∀ q, q < H.size → H1[q]? = H[q]?) → 16 ≤ kd → kd < 23 → W p l e R s m args below meth c H1 locs (gN h - n0 + 1) (gZ h - z0 + n.toNatClampNeg) Q (F0 m (pc + len) lsr (.ref H.size :: r.map (ax_v X))) := by
        intro H1 e1 z1 o1 g1 g2
        have hR1 : ax_Rep X (nW h kd n.toNatClampNeg n.toNatClampNeg) H1 := by
          refine ax_new hR z1 o1 (Or.inr ?_)
          unfold ax_row
          rw [ax_gS_new]
          refine ⟨g1, g2, ?_⟩
          rw [ax_rN hR, e1]
          have : (fun _ => if kd = 17 then Value.long 0 else if kd < 20 then .int 0 else .null) = ax_av X (nW h kd n.toNatClampNeg n.toNatClampNeg) (gN h) kd := by
            funext j
            simp only [ax_av, ax_gI_new, ax_gL_new, ax_gR_new, ax_v_null]
          rw [this]
        have w := k1.2.2 (by show n0 ≤ gN h + 1; omega) (by show z0 ≤ gZ h + n.toNatClampNeg; omega) H1 locs lsr hR1 hlo hl
        rw [List.map_cons, ax_vN hR] at w
        exact W.cs (show gN h - n0 + 1 = gN h + 1 - n0 by omega) (show gZ h - z0 + n.toNatClampNeg = gZ h + n.toNatClampNeg - z0 by omega) w
      rcases hi with ⟨at', rfl, rfl, g1, g2, hty, harr⟩ | ⟨idx, cn, rfl, rfl, hkc, hlink⟩
      · have hRA := (ax_Ka hK g1 (by omega)).2
        refine va_newaK hexec hb (atype := at') (N := n.toNatClampNeg) (by rw [hty]; exact hts _ harr) rfl hd rfl hn0 rfl ?_ (by omega) (by omega) rfl fun H1 cA e1 z1 o1 _ hnm => ?_
        · have : componentBytes (newarray.typeOf at') ≤ 8 := by cases at' <;> decide
          have := Nat.mul_le_mul hn1 this
          omega
        · have hcA : cA = xR X kd := by
            rw [hty] at hnm
            match kd, g1, g2, hRA, hnm with
            | 16, _, _, hRA, hnm => exact Option.some.inj (hnm.symm.trans hRA)
            | 17, _, _, hRA, hnm => exact Option.some.inj (hnm.symm.trans hRA)
            | 18, _, _, hRA, hnm => exact Option.some.inj (hnm.symm.trans hRA)
            | 19, _, _, hRA, hnm => exact Option.some.inj (hnm.symm.trans hRA)
            | k + 20, _, h, _, _ => exact absurd h (by omega)
          rw [hcA, hty] at e1
          refine fin H1 ?_ z1 o1 g1 (by omega)
          rw [e1]
          match kd, g1, g2 with
          | 16, _, _ => rfl
          | 17, _, _ => rfl
          | 18, _, _ => rfl
          | 19, _, _ => rfl
          | k + 20, _, h => exact absurd h (by omega)
      · have hover : (Jvm.Cond.arrayOver (.object (ax_cn cn))).before args s = true := by
          obtain ⟨o1, o2, -, -⟩ := hK.2.2.2.1
          rcases hkc with ⟨rfl, rfl⟩ | ⟨rfl, rfl⟩
          · exact va_AO.use o1
          · exact va_AO.use o2
        have hat : ax_at kd = .object (ax_cn cn) := by rcases hkc with ⟨rfl, rfl⟩ | ⟨rfl, rfl⟩ <;> rfl
        have hRA := (ax_Ka hK (c := kd) (by omega) (by omega)).2
        rw [hat] at hRA
        obtain ⟨kA0, comp0, -, -, -, hnm0⟩ := hRA
        refine W.anew hexec hb hown (hts _ hlink) hover rfl hd rfl hn0 (by omega) (by omega) (by omega) fun cA kA comp hnm _ _ _ => ?_
        have hcA : cA = xR X kd := Option.some.inj (hnm.symm.trans hnm0)
        refine fin _ ?_ (by simp) (fun q hq => by rw [Array.getElem?_push, if_neg (Nat.ne_of_lt hq)]) (by omega) (by omega)
        rw [Array.getElem?_push_size, arrV_new, hcA, if_neg (by omega), if_neg (by omega)]
    · rw [if_neg hn] at hs; cases hs
  · cases hs
theorem ax_cc_ok (hexec : p.tables.exec = Jvm.exec) (hb : c.code = cc) (hts : ∀ w ∈ ax_G, w.before args s = true) (hown : s.vm.findClass own = some m.cls) (hK : ax_K X s) {idx : Nat} (hlink : Cond.classLink own idx "[I" ∈ ax_G) (hd : decode cc pc = .ok (.checkcast idx, 3))
    (kk : ∀ ls' st' h1, k ls' st' h1 = some res → ax_W X p l e R s m args below meth c nL Q n0 z0 hf (pc + 3) ls' st' h1) (hs : ax_cc 16 st h (fun r => k ls r h) = some res) : ax_W X p l e R s m args below meth c nL Q n0 z0 hf pc ls st h := by
  unfold ax_cc at hs
  split at hs
  · split at hs
    · rename_i x r hk
      refine ax_stay (kk _ _ _ hs) fun H locs cells slots lsr hR hl w => ?_
      have w := w lsr hl
      rw [List.map_cons, ax_v_ref (ax_ne0 hR (by omega))] at w ⊢
      exact va_castE hexec hb hown (hts _ hlink) ⟨_, ax_getA hR hk (by omega) (by omega), rfl, va_nm_int (ax_Ka hK (c := 16) (by omega) (by omega)).2⟩ hd w
    · cases hs
  · cases hs
theorem ax_init_ok (hexec : p.tables.exec = Jvm.exec) (hb : c.code = cc) (hml : c.maxLocals = nL) (hts : ∀ w ∈ ax_G, w.before args s = true) (hown : s.vm.findClass own = some m.cls) {idx : Nat} (hlink : Cond.methodLink own idx Lib.objectInit ∈ ax_G) (hinst : Cond.instanceMethod Lib.objectInit ∈ ax_G) (hcode : Cond.code Lib.objectInit ⟨#[0xb1]⟩ 1 none ∈ ax_G) (hfr : 1 ≤ R.frames) (hlo : 20 ≤ R.locals) (hd : decode cc pc = .ok (.invokespecial idx, 3))
    (kk : ∀ ls' st' h1, k ls' st' h1 = some res → ax_W X p l e R s m args below meth c nL Q n0 z0 hf (pc + 3) ls' st' h1) (hs : (match st with | .ref x :: r => if (gS h x).1 < 12 ∧ (r.map (fun v => v.category)).sum ≤ 8 then k ls r h else none | _ => none) = some res) : ax_W X p l e R s m args below meth c nL Q n0 z0 hf pc ls st h := by
  split at hs
  · rename_i x r
    split at hs
    · rename_i hx
      refine ax_stay (kk _ _ _ hs) fun H locs cells slots lsr hR hl w => ?_
      rw [List.map_cons, ax_v_ref (ax_ne0 hR (by omega))]
      have hcat : ((r.map (ax_v X)).map fun v => v.category) = r.map (fun v => v.category) := by
        rw [List.map_map]; congr 1; funext v; exact ax_v_cat X v
      refine W.objInit hexec hb hown (hts _ hlink) (hts _ hinst) (hts _ hcode) (g := F0 m pc lsr (.ref (ax_r X x) :: r.map (ax_v X))) rfl (by rw [hml]; exact hl.1) rfl hd hfr ?_ (w lsr hl)
      show 2 * 0 + _ + 12 ≤ _
      rw [hcat]; omega
    · cases hs
  · cases hs
end AXN
end
section
/-! copies, clones, constants -/
section AXC
variable {α : Type} {X : ax_X} {p : Program} {l : Launch} {e : Env} {R : Room} {s : State} {m : MethodId} {args : Array Value} {below : List Frame} {meth : Method} {c : Code} {Q : State → Prop} {cc : ByteArray} {nL n0 z0 : Nat} {hf : ax_H}
variable {pc : Nat} {lsr : Array Slot} {rest : List Value} {H : Heap} {locs : List Loc} {cells slots : Nat} {h : ax_H} {own : String}
variable {st : List Value} {ls : ax_L} {k : ax_L → List Value → ax_H → Option α} {res : α}
theorem ax_cats (X : ax_X) (r : List Value) : ((r.map (ax_v X)).map fun v => v.category) = r.map (fun v => v.category) := by
  rw [List.map_map]; congr 1; funext v; exact ax_v_cat X v
theorem ax_nnI {z : Int32} (hz : ¬ z < 0) : z.toInt = (z.toNatClampNeg : Int) := by
  have hz0 : (0 : Int) ≤ z.toInt := by
    have := Int32.not_lt.mp hz
    simpa using Int32.le_iff_toInt_le.mp this
  show z.toInt = ((z.toInt.toNat : Nat) : Int)
  omega
/-- System.arraycopy between rows of one primitive kind -/
theorem ax_acp (hexec : p.tables.exec = Jvm.exec) (hb : c.code = cc) (hml : c.maxLocals = lsr.size) (hts : ∀ w ∈ ax_G, w.before args s = true) {idx : Nat} (hown : s.vm.findClass own = some m.cls) (hlink : Cond.methodLink own idx arraycopyName ∈ ax_G) (hnat : Cond.native arraycopyName ∈ ax_G) (hstat : Cond.static arraycopyName ∈ ax_G) (hini : Cond.initialized "java/lang/System" ∈ ax_G)
    (hfr : 1 ≤ R.frames) (hlo : nativeFrameWords "java/lang/System" "arraycopy" 5 + 19 ≤ R.locals) (hrest : (rest.map fun v => v.category).sum ≤ 8) {ra rb nA nB : Nat} {cA : ClassId} {ty : FieldType} {T : Type} (mk : T → Value) {f g : Nat → T} (hA : ArrOfT s cA ty) (hprim : refKind ty = false) (hfits : ∀ v, fits ty (mk v) = true)
    (hno : ∀ (U : State) (cm : ClassId) (v : T), U.takes cm (mk v))
    (ha : H[ra]? = some (arrV cA nA (fun j => mk (f j)))) (hb2 : H[rb]? = some (arrV cA nB (fun j => mk (g j)))) {sp dp n : Int32} (h1 : ¬ sp < 0) (h2 : ¬ dp < 0) (h3 : ¬ n < 0) (h4 : sp.toNatClampNeg + n.toNatClampNeg ≤ nA) (h5 : dp.toNatClampNeg + n.toNatClampNeg ≤ nB)
    (hdg : decode cc pc = .ok (.invokestatic idx, 3))
    (kk : ∀ (H1 : Heap) (L : List Loc), (∀ q ∈ L, q.base = rb) → H1[rb]? = some (arrV cA nB (fun j => mk (va_cpy f g sp.toNatClampNeg dp.toNatClampNeg n.toNatClampNeg j))) → H1.size = H.size → (∀ q, q ≠ rb → H1[q]? = H[q]?) → W p l e R s m args below meth c H1 (locs ++ L) cells slots Q (F0 m (pc + 3) lsr rest)) : W p l e R s m args below meth c H locs cells slots Q (F0 m pc lsr (.int n :: .int dp :: .ref rb :: .int sp :: .ref ra :: rest)) := by
  intro T hT S
  obtain ⟨-, k0, hk0, cm0, hkk0⟩ := hA nA (fun j => mk (f j))
  obtain ⟨-, k1, hk1, cm1, hkk1⟩ := hA nB (fun j => mk (g j))
  obtain ⟨vm', S', step⟩ := S.arraycopy hexec hown (hts _ hlink) (hts _ hnat) (hts _ hstat) (hts _ hini) (src := ra) (dst := rb) (cs := arrV cA nA (fun j => mk (f j))) (cd := arrV cA nB (fun j => mk (g j))) (srcPos := sp) (destPos := dp) (n := n) (by rw [hT]; exact ha) (by rw [hT]; exact hb2)
    (fun _ h => by cases h) (fun _ h => by cases h) (fun h => by cases h) (fun h => by cases h) hk0 hk1 hkk0 hkk1 (by simp [hprim]) h1 h2 h3
    (by rw [ax_nnI h1, ax_nnI h3, arrV_size]; omega)
    (by rw [ax_nnI h2, ax_nnI h3, arrV_size]; omega)
    (fun vm₁ _ i hi => by
      have e : (arrV cA nA (fun j => mk (f j))).slots.getD (sp.toNatClampNeg + i) .null = mk (f (sp.toNatClampNeg + i)) := by
        rw [Array.getD_eq_getD_getElem?, arrV_read _ _ (by omega)]
        rfl
      refine ⟨?_, ?_⟩
      · rw [e]
        exact hfits _
      · rw [e]
        exact hno _ _ _)
    (g := F0 m pc lsr (.int n :: .int dp :: .ref rb :: .int sp :: .ref ra :: rest)) rfl (by rw [hml]) (rest := rest) rfl (by rw [hb]; exact hdg) hfr (by show 2 * 0 + _ + _ ≤ _; omega)
  have e1 : copied (arrV cA nA (fun j => mk (f j))) (arrV cA nB (fun j => mk (g j))) sp dp n = arrV cA nB (fun j => mk (va_cpy f g sp.toNatClampNeg dp.toNatClampNeg n.toNatClampNeg j)) := va_copied mk cA cA f g h4
  rw [e1] at S' step
  have hl : rb < H.size := (Array.getElem?_eq_some_iff.mp hb2).1
  have hheap : ((T.setVm vm').setCell rb (arrV cA nB (fun j => mk (va_cpy f g sp.toNatClampNeg dp.toNatClampNeg n.toNatClampNeg j)))).heap = H.setIfInBounds rb (arrV cA nB (fun j => mk (va_cpy f g sp.toNatClampNeg dp.toNatClampNeg n.toNatClampNeg j))) := by rw [← hT]; rfl
  obtain ⟨t, a1, b1⟩ := kk (H.setIfInBounds rb (arrV cA nB (fun j => mk (va_cpy f g sp.toNatClampNeg dp.toNatClampNeg n.toNatClampNeg j)))) _ (fun q hq => by
      obtain ⟨z, -, hz⟩ := List.mem_map.mp hq
      rw [← hz]) (by simp [Array.getElem?_setIfInBounds, hl]) (by simp) (fun q hq => by simp [Array.getElem?_setIfInBounds, Ne.symm hq]) _ hheap S'
  exact ⟨t, step t a1, b1⟩
theorem ax_ac_ok (hexec : p.tables.exec = Jvm.exec) (hb : c.code = cc) (hml : c.maxLocals = nL) (hts : ∀ w ∈ ax_G, w.before args s = true) (hown : s.vm.findClass own = some m.cls) (hK : ax_K X s) {idx kd : Nat} (hkd : kd = 16 ∨ kd = 17) (hlink : Cond.methodLink own idx arraycopyName ∈ ax_G) (hnat : Cond.native arraycopyName ∈ ax_G) (hstat : Cond.static arraycopyName ∈ ax_G) (hini : Cond.initialized "java/lang/System" ∈ ax_G)
    (hfr : 1 ≤ R.frames) (hlo : nativeFrameWords "java/lang/System" "arraycopy" 5 + 19 ≤ R.locals) (hd : decode cc pc = .ok (.invokestatic idx, 3))
    (kk : ∀ ls' st' h1, k ls' st' h1 = some res → ax_W X p l e R s m args below meth c nL Q n0 z0 hf (pc + 3) ls' st' h1) (hs : ax_ac kd st h (fun r h1 => k ls r h1) = some res) : ax_W X p l e R s m args below meth c nL Q n0 z0 hf pc ls st h := by
  unfold ax_ac at hs
  split at hs
  · rename_i n dp y sp x r
    by_cases hc : ax_cp h x kd sp n ∧ ax_cp h y kd dp n ∧ ¬ n < 0 ∧ (r.map (fun v => v.category)).sum ≤ 8
    · rw [if_pos hc] at hs
      obtain ⟨⟨x1, x2, x3⟩, ⟨y1, y2, y3⟩, hn, hr⟩ := hc
      have app : ∀ (locs L : List Loc), (∀ l ∈ locs, xB X ≤ l.base) → 64 ≤ y → (∀ q ∈ L, q.base = ax_r X y) → ∀ l ∈ locs ++ L, xB X ≤ l.base := by
        intro locs L h1 hy h2 q hq
        rcases List.mem_append.mp hq with h | h
        · exact h1 q h
        · rw [h2 q h, ax_r_hi hy]; omega
      rcases hkd with rfl | rfl
      · rw [if_pos rfl] at hs
        have k1 := kk _ _ _ hs
        refine ⟨k1.1, k1.2.1, fun a1 a2 H locs lsr hR hlo' hl => ?_⟩
        simp only [List.map_cons, ax_v_int]
        rw [ax_v_ref (a := x) (ax_ne0 hR (by omega)), ax_v_ref (a := y) (ax_ne0 hR (by omega))]
        exact ax_acp hexec hb (by rw [hml]; exact hl.1.symm) hts hown hlink hnat hstat hini hfr hlo (by rw [ax_cats]; exact hr) (fun z : Int32 => Value.int z) (f := gI h x) (g := gI h y) (ax_Ka hK (c := 16) (by omega) (by omega)).1 rfl (fun _ => rfl) (fun _ _ _ => trivial) (ax_getA hR x1 (by omega) (by omega)) (ax_getA hR y1 (by omega) (by omega)) x2 y2 hn x3 y3 hd
          (fun H1 L hL e1 e2 e3 => k1.2.2 a1 a2 H1 _ lsr (ax_rowI hR y1 (Or.inl rfl) e1 e2 e3) (app locs L hlo' (ax_valid hR (by omega)).1 hL) hl)
      · rw [if_neg (by omega), if_pos rfl] at hs
        have k1 := kk _ _ _ hs
        refine ⟨k1.1, k1.2.1, fun a1 a2 H locs lsr hR hlo' hl => ?_⟩
        simp only [List.map_cons, ax_v_int]
        rw [ax_v_ref (a := x) (ax_ne0 hR (by omega)), ax_v_ref (a := y) (ax_ne0 hR (by omega))]
        exact ax_acp hexec hb (by rw [hml]; exact hl.1.symm) hts hown hlink hnat hstat hini hfr hlo (by rw [ax_cats]; exact hr) (fun z : Int64 => Value.long z) (f := gL h x) (g := gL h y) (ax_Ka hK (c := 17) (by omega) (by omega)).1 rfl (fun _ => rfl) (fun _ _ _ => trivial) (ax_getA hR x1 (by omega) (by omega)) (ax_getA hR y1 (by omega) (by omega)) x2 y2 hn x3 y3 hd
          (fun H1 L hL e1 e2 e3 => k1.2.2 a1 a2 H1 _ lsr (ax_rowL hR y1 e1 e2 e3) (app locs L hlo' (ax_valid hR (by omega)).1 hL) hl)
    · rw [if_neg hc] at hs; cases hs
  · cases hs
theorem ax_cl_ok (hexec : p.tables.exec = Jvm.exec) (hb : c.code = cc) (hml : c.maxLocals = nL) (hts : ∀ w ∈ ax_G, w.before args s = true) (hown : s.vm.findClass own = some m.cls) (hK : ax_K X s) (hRc : gN hf ≤ n0 + R.cells) (hRz : gZ hf ≤ z0 + R.slots) {idx : Nat} (hlink : Cond.methodLink own idx ⟨"[I", "clone", "()Ljava/lang/Object;"⟩ ∈ ax_G) (hsame : Cond.sameMethod "[I" "java/lang/Object" "clone" "()Ljava/lang/Object;" ∈ ax_G) (hnat : Cond.native ⟨"java/lang/Object", "clone", "()Ljava/lang/Object;"⟩ ∈ ax_G) (hinst : Cond.instanceMethod ⟨"java/lang/Object", "clone", "()Ljava/lang/Object;"⟩ ∈ ax_G) (hsel : Cond.selects "[I" ⟨"[I", "clone", "()Ljava/lang/Object;"⟩ ⟨"java/lang/Object", "clone", "()Ljava/lang/Object;"⟩ ∈ ax_G)
    (hfr : 1 ≤ R.frames) (hlo : 22 ≤ R.locals) (hd : decode cc pc = .ok (.invokevirtual idx, 3))
    (kk : ∀ ls' st' h1, k ls' st' h1 = some res → ax_W X p l e R s m args below meth c nL Q n0 z0 hf (pc + 3) ls' st' h1) (hs : ax_cl st h (fun r h1 => k ls r h1) = some res) : ax_W X p l e R s m args below meth c nL Q n0 z0 hf pc ls st h := by
  unfold ax_cl at hs
  split at hs
  · rename_i x r
    by_cases hc : (gS h x).1 = 16 ∧ (gS h x).2 ≤ 100000 ∧ (r.map (fun v => v.category)).sum ≤ 8
    · rw [if_pos hc] at hs
      obtain ⟨x1, x2, x3⟩ := hc
      have k1 := kk _ _ _ hs
      have b1 : gN h + 1 ≤ gN hf := k1.1
      have b2 : gZ h + (gS h x).2 ≤ gZ hf := k1.2.1
      refine ⟨by omega, by omega, fun a1 a2 H locs lsr hR hlo' hl => ?_⟩
      obtain ⟨-, -, -, -, -, ⟨-, -, -, hcl⟩, -⟩ := (⟨hK.1, hK.2.1, hK.2.2.1, hK.2.2.1, trivial, hK.2.2.2.1, trivial⟩ : _ ∧ _ ∧ _ ∧ _ ∧ True ∧ _ ∧ True)
      have hA := ax_Ka hK (c := 16) (by omega) (by omega)
      have hnm := va_nm_int hA.2
      have hcell := ax_getA hR x1 (by omega) (by omega)
      unfold ax_row at hcell
      obtain ⟨c0, t0', f1, f2, f3⟩ := Cond.castable_spec (va_Nw.use (A := args) rfl hcl)
      cases hnm.symm.trans f1
      simp only [List.map_cons]
      rw [ax_v_ref (a := x) (ax_ne0 hR (by omega))]
      intro T hT S
      obtain ⟨-, kA, hkA, comp, hkind⟩ := State.isArrayOf_alike S.warmed.alike (hA.1 0 (fun _ => .null))
      obtain ⟨-, kS, hkS, compS, hkindS⟩ := hA.1 0 (fun _ => .null)
      obtain ⟨vm', S', step⟩ := S.cloneArray hexec hown (hts _ hlink) (hts _ hsame) (hts _ hnat) (hts _ hinst) (hts _ hsel) (a := ax_r X x) (cell := arrV (xR X 16) (gS h x).2 (ax_av X h x 16)) (by rw [hT]; exact hcell) (fun k h => by cases h) (fun h => by cases h) hnm f2 f3
        (fun i v hv => by
          have hk' : T.vm.classes[xR X 16]? = some kA := hkA
          have hi : i < (gS h x).2 := by
            have := (Array.getElem?_eq_some_iff.mp hv).1
            rwa [arrV_size] at this
          rw [arrV_read _ _ hi] at hv
          cases hv
          simp [State.fitsSlot, State.slotType?, hk', hkind, ax_av, arrV, ax_at, fits])
        (g := F0 m pc lsr (.ref (ax_r X x) :: r.map (ax_v X))) rfl (by rw [hml]; exact hl.1) rfl (by rw [hb]; exact hd) hfr (by show 2 * 0 + _ + 14 ≤ _; rw [ax_cats]; omega) (by omega) (by rw [arrV_size]; omega) (hloader := Vm.clonesLoader_of_array hkS hkindS)
      rw [arrV_size] at S'
      have hR1 : ax_Rep X (nW h 16 (gS h x).2 (gS h x).2) (H.push (arrV (xR X 16) (gS h x).2 (fun _ => .int 0))) := by
        refine ax_new hR (by simp) (fun q hq => by rw [Array.getElem?_push, if_neg (Nat.ne_of_lt hq)]) (Or.inr ?_)
        unfold ax_row
        rw [ax_gS_new]
        refine ⟨by omega, by omega, ?_⟩
        rw [ax_rN hR, Array.getElem?_push_size]
        have : (fun _ => Value.int 0) = ax_av X (nW h 16 (gS h x).2 (gS h x).2) (gN h) 16 := by
          funext j
          simp [ax_av, ax_gI_new]
        rw [this]
      have hR2 : ax_Rep X (rI (nW h 16 (gS h x).2 (gS h x).2) (gN h) (gI h x)) (H.push (arrV (xR X 16) (gS h x).2 (ax_av X h x 16))) := by
        refine ax_rowI (c := 16) hR1 (by rw [ax_gS_new]) (Or.inl rfl) ?_ (by simp) (fun q hq => ?_)
        · rw [ax_gS_new, ax_rN hR, Array.getElem?_push_size]
          rfl
        · rw [ax_rN hR] at hq
          rw [Array.getElem?_push, Array.getElem?_push, if_neg hq, if_neg hq]
      have w := k1.2.2 (by show n0 ≤ gN h + 1; omega) (by show z0 ≤ gZ h + (gS h x).2; omega) _ locs lsr hR2 hlo' hl
      rw [List.map_cons, ax_vN hR] at w
      have w2 := W.cs (show gN h - n0 + 1 = gN h + 1 - n0 by omega) (show gZ h - z0 + (gS h x).2 = gZ h + (gS h x).2 - z0 by omega) w
      obtain ⟨t, b1, b2⟩ := w2 ((T.setVm vm').pushCell (arrV (xR X 16) (gS h x).2 (ax_av X h x 16))) (by rw [← hT]; rfl) S'
      refine ⟨t, step t ?_, b2⟩
      rw [hT]
      exact b1
    · rw [if_neg hc] at hs; cases hs
  · cases hs
/-- constants out of the pool -/
theorem ax_ldc_ok (hexec : p.tables.exec = Jvm.exec) (hb : c.code = cc) (hts : ∀ w ∈ ax_G, w.before args s = true) (hown : s.vm.findClass own = some m.cls) {idx : Nat} {z : Int} (hlink : Jvm.Cond.constant own idx (Int32.ofInt z) ∈ ax_G) (hd : decode cc pc = .ok (.ldc idx, 2))
    (kk : ax_W X p l e R s m args below meth c nL Q n0 z0 hf (pc + 2) ls (.int (Int32.ofInt z) :: st) h) : ax_W X p l e R s m args below meth c nL Q n0 z0 hf pc ls st h :=
  ax_stay kk fun H locs cells slots lsr hR hl w => lv_ldc hexec hb hown (hts _ hlink) hd (w lsr hl)
theorem ax_ldcw_ok (hexec : p.tables.exec = Jvm.exec) (hb : c.code = cc) (hts : ∀ w ∈ ax_G, w.before args s = true) (hown : s.vm.findClass own = some m.cls) {idx : Nat} {z : Int} (hlink : Jvm.Cond.constant own idx (Int32.ofInt z) ∈ ax_G) (hd : decode cc pc = .ok (.ldc_w idx, 3))
    (kk : ax_W X p l e R s m args below meth c nL Q n0 z0 hf (pc + 3) ls (.int (Int32.ofInt z) :: st) h) : ax_W X p l e R s m args below meth c nL Q n0 z0 hf pc ls st h :=
  ax_stay kk fun H locs cells slots lsr hR hl w => lv_ldcw hexec hb hown (hts _ hlink) hd (w lsr hl)
theorem ax_ldc2_ok (hexec : p.tables.exec = Jvm.exec) (hb : c.code = cc) (hts : ∀ w ∈ ax_G, w.before args s = true) (hown : s.vm.findClass own = some m.cls) {idx : Nat} {z : Int} (hlink : Jvm.Cond.constantLong own idx (Int64.ofInt z) ∈ ax_G) (hd : decode cc pc = .ok (.ldc2_w idx, 3))
    (kk : ax_W X p l e R s m args below meth c nL Q n0 z0 hf (pc + 3) ls (.long (Int64.ofInt z) :: st) h) : ax_W X p l e R s m args below meth c nL Q n0 z0 hf pc ls st h :=
  ax_stay kk fun H locs cells slots lsr hR hl w => lv_ldc2 hexec hb hown (hts _ hlink) hd (w lsr hl)
theorem ax_ldcs_ok (hexec : p.tables.exec = Jvm.exec) (hb : c.code = cc) (hown : s.vm.findClass own = some m.cls) (hK : ax_K X s) {i idx : Nat} {tx : String} (hi : ax_strs[i]? = some (own, idx, tx)) (hi2 : i + 1 < 64) (hd : decode cc pc = .ok (.ldc idx, 2))
    (kk : ax_W X p l e R s m args below meth c nL Q n0 z0 hf (pc + 2) ls (.ref (i + 1) :: st) h) : ax_W X p l e R s m args below meth c nL Q n0 z0 hf pc ls st h :=
  ax_stay kk fun H locs cells slots lsr hR hl w => by
    have w := w lsr hl
    rw [List.map_cons, ax_v_ref (by omega), ax_r, if_pos hi2] at w
    exact va_ldcS hexec hb hown (hK.2.2.1 i _ hi).1 hd w
theorem ax_ldcws_ok (hexec : p.tables.exec = Jvm.exec) (hb : c.code = cc) (hown : s.vm.findClass own = some m.cls) (hK : ax_K X s) {i idx : Nat} {tx : String} (hi : ax_strs[i]? = some (own, idx, tx)) (hi2 : i + 1 < 64) (hd : decode cc pc = .ok (.ldc_w idx, 3))
    (kk : ax_W X p l e R s m args below meth c nL Q n0 z0 hf (pc + 3) ls (.ref (i + 1) :: st) h) : ax_W X p l e R s m args below meth c nL Q n0 z0 hf pc ls st h :=
  ax_stay kk fun H locs cells slots lsr hR hl w => by
    have w := w lsr hl
    rw [List.map_cons, ax_v_ref (by omega), ax_r, if_pos hi2] at w
    obtain ⟨h1, h2⟩ := (hK.2.2.1 i _ hi).1
    intro T hT S
    obtain ⟨t, a1, b1⟩ := w T hT S
    refine ⟨t, ?_, b1⟩
    obtain ⟨k0, cf, i0, a', hk, hcf, hcp, -, hr, hev'⟩ := Cond.stringRef_spec hown h1
    cases h2.symm.trans hev'
    obtain ⟨k', hk', he⟩ := S.warmed.alike.2.2 _ _ hk
    have hr' : k'.resolved[idx]? = some (some (.string (xA X (i + 1)))) := by
      rcases S.warmed.entry hk hk' idx with h | ⟨h, -⟩
      · rw [h]; exact hr
      · rw [hr] at h; cases h
    jvm_step S.here [hexec, hb, hd, ldc_w.wp_string (e := e) (s := T) (f := F0 m pc lsr (st.map (ax_v X))) S.here.top hk' (by rw [he]; exact hcf) hcp hr']
    exact a1
end AXC
end
section
/-! calls: a method's number, its contract, its use -/
/-- name, bytes, locals, return type, values taken off the stack, frames, words -/
abbrev ax_MI : Type := MethodName × ByteArray × Nat × Option FieldType × Nat × Nat × Nat
def ax_Imp (M : Nat → ax_MI) (N : Nat) (av : List Value) (h : ax_H) (o : Option Value) (h' : ax_H) : Prop :=
  gN h ≤ gN h' ∧ gZ h ≤ gZ h' ∧ ∀ (l : Launch) (X : ax_X), Met l (M N).1 (Cond.code (M N).1 (M N).2.1 (M N).2.2.1 (M N).2.2.2.1 :: ax_G) { frames := (M N).2.2.2.2.2.1, cells := gN h' - gN h, slots := gZ h' - gZ h, locals := (M N).2.2.2.2.2.2 } (ax_Pc X av h) (ax_Qc X o h') (gN h' - gN h) (gZ h' - gZ h) (fun q => xB X ≤ q)
def ax_Es (M : Nat → ax_MI) (E : ax_Env) (N : Nat) : Prop :=
  (∀ av h h', E.1 N av h = some h' → ax_Imp M N av h none h') ∧ (∀ av h x h', E.2.1 N av h = some (x, h') → ax_Imp M N av h (some (.int x)) h') ∧ (∀ av h x h', E.2.2.1 N av h = some (x, h') → ax_Imp M N av h (some (.long x)) h') ∧ (∀ av h x h', E.2.2.2 N av h = some (x, h') → ax_Imp M N av h (some (.ref x)) h')
/-- which cell may receive: b / 2 its class, 45 a String constant -/
abbrev ax_rcv (h : ax_H) (b x : Nat) : Prop := if b / 2 = 45 then 1 ≤ x ∧ x ≤ 34 else (gS h x).1 = b / 2
/-- what a call's method must be: good words -/
def ax_Mok (M : Nat → ax_MI) (N : Nat) : Prop :=
  Cond.code (M N).1 (M N).2.1 (M N).2.2.1 (M N).2.2.2.1 ∈ ax_G ∧ Cond.initialized (M N).1.cls ∈ ax_G ∧ (M N).1.cls ≠ "java/lang/invoke/MethodHandle" ∧ (M N).1.cls ≠ "java/lang/invoke/VarHandle"
section AXK
variable {α : Type} {X : ax_X} {p : Program} {l : Launch} {e : Env} {R : Room} {s : State} {m : MethodId} {args : Array Value} {below : List Frame} {meth : Method} {c : Code} {Q : State → Prop} {cc : ByteArray} {nL n0 z0 : Nat} {hf : ax_H}
variable {pc : Nat} {lsr : Array Slot} {rest st0 : List Value} {H : Heap} {locs : List Loc} {cells slots : Nat} {h h' : ax_H} {own : String} {M : Nat → ax_MI} {N : Nat}
theorem ax_Gws (hts : ∀ w ∈ ax_G, w.before args s = true) (hM : ax_Mok M N) : ∀ w ∈ (Cond.code (M N).1 (M N).2.1 (M N).2.2.1 (M N).2.2.2.1 :: ax_G), ∀ (a' : Array Value) (U : State), s.WarmedH U.vm → w.before a' U = true := by
  refine pay_in hts (fun w hw => ?_)
  rcases List.mem_cons.mp hw with rfl | hw
  · exact ⟨hM.1, Or.inl rfl⟩
  · exact ax_G_good w hw
theorem ax_after {mc ms : Nat} {o : Option Value} {a : Array Value} (hr : va_Run p l e R s m args below meth c H locs cells slots mc ms (F0 m pc lsr st0) rest (ax_Qc X o h' a) (fun q => xB X ≤ q)) (hlo : ∀ l ∈ locs, xB X ≤ l.base)
    (kk : ∀ (H1 : Heap) (locs1 : List Loc), ax_Rep X h' H1 → (∀ l ∈ locs1, xB X ≤ l.base) → W p l e R s m args below meth c H1 locs1 (cells + mc) (slots + ms) Q (F0 m (pc + 3) lsr ((o.map (ax_v X)).toList ++ rest))) : W p l e R s m args below meth c H locs cells slots Q (F0 m pc lsr st0) := by
  intro T hT S
  obtain ⟨v, st₀, t, T', L, h0, S', hL, e1, e2, ⟨hv, hrep⟩, step⟩ := hr T hT S
  cases hv
  obtain ⟨t2, a1, b1⟩ := kk T'.heap (locs ++ L) (by rw [e1]; exact hrep) (fun q hq => by
    rcases List.mem_append.mp hq with h | h
    · exact hlo q h
    · exact hL q h) T' rfl S'
  exact ⟨t2, step t2 a1, b1⟩
theorem ax_pre (hK : ax_K X s) (hR : ax_Rep X h H) {av : List Value} : ∀ U : State, U.heap = H → s.WarmedH U.vm → ax_Pc X av h (av.map (ax_v X)).toArray U := fun U hU hW => ⟨rfl, by rw [hU]; exact hR, ax_K.warm hW hK⟩
/-- the numbers that a call's row must bring -/
def ax_room (M : Nat → ax_MI) (N : Nat) (R : Room) : Prop := (M N).2.2.2.2.2.1 + 1 ≤ R.frames ∧ 8 + ((M N).2.2.1 + 11) + (M N).2.2.2.2.2.2 ≤ R.locals
theorem ax_recv (hK : ax_K X s) (hR : ax_Rep X h H) {b x : Nat} (hx : ax_rcv h b x) (hb : b / 2 = 45 ∨ b / 2 < 12) {C : String} (hC : C = if b / 2 = 45 then "java/lang/String" else ax_cn (b / 2)) : x ≠ 0 ∧ ∃ cellB : Cell, H[ax_r X x]? = some cellB ∧ cellB.vm.isStatics = false ∧ s.vm.findClass C = some cellB.cls := by
  by_cases h45 : b / 2 = 45
  · rw [if_pos h45] at hC
    simp only [ax_rcv, h45, if_true] at hx
    refine ⟨by omega, ?_⟩
    have hlen : x - 1 < ax_strs.length := by
      have : ax_strs.length = 34 := rfl
      omega
    obtain ⟨v, hO, -⟩ := (hK.2.2.1 (x - 1) _ (List.getElem?_eq_getElem hlen)).2
    rw [show x - 1 + 1 = x by omega] at hO
    obtain ⟨cell, g1, g2, g3, g4⟩ := hO
    have hlt : xA X x < xB X := by
      have := Nat.not_le.mp g4
      exact this
    refine ⟨cell, ?_, g2, by rw [hC]; exact g3⟩
    rw [ax_r, if_pos (by omega), hR.2.2.2.1 _ hlt]
    exact g1
  · rw [if_neg h45] at hC
    simp only [ax_rcv, h45, if_false] at hx
    have hc : b / 2 < 12 := by omega
    refine ⟨ax_ne0 hR (by omega), ?_⟩
    obtain ⟨cell, q1, q2, q3, -⟩ := ax_getO hR hx hc
    exact ⟨cell, q1, by rw [q3]; rfl, by rw [hC, q2]; exact (ax_Kc hK hc).2.1⟩
variable {idx n : Nat} {st : List Value} {o : Option Value}
/-- a virtual call -/
theorem ax_cv (hexec : p.tables.exec = Jvm.exec) (hb : c.code = cc) (hml : c.maxLocals = lsr.size) (hts : ∀ w ∈ ax_G, w.before args s = true) (hown : s.vm.findClass own = some m.cls) (hK : ax_K X s) (hR : ax_Rep X h H) (hM : ax_Mok M N) (hI : Cond.instanceMethod (M N).1 ∈ ax_G) (hse : Cond.selects (M N).1.cls (M N).1 (M N).1 ∈ ax_G) (hn : (parseMethodDescriptor (M N).1.desc).map (fun d => d.parameters.length) = some n)
    (hlink : Cond.methodLink own idx (M N).1 ∈ ax_G ∨ ∃ host, (own, idx, (M N).1, host) ∈ ax_nest) (hroom : ax_room M N R) {x : Nat} {av : List Value} (hav : av.length = n) (hst : st = av.reverse ++ .ref x :: rest) {bb : Nat} (hx : ax_rcv h bb x) (hbb : bb / 2 = 45 ∨ bb / 2 < 12) (hC : (M N).1.cls = if bb / 2 = 45 then "java/lang/String" else ax_cn (bb / 2))
    (hrest : (rest.map fun v => v.category).sum ≤ 8) (hImp : ax_Imp M N (.ref x :: av) h o h') (hc1 : cells + (gN h' - gN h) ≤ R.cells) (hc2 : slots + (gZ h' - gZ h) ≤ R.slots) (hlo : ∀ l ∈ locs, xB X ≤ l.base) (hdg : decode cc pc = .ok (.invokevirtual idx, 3))
    (kk : ∀ (H1 : Heap) (locs1 : List Loc), ax_Rep X h' H1 → (∀ l ∈ locs1, xB X ≤ l.base) → W p l e R s m args below meth c H1 locs1 (cells + (gN h' - gN h)) (slots + (gZ h' - gZ h)) Q (F0 m (pc + 3) lsr ((o.toList ++ rest).map (ax_v X)))) : W p l e R s m args below meth c H locs cells slots Q (F0 m pc lsr (st.map (ax_v X))) := by
  obtain ⟨hx0, hcell⟩ := ax_recv hK hR hx hbb hC
  have hsig : ∀ sig, parseMethodDescriptor (M N).1.desc = some sig → n = sig.parameters.length := fun sig h => by rw [h] at hn; exact (Option.some.inj hn).symm
  have hpv : PreV s H (M N).1.cls (ax_r X x) (ax_Pc X (.ref x :: av) h) (av.map (ax_v X)) := ⟨ax_Pc.blind, hcell, fun U hU hW => by have := ax_pre hK hR (av := .ref x :: av) U hU hW; rwa [List.map_cons, ax_v_ref hx0] at this⟩
  have hstk : st.map (ax_v X) = (av.map (ax_v X)).reverse ++ .ref (ax_r X x) :: rest.map (ax_v X) := by rw [hst, List.map_append, List.map_cons, ax_v_ref hx0, List.map_reverse]
  have kk2 : ∀ (H1 : Heap) (locs1 : List Loc), ax_Rep X h' H1 → (∀ l ∈ locs1, xB X ≤ l.base) → W p l e R s m args below meth c H1 locs1 (cells + (gN h' - gN h)) (slots + (gZ h' - gZ h)) Q (F0 m (pc + 3) lsr ((o.map (ax_v X)).toList ++ rest.map (ax_v X))) := by
    intro H1 locs1 a1 a2
    have := kk H1 locs1 a1 a2
    rw [List.map_append] at this
    cases o <;> exact this
  rcases hlink with hl | ⟨host, hl⟩
  · exact ax_after (va_runV (cc := cc) (nL := lsr.size) (Ts := ax_G) (own := own) (C := (M N).1.cls) (bytes := (M N).2.1) (maxL := (M N).2.2.1) (ret := (M N).2.2.2.1) (n := n) (As := av.map (ax_v X)) (rest := rest.map (ax_v X)) ⟨hexec, hb, hml, hown, hts⟩ (hImp.2.2 l X) ⟨⟨rfl, rfl, hroom.1, hroom.2, ax_Gws hts hM, List.mem_cons_self, hts _ hM.1, hts _ hM.2.1, ⟨hM.2.2.1, hM.2.2.2⟩, hsig, hts _ hl⟩, hts _ hI, hts _ hse⟩ hpv rfl (by simpa using hav) rfl hstk (by show 2 * 0 + _ ≤ 8; rw [ax_cats]; omega) hdg ⟨hc1, hc2⟩) hlo kk2
  · exact ax_after (va_runVN (cc := cc) (nL := lsr.size) (Ts := ax_G) (own := own) (host := host) (C := (M N).1.cls) (bytes := (M N).2.1) (maxL := (M N).2.2.1) (ret := (M N).2.2.2.1) (n := n) (As := av.map (ax_v X)) (rest := rest.map (ax_v X)) ⟨hexec, hb, hml, hown, hts⟩ (hImp.2.2 l X) ⟨⟨⟨rfl, rfl, hroom.1, hroom.2, ax_Gws hts hM, List.mem_cons_self⟩, hts _ hM.1, hts _ hM.2.1, ⟨hM.2.2.1, hM.2.2.2⟩, hsig, va_Nw.use rfl (hK.2.1 _ hl)⟩, hts _ hI, hts _ hse⟩ hpv rfl (by simpa using hav) rfl hstk (by show 2 * 0 + _ ≤ 8; rw [ax_cats]; omega) hdg ⟨hc1, hc2⟩) hlo kk2
/-- a static call -/
theorem ax_cs (hexec : p.tables.exec = Jvm.exec) (hb : c.code = cc) (hml : c.maxLocals = lsr.size) (hts : ∀ w ∈ ax_G, w.before args s = true) (hown : s.vm.findClass own = some m.cls) (hK : ax_K X s) (hR : ax_Rep X h H) (hM : ax_Mok M N) (hI : Cond.static (M N).1 ∈ ax_G) (hn : (parseMethodDescriptor (M N).1.desc).map (fun d => d.parameters.length) = some n)
    (hlink : Cond.methodLink own idx (M N).1 ∈ ax_G ∨ ∃ host, (own, idx, (M N).1, host) ∈ ax_nest) (hroom : ax_room M N R) {av : List Value} (hav : av.length = n) (hst : st = av.reverse ++ rest)
    (hrest : (rest.map fun v => v.category).sum ≤ 8) (hImp : ax_Imp M N av h o h') (hc1 : cells + (gN h' - gN h) ≤ R.cells) (hc2 : slots + (gZ h' - gZ h) ≤ R.slots) (hlo : ∀ l ∈ locs, xB X ≤ l.base) (hdg : decode cc pc = .ok (.invokestatic idx, 3))
    (kk : ∀ (H1 : Heap) (locs1 : List Loc), ax_Rep X h' H1 → (∀ l ∈ locs1, xB X ≤ l.base) → W p l e R s m args below meth c H1 locs1 (cells + (gN h' - gN h)) (slots + (gZ h' - gZ h)) Q (F0 m (pc + 3) lsr ((o.toList ++ rest).map (ax_v X)))) : W p l e R s m args below meth c H locs cells slots Q (F0 m pc lsr (st.map (ax_v X))) := by
  have hsig : ∀ sig, parseMethodDescriptor (M N).1.desc = some sig → n = sig.parameters.length := fun sig h => by rw [h] at hn; exact (Option.some.inj hn).symm
  have hps : PreS s H (ax_Pc X av h) (av.map (ax_v X)) := ⟨ax_Pc.blind, ax_pre hK hR⟩
  have hstk : st.map (ax_v X) = (av.map (ax_v X)).reverse ++ rest.map (ax_v X) := by rw [hst, List.map_append, List.map_reverse]
  have kk2 : ∀ (H1 : Heap) (locs1 : List Loc), ax_Rep X h' H1 → (∀ l ∈ locs1, xB X ≤ l.base) → W p l e R s m args below meth c H1 locs1 (cells + (gN h' - gN h)) (slots + (gZ h' - gZ h)) Q (F0 m (pc + 3) lsr ((o.map (ax_v X)).toList ++ rest.map (ax_v X))) := by
    intro H1 locs1 a1 a2
    have := kk H1 locs1 a1 a2
    rw [List.map_append] at this
    cases o <;> exact this
  rcases hlink with hl | ⟨host, hl⟩
  · exact ax_after (va_runS (cc := cc) (nL := lsr.size) (Ts := ax_G) (own := own) (bytes := (M N).2.1) (maxL := (M N).2.2.1) (ret := (M N).2.2.2.1) (n := n) (As := av.map (ax_v X)) (rest := rest.map (ax_v X)) ⟨hexec, hb, hml, hown, hts⟩ (hImp.2.2 l X) ⟨⟨rfl, rfl, hroom.1, hroom.2, ax_Gws hts hM, List.mem_cons_self, hts _ hM.1, hts _ hM.2.1, ⟨hM.2.2.1, hM.2.2.2⟩, hsig, hts _ hl⟩, hts _ hI⟩ hps rfl (by simpa using hav) rfl hstk (by show 2 * 0 + _ ≤ 8; rw [ax_cats]; omega) hdg ⟨hc1, hc2⟩) hlo kk2
  · exact ax_after (va_runSN (cc := cc) (nL := lsr.size) (Ts := ax_G) (own := own) (host := host) (bytes := (M N).2.1) (maxL := (M N).2.2.1) (ret := (M N).2.2.2.1) (n := n) (As := av.map (ax_v X)) (rest := rest.map (ax_v X)) ⟨hexec, hb, hml, hown, hts⟩ (hImp.2.2 l X) ⟨⟨⟨rfl, rfl, hroom.1, hroom.2, ax_Gws hts hM, List.mem_cons_self⟩, hts _ hM.1, hts _ hM.2.1, ⟨hM.2.2.1, hM.2.2.2⟩, hsig, va_Nw.use rfl (hK.2.1 _ hl)⟩, hts _ hI, trivial⟩ hps rfl (by simpa using hav) rfl hstk (by show 2 * 0 + _ ≤ 8; rw [ax_cats]; omega) hdg ⟨hc1, hc2⟩) hlo kk2
/-- a constructor -/
theorem ax_ci (hexec : p.tables.exec = Jvm.exec) (hb : c.code = cc) (hml : c.maxLocals = lsr.size) (hts : ∀ w ∈ ax_G, w.before args s = true) (hown : s.vm.findClass own = some m.cls) (hK : ax_K X s) (hR : ax_Rep X h H) (hM : ax_Mok M N) (hI : Cond.instanceMethod (M N).1 ∈ ax_G) (hin : (M N).1.name = "<init>") (hrt : (M N).2.2.2.1 = none) (hn : (parseMethodDescriptor (M N).1.desc).map (fun d => d.parameters.length) = some n)
    (hlink : Cond.methodLink own idx (M N).1 ∈ ax_G ∨ ∃ host, (own, idx, (M N).1, host) ∈ ax_nest) (hroom : ax_room M N R) {x : Nat} {av : List Value} (hav : av.length = n) (hst : st = av.reverse ++ .ref x :: rest) {bb : Nat} (hx : ax_rcv h bb x) (hbb : bb / 2 < 12)
    (hrest : (rest.map fun v => v.category).sum ≤ 8) (hImp : ax_Imp M N (.ref x :: av) h o h') (hc1 : cells + (gN h' - gN h) ≤ R.cells) (hc2 : slots + (gZ h' - gZ h) ≤ R.slots) (hlo : ∀ l ∈ locs, xB X ≤ l.base) (hdg : decode cc pc = .ok (.invokespecial idx, 3))
    (kk : ∀ (H1 : Heap) (locs1 : List Loc), ax_Rep X h' H1 → (∀ l ∈ locs1, xB X ≤ l.base) → W p l e R s m args below meth c H1 locs1 (cells + (gN h' - gN h)) (slots + (gZ h' - gZ h)) Q (F0 m (pc + 3) lsr ((o.toList ++ rest).map (ax_v X)))) : W p l e R s m args below meth c H locs cells slots Q (F0 m pc lsr (st.map (ax_v X))) := by
  have hx0 : x ≠ 0 := by
    simp only [ax_rcv, show ¬ bb / 2 = 45 by omega, if_false] at hx
    exact ax_ne0 hR (by omega)
  have hsig : ∀ sig, parseMethodDescriptor (M N).1.desc = some sig → n = sig.parameters.length := fun sig h => by rw [h] at hn; exact (Option.some.inj hn).symm
  have hps : PreS s H (ax_Pc X (.ref x :: av) h) (.ref (ax_r X x) :: av.map (ax_v X)) := ⟨ax_Pc.blind, fun U hU hW => by have := ax_pre hK hR (av := .ref x :: av) U hU hW; rwa [List.map_cons, ax_v_ref hx0] at this⟩
  have hstk : st.map (ax_v X) = (av.map (ax_v X)).reverse ++ .ref (ax_r X x) :: rest.map (ax_v X) := by rw [hst, List.map_append, List.map_cons, ax_v_ref hx0, List.map_reverse]
  have kk2 : ∀ (H1 : Heap) (locs1 : List Loc), ax_Rep X h' H1 → (∀ l ∈ locs1, xB X ≤ l.base) → W p l e R s m args below meth c H1 locs1 (cells + (gN h' - gN h)) (slots + (gZ h' - gZ h)) Q (F0 m (pc + 3) lsr ((o.map (ax_v X)).toList ++ rest.map (ax_v X))) := by
    intro H1 locs1 a1 a2
    have := kk H1 locs1 a1 a2
    rw [List.map_append] at this
    cases o <;> exact this
  have hcode : Cond.code (M N).1 (M N).2.1 (M N).2.2.1 none ∈ (Cond.code (M N).1 (M N).2.1 (M N).2.2.1 (M N).2.2.2.1 :: ax_G) := by rw [hrt]; exact List.mem_cons_self
  have hcode2 : Cond.code (M N).1 (M N).2.1 (M N).2.2.1 none ∈ ax_G := by have := hM.1; rwa [hrt] at this
  rcases hlink with hl | ⟨host, hl⟩
  · exact ax_after (va_runI (cc := cc) (nL := lsr.size) (Ts := ax_G) (own := own) (bytes := (M N).2.1) (maxL := (M N).2.2.1) (n := n) (As := av.map (ax_v X)) (rest := rest.map (ax_v X)) ⟨hexec, hb, hml, hown, hts⟩ (hImp.2.2 l X) ⟨⟨rfl, rfl, hroom.1, hroom.2, ax_Gws hts hM, hcode, hts _ hcode2, hts _ hM.2.1, ⟨hM.2.2.1, hM.2.2.2⟩, hsig, hts _ hl⟩, hin, hts _ hI⟩ hps rfl (by simpa using hav) rfl hstk (by show 2 * 0 + _ ≤ 8; rw [ax_cats]; omega) hdg ⟨hc1, hc2⟩) hlo kk2
  · exact ax_after (va_runIN (cc := cc) (nL := lsr.size) (Ts := ax_G) (own := own) (host := host) (bytes := (M N).2.1) (maxL := (M N).2.2.1) (n := n) (As := av.map (ax_v X)) (rest := rest.map (ax_v X)) ⟨hexec, hb, hml, hown, hts⟩ (hImp.2.2 l X) ⟨⟨⟨rfl, rfl, hroom.1, hroom.2, ax_Gws hts hM, hcode⟩, hts _ hcode2, hts _ hM.2.1, ⟨hM.2.2.1, hM.2.2.2⟩, hsig, va_Nw.use rfl (hK.2.1 _ hl)⟩, hin, hts _ hI⟩ hps rfl (by simpa using hav) rfl hstk (by show 2 * 0 + _ ≤ 8; rw [ax_cats]; omega) hdg ⟨hc1, hc2⟩) hlo kk2
end AXK
end
section
/-! THE PURE MACHINE RUNS: n steps at most -/
def ax_lsw {α : Type} (x : Int32) (k : Nat → Option α) : List (Int × Nat) → Nat → Option α
  | [], d => k d
  | q :: r, d => if x = Int32.ofInt q.1 then k q.2 else ax_lsw x k r d
def ax_ex {α : Type} (ρ : Value → ax_H → Option α) (E : ax_Env) (na : Nat → Nat) (C : List ax_E) : Nat → List ax_E → ax_L → List Value → ax_H → Option α
  | 0, _, _, _, _ => none
  | _ + 1, [], _, _, _ => none
  | n + 1, e :: t, ls, st, h =>
    match ax_kind e with
    | 0 => ax_stp e ls st h (ax_ex ρ E na C n t)
    | 1 => ax_ex ρ E na C n (ax_to C e.2.2.2.1) ls st h
    | 2 => (match e.2.1, st with
      | .ifCond c _, .int x :: r => if ax_h1 c x then ax_ex ρ E na C n (ax_to C e.2.2.2.1) ls r h else ax_ex ρ E na C n t ls r h
      | _, _ => none)
    | 3 => (match e.2.1, st with
      | .if_icmp c _, .int y :: .int x :: r => if ax_h2 c x y then ax_ex ρ E na C n (ax_to C e.2.2.2.1) ls r h else ax_ex ρ E na C n t ls r h
      | _, _ => none)
    | 4 => (match st with
      | .ref x :: r => if x = 0 then ax_ex ρ E na C n (ax_to C e.2.2.2.1) ls r h else ax_ex ρ E na C n t ls r h
      | _ => none)
    | 5 => (match st with
      | .ref x :: r => if x = 0 then ax_ex ρ E na C n t ls r h else ax_ex ρ E na C n (ax_to C e.2.2.2.1) ls r h
      | _ => none)
    | 6 => (match e.2.1, st with
      | .tableswitch d lo _ offs, .int x :: r => ax_sw x (fun tg => ax_ex ρ E na C n (ax_to C tg) ls r h) lo (offs.toList.map (fun o => ((e.1 : Int) + o).toNat)) ((e.1 : Int) + d).toNat
      | _, _ => none)
    | 9 => (match e.2.1, st with
      | .lookupswitch d ps, .int x :: r => ax_lsw x (fun tg => ax_ex ρ E na C n (ax_to C tg) ls r h) (ps.toList.map (fun q => (q.1, ((e.1 : Int) + q.2).toNat))) ((e.1 : Int) + d).toNat
      | _, _ => none)
    | 7 => (match e.2.1, st with
      | .ireturn, [.int x] => if e.2.2.2.1 = 1 then (if x = 0 ∨ x = 1 then ρ (.int x) h else none) else ρ (.int x) h
      | .lreturn, [.long x] => ρ (.long x) h
      | .areturn, [.ref x] => ρ (.ref x) h
      | .return_, [] => ρ (.retAddr 0) h
      | _, _ => none)
    | _ => (match e.2.1 with
      | .invokestatic _ => ax_call E e (na e.2.2.2.1) st h (fun st' h' => ax_ex ρ E na C n t ls st' h')
      | _ => (match st.drop (na e.2.2.2.1 - 1) with
        | .ref x :: _ => if ax_rcv h e.2.2.2.2.1 x then ax_call E e (na e.2.2.2.1) st h (fun st' h' => ax_ex ρ E na C n t ls st' h') else none
        | _ => none))
/-- the rows follow one another -/
def ax_seq : List ax_E → Prop
  | [] => True
  | e :: t => (match t with | [] => True | e' :: _ => e'.1 = e.1 + e.2.2.1) ∧ ax_seq t
/-- what a row must be, in a method of the class own, with the bytes cc, nL locals, in the room R -/
def ax_okE (M : Nat → ax_MI) (na : Nat → Nat) (own : String) (cc : ByteArray) (nL : Nat) (fr lo : Nat) (ini : Bool) (e : ax_E) : Prop :=
  match e.2.1 with
  | .jsr _ => e.2.2.1 = 0
  | .ldc idx => decode cc e.1 = .ok (.ldc idx, 2) ∧ e.2.2.1 = 2 ∧ ((e.2.2.2.2.1 = 0 ∧ Jvm.Cond.constant own idx (Int32.ofInt e.2.2.2.2.2) ∈ ax_G) ∨ (e.2.2.2.2.1 ≠ 0 ∧ ∃ i tx, e.2.2.2.1 = i + 1 ∧ i + 1 < 64 ∧ ax_strs[i]? = some (own, idx, tx)))
  | .ldc_w idx => decode cc e.1 = .ok (.ldc_w idx, 3) ∧ e.2.2.1 = 3 ∧ ((e.2.2.2.2.1 = 0 ∧ Jvm.Cond.constant own idx (Int32.ofInt e.2.2.2.2.2) ∈ ax_G) ∨ (e.2.2.2.2.1 ≠ 0 ∧ ∃ i tx, e.2.2.2.1 = i + 1 ∧ i + 1 < 64 ∧ ax_strs[i]? = some (own, idx, tx)))
  | .ldc2_w idx => decode cc e.1 = .ok (.ldc2_w idx, 3) ∧ e.2.2.1 = 3 ∧ Jvm.Cond.constantLong own idx (Int64.ofInt e.2.2.2.2.2) ∈ ax_G
  | .getfield idx => decode cc e.1 = .ok (.getfield idx, 3) ∧ e.2.2.1 = 3 ∧ e.2.2.2.1 < 12 ∧ e.2.2.2.2.1 < ax_n e.2.2.2.1 ∧ Cond.fieldLink own idx (ax_T e.2.2.2.1 e.2.2.2.2.1).1 (ax_T e.2.2.2.1 e.2.2.2.2.1).2.1 (ax_T e.2.2.2.1 e.2.2.2.2.1).2.2.1 ∈ ax_G
  | .putfield idx => decode cc e.1 = .ok (.putfield idx, 3) ∧ e.2.2.1 = 3 ∧ e.2.2.2.1 < 12 ∧ e.2.2.2.2.1 < ax_n e.2.2.2.1 ∧ Cond.fieldLink own idx (ax_T e.2.2.2.1 e.2.2.2.2.1).1 (ax_T e.2.2.2.1 e.2.2.2.2.1).2.1 (ax_T e.2.2.2.1 e.2.2.2.2.1).2.2.1 ∈ ax_G ∧ ((ax_T e.2.2.2.1 e.2.2.2.2.1).2.2.2 = false ∨ (ini = true ∧ (ax_T e.2.2.2.1 e.2.2.2.2.1).1 = own))
  | .iaload => decode cc e.1 = .ok (.iaload, 1) ∧ e.2.2.1 = 1
  | .laload => decode cc e.1 = .ok (.laload, 1) ∧ e.2.2.1 = 1
  | .baload => decode cc e.1 = .ok (.baload, 1) ∧ e.2.2.1 = 1 ∧ (e.2.2.2.1 = 18 ∨ e.2.2.2.1 = 19)
  | .aaload => decode cc e.1 = .ok (.aaload, 1) ∧ e.2.2.1 = 1 ∧ 20 ≤ e.2.2.2.1 ∧ e.2.2.2.1 < 23
  | .iastore => decode cc e.1 = .ok (.iastore, 1) ∧ e.2.2.1 = 1
  | .lastore => decode cc e.1 = .ok (.lastore, 1) ∧ e.2.2.1 = 1
  | .bastore => decode cc e.1 = .ok (.bastore, 1) ∧ e.2.2.1 = 1 ∧ (e.2.2.2.1 = 18 ∨ e.2.2.2.1 = 19)
  | .aastore => decode cc e.1 = .ok (.aastore, 1) ∧ e.2.2.1 = 1 ∧ (e.2.2.2.1 = 20 ∨ e.2.2.2.1 = 21)
  | .arraylength => decode cc e.1 = .ok (.arraylength, 1) ∧ e.2.2.1 = 1
  | .new idx => decode cc e.1 = .ok (.new idx, 3) ∧ e.2.2.1 = 3 ∧ e.2.2.2.1 < 12 ∧ Cond.classLink own idx (ax_cn e.2.2.2.1) ∈ ax_G
  | .newarray at' => decode cc e.1 = .ok (.newarray at', 2) ∧ e.2.2.1 = 2 ∧ 16 ≤ e.2.2.2.1 ∧ e.2.2.2.1 < 20 ∧ newarray.typeOf at' = ax_at e.2.2.2.1 ∧ Cond.arrayClass (ax_at e.2.2.2.1) ∈ ax_G
  | .anewarray idx => decode cc e.1 = .ok (.anewarray idx, 3) ∧ e.2.2.1 = 3 ∧ ∃ cn, ((e.2.2.2.1 = 20 ∧ cn = 5) ∨ (e.2.2.2.1 = 21 ∧ cn = 1)) ∧ Cond.classLink own idx (ax_cn cn) ∈ ax_G
  | .multianewarray idx d => decode cc e.1 = .ok (.multianewarray idx 2, 4) ∧ e.2.2.1 = 4 ∧ d = 2 ∧ Cond.classLink own idx "[[J" ∈ ax_G ∧ Cond.arrayClass .long ∈ ax_G
  | .checkcast idx => decode cc e.1 = .ok (.checkcast idx, 3) ∧ e.2.2.1 = 3 ∧ Cond.classLink own idx "[I" ∈ ax_G
  | .goto off => decode cc e.1 = .ok (.goto off, 3) ∧ (e.1 : Int) + off = e.2.2.2.1
  | .ifCond cd off => decode cc e.1 = .ok (.ifCond cd off, 3) ∧ e.2.2.1 = 3 ∧ (e.1 : Int) + off = e.2.2.2.1
  | .if_icmp cd off => decode cc e.1 = .ok (.if_icmp cd off, 3) ∧ e.2.2.1 = 3 ∧ (e.1 : Int) + off = e.2.2.2.1
  | .ifnull off => decode cc e.1 = .ok (.ifnull off, 3) ∧ e.2.2.1 = 3 ∧ (e.1 : Int) + off = e.2.2.2.1
  | .ifnonnull off => decode cc e.1 = .ok (.ifnonnull off, 3) ∧ e.2.2.1 = 3 ∧ (e.1 : Int) + off = e.2.2.2.1
  | .tableswitch d lw hi offs => decode cc e.1 = .ok (.tableswitch d lw hi offs, e.2.2.1) ∧ 0 ≤ (e.1 : Int) + d ∧ (∀ o ∈ offs.toList, 0 ≤ (e.1 : Int) + o) ∧ lw + offs.toList.length = hi + 1 ∧ -2147483648 ≤ lw ∧ hi < 2147483648
  | .lookupswitch d ps => decode cc e.1 = .ok (.lookupswitch d ps, e.2.2.1) ∧ 0 ≤ (e.1 : Int) + d ∧ (∀ q ∈ ps.toList, 0 ≤ (e.1 : Int) + q.2 ∧ -2147483648 ≤ q.1 ∧ q.1 < 2147483648) ∧ (ps.toList.zip (ps.toList.drop 1)).all (fun (a, next) => a.1 < next.1) = true
  | .ireturn => decode cc e.1 = .ok (.ireturn, 1)
  | .lreturn => decode cc e.1 = .ok (.lreturn, 1)
  | .areturn => decode cc e.1 = .ok (.areturn, 1)
  | .return_ => decode cc e.1 = .ok (.return_, 1)
  | .invokestatic idx => decode cc e.1 = .ok (.invokestatic idx, 3) ∧ e.2.2.1 = 3 ∧ (if e.2.2.2.2.1 < 100 then ax_Mok M e.2.2.2.1 ∧ Cond.static (M e.2.2.2.1).1 ∈ ax_G ∧ (parseMethodDescriptor (M e.2.2.2.1).1.desc).map (fun d => d.parameters.length) = some (na e.2.2.2.1) ∧ (Cond.methodLink own idx (M e.2.2.2.1).1 ∈ ax_G ∨ ∃ host, (own, idx, (M e.2.2.2.1).1, host) ∈ ax_nest) ∧ (M e.2.2.2.1).2.2.2.2.2.1 + 1 ≤ fr ∧ 8 + ((M e.2.2.2.1).2.2.1 + 11) + (M e.2.2.2.1).2.2.2.2.2.2 ≤ lo
      else (e.2.2.2.1 = 16 ∨ e.2.2.2.1 = 17) ∧ Cond.methodLink own idx arraycopyName ∈ ax_G ∧ Cond.native arraycopyName ∈ ax_G ∧ Cond.static arraycopyName ∈ ax_G ∧ Cond.initialized "java/lang/System" ∈ ax_G ∧ 1 ≤ fr ∧ nativeFrameWords "java/lang/System" "arraycopy" 5 + 19 ≤ lo)
  | .invokevirtual idx => decode cc e.1 = .ok (.invokevirtual idx, 3) ∧ e.2.2.1 = 3 ∧ (if e.2.2.2.2.1 < 100 then ax_Mok M e.2.2.2.1 ∧ Cond.instanceMethod (M e.2.2.2.1).1 ∈ ax_G ∧ Cond.selects (M e.2.2.2.1).1.cls (M e.2.2.2.1).1 (M e.2.2.2.1).1 ∈ ax_G ∧ (parseMethodDescriptor (M e.2.2.2.1).1.desc).map (fun d => d.parameters.length + 1) = some (na e.2.2.2.1) ∧ (Cond.methodLink own idx (M e.2.2.2.1).1 ∈ ax_G ∨ ∃ host, (own, idx, (M e.2.2.2.1).1, host) ∈ ax_nest) ∧ ((e.2.2.2.2.1 / 2 = 45 ∨ e.2.2.2.2.1 / 2 < 12) ∧ (M e.2.2.2.1).1.cls = if e.2.2.2.2.1 / 2 = 45 then "java/lang/String" else ax_cn (e.2.2.2.2.1 / 2)) ∧ (M e.2.2.2.1).2.2.2.2.2.1 + 1 ≤ fr ∧ 8 + ((M e.2.2.2.1).2.2.1 + 11) + (M e.2.2.2.1).2.2.2.2.2.2 ≤ lo
      else Cond.methodLink own idx ⟨"[I", "clone", "()Ljava/lang/Object;"⟩ ∈ ax_G ∧ Cond.sameMethod "[I" "java/lang/Object" "clone" "()Ljava/lang/Object;" ∈ ax_G ∧ Cond.native ⟨"java/lang/Object", "clone", "()Ljava/lang/Object;"⟩ ∈ ax_G ∧ Cond.instanceMethod ⟨"java/lang/Object", "clone", "()Ljava/lang/Object;"⟩ ∈ ax_G ∧ Cond.selects "[I" ⟨"[I", "clone", "()Ljava/lang/Object;"⟩ ⟨"java/lang/Object", "clone", "()Ljava/lang/Object;"⟩ ∈ ax_G ∧ 1 ≤ fr ∧ 22 ≤ lo)
  | .invokespecial idx => decode cc e.1 = .ok (.invokespecial idx, 3) ∧ e.2.2.1 = 3 ∧ (if e.2.2.2.2.1 < 100 then ax_Mok M e.2.2.2.1 ∧ Cond.instanceMethod (M e.2.2.2.1).1 ∈ ax_G ∧ (M e.2.2.2.1).1.name = "<init>" ∧ (M e.2.2.2.1).2.2.2.1 = none ∧ (parseMethodDescriptor (M e.2.2.2.1).1.desc).map (fun d => d.parameters.length + 1) = some (na e.2.2.2.1) ∧ (Cond.methodLink own idx (M e.2.2.2.1).1 ∈ ax_G ∨ ∃ host, (own, idx, (M e.2.2.2.1).1, host) ∈ ax_nest) ∧ e.2.2.2.2.1 / 2 < 12 ∧ (M e.2.2.2.1).2.2.2.2.2.1 + 1 ≤ fr ∧ 8 + ((M e.2.2.2.1).2.2.1 + 11) + (M e.2.2.2.1).2.2.2.2.2.2 ≤ lo
      else Cond.methodLink own idx Lib.objectInit ∈ ax_G ∧ Cond.instanceMethod Lib.objectInit ∈ ax_G ∧ Cond.code Lib.objectInit ⟨#[0xb1]⟩ 1 none ∈ ax_G ∧ 1 ≤ fr ∧ 20 ≤ lo)
  | ins => decode cc e.1 = .ok (ins, e.2.2.1) ∧ ax_ok0 nL e = true
theorem ax_to_in {C : List ax_E} {t : Nat} : ∀ {e : ax_E} {r : List ax_E}, ax_to C t = e :: r → e.1 = t ∧ (∀ e' ∈ e :: r, e' ∈ C) ∧ (ax_seq C → ax_seq (e :: r)) := by
  induction C with
  | nil => intro e r h; simp [ax_to] at h
  | cons q C ih =>
    intro e r h
    unfold ax_to at h
    by_cases hq : q.1 = t
    · rw [if_pos (by simpa using hq)] at h
      cases h
      exact ⟨hq, fun _ h => h, id⟩
    · rw [if_neg (by simpa using hq)] at h
      obtain ⟨h1, h2, h3⟩ := ih h
      exact ⟨h1, fun e' he' => List.mem_cons_of_mem _ (h2 e' he'), fun hs => h3 (by unfold ax_seq at hs; exact hs.2)⟩
end
section
/-! rows of rows: one instruction of the claim makes 47 rows of 13 longs -/
section AXG
variable {E : CtlPost} {e : Env} {d : Bool} {acts : List Action} {s : State}
/-- making one row -/
theorem ax_wpRow {c comp : ClassId} {k : Class} {type : FieldType} {len : Nat} {init : Value} (hk : s.vm.classes[c]? = some k) (hkind : k.kind = .array comp type) (hlimit : ¬ len > e.platform.arrayLengthLimit) (hheap : ¬ len * componentBytes type > e.platform.maxHeapBytes) (hfit : fits type init = true) (hdef : init.isDefault = true) {Q : Addr → Pre}
    (h1 : s.heap.size < e.platform.maxCells) (h2 : s.slotsUsed + len ≤ e.platform.maxSlots) (hq : Q s.heap.size d acts (s.pushCell (arrV c len (fun _ => init)))) : wp (Jvm.newArray c len init) Q E e d acts s := by
  rw [← arrV_new] at hq
  have hfits : ∀ i v, (Array.replicate len init)[i]? = some v → s.fitsSlot c .none i v = true := fun i v hv => by
    rw [Array.getElem?_replicate] at hv
    split at hv
    · cases hv; simp [State.fitsSlot, State.slotType?, hk, hkind, hfit]
    · cases hv
  have hall : ((Array.replicate len init).all (·.isDefault)) = true := by
    rw [Array.all_replicate]; split <;> simp [hdef]
  have hda : allocActs (Array.replicate len init) s.heap.size acts = acts := by
    rw [allocActs, if_pos hall]
  simp only [Jvm.newArray, Jvm.arrayFits, wp_bind', W.ask, W.ite, hlimit, if_false, wp_pure', W.theClass, hk, hkind, hheap, W.alloc, W.stop, Option.some.injEq, exists_eq_left', Array.size_replicate, hda]
  rw [if_neg (by omega)]
  exact ⟨h1, h2, hfits, hq⟩
end AXG
/-- the outer row when i rows are in it; the state then -/
def ax_go (c : ClassId) (N h0 i : Nat) : Cell := arrV c N (fun j => if j < i then .ref (h0 + 1 + j) else .null)
theorem ax_go_set (c : ClassId) (N h0 i : Nat) : (ax_go c N h0 i).setSlot i (.ref (h0 + 1 + i)) = ax_go c N h0 (i + 1) := by
  unfold ax_go
  rw [arrV_store]
  congr 1
  funext j
  unfold updV
  by_cases h : j = i
  · subst h; simp
  · rw [if_neg h]
    show (if j < i then Value.ref (h0 + 1 + j) else Value.null) = _
    by_cases h2 : j < i
    · rw [if_pos h2, if_pos (by omega)]
    · rw [if_neg h2, if_neg (by omega)]
def ax_gt (s : State) (c comp : ClassId) (N M : Nat) : Nat → State
  | 0 => s.pushCell (ax_go c N s.heap.size 0)
  | i + 1 => ((ax_gt s c comp N M i).pushCell (arrV comp M (fun _ => .long 0))).setCell s.heap.size (ax_go c N s.heap.size (i + 1))
theorem ax_gt_f (s : State) (c comp : ClassId) (N M : Nat) : ∀ i, (ax_gt s c comp N M i).heap.size = s.heap.size + 1 + i ∧ (ax_gt s c comp N M i).heap[s.heap.size]? = some (ax_go c N s.heap.size i) ∧ (ax_gt s c comp N M i).vm = s.vm ∧ (ax_gt s c comp N M i).slotsUsed = s.slotsUsed + N + i * M
  | 0 => ⟨by simp [ax_gt], by simp [ax_gt], rfl, by simp [ax_gt, ax_go, arrV_size]⟩
  | i + 1 => by
    obtain ⟨a, b, d, u⟩ := ax_gt_f s c comp N M i
    have hlt : s.heap.size < (ax_gt s c comp N M i).heap.size := by omega
    have hb' : ((ax_gt s c comp N M i).pushCell (arrV comp M (fun _ => .long 0))).heap[s.heap.size]? = some (ax_go c N s.heap.size i) := by rw [State.heap_pushCell_of_lt (h := hlt)]; exact b
    refine ⟨?_, State.heap_setCell_self hb', by simp [ax_gt, d], ?_⟩
    · simp [ax_gt, State.setCell, a]; omega
    · simp [ax_gt, u, arrV_size, Nat.succ_mul]; omega
theorem ax_gt_top (s : State) (f : JFrame) (c comp : ClassId) (N M : Nat) : ∀ i, ax_gt (s.setTop f) c comp N M i = (ax_gt s c comp N M i).setTop f
  | 0 => rfl
  | i + 1 => by simp only [ax_gt, ax_gt_top s f c comp N M i, State.heap_setTop, State.pushCell_setTop, State.setCell_setTop]
theorem ax_gt_old (s : State) (c comp : ClassId) (N M : Nat) {a : Addr} (ha : a < s.heap.size) : ∀ i, (ax_gt s c comp N M i).heap[a]? = s.heap[a]?
  | 0 => State.heap_pushCell_of_lt _ _ ha
  | i + 1 => by
    have f1 := (ax_gt_f s c comp N M i).1
    show (((ax_gt s c comp N M i).pushCell _).setCell s.heap.size _).heap[a]? = _
    rw [State.heap_setCell_other (Nat.ne_of_gt ha), State.heap_pushCell_of_lt (h := Nat.lt_of_lt_of_le ha (by rw [f1]; omega))]
    exact ax_gt_old s c comp N M ha i
theorem ax_gt_new (s : State) (c comp : ClassId) (N M : Nat) : ∀ i j, j < i → (ax_gt s c comp N M i).heap[s.heap.size + 1 + j]? = some (arrV comp M (fun _ => .long 0))
  | 0, _, h => absurd h (Nat.not_lt_zero _)
  | i + 1, j, h => by
    have f1 := (ax_gt_f s c comp N M i).1
    show (((ax_gt s c comp N M i).pushCell _).setCell s.heap.size _).heap[s.heap.size + 1 + j]? = _
    rw [State.heap_setCell_other (show s.heap.size ≠ s.heap.size + 1 + j by omega)]
    by_cases hj : j < i
    · rw [State.heap_pushCell_of_lt (h := show s.heap.size + 1 + j < (ax_gt s c comp N M i).heap.size by rw [f1]; omega)]
      exact ax_gt_new s c comp N M i j hj
    · have e : j = i := by omega
      subst e
      rw [← f1]
      exact State.heap_pushCell_size _ _
section AXG2
variable {E : CtlPost} {e : Env} {d : Bool} {acts : List Action} {s : State}
theorem ax_wpRows {c comp cc : ClassId} {k kc : Class} {n m : Int32} (hk : s.vm.classes[c]? = some k) (hkind : k.kind = .array comp (.array .long)) (hkc : s.vm.classes[comp]? = some kc) (hkindc : kc.kind = .array cc .long) (hn : ¬ n < 0) (hm : ¬ m < 0)
    (hl1 : ¬ n.toNatClampNeg > e.platform.arrayLengthLimit) (hh1 : ¬ n.toNatClampNeg * componentBytes (.array .long) > e.platform.maxHeapBytes) (hl2 : ¬ m.toNatClampNeg > e.platform.arrayLengthLimit) (hh2 : ¬ m.toNatClampNeg * componentBytes .long > e.platform.maxHeapBytes)
    (hc : s.heap.size + 1 + n.toNatClampNeg ≤ e.platform.maxCells) (hs : s.slotsUsed + n.toNatClampNeg + n.toNatClampNeg * m.toNatClampNeg ≤ e.platform.maxSlots)
    {Q : Addr → Pre} (hq : ∀ d' acts', Q s.heap.size d' acts' (ax_gt s c comp n.toNatClampNeg m.toNatClampNeg n.toNatClampNeg)) : wp (multianewarray.make c [n, m]) Q E e d acts s := by
  have hfind : ([m].find? (· < 0)) = none := by simp [hm]
  rw [multianewarray.make]
  simp only [wp_bind', W.ite, hn, if_false, wp_pure', W.theClass, hk, hkind, Option.some.injEq, exists_eq_left']
  refine ax_wpRow hk hkind hl1 hh1 rfl rfl (by omega) (by have := Nat.zero_le (n.toNatClampNeg * m.toNatClampNeg); omega) ?_
  simp only [hfind]
  rw [ite_self, wp_bind', Std.Legacy.Range.forIn_eq_forIn_range']
  have hsz : ([:n.toNatClampNeg] : Std.Legacy.Range).size = n.toNatClampNeg := by simp [Std.Legacy.Range.size]
  rw [hsz]
  show wp (forIn (List.range' 0 n.toNatClampNeg 1) PUnit.unit _) _ E e d acts _
  refine wp_forIn_inv (fun rest s' => ∃ i, i ≤ n.toNatClampNeg ∧ rest = List.range' i (n.toNatClampNeg - i) ∧ s' = ax_gt s c comp n.toNatClampNeg m.toNatClampNeg i) _ _ ⟨0, Nat.zero_le _, rfl, by unfold ax_gt ax_go; simp⟩ ?_ ?_
  · rintro x rest s' d' acts' Q' ⟨i, hi, hl, rfl⟩ hnext
    have hlt : i < n.toNatClampNeg := by
      rcases Nat.lt_or_ge i n.toNatClampNeg with h | h
      · exact h
      · rw [show n.toNatClampNeg - i = 0 by omega] at hl; simp at hl
    rw [show n.toNatClampNeg - i = (n.toNatClampNeg - (i + 1)) + 1 by omega, List.range'_succ] at hl
    obtain ⟨rfl, hrest⟩ := List.cons.inj hl
    obtain ⟨f1, f2, f3, f4⟩ := ax_gt_f s c comp n.toNatClampNeg m.toNatClampNeg x
    have hmul : x * m.toNatClampNeg + m.toNatClampNeg ≤ n.toNatClampNeg * m.toNatClampNeg := by
      have := Nat.mul_le_mul_right m.toNatClampNeg (show x + 1 ≤ n.toNatClampNeg from hlt)
      rw [Nat.succ_mul] at this; exact this
    have hkc' : (ax_gt s c comp n.toNatClampNeg m.toNatClampNeg x).vm.classes[comp]? = some kc := by rw [f3]; exact hkc
    simp only [wp_bind']
    rw [multianewarray.make]
    simp only [wp_bind', W.ite, hm, if_false, wp_pure', W.theClass, hkc', hkindc, Option.some.injEq, exists_eq_left']
    refine ax_wpRow hkc' hkindc hl2 hh2 rfl rfl (by rw [f1]; omega) (by rw [f4]; omega) ?_
    have hlt0 : s.heap.size < (ax_gt s c comp n.toNatClampNeg m.toNatClampNeg x).heap.size := by rw [f1]; omega
    simp only [wp_bind', W.writeLoc, wp_pure']
    refine ⟨ax_go c n.toNatClampNeg s.heap.size x, by rw [State.heap_pushCell_of_lt (h := hlt0)]; exact f2, (fun h => by cases h), by unfold ax_go; rw [arrV_size]; exact hlt, ?_, hnext _ _ _ ⟨x + 1, hlt, hrest, ?_⟩⟩
    · simp [State.fitsSlot, State.slotType?, f3, hk, hkind, ax_go, arrV, fits]
    · rw [f1, ax_go_set]; rfl
  · rintro s' d' acts' ⟨i, hi, hl, rfl⟩
    have hiN : i = n.toNatClampNeg := by
      rcases Nat.lt_or_ge i n.toNatClampNeg with h | h
      · rw [show n.toNatClampNeg - i = (n.toNatClampNeg - (i + 1)) + 1 by omega, List.range'_succ] at hl; cases hl
      · omega
    subst hiN
    simp only [wp_pure']
    exact hq _ _
end AXG2
section AXG3
variable {X : ax_X} {p : Program} {l : Launch} {e : Env} {R : Room} {s : State} {m : MethodId} {args : Array Value} {below : List Frame} {meth : Method} {c : Code} {T : State} {locs : List Loc} {cells slots : Nat}
theorem ax_gt_stand (S : Stand p l e R s m args below meth c T locs cells slots) (cA comp : ClassId) (N M : Nat) : ∀ i, Stand p l e R s m args below meth c (ax_gt T cA comp N M i) (locs ++ (List.range i).map fun j => ⟨T.heap.size, j⟩) (cells + 1 + i) (slots + N + i * M)
  | 0 => by
    have h := S.pushed (ax_go cA N T.heap.size 0)
    rw [show (ax_go cA N T.heap.size 0).slots.size = N from arrV_size _ _ _] at h
    simpa [ax_gt] using h
  | i + 1 => by
    have Si := ax_gt_stand S cA comp N M i
    obtain ⟨f1, f2, f3, f4⟩ := ax_gt_f T cA comp N M i
    have hlt0 : T.heap.size < (ax_gt T cA comp N M i).heap.size := by rw [f1]; omega
    have h := (Si.pushed (arrV comp M (fun _ => .long 0))).stored (cell := ax_go cA N T.heap.size i) (a := T.heap.size) (by rw [State.heap_pushCell_of_lt (h := hlt0)]; exact f2) i (.ref (T.heap.size + 1 + i))
    rw [arrV_size, ax_go_set] at h
    have e2 : (locs ++ (List.range (i + 1)).map fun j => (⟨T.heap.size, j⟩ : Loc)) = (locs ++ (List.range i).map fun j => (⟨T.heap.size, j⟩ : Loc)) ++ [⟨T.heap.size, i⟩] := by simp [List.range_succ, List.append_assoc]
    rw [e2, show slots + N + (i + 1) * M = slots + N + i * M + M by rw [Nat.succ_mul]; omega]
    exact h
end AXG3
theorem ax_newG {X : ax_X} {h : ax_H} {H H1 : Heap} (R : ax_Rep X h H) (hz : H1.size = H.size + 1 + 47) (ho : ∀ q, q < H.size → H1[q]? = H[q]?) (h0 : H1[H.size]? = some (arrV (xR X 22) 47 (fun j => if j < 47 then .ref (H.size + 1 + j) else .null))) (hi : ∀ j, j < 47 → H1[H.size + 1 + j]? = some (arrV (xR X 17) 13 (fun _ => .long 0))) : ax_Rep X (nG h 22 17 47 13) H1 := by
  obtain ⟨r1, r2, r3, r4, r5, r6, r7, r8⟩ := R
  have eN : gN (nG h 22 17 47 13) = gN h + 48 := rfl
  have eS0 : gS (nG h 22 17 47 13) (gN h) = (22, 47) := if_pos rfl
  have eS1 : ∀ b, gN h < b → b ≤ gN h + 47 → gS (nG h 22 17 47 13) b = (17, 13) := fun b b1 b2 => by
    show (if b = h.1 then _ else if h.1 < b ∧ b ≤ h.1 + 47 then _ else _) = _
    rw [if_neg (show ¬ b = h.1 from fun e => by have : b = gN h := e; omega), if_pos ⟨b1, b2⟩]
  have eS : ∀ b, (b < gN h ∨ gN h + 47 < b) → gS (nG h 22 17 47 13) b = gS h b := fun b hb => by
    show (if b = h.1 then _ else if h.1 < b ∧ b ≤ h.1 + 47 then _ else _) = _
    rw [if_neg (show ¬ b = h.1 from fun e => by have : b = gN h := e; omega), if_neg (show ¬ (h.1 < b ∧ b ≤ h.1 + 47) from fun q => by have : gN h < b ∧ b ≤ gN h + 47 := q; omega)]
    rfl
  have ef : ∀ b, (b < gN h ∨ gN h + 47 < b) → gI (nG h 22 17 47 13) b = gI h b ∧ gL (nG h 22 17 47 13) b = gL h b ∧ gR (nG h 22 17 47 13) b = gR h b := fun b hb => by
    have n1 : ¬ (h.1 ≤ b ∧ b ≤ h.1 + 47) := fun q => by have : gN h ≤ b ∧ b ≤ gN h + 47 := q; omega
    have n2 : ¬ b = h.1 := fun e => by have : b = gN h := e; omega
    refine ⟨if_neg n1, if_neg n1, ?_⟩
    show (if b = h.1 then _ else if h.1 ≤ b ∧ b ≤ h.1 + 47 then _ else _) = _
    rw [if_neg n2, if_neg n1]
    rfl
  have eL1 : ∀ b, gN h ≤ b → b ≤ gN h + 47 → gL (nG h 22 17 47 13) b = fun _ => 0 := fun b b1 b2 => if_pos ⟨b1, b2⟩
  have eR0 : gR (nG h 22 17 47 13) (gN h) = fun y => if y < 47 then gN h + 1 + y else 0 := if_pos rfl
  refine ⟨by omega, by rw [hz, r2, eN]; omega, fun b b1 b2 => ?_, fun q hq => by rw [ho q (by omega)]; exact r4 q hq, fun b hb h40 => by rw [eS b (by omega)]; exact r5 b (by omega) h40, by rw [eS 40 (by omega)]; exact r6, fun j hj => by rw [(ef 40 (by omega)).1]; exact r7 j hj, r8⟩
  rw [eN] at b2
  by_cases hb : b = gN h
  · subst hb
    right
    rw [eS0]
    refine ⟨by show 16 ≤ 22; omega, by show 22 < 23; omega, ?_⟩
    unfold ax_row
    rw [eS0, ax_r_hi b1, ← r2, h0]
    have : (fun j => if j < 47 then Value.ref (H.size + 1 + j) else Value.null) = ax_av X (nG h 22 17 47 13) (gN h) 22 := by
      funext j
      show (if j < 47 then Value.ref (H.size + 1 + j) else Value.null) = ax_v X (.ref (gR (nG h 22 17 47 13) (gN h) j))
      rw [eR0]
      show _ = ax_v X (.ref (if j < 47 then gN h + 1 + j else 0))
      by_cases hj : j < 47
      · rw [if_pos hj, if_pos hj, ax_v_ref (by omega), ax_r_hi (by omega), r2]
        have e9 : xB X + (gN h - 64) + 1 + j = xB X + (gN h + 1 + j - 64) := by
          have e8 : gN h = gN h - 64 + 64 := by omega
          omega
        rw [e9]
      · rw [if_neg hj, if_neg hj, ax_v_null]
    rw [this]
  · by_cases hb2 : gN h < b ∧ b ≤ gN h + 47
    · right
      rw [eS1 b hb2.1 hb2.2]
      refine ⟨by show 16 ≤ 17; omega, by show 17 < 23; omega, ?_⟩
      unfold ax_row
      rw [eS1 b hb2.1 hb2.2, ax_r_hi b1, show xB X + (b - 64) = H.size + 1 + (b - gN h - 1) by rw [r2]; omega, hi _ (by omega)]
      have : (fun _ => Value.long 0) = ax_av X (nG h 22 17 47 13) b 17 := by
        funext j
        unfold ax_av
        rw [if_pos rfl, eL1 b (by omega) (by omega)]
      rw [this]
    · have e1 : H1[ax_r X b]? = H[ax_r X b]? := ho _ (by rw [ax_r_hi b1, r2]; omega)
      have es := eS b (by omega)
      obtain ⟨g1, g2, g3⟩ := ef b (by omega)
      rcases r3 b b1 (by omega) with ⟨k1, k2⟩ | ⟨k1, k2, k3⟩
      · left
        rw [es]
        exact ⟨k1, t_OB.to (t_OB.kept k2 e1) (fun k _ => by simp only [ax_fv, g1, g2, g3])⟩
      · right
        rw [es]
        refine ⟨k1, k2, ?_⟩
        unfold ax_row at k3 ⊢
        rw [e1, k3, es]
        have : ax_av X h b (gS h b).1 = ax_av X (nG h 22 17 47 13) b (gS h b).1 := by
          funext j; simp only [ax_av, g1, g2, g3]
        rw [this]
section AXG4
variable {α : Type} {X : ax_X} {p : Program} {l : Launch} {e : Env} {R : Room} {s : State} {m : MethodId} {args : Array Value} {below : List Frame} {meth : Method} {c : Code} {Q : State → Prop} {cc : ByteArray} {nL n0 z0 : Nat} {hf : ax_H}
variable {own : String} {ls : ax_L} {st : List Value} {h : ax_H} {k : ax_L → List Value → ax_H → Option α} {res : α}
set_option maxHeartbeats 4000000 in
theorem ax_mn_ok (hexec : p.tables.exec = Jvm.exec) (hb : c.code = cc) (hts : ∀ w ∈ ax_G, w.before args s = true) (hown : s.vm.findClass own = some m.cls) (hK : ax_K X s) (hRc : gN hf ≤ n0 + R.cells) (hRz : gZ hf ≤ z0 + R.slots) {pc idx : Nat} (hlink : Cond.classLink own idx "[[J" ∈ ax_G) (harr : Cond.arrayClass .long ∈ ax_G) (hd : decode cc pc = .ok (.multianewarray idx 2, 4))
    (kk : ∀ ls' st' h1, k ls' st' h1 = some res → ax_W X p l e R s m args below meth c nL Q n0 z0 hf (pc + 4) ls' st' h1) (hs : ax_mn st h (fun r h1 => k ls r h1) = some res) : ax_W X p l e R s m args below meth c nL Q n0 z0 hf pc ls st h := by
  unfold ax_mn at hs
  split at hs
  · rename_i k2 n r
    split at hs
    · rename_i hnk
      obtain ⟨rfl, rfl⟩ := hnk
      have k1 := kk _ _ _ hs
      have b1 : gN h + 48 ≤ gN hf := k1.1
      have b2 : gZ h + (47 + 47 * 13) ≤ gZ hf := k1.2.1
      refine ⟨by omega, by omega, fun a1 a2 H locs lsr hR hlo hl => ?_⟩
      simp only [List.map_cons, ax_v_int]
      intro T hT S
      have hover : (Jvm.Cond.arrayOver (.array .long)).before args s = true := hK.2.2.2.1.2.2.1
      have hpl : e.platform.magicAccessors = ({} : Platform).magicAccessors := by rw [S.admits.platform]
      obtain ⟨comp, cA, kA, hcomp, hidx, hkA, hkindA, hnameA⟩ := arrayOverA_spec hover
      obtain ⟨comp', kC, cc', hcomp', hkC, hkindC⟩ := Cond.arrayClass_spec (hts _ harr)
      have ecomp : comp' = comp := Option.some.inj (hcomp'.symm.trans hcomp)
      subst ecomp
      have h22 := (ax_Ka hK (c := 22) (by omega) (by omega)).2
      have h17 := (ax_Ka hK (c := 17) (by omega) (by omega)).2
      have e22 : cA = xR X 22 := Option.some.inj (hnameA.symm.trans h22)
      have e17 : comp' = xR X 17 := Option.some.inj (hcomp'.symm.trans h17)
      obtain ⟨c0, hfc0, hcl⟩ := Cond.classLink_spec hown (hts _ hlink) e.platform hpl
      have ec0 : c0 = cA := Option.some.inj (hfc0.symm.trans hnameA)
      subst ec0
      obtain ⟨hg₁, hwarm₁, hready₁⟩ := State.classEntry (e := e) S.warmed hcl
      generalize T.vm.noted m.cls idx (.cls c0) = vm₁ at hg₁ hwarm₁ hready₁
      have hal : s.vm.Alike vm₁ := hwarm₁.alike
      obtain ⟨kA₁, hkA₁, heA⟩ := hal.2.2 _ _ hkA
      obtain ⟨kC₁, hkC₁, heC⟩ := hal.2.2 _ _ hkC
      have hkindA₁ : kA₁.kind = .array comp' (.array .long) := by rw [heA]; exact hkindA
      have hkindC₁ : kC₁.kind = .array cc' .long := by rw [heC]; exact hkindC
      have S₁ := S.noted hwarm₁
      obtain ⟨hr1, hr2⟩ := S.roomAbove (a := 48) (b := 47 + 47 * 13) (by omega) (by omega)
      have SF := ax_gt_stand S₁ c0 comp' 47 13 47
      obtain ⟨f1, f2, f3, f4⟩ := ax_gt_f (T.setVm vm₁) c0 comp' 47 13 47
      have hsz : (T.setVm vm₁).heap.size = H.size := by show T.heap.size = _; rw [hT]
      have hRep : ax_Rep X (nG h 22 17 47 13) (ax_gt (T.setVm vm₁) c0 comp' 47 13 47).heap := by
        refine ax_newG hR (by rw [f1, hsz]) (fun q hq => ?_) ?_ (fun j hj => ?_)
        · rw [ax_gt_old _ _ _ _ _ (by rw [hsz]; exact hq)]
          show T.heap[q]? = _
          rw [hT]
        · rw [← hsz, f2, ← e22]; rfl
        · rw [← hsz, ax_gt_new _ _ _ _ _ 47 j hj, ← e17]
      have w := k1.2.2 (by show n0 ≤ gN h + 48; omega) (by show z0 ≤ gZ h + (47 + 47 * 13); omega) _ (locs ++ (List.range 47).map fun j => ⟨T.heap.size, j⟩) lsr hRep (fun q hq => by
        rcases List.mem_append.mp hq with h | h
        · exact hlo q h
        · obtain ⟨j, -, rfl⟩ := List.mem_map.mp h
          show xB X ≤ T.heap.size
          rw [hT, hR.2.1]; omega) hl
      rw [List.map_cons, ax_vN hR] at w
      have w2 := W.cs (show gN h - n0 + 1 + 47 = gN h + 48 - n0 by omega) (show gZ h - z0 + 47 + 47 * 13 = gZ h + (47 + 47 * 13) - z0 by omega) w
      obtain ⟨t, a1', b1'⟩ := w2 _ rfl SF
      refine ⟨t, ?_, b1'⟩
      have hl1 : ¬ (47 : Int32).toNatClampNeg > e.platform.arrayLengthLimit := by rw [Launch.admits_arrayLengthLimit S.admits]; decide
      have hh1 : ¬ (47 : Int32).toNatClampNeg * componentBytes (.array .long) > e.platform.maxHeapBytes := by rw [Launch.admits_maxHeapBytes S.admits]; decide
      have hl2 : ¬ (13 : Int32).toNatClampNeg > e.platform.arrayLengthLimit := by rw [Launch.admits_arrayLengthLimit S.admits]; decide
      have hh2 : ¬ (13 : Int32).toNatClampNeg * componentBytes .long > e.platform.maxHeapBytes := by rw [Launch.admits_maxHeapBytes S.admits]; decide
      jvm_step S.here [hexec, hb, hd]
      simp only [multianewarray.sem, wp_bind', W.resolveClassAt_links (State.method?_setTop (F0 m pc lsr (.int 13 :: .int 47 :: r.map (ax_v X))) S.here.top) hg₁]
      rw [W.popN, if_neg (by decide)]
      refine ⟨F0 m pc lsr (.int 13 :: .int 47 :: r.map (ax_v X)), State.topJava?_setTop' (s := T.setVm vm₁) _ S.here.top, [.int 47, .int 13], r.map (ax_v X), rfl, rfl, ?_⟩
      simp only [List.mapM_cons, List.mapM_nil, wp_bind', wp_pure']
      refine ax_wpRows (k := kA₁) (kc := kC₁) (comp := comp') (cc := cc') hkA₁ hkindA₁ hkC₁ hkindC₁ (by decide) (by decide) hl1 hh1 hl2 hh2 (by show T.heap.size + 1 + 47 ≤ _; omega) (by show T.slotsUsed + 47 + 47 * 13 ≤ _; omega) (fun d' acts' => ?_)
      have eS : ((T.setTop (F0 m pc lsr (.int 13 :: .int 47 :: r.map (ax_v X)))).setVm vm₁).setTop { (F0 m pc lsr (.int 13 :: .int 47 :: r.map (ax_v X))) with stack := r.map (ax_v X) } = (T.setVm vm₁).setTop { (F0 m pc lsr (.int 13 :: .int 47 :: r.map (ax_v X))) with stack := r.map (ax_v X) } := by
        show ((T.setVm vm₁).setTop _).setTop _ = _
        rw [State.setTop_setTop]
      rw [eS, ax_gt_top]
      have e47 : Int32.toNatClampNeg 47 = 47 := rfl
      have e13 : Int32.toNatClampNeg 13 = 13 := rfl
      rw [e47, e13]
      simp only [wp_bind', W.mark, W.pushRef, State.topJava?_setTop' _ SF.here.top, Option.some.injEq, exists_eq_left', State.setTop_setTop, State.heap_setTop]
      intro acts
      simp [jvm, SF.here.top]
      rw [← hT] at a1'
      exact a1'
    · cases hs
  · cases hs
end AXG4
end
section
/-! THE PURE MACHINE IS RIGHT -/
theorem ax_i32 {z : Int} (h1 : -2147483648 ≤ z) (h2 : z < 2147483648) : (Int32.ofInt z).toInt = z := by
  rw [Int32.toInt_ofInt]
  exact Int.bmod_eq_of_le (by show -(2147483648 : Int) ≤ z; exact h1) (by show z < (2147483648 : Int); exact h2)
theorem ax_sw_spec {α : Type} {x : Int32} {k : Nat → Option α} {d : Nat} {res : α} : ∀ {L : List Nat} {v : Int}, ax_sw x k v L d = some res → (∃ (i : Nat) (t : Nat), L[i]? = some t ∧ x = Int32.ofInt (v + i) ∧ k t = some res) ∨ ((∀ i : Nat, i < L.length → x ≠ Int32.ofInt (v + i)) ∧ k d = some res)
  | [], v, h => Or.inr ⟨fun i hi => absurd hi (Nat.not_lt_zero i), h⟩
  | t :: L, v, h => by
    unfold ax_sw at h
    split at h
    · rename_i hx
      exact Or.inl ⟨0, t, rfl, by simpa using hx, h⟩
    · rename_i hx
      rcases ax_sw_spec h with ⟨i, t', h1, h2, h3⟩ | ⟨h1, h2⟩
      · exact Or.inl ⟨i + 1, t', by simpa using h1, by rw [h2]; congr 1; push_cast; omega, h3⟩
      · refine Or.inr ⟨fun i hi => ?_, h2⟩
        cases i with
        | zero => simpa using hx
        | succ i =>
          have := h1 i (by simpa using hi)
          rw [show v + ((i + 1 : Nat) : Int) = v + 1 + (i : Int) by push_cast; omega]
          exact this
theorem ax_lsw_spec {α : Type} {x : Int32} {k : Nat → Option α} {res : α} {pc : Nat} {dd : Int} : ∀ {L : List (Int × Int)}, (∀ q ∈ L, -2147483648 ≤ q.1 ∧ q.1 < 2147483648) → ax_lsw x k (L.map (fun q => (q.1, ((pc : Int) + q.2).toNat))) ((pc : Int) + dd).toNat = some res → k ((pc : Int) + Op.lookupswitch.offset L dd x.toInt).toNat = some res
  | [], _, h => by simpa [ax_lsw, Op.lookupswitch.offset] using h
  | q :: L, hb, h => by
    simp only [List.map_cons] at h
    unfold ax_lsw at h
    rw [Op.lookupswitch.offset_cons]
    have hq := hb q List.mem_cons_self
    split at h
    · rename_i hx
      have hx : x = Int32.ofInt q.1 := hx
      rw [if_pos (by rw [hx, ax_i32 hq.1 hq.2])]
      exact h
    · rename_i hx
      have hx : ¬ x = Int32.ofInt q.1 := hx
      rw [if_neg (by intro e; exact hx (by rw [e, Int32.ofInt_toInt]))]
      exact ax_lsw_spec (fun q' h' => hb q' (List.mem_cons_of_mem _ h')) h
section AXX
variable {α : Type} {X : ax_X} {p : Program} {l : Launch} {e : Env} {R : Room} {s : State} {m : MethodId} {args : Array Value} {below : List Frame} {meth : Method} {c : Code} {Q : State → Prop} {cc : ByteArray} {nL n0 z0 fr lo : Nat} {hf : ax_H} {ini : Bool}
variable {own : String} {M : Nat → ax_MI} {na : Nat → Nat} {ls : ax_L} {st : List Value} {h : ax_H} {k : ax_L → List Value → ax_H → Option α} {res : α}
set_option maxHeartbeats 4000000 in
theorem ax_stp_ok (hexec : p.tables.exec = Jvm.exec) (hb : c.code = cc) (hml : c.maxLocals = nL) (hts : ∀ w ∈ ax_G, w.before args s = true) (hown : s.vm.findClass own = some m.cls) (hK : ax_K X s) (hRc : gN hf ≤ n0 + R.cells) (hRz : gZ hf ≤ z0 + R.slots) (hini : ini = true → meth.name = "<init>") (hfr : fr ≤ R.frames) (hlo : lo ≤ R.locals)
    {r : ax_E} (he : ax_okE M na own cc nL fr lo ini r) (hkd : ax_kind r = 0) (kk : ∀ ls' st' h1, k ls' st' h1 = some res → ax_W X p l e R s m args below meth c nL Q n0 z0 hf (r.1 + r.2.2.1) ls' st' h1) (hs : ax_stp r ls st h k = some res) : ax_W X p l e R s m args below meth c nL Q n0 z0 hf r.1 ls st h := by
  obtain ⟨pc, ins, len, a, b, z⟩ := r
  cases ins with
  | jsr off =>
    have hlen : len = 0 := he
    subst hlen
    exact ax_stay (kk _ _ _ hs) fun H locs cells slots lsr hR hl w => w lsr (ax_keep_has hl)
  | ldc idx =>
    obtain ⟨hd, hlen, hc⟩ := he
    simp only at hd hlen hc
    subst hlen
    simp only [ax_stp] at hs
    rcases hc with ⟨hb0, hc⟩ | ⟨hb0, i, tx, hi, hi2, hi3⟩
    · rw [if_pos hb0] at hs
      exact ax_ldc_ok hexec hb hts hown hc hd (kk _ _ _ hs)
    · rw [if_neg hb0] at hs
      subst hi
      exact ax_ldcs_ok hexec hb hown hK hi3 hi2 hd (kk _ _ _ hs)
  | ldc_w idx =>
    obtain ⟨hd, hlen, hc⟩ := he
    simp only at hd hlen hc
    subst hlen
    simp only [ax_stp] at hs
    rcases hc with ⟨hb0, hc⟩ | ⟨hb0, i, tx, hi, hi2, hi3⟩
    · rw [if_pos hb0] at hs
      exact ax_ldcw_ok hexec hb hts hown hc hd (kk _ _ _ hs)
    · rw [if_neg hb0] at hs
      subst hi
      exact ax_ldcws_ok hexec hb hown hK hi3 hi2 hd (kk _ _ _ hs)
  | ldc2_w idx =>
    obtain ⟨hd, hlen, hc⟩ := he
    simp only at hd hlen hc
    subst hlen
    exact ax_ldc2_ok hexec hb hts hown hc hd (kk _ _ _ hs)
  | getfield idx =>
    obtain ⟨hd, hlen, h1, h2, h3⟩ := he
    simp only at hd hlen h1 h2 h3
    subst hlen
    exact ax_getf_ok hexec hb hts hown hK h1 h2 h3 hd kk hs
  | putfield idx =>
    obtain ⟨hd, hlen, h1, h2, h3, h4⟩ := he
    simp only at hd hlen h1 h2 h3 h4
    subst hlen
    exact ax_putf_ok hexec hb hts hown hK h1 h2 h3 (h4.imp id (fun q => ⟨hini q.1, q.2⟩)) hd kk hs
  | iaload =>
    obtain ⟨hd, hlen⟩ := he
    simp only at hd hlen
    subst hlen
    refine ax_al_ok hexec hb hK hd (Or.inl ⟨rfl, ?_⟩) kk hs
    by_cases hb1 : b = 1
    · exact Or.inr (if_pos hb1)
    · exact Or.inl (if_neg hb1)
  | laload =>
    obtain ⟨hd, hlen⟩ := he
    simp only at hd hlen
    subst hlen
    exact ax_al_ok hexec hb hK hd (Or.inr (Or.inl ⟨rfl, rfl⟩)) kk hs
  | baload =>
    obtain ⟨hd, hlen, h1⟩ := he
    simp only at hd hlen h1
    subst hlen
    exact ax_al_ok hexec hb hK hd (Or.inr (Or.inr (Or.inl ⟨rfl, h1⟩))) kk hs
  | aaload =>
    obtain ⟨hd, hlen, h1, h2⟩ := he
    simp only at hd hlen h1 h2
    subst hlen
    exact ax_al_ok hexec hb hK hd (Or.inr (Or.inr (Or.inr ⟨rfl, h1, h2⟩))) kk hs
  | iastore =>
    obtain ⟨hd, hlen⟩ := he
    simp only at hd hlen
    subst hlen
    exact ax_as_ok hexec hb hK hd (Or.inl ⟨rfl, rfl⟩) kk hs
  | lastore =>
    obtain ⟨hd, hlen⟩ := he
    simp only at hd hlen
    subst hlen
    exact ax_as_ok hexec hb hK hd (Or.inr (Or.inl ⟨rfl, rfl⟩)) kk hs
  | bastore =>
    obtain ⟨hd, hlen, h1⟩ := he
    simp only at hd hlen h1
    subst hlen
    exact ax_as_ok hexec hb hK hd (Or.inr (Or.inr (Or.inl ⟨rfl, h1⟩))) kk hs
  | aastore =>
    obtain ⟨hd, hlen, h1⟩ := he
    simp only at hd hlen h1
    subst hlen
    exact ax_as_ok hexec hb hK hd (Or.inr (Or.inr (Or.inr ⟨rfl, h1⟩))) kk hs
  | arraylength =>
    obtain ⟨hd, hlen⟩ := he
    simp only at hd hlen
    subst hlen
    refine ax_ln_ok hexec hb hK ?_ hd kk hs
    by_cases hb1 : b = 1
    · exact Or.inr (if_pos hb1)
    · exact Or.inl (if_neg hb1)
  | new idx =>
    obtain ⟨hd, hlen, h1, h2⟩ := he
    simp only at hd hlen h1 h2
    subst hlen
    exact ax_new_ok hexec hb hts hown hK hRc hRz h1 h2 hd kk hs
  | newarray at' =>
    obtain ⟨hd, hlen, h1, h2, h3, h4⟩ := he
    simp only at hd hlen h1 h2 h3 h4
    subst hlen
    exact ax_na_ok hexec hb hts hown hK hRc hRz hd (Or.inl ⟨at', rfl, rfl, h1, h2, h3, h4⟩) kk hs
  | anewarray idx =>
    obtain ⟨hd, hlen, cn, h1, h2⟩ := he
    simp only at hd hlen h1 h2
    subst hlen
    exact ax_na_ok hexec hb hts hown hK hRc hRz hd (Or.inr ⟨idx, cn, rfl, rfl, h1, h2⟩) kk hs
  | multianewarray idx d =>
    obtain ⟨hd, hlen, h0, h1, h2⟩ := he
    simp only at hd hlen h0 h1 h2
    subst hlen
    exact ax_mn_ok hexec hb hts hown hK hRc hRz h1 h2 hd kk hs
  | checkcast idx =>
    obtain ⟨hd, hlen, h1⟩ := he
    simp only at hd hlen h1
    subst hlen
    exact ax_cc_ok hexec hb hts hown hK h1 hd kk hs
  | invokestatic idx =>
    obtain ⟨hd, hlen, h1⟩ := he
    simp only at hd hlen h1
    subst hlen
    have hb100 : ¬ b < 100 := fun q => by simp [ax_kind, q] at hkd
    rw [if_neg hb100] at h1
    obtain ⟨g1, g2, g3, g4, g5, g6, g7⟩ := h1
    exact ax_ac_ok hexec hb hml hts hown hK g1 g2 g3 g4 g5 (Nat.le_trans g6 hfr) (Nat.le_trans g7 hlo) hd kk hs
  | invokevirtual idx =>
    obtain ⟨hd, hlen, h1⟩ := he
    simp only at hd hlen h1
    subst hlen
    have hb100 : ¬ b < 100 := fun q => by simp [ax_kind, q] at hkd
    rw [if_neg hb100] at h1
    obtain ⟨g1, g2, g3, g4, g5, g6, g7⟩ := h1
    exact ax_cl_ok hexec hb hml hts hown hK hRc hRz g1 g2 g3 g4 g5 (Nat.le_trans g6 hfr) (Nat.le_trans g7 hlo) hd kk hs
  | invokespecial idx =>
    obtain ⟨hd, hlen, h1⟩ := he
    simp only at hd hlen h1
    subst hlen
    have hb100 : ¬ b < 100 := fun q => by simp [ax_kind, q] at hkd
    rw [if_neg hb100] at h1
    obtain ⟨g1, g2, g3, g6, g7⟩ := h1
    exact ax_init_ok hexec hb hml hts hown g1 g2 g3 (Nat.le_trans g6 hfr) (Nat.le_trans g7 hlo) hd kk hs
  | _ => first | (exact ax_stay_ok hexec hb he.1 he.2 trivial kk hs) | (simp [ax_kind] at hkd; done) | (simp [ax_stp] at hs; done)
/-- a call's row -/
theorem ax_call_spec {E : ax_Env} {r : ax_E} {n : Nat} {kc : List Value → ax_H → Option α} (hE : ax_Es M E r.2.2.2.1) (hs : ax_call E r n st h kc = some res) : n ≤ st.length ∧ ((st.drop n).map (fun v => v.category)).sum ≤ 8 ∧ ∃ (o : Option Value) (h1 : ax_H), ax_Imp M r.2.2.2.1 (st.take n).reverse h o h1 ∧ kc (o.toList ++ st.drop n) h1 = some res := by
  unfold ax_call at hs
  split at hs
  · rename_i hc
    refine ⟨hc.1, hc.2, ?_⟩
    split at hs
    · obtain ⟨h1, g1, g2⟩ := Option.bind_eq_some_iff.mp hs
      exact ⟨none, h1, hE.1 _ _ _ g1, g2⟩
    · split at hs
      · obtain ⟨⟨x, h1⟩, g1, g2⟩ := Option.bind_eq_some_iff.mp hs
        exact ⟨some (.int x), h1, hE.2.1 _ _ _ _ g1, g2⟩
      · split at hs
        · obtain ⟨⟨x, h1⟩, g1, g2⟩ := Option.bind_eq_some_iff.mp hs
          exact ⟨some (.long x), h1, hE.2.2.1 _ _ _ _ g1, g2⟩
        · obtain ⟨⟨x, h1⟩, g1, g2⟩ := Option.bind_eq_some_iff.mp hs
          exact ⟨some (.ref x), h1, hE.2.2.2 _ _ _ _ g1, g2⟩
  · cases hs
theorem ax_take_drop {x : Value} {r : List Value} {n : Nat} (hn : 0 < n) (h : st.drop (n - 1) = x :: r) : (st.take n).reverse = x :: (st.take (n - 1)).reverse ∧ st.drop n = r ∧ st = (st.take (n - 1)) ++ x :: r := by
  have e1 : st = st.take (n - 1) ++ x :: r := by rw [← h, List.take_append_drop]
  have hl : (st.take (n - 1)).length = n - 1 := by
    rw [List.length_take]
    have : (st.drop (n - 1)).length = r.length + 1 := by rw [h]; rfl
    rw [List.length_drop] at this
    omega
  have e2 : st.take n = st.take (n - 1) ++ [x] := by
    rw [show n = n - 1 + 1 by omega, List.take_succ, show n - 1 + 1 - 1 = n - 1 by omega]
    congr 1
    have : st[n - 1]? = some x := by
      rw [← List.head?_drop, h]; rfl
    rw [this]; rfl
  refine ⟨by rw [e2]; simp, ?_, e1⟩
  rw [show n = n - 1 + 1 by omega, ← List.drop_drop, h]
  rfl
theorem ax_h1_true {X : ax_X} {H : Heap} {locs : List Loc} {cells slots : Nat} {lsr : Array Slot} (hexec : p.tables.exec = Jvm.exec) (hb : c.code = cc) {pc tgt : Nat} {cd : ClassFile.Cond} {off : Int} {x : Int32} {rest : List Value} (hd : decode cc pc = .ok (.ifCond cd off, 3)) (ht : (pc : Int) + off = (tgt : Int))
    (kt : ax_h1 cd x = true → W p l e R s m args below meth c H locs cells slots Q (F0 m tgt lsr rest)) (kf : ¬ ax_h1 cd x = true → W p l e R s m args below meth c H locs cells slots Q (F0 m (pc + 3) lsr rest)) : W p l e R s m args below meth c H locs cells slots Q (F0 m pc lsr (.int x :: rest)) := by
  cases cd with
  | eq => exact lv_if_eq hexec hb hd ht (fun q => kt (by simpa [ax_h1] using q)) (fun q => kf (by simpa [ax_h1] using q))
  | ne => exact lv_if_ne hexec hb hd ht (fun q => kt (by simpa [ax_h1] using q)) (fun q => kf (by simpa [ax_h1] using q))
  | lt => exact lv_if_lt hexec hb hd ht (fun q => kt (by simpa [ax_h1] using q)) (fun q => kf (by simpa [ax_h1] using q))
  | ge => exact lv_if_ge hexec hb hd ht (fun q => kt (by simpa [ax_h1] using q)) (fun q => kf (by simpa [ax_h1] using q))
  | gt => exact lv_if_gt hexec hb hd ht (fun q => kt (by simpa [ax_h1] using q)) (fun q => kf (by simpa [ax_h1] using q))
  | le => exact lv_if_le hexec hb hd ht (fun q => kt (by simpa [ax_h1] using q)) (fun q => kf (by simpa [ax_h1] using q))
theorem ax_h2_true {X : ax_X} {H : Heap} {locs : List Loc} {cells slots : Nat} {lsr : Array Slot} (hexec : p.tables.exec = Jvm.exec) (hb : c.code = cc) {pc tgt : Nat} {cd : ClassFile.Cond} {off : Int} {x y : Int32} {rest : List Value} (hd : decode cc pc = .ok (.if_icmp cd off, 3)) (ht : (pc : Int) + off = (tgt : Int))
    (kt : ax_h2 cd x y = true → W p l e R s m args below meth c H locs cells slots Q (F0 m tgt lsr rest)) (kf : ¬ ax_h2 cd x y = true → W p l e R s m args below meth c H locs cells slots Q (F0 m (pc + 3) lsr rest)) : W p l e R s m args below meth c H locs cells slots Q (F0 m pc lsr (.int y :: .int x :: rest)) := by
  cases cd with
  | eq => exact lv_icmp_eq hexec hb hd ht (fun q => kt (by simpa [ax_h2] using q)) (fun q => kf (by simpa [ax_h2] using q))
  | ne => exact lv_icmp_ne hexec hb hd ht (fun q => kt (by simpa [ax_h2] using q)) (fun q => kf (by simpa [ax_h2] using q))
  | lt => exact lv_icmp_lt hexec hb hd ht (fun q => kt (by simpa [ax_h2] using q)) (fun q => kf (by simpa [ax_h2] using q))
  | ge => exact lv_icmp_ge hexec hb hd ht (fun q => kt (by simpa [ax_h2] using q)) (fun q => kf (by simpa [ax_h2] using q))
  | gt => exact lv_icmp_gt hexec hb hd ht (fun q => kt (by simpa [ax_h2] using q)) (fun q => kf (by simpa [ax_h2] using q))
  | le => exact lv_icmp_le hexec hb hd ht (fun q => kt (by simpa [ax_h2] using q)) (fun q => kf (by simpa [ax_h2] using q))
/-- what a return's row does -/
def ax_Rt (X : ax_X) (p : Program) (l : Launch) (e : Env) (R : Room) (s : State) (m : MethodId) (args : Array Value) (below : List Frame) (meth : Method) (c : Code) (nL : Nat) (Q : State → Prop) (n0 z0 : Nat) (hf : ax_H) (ρ : Value → ax_H → Option α) (res : α) (r : ax_E) : Prop :=
  (∀ (ls : ax_L) (x : Int32) (h1 : ax_H), r.2.1 = .ireturn → (r.2.2.2.1 = 1 → x = 0 ∨ x = 1) → ρ (.int x) h1 = some res → ax_W X p l e R s m args below meth c nL Q n0 z0 hf r.1 ls [.int x] h1) ∧
  (∀ (ls : ax_L) (x : Int64) (h1 : ax_H), r.2.1 = .lreturn → ρ (.long x) h1 = some res → ax_W X p l e R s m args below meth c nL Q n0 z0 hf r.1 ls [.long x] h1) ∧
  (∀ (ls : ax_L) (x : Nat) (h1 : ax_H), r.2.1 = .areturn → ρ (.ref x) h1 = some res → ax_W X p l e R s m args below meth c nL Q n0 z0 hf r.1 ls [.ref x] h1) ∧
  (∀ (ls : ax_L) (h1 : ax_H), r.2.1 = .return_ → ρ (.retAddr 0) h1 = some res → ax_W X p l e R s m args below meth c nL Q n0 z0 hf r.1 ls [] h1)
end AXX
end
section
/-! THE PURE MACHINE'S RUN IS THE MACHINE'S -/
section AXR
variable {α : Type} {X : ax_X} {p : Program} {l : Launch} {e : Env} {R : Room} {s : State} {m : MethodId} {args : Array Value} {below : List Frame} {meth : Method} {c : Code} {Q : State → Prop} {cc : ByteArray} {nL n0 z0 fr lo : Nat} {hf : ax_H} {ini : Bool}
variable {own : String} {M : Nat → ax_MI} {na : Nat → Nat} {ρ : Value → ax_H → Option α} {res : α} {E : ax_Env} {C : List ax_E}
set_option maxHeartbeats 4000000 in
theorem ax_ex_ok (hexec : p.tables.exec = Jvm.exec) (hb : c.code = cc) (hml : c.maxLocals = nL) (hts : ∀ w ∈ ax_G, w.before args s = true) (hown : s.vm.findClass own = some m.cls) (hK : ax_K X s) (hRc : gN hf ≤ n0 + R.cells) (hRz : gZ hf ≤ z0 + R.slots) (hini : ini = true → meth.name = "<init>") (hfr : fr ≤ R.frames) (hlo : lo ≤ R.locals)
    (hE : ∀ r ∈ C, ax_kind r = 8 → ax_Es M E r.2.2.2.1) (hna : ∀ r ∈ C, ax_kind r = 8 → ¬ (∃ i, r.2.1 = .invokestatic i) → 0 < na r.2.2.2.1) (hok : ∀ r ∈ C, ax_okE M na own cc nL fr lo ini r) (hsq : ax_seq C) (hrt : ∀ r ∈ C, ax_Rt X p l e R s m args below meth c nL Q n0 z0 hf ρ res r) :
    ∀ (n : Nat) (sfx : List ax_E) (ls : ax_L) (st : List Value) (h : ax_H), (∀ r ∈ sfx, r ∈ C) → ax_seq sfx → ax_ex ρ E na C n sfx ls st h = some res → ∃ r t, sfx = r :: t ∧ ax_W X p l e R s m args below meth c nL Q n0 z0 hf r.1 ls st h := by
  intro n
  induction n with
  | zero => intro sfx ls st h _ _ hs; simp [ax_ex] at hs
  | succ n ih =>
    intro sfx ls st h hin hseq hs
    cases sfx with
    | nil => simp [ax_ex] at hs
    | cons r t =>
      refine ⟨r, t, rfl, ?_⟩
      have hrC := hin r List.mem_cons_self
      have he := hok r hrC
      -- the next row
      have next : ∀ (ls' : ax_L) (st' : List Value) (h1 : ax_H), ax_ex ρ E na C n t ls' st' h1 = some res → ax_W X p l e R s m args below meth c nL Q n0 z0 hf (r.1 + r.2.2.1) ls' st' h1 := by
        intro ls' st' h1 hx
        obtain ⟨r', t', ht, hw⟩ := ih t ls' st' h1 (fun q hq => hin q (List.mem_cons_of_mem _ hq)) (by unfold ax_seq at hseq; exact hseq.2) hx
        subst ht
        unfold ax_seq at hseq
        have : r'.1 = r.1 + r.2.2.1 := hseq.1
        rw [← this]
        exact hw
      -- a jump
      have jump : ∀ (tg : Nat) (ls' : ax_L) (st' : List Value) (h1 : ax_H), ax_ex ρ E na C n (ax_to C tg) ls' st' h1 = some res → ax_W X p l e R s m args below meth c nL Q n0 z0 hf tg ls' st' h1 := by
        intro tg ls' st' h1 hx
        cases hto : ax_to C tg with
        | nil => rw [hto] at hx; cases n <;> simp [ax_ex] at hx
        | cons r' t' =>
          obtain ⟨g1, g2, g3⟩ := ax_to_in hto
          rw [hto] at hx
          obtain ⟨r2, t2, ht, hw⟩ := ih (r' :: t') ls' st' h1 g2 (g3 hsq) hx
          cases ht
          rw [← g1]
          exact hw
      unfold ax_ex at hs
      split at hs
      · -- on
        rename_i hk
        exact ax_stp_ok hexec hb hml hts hown hK hRc hRz hini hfr hlo he hk next hs
      · -- goto
        rename_i hk
        obtain ⟨pc, ins, len, a, b, z⟩ := r
        cases ins <;> simp [ax_kind] at hk <;> try (split at hk <;> cases hk)
        rename_i off
        obtain ⟨hd, ht⟩ := he
        exact ax_stay (jump _ _ _ _ hs) fun H locs cells slots lsr hR hl w => lv_goto hexec hb hd ht (w lsr hl)
      · -- if
        rename_i hk
        obtain ⟨pc, ins, len, a, b, z⟩ := r
        simp only at hs
        split at hs
        · rename_i cd off x rr
          obtain ⟨hd, hlen, ht⟩ := he
          simp only at hd hlen ht
          subst hlen
          by_cases hc : ax_h1 cd x = true
          · rw [if_pos hc] at hs
            have w0 := jump _ _ _ _ hs
            exact ax_stay w0 fun H locs cells slots lsr hR hl w => ax_h1_true (X := X) hexec hb hd ht (fun _ => w lsr hl) (fun q => absurd hc q)
          · rw [if_neg hc] at hs
            have w0 := next _ _ _ hs
            exact ax_stay w0 fun H locs cells slots lsr hR hl w => ax_h1_true (X := X) hexec hb hd ht (fun q => absurd q hc) (fun _ => w lsr hl)
        · cases hs
      · -- if_icmp
        rename_i hk
        obtain ⟨pc, ins, len, a, b, z⟩ := r
        simp only at hs
        split at hs
        · rename_i cd off y x rr
          obtain ⟨hd, hlen, ht⟩ := he
          simp only at hd hlen ht
          subst hlen
          by_cases hc : ax_h2 cd x y = true
          · rw [if_pos hc] at hs
            have w0 := jump _ _ _ _ hs
            exact ax_stay w0 fun H locs cells slots lsr hR hl w => ax_h2_true (X := X) hexec hb hd ht (fun _ => w lsr hl) (fun q => absurd hc q)
          · rw [if_neg hc] at hs
            have w0 := next _ _ _ hs
            exact ax_stay w0 fun H locs cells slots lsr hR hl w => ax_h2_true (X := X) hexec hb hd ht (fun q => absurd q hc) (fun _ => w lsr hl)
        · cases hs
      · -- ifnull
        rename_i hk
        obtain ⟨pc, ins, len, a, b, z⟩ := r
        simp only at hs
        have hins : ∃ off, ins = .ifnull off := by
          cases ins <;> simp [ax_kind] at hk <;> try (split at hk <;> cases hk)
          exact ⟨_, rfl⟩
        obtain ⟨off, rfl⟩ := hins
        obtain ⟨hd, hlen, ht⟩ := he
        simp only at hd hlen ht
        subst hlen
        split at hs
        · rename_i x rr
          by_cases hc : x = 0
          · rw [if_pos hc] at hs
            subst hc
            exact ax_stay (jump _ _ _ _ hs) fun H locs cells slots lsr hR hl w => by rw [List.map_cons, ax_v_null]; exact lv_ifnullN hexec hb hd ht (w lsr hl)
          · rw [if_neg hc] at hs
            exact ax_stay (next _ _ _ hs) fun H locs cells slots lsr hR hl w => by rw [List.map_cons, ax_v_ref hc]; exact lv_ifnull hexec hb hd (w lsr hl)
        · cases hs
      · -- ifnonnull
        rename_i hk
        obtain ⟨pc, ins, len, a, b, z⟩ := r
        simp only at hs
        have hins : ∃ off, ins = .ifnonnull off := by
          cases ins <;> simp [ax_kind] at hk <;> try (split at hk <;> cases hk)
          exact ⟨_, rfl⟩
        obtain ⟨off, rfl⟩ := hins
        obtain ⟨hd, hlen, ht⟩ := he
        simp only at hd hlen ht
        subst hlen
        split at hs
        · rename_i x rr
          by_cases hc : x = 0
          · rw [if_pos hc] at hs
            subst hc
            exact ax_stay (next _ _ _ hs) fun H locs cells slots lsr hR hl w => by rw [List.map_cons, ax_v_null]; exact lv_ifnonnullN hexec hb hd (w lsr hl)
          · rw [if_neg hc] at hs
            exact ax_stay (jump _ _ _ _ hs) fun H locs cells slots lsr hR hl w => by rw [List.map_cons, ax_v_ref hc]; exact lv_ifnonnull hexec hb hd ht (w lsr hl)
        · cases hs
      · -- tableswitch
        rename_i hk
        obtain ⟨pc, ins, len, a, b, z⟩ := r
        simp only at hs
        split at hs
        · rename_i d lw hi offs x rr
          obtain ⟨hd, h1, h2, h3, h4, h5⟩ := he
          simp only at hd h1 h2 h3 h4 h5
          rcases ax_sw_spec hs with ⟨i, tg, g1, g2, g3⟩ | ⟨g1, g2⟩
          · rw [List.getElem?_map] at g1
            obtain ⟨o, ho, hto⟩ := Option.map_eq_some_iff.mp g1
            have hil : i < offs.toList.length := (List.getElem?_eq_some_iff.mp ho).1
            have hx : x.toInt = lw + i := by rw [g2, ax_i32 (by omega) (by omega)]
            have ho2 := h2 o (List.mem_of_getElem? ho)
            exact ax_stay (jump _ _ _ _ g3) fun H locs cells slots lsr hR hl w => lv_tableIn (off := o) (tgt := tg) hexec hb hd (by omega) (by omega) (by rw [hx, show (lw + (i : Int) - lw).toNat = i by omega, ← Array.getElem?_toList]; exact ho) (by rw [← hto]; omega) (w lsr hl)
          · refine ax_stay (jump _ _ _ _ g2) fun H locs cells slots lsr hR hl w => lv_tableOut hexec hb hd ?_ (by omega) (w lsr hl)
            by_cases q1 : x.toInt < lw
            · exact Or.inl q1
            · by_cases q2 : hi < x.toInt
              · exact Or.inr q2
              · exfalso
                refine g1 (x.toInt - lw).toNat (by rw [List.length_map]; omega) ?_
                rw [show lw + ((x.toInt - lw).toNat : Int) = x.toInt by omega, Int32.ofInt_toInt]
        · cases hs
      · -- lookupswitch
        rename_i hk
        obtain ⟨pc, ins, len, a, b, z⟩ := r
        simp only at hs
        split at hs
        · rename_i d ps x rr
          obtain ⟨hd, h1, h2, h3⟩ := he
          simp only at hd h1 h2 h3
          have g := ax_lsw_spec (fun q hq => (h2 q hq).2) hs
          have hoff : ∀ (L : List (Int × Int)), (∀ q ∈ L, 0 ≤ (pc : Int) + q.2) → 0 ≤ (pc : Int) + Op.lookupswitch.offset L d x.toInt := by
            intro L
            induction L with
            | nil => intro _; simpa [Op.lookupswitch.offset] using h1
            | cons q L ihL =>
              intro hq
              rw [Op.lookupswitch.offset_cons]
              split
              · exact hq q List.mem_cons_self
              · exact ihL (fun q' h' => hq q' (List.mem_cons_of_mem _ h'))
          have h0 := hoff ps.toList (fun q hq => (h2 q hq).1)
          exact ax_stay (jump _ _ _ _ g) fun H locs cells slots lsr hR hl w => lv_lookup hexec hb hd h3 rfl (by omega) (w lsr hl)
        · cases hs
      · -- returns
        rename_i hk
        obtain ⟨t1, t2, t3, t4⟩ := hrt r hrC
        split at hs
        · rename_i x hr
          split at hs
          · rename_i h1
            split at hs
            · rename_i hx
              exact t1 ls x h hr (fun _ => hx) hs
            · cases hs
          · rename_i h1
            exact t1 ls x h hr (fun q => absurd q h1) hs
        · rename_i x hr
          exact t2 ls x h hr hs
        · rename_i x hr
          exact t3 ls x h hr hs
        · rename_i hr
          exact t4 ls h hr hs
        · cases hs
      · -- calls
        rename_i k0 k1 k2 k3 k4 k5 k6 k7 k8
        have hk : ax_kind r = 8 := by
          obtain ⟨pc, ins, len, a, b, z⟩ := r
          cases ins <;> simp [ax_kind] at k0 k1 k2 k3 k4 k5 k6 k7 k8 ⊢ <;> omega
        have hEs := hE r hrC hk
        have hn0 := hna r hrC hk
        obtain ⟨pc, ins, len, a, b, z⟩ := r
        simp only at hs hEs hn0
        split at hs
        · rename_i idx
          obtain ⟨hd, hlen, h1⟩ := he
          simp only at hd hlen h1
          subst hlen
          have hb100 : b < 100 := by simp only [ax_kind] at hk; split at hk <;> simp_all
          rw [if_pos hb100] at h1
          obtain ⟨g1, g2, g3, g4, g5, g6⟩ := h1
          obtain ⟨c1, c2, o, h1, hImp, hs⟩ := ax_call_spec hEs hs
          have w0 := next _ _ _ hs
          refine ⟨Nat.le_trans hImp.1 w0.1, Nat.le_trans hImp.2.1 w0.2.1, fun a1 a2 H locs lsr hR hlo' hl => ?_⟩
          have m1 := hImp.1
          have m2 := hImp.2.1
          have m3 := w0.1
          have m4 := w0.2.1
          refine ax_cs (n := na a) (av := (st.take (na a)).reverse) (rest := st.drop (na a)) (h := h) (h' := h1) (o := o) (M := M) (N := a) hexec hb (by rw [hml]; exact hl.1.symm) hts hown hK hR g1 g2 g3 g4 ⟨Nat.le_trans g5 hfr, Nat.le_trans g6 hlo⟩ (by simp; omega) (by rw [List.reverse_reverse, List.take_append_drop]) c2 hImp (by omega) (by omega) hlo' hd fun H1 locs1 q1 q2 => ?_
          exact W.cs (show gN h - n0 + (gN h1 - gN h) = gN h1 - n0 by omega) (show gZ h - z0 + (gZ h1 - gZ h) = gZ h1 - z0 by omega) (w0.2.2 (by omega) (by omega) H1 locs1 lsr q1 q2 hl)
        · rename_i hnst
          split at hs
          · rename_i x rr hdrop
            by_cases hx : ax_rcv h b x
            · rw [if_pos hx] at hs
              have hpos : 0 < na a := hn0 (fun ⟨i, hi⟩ => hnst i hi)
              obtain ⟨td1, td2, td3⟩ := ax_take_drop hpos hdrop
              obtain ⟨c1, c2, o, h1, hImp, hs⟩ := ax_call_spec hEs hs
              have w0 := next _ _ _ hs
              refine ⟨Nat.le_trans hImp.1 w0.1, Nat.le_trans hImp.2.1 w0.2.1, fun a1 a2 H locs lsr hR hlo' hl => ?_⟩
              have m1 := hImp.1
              have m2 := hImp.2.1
              have m3 := w0.1
              have m4 := w0.2.1
              rw [td1] at hImp
              rw [td2] at c2 hs w0
              have fin : ∀ (H1 : Heap) (locs1 : List Loc), ax_Rep X h1 H1 → (∀ l ∈ locs1, xB X ≤ l.base) → W p l e R s m args below meth c H1 locs1 (gN h - n0 + (gN h1 - gN h)) (gZ h - z0 + (gZ h1 - gZ h)) Q (F0 m (pc + len) lsr ((o.toList ++ rr).map (ax_v X))) := fun H1 locs1 q1 q2 =>
                W.cs (show gN h - n0 + (gN h1 - gN h) = gN h1 - n0 by omega) (show gZ h - z0 + (gZ h1 - gZ h) = gZ h1 - z0 by omega) (w0.2.2 (by omega) (by omega) H1 locs1 lsr q1 q2 hl)
              have hlen1 : ((st.take (na a - 1)).reverse).length = na a - 1 := by
                rw [List.length_reverse, List.length_take]; omega
              cases ins <;> simp [ax_kind] at hk
              · rename_i idx
                obtain ⟨hd, hlen, h1'⟩ := he
                simp only at hd hlen h1'
                subst hlen
                rw [if_pos hk] at h1'
                obtain ⟨g1, g2, g3, g4, g5, g6, g7, g8, g9⟩ := h1'
                have g5' : (parseMethodDescriptor (M a).1.desc).map (fun d => d.parameters.length) = some (na a - 1) := by
                  cases hpd : parseMethodDescriptor (M a).1.desc with
                  | none => rw [hpd] at g5; simp at g5
                  | some sig => rw [hpd] at g5; simp at g5 ⊢; omega
                exact ax_ci (n := na a - 1) (x := x) (av := (st.take (na a - 1)).reverse) (rest := rr) (h := h) (h' := h1) (o := o) (M := M) (N := a) hexec hb (by rw [hml]; exact hl.1.symm) hts hown hK hR g1 g2 g3 g4 g5' g6 ⟨Nat.le_trans g8 hfr, Nat.le_trans g9 hlo⟩ hlen1 (by rw [List.reverse_reverse]; exact td3) hx g7 c2 hImp (by omega) (by omega) hlo' hd fin
              · rename_i idx
                exact absurd rfl (hnst idx)
              · rename_i idx
                obtain ⟨hd, hlen, h1'⟩ := he
                simp only at hd hlen h1'
                subst hlen
                rw [if_pos hk] at h1'
                obtain ⟨g1, g2, g3, g4, g5, ⟨g6, g7⟩, g8, g9⟩ := h1'
                have g4' : (parseMethodDescriptor (M a).1.desc).map (fun d => d.parameters.length) = some (na a - 1) := by
                  cases hpd : parseMethodDescriptor (M a).1.desc with
                  | none => rw [hpd] at g4; simp at g4
                  | some sig => rw [hpd] at g4; simp at g4 ⊢; omega
                exact ax_cv (n := na a - 1) (x := x) (av := (st.take (na a - 1)).reverse) (rest := rr) (h := h) (h' := h1) (o := o) (M := M) (N := a) hexec hb (by rw [hml]; exact hl.1.symm) hts hown hK hR g1 g2 g3 g4' g5 ⟨Nat.le_trans g8 hfr, Nat.le_trans g9 hlo⟩ hlen1 (by rw [List.reverse_reverse]; exact td3) hx g6 g7 c2 hImp (by omega) (by omega) hlo' hd fin
            · rw [if_neg hx] at hs; cases hs
          · cases hs
end AXR
end
section
/-! the heap only grows -/
section AXM
variable {α : Type} {ls : ax_L} {st : List Value} {h : ax_H} {k : ax_L → List Value → ax_H → Option α} {res : α}
abbrev ax_mo (h h1 : ax_H) : Prop := gN h ≤ gN h1 ∧ gZ h ≤ gZ h1
theorem ax_mo_rf (h : ax_H) : ax_mo h h := ⟨Nat.le_refl _, Nat.le_refl _⟩
theorem ax_mo_pI (h : ax_H) (a k : Nat) (v : Int32) : ax_mo h (pI h a k v) := ⟨Nat.le_refl _, Nat.le_refl _⟩
theorem ax_mo_pL (h : ax_H) (a k : Nat) (v : Int64) : ax_mo h (pL h a k v) := ⟨Nat.le_refl _, Nat.le_refl _⟩
theorem ax_mo_pR (h : ax_H) (a k : Nat) (v : Nat) : ax_mo h (pR h a k v) := ⟨Nat.le_refl _, Nat.le_refl _⟩
theorem ax_mo_nW (h : ax_H) (a k z : Nat) : ax_mo h (nW h a k z) := ⟨Nat.le_succ _, Nat.le_add_right _ _⟩
theorem ax_mo_nG (h : ax_H) (a b n k : Nat) : ax_mo h (nG h a b n k) := ⟨Nat.le_add_right _ _, Nat.le_add_right _ _⟩
theorem ax_mo_rI (h : ax_H) (a : Nat) (f : Nat → Int32) : ax_mo h (rI h a f) := ⟨Nat.le_refl _, Nat.le_refl _⟩
theorem ax_mo_rL (h : ax_H) (a : Nat) (f : Nat → Int64) : ax_mo h (rL h a f) := ⟨Nat.le_refl _, Nat.le_refl _⟩
theorem ax_mo_cl (h : ax_H) (x : Nat) : ax_mo h (rI (nW h 16 (gS h x).2 (gS h x).2) (gN h) (gI h x)) := ⟨Nat.le_succ _, Nat.le_add_right _ _⟩
set_option maxHeartbeats 4000000 in
theorem ax_stp_mono {r : ax_E} (hs : ax_stp r ls st h k = some res) : ∃ ls' st' h1, k ls' st' h1 = some res ∧ ax_mo h h1 := by
  obtain ⟨pc, ins, len, a, b, z⟩ := r
  cases ins <;> simp only [ax_stp, ax_ii, ax_ll, ax_gf, ax_pf, ax_al, ax_as, ax_ln, ax_na, ax_mn, ax_ac, ax_cl, ax_cc] at hs <;> (repeat' (split at hs)) <;>
    first
    | (cases hs; done)
    | exact ⟨_, _, _, hs, ax_mo_rf h⟩
    | exact ⟨_, _, _, hs, ax_mo_pI _ _ _ _⟩
    | exact ⟨_, _, _, hs, ax_mo_pL _ _ _ _⟩
    | exact ⟨_, _, _, hs, ax_mo_pR _ _ _ _⟩
    | exact ⟨_, _, _, hs, ax_mo_nW _ _ _ _⟩
    | exact ⟨_, _, _, hs, ax_mo_nG _ _ _ _ _⟩
    | exact ⟨_, _, _, hs, ax_mo_rI _ _ _⟩
    | exact ⟨_, _, _, hs, ax_mo_rL _ _ _⟩
    | exact ⟨_, _, _, hs, ax_mo_cl _ _⟩
theorem ax_lsw_some {x : Int32} {kt : Nat → Option α} {d : Nat} : ∀ {L : List (Int × Nat)}, ax_lsw x kt L d = some res → ∃ t, kt t = some res
  | [], h => ⟨d, h⟩
  | q :: L, h => by
    unfold ax_lsw at h
    split at h
    · exact ⟨_, h⟩
    · exact ax_lsw_some h
variable {M : Nat → ax_MI} {na : Nat → Nat} {ρ : Value → ax_H → Option α} {E : ax_Env} {C : List ax_E}
set_option maxHeartbeats 4000000 in
theorem ax_ex_mono {hf : ax_H} (hρ : ∀ v h1, ρ v h1 = some res → ax_mo h1 hf) (hE : ∀ r ∈ C, ax_kind r = 8 → ax_Es M E r.2.2.2.1) :
    ∀ (n : Nat) (sfx : List ax_E) (ls : ax_L) (st : List Value) (h : ax_H), (∀ r ∈ sfx, r ∈ C) → ax_ex ρ E na C n sfx ls st h = some res → ax_mo h hf := by
  intro n
  induction n with
  | zero => intro sfx ls st h _ hs; simp [ax_ex] at hs
  | succ n ih =>
    intro sfx ls st h hin hs
    cases sfx with
    | nil => simp [ax_ex] at hs
    | cons r t =>
      have hrC := hin r List.mem_cons_self
      have next : ∀ (ls' : ax_L) (st' : List Value) (h1 : ax_H), ax_ex ρ E na C n t ls' st' h1 = some res → ax_mo h1 hf := fun ls' st' h1 hx => ih t ls' st' h1 (fun q hq => hin q (List.mem_cons_of_mem _ hq)) hx
      have jump : ∀ (tg : Nat) (ls' : ax_L) (st' : List Value) (h1 : ax_H), ax_ex ρ E na C n (ax_to C tg) ls' st' h1 = some res → ax_mo h1 hf := by
        intro tg ls' st' h1 hx
        cases hto : ax_to C tg with
        | nil => rw [hto] at hx; cases n <;> simp [ax_ex] at hx
        | cons r' t' =>
          obtain ⟨g1, g2, g3⟩ := ax_to_in hto
          rw [hto] at hx
          exact ih (r' :: t') ls' st' h1 g2 hx
      unfold ax_ex at hs
      split at hs
      · obtain ⟨ls', st', h1, g1, g2⟩ := ax_stp_mono hs
        have := next _ _ _ g1
        exact ⟨Nat.le_trans g2.1 this.1, Nat.le_trans g2.2 this.2⟩
      · exact jump _ _ _ _ hs
      · split at hs
        · split at hs
          · exact jump _ _ _ _ hs
          · exact next _ _ _ hs
        · cases hs
      · split at hs
        · split at hs
          · exact jump _ _ _ _ hs
          · exact next _ _ _ hs
        · cases hs
      · split at hs
        · split at hs
          · exact jump _ _ _ _ hs
          · exact next _ _ _ hs
        · cases hs
      · split at hs
        · split at hs
          · exact next _ _ _ hs
          · exact jump _ _ _ _ hs
        · cases hs
      · split at hs
        · rcases ax_sw_spec hs with ⟨i, tg, g1, g2, g3⟩ | ⟨g1, g2⟩
          · exact jump _ _ _ _ g3
          · exact jump _ _ _ _ g2
        · cases hs
      · split at hs
        · obtain ⟨tg, g⟩ := ax_lsw_some hs
          exact jump _ _ _ _ g
        · cases hs
      · split at hs
        · split at hs
          · split at hs
            · exact hρ _ _ hs
            · cases hs
          · exact hρ _ _ hs
        · exact hρ _ _ hs
        · exact hρ _ _ hs
        · exact hρ _ _ hs
        · cases hs
      · rename_i k0 k1 k2 k3 k4 k5 k6 k7 k8
        have hk : ax_kind r = 8 := by
          have q : ax_kind r < 10 := by
            unfold ax_kind
            split <;> (try split) <;> decide
          have j0 : ax_kind r ≠ 0 := k0
          have j1 : ax_kind r ≠ 1 := k1
          have j2 : ax_kind r ≠ 2 := k2
          have j3 : ax_kind r ≠ 3 := k3
          have j4 : ax_kind r ≠ 4 := k4
          have j5 : ax_kind r ≠ 5 := k5
          have j6 : ax_kind r ≠ 6 := k6
          have j7 : ax_kind r ≠ 9 := k7
          have j8 : ax_kind r ≠ 7 := k8
          omega
        have hEs := hE r hrC hk
        split at hs
        · obtain ⟨c1, c2, o, h1, hImp, hs⟩ := ax_call_spec hEs hs
          have := next _ _ _ hs
          exact ⟨Nat.le_trans hImp.1 this.1, Nat.le_trans hImp.2.1 this.2⟩
        · split at hs
          · split at hs
            · obtain ⟨c1, c2, o, h1, hImp, hs⟩ := ax_call_spec hEs hs
              have := next _ _ _ hs
              exact ⟨Nat.le_trans hImp.1 this.1, Nat.le_trans hImp.2.1 this.2⟩
            · cases hs
          · cases hs
end AXM
/-! a method's contract out of its run -/
def ax_ρV : Value → ax_H → Option ax_H := fun v h => match v with | .retAddr _ => some h | _ => none
def ax_ρI : Value → ax_H → Option (Int32 × ax_H) := fun v h => match v with | .int x => some (x, h) | _ => none
def ax_ρL : Value → ax_H → Option (Int64 × ax_H) := fun v h => match v with | .long x => some (x, h) | _ => none
def ax_ρR : Value → ax_H → Option (Nat × ax_H) := fun v h => match v with | .ref x => some (x, h) | _ => none
theorem ax_lvargs (X : ax_X) : ∀ (av : List Value) (i : Nat), lv_args i (av.map (ax_v X)) = (lv_args i av).map (ax_q X)
  | [], _ => rfl
  | v :: av, i => by
    simp only [List.map_cons, lv_args, ax_v_cat]
    rw [ax_lvargs X av]
    rfl
theorem ax_lgsl (X : ax_X) (av : List Value) : (lg_sl (av.map (ax_v X))).length = (lg_sl av).length := by
  induction av with
  | nil => rfl
  | cons v av ih =>
    simp only [List.map_cons, lg_sl, List.flatMap_cons, List.length_append, ax_v_cat] at ih ⊢
    rw [ih]
    split <;> rfl
section AXZ
variable {α : Type} {M : Nat → ax_MI} {na : Nat → Nat} {E : ax_Env} {C : List ax_E} {N : Nat} {own : String} {ini : Bool}
/-- all that is asked of a method's rows -/
def ax_Code (M : Nat → ax_MI) (na : Nat → Nat) (E : ax_Env) (C : List ax_E) (N : Nat) (own : String) (ini : Bool) : Prop :=
  (M N).1.cls = own ∧ plainFor (M N).1 = true ∧ (ini = true → (M N).1.name = "<init>") ∧ (∀ r ∈ C, ax_okE M na own (M N).2.1 (M N).2.2.1 (M N).2.2.2.2.2.1 (M N).2.2.2.2.2.2 ini r) ∧ ax_seq C ∧ (∃ r t, C = r :: t ∧ r.1 = 0) ∧ (∀ r ∈ C, ax_kind r = 8 → ¬ (∃ i, r.2.1 = .invokestatic i) → 0 < na r.2.2.2.1) ∧
  (∀ r ∈ C, (r.2.1 = .ireturn → (M N).2.2.2.1 = some .int ∨ ((M N).2.2.2.1 = some .boolean ∧ r.2.2.2.1 = 1)) ∧ (r.2.1 = .lreturn → (M N).2.2.2.1 = some .long) ∧ (r.2.1 = .areturn → ∃ rt, (M N).2.2.2.1 = some rt ∧ ((∃ n, rt = .object n) ∨ ∃ t, rt = .array t)) ∧ (r.2.1 = .return_ → (M N).2.2.2.1 = none))
/-- the common part: from the run to the walk; what a return does is asked for -/
theorem ax_method {res : α} {ρ : Value → ax_H → Option α} (hC : ax_Code M na E C N own ini) (hE : ∀ r ∈ C, ax_kind r = 8 → ax_Es M E r.2.2.2.1) {av : List Value} {h hf : ax_H} {o : Option Value} {n : Nat} (hav : (lg_sl av).length ≤ (M N).2.2.1)
    (hρ : ∀ v h1, ρ v h1 = some res → h1 = hf ∧ o = (match v with | .retAddr _ => none | v => some v))
    (hrun : ax_ex ρ E na C n C (lv_args 0 av) [] h = some res) : ax_Imp M N av h o hf := by
  obtain ⟨hcls, hpl, hini, hok, hsq, ⟨r0, t0, hC0, hpc0⟩, hna, hret⟩ := hC
  have hmo := ax_ex_mono (M := M) (hf := hf) (fun v h1 q => by rw [(hρ v h1 q).1]; exact ax_mo_rf hf) hE n C (lv_args 0 av) [] h (fun _ q => q) hrun
  refine ⟨hmo.1, hmo.2, fun l X => ?_⟩
  refine va_MetF (cc := (M N).2.1) (maxL := (M N).2.2.1) (ret := (M N).2.2.2.1) hpl rfl ?_
  intro p e s m args below meth c s₁ B hml hv
  obtain ⟨rfl, hRep, hK⟩ := hv
  have hx := B.exec
  have hb := B.bytes
  have hr := B.returns
  have hts0 := atoms_spec (ws := Cond.code (M N).1 (M N).2.1 (M N).2.2.1 (M N).2.2.2.1 :: ax_G) B.pre
  have hts : ∀ w ∈ ax_G, w.before (av.map (ax_v X)).toArray s = true := fun w hw => hts0 w (List.mem_cons_of_mem _ hw)
  have hown : s.vm.findClass own = some m.cls := by rw [← hcls]; exact findClass_of_methodNamed B.named
  have hlocks := B.notSynchronized
  have hnm : meth.name = (M N).1.name := (name_of_methodNamed B.named B.method).1
  have hl := lv_entry (av.map (ax_v X)) (n := (M N).2.2.1) (by rw [ax_lgsl]; exact hav)
  rw [lg_entry_eq]
  generalize (lg_sl (av.map (ax_v X)) ++ List.replicate ((M N).2.2.1 - (lg_sl (av.map (ax_v X))).length) Slot.unset).toArray = lsr at hl ⊢
  rw [ax_lvargs] at hl
  have key := ax_ex_ok (X := X) (p := p) (l := l) (e := e) (R := (headSpec (Cond.code (M N).1 (M N).2.1 (M N).2.2.1 (M N).2.2.2.1 :: ax_G) { frames := (M N).2.2.2.2.2.1, cells := gN hf - gN h, slots := gZ hf - gZ h, locals := (M N).2.2.2.2.2.2 }).room) (s := s) (m := m) (args := (av.map (ax_v X)).toArray) (below := below) (meth := meth) (c := c) (Q := MQ below (ax_Qc X o hf) (av.map (ax_v X)).toArray s (gN hf - gN h) (gZ hf - gZ h) (fun q => xB X ≤ q)) (cc := (M N).2.1) (nL := (M N).2.2.1) (n0 := gN h) (z0 := gZ h) (fr := (M N).2.2.2.2.2.1) (lo := (M N).2.2.2.2.2.2) (hf := hf) (ini := ini) (own := own) (M := M) (na := na) (ρ := ρ) (res := res) (E := E) (C := C)
    hx hb hml hts hown hK (by show gN hf ≤ gN h + (gN hf - gN h); omega) (by show gZ hf ≤ gZ h + (gZ hf - gZ h); omega) (fun q => by rw [hnm]; exact hini q) (Nat.le_refl _) (Nat.le_refl _) hE hna hok hsq ?_ n C (lv_args 0 av) [] h (fun _ q => q) hsq hrun
  · obtain ⟨r, t, hCr, hw⟩ := key
    have e1 : r = r0 := by rw [hC0] at hCr; exact (List.cons.inj hCr).1.symm
    subst e1
    rw [hpc0] at hw
    have w := hw.2.2 (Nat.le_refl _) (Nat.le_refl _) s.heap [] lsr hRep (fun _ q => by cases q) hl
    exact W.cs (show 0 = gN h - gN h by omega) (show 0 = gZ h - gZ h by omega) w
  · intro r hrC
    obtain ⟨i1, i2, i3, i4⟩ := hret r hrC
    have hokr := hok r hrC
    refine ⟨fun ls x h1 hi hz hq => ?_, fun ls x h1 hi hq => ?_, fun ls x h1 hi hq => ?_, fun ls h1 hi hq => ?_⟩
    · obtain ⟨rfl, rfl⟩ := hρ _ _ hq
      have hd : decode (M N).2.1 r.1 = .ok (.ireturn, 1) := by
        unfold ax_okE at hokr; rw [hi] at hokr; exact hokr
      refine ⟨Nat.le_refl _, Nat.le_refl _, fun a1 a2 H locs lsr' hR' hlo' hl' => ?_⟩
      rcases i1 hi with hrt | ⟨hrt, hz1⟩
      · exact W.iret (v := x) hx hb (by rw [hr, hrt]) (fun t ht hW => ⟨rfl, by rw [ht]; exact hR'⟩) hlo' hd
      · exact W.zret (v := x) (ty := .boolean) hx hb (by rw [hr, hrt]) (by rcases hz hz1 with rfl | rfl <;> rfl) (fun t ht hW => ⟨rfl, by rw [ht]; exact hR'⟩) hlo' hd
    · obtain ⟨rfl, rfl⟩ := hρ _ _ hq
      have hd : decode (M N).2.1 r.1 = .ok (.lreturn, 1) := by
        unfold ax_okE at hokr; rw [hi] at hokr; exact hokr
      refine ⟨Nat.le_refl _, Nat.le_refl _, fun a1 a2 H locs lsr' hR' hlo' hl' => ?_⟩
      exact W.lret (v := x) hx hb (by rw [hr, i2 hi]) (fun t ht hW => ⟨rfl, by rw [ht]; exact hR'⟩) hlo' hd
    · obtain ⟨rfl, rfl⟩ := hρ _ _ hq
      have hd : decode (M N).2.1 r.1 = .ok (.areturn, 1) := by
        unfold ax_okE at hokr; rw [hi] at hokr; exact hokr
      refine ⟨Nat.le_refl _, Nat.le_refl _, fun a1 a2 H locs lsr' hR' hlo' hl' => ?_⟩
      obtain ⟨rt, hrt, hrt2⟩ := i3 hi
      exact W.aret (v := ax_v X (.ref x)) (rt := rt) hx hb (by rw [hr, hrt]) hrt2 (ax_v_ref_or X x) (fun t ht hW => ⟨rfl, by rw [ht]; exact hR'⟩) hlo' hd
    · obtain ⟨rfl, rfl⟩ := hρ _ _ hq
      have hd : decode (M N).2.1 r.1 = .ok (.return_, 1) := by
        unfold ax_okE at hokr; rw [hi] at hokr; exact hokr
      refine ⟨Nat.le_refl _, Nat.le_refl _, fun a1 a2 H locs lsr' hR' hlo' hl' => ?_⟩
      exact W.vret hx hb (by rw [hr, i4 hi]) (fun t ht hW => ⟨rfl, by rw [ht]; exact hR'⟩) hlo' hd
theorem ax_methI (hC : ax_Code M na E C N own ini) (hE : ∀ r ∈ C, ax_kind r = 8 → ax_Es M E r.2.2.2.1) {av : List Value} {h h' : ax_H} {x : Int32} (hav : (lg_sl av).length ≤ (M N).2.2.1) (hrun : ∃ n, ax_ex ax_ρI E na C n C (lv_args 0 av) [] h = some (x, h')) : ax_Imp M N av h (some (.int x)) h' := by
  obtain ⟨n, hrun⟩ := hrun
  refine ax_method hC hE hav (fun v h1 q => ?_) hrun
  unfold ax_ρI at q
  split at q
  · cases q; exact ⟨rfl, rfl⟩
  · cases q
theorem ax_methL (hC : ax_Code M na E C N own ini) (hE : ∀ r ∈ C, ax_kind r = 8 → ax_Es M E r.2.2.2.1) {av : List Value} {h h' : ax_H} {x : Int64} (hav : (lg_sl av).length ≤ (M N).2.2.1) (hrun : ∃ n, ax_ex ax_ρL E na C n C (lv_args 0 av) [] h = some (x, h')) : ax_Imp M N av h (some (.long x)) h' := by
  obtain ⟨n, hrun⟩ := hrun
  refine ax_method hC hE hav (fun v h1 q => ?_) hrun
  unfold ax_ρL at q
  split at q
  · cases q; exact ⟨rfl, rfl⟩
  · cases q
theorem ax_methR (hC : ax_Code M na E C N own ini) (hE : ∀ r ∈ C, ax_kind r = 8 → ax_Es M E r.2.2.2.1) {av : List Value} {h h' : ax_H} {x : Nat} (hav : (lg_sl av).length ≤ (M N).2.2.1) (hrun : ∃ n, ax_ex ax_ρR E na C n C (lv_args 0 av) [] h = some (x, h')) : ax_Imp M N av h (some (.ref x)) h' := by
  obtain ⟨n, hrun⟩ := hrun
  refine ax_method hC hE hav (fun v h1 q => ?_) hrun
  unfold ax_ρR at q
  split at q
  · cases q; exact ⟨rfl, rfl⟩
  · cases q
theorem ax_methV (hC : ax_Code M na E C N own ini) (hE : ∀ r ∈ C, ax_kind r = 8 → ax_Es M E r.2.2.2.1) {av : List Value} {h h' : ax_H} (hav : (lg_sl av).length ≤ (M N).2.2.1) (hrun : ∃ n, ax_ex ax_ρV E na C n C (lv_args 0 av) [] h = some h') : ax_Imp M N av h none h' := by
  obtain ⟨n, hrun⟩ := hrun
  refine ax_method hC hE hav (fun v h1 q => ?_) hrun
  unfold ax_ρV at q
  split at q
  · cases q; exact ⟨rfl, rfl⟩
  · cases q
end AXZ
end
section
/-! BETWEEN MARKS: the run up to the next mark, and the least solution of the equations -/
section AXI
variable {α : Type}
abbrev ax_K0 (α : Type) : Type := List ax_E → ax_L → List Value → ax_H → Option α
def ax_in1 (G : ax_K0 α) (ρ : Value → ax_H → Option α) (E : ax_Env) (na : Nat → Nat) (C : List ax_E) : Nat → List ax_E → ax_L → List Value → ax_H → Option α
  | 0, _, _, _, _ => none
  | _ + 1, [], _, _, _ => none
  | n + 1, e :: t, ls, st, h =>
    match ax_kind e with
    | 0 => (match e.2.1 with
      | .jsr _ => G t (ax_keep ls 32 e.2.2.2.1) st h
      | _ => ax_stp e ls st h (ax_in1 G ρ E na C n t))
    | 1 => ax_in1 G ρ E na C n (ax_to C e.2.2.2.1) ls st h
    | 2 => (match e.2.1, st with
      | .ifCond c _, .int x :: r => if ax_h1 c x then ax_in1 G ρ E na C n (ax_to C e.2.2.2.1) ls r h else ax_in1 G ρ E na C n t ls r h
      | _, _ => none)
    | 3 => (match e.2.1, st with
      | .if_icmp c _, .int y :: .int x :: r => if ax_h2 c x y then ax_in1 G ρ E na C n (ax_to C e.2.2.2.1) ls r h else ax_in1 G ρ E na C n t ls r h
      | _, _ => none)
    | 4 => (match st with
      | .ref x :: r => if x = 0 then ax_in1 G ρ E na C n (ax_to C e.2.2.2.1) ls r h else ax_in1 G ρ E na C n t ls r h
      | _ => none)
    | 5 => (match st with
      | .ref x :: r => if x = 0 then ax_in1 G ρ E na C n t ls r h else ax_in1 G ρ E na C n (ax_to C e.2.2.2.1) ls r h
      | _ => none)
    | 6 => (match e.2.1, st with
      | .tableswitch d lo _ offs, .int x :: r => ax_sw x (fun tg => ax_in1 G ρ E na C n (ax_to C tg) ls r h) lo (offs.toList.map (fun o => ((e.1 : Int) + o).toNat)) ((e.1 : Int) + d).toNat
      | _, _ => none)
    | 9 => (match e.2.1, st with
      | .lookupswitch d ps, .int x :: r => ax_lsw x (fun tg => ax_in1 G ρ E na C n (ax_to C tg) ls r h) (ps.toList.map (fun q => (q.1, ((e.1 : Int) + q.2).toNat))) ((e.1 : Int) + d).toNat
      | _, _ => none)
    | 7 => (match e.2.1, st with
      | .ireturn, [.int x] => if e.2.2.2.1 = 1 then (if x = 0 ∨ x = 1 then ρ (.int x) h else none) else ρ (.int x) h
      | .lreturn, [.long x] => ρ (.long x) h
      | .areturn, [.ref x] => ρ (.ref x) h
      | .return_, [] => ρ (.retAddr 0) h
      | _, _ => none)
    | _ => (match e.2.1 with
      | .invokestatic _ => ax_call E e (na e.2.2.2.1) st h (fun st' h' => ax_in1 G ρ E na C n t ls st' h')
      | _ => (match st.drop (na e.2.2.2.1 - 1) with
        | .ref x :: _ => if ax_rcv h e.2.2.2.2.1 x then ax_call E e (na e.2.2.2.1) st h (fun st' h' => ax_in1 G ρ E na C n t ls st' h') else none
        | _ => none))
def ax_out (ρ : Value → ax_H → Option α) (E : ax_Env) (na : Nat → Nat) (C : List ax_E) : Nat → ax_K0 α
  | 0 => fun _ _ _ _ => none
  | F + 1 => ax_in1 (ax_out ρ E na C F) ρ E na C 4000
variable {ρ : Value → ax_H → Option α} {E : ax_Env} {na : Nat → Nat} {C : List ax_E} {res : α}
theorem ax_al_par {kd : Nat} {st : List Value} {h : ax_H} {k : List Value → Option α} (hs : ax_al kd st h k = some res) : ∃ st', k st' = some res ∧ ∀ k' : List Value → Option α, k' st' = some res → ax_al kd st h k' = some res := by
  unfold ax_al at hs
  split at hs
  · rename_i j x r
    by_cases hin : ax_in h x kd j
    · rw [if_pos hin] at hs
      exact ⟨_, hs, fun k' q => by unfold ax_al; simp only; rw [if_pos hin]; exact q⟩
    · rw [if_neg hin] at hs; cases hs
  · cases hs
set_option maxHeartbeats 8000000 in
theorem ax_stp_par {ls : ax_L} {st : List Value} {h : ax_H} {k : ax_L → List Value → ax_H → Option α} {r : ax_E} (hs : ax_stp r ls st h k = some res) : ∃ ls' st' h1, k ls' st' h1 = some res ∧ ∀ k' : ax_L → List Value → ax_H → Option α, k' ls' st' h1 = some res → ax_stp r ls st h k' = some res := by
  obtain ⟨pc, ins, len, a, b, z⟩ := r
  cases ins <;> simp only [ax_stp, ax_ii, ax_ll, ax_gf, ax_pf, ax_as, ax_ln, ax_na, ax_mn, ax_ac, ax_cl, ax_cc] at hs ⊢ <;>
    first
    | (obtain ⟨st', g1, g2⟩ := ax_al_par hs; exact ⟨_, _, _, g1, fun k' q => g2 (fun r => k' ls r h) q⟩)
    | ((repeat' (split at hs)) <;>
        first
        | (cases hs; done)
        | exact ⟨_, _, _, hs, fun k' hk' => hk'⟩
        | exact ⟨_, _, _, hs, fun k' hk' => by simp_all⟩)
theorem ax_sw_par {x : Int32} {k : Nat → Option α} {d : Nat} : ∀ {L : List Nat} {v : Int}, ax_sw x k v L d = some res → ∃ t, k t = some res ∧ ∀ k' : Nat → Option α, k' t = some res → ax_sw x k' v L d = some res
  | [], v, h => ⟨d, h, fun _ q => q⟩
  | t :: L, v, h => by
    unfold ax_sw at h
    split at h
    · rename_i hx
      exact ⟨t, h, fun k' q => by unfold ax_sw; rw [if_pos hx]; exact q⟩
    · rename_i hx
      obtain ⟨t', g1, g2⟩ := ax_sw_par h
      exact ⟨t', g1, fun k' q => by unfold ax_sw; rw [if_neg hx]; exact g2 k' q⟩
theorem ax_lsw_par {x : Int32} {k : Nat → Option α} {d : Nat} : ∀ {L : List (Int × Nat)}, ax_lsw x k L d = some res → ∃ t, k t = some res ∧ ∀ k' : Nat → Option α, k' t = some res → ax_lsw x k' L d = some res
  | [], h => ⟨d, h, fun _ q => q⟩
  | q :: L, h => by
    unfold ax_lsw at h
    split at h
    · rename_i hx
      exact ⟨_, h, fun k' q => by unfold ax_lsw; rw [if_pos hx]; exact q⟩
    · rename_i hx
      obtain ⟨t', g1, g2⟩ := ax_lsw_par h
      exact ⟨t', g1, fun k' q => by unfold ax_lsw; rw [if_neg hx]; exact g2 k' q⟩
theorem ax_call_par {e : ax_E} {n : Nat} {st : List Value} {h : ax_H} {k : List Value → ax_H → Option α} (hs : ax_call E e n st h k = some res) : ∃ st' h1, k st' h1 = some res ∧ ∀ k' : List Value → ax_H → Option α, k' st' h1 = some res → ax_call E e n st h k' = some res := by
  unfold ax_call at hs
  split at hs
  · rename_i hc
    split at hs
    · rename_i hz
      obtain ⟨r, g1, g2⟩ := Option.bind_eq_some_iff.mp hs
      exact ⟨_, _, g2, fun k' q => by unfold ax_call; rw [if_pos hc, if_pos hz, g1]; exact q⟩
    · rename_i hz
      split at hs
      · rename_i hz1
        obtain ⟨r, g1, g2⟩ := Option.bind_eq_some_iff.mp hs
        exact ⟨_, _, g2, fun k' q => by unfold ax_call; rw [if_pos hc, if_neg hz, if_pos hz1, g1]; exact q⟩
      · rename_i hz1
        split at hs
        · rename_i hz2
          obtain ⟨r, g1, g2⟩ := Option.bind_eq_some_iff.mp hs
          exact ⟨_, _, g2, fun k' q => by unfold ax_call; rw [if_pos hc, if_neg hz, if_neg hz1, if_pos hz2, g1]; exact q⟩
        · rename_i hz2
          obtain ⟨r, g1, g2⟩ := Option.bind_eq_some_iff.mp hs
          exact ⟨_, _, g2, fun k' q => by unfold ax_call; rw [if_pos hc, if_neg hz, if_neg hz1, if_neg hz2, g1]; exact q⟩
  · cases hs
/-- what a run up to the next mark uses of what comes behind it: nothing, or one point -/
def ax_use (f : ax_K0 α → Option α) (G : ax_K0 α) (res : α) : Prop := (∀ G', f G' = some res) ∨ ∃ s l t h1, G s l t h1 = some res ∧ ∀ G' : ax_K0 α, G' s l t h1 = some res → f G' = some res
theorem ax_use.of {f g : ax_K0 α → Option α} {G : ax_K0 α} (h : ax_use f G res) (hg : ∀ G', f G' = some res → g G' = some res) : ax_use g G res :=
  h.imp (fun q G' => hg G' (q G')) (fun ⟨s, l, t, h1, q1, q2⟩ => ⟨s, l, t, h1, q1, fun G' q => hg G' (q2 G' q)⟩)
set_option maxHeartbeats 8000000 in
theorem ax_in1_par (G : ax_K0 α) : ∀ (n : Nat) (sfx : List ax_E) (ls : ax_L) (st : List Value) (h : ax_H), ax_in1 G ρ E na C n sfx ls st h = some res → ax_use (fun G' => ax_in1 G' ρ E na C n sfx ls st h) G res := by
  intro n
  induction n with
  | zero => intro sfx ls st h hs; simp [ax_in1] at hs
  | succ n ih =>
    intro sfx ls st h hs
    cases sfx with
    | nil => simp [ax_in1] at hs
    | cons r t =>
      unfold ax_in1 at hs
      split at hs
      · rename_i hk
        split at hs
        · rename_i q hj
          exact Or.inr ⟨_, _, _, _, hs, fun G' q' => by unfold ax_in1; rw [hk]; simp only [hj]; exact q'⟩
        · rename_i hj
          obtain ⟨ls', st', h1, g1, g2⟩ := ax_stp_par hs
          refine (ih _ _ _ _ g1).of (fun G' q => ?_)
          unfold ax_in1
          rw [hk]
          simp only
          exact g2 _ q
      · rename_i hk
        exact (ih _ _ _ _ hs).of (fun G' q => by unfold ax_in1; rw [hk]; exact q)
      · rename_i hk
        split at hs
        · rename_i c off x r' hi
          split at hs
          · rename_i hc
            exact (ih _ _ _ _ hs).of (fun G' q => by unfold ax_in1; rw [hk]; simp only [hi, hc, if_true]; exact q)
          · rename_i hc
            exact (ih _ _ _ _ hs).of (fun G' q => by unfold ax_in1; rw [hk]; simp only [hi]; rw [if_neg hc]; exact q)
        · cases hs
      · rename_i hk
        split at hs
        · rename_i c off x y r' hi
          split at hs
          · rename_i hc
            exact (ih _ _ _ _ hs).of (fun G' q => by unfold ax_in1; rw [hk]; simp only [hi, hc, if_true]; exact q)
          · rename_i hc
            exact (ih _ _ _ _ hs).of (fun G' q => by unfold ax_in1; rw [hk]; simp only [hi]; rw [if_neg hc]; exact q)
        · cases hs
      · rename_i hk
        split at hs
        · split at hs
          · rename_i hc
            exact (ih _ _ _ _ hs).of (fun G' q => by unfold ax_in1; rw [hk]; simp only; rw [if_pos hc]; exact q)
          · rename_i hc
            exact (ih _ _ _ _ hs).of (fun G' q => by unfold ax_in1; rw [hk]; simp only; rw [if_neg hc]; exact q)
        · cases hs
      · rename_i hk
        split at hs
        · split at hs
          · rename_i hc
            exact (ih _ _ _ _ hs).of (fun G' q => by unfold ax_in1; rw [hk]; simp only; rw [if_pos hc]; exact q)
          · rename_i hc
            exact (ih _ _ _ _ hs).of (fun G' q => by unfold ax_in1; rw [hk]; simp only; rw [if_neg hc]; exact q)
        · cases hs
      · rename_i hk
        split at hs
        · rename_i d lo hi' offs x r' hi
          obtain ⟨tg, g1, g2⟩ := ax_sw_par hs
          exact (ih _ _ _ _ g1).of (fun G' q => by unfold ax_in1; rw [hk]; simp only [hi]; exact g2 _ q)
        · cases hs
      · rename_i hk
        split at hs
        · rename_i d ps x r' hi
          obtain ⟨tg, g1, g2⟩ := ax_lsw_par hs
          exact (ih _ _ _ _ g1).of (fun G' q => by unfold ax_in1; rw [hk]; simp only [hi]; exact g2 _ q)
        · cases hs
      · rename_i hk
        refine Or.inl (fun G' => ?_)
        unfold ax_in1
        rw [hk]
        exact hs
      · rename_i k0 k1 k2 k3 k4 k5 k6 k7 k8
        have key : ∀ G' : ax_K0 α, ax_in1 G' ρ E na C (n + 1) (r :: t) ls st h = (match r.2.1 with
          | .invokestatic _ => ax_call E r (na r.2.2.2.1) st h (fun st' h' => ax_in1 G' ρ E na C n t ls st' h')
          | _ => (match st.drop (na r.2.2.2.1 - 1) with
            | .ref x :: _ => if ax_rcv h r.2.2.2.2.1 x then ax_call E r (na r.2.2.2.1) st h (fun st' h' => ax_in1 G' ρ E na C n t ls st' h') else none
            | _ => none)) := by
          intro G'
          conv => lhs; unfold ax_in1
          split
          · exact absurd ‹_› k0
          · exact absurd ‹_› k1
          · exact absurd ‹_› k2
          · exact absurd ‹_› k3
          · exact absurd ‹_› k4
          · exact absurd ‹_› k5
          · exact absurd ‹_› k6
          · exact absurd ‹_› k7
          · exact absurd ‹_› k8
          · rfl
        split at hs
        · rename_i q hi
          obtain ⟨st', h1, g1, g2⟩ := ax_call_par hs
          exact (ih _ _ _ _ g1).of (fun G' q => by rw [key]; simp only [hi]; exact g2 _ q)
        · rename_i hi
          split at hs
          · rename_i x rr hdr
            split at hs
            · rename_i hx
              obtain ⟨st', h1, g1, g2⟩ := ax_call_par hs
              refine (ih _ _ _ _ g1).of (fun G' q => ?_)
              rw [key]
              split
              · rename_i hj2
                exact absurd hj2 (hi _)
              · rw [hdr]
                simp only
                rw [if_pos hx]
                exact g2 _ q
            · cases hs
          · cases hs
end AXI
end
section
/-! the least solution; and that it is a run -/
section AXP
variable {α : Type} {ρ : Value → ax_H → Option α} {E : ax_Env} {na : Nat → Nat} {C : List ax_E} {res : α}
theorem ax_in1_mono {G G' : ax_K0 α} {n : Nat} {sfx : List ax_E} {ls : ax_L} {st : List Value} {h : ax_H} (hG : ∀ s l t h1 r, G s l t h1 = some r → G' s l t h1 = some r) (hs : ax_in1 G ρ E na C n sfx ls st h = some res) : ax_in1 G' ρ E na C n sfx ls st h = some res := by
  rcases ax_in1_par G n sfx ls st h hs with q | ⟨s, l, t, h1, q1, q2⟩
  · exact q G'
  · exact q2 G' (hG _ _ _ _ _ q1)
theorem ax_out_succ : ∀ (F : Nat) (s : List ax_E) (l : ax_L) (t : List Value) (h1 : ax_H) (r : α), ax_out ρ E na C F s l t h1 = some r → ax_out ρ E na C (F + 1) s l t h1 = some r
  | 0, s, l, t, h1, r, h => by simp [ax_out] at h
  | F + 1, s, l, t, h1, r, h => by
    rw [ax_out] at h ⊢
    exact ax_in1_mono (ax_out_succ F) h
theorem ax_out_add (F : Nat) {s : List ax_E} {l : ax_L} {t : List Value} {h1 : ax_H} {r : α} (h : ax_out ρ E na C F s l t h1 = some r) : ∀ k, ax_out ρ E na C (F + k) s l t h1 = some r
  | 0 => h
  | k + 1 => ax_out_succ (F + k) s l t h1 r (ax_out_add F h k)
theorem ax_out_one {F F' : Nat} {s : List ax_E} {l : ax_L} {t : List Value} {h1 : ax_H} {r r' : α} (h : ax_out ρ E na C F s l t h1 = some r) (h' : ax_out ρ E na C F' s l t h1 = some r') : r = r' := by
  have a := ax_out_add F h F'
  have b := ax_out_add F' h' F
  rw [Nat.add_comm] at b
  exact Option.some.inj (a.symm.trans b)
noncomputable def ax_S (ρ : Value → ax_H → Option α) (E : ax_Env) (na : Nat → Nat) (C : List ax_E) : ax_K0 α := fun s l t h1 =>
  @dite _ (∃ r F, ax_out ρ E na C F s l t h1 = some r) (Classical.propDecidable _) (fun hx => some (Classical.choose hx)) (fun _ => none)
theorem ax_S_some {s : List ax_E} {l : ax_L} {t : List Value} {h1 : ax_H} {r : α} : ax_S ρ E na C s l t h1 = some r ↔ ∃ F, ax_out ρ E na C F s l t h1 = some r := by
  unfold ax_S
  by_cases hx : ∃ r F, ax_out ρ E na C F s l t h1 = some r
  · rw [dif_pos hx]
    obtain ⟨F, hF⟩ := Classical.choose_spec hx
    constructor
    · intro e
      exact ⟨F, by rw [hF]; exact e⟩
    · rintro ⟨F', hF'⟩
      rw [ax_out_one hF hF']
  · rw [dif_neg hx]
    constructor
    · intro e; cases e
    · rintro ⟨F, hF⟩
      exact absurd ⟨r, F, hF⟩ hx
/-- the equation -/
theorem ax_S_eq (s : List ax_E) (l : ax_L) (t : List Value) (h1 : ax_H) : ax_S ρ E na C s l t h1 = ax_in1 (ax_S ρ E na C) ρ E na C 4000 s l t h1 := by
  have one : ∀ r, ax_S ρ E na C s l t h1 = some r → ax_in1 (ax_S ρ E na C) ρ E na C 4000 s l t h1 = some r := by
    intro r h
    obtain ⟨F, hF⟩ := ax_S_some.mp h
    cases F with
    | zero => simp [ax_out] at hF
    | succ F =>
      rw [ax_out] at hF
      exact ax_in1_mono (fun s l t h1 r q => ax_S_some.mpr ⟨F, q⟩) hF
  have two : ∀ r, ax_in1 (ax_S ρ E na C) ρ E na C 4000 s l t h1 = some r → ax_S ρ E na C s l t h1 = some r := by
    intro r h
    rcases ax_in1_par _ 4000 s l t h1 h with q | ⟨s', l', t', h', q1, q2⟩
    · exact ax_S_some.mpr ⟨1, by rw [ax_out]; exact q _⟩
    · obtain ⟨F, hF⟩ := ax_S_some.mp q1
      exact ax_S_some.mpr ⟨F + 1, by rw [ax_out]; exact q2 _ hF⟩
  cases ha : ax_S ρ E na C s l t h1 with
  | some r => exact (one r ha).symm
  | none =>
    cases hb : ax_in1 (ax_S ρ E na C) ρ E na C 4000 s l t h1 with
    | none => rfl
    | some r => rw [two r hb] at ha; cases ha
/-- a run up to marks is a run -/
theorem ax_in1_ex {G : ax_K0 α} (hG : ∀ s l t h1, G s l t h1 = some res → ∃ m, ax_ex ρ E na C m s l t h1 = some res) : ∀ (n : Nat) (sfx : List ax_E) (ls : ax_L) (st : List Value) (h : ax_H), ax_in1 G ρ E na C n sfx ls st h = some res → ∃ m, ax_ex ρ E na C m sfx ls st h = some res := by
  intro n
  induction n with
  | zero => intro sfx ls st h hs; simp [ax_in1] at hs
  | succ n ih =>
    intro sfx ls st h hs
    cases sfx with
    | nil => simp [ax_in1] at hs
    | cons r t =>
      unfold ax_in1 at hs
      split at hs
      · rename_i hk
        split at hs
        · rename_i q hj
          obtain ⟨m, hm⟩ := hG _ _ _ _ hs
          refine ⟨m + 1, ?_⟩
          unfold ax_ex
          rw [hk]
          simp only [ax_stp, hj]
          exact hm
        · rename_i hj
          obtain ⟨ls', st', h1, g1, g2⟩ := ax_stp_par hs
          obtain ⟨m, hm⟩ := ih _ _ _ _ g1
          refine ⟨m + 1, ?_⟩
          unfold ax_ex
          rw [hk]
          exact g2 _ hm
      · rename_i hk
        obtain ⟨m, hm⟩ := ih _ _ _ _ hs
        exact ⟨m + 1, by unfold ax_ex; rw [hk]; exact hm⟩
      · rename_i hk
        split at hs
        · rename_i c off x r' hi
          split at hs
          · rename_i hc
            obtain ⟨m, hm⟩ := ih _ _ _ _ hs
            exact ⟨m + 1, by unfold ax_ex; rw [hk]; simp only [hi, hc, if_true]; exact hm⟩
          · rename_i hc
            obtain ⟨m, hm⟩ := ih _ _ _ _ hs
            exact ⟨m + 1, by unfold ax_ex; rw [hk]; simp only [hi]; rw [if_neg hc]; exact hm⟩
        · cases hs
      · rename_i hk
        split at hs
        · rename_i c off x y r' hi
          split at hs
          · rename_i hc
            obtain ⟨m, hm⟩ := ih _ _ _ _ hs
            exact ⟨m + 1, by unfold ax_ex; rw [hk]; simp only [hi, hc, if_true]; exact hm⟩
          · rename_i hc
            obtain ⟨m, hm⟩ := ih _ _ _ _ hs
            exact ⟨m + 1, by unfold ax_ex; rw [hk]; simp only [hi]; rw [if_neg hc]; exact hm⟩
        · cases hs
      · rename_i hk
        split at hs
        · split at hs
          · rename_i hc
            obtain ⟨m, hm⟩ := ih _ _ _ _ hs
            exact ⟨m + 1, by unfold ax_ex; rw [hk]; simp only; rw [if_pos hc]; exact hm⟩
          · rename_i hc
            obtain ⟨m, hm⟩ := ih _ _ _ _ hs
            exact ⟨m + 1, by unfold ax_ex; rw [hk]; simp only; rw [if_neg hc]; exact hm⟩
        · cases hs
      · rename_i hk
        split at hs
        · split at hs
          · rename_i hc
            obtain ⟨m, hm⟩ := ih _ _ _ _ hs
            exact ⟨m + 1, by unfold ax_ex; rw [hk]; simp only; rw [if_pos hc]; exact hm⟩
          · rename_i hc
            obtain ⟨m, hm⟩ := ih _ _ _ _ hs
            exact ⟨m + 1, by unfold ax_ex; rw [hk]; simp only; rw [if_neg hc]; exact hm⟩
        · cases hs
      · rename_i hk
        split at hs
        · rename_i d lo hi' offs x r' hi
          obtain ⟨tg, g1, g2⟩ := ax_sw_par hs
          obtain ⟨m, hm⟩ := ih _ _ _ _ g1
          exact ⟨m + 1, by unfold ax_ex; rw [hk]; simp only [hi]; exact g2 _ hm⟩
        · cases hs
      · rename_i hk
        split at hs
        · rename_i d ps x r' hi
          obtain ⟨tg, g1, g2⟩ := ax_lsw_par hs
          obtain ⟨m, hm⟩ := ih _ _ _ _ g1
          exact ⟨m + 1, by unfold ax_ex; rw [hk]; simp only [hi]; exact g2 _ hm⟩
        · cases hs
      · rename_i hk
        refine ⟨1, ?_⟩
        unfold ax_ex
        rw [hk]
        exact hs
      · rename_i k0 k1 k2 k3 k4 k5 k6 k7 k8
        have key : ∀ m, ax_ex ρ E na C (m + 1) (r :: t) ls st h = (match r.2.1 with
          | .invokestatic _ => ax_call E r (na r.2.2.2.1) st h (fun st' h' => ax_ex ρ E na C m t ls st' h')
          | _ => (match st.drop (na r.2.2.2.1 - 1) with
            | .ref x :: _ => if ax_rcv h r.2.2.2.2.1 x then ax_call E r (na r.2.2.2.1) st h (fun st' h' => ax_ex ρ E na C m t ls st' h') else none
            | _ => none)) := by
          intro m
          conv => lhs; unfold ax_ex
          split
          · exact absurd ‹_› k0
          · exact absurd ‹_› k1
          · exact absurd ‹_› k2
          · exact absurd ‹_› k3
          · exact absurd ‹_› k4
          · exact absurd ‹_› k5
          · exact absurd ‹_› k6
          · exact absurd ‹_› k7
          · exact absurd ‹_› k8
          · rfl
        split at hs
        · rename_i q hi
          obtain ⟨st', h1, g1, g2⟩ := ax_call_par hs
          obtain ⟨m, hm⟩ := ih _ _ _ _ g1
          exact ⟨m + 1, by rw [key]; simp only [hi]; exact g2 _ hm⟩
        · rename_i hi
          split at hs
          · rename_i x rr hdr
            split at hs
            · rename_i hx
              obtain ⟨st', h1, g1, g2⟩ := ax_call_par hs
              obtain ⟨m, hm⟩ := ih _ _ _ _ g1
              refine ⟨m + 1, ?_⟩
              rw [key]
              split
              · rename_i hj2
                exact absurd hj2 (hi _)
              · rw [hdr]
                simp only
                rw [if_pos hx]
                exact g2 _ hm
            · cases hs
          · cases hs
theorem ax_out_ex : ∀ (F : Nat) (s : List ax_E) (l : ax_L) (t : List Value) (h1 : ax_H), ax_out ρ E na C F s l t h1 = some res → ∃ m, ax_ex ρ E na C m s l t h1 = some res
  | 0, s, l, t, h1, h => by simp [ax_out] at h
  | F + 1, s, l, t, h1, h => by
    rw [ax_out] at h
    exact ax_in1_ex (ax_out_ex F) 4000 s l t h1 h
theorem ax_S_ex {s : List ax_E} {l : ax_L} {t : List Value} {h1 : ax_H} (h : ax_S ρ E na C s l t h1 = some res) : ∃ m, ax_ex ρ E na C m s l t h1 = some res := by
  obtain ⟨F, hF⟩ := ax_S_some.mp h
  exact ax_out_ex F s l t h1 hF
end AXP
end
section
/-! rows of the methods, printed by wip/gen/rows.py -/
/-- 2 BlackSun$Stars.<init>()V -/
def r_2 : List ax_E :=
  (0, .aload_n 0, 1, 0, 0, 0) ::
  (1, .invokespecial 3, 3, 0, 100, 0) ::
  (4, .aload_n 0, 1, 0, 0, 0) ::
  (5, .bipush 30, 2, 0, 0, 30) ::
  (7, .newarray .int, 2, 16, 0, 0) ::
  (9, .putfield 9, 3, 2, 1, 0) ::
  (12, .aload_n 0, 1, 0, 0, 0) ::
  (13, .bipush 30, 2, 0, 0, 30) ::
  (15, .newarray .int, 2, 16, 0, 0) ::
  (17, .putfield 15, 3, 2, 2, 0) ::
  (20, .aload_n 0, 1, 0, 0, 0) ::
  (21, .bipush 30, 2, 0, 0, 30) ::
  (23, .newarray .int, 2, 16, 0, 0) ::
  (25, .putfield 18, 3, 2, 3, 0) ::
  (28, .return_, 1, 0, 0, 0) ::
  []
/-- 3 BlackSun$Plates.<init>()V -/
def r_3 : List ax_E :=
  (0, .aload_n 0, 1, 0, 0, 0) ::
  (1, .invokespecial 3, 3, 0, 100, 0) ::
  (4, .aload_n 0, 1, 0, 0, 0) ::
  (5, .bipush 16, 2, 0, 0, 16) ::
  (7, .newarray .int, 2, 16, 0, 0) ::
  (9, .putfield 9, 3, 3, 1, 0) ::
  (12, .aload_n 0, 1, 0, 0, 0) ::
  (13, .bipush 16, 2, 0, 0, 16) ::
  (15, .newarray .int, 2, 16, 0, 0) ::
  (17, .putfield 15, 3, 3, 2, 0) ::
  (20, .aload_n 0, 1, 0, 0, 0) ::
  (21, .bipush 16, 2, 0, 0, 16) ::
  (23, .newarray .int, 2, 16, 0, 0) ::
  (25, .putfield 18, 3, 3, 3, 0) ::
  (28, .return_, 1, 0, 0, 0) ::
  []
/-- 4 BlackSun$Images.<init>()V -/
def r_4 : List ax_E :=
  (0, .aload_n 0, 1, 0, 0, 0) ::
  (1, .invokespecial 3, 3, 0, 100, 0) ::
  (4, .aload_n 0, 1, 0, 0, 0) ::
  (5, .bipush 100, 2, 0, 0, 100) ::
  (7, .newarray .int, 2, 16, 0, 0) ::
  (9, .putfield 9, 3, 4, 1, 0) ::
  (12, .aload_n 0, 1, 0, 0, 0) ::
  (13, .bipush 100, 2, 0, 0, 100) ::
  (15, .newarray .int, 2, 16, 0, 0) ::
  (17, .putfield 15, 3, 4, 2, 0) ::
  (20, .aload_n 0, 1, 0, 0, 0) ::
  (21, .bipush 100, 2, 0, 0, 100) ::
  (23, .newarray .int, 2, 16, 0, 0) ::
  (25, .putfield 18, 3, 4, 3, 0) ::
  (28, .aload_n 0, 1, 0, 0, 0) ::
  (29, .bipush 100, 2, 0, 0, 100) ::
  (31, .newarray .int, 2, 16, 0, 0) ::
  (33, .putfield 21, 3, 4, 4, 0) ::
  (36, .aload_n 0, 1, 0, 0, 0) ::
  (37, .bipush 100, 2, 0, 0, 100) ::
  (39, .newarray .int, 2, 16, 0, 0) ::
  (41, .putfield 24, 3, 4, 5, 0) ::
  (44, .aload_n 0, 1, 0, 0, 0) ::
  (45, .bipush 100, 2, 0, 0, 100) ::
  (47, .newarray .int, 2, 16, 0, 0) ::
  (49, .putfield 27, 3, 4, 6, 0) ::
  (52, .aload_n 0, 1, 0, 0, 0) ::
  (53, .bipush 100, 2, 0, 0, 100) ::
  (55, .newarray .int, 2, 16, 0, 0) ::
  (57, .putfield 30, 3, 4, 7, 0) ::
  (60, .return_, 1, 0, 0, 0) ::
  []
/-- 5 BlackSun$Book.<init>()V -/
def r_5_120 : List ax_E :=
  (120, .iload_n 1, 1, 1, 0, 0) ::
  (121, .bipush 8, 2, 0, 0, 8) ::
  (123, .if_icmp .ge 18, 3, 141, 0, 0) ::
  (126, .aload_n 0, 1, 0, 0, 0) ::
  (127, .getfield 60, 3, 1, 15, 0) ::
  (130, .iload_n 1, 1, 1, 0, 0) ::
  (131, .sipush 10000, 3, 0, 0, 10000) ::
  (134, .iastore, 1, 0, 0, 0) ::
  (135, .iinc 1 1, 3, 1, 0, 1) ::
  (138, .goto (-18), 3, 120, 0, 0) ::
  (141, .return_, 1, 0, 0, 0) ::
  []
def r_5 : List ax_E :=
  (0, .aload_n 0, 1, 0, 0, 0) ::
  (1, .invokespecial 3, 3, 0, 100, 0) ::
  (4, .aload_n 0, 1, 0, 0, 0) ::
  (5, .new 9, 3, 2, 0, 0) ::
  (8, .dup, 1, 0, 0, 0) ::
  (9, .invokespecial 11, 3, 2, 4, 0) ::
  (12, .putfield 12, 3, 1, 1, 0) ::
  (15, .aload_n 0, 1, 0, 0, 0) ::
  (16, .new 18, 3, 3, 0, 0) ::
  (19, .dup, 1, 0, 0, 0) ::
  (20, .invokespecial 20, 3, 3, 6, 0) ::
  (23, .putfield 21, 3, 1, 2, 0) ::
  (26, .aload_n 0, 1, 0, 0, 0) ::
  (27, .new 25, 3, 4, 0, 0) ::
  (30, .dup, 1, 0, 0, 0) ::
  (31, .invokespecial 27, 3, 4, 8, 0) ::
  (34, .putfield 28, 3, 1, 3, 0) ::
  (37, .aload_n 0, 1, 0, 0, 0) ::
  (38, .bipush 10, 2, 0, 0, 10) ::
  (40, .anewarray 32, 3, 20, 0, 0) ::
  (43, .putfield 34, 3, 1, 5, 0) ::
  (46, .aload_n 0, 1, 0, 0, 0) ::
  (47, .bipush 40, 2, 0, 0, 40) ::
  (49, .newarray .int, 2, 16, 0, 0) ::
  (51, .putfield 38, 3, 1, 7, 0) ::
  (54, .aload_n 0, 1, 0, 0, 0) ::
  (55, .bipush 40, 2, 0, 0, 40) ::
  (57, .newarray .int, 2, 16, 0, 0) ::
  (59, .putfield 42, 3, 1, 8, 0) ::
  (62, .aload_n 0, 1, 0, 0, 0) ::
  (63, .bipush 40, 2, 0, 0, 40) ::
  (65, .newarray .int, 2, 16, 0, 0) ::
  (67, .putfield 45, 3, 1, 9, 0) ::
  (70, .aload_n 0, 1, 0, 0, 0) ::
  (71, .bipush 9, 2, 0, 0, 9) ::
  (73, .newarray .int, 2, 16, 0, 0) ::
  (75, .putfield 48, 3, 1, 11, 0) ::
  (78, .aload_n 0, 1, 0, 0, 0) ::
  (79, .bipush 9, 2, 0, 0, 9) ::
  (81, .newarray .int, 2, 16, 0, 0) ::
  (83, .putfield 51, 3, 1, 12, 0) ::
  (86, .aload_n 0, 1, 0, 0, 0) ::
  (87, .bipush 24, 2, 0, 0, 24) ::
  (89, .newarray .int, 2, 16, 0, 0) ::
  (91, .putfield 54, 3, 1, 13, 0) ::
  (94, .aload_n 0, 1, 0, 0, 0) ::
  (95, .bipush 24, 2, 0, 0, 24) ::
  (97, .newarray .int, 2, 16, 0, 0) ::
  (99, .putfield 57, 3, 1, 14, 0) ::
  (102, .aload_n 0, 1, 0, 0, 0) ::
  (103, .bipush 8, 2, 0, 0, 8) ::
  (105, .newarray .int, 2, 16, 0, 0) ::
  (107, .putfield 60, 3, 1, 15, 0) ::
  (110, .aload_n 0, 1, 0, 0, 0) ::
  (111, .bipush 6, 2, 0, 0, 6) ::
  (113, .newarray .int, 2, 16, 0, 0) ::
  (115, .putfield 63, 3, 1, 16, 0) ::
  (118, .iconst 0, 1, 0, 0, 0) ::
  (119, .istore_n 1, 1, 1, 0, 0) ::
  (120, .jsr 0, 0, 3, 0, 0) ::
  r_5_120
/-- 6 BlackSun$Reader.<init>()V -/
def r_6 : List ax_E :=
  (0, .aload_n 0, 1, 0, 0, 0) ::
  (1, .invokespecial 3, 3, 0, 100, 0) ::
  (4, .aload_n 0, 1, 0, 0, 0) ::
  (5, .sipush 400, 3, 0, 0, 400) ::
  (8, .newarray .int, 2, 16, 0, 0) ::
  (10, .putfield 9, 3, 6, 2, 0) ::
  (13, .aload_n 0, 1, 0, 0, 0) ::
  (14, .bipush 64, 2, 0, 0, 64) ::
  (16, .newarray .int, 2, 16, 0, 0) ::
  (18, .putfield 15, 3, 6, 10, 0) ::
  (21, .aload_n 0, 1, 0, 0, 0) ::
  (22, .sipush 400, 3, 0, 0, 400) ::
  (25, .newarray .int, 2, 16, 0, 0) ::
  (27, .putfield 18, 3, 6, 12, 0) ::
  (30, .aload_n 0, 1, 0, 0, 0) ::
  (31, .bipush 6, 2, 0, 0, 6) ::
  (33, .newarray .int, 2, 16, 0, 0) ::
  (35, .putfield 21, 3, 6, 13, 0) ::
  (38, .aload_n 0, 1, 0, 0, 0) ::
  (39, .bipush 6, 2, 0, 0, 6) ::
  (41, .newarray .int, 2, 16, 0, 0) ::
  (43, .putfield 24, 3, 6, 14, 0) ::
  (46, .return_, 1, 0, 0, 0) ::
  []
/-- 7 BlackSun$Fit.<init>()V -/
def r_7 : List ax_E :=
  (0, .aload_n 0, 1, 0, 0, 0) ::
  (1, .invokespecial 5, 3, 0, 100, 0) ::
  (4, .aload_n 0, 1, 0, 0, 0) ::
  (5, .bipush 100, 2, 0, 0, 100) ::
  (7, .newarray .int, 2, 16, 0, 0) ::
  (9, .putfield 11, 3, 7, 1, 0) ::
  (12, .aload_n 0, 1, 0, 0, 0) ::
  (13, .bipush 6, 2, 0, 0, 6) ::
  (15, .newarray .int, 2, 16, 0, 0) ::
  (17, .putfield 15, 3, 7, 2, 0) ::
  (20, .aload_n 0, 1, 0, 0, 0) ::
  (21, .iconst 3, 1, 0, 0, 3) ::
  (22, .newarray .int, 2, 16, 0, 0) ::
  (24, .putfield 18, 3, 7, 5, 0) ::
  (27, .aload_n 0, 1, 0, 0, 0) ::
  (28, .sipush 600, 3, 0, 0, 600) ::
  (31, .newarray .int, 2, 16, 0, 0) ::
  (33, .putfield 21, 3, 7, 6, 0) ::
  (36, .aload_n 0, 1, 0, 0, 0) ::
  (37, .sipush 200, 3, 0, 0, 200) ::
  (40, .newarray .int, 2, 16, 0, 0) ::
  (42, .putfield 24, 3, 7, 7, 0) ::
  (45, .aload_n 0, 1, 0, 0, 0) ::
  (46, .sipush 200, 3, 0, 0, 200) ::
  (49, .newarray .int, 2, 16, 0, 0) ::
  (51, .putfield 27, 3, 7, 8, 0) ::
  (54, .aload_n 0, 1, 0, 0, 0) ::
  (55, .sipush 200, 3, 0, 0, 200) ::
  (58, .newarray .int, 2, 16, 0, 0) ::
  (60, .putfield 30, 3, 7, 9, 0) ::
  (63, .aload_n 0, 1, 0, 0, 0) ::
  (64, .bipush 47, 2, 0, 0, 47) ::
  (66, .bipush 13, 2, 0, 0, 13) ::
  (68, .multianewarray 33 2, 4, 0, 0, 0) ::
  (72, .putfield 35, 3, 7, 10, 0) ::
  (75, .aload_n 0, 1, 0, 0, 0) ::
  (76, .bipush 13, 2, 0, 0, 13) ::
  (78, .newarray .long, 2, 17, 0, 0) ::
  (80, .putfield 38, 3, 7, 11, 0) ::
  (83, .aload_n 0, 1, 0, 0, 0) ::
  (84, .bipush 8, 2, 0, 0, 8) ::
  (86, .newarray .int, 2, 16, 0, 0) ::
  (88, .putfield 42, 3, 7, 12, 0) ::
  (91, .aload_n 0, 1, 0, 0, 0) ::
  (92, .bipush 64, 2, 0, 0, 64) ::
  (94, .newarray .int, 2, 16, 0, 0) ::
  (96, .putfield 45, 3, 7, 13, 0) ::
  (99, .return_, 1, 0, 0, 0) ::
  []
/-- 8 BlackSun$Mix.<init>()V -/
def r_8 : List ax_E :=
  (0, .aload_n 0, 1, 0, 0, 0) ::
  (1, .invokespecial 3, 3, 0, 100, 0) ::
  (4, .return_, 1, 0, 0, 0) ::
  []
/-- 9 BlackSun.<init>()V -/
def r_9 : List ax_E :=
  (0, .aload_n 0, 1, 0, 0, 0) ::
  (1, .invokespecial 1, 3, 0, 100, 0) ::
  (4, .aload_n 0, 1, 0, 0, 0) ::
  (5, .new 7, 3, 1, 0, 0) ::
  (8, .dup, 1, 0, 0, 0) ::
  (9, .invokespecial 9, 3, 5, 2, 0) ::
  (12, .putfield 10, 3, 0, 0, 0) ::
  (15, .aload_n 0, 1, 0, 0, 0) ::
  (16, .iconst 4, 1, 0, 0, 4) ::
  (17, .anewarray 7, 3, 21, 0, 0) ::
  (20, .putfield 16, 3, 0, 1, 0) ::
  (23, .aload_n 0, 1, 0, 0, 0) ::
  (24, .new 20, 3, 6, 0, 0) ::
  (27, .dup, 1, 0, 0, 0) ::
  (28, .invokespecial 22, 3, 6, 12, 0) ::
  (31, .putfield 23, 3, 0, 2, 0) ::
  (34, .aload_n 0, 1, 0, 0, 0) ::
  (35, .new 27, 3, 7, 0, 0) ::
  (38, .dup, 1, 0, 0, 0) ::
  (39, .invokespecial 29, 3, 7, 14, 0) ::
  (42, .putfield 30, 3, 0, 3, 0) ::
  (45, .aload_n 0, 1, 0, 0, 0) ::
  (46, .new 34, 3, 8, 0, 0) ::
  (49, .dup, 1, 0, 0, 0) ::
  (50, .invokespecial 36, 3, 8, 16, 0) ::
  (53, .putfield 37, 3, 0, 4, 0) ::
  (56, .return_, 1, 0, 0, 0) ::
  []
/-- 10 BlackSun.clock(I)Z -/
def r_10 : List ax_E :=
  (0, .iload_n 1, 1, 1, 0, 0) ::
  (1, .aload_n 0, 1, 0, 0, 0) ::
  (2, .getfield 10, 3, 0, 0, 0) ::
  (5, .getfield 41, 3, 1, 0, 0) ::
  (8, .if_icmp .lt 10, 3, 18, 0, 0) ::
  (11, .iload_n 1, 1, 1, 0, 0) ::
  (12, .sipush 9999, 3, 0, 0, 9999) ::
  (15, .if_icmp .le 5, 3, 20, 0, 0) ::
  (18, .iconst 0, 1, 0, 0, 0) ::
  (19, .ireturn, 1, 1, 0, 0) ::
  (20, .aload_n 0, 1, 0, 0, 0) ::
  (21, .getfield 10, 3, 0, 0, 0) ::
  (24, .iload_n 1, 1, 1, 0, 0) ::
  (25, .putfield 41, 3, 1, 0, 0) ::
  (28, .iconst 1, 1, 0, 0, 1) ::
  (29, .ireturn, 1, 1, 0, 0) ::
  []
/-- 11 BlackSun.isWithin(III)Z -/
def r_11 : List ax_E :=
  (0, .iload_n 0, 1, 0, 0, 0) ::
  (1, .iload_n 1, 1, 1, 0, 0) ::
  (2, .if_icmp .lt 12, 3, 14, 0, 0) ::
  (5, .iload_n 0, 1, 0, 0, 0) ::
  (6, .iload_n 2, 1, 2, 0, 0) ::
  (7, .if_icmp .gt 7, 3, 14, 0, 0) ::
  (10, .iconst 1, 1, 0, 0, 1) ::
  (11, .goto 4, 3, 15, 0, 0) ::
  (14, .iconst 0, 1, 0, 0, 0) ::
  (15, .ireturn, 1, 1, 0, 0) ::
  []
/-- 12 BlackSun$Stars.put(III)I -/
def r_12 : List ax_E :=
  (0, .aload_n 0, 1, 0, 0, 0) ::
  (1, .getfield 21, 3, 2, 0, 0) ::
  (4, .bipush 30, 2, 0, 0, 30) ::
  (6, .if_icmp .lt 5, 3, 11, 0, 0) ::
  (9, .iconst (-1), 1, 0, 0, (-1)) ::
  (10, .ireturn, 1, 0, 0, 0) ::
  (11, .aload_n 0, 1, 0, 0, 0) ::
  (12, .getfield 9, 3, 2, 1, 0) ::
  (15, .aload_n 0, 1, 0, 0, 0) ::
  (16, .getfield 21, 3, 2, 0, 0) ::
  (19, .iload_n 1, 1, 1, 0, 0) ::
  (20, .iastore, 1, 0, 0, 0) ::
  (21, .aload_n 0, 1, 0, 0, 0) ::
  (22, .getfield 15, 3, 2, 2, 0) ::
  (25, .aload_n 0, 1, 0, 0, 0) ::
  (26, .getfield 21, 3, 2, 0, 0) ::
  (29, .iload_n 2, 1, 2, 0, 0) ::
  (30, .iastore, 1, 0, 0, 0) ::
  (31, .aload_n 0, 1, 0, 0, 0) ::
  (32, .getfield 18, 3, 2, 3, 0) ::
  (35, .aload_n 0, 1, 0, 0, 0) ::
  (36, .getfield 21, 3, 2, 0, 0) ::
  (39, .iload_n 3, 1, 3, 0, 0) ::
  (40, .iastore, 1, 0, 0, 0) ::
  (41, .aload_n 0, 1, 0, 0, 0) ::
  (42, .dup, 1, 0, 0, 0) ::
  (43, .getfield 21, 3, 2, 0, 0) ::
  (46, .iconst 1, 1, 0, 0, 1) ::
  (47, .iadd, 1, 0, 0, 0) ::
  (48, .putfield 21, 3, 2, 0, 0) ::
  (51, .aload_n 0, 1, 0, 0, 0) ::
  (52, .getfield 21, 3, 2, 0, 0) ::
  (55, .iconst 1, 1, 0, 0, 1) ::
  (56, .isub, 1, 0, 0, 0) ::
  (57, .ireturn, 1, 0, 0, 0) ::
  []
/-- 13 BlackSun.star(III)I -/
def r_13_13 : List ax_E :=
  (13, .istore 4, 2, 4, 0, 0) ::
  (15, .iload 4, 2, 4, 0, 0) ::
  (17, .ifCond .ne 35, 3, 52, 0, 0) ::
  (20, .iload_n 1, 1, 1, 0, 0) ::
  (21, .bipush (-9), 2, 0, 0, (-9)) ::
  (23, .bipush 9, 2, 0, 0, 9) ::
  (25, .invokestatic 45, 3, 11, 0, 1) ::
  (28, .ifCond .eq 24, 3, 52, 0, 0) ::
  (31, .iload_n 2, 1, 2, 0, 0) ::
  (32, .bipush (-9), 2, 0, 0, (-9)) ::
  (34, .bipush 9, 2, 0, 0, 9) ::
  (36, .invokestatic 45, 3, 11, 0, 1) ::
  (39, .ifCond .eq 13, 3, 52, 0, 0) ::
  (42, .iload_n 3, 1, 3, 0, 0) ::
  (43, .iconst 0, 1, 0, 0, 0) ::
  (44, .bipush 99, 2, 0, 0, 99) ::
  (46, .invokestatic 45, 3, 11, 0, 1) ::
  (49, .ifCond .ne 5, 3, 54, 0, 0) ::
  (52, .iconst (-1), 1, 0, 0, (-1)) ::
  (53, .ireturn, 1, 0, 0, 0) ::
  (54, .aload_n 0, 1, 0, 0, 0) ::
  (55, .getfield 10, 3, 0, 0, 0) ::
  (58, .getfield 49, 3, 1, 1, 0) ::
  (61, .iload_n 1, 1, 1, 0, 0) ::
  (62, .iload_n 2, 1, 2, 0, 0) ::
  (63, .iload_n 3, 1, 3, 0, 0) ::
  (64, .invokevirtual 53, 3, 12, 4, 1) ::
  (67, .ireturn, 1, 0, 0, 0) ::
  []
def r_13 : List ax_E :=
  (0, .iload_n 1, 1, 1, 0, 0) ::
  (1, .ifCond .ne 11, 3, 12, 0, 0) ::
  (4, .iload_n 2, 1, 2, 0, 0) ::
  (5, .ifCond .ne 7, 3, 12, 0, 0) ::
  (8, .iconst 1, 1, 0, 0, 1) ::
  (9, .goto 4, 3, 13, 0, 0) ::
  (12, .iconst 0, 1, 0, 0, 0) ::
  (13, .jsr 0, 0, 15, 0, 0) ::
  r_13_13
/-- 14 BlackSun$Stars.has(I)Z -/
def r_14 : List ax_E :=
  (0, .iload_n 1, 1, 1, 0, 0) ::
  (1, .iconst 0, 1, 0, 0, 0) ::
  (2, .aload_n 0, 1, 0, 0, 0) ::
  (3, .getfield 21, 3, 2, 0, 0) ::
  (6, .iconst 1, 1, 0, 0, 1) ::
  (7, .isub, 1, 0, 0, 0) ::
  (8, .invokestatic 25, 3, 11, 0, 1) ::
  (11, .ireturn, 1, 1, 0, 0) ::
  []
/-- 15 BlackSun$Stars.far(I)I -/
def r_15 : List ax_E :=
  (0, .aload_n 0, 1, 0, 0, 0) ::
  (1, .getfield 9, 3, 2, 1, 0) ::
  (4, .iload_n 1, 1, 1, 0, 0) ::
  (5, .iaload, 1, 0, 0, 0) ::
  (6, .aload_n 0, 1, 0, 0, 0) ::
  (7, .getfield 9, 3, 2, 1, 0) ::
  (10, .iload_n 1, 1, 1, 0, 0) ::
  (11, .iaload, 1, 0, 0, 0) ::
  (12, .imul, 1, 0, 0, 0) ::
  (13, .aload_n 0, 1, 0, 0, 0) ::
  (14, .getfield 15, 3, 2, 2, 0) ::
  (17, .iload_n 1, 1, 1, 0, 0) ::
  (18, .iaload, 1, 0, 0, 0) ::
  (19, .aload_n 0, 1, 0, 0, 0) ::
  (20, .getfield 15, 3, 2, 2, 0) ::
  (23, .iload_n 1, 1, 1, 0, 0) ::
  (24, .iaload, 1, 0, 0, 0) ::
  (25, .imul, 1, 0, 0, 0) ::
  (26, .iadd, 1, 0, 0, 0) ::
  (27, .ireturn, 1, 0, 0, 0) ::
  []
/-- 16 BlackSun.stars(II)I -/
def r_16 : List ax_E :=
  (0, .aload_n 0, 1, 0, 0, 0) ::
  (1, .getfield 10, 3, 0, 0, 0) ::
  (4, .getfield 49, 3, 1, 1, 0) ::
  (7, .iload_n 1, 1, 1, 0, 0) ::
  (8, .invokevirtual 59, 3, 14, 4, 1) ::
  (11, .ifCond .ne 7, 3, 18, 0, 0) ::
  (14, .sipush (-1000), 3, 0, 0, (-1000)) ::
  (17, .ireturn, 1, 0, 0, 0) ::
  (18, .iload_n 2, 1, 2, 0, 0) ::
  (19, .tableswitch 80 0 3 #[29, 42, 55, 68], 29, 0, 0, 0) ::
  (48, .aload_n 0, 1, 0, 0, 0) ::
  (49, .getfield 10, 3, 0, 0, 0) ::
  (52, .getfield 49, 3, 1, 1, 0) ::
  (55, .getfield 63, 3, 2, 1, 0) ::
  (58, .iload_n 1, 1, 1, 0, 0) ::
  (59, .iaload, 1, 0, 0, 0) ::
  (60, .ireturn, 1, 0, 0, 0) ::
  (61, .aload_n 0, 1, 0, 0, 0) ::
  (62, .getfield 10, 3, 0, 0, 0) ::
  (65, .getfield 49, 3, 1, 1, 0) ::
  (68, .getfield 67, 3, 2, 2, 0) ::
  (71, .iload_n 1, 1, 1, 0, 0) ::
  (72, .iaload, 1, 0, 0, 0) ::
  (73, .ireturn, 1, 0, 0, 0) ::
  (74, .aload_n 0, 1, 0, 0, 0) ::
  (75, .getfield 10, 3, 0, 0, 0) ::
  (78, .getfield 49, 3, 1, 1, 0) ::
  (81, .getfield 70, 3, 2, 3, 0) ::
  (84, .iload_n 1, 1, 1, 0, 0) ::
  (85, .iaload, 1, 0, 0, 0) ::
  (86, .ireturn, 1, 0, 0, 0) ::
  (87, .aload_n 0, 1, 0, 0, 0) ::
  (88, .getfield 10, 3, 0, 0, 0) ::
  (91, .getfield 49, 3, 1, 1, 0) ::
  (94, .iload_n 1, 1, 1, 0, 0) ::
  (95, .invokevirtual 73, 3, 15, 4, 1) ::
  (98, .ireturn, 1, 0, 0, 0) ::
  (99, .sipush (-1000), 3, 0, 0, (-1000)) ::
  (102, .ireturn, 1, 0, 0, 0) ::
  []
/-- 17 BlackSun.isIsland(I)Z -/
def r_17 : List ax_E :=
  (0, .iload_n 0, 1, 0, 0, 0) ::
  (1, .iconst 0, 1, 0, 0, 0) ::
  (2, .iconst 3, 1, 0, 0, 3) ::
  (3, .invokestatic 45, 3, 11, 0, 1) ::
  (6, .ireturn, 1, 1, 0, 0) ::
  []
/-- 18 BlackSun$Plates.put(III)I -/
def r_18 : List ax_E :=
  (0, .aload_n 0, 1, 0, 0, 0) ::
  (1, .getfield 21, 3, 3, 0, 0) ::
  (4, .bipush 16, 2, 0, 0, 16) ::
  (6, .if_icmp .lt 5, 3, 11, 0, 0) ::
  (9, .iconst (-1), 1, 0, 0, (-1)) ::
  (10, .ireturn, 1, 0, 0, 0) ::
  (11, .aload_n 0, 1, 0, 0, 0) ::
  (12, .getfield 9, 3, 3, 1, 0) ::
  (15, .aload_n 0, 1, 0, 0, 0) ::
  (16, .getfield 21, 3, 3, 0, 0) ::
  (19, .iload_n 1, 1, 1, 0, 0) ::
  (20, .iastore, 1, 0, 0, 0) ::
  (21, .aload_n 0, 1, 0, 0, 0) ::
  (22, .getfield 15, 3, 3, 2, 0) ::
  (25, .aload_n 0, 1, 0, 0, 0) ::
  (26, .getfield 21, 3, 3, 0, 0) ::
  (29, .iload_n 2, 1, 2, 0, 0) ::
  (30, .iastore, 1, 0, 0, 0) ::
  (31, .aload_n 0, 1, 0, 0, 0) ::
  (32, .getfield 18, 3, 3, 3, 0) ::
  (35, .aload_n 0, 1, 0, 0, 0) ::
  (36, .getfield 21, 3, 3, 0, 0) ::
  (39, .iload_n 3, 1, 3, 0, 0) ::
  (40, .iastore, 1, 0, 0, 0) ::
  (41, .aload_n 0, 1, 0, 0, 0) ::
  (42, .dup, 1, 0, 0, 0) ::
  (43, .getfield 21, 3, 3, 0, 0) ::
  (46, .iconst 1, 1, 0, 0, 1) ::
  (47, .iadd, 1, 0, 0, 0) ::
  (48, .putfield 21, 3, 3, 0, 0) ::
  (51, .aload_n 0, 1, 0, 0, 0) ::
  (52, .getfield 21, 3, 3, 0, 0) ::
  (55, .iconst 1, 1, 0, 0, 1) ::
  (56, .isub, 1, 0, 0, 0) ::
  (57, .ireturn, 1, 0, 0, 0) ::
  []
/-- 19 BlackSun.plate(III)I -/
def r_19 : List ax_E :=
  (0, .iload_n 1, 1, 1, 0, 0) ::
  (1, .invokestatic 77, 3, 17, 0, 1) ::
  (4, .ifCond .eq 22, 3, 26, 0, 0) ::
  (7, .iload_n 2, 1, 2, 0, 0) ::
  (8, .iconst 0, 1, 0, 0, 0) ::
  (9, .iconst 2, 1, 0, 0, 2) ::
  (10, .invokestatic 45, 3, 11, 0, 1) ::
  (13, .ifCond .eq 13, 3, 26, 0, 0) ::
  (16, .iload_n 3, 1, 3, 0, 0) ::
  (17, .iconst 0, 1, 0, 0, 0) ::
  (18, .bipush 99, 2, 0, 0, 99) ::
  (20, .invokestatic 45, 3, 11, 0, 1) ::
  (23, .ifCond .ne 5, 3, 28, 0, 0) ::
  (26, .iconst (-1), 1, 0, 0, (-1)) ::
  (27, .ireturn, 1, 0, 0, 0) ::
  (28, .aload_n 0, 1, 0, 0, 0) ::
  (29, .getfield 10, 3, 0, 0, 0) ::
  (32, .getfield 80, 3, 1, 2, 0) ::
  (35, .iload_n 1, 1, 1, 0, 0) ::
  (36, .iload_n 2, 1, 2, 0, 0) ::
  (37, .iload_n 3, 1, 3, 0, 0) ::
  (38, .invokevirtual 84, 3, 18, 6, 1) ::
  (41, .ireturn, 1, 0, 0, 0) ::
  []
/-- 20 BlackSun$Plates.has(I)Z -/
def r_20 : List ax_E :=
  (0, .iload_n 1, 1, 1, 0, 0) ::
  (1, .iconst 0, 1, 0, 0, 0) ::
  (2, .aload_n 0, 1, 0, 0, 0) ::
  (3, .getfield 21, 3, 3, 0, 0) ::
  (6, .iconst 1, 1, 0, 0, 1) ::
  (7, .isub, 1, 0, 0, 0) ::
  (8, .invokestatic 25, 3, 11, 0, 1) ::
  (11, .ireturn, 1, 1, 0, 0) ::
  []
/-- 21 BlackSun.isHand(I)Z -/
def r_21 : List ax_E :=
  (0, .iload_n 0, 1, 0, 0, 0) ::
  (1, .iconst 0, 1, 0, 0, 0) ::
  (2, .bipush 7, 2, 0, 0, 7) ::
  (4, .invokestatic 45, 3, 11, 0, 1) ::
  (7, .ireturn, 1, 1, 0, 0) ::
  []
/-- 22 BlackSun$Images.isKnown(II)Z -/
def r_22 : List ax_E :=
  (0, .aload_n 0, 1, 0, 0, 0) ::
  (1, .getfield 27, 3, 4, 6, 0) ::
  (4, .iload_n 1, 1, 1, 0, 0) ::
  (5, .iaload, 1, 0, 0, 0) ::
  (6, .iload_n 2, 1, 2, 0, 0) ::
  (7, .if_icmp .gt 17, 3, 24, 0, 0) ::
  (10, .iload_n 2, 1, 2, 0, 0) ::
  (11, .aload_n 0, 1, 0, 0, 0) ::
  (12, .getfield 30, 3, 4, 7, 0) ::
  (15, .iload_n 1, 1, 1, 0, 0) ::
  (16, .iaload, 1, 0, 0, 0) ::
  (17, .if_icmp .ge 7, 3, 24, 0, 0) ::
  (20, .iconst 1, 1, 0, 0, 1) ::
  (21, .goto 4, 3, 25, 0, 0) ::
  (24, .iconst 0, 1, 0, 0, 0) ::
  (25, .ireturn, 1, 1, 0, 0) ::
  []
/-- 23 BlackSun$Images.find(IIII)I -/
def r_23_3 : List ax_E :=
  (3, .iload 5, 2, 5, 0, 0) ::
  (5, .aload_n 0, 1, 0, 0, 0) ::
  (6, .getfield 33, 3, 4, 0, 0) ::
  (9, .if_icmp .ge 56, 3, 65, 0, 0) ::
  (12, .aload_n 0, 1, 0, 0, 0) ::
  (13, .getfield 9, 3, 4, 1, 0) ::
  (16, .iload 5, 2, 5, 0, 0) ::
  (18, .iaload, 1, 0, 0, 0) ::
  (19, .iload_n 1, 1, 1, 0, 0) ::
  (20, .if_icmp .ne 39, 3, 59, 0, 0) ::
  (23, .aload_n 0, 1, 0, 0, 0) ::
  (24, .getfield 15, 3, 4, 2, 0) ::
  (27, .iload 5, 2, 5, 0, 0) ::
  (29, .iaload, 1, 0, 0, 0) ::
  (30, .iload_n 2, 1, 2, 0, 0) ::
  (31, .if_icmp .ne 28, 3, 59, 0, 0) ::
  (34, .aload_n 0, 1, 0, 0, 0) ::
  (35, .getfield 18, 3, 4, 3, 0) ::
  (38, .iload 5, 2, 5, 0, 0) ::
  (40, .iaload, 1, 0, 0, 0) ::
  (41, .iload_n 3, 1, 3, 0, 0) ::
  (42, .if_icmp .ne 17, 3, 59, 0, 0) ::
  (45, .aload_n 0, 1, 0, 0, 0) ::
  (46, .iload 5, 2, 5, 0, 0) ::
  (48, .iload 4, 2, 4, 0, 0) ::
  (50, .invokevirtual 41, 3, 22, 8, 1) ::
  (53, .ifCond .eq 6, 3, 59, 0, 0) ::
  (56, .iload 5, 2, 5, 0, 0) ::
  (58, .ireturn, 1, 0, 0, 0) ::
  (59, .iinc 5 1, 3, 5, 0, 1) ::
  (62, .goto (-59), 3, 3, 0, 0) ::
  (65, .iconst (-1), 1, 0, 0, (-1)) ::
  (66, .ireturn, 1, 0, 0, 0) ::
  []
def r_23 : List ax_E :=
  (0, .iconst 0, 1, 0, 0, 0) ::
  (1, .istore 5, 2, 5, 0, 0) ::
  (3, .jsr 0, 0, 63, 0, 0) ::
  r_23_3
/-- 24 BlackSun$Images.put(IIIIII)I -/
def r_24_37 : List ax_E :=
  (37, .aload_n 0, 1, 0, 0, 0) ::
  (38, .getfield 9, 3, 4, 1, 0) ::
  (41, .aload_n 0, 1, 0, 0, 0) ::
  (42, .getfield 33, 3, 4, 0, 0) ::
  (45, .iload_n 1, 1, 1, 0, 0) ::
  (46, .iastore, 1, 0, 0, 0) ::
  (47, .aload_n 0, 1, 0, 0, 0) ::
  (48, .getfield 15, 3, 4, 2, 0) ::
  (51, .aload_n 0, 1, 0, 0, 0) ::
  (52, .getfield 33, 3, 4, 0, 0) ::
  (55, .iload_n 2, 1, 2, 0, 0) ::
  (56, .iastore, 1, 0, 0, 0) ::
  (57, .aload_n 0, 1, 0, 0, 0) ::
  (58, .getfield 18, 3, 4, 3, 0) ::
  (61, .aload_n 0, 1, 0, 0, 0) ::
  (62, .getfield 33, 3, 4, 0, 0) ::
  (65, .iload_n 3, 1, 3, 0, 0) ::
  (66, .iastore, 1, 0, 0, 0) ::
  (67, .aload_n 0, 1, 0, 0, 0) ::
  (68, .getfield 21, 3, 4, 4, 0) ::
  (71, .aload_n 0, 1, 0, 0, 0) ::
  (72, .getfield 33, 3, 4, 0, 0) ::
  (75, .iload 4, 2, 4, 0, 0) ::
  (77, .iastore, 1, 0, 0, 0) ::
  (78, .aload_n 0, 1, 0, 0, 0) ::
  (79, .getfield 24, 3, 4, 5, 0) ::
  (82, .aload_n 0, 1, 0, 0, 0) ::
  (83, .getfield 33, 3, 4, 0, 0) ::
  (86, .iload 5, 2, 5, 0, 0) ::
  (88, .iastore, 1, 0, 0, 0) ::
  (89, .aload_n 0, 1, 0, 0, 0) ::
  (90, .getfield 27, 3, 4, 6, 0) ::
  (93, .aload_n 0, 1, 0, 0, 0) ::
  (94, .getfield 33, 3, 4, 0, 0) ::
  (97, .iload 6, 2, 6, 0, 0) ::
  (99, .iastore, 1, 0, 0, 0) ::
  (100, .aload_n 0, 1, 0, 0, 0) ::
  (101, .getfield 30, 3, 4, 7, 0) ::
  (104, .aload_n 0, 1, 0, 0, 0) ::
  (105, .getfield 33, 3, 4, 0, 0) ::
  (108, .sipush 10000, 3, 0, 0, 10000) ::
  (111, .iastore, 1, 0, 0, 0) ::
  (112, .aload_n 0, 1, 0, 0, 0) ::
  (113, .dup, 1, 0, 0, 0) ::
  (114, .getfield 33, 3, 4, 0, 0) ::
  (117, .iconst 1, 1, 0, 0, 1) ::
  (118, .iadd, 1, 0, 0, 0) ::
  (119, .putfield 33, 3, 4, 0, 0) ::
  (122, .aload_n 0, 1, 0, 0, 0) ::
  (123, .getfield 33, 3, 4, 0, 0) ::
  (126, .iconst 1, 1, 0, 0, 1) ::
  (127, .isub, 1, 0, 0, 0) ::
  (128, .ireturn, 1, 0, 0, 0) ::
  []
def r_24 : List ax_E :=
  (0, .aload_n 0, 1, 0, 0, 0) ::
  (1, .getfield 33, 3, 4, 0, 0) ::
  (4, .bipush 100, 2, 0, 0, 100) ::
  (6, .if_icmp .lt 5, 3, 11, 0, 0) ::
  (9, .iconst (-1), 1, 0, 0, (-1)) ::
  (10, .ireturn, 1, 0, 0, 0) ::
  (11, .aload_n 0, 1, 0, 0, 0) ::
  (12, .iload_n 1, 1, 1, 0, 0) ::
  (13, .iload_n 2, 1, 2, 0, 0) ::
  (14, .iload_n 3, 1, 3, 0, 0) ::
  (15, .iload 6, 2, 6, 0, 0) ::
  (17, .invokevirtual 37, 3, 23, 8, 1) ::
  (20, .istore 7, 2, 7, 0, 0) ::
  (22, .iload 7, 2, 7, 0, 0) ::
  (24, .iconst (-1), 1, 0, 0, (-1)) ::
  (25, .if_icmp .eq 12, 3, 37, 0, 0) ::
  (28, .aload_n 0, 1, 0, 0, 0) ::
  (29, .getfield 30, 3, 4, 7, 0) ::
  (32, .iload 7, 2, 7, 0, 0) ::
  (34, .iload 6, 2, 6, 0, 0) ::
  (36, .iastore, 1, 0, 0, 0) ::
  (37, .jsr 0, 0, 127, 0, 0) ::
  r_24_37
/-- 25 BlackSun.image(IIIII)I -/
def r_25 : List ax_E :=
  (0, .aload_n 0, 1, 0, 0, 0) ::
  (1, .getfield 10, 3, 0, 0, 0) ::
  (4, .getfield 80, 3, 1, 2, 0) ::
  (7, .iload_n 1, 1, 1, 0, 0) ::
  (8, .invokevirtual 87, 3, 20, 6, 1) ::
  (11, .ifCond .eq 24, 3, 35, 0, 0) ::
  (14, .aload_n 0, 1, 0, 0, 0) ::
  (15, .getfield 10, 3, 0, 0, 0) ::
  (18, .getfield 49, 3, 1, 1, 0) ::
  (21, .iload_n 2, 1, 2, 0, 0) ::
  (22, .invokevirtual 59, 3, 14, 4, 1) ::
  (25, .ifCond .eq 10, 3, 35, 0, 0) ::
  (28, .iload_n 3, 1, 3, 0, 0) ::
  (29, .invokestatic 88, 3, 21, 0, 1) ::
  (32, .ifCond .ne 5, 3, 37, 0, 0) ::
  (35, .iconst (-1), 1, 0, 0, (-1)) ::
  (36, .ireturn, 1, 0, 0, 0) ::
  (37, .iload 4, 2, 4, 0, 0) ::
  (39, .sipush (-299), 3, 0, 0, (-299)) ::
  (42, .sipush 299, 3, 0, 0, 299) ::
  (45, .invokestatic 45, 3, 11, 0, 1) ::
  (48, .ifCond .eq 17, 3, 65, 0, 0) ::
  (51, .iload 5, 2, 5, 0, 0) ::
  (53, .sipush (-299), 3, 0, 0, (-299)) ::
  (56, .sipush 299, 3, 0, 0, 299) ::
  (59, .invokestatic 45, 3, 11, 0, 1) ::
  (62, .ifCond .ne 5, 3, 67, 0, 0) ::
  (65, .iconst (-1), 1, 0, 0, (-1)) ::
  (66, .ireturn, 1, 0, 0, 0) ::
  (67, .aload_n 0, 1, 0, 0, 0) ::
  (68, .getfield 10, 3, 0, 0, 0) ::
  (71, .getfield 91, 3, 1, 3, 0) ::
  (74, .iload_n 1, 1, 1, 0, 0) ::
  (75, .iload_n 2, 1, 2, 0, 0) ::
  (76, .iload_n 3, 1, 3, 0, 0) ::
  (77, .iload 4, 2, 4, 0, 0) ::
  (79, .iload 5, 2, 5, 0, 0) ::
  (81, .aload_n 0, 1, 0, 0, 0) ::
  (82, .getfield 10, 3, 0, 0, 0) ::
  (85, .getfield 41, 3, 1, 0, 0) ::
  (88, .invokevirtual 95, 3, 24, 8, 1) ::
  (91, .ireturn, 1, 0, 0, 0) ::
  []
/-- 26 BlackSun.isWeek(I)Z -/
def r_26 : List ax_E :=
  (0, .iload_n 0, 1, 0, 0, 0) ::
  (1, .iconst 0, 1, 0, 0, 0) ::
  (2, .sipush 9999, 3, 0, 0, 9999) ::
  (5, .invokestatic 45, 3, 11, 0, 1) ::
  (8, .ireturn, 1, 1, 0, 0) ::
  []
/-- 27 BlackSun.isChoice(I)Z -/
def r_27 : List ax_E :=
  (0, .iload_n 0, 1, 0, 0, 0) ::
  (1, .ifCond .eq 8, 3, 9, 0, 0) ::
  (4, .iload_n 0, 1, 0, 0, 0) ::
  (5, .iconst 1, 1, 0, 0, 1) ::
  (6, .if_icmp .ne 7, 3, 13, 0, 0) ::
  (9, .iconst 1, 1, 0, 0, 1) ::
  (10, .goto 4, 3, 14, 0, 0) ::
  (13, .iconst 0, 1, 0, 0, 0) ::
  (14, .ireturn, 1, 1, 0, 0) ::
  []
/-- 28 BlackSun$Images.measured(II)I -/
def r_28 : List ax_E :=
  (0, .iload_n 2, 1, 2, 0, 0) ::
  (1, .ifCond .ne 12, 3, 13, 0, 0) ::
  (4, .aload_n 0, 1, 0, 0, 0) ::
  (5, .getfield 21, 3, 4, 4, 0) ::
  (8, .iload_n 1, 1, 1, 0, 0) ::
  (9, .iaload, 1, 0, 0, 0) ::
  (10, .goto 9, 3, 19, 0, 0) ::
  (13, .aload_n 0, 1, 0, 0, 0) ::
  (14, .getfield 24, 3, 4, 5, 0) ::
  (17, .iload_n 1, 1, 1, 0, 0) ::
  (18, .iaload, 1, 0, 0, 0) ::
  (19, .ireturn, 1, 0, 0, 0) ::
  []
/-- 29 BlackSun.images(IIIII)I -/
def r_29 : List ax_E :=
  (0, .iload 4, 2, 4, 0, 0) ::
  (2, .invokestatic 100, 3, 26, 0, 1) ::
  (5, .ifCond .eq 11, 3, 16, 0, 0) ::
  (8, .iload 5, 2, 5, 0, 0) ::
  (10, .invokestatic 103, 3, 27, 0, 1) ::
  (13, .ifCond .ne 7, 3, 20, 0, 0) ::
  (16, .sipush (-1000), 3, 0, 0, (-1000)) ::
  (19, .ireturn, 1, 0, 0, 0) ::
  (20, .aload_n 0, 1, 0, 0, 0) ::
  (21, .getfield 10, 3, 0, 0, 0) ::
  (24, .getfield 91, 3, 1, 3, 0) ::
  (27, .iload_n 1, 1, 1, 0, 0) ::
  (28, .iload_n 2, 1, 2, 0, 0) ::
  (29, .iload_n 3, 1, 3, 0, 0) ::
  (30, .iload 4, 2, 4, 0, 0) ::
  (32, .invokevirtual 106, 3, 23, 8, 1) ::
  (35, .istore 6, 2, 6, 0, 0) ::
  (37, .iload 6, 2, 6, 0, 0) ::
  (39, .iconst (-1), 1, 0, 0, (-1)) ::
  (40, .if_icmp .ne 7, 3, 47, 0, 0) ::
  (43, .sipush (-1000), 3, 0, 0, (-1000)) ::
  (46, .ireturn, 1, 0, 0, 0) ::
  (47, .aload_n 0, 1, 0, 0, 0) ::
  (48, .getfield 10, 3, 0, 0, 0) ::
  (51, .getfield 91, 3, 1, 3, 0) ::
  (54, .iload 6, 2, 6, 0, 0) ::
  (56, .iload 5, 2, 5, 0, 0) ::
  (58, .invokevirtual 110, 3, 28, 8, 1) ::
  (61, .ireturn, 1, 0, 0, 0) ::
  []
/-- 30 BlackSun.isTerm(I)Z -/
def r_30 : List ax_E :=
  (0, .iload_n 0, 1, 0, 0, 0) ::
  (1, .iconst 0, 1, 0, 0, 0) ::
  (2, .iconst 5, 1, 0, 0, 5) ::
  (3, .invokestatic 45, 3, 11, 0, 1) ::
  (6, .ireturn, 1, 1, 0, 0) ::
  []
/-- 31 BlackSun$Stars.give(III)I -/
def r_31_19 : List ax_E :=
  (19, .istore 4, 2, 4, 0, 0) ::
  (21, .iload_n 1, 1, 1, 0, 0) ::
  (22, .tableswitch 151 0 5 #[38, 48, 58, 61, 82, 129], 38, 0, 0, 0) ::
  (60, .iload_n 3, 1, 3, 0, 0) ::
  (61, .ifCond .ne 7, 3, 68, 0, 0) ::
  (64, .iconst 1, 1, 0, 0, 1) ::
  (65, .goto 4, 3, 69, 0, 0) ::
  (68, .iconst 0, 1, 0, 0, 0) ::
  (69, .ireturn, 1, 0, 0, 0) ::
  (70, .iload_n 3, 1, 3, 0, 0) ::
  (71, .ifCond .ne 7, 3, 78, 0, 0) ::
  (74, .iconst 0, 1, 0, 0, 0) ::
  (75, .goto 4, 3, 79, 0, 0) ::
  (78, .iconst 1, 1, 0, 0, 1) ::
  (79, .ireturn, 1, 0, 0, 0) ::
  (80, .iload 4, 2, 4, 0, 0) ::
  (82, .ireturn, 1, 0, 0, 0) ::
  (83, .iload_n 3, 1, 3, 0, 0) ::
  (84, .ifCond .ne 13, 3, 97, 0, 0) ::
  (87, .aload_n 0, 1, 0, 0, 0) ::
  (88, .getfield 15, 3, 2, 2, 0) ::
  (91, .iload_n 2, 1, 2, 0, 0) ::
  (92, .iaload, 1, 0, 0, 0) ::
  (93, .ineg, 1, 0, 0, 0) ::
  (94, .goto 9, 3, 103, 0, 0) ::
  (97, .aload_n 0, 1, 0, 0, 0) ::
  (98, .getfield 9, 3, 2, 1, 0) ::
  (101, .iload_n 2, 1, 2, 0, 0) ::
  (102, .iaload, 1, 0, 0, 0) ::
  (103, .ireturn, 1, 0, 0, 0) ::
  (104, .aload_n 0, 1, 0, 0, 0) ::
  (105, .getfield 9, 3, 2, 1, 0) ::
  (108, .iload_n 2, 1, 2, 0, 0) ::
  (109, .iaload, 1, 0, 0, 0) ::
  (110, .aload_n 0, 1, 0, 0, 0) ::
  (111, .getfield 9, 3, 2, 1, 0) ::
  (114, .iload_n 2, 1, 2, 0, 0) ::
  (115, .iaload, 1, 0, 0, 0) ::
  (116, .imul, 1, 0, 0, 0) ::
  (117, .aload_n 0, 1, 0, 0, 0) ::
  (118, .getfield 15, 3, 2, 2, 0) ::
  (121, .iload_n 2, 1, 2, 0, 0) ::
  (122, .iaload, 1, 0, 0, 0) ::
  (123, .aload_n 0, 1, 0, 0, 0) ::
  (124, .getfield 15, 3, 2, 2, 0) ::
  (127, .iload_n 2, 1, 2, 0, 0) ::
  (128, .iaload, 1, 0, 0, 0) ::
  (129, .imul, 1, 0, 0, 0) ::
  (130, .iadd, 1, 0, 0, 0) ::
  (131, .istore 5, 2, 5, 0, 0) ::
  (133, .iload 5, 2, 5, 0, 0) ::
  (135, .ifCond .ne 7, 3, 142, 0, 0) ::
  (138, .iconst 0, 1, 0, 0, 0) ::
  (139, .goto 11, 3, 150, 0, 0) ::
  (142, .bipush 40, 2, 0, 0, 40) ::
  (144, .iload 4, 2, 4, 0, 0) ::
  (146, .imul, 1, 0, 0, 0) ::
  (147, .iload 5, 2, 5, 0, 0) ::
  (149, .idiv, 1, 0, 0, 0) ::
  (150, .ireturn, 1, 0, 0, 0) ::
  (151, .iload_n 3, 1, 3, 0, 0) ::
  (152, .ifCond .ne 19, 3, 171, 0, 0) ::
  (155, .aload_n 0, 1, 0, 0, 0) ::
  (156, .getfield 9, 3, 2, 1, 0) ::
  (159, .iload_n 2, 1, 2, 0, 0) ::
  (160, .iaload, 1, 0, 0, 0) ::
  (161, .aload_n 0, 1, 0, 0, 0) ::
  (162, .getfield 15, 3, 2, 2, 0) ::
  (165, .iload_n 2, 1, 2, 0, 0) ::
  (166, .iaload, 1, 0, 0, 0) ::
  (167, .imul, 1, 0, 0, 0) ::
  (168, .goto 4, 3, 172, 0, 0) ::
  (171, .iconst 0, 1, 0, 0, 0) ::
  (172, .ireturn, 1, 0, 0, 0) ::
  (173, .iconst 0, 1, 0, 0, 0) ::
  (174, .ireturn, 1, 0, 0, 0) ::
  []
def r_31 : List ax_E :=
  (0, .iload_n 3, 1, 3, 0, 0) ::
  (1, .ifCond .ne 12, 3, 13, 0, 0) ::
  (4, .aload_n 0, 1, 0, 0, 0) ::
  (5, .getfield 9, 3, 2, 1, 0) ::
  (8, .iload_n 2, 1, 2, 0, 0) ::
  (9, .iaload, 1, 0, 0, 0) ::
  (10, .goto 9, 3, 19, 0, 0) ::
  (13, .aload_n 0, 1, 0, 0, 0) ::
  (14, .getfield 15, 3, 2, 2, 0) ::
  (17, .iload_n 2, 1, 2, 0, 0) ::
  (18, .iaload, 1, 0, 0, 0) ::
  (19, .jsr 0, 0, 15, 0, 0) ::
  r_31_19
/-- 32 BlackSun.gives(III)I -/
def r_32 : List ax_E :=
  (0, .iload_n 1, 1, 1, 0, 0) ::
  (1, .invokestatic 114, 3, 30, 0, 1) ::
  (4, .ifCond .eq 24, 3, 28, 0, 0) ::
  (7, .aload_n 0, 1, 0, 0, 0) ::
  (8, .getfield 10, 3, 0, 0, 0) ::
  (11, .getfield 49, 3, 1, 1, 0) ::
  (14, .iload_n 2, 1, 2, 0, 0) ::
  (15, .invokevirtual 59, 3, 14, 4, 1) ::
  (18, .ifCond .eq 10, 3, 28, 0, 0) ::
  (21, .iload_n 3, 1, 3, 0, 0) ::
  (22, .invokestatic 103, 3, 27, 0, 1) ::
  (25, .ifCond .ne 7, 3, 32, 0, 0) ::
  (28, .sipush (-1000), 3, 0, 0, (-1000)) ::
  (31, .ireturn, 1, 0, 0, 0) ::
  (32, .aload_n 0, 1, 0, 0, 0) ::
  (33, .getfield 10, 3, 0, 0, 0) ::
  (36, .getfield 49, 3, 1, 1, 0) ::
  (39, .iload_n 1, 1, 1, 0, 0) ::
  (40, .iload_n 2, 1, 2, 0, 0) ::
  (41, .iload_n 3, 1, 3, 0, 0) ::
  (42, .invokevirtual 117, 3, 31, 4, 1) ::
  (45, .ireturn, 1, 0, 0, 0) ::
  []
/-- 33 BlackSun$Reader.append(I)V -/
def r_33_3 : List ax_E :=
  (3, .iload_n 2, 1, 2, 0, 0) ::
  (4, .ifCond .lt 45, 3, 49, 0, 0) ::
  (7, .aload_n 0, 1, 0, 0, 0) ::
  (8, .getfield 27, 3, 6, 0, 0) ::
  (11, .sipush 400, 3, 0, 0, 400) ::
  (14, .if_icmp .ge 35, 3, 49, 0, 0) ::
  (17, .aload_n 0, 1, 0, 0, 0) ::
  (18, .getfield 9, 3, 6, 2, 0) ::
  (21, .aload_n 0, 1, 0, 0, 0) ::
  (22, .getfield 27, 3, 6, 0, 0) ::
  (25, .iload_n 1, 1, 1, 0, 0) ::
  (26, .iload_n 2, 1, 2, 0, 0) ::
  (27, .ishr, 1, 0, 0, 0) ::
  (28, .sipush 255, 3, 0, 0, 255) ::
  (31, .iand, 1, 0, 0, 0) ::
  (32, .iastore, 1, 0, 0, 0) ::
  (33, .aload_n 0, 1, 0, 0, 0) ::
  (34, .dup, 1, 0, 0, 0) ::
  (35, .getfield 27, 3, 6, 0, 0) ::
  (38, .iconst 1, 1, 0, 0, 1) ::
  (39, .iadd, 1, 0, 0, 0) ::
  (40, .putfield 27, 3, 6, 0, 0) ::
  (43, .iinc 2 (-8), 3, 2, 0, (-8)) ::
  (46, .goto (-43), 3, 3, 0, 0) ::
  (49, .return_, 1, 0, 0, 0) ::
  []
def r_33 : List ax_E :=
  (0, .bipush 24, 2, 0, 0, 24) ::
  (2, .istore_n 2, 1, 2, 0, 0) ::
  (3, .jsr 0, 0, 7, 0, 0) ::
  r_33_3
/-- 34 BlackSun.feed(IIIII)I -/
def r_34 : List ax_E :=
  (0, .aload_n 0, 1, 0, 0, 0) ::
  (1, .getfield 23, 3, 0, 2, 0) ::
  (4, .getfield 120, 3, 6, 0, 0) ::
  (7, .bipush 20, 2, 0, 0, 20) ::
  (9, .iadd, 1, 0, 0, 0) ::
  (10, .sipush 400, 3, 0, 0, 400) ::
  (13, .if_icmp .le 5, 3, 18, 0, 0) ::
  (16, .iconst (-1), 1, 0, 0, (-1)) ::
  (17, .ireturn, 1, 0, 0, 0) ::
  (18, .aload_n 0, 1, 0, 0, 0) ::
  (19, .getfield 23, 3, 0, 2, 0) ::
  (22, .iload_n 1, 1, 1, 0, 0) ::
  (23, .invokevirtual 123, 3, 33, 12, 0) ::
  (26, .aload_n 0, 1, 0, 0, 0) ::
  (27, .getfield 23, 3, 0, 2, 0) ::
  (30, .iload_n 2, 1, 2, 0, 0) ::
  (31, .invokevirtual 123, 3, 33, 12, 0) ::
  (34, .aload_n 0, 1, 0, 0, 0) ::
  (35, .getfield 23, 3, 0, 2, 0) ::
  (38, .iload_n 3, 1, 3, 0, 0) ::
  (39, .invokevirtual 123, 3, 33, 12, 0) ::
  (42, .aload_n 0, 1, 0, 0, 0) ::
  (43, .getfield 23, 3, 0, 2, 0) ::
  (46, .iload 4, 2, 4, 0, 0) ::
  (48, .invokevirtual 123, 3, 33, 12, 0) ::
  (51, .aload_n 0, 1, 0, 0, 0) ::
  (52, .getfield 23, 3, 0, 2, 0) ::
  (55, .iload 5, 2, 5, 0, 0) ::
  (57, .invokevirtual 123, 3, 33, 12, 0) ::
  (60, .aload_n 0, 1, 0, 0, 0) ::
  (61, .getfield 23, 3, 0, 2, 0) ::
  (64, .getfield 120, 3, 6, 0, 0) ::
  (67, .ireturn, 1, 0, 0, 0) ::
  []
/-- 35 BlackSun.end(I)I -/
def r_35 : List ax_E :=
  (0, .iload_n 1, 1, 1, 0, 0) ::
  (1, .iconst 0, 1, 0, 0, 0) ::
  (2, .aload_n 0, 1, 0, 0, 0) ::
  (3, .getfield 23, 3, 0, 2, 0) ::
  (6, .getfield 120, 3, 6, 0, 0) ::
  (9, .invokestatic 45, 3, 11, 0, 1) ::
  (12, .ifCond .ne 5, 3, 17, 0, 0) ::
  (15, .iconst (-1), 1, 0, 0, (-1)) ::
  (16, .ireturn, 1, 0, 0, 0) ::
  (17, .aload_n 0, 1, 0, 0, 0) ::
  (18, .getfield 23, 3, 0, 2, 0) ::
  (21, .iload_n 1, 1, 1, 0, 0) ::
  (22, .putfield 120, 3, 6, 0, 0) ::
  (25, .iload_n 1, 1, 1, 0, 0) ::
  (26, .ireturn, 1, 0, 0, 0) ::
  []
/-- 36 BlackSun$Reader.forget()V -/
def r_36_32 : List ax_E :=
  (32, .iload_n 1, 1, 1, 0, 0) ::
  (33, .bipush 6, 2, 0, 0, 6) ::
  (35, .if_icmp .ge 23, 3, 58, 0, 0) ::
  (38, .aload_n 0, 1, 0, 0, 0) ::
  (39, .getfield 21, 3, 6, 13, 0) ::
  (42, .iload_n 1, 1, 1, 0, 0) ::
  (43, .iconst 0, 1, 0, 0, 0) ::
  (44, .iastore, 1, 0, 0, 0) ::
  (45, .aload_n 0, 1, 0, 0, 0) ::
  (46, .getfield 24, 3, 6, 14, 0) ::
  (49, .iload_n 1, 1, 1, 0, 0) ::
  (50, .iconst 0, 1, 0, 0, 0) ::
  (51, .iastore, 1, 0, 0, 0) ::
  (52, .iinc 1 1, 3, 1, 0, 1) ::
  (55, .goto (-23), 3, 32, 0, 0) ::
  (58, .return_, 1, 0, 0, 0) ::
  []
def r_36 : List ax_E :=
  (0, .aload_n 0, 1, 0, 0, 0) ::
  (1, .iconst 0, 1, 0, 0, 0) ::
  (2, .putfield 66, 3, 6, 1, 0) ::
  (5, .aload_n 0, 1, 0, 0, 0) ::
  (6, .iconst 0, 1, 0, 0, 0) ::
  (7, .putfield 59, 3, 6, 3, 0) ::
  (10, .aload_n 0, 1, 0, 0, 0) ::
  (11, .iconst 0, 1, 0, 0, 0) ::
  (12, .putfield 69, 3, 6, 4, 0) ::
  (15, .aload_n 0, 1, 0, 0, 0) ::
  (16, .iconst 0, 1, 0, 0, 0) ::
  (17, .putfield 72, 3, 6, 5, 0) ::
  (20, .aload_n 0, 1, 0, 0, 0) ::
  (21, .iconst (-1), 1, 0, 0, (-1)) ::
  (22, .putfield 49, 3, 6, 6, 0) ::
  (25, .aload_n 0, 1, 0, 0, 0) ::
  (26, .iconst 0, 1, 0, 0, 0) ::
  (27, .putfield 75, 3, 6, 11, 0) ::
  (30, .iconst 0, 1, 0, 0, 0) ::
  (31, .istore_n 1, 1, 1, 0, 0) ::
  (32, .jsr 0, 0, 3, 0, 0) ::
  r_36_32
/-- 37 BlackSun$Reader.next()I -/
def r_37_0 : List ax_E :=
  (0, .aload_n 0, 1, 0, 0, 0) ::
  (1, .getfield 59, 3, 6, 3, 0) ::
  (4, .aload_n 0, 1, 0, 0, 0) ::
  (5, .getfield 27, 3, 6, 0, 0) ::
  (8, .if_icmp .ge 30, 3, 38, 0, 0) ::
  (11, .aload_n 0, 1, 0, 0, 0) ::
  (12, .getfield 9, 3, 6, 2, 0) ::
  (15, .aload_n 0, 1, 0, 0, 0) ::
  (16, .getfield 59, 3, 6, 3, 0) ::
  (19, .iaload, 1, 0, 0, 0) ::
  (20, .bipush 32, 2, 0, 0, 32) ::
  (22, .if_icmp .ne 16, 3, 38, 0, 0) ::
  (25, .aload_n 0, 1, 0, 0, 0) ::
  (26, .dup, 1, 0, 0, 0) ::
  (27, .getfield 59, 3, 6, 3, 0) ::
  (30, .iconst 1, 1, 0, 0, 1) ::
  (31, .iadd, 1, 0, 0, 0) ::
  (32, .putfield 59, 3, 6, 3, 0) ::
  (35, .goto (-35), 3, 0, 0, 0) ::
  (38, .aload_n 0, 1, 0, 0, 0) ::
  (39, .getfield 59, 3, 6, 3, 0) ::
  (42, .aload_n 0, 1, 0, 0, 0) ::
  (43, .getfield 27, 3, 6, 0, 0) ::
  (46, .if_icmp .ge 15, 3, 61, 0, 0) ::
  (49, .aload_n 0, 1, 0, 0, 0) ::
  (50, .getfield 9, 3, 6, 2, 0) ::
  (53, .aload_n 0, 1, 0, 0, 0) ::
  (54, .getfield 59, 3, 6, 3, 0) ::
  (57, .iaload, 1, 0, 0, 0) ::
  (58, .goto 4, 3, 62, 0, 0) ::
  (61, .iconst (-1), 1, 0, 0, (-1)) ::
  (62, .ireturn, 1, 0, 0, 0) ::
  []
def r_37 : List ax_E :=
  (0, .jsr 0, 0, 1, 0, 0) ::
  r_37_0
/-- 38 BlackSun$Reader.takeWord(Ljava/lang/String;)I -/
def r_38_109 : List ax_E :=
  (109, .istore 7, 2, 7, 0, 0) ::
  (111, .iload 4, 2, 4, 0, 0) ::
  (113, .ifCond .eq 15, 3, 128, 0, 0) ::
  (116, .iload 7, 2, 7, 0, 0) ::
  (118, .ifCond .ne 10, 3, 128, 0, 0) ::
  (121, .aload_n 0, 1, 0, 0, 0) ::
  (122, .iload_n 3, 1, 3, 0, 0) ::
  (123, .putfield 59, 3, 6, 3, 0) ::
  (126, .iload_n 2, 1, 2, 0, 0) ::
  (127, .ireturn, 1, 0, 0, 0) ::
  (128, .iinc 2 1, 3, 2, 0, 1) ::
  (131, .aload_n 0, 1, 0, 0, 0) ::
  (132, .getfield 59, 3, 6, 3, 0) ::
  (135, .istore_n 3, 1, 3, 0, 0) ::
  (136, .iconst 1, 1, 0, 0, 1) ::
  (137, .istore 4, 2, 4, 0, 0) ::
  (139, .iinc 5 1, 3, 5, 0, 1) ::
  (142, .goto (-129), 3, 13, 0, 0) ::
  (145, .iconst (-1), 1, 0, 0, (-1)) ::
  (146, .ireturn, 1, 0, 0, 0) ::
  []
def r_38_13 : List ax_E :=
  (13, .iload 5, 2, 5, 0, 0) ::
  (15, .aload_n 1, 1, 1, 0, 0) ::
  (16, .invokevirtual 164, 3, 0, 90, 1) ::
  (19, .if_icmp .ge 126, 3, 145, 0, 0) ::
  (22, .aload_n 1, 1, 1, 0, 0) ::
  (23, .iload 5, 2, 5, 0, 0) ::
  (25, .invokevirtual 168, 3, 1, 90, 1) ::
  (28, .istore 6, 2, 6, 0, 0) ::
  (30, .iload 6, 2, 6, 0, 0) ::
  (32, .bipush 32, 2, 0, 0, 32) ::
  (34, .if_icmp .eq 40, 3, 74, 0, 0) ::
  (37, .iload 4, 2, 4, 0, 0) ::
  (39, .ifCond .eq 26, 3, 65, 0, 0) ::
  (42, .iload_n 3, 1, 3, 0, 0) ::
  (43, .aload_n 0, 1, 0, 0, 0) ::
  (44, .getfield 27, 3, 6, 0, 0) ::
  (47, .if_icmp .ge 18, 3, 65, 0, 0) ::
  (50, .aload_n 0, 1, 0, 0, 0) ::
  (51, .getfield 9, 3, 6, 2, 0) ::
  (54, .iload_n 3, 1, 3, 0, 0) ::
  (55, .iaload, 1, 0, 0, 0) ::
  (56, .iload 6, 2, 6, 0, 0) ::
  (58, .if_icmp .ne 7, 3, 65, 0, 0) ::
  (61, .iconst 1, 1, 0, 0, 1) ::
  (62, .goto 4, 3, 66, 0, 0) ::
  (65, .iconst 0, 1, 0, 0, 0) ::
  (66, .istore 4, 2, 4, 0, 0) ::
  (68, .iinc 3 1, 3, 3, 0, 1) ::
  (71, .goto 68, 3, 139, 0, 0) ::
  (74, .iload_n 3, 1, 3, 0, 0) ::
  (75, .aload_n 0, 1, 0, 0, 0) ::
  (76, .getfield 27, 3, 6, 0, 0) ::
  (79, .if_icmp .ge 29, 3, 108, 0, 0) ::
  (82, .aload_n 0, 1, 0, 0, 0) ::
  (83, .getfield 9, 3, 6, 2, 0) ::
  (86, .iload_n 3, 1, 3, 0, 0) ::
  (87, .iaload, 1, 0, 0, 0) ::
  (88, .bipush 97, 2, 0, 0, 97) ::
  (90, .if_icmp .lt 18, 3, 108, 0, 0) ::
  (93, .aload_n 0, 1, 0, 0, 0) ::
  (94, .getfield 9, 3, 6, 2, 0) ::
  (97, .iload_n 3, 1, 3, 0, 0) ::
  (98, .iaload, 1, 0, 0, 0) ::
  (99, .bipush 122, 2, 0, 0, 122) ::
  (101, .if_icmp .gt 7, 3, 108, 0, 0) ::
  (104, .iconst 1, 1, 0, 0, 1) ::
  (105, .goto 4, 3, 109, 0, 0) ::
  (108, .iconst 0, 1, 0, 0, 0) ::
  (109, .jsr 0, 0, 63, 0, 0) ::
  r_38_109
def r_38 : List ax_E :=
  (0, .iconst 0, 1, 0, 0, 0) ::
  (1, .istore_n 2, 1, 2, 0, 0) ::
  (2, .aload_n 0, 1, 0, 0, 0) ::
  (3, .getfield 59, 3, 6, 3, 0) ::
  (6, .istore_n 3, 1, 3, 0, 0) ::
  (7, .iconst 1, 1, 0, 0, 1) ::
  (8, .istore 4, 2, 4, 0, 0) ::
  (10, .iconst 0, 1, 0, 0, 0) ::
  (11, .istore 5, 2, 5, 0, 0) ::
  (13, .jsr 0, 0, 63, 0, 0) ::
  r_38_13
/-- 39 BlackSun$Reader.fail(II)Z -/
def r_39 : List ax_E :=
  (0, .aload_n 0, 1, 0, 0, 0) ::
  (1, .iconst 1, 1, 0, 0, 1) ::
  (2, .bipush 8, 2, 0, 0, 8) ::
  (4, .iload_n 1, 1, 1, 0, 0) ::
  (5, .imul, 1, 0, 0, 0) ::
  (6, .iadd, 1, 0, 0, 0) ::
  (7, .iload_n 2, 1, 2, 0, 0) ::
  (8, .iadd, 1, 0, 0, 0) ::
  (9, .putfield 66, 3, 6, 1, 0) ::
  (12, .iconst 0, 1, 0, 0, 0) ::
  (13, .ireturn, 1, 1, 0, 0) ::
  []
/-- 40 BlackSun$Reader.isDigit(I)Z -/
def r_40 : List ax_E :=
  (0, .iload_n 0, 1, 0, 0, 0) ::
  (1, .bipush 48, 2, 0, 0, 48) ::
  (3, .if_icmp .lt 13, 3, 16, 0, 0) ::
  (6, .iload_n 0, 1, 0, 0, 0) ::
  (7, .bipush 57, 2, 0, 0, 57) ::
  (9, .if_icmp .gt 7, 3, 16, 0, 0) ::
  (12, .iconst 1, 1, 0, 0, 1) ::
  (13, .goto 4, 3, 17, 0, 0) ::
  (16, .iconst 0, 1, 0, 0, 0) ::
  (17, .ireturn, 1, 1, 0, 0) ::
  []
/-- 41 BlackSun$Reader.readNumber(I)I -/
def r_41_77 : List ax_E :=
  (77, .iload_n 3, 1, 3, 0, 0) ::
  (78, .ifCond .ne 12, 3, 90, 0, 0) ::
  (81, .aload_n 0, 1, 0, 0, 0) ::
  (82, .iload_n 2, 1, 2, 0, 0) ::
  (83, .iconst 0, 1, 0, 0, 0) ::
  (84, .invokevirtual 62, 3, 39, 12, 1) ::
  (87, .pop, 1, 0, 0, 0) ::
  (88, .iconst (-1), 1, 0, 0, (-1)) ::
  (89, .ireturn, 1, 0, 0, 0) ::
  (90, .iload_n 3, 1, 3, 0, 0) ::
  (91, .iconst 5, 1, 0, 0, 5) ::
  (92, .if_icmp .gt 9, 3, 101, 0, 0) ::
  (95, .iload 4, 2, 4, 0, 0) ::
  (97, .iload_n 1, 1, 1, 0, 0) ::
  (98, .if_icmp .le 12, 3, 110, 0, 0) ::
  (101, .aload_n 0, 1, 0, 0, 0) ::
  (102, .iload_n 2, 1, 2, 0, 0) ::
  (103, .iconst 1, 1, 0, 0, 1) ::
  (104, .invokevirtual 62, 3, 39, 12, 1) ::
  (107, .pop, 1, 0, 0, 0) ::
  (108, .iconst (-1), 1, 0, 0, (-1)) ::
  (109, .ireturn, 1, 0, 0, 0) ::
  (110, .iload 4, 2, 4, 0, 0) ::
  (112, .ireturn, 1, 0, 0, 0) ::
  []
def r_41_10 : List ax_E :=
  (10, .aload_n 0, 1, 0, 0, 0) ::
  (11, .getfield 59, 3, 6, 3, 0) ::
  (14, .aload_n 0, 1, 0, 0, 0) ::
  (15, .getfield 27, 3, 6, 0, 0) ::
  (18, .if_icmp .ge 59, 3, 77, 0, 0) ::
  (21, .aload_n 0, 1, 0, 0, 0) ::
  (22, .getfield 9, 3, 6, 2, 0) ::
  (25, .aload_n 0, 1, 0, 0, 0) ::
  (26, .getfield 59, 3, 6, 3, 0) ::
  (29, .iaload, 1, 0, 0, 0) ::
  (30, .invokestatic 159, 3, 40, 0, 1) ::
  (33, .ifCond .eq 44, 3, 77, 0, 0) ::
  (36, .iload_n 3, 1, 3, 0, 0) ::
  (37, .iconst 5, 1, 0, 0, 5) ::
  (38, .if_icmp .ge 23, 3, 61, 0, 0) ::
  (41, .iload 4, 2, 4, 0, 0) ::
  (43, .bipush 10, 2, 0, 0, 10) ::
  (45, .imul, 1, 0, 0, 0) ::
  (46, .aload_n 0, 1, 0, 0, 0) ::
  (47, .getfield 9, 3, 6, 2, 0) ::
  (50, .aload_n 0, 1, 0, 0, 0) ::
  (51, .getfield 59, 3, 6, 3, 0) ::
  (54, .iaload, 1, 0, 0, 0) ::
  (55, .iadd, 1, 0, 0, 0) ::
  (56, .bipush 48, 2, 0, 0, 48) ::
  (58, .isub, 1, 0, 0, 0) ::
  (59, .istore 4, 2, 4, 0, 0) ::
  (61, .iinc 3 1, 3, 3, 0, 1) ::
  (64, .aload_n 0, 1, 0, 0, 0) ::
  (65, .dup, 1, 0, 0, 0) ::
  (66, .getfield 59, 3, 6, 3, 0) ::
  (69, .iconst 1, 1, 0, 0, 1) ::
  (70, .iadd, 1, 0, 0, 0) ::
  (71, .putfield 59, 3, 6, 3, 0) ::
  (74, .goto (-64), 3, 10, 0, 0) ::
  (77, .jsr 0, 0, 31, 0, 0) ::
  r_41_77
def r_41 : List ax_E :=
  (0, .aload_n 0, 1, 0, 0, 0) ::
  (1, .getfield 59, 3, 6, 3, 0) ::
  (4, .istore_n 2, 1, 2, 0, 0) ::
  (5, .iconst 0, 1, 0, 0, 0) ::
  (6, .istore_n 3, 1, 3, 0, 0) ::
  (7, .iconst 0, 1, 0, 0, 0) ::
  (8, .istore 4, 2, 4, 0, 0) ::
  (10, .jsr 0, 0, 31, 0, 0) ::
  r_41_10
/-- 42 BlackSun$Reader.readHeld(I)Z -/
def r_42_29 : List ax_E :=
  (29, .aload_n 0, 1, 0, 0, 0) ::
  (30, .ldc 105, 2, 0, 0, 99999) ::
  (32, .invokevirtual 106, 3, 41, 12, 1) ::
  (35, .istore_n 3, 1, 3, 0, 0) ::
  (36, .iload_n 3, 1, 3, 0, 0) ::
  (37, .iconst (-1), 1, 0, 0, (-1)) ::
  (38, .if_icmp .ne 5, 3, 43, 0, 0) ::
  (41, .iconst 0, 1, 0, 0, 0) ::
  (42, .ireturn, 1, 1, 0, 0) ::
  (43, .aload_n 0, 1, 0, 0, 0) ::
  (44, .getfield 24, 3, 6, 14, 0) ::
  (47, .iload_n 1, 1, 1, 0, 0) ::
  (48, .iload_n 2, 1, 2, 0, 0) ::
  (49, .ifCond .eq 8, 3, 57, 0, 0) ::
  (52, .iload_n 3, 1, 3, 0, 0) ::
  (53, .ineg, 1, 0, 0, 0) ::
  (54, .goto 4, 3, 58, 0, 0) ::
  (57, .iload_n 3, 1, 3, 0, 0) ::
  (58, .iastore, 1, 0, 0, 0) ::
  (59, .iconst 1, 1, 0, 0, 1) ::
  (60, .ireturn, 1, 1, 0, 0) ::
  []
def r_42 : List ax_E :=
  (0, .aload_n 0, 1, 0, 0, 0) ::
  (1, .invokevirtual 38, 3, 37, 12, 1) ::
  (4, .bipush 45, 2, 0, 0, 45) ::
  (6, .if_icmp .ne 7, 3, 13, 0, 0) ::
  (9, .iconst 1, 1, 0, 0, 1) ::
  (10, .goto 4, 3, 14, 0, 0) ::
  (13, .iconst 0, 1, 0, 0, 0) ::
  (14, .istore_n 2, 1, 2, 0, 0) ::
  (15, .iload_n 2, 1, 2, 0, 0) ::
  (16, .ifCond .eq 13, 3, 29, 0, 0) ::
  (19, .aload_n 0, 1, 0, 0, 0) ::
  (20, .dup, 1, 0, 0, 0) ::
  (21, .getfield 59, 3, 6, 3, 0) ::
  (24, .iconst 1, 1, 0, 0, 1) ::
  (25, .iadd, 1, 0, 0, 0) ::
  (26, .putfield 59, 3, 6, 3, 0) ::
  (29, .jsr 0, 0, 7, 0, 0) ::
  r_42_29
/-- 43 BlackSun$Reader.readTerm(I)Z -/
def r_43_80 : List ax_E :=
  (80, .iload_n 1, 1, 1, 0, 0) ::
  (81, .iconst 2, 1, 0, 0, 2) ::
  (82, .if_icmp .ne 11, 3, 93, 0, 0) ::
  (85, .aload_n 0, 1, 0, 0, 0) ::
  (86, .iload_n 3, 1, 3, 0, 0) ::
  (87, .invokevirtual 102, 3, 42, 12, 1) ::
  (90, .ifCond .eq 7, 3, 97, 0, 0) ::
  (93, .iconst 1, 1, 0, 0, 1) ::
  (94, .goto 4, 3, 98, 0, 0) ::
  (97, .iconst 0, 1, 0, 0, 0) ::
  (98, .ireturn, 1, 1, 0, 0) ::
  []
def r_43_58 : List ax_E :=
  (58, .aload_n 0, 1, 0, 0, 0) ::
  (59, .getfield 21, 3, 6, 13, 0) ::
  (62, .iload_n 3, 1, 3, 0, 0) ::
  (63, .iload_n 1, 1, 1, 0, 0) ::
  (64, .iastore, 1, 0, 0, 0) ::
  (65, .iload_n 1, 1, 1, 0, 0) ::
  (66, .iconst 1, 1, 0, 0, 1) ::
  (67, .if_icmp .ne 13, 3, 80, 0, 0) ::
  (70, .aload_n 0, 1, 0, 0, 0) ::
  (71, .dup, 1, 0, 0, 0) ::
  (72, .getfield 72, 3, 6, 5, 0) ::
  (75, .iconst 1, 1, 0, 0, 1) ::
  (76, .iadd, 1, 0, 0, 0) ::
  (77, .putfield 72, 3, 6, 5, 0) ::
  (80, .jsr 0, 0, 11, 0, 0) ::
  r_43_80
def r_43 : List ax_E :=
  (0, .aload_n 0, 1, 0, 0, 0) ::
  (1, .invokevirtual 38, 3, 37, 12, 1) ::
  (4, .pop, 1, 0, 0, 0) ::
  (5, .aload_n 0, 1, 0, 0, 0) ::
  (6, .getfield 59, 3, 6, 3, 0) ::
  (9, .istore_n 2, 1, 2, 0, 0) ::
  (10, .aload_n 0, 1, 0, 0, 0) ::
  (11, .ldc 100, 2, 2, 1, 0) ::
  (13, .invokevirtual 86, 3, 38, 12, 1) ::
  (16, .istore_n 3, 1, 3, 0, 0) ::
  (17, .iload_n 3, 1, 3, 0, 0) ::
  (18, .iconst (-1), 1, 0, 0, (-1)) ::
  (19, .if_icmp .ne 10, 3, 29, 0, 0) ::
  (22, .aload_n 0, 1, 0, 0, 0) ::
  (23, .iload_n 2, 1, 2, 0, 0) ::
  (24, .iconst 0, 1, 0, 0, 0) ::
  (25, .invokevirtual 62, 3, 39, 12, 1) ::
  (28, .ireturn, 1, 1, 0, 0) ::
  (29, .aload_n 0, 1, 0, 0, 0) ::
  (30, .getfield 21, 3, 6, 13, 0) ::
  (33, .iload_n 3, 1, 3, 0, 0) ::
  (34, .iaload, 1, 0, 0, 0) ::
  (35, .ifCond .ne 16, 3, 51, 0, 0) ::
  (38, .iload_n 1, 1, 1, 0, 0) ::
  (39, .iconst 1, 1, 0, 0, 1) ::
  (40, .if_icmp .ne 18, 3, 58, 0, 0) ::
  (43, .aload_n 0, 1, 0, 0, 0) ::
  (44, .getfield 72, 3, 6, 5, 0) ::
  (47, .iconst 3, 1, 0, 0, 3) ::
  (48, .if_icmp .ne 10, 3, 58, 0, 0) ::
  (51, .aload_n 0, 1, 0, 0, 0) ::
  (52, .iload_n 2, 1, 2, 0, 0) ::
  (53, .iconst 5, 1, 0, 0, 5) ::
  (54, .invokevirtual 62, 3, 39, 12, 1) ::
  (57, .ireturn, 1, 1, 0, 0) ::
  (58, .jsr 0, 0, 11, 0, 0) ::
  r_43_58
/-- 44 BlackSun$Reader.await(I)V -/
def r_44 : List ax_E :=
  (0, .aload_n 0, 1, 0, 0, 0) ::
  (1, .getfield 112, 3, 6, 9, 0) ::
  (4, .bipush 64, 2, 0, 0, 64) ::
  (6, .if_icmp .ge 23, 3, 29, 0, 0) ::
  (9, .aload_n 0, 1, 0, 0, 0) ::
  (10, .getfield 15, 3, 6, 10, 0) ::
  (13, .aload_n 0, 1, 0, 0, 0) ::
  (14, .getfield 112, 3, 6, 9, 0) ::
  (17, .iload_n 1, 1, 1, 0, 0) ::
  (18, .iastore, 1, 0, 0, 0) ::
  (19, .aload_n 0, 1, 0, 0, 0) ::
  (20, .dup, 1, 0, 0, 0) ::
  (21, .getfield 112, 3, 6, 9, 0) ::
  (24, .iconst 1, 1, 0, 0, 1) ::
  (25, .iadd, 1, 0, 0, 0) ::
  (26, .putfield 112, 3, 6, 9, 0) ::
  (29, .return_, 1, 0, 0, 0) ::
  []
/-- 45 BlackSun$Reader.openDeeper(II)Z -/
def r_45 : List ax_E :=
  (0, .aload_n 0, 1, 0, 0, 0) ::
  (1, .getfield 115, 3, 6, 8, 0) ::
  (4, .bipush 10, 2, 0, 0, 10) ::
  (6, .if_icmp .lt 10, 3, 16, 0, 0) ::
  (9, .aload_n 0, 1, 0, 0, 0) ::
  (10, .iload_n 1, 1, 1, 0, 0) ::
  (11, .iconst 2, 1, 0, 0, 2) ::
  (12, .invokevirtual 62, 3, 39, 12, 1) ::
  (15, .ireturn, 1, 1, 0, 0) ::
  (16, .aload_n 0, 1, 0, 0, 0) ::
  (17, .dup, 1, 0, 0, 0) ::
  (18, .getfield 115, 3, 6, 8, 0) ::
  (21, .iconst 1, 1, 0, 0, 1) ::
  (22, .iadd, 1, 0, 0, 0) ::
  (23, .putfield 115, 3, 6, 8, 0) ::
  (26, .aload_n 0, 1, 0, 0, 0) ::
  (27, .iload_n 2, 1, 2, 0, 0) ::
  (28, .invokevirtual 139, 3, 44, 12, 0) ::
  (31, .iconst 1, 1, 0, 0, 1) ::
  (32, .ireturn, 1, 1, 0, 0) ::
  []
/-- 46 BlackSun$Reader.step(II)V -/
def r_46 : List ax_E :=
  (0, .aload_n 0, 1, 0, 0, 0) ::
  (1, .getfield 75, 3, 6, 11, 0) ::
  (4, .sipush 400, 3, 0, 0, 400) ::
  (7, .if_icmp .ge 27, 3, 34, 0, 0) ::
  (10, .aload_n 0, 1, 0, 0, 0) ::
  (11, .getfield 18, 3, 6, 12, 0) ::
  (14, .aload_n 0, 1, 0, 0, 0) ::
  (15, .getfield 75, 3, 6, 11, 0) ::
  (18, .iload_n 1, 1, 1, 0, 0) ::
  (19, .iload_n 2, 1, 2, 0, 0) ::
  (20, .iconst 4, 1, 0, 0, 4) ::
  (21, .ishl, 1, 0, 0, 0) ::
  (22, .ior, 1, 0, 0, 0) ::
  (23, .iastore, 1, 0, 0, 0) ::
  (24, .aload_n 0, 1, 0, 0, 0) ::
  (25, .dup, 1, 0, 0, 0) ::
  (26, .getfield 75, 3, 6, 11, 0) ::
  (29, .iconst 1, 1, 0, 0, 1) ::
  (30, .iadd, 1, 0, 0, 0) ::
  (31, .putfield 75, 3, 6, 11, 0) ::
  (34, .return_, 1, 0, 0, 0) ::
  []
/-- 47 BlackSun$Reader.countOneMore(I)Z -/
def r_47 : List ax_E :=
  (0, .aload_n 0, 1, 0, 0, 0) ::
  (1, .dup, 1, 0, 0, 0) ::
  (2, .getfield 69, 3, 6, 4, 0) ::
  (5, .iconst 1, 1, 0, 0, 1) ::
  (6, .iadd, 1, 0, 0, 0) ::
  (7, .putfield 69, 3, 6, 4, 0) ::
  (10, .aload_n 0, 1, 0, 0, 0) ::
  (11, .getfield 69, 3, 6, 4, 0) ::
  (14, .bipush 60, 2, 0, 0, 60) ::
  (16, .if_icmp .le 12, 3, 28, 0, 0) ::
  (19, .aload_n 0, 1, 0, 0, 0) ::
  (20, .iload_n 1, 1, 1, 0, 0) ::
  (21, .iconst 3, 1, 0, 0, 3) ::
  (22, .invokevirtual 62, 3, 39, 12, 1) ::
  (25, .ifCond .eq 7, 3, 32, 0, 0) ::
  (28, .iconst 1, 1, 0, 0, 1) ::
  (29, .goto 4, 3, 33, 0, 0) ::
  (32, .iconst 0, 1, 0, 0, 0) ::
  (33, .ireturn, 1, 1, 0, 0) ::
  []
/-- 48 BlackSun$Reader.readValue()Z -/
def r_48_32 : List ax_E :=
  (32, .istore_n 3, 1, 3, 0, 0) ::
  (33, .iload_n 3, 1, 3, 0, 0) ::
  (34, .iconst (-1), 1, 0, 0, (-1)) ::
  (35, .if_icmp .ne 18, 3, 53, 0, 0) ::
  (38, .iload_n 1, 1, 1, 0, 0) ::
  (39, .ifCond .eq 7, 3, 46, 0, 0) ::
  (42, .iconst 0, 1, 0, 0, 0) ::
  (43, .goto 9, 3, 52, 0, 0) ::
  (46, .aload_n 0, 1, 0, 0, 0) ::
  (47, .iload_n 2, 1, 2, 0, 0) ::
  (48, .iconst 0, 1, 0, 0, 0) ::
  (49, .invokevirtual 62, 3, 39, 12, 1) ::
  (52, .ireturn, 1, 1, 0, 0) ::
  (53, .aload_n 0, 1, 0, 0, 0) ::
  (54, .iload_n 1, 1, 1, 0, 0) ::
  (55, .ifCond .eq 7, 3, 62, 0, 0) ::
  (58, .iconst 0, 1, 0, 0, 0) ::
  (59, .goto 4, 3, 63, 0, 0) ::
  (62, .iconst 1, 1, 0, 0, 1) ::
  (63, .iload_n 3, 1, 3, 0, 0) ::
  (64, .invokevirtual 127, 3, 46, 12, 0) ::
  (67, .aload_n 0, 1, 0, 0, 0) ::
  (68, .iload_n 2, 1, 2, 0, 0) ::
  (69, .invokevirtual 156, 3, 47, 12, 1) ::
  (72, .ireturn, 1, 1, 0, 0) ::
  []
def r_48 : List ax_E :=
  (0, .aload_n 0, 1, 0, 0, 0) ::
  (1, .invokevirtual 38, 3, 37, 12, 1) ::
  (4, .invokestatic 159, 3, 40, 0, 1) ::
  (7, .istore_n 1, 1, 1, 0, 0) ::
  (8, .aload_n 0, 1, 0, 0, 0) ::
  (9, .getfield 59, 3, 6, 3, 0) ::
  (12, .istore_n 2, 1, 2, 0, 0) ::
  (13, .iload_n 1, 1, 1, 0, 0) ::
  (14, .ifCond .eq 12, 3, 26, 0, 0) ::
  (17, .aload_n 0, 1, 0, 0, 0) ::
  (18, .ldc 105, 2, 0, 0, 99999) ::
  (20, .invokevirtual 106, 3, 41, 12, 1) ::
  (23, .goto 9, 3, 32, 0, 0) ::
  (26, .aload_n 0, 1, 0, 0, 0) ::
  (27, .ldc 162, 2, 5, 1, 0) ::
  (29, .invokevirtual 86, 3, 38, 12, 1) ::
  (32, .jsr 0, 0, 7, 0, 0) ::
  r_48_32
/-- 49 BlackSun$Reader.readOperand()Z -/
def r_49_74 : List ax_E :=
  (74, .aload_n 0, 1, 0, 0, 0) ::
  (75, .aload_n 0, 1, 0, 0, 0) ::
  (76, .getfield 118, 3, 6, 7, 0) ::
  (79, .iconst 3, 1, 0, 0, 3) ::
  (80, .if_icmp .ne 7, 3, 87, 0, 0) ::
  (83, .iconst 4, 1, 0, 0, 4) ::
  (84, .goto 4, 3, 88, 0, 0) ::
  (87, .iconst 2, 1, 0, 0, 2) ::
  (88, .putfield 118, 3, 6, 7, 0) ::
  (91, .aload_n 0, 1, 0, 0, 0) ::
  (92, .invokevirtual 136, 3, 48, 12, 1) ::
  (95, .ireturn, 1, 1, 0, 0) ::
  []
def r_49_49 : List ax_E :=
  (49, .aload_n 0, 1, 0, 0, 0) ::
  (50, .getfield 118, 3, 6, 7, 0) ::
  (53, .ifCond .ne 21, 3, 74, 0, 0) ::
  (56, .aload_n 0, 1, 0, 0, 0) ::
  (57, .ldc 134, 2, 4, 1, 0) ::
  (59, .invokevirtual 86, 3, 38, 12, 1) ::
  (62, .iconst (-1), 1, 0, 0, (-1)) ::
  (63, .if_icmp .eq 11, 3, 74, 0, 0) ::
  (66, .aload_n 0, 1, 0, 0, 0) ::
  (67, .iload_n 2, 1, 2, 0, 0) ::
  (68, .bipush 9, 2, 0, 0, 9) ::
  (70, .invokevirtual 131, 3, 45, 12, 1) ::
  (73, .ireturn, 1, 1, 0, 0) ::
  (74, .jsr 0, 0, 1, 0, 0) ::
  r_49_74
def r_49_14 : List ax_E :=
  (14, .istore_n 1, 1, 1, 0, 0) ::
  (15, .aload_n 0, 1, 0, 0, 0) ::
  (16, .getfield 59, 3, 6, 3, 0) ::
  (19, .istore_n 2, 1, 2, 0, 0) ::
  (20, .aload_n 0, 1, 0, 0, 0) ::
  (21, .getfield 118, 3, 6, 7, 0) ::
  (24, .ifCond .ne 25, 3, 49, 0, 0) ::
  (27, .iload_n 1, 1, 1, 0, 0) ::
  (28, .ifCond .eq 21, 3, 49, 0, 0) ::
  (31, .aload_n 0, 1, 0, 0, 0) ::
  (32, .dup, 1, 0, 0, 0) ::
  (33, .getfield 59, 3, 6, 3, 0) ::
  (36, .iconst 1, 1, 0, 0, 1) ::
  (37, .iadd, 1, 0, 0, 0) ::
  (38, .putfield 59, 3, 6, 3, 0) ::
  (41, .aload_n 0, 1, 0, 0, 0) ::
  (42, .iload_n 2, 1, 2, 0, 0) ::
  (43, .bipush 12, 2, 0, 0, 12) ::
  (45, .invokevirtual 131, 3, 45, 12, 1) ::
  (48, .ireturn, 1, 1, 0, 0) ::
  (49, .jsr 0, 0, 5, 0, 0) ::
  r_49_49
def r_49 : List ax_E :=
  (0, .aload_n 0, 1, 0, 0, 0) ::
  (1, .invokevirtual 38, 3, 37, 12, 1) ::
  (4, .bipush 91, 2, 0, 0, 91) ::
  (6, .if_icmp .ne 7, 3, 13, 0, 0) ::
  (9, .iconst 1, 1, 0, 0, 1) ::
  (10, .goto 4, 3, 14, 0, 0) ::
  (13, .iconst 0, 1, 0, 0, 0) ::
  (14, .jsr 0, 0, 1, 0, 0) ::
  r_49_14
/-- 50 BlackSun$Reader.bind(I)V -/
def r_50_7 : List ax_E :=
  (7, .iload_n 2, 1, 2, 0, 0) ::
  (8, .ifCond .lt 56, 3, 64, 0, 0) ::
  (11, .aload_n 0, 1, 0, 0, 0) ::
  (12, .getfield 15, 3, 6, 10, 0) ::
  (15, .iload_n 2, 1, 2, 0, 0) ::
  (16, .iaload, 1, 0, 0, 0) ::
  (17, .iload_n 1, 1, 1, 0, 0) ::
  (18, .if_icmp .gt 46, 3, 64, 0, 0) ::
  (21, .aload_n 0, 1, 0, 0, 0) ::
  (22, .aload_n 0, 1, 0, 0, 0) ::
  (23, .getfield 15, 3, 6, 10, 0) ::
  (26, .iload_n 2, 1, 2, 0, 0) ::
  (27, .iaload, 1, 0, 0, 0) ::
  (28, .iconst 0, 1, 0, 0, 0) ::
  (29, .invokevirtual 127, 3, 46, 12, 0) ::
  (32, .aload_n 0, 1, 0, 0, 0) ::
  (33, .getfield 15, 3, 6, 10, 0) ::
  (36, .iload_n 2, 1, 2, 0, 0) ::
  (37, .iaload, 1, 0, 0, 0) ::
  (38, .bipush 9, 2, 0, 0, 9) ::
  (40, .if_icmp .ne 13, 3, 53, 0, 0) ::
  (43, .aload_n 0, 1, 0, 0, 0) ::
  (44, .dup, 1, 0, 0, 0) ::
  (45, .getfield 115, 3, 6, 8, 0) ::
  (48, .iconst 1, 1, 0, 0, 1) ::
  (49, .isub, 1, 0, 0, 0) ::
  (50, .putfield 115, 3, 6, 8, 0) ::
  (53, .aload_n 0, 1, 0, 0, 0) ::
  (54, .iload_n 2, 1, 2, 0, 0) ::
  (55, .putfield 112, 3, 6, 9, 0) ::
  (58, .iinc 2 (-1), 3, 2, 0, (-1)) ::
  (61, .goto (-54), 3, 7, 0, 0) ::
  (64, .return_, 1, 0, 0, 0) ::
  []
def r_50 : List ax_E :=
  (0, .aload_n 0, 1, 0, 0, 0) ::
  (1, .getfield 112, 3, 6, 9, 0) ::
  (4, .iconst 1, 1, 0, 0, 1) ::
  (5, .isub, 1, 0, 0, 0) ::
  (6, .istore_n 2, 1, 2, 0, 0) ::
  (7, .jsr 0, 0, 7, 0, 0) ::
  r_50_7
/-- 51 BlackSun$Reader.readSign(I)Z -/
def r_51_102 : List ax_E :=
  (102, .aload_n 0, 1, 0, 0, 0) ::
  (103, .iconst 3, 1, 0, 0, 3) ::
  (104, .invokevirtual 143, 3, 50, 12, 0) ::
  (107, .iload_n 1, 1, 1, 0, 0) ::
  (108, .bipush 61, 2, 0, 0, 61) ::
  (110, .if_icmp .ne 12, 3, 122, 0, 0) ::
  (113, .aload_n 0, 1, 0, 0, 0) ::
  (114, .bipush 6, 2, 0, 0, 6) ::
  (116, .invokevirtual 139, 3, 44, 12, 0) ::
  (119, .goto 40, 3, 159, 0, 0) ::
  (122, .iload_n 1, 1, 1, 0, 0) ::
  (123, .bipush 60, 2, 0, 0, 60) ::
  (125, .if_icmp .ne 19, 3, 144, 0, 0) ::
  (128, .aload_n 0, 1, 0, 0, 0) ::
  (129, .iload_n 2, 1, 2, 0, 0) ::
  (130, .ifCond .eq 7, 3, 137, 0, 0) ::
  (133, .iconst 5, 1, 0, 0, 5) ::
  (134, .goto 4, 3, 138, 0, 0) ::
  (137, .iconst 4, 1, 0, 0, 4) ::
  (138, .invokevirtual 139, 3, 44, 12, 0) ::
  (141, .goto 18, 3, 159, 0, 0) ::
  (144, .aload_n 0, 1, 0, 0, 0) ::
  (145, .iload_n 2, 1, 2, 0, 0) ::
  (146, .ifCond .eq 8, 3, 154, 0, 0) ::
  (149, .bipush 7, 2, 0, 0, 7) ::
  (151, .goto 5, 3, 156, 0, 0) ::
  (154, .bipush 8, 2, 0, 0, 8) ::
  (156, .invokevirtual 139, 3, 44, 12, 0) ::
  (159, .aload_n 0, 1, 0, 0, 0) ::
  (160, .iconst 3, 1, 0, 0, 3) ::
  (161, .putfield 118, 3, 6, 7, 0) ::
  (164, .iconst 1, 1, 0, 0, 1) ::
  (165, .ireturn, 1, 1, 0, 0) ::
  []
def r_51_28 : List ax_E :=
  (28, .aload_n 0, 1, 0, 0, 0) ::
  (29, .aload_n 0, 1, 0, 0, 0) ::
  (30, .getfield 59, 3, 6, 3, 0) ::
  (33, .invokevirtual 156, 3, 47, 12, 1) ::
  (36, .ifCond .ne 5, 3, 41, 0, 0) ::
  (39, .iconst 0, 1, 0, 0, 0) ::
  (40, .ireturn, 1, 1, 0, 0) ::
  (41, .aload_n 0, 1, 0, 0, 0) ::
  (42, .dup, 1, 0, 0, 0) ::
  (43, .getfield 59, 3, 6, 3, 0) ::
  (46, .iconst 1, 1, 0, 0, 1) ::
  (47, .iadd, 1, 0, 0, 0) ::
  (48, .putfield 59, 3, 6, 3, 0) ::
  (51, .iload_n 1, 1, 1, 0, 0) ::
  (52, .bipush 61, 2, 0, 0, 61) ::
  (54, .if_icmp .eq 32, 3, 86, 0, 0) ::
  (57, .aload_n 0, 1, 0, 0, 0) ::
  (58, .getfield 59, 3, 6, 3, 0) ::
  (61, .aload_n 0, 1, 0, 0, 0) ::
  (62, .getfield 27, 3, 6, 0, 0) ::
  (65, .if_icmp .ge 21, 3, 86, 0, 0) ::
  (68, .aload_n 0, 1, 0, 0, 0) ::
  (69, .getfield 9, 3, 6, 2, 0) ::
  (72, .aload_n 0, 1, 0, 0, 0) ::
  (73, .getfield 59, 3, 6, 3, 0) ::
  (76, .iaload, 1, 0, 0, 0) ::
  (77, .bipush 61, 2, 0, 0, 61) ::
  (79, .if_icmp .ne 7, 3, 86, 0, 0) ::
  (82, .iconst 1, 1, 0, 0, 1) ::
  (83, .goto 4, 3, 87, 0, 0) ::
  (86, .iconst 0, 1, 0, 0, 0) ::
  (87, .istore_n 2, 1, 2, 0, 0) ::
  (88, .iload_n 2, 1, 2, 0, 0) ::
  (89, .ifCond .eq 13, 3, 102, 0, 0) ::
  (92, .aload_n 0, 1, 0, 0, 0) ::
  (93, .dup, 1, 0, 0, 0) ::
  (94, .getfield 59, 3, 6, 3, 0) ::
  (97, .iconst 1, 1, 0, 0, 1) ::
  (98, .iadd, 1, 0, 0, 0) ::
  (99, .putfield 59, 3, 6, 3, 0) ::
  (102, .jsr 0, 0, 7, 0, 0) ::
  r_51_102
def r_51 : List ax_E :=
  (0, .iload_n 1, 1, 1, 0, 0) ::
  (1, .bipush 60, 2, 0, 0, 60) ::
  (3, .if_icmp .eq 25, 3, 28, 0, 0) ::
  (6, .iload_n 1, 1, 1, 0, 0) ::
  (7, .bipush 61, 2, 0, 0, 61) ::
  (9, .if_icmp .eq 19, 3, 28, 0, 0) ::
  (12, .iload_n 1, 1, 1, 0, 0) ::
  (13, .bipush 62, 2, 0, 0, 62) ::
  (15, .if_icmp .eq 13, 3, 28, 0, 0) ::
  (18, .aload_n 0, 1, 0, 0, 0) ::
  (19, .aload_n 0, 1, 0, 0, 0) ::
  (20, .getfield 59, 3, 6, 3, 0) ::
  (23, .iconst 0, 1, 0, 0, 0) ::
  (24, .invokevirtual 62, 3, 39, 12, 1) ::
  (27, .ireturn, 1, 1, 0, 0) ::
  (28, .jsr 0, 0, 3, 0, 0) ::
  r_51_28
/-- 52 BlackSun$Reader.readClosing(I)Z -/
def r_52 : List ax_E :=
  (0, .aload_n 0, 1, 0, 0, 0) ::
  (1, .bipush 11, 2, 0, 0, 11) ::
  (3, .invokevirtual 143, 3, 50, 12, 0) ::
  (6, .aload_n 0, 1, 0, 0, 0) ::
  (7, .getfield 112, 3, 6, 9, 0) ::
  (10, .ifCond .ne 11, 3, 21, 0, 0) ::
  (13, .aload_n 0, 1, 0, 0, 0) ::
  (14, .bipush 6, 2, 0, 0, 6) ::
  (16, .putfield 118, 3, 6, 7, 0) ::
  (19, .iconst 1, 1, 0, 0, 1) ::
  (20, .ireturn, 1, 1, 0, 0) ::
  (21, .iload_n 1, 1, 1, 0, 0) ::
  (22, .bipush 93, 2, 0, 0, 93) ::
  (24, .if_icmp .eq 13, 3, 37, 0, 0) ::
  (27, .aload_n 0, 1, 0, 0, 0) ::
  (28, .aload_n 0, 1, 0, 0, 0) ::
  (29, .getfield 59, 3, 6, 3, 0) ::
  (32, .iconst 0, 1, 0, 0, 0) ::
  (33, .invokevirtual 62, 3, 39, 12, 1) ::
  (36, .ireturn, 1, 1, 0, 0) ::
  (37, .aload_n 0, 1, 0, 0, 0) ::
  (38, .dup, 1, 0, 0, 0) ::
  (39, .getfield 59, 3, 6, 3, 0) ::
  (42, .iconst 1, 1, 0, 0, 1) ::
  (43, .iadd, 1, 0, 0, 0) ::
  (44, .putfield 59, 3, 6, 3, 0) ::
  (47, .aload_n 0, 1, 0, 0, 0) ::
  (48, .dup, 1, 0, 0, 0) ::
  (49, .getfield 112, 3, 6, 9, 0) ::
  (52, .iconst 1, 1, 0, 0, 1) ::
  (53, .isub, 1, 0, 0, 0) ::
  (54, .putfield 112, 3, 6, 9, 0) ::
  (57, .aload_n 0, 1, 0, 0, 0) ::
  (58, .dup, 1, 0, 0, 0) ::
  (59, .getfield 115, 3, 6, 8, 0) ::
  (62, .iconst 1, 1, 0, 0, 1) ::
  (63, .isub, 1, 0, 0, 0) ::
  (64, .putfield 115, 3, 6, 8, 0) ::
  (67, .aload_n 0, 1, 0, 0, 0) ::
  (68, .iconst 5, 1, 0, 0, 5) ::
  (69, .putfield 118, 3, 6, 7, 0) ::
  (72, .iconst 1, 1, 0, 0, 1) ::
  (73, .ireturn, 1, 1, 0, 0) ::
  []
/-- 53 BlackSun$Reader.readOperator()Z -/
def r_53_118 : List ax_E :=
  (118, .iload_n 2, 1, 2, 0, 0) ::
  (119, .ifCond .eq 8, 3, 127, 0, 0) ::
  (122, .bipush 10, 2, 0, 0, 10) ::
  (124, .goto 5, 3, 129, 0, 0) ::
  (127, .bipush 11, 2, 0, 0, 11) ::
  (129, .istore_n 3, 1, 3, 0, 0) ::
  (130, .aload_n 0, 1, 0, 0, 0) ::
  (131, .iload_n 3, 1, 3, 0, 0) ::
  (132, .invokevirtual 143, 3, 50, 12, 0) ::
  (135, .aload_n 0, 1, 0, 0, 0) ::
  (136, .iload_n 3, 1, 3, 0, 0) ::
  (137, .invokevirtual 139, 3, 44, 12, 0) ::
  (140, .aload_n 0, 1, 0, 0, 0) ::
  (141, .iconst 0, 1, 0, 0, 0) ::
  (142, .putfield 118, 3, 6, 7, 0) ::
  (145, .iconst 1, 1, 0, 0, 1) ::
  (146, .ireturn, 1, 1, 0, 0) ::
  (147, .aload_n 0, 1, 0, 0, 0) ::
  (148, .iload_n 1, 1, 1, 0, 0) ::
  (149, .invokevirtual 153, 3, 52, 12, 1) ::
  (152, .ireturn, 1, 1, 0, 0) ::
  []
def r_53_74 : List ax_E :=
  (74, .aload_n 0, 1, 0, 0, 0) ::
  (75, .getfield 118, 3, 6, 7, 0) ::
  (78, .iconst 2, 1, 0, 0, 2) ::
  (79, .if_icmp .ne 9, 3, 88, 0, 0) ::
  (82, .aload_n 0, 1, 0, 0, 0) ::
  (83, .iload_n 1, 1, 1, 0, 0) ::
  (84, .invokevirtual 146, 3, 51, 12, 1) ::
  (87, .ireturn, 1, 1, 0, 0) ::
  (88, .aload_n 0, 1, 0, 0, 0) ::
  (89, .ldc 149, 2, 6, 1, 0) ::
  (91, .invokevirtual 86, 3, 38, 12, 1) ::
  (94, .iconst (-1), 1, 0, 0, (-1)) ::
  (95, .if_icmp .eq 7, 3, 102, 0, 0) ::
  (98, .iconst 1, 1, 0, 0, 1) ::
  (99, .goto 4, 3, 103, 0, 0) ::
  (102, .iconst 0, 1, 0, 0, 0) ::
  (103, .istore_n 2, 1, 2, 0, 0) ::
  (104, .iload_n 2, 1, 2, 0, 0) ::
  (105, .ifCond .ne 13, 3, 118, 0, 0) ::
  (108, .aload_n 0, 1, 0, 0, 0) ::
  (109, .ldc 151, 2, 7, 1, 0) ::
  (111, .invokevirtual 86, 3, 38, 12, 1) ::
  (114, .iconst (-1), 1, 0, 0, (-1)) ::
  (115, .if_icmp .eq 32, 3, 147, 0, 0) ::
  (118, .jsr 0, 0, 5, 0, 0) ::
  r_53_118
def r_53_52 : List ax_E :=
  (52, .invokevirtual 139, 3, 44, 12, 0) ::
  (55, .aload_n 0, 1, 0, 0, 0) ::
  (56, .aload_n 0, 1, 0, 0, 0) ::
  (57, .getfield 118, 3, 6, 7, 0) ::
  (60, .iconst 2, 1, 0, 0, 2) ::
  (61, .if_icmp .ne 7, 3, 68, 0, 0) ::
  (64, .iconst 1, 1, 0, 0, 1) ::
  (65, .goto 4, 3, 69, 0, 0) ::
  (68, .iconst 3, 1, 0, 0, 3) ::
  (69, .putfield 118, 3, 6, 7, 0) ::
  (72, .iconst 1, 1, 0, 0, 1) ::
  (73, .ireturn, 1, 1, 0, 0) ::
  (74, .jsr 0, 0, 3, 0, 0) ::
  r_53_74
def r_53_25 : List ax_E :=
  (25, .aload_n 0, 1, 0, 0, 0) ::
  (26, .dup, 1, 0, 0, 0) ::
  (27, .getfield 59, 3, 6, 3, 0) ::
  (30, .iconst 1, 1, 0, 0, 1) ::
  (31, .iadd, 1, 0, 0, 0) ::
  (32, .putfield 59, 3, 6, 3, 0) ::
  (35, .aload_n 0, 1, 0, 0, 0) ::
  (36, .iconst 3, 1, 0, 0, 3) ::
  (37, .invokevirtual 143, 3, 50, 12, 0) ::
  (40, .aload_n 0, 1, 0, 0, 0) ::
  (41, .iload_n 1, 1, 1, 0, 0) ::
  (42, .bipush 43, 2, 0, 0, 43) ::
  (44, .if_icmp .ne 7, 3, 51, 0, 0) ::
  (47, .iconst 2, 1, 0, 0, 2) ::
  (48, .goto 4, 3, 52, 0, 0) ::
  (51, .iconst 3, 1, 0, 0, 3) ::
  (52, .jsr 0, 0, 1, 0, 0) ::
  r_53_52
def r_53 : List ax_E :=
  (0, .aload_n 0, 1, 0, 0, 0) ::
  (1, .invokevirtual 38, 3, 37, 12, 1) ::
  (4, .istore_n 1, 1, 1, 0, 0) ::
  (5, .aload_n 0, 1, 0, 0, 0) ::
  (6, .getfield 118, 3, 6, 7, 0) ::
  (9, .iconst 5, 1, 0, 0, 5) ::
  (10, .if_icmp .eq 64, 3, 74, 0, 0) ::
  (13, .iload_n 1, 1, 1, 0, 0) ::
  (14, .bipush 43, 2, 0, 0, 43) ::
  (16, .if_icmp .eq 9, 3, 25, 0, 0) ::
  (19, .iload_n 1, 1, 1, 0, 0) ::
  (20, .bipush 45, 2, 0, 0, 45) ::
  (22, .if_icmp .ne 52, 3, 74, 0, 0) ::
  (25, .jsr 0, 0, 3, 0, 0) ::
  r_53_25
/-- 54 BlackSun$Reader.readLeave()Z -/
def r_54_99 : List ax_E :=
  (99, .istore_n 3, 1, 3, 0, 0) ::
  (100, .iload_n 3, 1, 3, 0, 0) ::
  (101, .ifCond .eq 13, 3, 114, 0, 0) ::
  (104, .aload_n 0, 1, 0, 0, 0) ::
  (105, .invokevirtual 121, 3, 49, 12, 1) ::
  (108, .ifCond .eq 13, 3, 121, 0, 0) ::
  (111, .goto 12, 3, 123, 0, 0) ::
  (114, .aload_n 0, 1, 0, 0, 0) ::
  (115, .invokevirtual 124, 3, 53, 12, 1) ::
  (118, .ifCond .ne 5, 3, 123, 0, 0) ::
  (121, .iconst 0, 1, 0, 0, 0) ::
  (122, .ireturn, 1, 1, 0, 0) ::
  (123, .iinc 2 1, 3, 2, 0, 1) ::
  (126, .goto (-71), 3, 55, 0, 0) ::
  (129, .iload_n 1, 1, 1, 0, 0) ::
  (130, .ifCond .ne 10, 3, 140, 0, 0) ::
  (133, .aload_n 0, 1, 0, 0, 0) ::
  (134, .bipush 11, 2, 0, 0, 11) ::
  (136, .iconst 0, 1, 0, 0, 0) ::
  (137, .invokevirtual 127, 3, 46, 12, 0) ::
  (140, .iconst 1, 1, 0, 0, 1) ::
  (141, .ireturn, 1, 1, 0, 0) ::
  []
def r_54_55 : List ax_E :=
  (55, .iload_n 2, 1, 2, 0, 0) ::
  (56, .sipush 400, 3, 0, 0, 400) ::
  (59, .if_icmp .gt 70, 3, 129, 0, 0) ::
  (62, .aload_n 0, 1, 0, 0, 0) ::
  (63, .getfield 118, 3, 6, 7, 0) ::
  (66, .bipush 6, 2, 0, 0, 6) ::
  (68, .if_icmp .eq 61, 3, 129, 0, 0) ::
  (71, .aload_n 0, 1, 0, 0, 0) ::
  (72, .getfield 118, 3, 6, 7, 0) ::
  (75, .ifCond .eq 19, 3, 94, 0, 0) ::
  (78, .aload_n 0, 1, 0, 0, 0) ::
  (79, .getfield 118, 3, 6, 7, 0) ::
  (82, .iconst 1, 1, 0, 0, 1) ::
  (83, .if_icmp .eq 11, 3, 94, 0, 0) ::
  (86, .aload_n 0, 1, 0, 0, 0) ::
  (87, .getfield 118, 3, 6, 7, 0) ::
  (90, .iconst 3, 1, 0, 0, 3) ::
  (91, .if_icmp .ne 7, 3, 98, 0, 0) ::
  (94, .iconst 1, 1, 0, 0, 1) ::
  (95, .goto 4, 3, 99, 0, 0) ::
  (98, .iconst 0, 1, 0, 0, 0) ::
  (99, .jsr 0, 0, 7, 0, 0) ::
  r_54_99
def r_54 : List ax_E :=
  (0, .aload_n 0, 1, 0, 0, 0) ::
  (1, .invokevirtual 38, 3, 37, 12, 1) ::
  (4, .pop, 1, 0, 0, 0) ::
  (5, .aload_n 0, 1, 0, 0, 0) ::
  (6, .ldc 110, 2, 3, 1, 0) ::
  (8, .invokevirtual 86, 3, 38, 12, 1) ::
  (11, .iconst (-1), 1, 0, 0, (-1)) ::
  (12, .if_icmp .ne 13, 3, 25, 0, 0) ::
  (15, .aload_n 0, 1, 0, 0, 0) ::
  (16, .aload_n 0, 1, 0, 0, 0) ::
  (17, .getfield 59, 3, 6, 3, 0) ::
  (20, .iconst 0, 1, 0, 0, 0) ::
  (21, .invokevirtual 62, 3, 39, 12, 1) ::
  (24, .ireturn, 1, 1, 0, 0) ::
  (25, .aload_n 0, 1, 0, 0, 0) ::
  (26, .getfield 75, 3, 6, 11, 0) ::
  (29, .ifCond .ne 7, 3, 36, 0, 0) ::
  (32, .iconst 1, 1, 0, 0, 1) ::
  (33, .goto 4, 3, 37, 0, 0) ::
  (36, .iconst 0, 1, 0, 0, 0) ::
  (37, .istore_n 1, 1, 1, 0, 0) ::
  (38, .aload_n 0, 1, 0, 0, 0) ::
  (39, .iconst 0, 1, 0, 0, 0) ::
  (40, .putfield 112, 3, 6, 9, 0) ::
  (43, .aload_n 0, 1, 0, 0, 0) ::
  (44, .iconst 0, 1, 0, 0, 0) ::
  (45, .putfield 115, 3, 6, 8, 0) ::
  (48, .aload_n 0, 1, 0, 0, 0) ::
  (49, .iconst 0, 1, 0, 0, 0) ::
  (50, .putfield 118, 3, 6, 7, 0) ::
  (53, .iconst 0, 1, 0, 0, 0) ::
  (54, .istore_n 2, 1, 2, 0, 0) ::
  (55, .jsr 0, 0, 7, 0, 0) ::
  r_54_55
/-- 55 BlackSun$Reader.readHand(I)Z -/
def r_55 : List ax_E :=
  (0, .aload_n 0, 1, 0, 0, 0) ::
  (1, .getfield 49, 3, 6, 6, 0) ::
  (4, .iconst (-1), 1, 0, 0, (-1)) ::
  (5, .if_icmp .eq 10, 3, 15, 0, 0) ::
  (8, .aload_n 0, 1, 0, 0, 0) ::
  (9, .iload_n 1, 1, 1, 0, 0) ::
  (10, .iconst 5, 1, 0, 0, 5) ::
  (11, .invokevirtual 62, 3, 39, 12, 1) ::
  (14, .ireturn, 1, 1, 0, 0) ::
  (15, .aload_n 0, 1, 0, 0, 0) ::
  (16, .invokevirtual 38, 3, 37, 12, 1) ::
  (19, .pop, 1, 0, 0, 0) ::
  (20, .aload_n 0, 1, 0, 0, 0) ::
  (21, .aload_n 0, 1, 0, 0, 0) ::
  (22, .bipush 7, 2, 0, 0, 7) ::
  (24, .invokevirtual 106, 3, 41, 12, 1) ::
  (27, .putfield 49, 3, 6, 6, 0) ::
  (30, .aload_n 0, 1, 0, 0, 0) ::
  (31, .getfield 49, 3, 6, 6, 0) ::
  (34, .iconst (-1), 1, 0, 0, (-1)) ::
  (35, .if_icmp .eq 7, 3, 42, 0, 0) ::
  (38, .iconst 1, 1, 0, 0, 1) ::
  (39, .goto 4, 3, 43, 0, 0) ::
  (42, .iconst 0, 1, 0, 0, 0) ::
  (43, .ireturn, 1, 1, 0, 0) ::
  []
/-- 56 BlackSun$Reader.readClause(I)Z -/
def r_56 : List ax_E :=
  (0, .aload_n 0, 1, 0, 0, 0) ::
  (1, .invokevirtual 38, 3, 37, 12, 1) ::
  (4, .pop, 1, 0, 0, 0) ::
  (5, .aload_n 0, 1, 0, 0, 0) ::
  (6, .getfield 59, 3, 6, 3, 0) ::
  (9, .istore_n 2, 1, 2, 0, 0) ::
  (10, .aload_n 0, 1, 0, 0, 0) ::
  (11, .ldc 84, 2, 1, 1, 0) ::
  (13, .invokevirtual 86, 3, 38, 12, 1) ::
  (16, .istore_n 3, 1, 3, 0, 0) ::
  (17, .iload_n 3, 1, 3, 0, 0) ::
  (18, .iconst (-1), 1, 0, 0, (-1)) ::
  (19, .if_icmp .ne 10, 3, 29, 0, 0) ::
  (22, .aload_n 0, 1, 0, 0, 0) ::
  (23, .iload_n 2, 1, 2, 0, 0) ::
  (24, .iconst 0, 1, 0, 0, 0) ::
  (25, .invokevirtual 62, 3, 39, 12, 1) ::
  (28, .ireturn, 1, 1, 0, 0) ::
  (29, .iload_n 1, 1, 1, 0, 0) ::
  (30, .bipush 12, 2, 0, 0, 12) ::
  (32, .if_icmp .lt 10, 3, 42, 0, 0) ::
  (35, .aload_n 0, 1, 0, 0, 0) ::
  (36, .iload_n 2, 1, 2, 0, 0) ::
  (37, .iconst 4, 1, 0, 0, 4) ::
  (38, .invokevirtual 62, 3, 39, 12, 1) ::
  (41, .ireturn, 1, 1, 0, 0) ::
  (42, .iload_n 3, 1, 3, 0, 0) ::
  (43, .tableswitch 52 0 3 #[29, 35, 41, 47], 29, 0, 0, 0) ::
  (72, .aload_n 0, 1, 0, 0, 0) ::
  (73, .iconst 1, 1, 0, 0, 1) ::
  (74, .invokevirtual 90, 3, 43, 12, 1) ::
  (77, .ireturn, 1, 1, 0, 0) ::
  (78, .aload_n 0, 1, 0, 0, 0) ::
  (79, .iconst 2, 1, 0, 0, 2) ::
  (80, .invokevirtual 90, 3, 43, 12, 1) ::
  (83, .ireturn, 1, 1, 0, 0) ::
  (84, .aload_n 0, 1, 0, 0, 0) ::
  (85, .iconst 3, 1, 0, 0, 3) ::
  (86, .invokevirtual 90, 3, 43, 12, 1) ::
  (89, .ireturn, 1, 1, 0, 0) ::
  (90, .aload_n 0, 1, 0, 0, 0) ::
  (91, .invokevirtual 93, 3, 54, 12, 1) ::
  (94, .ireturn, 1, 1, 0, 0) ::
  (95, .aload_n 0, 1, 0, 0, 0) ::
  (96, .iload_n 2, 1, 2, 0, 0) ::
  (97, .invokevirtual 97, 3, 55, 12, 1) ::
  (100, .ireturn, 1, 1, 0, 0) ::
  []
/-- 57 BlackSun$Reader.copyOfSteps()[I -/
def r_57 : List ax_E :=
  (0, .aload_n 0, 1, 0, 0, 0) ::
  (1, .getfield 75, 3, 6, 11, 0) ::
  (4, .newarray .int, 2, 16, 0, 0) ::
  (6, .astore_n 1, 1, 1, 0, 0) ::
  (7, .aload_n 0, 1, 0, 0, 0) ::
  (8, .getfield 18, 3, 6, 12, 0) ::
  (11, .iconst 0, 1, 0, 0, 0) ::
  (12, .aload_n 1, 1, 1, 0, 0) ::
  (13, .iconst 0, 1, 0, 0, 0) ::
  (14, .aload_n 0, 1, 0, 0, 0) ::
  (15, .getfield 75, 3, 6, 11, 0) ::
  (18, .invokestatic 78, 3, 16, 100, 0) ::
  (21, .aload_n 1, 1, 1, 0, 0) ::
  (22, .areturn, 1, 0, 0, 0) ::
  []
/-- 58 BlackSun$Way.<init>([I[II[I)V -/
def r_58 : List ax_E :=
  (0, .aload_n 0, 1, 0, 0, 0) ::
  (1, .invokespecial 3, 3, 0, 100, 0) ::
  (4, .aload_n 0, 1, 0, 0, 0) ::
  (5, .aload_n 1, 1, 1, 0, 0) ::
  (6, .putfield 9, 3, 5, 0, 0) ::
  (9, .aload_n 0, 1, 0, 0, 0) ::
  (10, .aload_n 2, 1, 2, 0, 0) ::
  (11, .putfield 15, 3, 5, 1, 0) ::
  (14, .aload_n 0, 1, 0, 0, 0) ::
  (15, .iload_n 3, 1, 3, 0, 0) ::
  (16, .putfield 18, 3, 5, 2, 0) ::
  (19, .aload_n 0, 1, 0, 0, 0) ::
  (20, .aload 4, 2, 4, 0, 0) ::
  (22, .putfield 22, 3, 5, 3, 0) ::
  (25, .return_, 1, 0, 0, 0) ::
  []
/-- 59 BlackSun$Reader.readWay()LBlackSun$Way; -/
def r_59_6 : List ax_E :=
  (6, .iload_n 1, 1, 1, 0, 0) ::
  (7, .bipush 12, 2, 0, 0, 12) ::
  (9, .if_icmp .gt 93, 3, 102, 0, 0) ::
  (12, .aload_n 0, 1, 0, 0, 0) ::
  (13, .iload_n 1, 1, 1, 0, 0) ::
  (14, .invokevirtual 34, 3, 56, 12, 1) ::
  (17, .ifCond .ne 5, 3, 22, 0, 0) ::
  (20, .aconst_null, 1, 0, 0, 0) ::
  (21, .areturn, 1, 0, 0, 0) ::
  (22, .aload_n 0, 1, 0, 0, 0) ::
  (23, .invokevirtual 38, 3, 37, 12, 1) ::
  (26, .istore_n 2, 1, 2, 0, 0) ::
  (27, .iload_n 2, 1, 2, 0, 0) ::
  (28, .iconst (-1), 1, 0, 0, (-1)) ::
  (29, .if_icmp .ne 39, 3, 68, 0, 0) ::
  (32, .new 42, 3, 5, 0, 0) ::
  (35, .dup, 1, 0, 0, 0) ::
  (36, .aload_n 0, 1, 0, 0, 0) ::
  (37, .getfield 21, 3, 6, 13, 0) ::
  (40, .invokevirtual 44, 3, 0, 100, 0) ::
  (43, .checkcast 45, 3, 0, 0, 0) ::
  (46, .aload_n 0, 1, 0, 0, 0) ::
  (47, .getfield 24, 3, 6, 14, 0) ::
  (50, .invokevirtual 44, 3, 0, 100, 0) ::
  (53, .checkcast 45, 3, 0, 0, 0) ::
  (56, .aload_n 0, 1, 0, 0, 0) ::
  (57, .getfield 49, 3, 6, 6, 0) ::
  (60, .aload_n 0, 1, 0, 0, 0) ::
  (61, .invokevirtual 52, 3, 57, 12, 3) ::
  (64, .invokespecial 56, 3, 58, 10, 0) ::
  (67, .areturn, 1, 0, 0, 0) ::
  (68, .iload_n 2, 1, 2, 0, 0) ::
  (69, .bipush 59, 2, 0, 0, 59) ::
  (71, .if_icmp .eq 15, 3, 86, 0, 0) ::
  (74, .aload_n 0, 1, 0, 0, 0) ::
  (75, .aload_n 0, 1, 0, 0, 0) ::
  (76, .getfield 59, 3, 6, 3, 0) ::
  (79, .iconst 0, 1, 0, 0, 0) ::
  (80, .invokevirtual 62, 3, 39, 12, 1) ::
  (83, .pop, 1, 0, 0, 0) ::
  (84, .aconst_null, 1, 0, 0, 0) ::
  (85, .areturn, 1, 0, 0, 0) ::
  (86, .aload_n 0, 1, 0, 0, 0) ::
  (87, .dup, 1, 0, 0, 0) ::
  (88, .getfield 59, 3, 6, 3, 0) ::
  (91, .iconst 1, 1, 0, 0, 1) ::
  (92, .iadd, 1, 0, 0, 0) ::
  (93, .putfield 59, 3, 6, 3, 0) ::
  (96, .iinc 1 1, 3, 1, 0, 1) ::
  (99, .goto (-93), 3, 6, 0, 0) ::
  (102, .aconst_null, 1, 0, 0, 0) ::
  (103, .areturn, 1, 0, 0, 0) ::
  []
def r_59 : List ax_E :=
  (0, .aload_n 0, 1, 0, 0, 0) ::
  (1, .invokevirtual 31, 3, 36, 12, 0) ::
  (4, .iconst 0, 1, 0, 0, 0) ::
  (5, .istore_n 1, 1, 1, 0, 0) ::
  (6, .jsr 0, 0, 3, 0, 0) ::
  r_59_6
/-- 60 BlackSun.way()I -/
def r_60 : List ax_E :=
  (0, .aload_n 0, 1, 0, 0, 0) ::
  (1, .getfield 10, 3, 0, 0, 0) ::
  (4, .getfield 127, 3, 1, 4, 0) ::
  (7, .bipush 10, 2, 0, 0, 10) ::
  (9, .if_icmp .lt 5, 3, 14, 0, 0) ::
  (12, .iconst (-1), 1, 0, 0, (-1)) ::
  (13, .ireturn, 1, 0, 0, 0) ::
  (14, .aload_n 0, 1, 0, 0, 0) ::
  (15, .getfield 23, 3, 0, 2, 0) ::
  (18, .invokevirtual 130, 3, 59, 12, 3) ::
  (21, .astore_n 1, 1, 1, 0, 0) ::
  (22, .aload_n 0, 1, 0, 0, 0) ::
  (23, .getfield 23, 3, 0, 2, 0) ::
  (26, .iconst 0, 1, 0, 0, 0) ::
  (27, .putfield 120, 3, 6, 0, 0) ::
  (30, .aload_n 1, 1, 1, 0, 0) ::
  (31, .ifnonnull 14, 3, 45, 0, 0) ::
  (34, .bipush (-2), 2, 0, 0, (-2)) ::
  (36, .aload_n 0, 1, 0, 0, 0) ::
  (37, .getfield 23, 3, 0, 2, 0) ::
  (40, .getfield 134, 3, 6, 1, 0) ::
  (43, .isub, 1, 0, 0, 0) ::
  (44, .ireturn, 1, 0, 0, 0) ::
  (45, .aload_n 0, 1, 0, 0, 0) ::
  (46, .getfield 10, 3, 0, 0, 0) ::
  (49, .getfield 137, 3, 1, 5, 0) ::
  (52, .aload_n 0, 1, 0, 0, 0) ::
  (53, .getfield 10, 3, 0, 0, 0) ::
  (56, .getfield 127, 3, 1, 4, 0) ::
  (59, .aload_n 1, 1, 1, 0, 0) ::
  (60, .aastore, 1, 20, 0, 0) ::
  (61, .aload_n 0, 1, 0, 0, 0) ::
  (62, .getfield 10, 3, 0, 0, 0) ::
  (65, .dup, 1, 0, 0, 0) ::
  (66, .getfield 127, 3, 1, 4, 0) ::
  (69, .iconst 1, 1, 0, 0, 1) ::
  (70, .iadd, 1, 0, 0, 0) ::
  (71, .putfield 127, 3, 1, 4, 0) ::
  (74, .aload_n 0, 1, 0, 0, 0) ::
  (75, .getfield 10, 3, 0, 0, 0) ::
  (78, .getfield 127, 3, 1, 4, 0) ::
  (81, .iconst 1, 1, 0, 0, 1) ::
  (82, .isub, 1, 0, 0, 0) ::
  (83, .ireturn, 1, 0, 0, 0) ::
  []
/-- 61 BlackSun$Book.wayAt(I)LBlackSun$Way; -/
def r_61 : List ax_E :=
  (0, .iload_n 1, 1, 1, 0, 0) ::
  (1, .iconst 0, 1, 0, 0, 0) ::
  (2, .aload_n 0, 1, 0, 0, 0) ::
  (3, .getfield 66, 3, 1, 4, 0) ::
  (6, .iconst 1, 1, 0, 0, 1) ::
  (7, .isub, 1, 0, 0, 0) ::
  (8, .invokestatic 70, 3, 11, 0, 1) ::
  (11, .ifCond .eq 12, 3, 23, 0, 0) ::
  (14, .aload_n 0, 1, 0, 0, 0) ::
  (15, .getfield 34, 3, 1, 5, 0) ::
  (18, .iload_n 1, 1, 1, 0, 0) ::
  (19, .aaload, 1, 20, 0, 0) ::
  (20, .goto 4, 3, 24, 0, 0) ::
  (23, .aconst_null, 1, 0, 0, 0) ::
  (24, .areturn, 1, 0, 0, 0) ::
  []
/-- 62 BlackSun.ways(II)I -/
def r_62 : List ax_E :=
  (0, .aload_n 0, 1, 0, 0, 0) ::
  (1, .getfield 10, 3, 0, 0, 0) ::
  (4, .iload_n 1, 1, 1, 0, 0) ::
  (5, .invokevirtual 141, 3, 61, 2, 3) ::
  (8, .astore_n 3, 1, 3, 0, 0) ::
  (9, .aload_n 3, 1, 3, 0, 0) ::
  (10, .ifnull 10, 3, 20, 0, 0) ::
  (13, .iload_n 2, 1, 2, 0, 0) ::
  (14, .invokestatic 114, 3, 30, 0, 1) ::
  (17, .ifCond .ne 5, 3, 22, 0, 0) ::
  (20, .iconst (-1), 1, 0, 0, (-1)) ::
  (21, .ireturn, 1, 0, 0, 0) ::
  (22, .aload_n 3, 1, 3, 0, 0) ::
  (23, .getfield 145, 3, 5, 0, 0) ::
  (26, .iload_n 2, 1, 2, 0, 0) ::
  (27, .iaload, 1, 0, 0, 0) ::
  (28, .ireturn, 1, 0, 0, 0) ::
  []
/-- 63 BlackSun$Book.kindOf(I)I -/
def r_63 : List ax_E :=
  (0, .aload_n 0, 1, 0, 0, 0) ::
  (1, .getfield 21, 3, 1, 2, 0) ::
  (4, .getfield 74, 3, 3, 2, 0) ::
  (7, .aload_n 0, 1, 0, 0, 0) ::
  (8, .getfield 28, 3, 1, 3, 0) ::
  (11, .getfield 77, 3, 4, 1, 0) ::
  (14, .iload_n 1, 1, 1, 0, 0) ::
  (15, .iaload, 1, 0, 0, 0) ::
  (16, .iaload, 1, 0, 0, 0) ::
  (17, .ireturn, 1, 0, 0, 0) ::
  []
/-- 64 BlackSun$Way.isReading(I)Z -/
def r_64 : List ax_E :=
  (0, .aload_n 0, 1, 0, 0, 0) ::
  (1, .getfield 18, 3, 5, 2, 0) ::
  (4, .iconst (-1), 1, 0, 0, (-1)) ::
  (5, .if_icmp .eq 11, 3, 16, 0, 0) ::
  (8, .aload_n 0, 1, 0, 0, 0) ::
  (9, .getfield 18, 3, 5, 2, 0) ::
  (12, .iload_n 1, 1, 1, 0, 0) ::
  (13, .if_icmp .ne 7, 3, 20, 0, 0) ::
  (16, .iconst 1, 1, 0, 0, 1) ::
  (17, .goto 4, 3, 21, 0, 0) ::
  (20, .iconst 0, 1, 0, 0, 0) ::
  (21, .ireturn, 1, 1, 0, 0) ::
  []
/-- 65 BlackSun$Book.factOf(II)I -/
def r_65 : List ax_E :=
  (0, .aload_n 0, 1, 0, 0, 0) ::
  (1, .getfield 28, 3, 1, 3, 0) ::
  (4, .getfield 77, 3, 4, 1, 0) ::
  (7, .iload_n 2, 1, 2, 0, 0) ::
  (8, .iaload, 1, 0, 0, 0) ::
  (9, .istore_n 3, 1, 3, 0, 0) ::
  (10, .aload_n 0, 1, 0, 0, 0) ::
  (11, .getfield 28, 3, 1, 3, 0) ::
  (14, .getfield 93, 3, 4, 2, 0) ::
  (17, .iload_n 2, 1, 2, 0, 0) ::
  (18, .iaload, 1, 0, 0, 0) ::
  (19, .istore 4, 2, 4, 0, 0) ::
  (21, .iload_n 1, 1, 1, 0, 0) ::
  (22, .tableswitch 170 0 11 #[62, 64, 74, 84, 94, 97, 108, 118, 129, 140, 150, 160], 62, 0, 0, 0) ::
  (84, .iload_n 3, 1, 3, 0, 0) ::
  (85, .ireturn, 1, 0, 0, 0) ::
  (86, .aload_n 0, 1, 0, 0, 0) ::
  (87, .getfield 21, 3, 1, 2, 0) ::
  (90, .getfield 100, 3, 3, 1, 0) ::
  (93, .iload_n 3, 1, 3, 0, 0) ::
  (94, .iaload, 1, 0, 0, 0) ::
  (95, .ireturn, 1, 0, 0, 0) ::
  (96, .aload_n 0, 1, 0, 0, 0) ::
  (97, .getfield 21, 3, 1, 2, 0) ::
  (100, .getfield 74, 3, 3, 2, 0) ::
  (103, .iload_n 3, 1, 3, 0, 0) ::
  (104, .iaload, 1, 0, 0, 0) ::
  (105, .ireturn, 1, 0, 0, 0) ::
  (106, .aload_n 0, 1, 0, 0, 0) ::
  (107, .getfield 21, 3, 1, 2, 0) ::
  (110, .getfield 103, 3, 3, 3, 0) ::
  (113, .iload_n 3, 1, 3, 0, 0) ::
  (114, .iaload, 1, 0, 0, 0) ::
  (115, .ireturn, 1, 0, 0, 0) ::
  (116, .iload 4, 2, 4, 0, 0) ::
  (118, .ireturn, 1, 0, 0, 0) ::
  (119, .aload_n 0, 1, 0, 0, 0) ::
  (120, .getfield 12, 3, 1, 1, 0) ::
  (123, .getfield 106, 3, 2, 3, 0) ::
  (126, .iload 4, 2, 4, 0, 0) ::
  (128, .iaload, 1, 0, 0, 0) ::
  (129, .ireturn, 1, 0, 0, 0) ::
  (130, .aload_n 0, 1, 0, 0, 0) ::
  (131, .getfield 12, 3, 1, 1, 0) ::
  (134, .iload 4, 2, 4, 0, 0) ::
  (136, .invokevirtual 109, 3, 15, 4, 1) ::
  (139, .ireturn, 1, 0, 0, 0) ::
  (140, .aload_n 0, 1, 0, 0, 0) ::
  (141, .getfield 12, 3, 1, 1, 0) ::
  (144, .getfield 112, 3, 2, 1, 0) ::
  (147, .iload 4, 2, 4, 0, 0) ::
  (149, .iaload, 1, 0, 0, 0) ::
  (150, .ireturn, 1, 0, 0, 0) ::
  (151, .aload_n 0, 1, 0, 0, 0) ::
  (152, .getfield 12, 3, 1, 1, 0) ::
  (155, .getfield 115, 3, 2, 2, 0) ::
  (158, .iload 4, 2, 4, 0, 0) ::
  (160, .iaload, 1, 0, 0, 0) ::
  (161, .ireturn, 1, 0, 0, 0) ::
  (162, .aload_n 0, 1, 0, 0, 0) ::
  (163, .getfield 28, 3, 1, 3, 0) ::
  (166, .getfield 118, 3, 4, 4, 0) ::
  (169, .iload_n 2, 1, 2, 0, 0) ::
  (170, .iaload, 1, 0, 0, 0) ::
  (171, .ireturn, 1, 0, 0, 0) ::
  (172, .aload_n 0, 1, 0, 0, 0) ::
  (173, .getfield 28, 3, 1, 3, 0) ::
  (176, .getfield 121, 3, 4, 5, 0) ::
  (179, .iload_n 2, 1, 2, 0, 0) ::
  (180, .iaload, 1, 0, 0, 0) ::
  (181, .ireturn, 1, 0, 0, 0) ::
  (182, .aload_n 0, 1, 0, 0, 0) ::
  (183, .getfield 28, 3, 1, 3, 0) ::
  (186, .getfield 124, 3, 4, 6, 0) ::
  (189, .iload_n 2, 1, 2, 0, 0) ::
  (190, .iaload, 1, 0, 0, 0) ::
  (191, .ireturn, 1, 0, 0, 0) ::
  (192, .aload_n 0, 1, 0, 0, 0) ::
  (193, .getfield 28, 3, 1, 3, 0) ::
  (196, .getfield 127, 3, 4, 3, 0) ::
  (199, .iload_n 2, 1, 2, 0, 0) ::
  (200, .iaload, 1, 0, 0, 0) ::
  (201, .ireturn, 1, 0, 0, 0) ::
  []
/-- 66 BlackSun$Way.combine(III)I -/
def r_66 : List ax_E :=
  (0, .iload_n 0, 1, 0, 0, 0) ::
  (1, .tableswitch 118 2 10 #[51, 55, 59, 70, 81, 92, 103, 118, 114], 51, 0, 0, 0) ::
  (52, .iload_n 1, 1, 1, 0, 0) ::
  (53, .iload_n 2, 1, 2, 0, 0) ::
  (54, .iadd, 1, 0, 0, 0) ::
  (55, .ireturn, 1, 0, 0, 0) ::
  (56, .iload_n 1, 1, 1, 0, 0) ::
  (57, .iload_n 2, 1, 2, 0, 0) ::
  (58, .isub, 1, 0, 0, 0) ::
  (59, .ireturn, 1, 0, 0, 0) ::
  (60, .iload_n 1, 1, 1, 0, 0) ::
  (61, .iload_n 2, 1, 2, 0, 0) ::
  (62, .if_icmp .ge 7, 3, 69, 0, 0) ::
  (65, .iconst 1, 1, 0, 0, 1) ::
  (66, .goto 4, 3, 70, 0, 0) ::
  (69, .iconst 0, 1, 0, 0, 0) ::
  (70, .ireturn, 1, 0, 0, 0) ::
  (71, .iload_n 1, 1, 1, 0, 0) ::
  (72, .iload_n 2, 1, 2, 0, 0) ::
  (73, .if_icmp .gt 7, 3, 80, 0, 0) ::
  (76, .iconst 1, 1, 0, 0, 1) ::
  (77, .goto 4, 3, 81, 0, 0) ::
  (80, .iconst 0, 1, 0, 0, 0) ::
  (81, .ireturn, 1, 0, 0, 0) ::
  (82, .iload_n 1, 1, 1, 0, 0) ::
  (83, .iload_n 2, 1, 2, 0, 0) ::
  (84, .if_icmp .ne 7, 3, 91, 0, 0) ::
  (87, .iconst 1, 1, 0, 0, 1) ::
  (88, .goto 4, 3, 92, 0, 0) ::
  (91, .iconst 0, 1, 0, 0, 0) ::
  (92, .ireturn, 1, 0, 0, 0) ::
  (93, .iload_n 1, 1, 1, 0, 0) ::
  (94, .iload_n 2, 1, 2, 0, 0) ::
  (95, .if_icmp .lt 7, 3, 102, 0, 0) ::
  (98, .iconst 1, 1, 0, 0, 1) ::
  (99, .goto 4, 3, 103, 0, 0) ::
  (102, .iconst 0, 1, 0, 0, 0) ::
  (103, .ireturn, 1, 0, 0, 0) ::
  (104, .iload_n 1, 1, 1, 0, 0) ::
  (105, .iload_n 2, 1, 2, 0, 0) ::
  (106, .if_icmp .le 7, 3, 113, 0, 0) ::
  (109, .iconst 1, 1, 0, 0, 1) ::
  (110, .goto 4, 3, 114, 0, 0) ::
  (113, .iconst 0, 1, 0, 0, 0) ::
  (114, .ireturn, 1, 0, 0, 0) ::
  (115, .iload_n 1, 1, 1, 0, 0) ::
  (116, .iload_n 2, 1, 2, 0, 0) ::
  (117, .iand, 1, 0, 0, 0) ::
  (118, .ireturn, 1, 0, 0, 0) ::
  (119, .iload_n 1, 1, 1, 0, 0) ::
  (120, .iload_n 2, 1, 2, 0, 0) ::
  (121, .ior, 1, 0, 0, 0) ::
  (122, .ireturn, 1, 0, 0, 0) ::
  []
/-- 67 BlackSun$Way.isLeaving(LBlackSun$Book;I[I)Z -/
def r_67_39 : List ax_E :=
  (39, .iload 4, 2, 4, 0, 0) ::
  (41, .aload_n 3, 1, 3, 0, 0) ::
  (42, .arraylength, 1, 0, 0, 0) ::
  (43, .if_icmp .lt 5, 3, 48, 0, 0) ::
  (46, .iconst 0, 1, 0, 0, 0) ::
  (47, .ireturn, 1, 1, 0, 0) ::
  (48, .aload_n 0, 1, 0, 0, 0) ::
  (49, .getfield 22, 3, 5, 3, 0) ::
  (52, .iload 5, 2, 5, 0, 0) ::
  (54, .iaload, 1, 0, 0, 0) ::
  (55, .iconst 4, 1, 0, 0, 4) ::
  (56, .ishr, 1, 0, 0, 0) ::
  (57, .istore 7, 2, 7, 0, 0) ::
  (59, .aload_n 3, 1, 3, 0, 0) ::
  (60, .iload 4, 2, 4, 0, 0) ::
  (62, .iload 6, 2, 6, 0, 0) ::
  (64, .ifCond .ne 8, 3, 72, 0, 0) ::
  (67, .iload 7, 2, 7, 0, 0) ::
  (69, .goto 10, 3, 79, 0, 0) ::
  (72, .aload_n 1, 1, 1, 0, 0) ::
  (73, .iload 7, 2, 7, 0, 0) ::
  (75, .iload_n 2, 1, 2, 0, 0) ::
  (76, .invokevirtual 25, 3, 65, 2, 1) ::
  (79, .iastore, 1, 0, 0, 0) ::
  (80, .iinc 4 1, 3, 4, 0, 1) ::
  (83, .goto 67, 3, 150, 0, 0) ::
  (86, .iload 6, 2, 6, 0, 0) ::
  (88, .bipush 9, 2, 0, 0, 9) ::
  (90, .if_icmp .ne 28, 3, 118, 0, 0) ::
  (93, .iload 4, 2, 4, 0, 0) ::
  (95, .iconst 1, 1, 0, 0, 1) ::
  (96, .if_icmp .ge 5, 3, 101, 0, 0) ::
  (99, .iconst 0, 1, 0, 0, 0) ::
  (100, .ireturn, 1, 1, 0, 0) ::
  (101, .aload_n 3, 1, 3, 0, 0) ::
  (102, .iload 4, 2, 4, 0, 0) ::
  (104, .iconst 1, 1, 0, 0, 1) ::
  (105, .isub, 1, 0, 0, 0) ::
  (106, .iconst 1, 1, 0, 0, 1) ::
  (107, .aload_n 3, 1, 3, 0, 0) ::
  (108, .iload 4, 2, 4, 0, 0) ::
  (110, .iconst 1, 1, 0, 0, 1) ::
  (111, .isub, 1, 0, 0, 0) ::
  (112, .iaload, 1, 0, 0, 0) ::
  (113, .isub, 1, 0, 0, 0) ::
  (114, .iastore, 1, 0, 0, 0) ::
  (115, .goto 35, 3, 150, 0, 0) ::
  (118, .iload 4, 2, 4, 0, 0) ::
  (120, .iconst 2, 1, 0, 0, 2) ::
  (121, .if_icmp .ge 5, 3, 126, 0, 0) ::
  (124, .iconst 0, 1, 0, 0, 0) ::
  (125, .ireturn, 1, 1, 0, 0) ::
  (126, .iinc 4 (-1), 3, 4, 0, (-1)) ::
  (129, .aload_n 3, 1, 3, 0, 0) ::
  (130, .iload 4, 2, 4, 0, 0) ::
  (132, .iconst 1, 1, 0, 0, 1) ::
  (133, .isub, 1, 0, 0, 0) ::
  (134, .iload 6, 2, 6, 0, 0) ::
  (136, .aload_n 3, 1, 3, 0, 0) ::
  (137, .iload 4, 2, 4, 0, 0) ::
  (139, .iconst 1, 1, 0, 0, 1) ::
  (140, .isub, 1, 0, 0, 0) ::
  (141, .iaload, 1, 0, 0, 0) ::
  (142, .aload_n 3, 1, 3, 0, 0) ::
  (143, .iload 4, 2, 4, 0, 0) ::
  (145, .iaload, 1, 0, 0, 0) ::
  (146, .invokestatic 31, 3, 66, 0, 1) ::
  (149, .iastore, 1, 0, 0, 0) ::
  (150, .iinc 5 1, 3, 5, 0, 1) ::
  (153, .goto (-147), 3, 6, 0, 0) ::
  (156, .iload 4, 2, 4, 0, 0) ::
  (158, .iconst 1, 1, 0, 0, 1) ::
  (159, .if_icmp .ne 14, 3, 173, 0, 0) ::
  (162, .aload_n 3, 1, 3, 0, 0) ::
  (163, .iconst 0, 1, 0, 0, 0) ::
  (164, .iaload, 1, 0, 0, 0) ::
  (165, .iconst 1, 1, 0, 0, 1) ::
  (166, .if_icmp .ne 7, 3, 173, 0, 0) ::
  (169, .iconst 1, 1, 0, 0, 1) ::
  (170, .goto 4, 3, 174, 0, 0) ::
  (173, .iconst 0, 1, 0, 0, 0) ::
  (174, .ireturn, 1, 1, 0, 0) ::
  []
def r_67_6 : List ax_E :=
  (6, .iload 5, 2, 5, 0, 0) ::
  (8, .aload_n 0, 1, 0, 0, 0) ::
  (9, .getfield 22, 3, 5, 3, 0) ::
  (12, .arraylength, 1, 0, 0, 0) ::
  (13, .if_icmp .ge 143, 3, 156, 0, 0) ::
  (16, .aload_n 0, 1, 0, 0, 0) ::
  (17, .getfield 22, 3, 5, 3, 0) ::
  (20, .iload 5, 2, 5, 0, 0) ::
  (22, .iaload, 1, 0, 0, 0) ::
  (23, .bipush 15, 2, 0, 0, 15) ::
  (25, .iand, 1, 0, 0, 0) ::
  (26, .istore 6, 2, 6, 0, 0) ::
  (28, .iload 6, 2, 6, 0, 0) ::
  (30, .ifCond .eq 9, 3, 39, 0, 0) ::
  (33, .iload 6, 2, 6, 0, 0) ::
  (35, .iconst 1, 1, 0, 0, 1) ::
  (36, .if_icmp .ne 50, 3, 86, 0, 0) ::
  (39, .jsr 0, 0, 127, 0, 0) ::
  r_67_39
def r_67 : List ax_E :=
  (0, .iconst 0, 1, 0, 0, 0) ::
  (1, .istore 4, 2, 4, 0, 0) ::
  (3, .iconst 0, 1, 0, 0, 0) ::
  (4, .istore 5, 2, 5, 0, 0) ::
  (6, .jsr 0, 0, 63, 0, 0) ::
  r_67_6
/-- 68 BlackSun$Fit.take(LBlackSun$Book;LBlackSun$Way;I)V -/
def r_68_65 : List ax_E :=
  (65, .istore 6, 2, 6, 0, 0) ::
  (67, .iload 6, 2, 6, 0, 0) ::
  (69, .ifCond .eq 38, 3, 107, 0, 0) ::
  (72, .aload_n 2, 1, 2, 0, 0) ::
  (73, .aload_n 1, 1, 1, 0, 0) ::
  (74, .iload 5, 2, 5, 0, 0) ::
  (76, .aload_n 0, 1, 0, 0, 0) ::
  (77, .getfield 45, 3, 7, 13, 0) ::
  (80, .invokevirtual 80, 3, 67, 10, 1) ::
  (83, .ifCond .ne 24, 3, 107, 0, 0) ::
  (86, .aload_n 0, 1, 0, 0, 0) ::
  (87, .getfield 11, 3, 7, 1, 0) ::
  (90, .aload_n 0, 1, 0, 0, 0) ::
  (91, .getfield 54, 3, 7, 0, 0) ::
  (94, .iload 5, 2, 5, 0, 0) ::
  (96, .iastore, 1, 0, 0, 0) ::
  (97, .aload_n 0, 1, 0, 0, 0) ::
  (98, .dup, 1, 0, 0, 0) ::
  (99, .getfield 54, 3, 7, 0, 0) ::
  (102, .iconst 1, 1, 0, 0, 1) ::
  (103, .iadd, 1, 0, 0, 0) ::
  (104, .putfield 54, 3, 7, 0, 0) ::
  (107, .iinc 5 1, 3, 5, 0, 1) ::
  (110, .goto (-96), 3, 14, 0, 0) ::
  (113, .return_, 1, 0, 0, 0) ::
  []
def r_68_14 : List ax_E :=
  (14, .iload 5, 2, 5, 0, 0) ::
  (16, .aload 4, 2, 4, 0, 0) ::
  (18, .getfield 58, 3, 4, 0, 0) ::
  (21, .if_icmp .ge 92, 3, 113, 0, 0) ::
  (24, .aload 4, 2, 4, 0, 0) ::
  (26, .iload 5, 2, 5, 0, 0) ::
  (28, .iload_n 3, 1, 3, 0, 0) ::
  (29, .invokevirtual 63, 3, 22, 8, 1) ::
  (32, .ifCond .eq 32, 3, 64, 0, 0) ::
  (35, .aload_n 1, 1, 1, 0, 0) ::
  (36, .iload 5, 2, 5, 0, 0) ::
  (38, .invokevirtual 67, 3, 63, 2, 1) ::
  (41, .iconst 2, 1, 0, 0, 2) ::
  (42, .if_icmp .eq 22, 3, 64, 0, 0) ::
  (45, .aload_n 2, 1, 2, 0, 0) ::
  (46, .aload 4, 2, 4, 0, 0) ::
  (48, .getfield 71, 3, 4, 3, 0) ::
  (51, .iload 5, 2, 5, 0, 0) ::
  (53, .iaload, 1, 0, 0, 0) ::
  (54, .invokevirtual 74, 3, 64, 10, 1) ::
  (57, .ifCond .eq 7, 3, 64, 0, 0) ::
  (60, .iconst 1, 1, 0, 0, 1) ::
  (61, .goto 4, 3, 65, 0, 0) ::
  (64, .iconst 0, 1, 0, 0, 0) ::
  (65, .jsr 0, 0, 63, 0, 0) ::
  r_68_65
def r_68 : List ax_E :=
  (0, .aload_n 1, 1, 1, 0, 0) ::
  (1, .getfield 48, 3, 1, 3, 0) ::
  (4, .astore 4, 2, 4, 0, 0) ::
  (6, .aload_n 0, 1, 0, 0, 0) ::
  (7, .iconst 0, 1, 0, 0, 0) ::
  (8, .putfield 54, 3, 7, 0, 0) ::
  (11, .iconst 0, 1, 0, 0, 0) ::
  (12, .istore 5, 2, 5, 0, 0) ::
  (14, .jsr 0, 0, 63, 0, 0) ::
  r_68_14
/-- 69 BlackSun.takes(III)I -/
def r_69 : List ax_E :=
  (0, .aload_n 0, 1, 0, 0, 0) ::
  (1, .getfield 10, 3, 0, 0, 0) ::
  (4, .iload_n 1, 1, 1, 0, 0) ::
  (5, .invokevirtual 141, 3, 61, 2, 3) ::
  (8, .astore 4, 2, 4, 0, 0) ::
  (10, .aload 4, 2, 4, 0, 0) ::
  (12, .ifnull 10, 3, 22, 0, 0) ::
  (15, .iload_n 2, 1, 2, 0, 0) ::
  (16, .invokestatic 100, 3, 26, 0, 1) ::
  (19, .ifCond .ne 5, 3, 24, 0, 0) ::
  (22, .iconst (-1), 1, 0, 0, (-1)) ::
  (23, .ireturn, 1, 0, 0, 0) ::
  (24, .aload_n 0, 1, 0, 0, 0) ::
  (25, .getfield 30, 3, 0, 3, 0) ::
  (28, .aload_n 0, 1, 0, 0, 0) ::
  (29, .getfield 10, 3, 0, 0, 0) ::
  (32, .aload 4, 2, 4, 0, 0) ::
  (34, .iload_n 2, 1, 2, 0, 0) ::
  (35, .invokevirtual 150, 3, 68, 14, 0) ::
  (38, .iload_n 3, 1, 3, 0, 0) ::
  (39, .iconst (-1), 1, 0, 0, (-1)) ::
  (40, .if_icmp .ne 11, 3, 51, 0, 0) ::
  (43, .aload_n 0, 1, 0, 0, 0) ::
  (44, .getfield 30, 3, 0, 3, 0) ::
  (47, .getfield 154, 3, 7, 0, 0) ::
  (50, .ireturn, 1, 0, 0, 0) ::
  (51, .iload_n 3, 1, 3, 0, 0) ::
  (52, .iconst 0, 1, 0, 0, 0) ::
  (53, .aload_n 0, 1, 0, 0, 0) ::
  (54, .getfield 30, 3, 0, 3, 0) ::
  (57, .getfield 154, 3, 7, 0, 0) ::
  (60, .iconst 1, 1, 0, 0, 1) ::
  (61, .isub, 1, 0, 0, 0) ::
  (62, .invokestatic 45, 3, 11, 0, 1) ::
  (65, .ifCond .eq 15, 3, 80, 0, 0) ::
  (68, .aload_n 0, 1, 0, 0, 0) ::
  (69, .getfield 30, 3, 0, 3, 0) ::
  (72, .getfield 157, 3, 7, 1, 0) ::
  (75, .iload_n 3, 1, 3, 0, 0) ::
  (76, .iaload, 1, 0, 0, 0) ::
  (77, .goto 4, 3, 81, 0, 0) ::
  (80, .iconst (-1), 1, 0, 0, (-1)) ::
  (81, .ireturn, 1, 0, 0, 0) ::
  []
/-- 70 BlackSun$Book.termOf(III)I -/
def r_70 : List ax_E :=
  (0, .iload_n 1, 1, 1, 0, 0) ::
  (1, .iconst 4, 1, 0, 0, 4) ::
  (2, .if_icmp .ne 14, 3, 16, 0, 0) ::
  (5, .aload_n 0, 1, 0, 0, 0) ::
  (6, .iload_n 2, 1, 2, 0, 0) ::
  (7, .invokevirtual 89, 3, 63, 2, 1) ::
  (10, .iconst 1, 1, 0, 0, 1) ::
  (11, .if_icmp .ne 5, 3, 16, 0, 0) ::
  (14, .iconst 0, 1, 0, 0, 0) ::
  (15, .ireturn, 1, 0, 0, 0) ::
  (16, .aload_n 0, 1, 0, 0, 0) ::
  (17, .getfield 12, 3, 1, 1, 0) ::
  (20, .iload_n 1, 1, 1, 0, 0) ::
  (21, .aload_n 0, 1, 0, 0, 0) ::
  (22, .getfield 28, 3, 1, 3, 0) ::
  (25, .getfield 93, 3, 4, 2, 0) ::
  (28, .iload_n 2, 1, 2, 0, 0) ::
  (29, .iaload, 1, 0, 0, 0) ::
  (30, .iload_n 3, 1, 3, 0, 0) ::
  (31, .invokevirtual 96, 3, 31, 4, 1) ::
  (34, .ireturn, 1, 0, 0, 0) ::
  []
/-- 71 java/lang/Math.floorDiv(JJ)J -/
def r_71 : List ax_E :=
  (0, .lload_n 0, 1, 0, 0, 0) ::
  (1, .lload_n 2, 1, 2, 0, 0) ::
  (2, .ldiv, 1, 0, 0, 0) ::
  (3, .lstore 4, 2, 4, 0, 0) ::
  (5, .lload_n 0, 1, 0, 0, 0) ::
  (6, .lload_n 2, 1, 2, 0, 0) ::
  (7, .lxor, 1, 0, 0, 0) ::
  (8, .lconst 0, 1, 0, 0, 0) ::
  (9, .lcmp, 1, 0, 0, 0) ::
  (10, .ifCond .ge 17, 3, 27, 0, 0) ::
  (13, .lload 4, 2, 4, 0, 0) ::
  (15, .lload_n 2, 1, 2, 0, 0) ::
  (16, .lmul, 1, 0, 0, 0) ::
  (17, .lload_n 0, 1, 0, 0, 0) ::
  (18, .lcmp, 1, 0, 0, 0) ::
  (19, .ifCond .eq 8, 3, 27, 0, 0) ::
  (22, .lload 4, 2, 4, 0, 0) ::
  (24, .lconst 1, 1, 0, 0, 1) ::
  (25, .lsub, 1, 0, 0, 0) ::
  (26, .lreturn, 1, 0, 0, 0) ::
  (27, .lload 4, 2, 4, 0, 0) ::
  (29, .lreturn, 1, 0, 0, 0) ::
  []
/-- 72 BlackSun$Fit.put(IJJ)Z -/
def r_72 : List ax_E :=
  (0, .lload 4, 2, 4, 0, 0) ::
  (2, .lconst 0, 1, 0, 0, 0) ::
  (3, .lcmp, 1, 0, 0, 0) ::
  (4, .ifCond .gt 5, 3, 9, 0, 0) ::
  (7, .iconst 0, 1, 0, 0, 0) ::
  (8, .ireturn, 1, 1, 0, 0) ::
  (9, .lload_n 2, 1, 2, 0, 0) ::
  (10, .lload 4, 2, 4, 0, 0) ::
  (12, .invokestatic 175, 3, 71, 0, 2) ::
  (15, .lstore 6, 2, 6, 0, 0) ::
  (17, .lload 6, 2, 6, 0, 0) ::
  (19, .ldc2_w 181, 3, 0, 0, 99999999) ::
  (22, .lcmp, 1, 0, 0, 0) ::
  (23, .ifCond .gt 12, 3, 35, 0, 0) ::
  (26, .lload 6, 2, 6, 0, 0) ::
  (28, .ldc2_w 183, 3, 0, 0, (-99999999)) ::
  (31, .lcmp, 1, 0, 0, 0) ::
  (32, .ifCond .ge 5, 3, 37, 0, 0) ::
  (35, .iconst 0, 1, 0, 0, 0) ::
  (36, .ireturn, 1, 1, 0, 0) ::
  (37, .lload 6, 2, 6, 0, 0) ::
  (39, .ldc2_w 185, 3, 0, 0, 1000) ::
  (42, .lmul, 1, 0, 0, 0) ::
  (43, .lload_n 2, 1, 2, 0, 0) ::
  (44, .lload 6, 2, 6, 0, 0) ::
  (46, .lload 4, 2, 4, 0, 0) ::
  (48, .lmul, 1, 0, 0, 0) ::
  (49, .lsub, 1, 0, 0, 0) ::
  (50, .ldc2_w 185, 3, 0, 0, 1000) ::
  (53, .lmul, 1, 0, 0, 0) ::
  (54, .lload 4, 2, 4, 0, 0) ::
  (56, .ldiv, 1, 0, 0, 0) ::
  (57, .ladd, 1, 0, 0, 0) ::
  (58, .lstore 8, 2, 8, 0, 0) ::
  (60, .lload 8, 2, 8, 0, 0) ::
  (62, .ldc2_w 181, 3, 0, 0, 99999999) ::
  (65, .lcmp, 1, 0, 0, 0) ::
  (66, .ifCond .gt 12, 3, 78, 0, 0) ::
  (69, .lload 8, 2, 8, 0, 0) ::
  (71, .ldc2_w 183, 3, 0, 0, (-99999999)) ::
  (74, .lcmp, 1, 0, 0, 0) ::
  (75, .ifCond .ge 5, 3, 80, 0, 0) ::
  (78, .iconst 0, 1, 0, 0, 0) ::
  (79, .ireturn, 1, 1, 0, 0) ::
  (80, .aload_n 0, 1, 0, 0, 0) ::
  (81, .getfield 15, 3, 7, 2, 0) ::
  (84, .iload_n 1, 1, 1, 0, 0) ::
  (85, .lload 8, 2, 8, 0, 0) ::
  (87, .l2i, 1, 0, 0, 0) ::
  (88, .iastore, 1, 0, 0, 0) ::
  (89, .iconst 1, 1, 0, 0, 1) ::
  (90, .ireturn, 1, 1, 0, 0) ::
  []
/-- 73 BlackSun$Fit.settleCheck(LBlackSun$Book;LBlackSun$Way;II)Z -/
def r_73_15 : List ax_E :=
  (15, .iload 10, 2, 10, 0, 0) ::
  (17, .aload 5, 2, 5, 0, 0) ::
  (19, .getfield 58, 3, 4, 0, 0) ::
  (22, .if_icmp .ge 113, 3, 135, 0, 0) ::
  (25, .aload 5, 2, 5, 0, 0) ::
  (27, .iload 10, 2, 10, 0, 0) ::
  (29, .iload_n 3, 1, 3, 0, 0) ::
  (30, .invokevirtual 63, 3, 22, 8, 1) ::
  (33, .ifCond .eq 96, 3, 129, 0, 0) ::
  (36, .aload_n 1, 1, 1, 0, 0) ::
  (37, .iload 10, 2, 10, 0, 0) ::
  (39, .invokevirtual 67, 3, 63, 2, 1) ::
  (42, .iconst 2, 1, 0, 0, 2) ::
  (43, .if_icmp .ne 86, 3, 129, 0, 0) ::
  (46, .aload_n 2, 1, 2, 0, 0) ::
  (47, .aload 5, 2, 5, 0, 0) ::
  (49, .getfield 71, 3, 4, 3, 0) ::
  (52, .iload 10, 2, 10, 0, 0) ::
  (54, .iaload, 1, 0, 0, 0) ::
  (55, .invokevirtual 74, 3, 64, 10, 1) ::
  (58, .ifCond .eq 71, 3, 129, 0, 0) ::
  (61, .aload_n 1, 1, 1, 0, 0) ::
  (62, .iload 4, 2, 4, 0, 0) ::
  (64, .iload 10, 2, 10, 0, 0) ::
  (66, .iconst 0, 1, 0, 0, 0) ::
  (67, .invokevirtual 112, 3, 70, 2, 1) ::
  (70, .istore 11, 2, 11, 0, 0) ::
  (72, .aload_n 1, 1, 1, 0, 0) ::
  (73, .iload 4, 2, 4, 0, 0) ::
  (75, .iload 10, 2, 10, 0, 0) ::
  (77, .iconst 1, 1, 0, 0, 1) ::
  (78, .invokevirtual 112, 3, 70, 2, 1) ::
  (81, .istore 12, 2, 12, 0, 0) ::
  (83, .lload 6, 2, 6, 0, 0) ::
  (85, .iload 11, 2, 11, 0, 0) ::
  (87, .aload 5, 2, 5, 0, 0) ::
  (89, .getfield 116, 3, 4, 4, 0) ::
  (92, .iload 10, 2, 10, 0, 0) ::
  (94, .iaload, 1, 0, 0, 0) ::
  (95, .imul, 1, 0, 0, 0) ::
  (96, .iload 12, 2, 12, 0, 0) ::
  (98, .aload 5, 2, 5, 0, 0) ::
  (100, .getfield 119, 3, 4, 5, 0) ::
  (103, .iload 10, 2, 10, 0, 0) ::
  (105, .iaload, 1, 0, 0, 0) ::
  (106, .imul, 1, 0, 0, 0) ::
  (107, .iadd, 1, 0, 0, 0) ::
  (108, .i2l, 1, 0, 0, 0) ::
  (109, .ladd, 1, 0, 0, 0) ::
  (110, .lstore 6, 2, 6, 0, 0) ::
  (112, .lload 8, 2, 8, 0, 0) ::
  (114, .iload 11, 2, 11, 0, 0) ::
  (116, .iload 11, 2, 11, 0, 0) ::
  (118, .imul, 1, 0, 0, 0) ::
  (119, .iload 12, 2, 12, 0, 0) ::
  (121, .iload 12, 2, 12, 0, 0) ::
  (123, .imul, 1, 0, 0, 0) ::
  (124, .iadd, 1, 0, 0, 0) ::
  (125, .i2l, 1, 0, 0, 0) ::
  (126, .ladd, 1, 0, 0, 0) ::
  (127, .lstore 8, 2, 8, 0, 0) ::
  (129, .iinc 10 1, 3, 10, 0, 1) ::
  (132, .goto (-117), 3, 15, 0, 0) ::
  (135, .aload_n 0, 1, 0, 0, 0) ::
  (136, .iload 4, 2, 4, 0, 0) ::
  (138, .lload 6, 2, 6, 0, 0) ::
  (140, .lload 8, 2, 8, 0, 0) ::
  (142, .invokevirtual 122, 3, 72, 14, 1) ::
  (145, .ireturn, 1, 1, 0, 0) ::
  []
def r_73 : List ax_E :=
  (0, .aload_n 1, 1, 1, 0, 0) ::
  (1, .getfield 48, 3, 1, 3, 0) ::
  (4, .astore 5, 2, 5, 0, 0) ::
  (6, .lconst 0, 1, 0, 0, 0) ::
  (7, .lstore 6, 2, 6, 0, 0) ::
  (9, .lconst 0, 1, 0, 0, 0) ::
  (10, .lstore 8, 2, 8, 0, 0) ::
  (12, .iconst 0, 1, 0, 0, 0) ::
  (13, .istore 10, 2, 10, 0, 0) ::
  (15, .jsr 0, 0, 1407, 0, 0) ::
  r_73_15
/-- 74 BlackSun$Fit.settle(LBlackSun$Book;LBlackSun$Way;II)Z -/
def r_74_111 : List ax_E :=
  (111, .iload 7, 2, 7, 0, 0) ::
  (113, .iconst 3, 1, 0, 0, 3) ::
  (114, .if_icmp .ne 17, 3, 131, 0, 0) ::
  (117, .aload_n 0, 1, 0, 0, 0) ::
  (118, .aload_n 1, 1, 1, 0, 0) ::
  (119, .aload_n 2, 1, 2, 0, 0) ::
  (120, .iload_n 3, 1, 3, 0, 0) ::
  (121, .iload 5, 2, 5, 0, 0) ::
  (123, .invokevirtual 109, 3, 73, 14, 1) ::
  (126, .ifCond .ne 5, 3, 131, 0, 0) ::
  (129, .iconst 0, 1, 0, 0, 0) ::
  (130, .ireturn, 1, 1, 0, 0) ::
  (131, .iinc 5 1, 3, 5, 0, 1) ::
  (134, .goto (-126), 3, 8, 0, 0) ::
  (137, .iconst 1, 1, 0, 0, 1) ::
  (138, .ireturn, 1, 1, 0, 0) ::
  []
def r_74_75 : List ax_E :=
  (75, .iastore, 1, 0, 0, 0) ::
  (76, .iload 7, 2, 7, 0, 0) ::
  (78, .iconst 1, 1, 0, 0, 1) ::
  (79, .if_icmp .ne 32, 3, 111, 0, 0) ::
  (82, .aload_n 0, 1, 0, 0, 0) ::
  (83, .getfield 100, 3, 7, 4, 0) ::
  (86, .iconst 3, 1, 0, 0, 3) ::
  (87, .if_icmp .ge 24, 3, 111, 0, 0) ::
  (90, .aload_n 0, 1, 0, 0, 0) ::
  (91, .getfield 18, 3, 7, 5, 0) ::
  (94, .aload_n 0, 1, 0, 0, 0) ::
  (95, .getfield 100, 3, 7, 4, 0) ::
  (98, .iload 5, 2, 5, 0, 0) ::
  (100, .iastore, 1, 0, 0, 0) ::
  (101, .aload_n 0, 1, 0, 0, 0) ::
  (102, .dup, 1, 0, 0, 0) ::
  (103, .getfield 100, 3, 7, 4, 0) ::
  (106, .iconst 1, 1, 0, 0, 1) ::
  (107, .iadd, 1, 0, 0, 0) ::
  (108, .putfield 100, 3, 7, 4, 0) ::
  (111, .jsr 0, 0, 191, 0, 0) ::
  r_74_111
def r_74_32 : List ax_E :=
  (32, .istore 6, 2, 6, 0, 0) ::
  (34, .iload 6, 2, 6, 0, 0) ::
  (36, .ifCond .eq 7, 3, 43, 0, 0) ::
  (39, .iconst 2, 1, 0, 0, 2) ::
  (40, .goto 10, 3, 50, 0, 0) ::
  (43, .aload_n 2, 1, 2, 0, 0) ::
  (44, .getfield 103, 3, 5, 0, 0) ::
  (47, .iload 5, 2, 5, 0, 0) ::
  (49, .iaload, 1, 0, 0, 0) ::
  (50, .istore 7, 2, 7, 0, 0) ::
  (52, .aload_n 0, 1, 0, 0, 0) ::
  (53, .getfield 15, 3, 7, 2, 0) ::
  (56, .iload 5, 2, 5, 0, 0) ::
  (58, .iload 6, 2, 6, 0, 0) ::
  (60, .ifCond .eq 8, 3, 68, 0, 0) ::
  (63, .iload 4, 2, 4, 0, 0) ::
  (65, .goto 10, 3, 75, 0, 0) ::
  (68, .aload_n 2, 1, 2, 0, 0) ::
  (69, .getfield 106, 3, 5, 1, 0) ::
  (72, .iload 5, 2, 5, 0, 0) ::
  (74, .iaload, 1, 0, 0, 0) ::
  (75, .jsr 0, 0, 191, 0, 0) ::
  r_74_75
def r_74_8 : List ax_E :=
  (8, .iload 5, 2, 5, 0, 0) ::
  (10, .bipush 6, 2, 0, 0, 6) ::
  (12, .if_icmp .ge 125, 3, 137, 0, 0) ::
  (15, .iload 5, 2, 5, 0, 0) ::
  (17, .iconst 4, 1, 0, 0, 4) ::
  (18, .if_icmp .ne 13, 3, 31, 0, 0) ::
  (21, .iload 4, 2, 4, 0, 0) ::
  (23, .iconst (-1), 1, 0, 0, (-1)) ::
  (24, .if_icmp .eq 7, 3, 31, 0, 0) ::
  (27, .iconst 1, 1, 0, 0, 1) ::
  (28, .goto 4, 3, 32, 0, 0) ::
  (31, .iconst 0, 1, 0, 0, 0) ::
  (32, .jsr 0, 0, 63, 0, 0) ::
  r_74_32
def r_74 : List ax_E :=
  (0, .aload_n 0, 1, 0, 0, 0) ::
  (1, .iconst 0, 1, 0, 0, 0) ::
  (2, .putfield 100, 3, 7, 4, 0) ::
  (5, .iconst 0, 1, 0, 0, 0) ::
  (6, .istore 5, 2, 5, 0, 0) ::
  (8, .jsr 0, 0, 63, 0, 0) ::
  r_74_8
end
section
/-! rows of the methods, printed by wip/gen/rows.py -/
/-- 75 BlackSun$Fit.settledOf(LBlackSun$Book;II)I -/
def r_75_6 : List ax_E :=
  (6, .iload 5, 2, 5, 0, 0) ::
  (8, .bipush 6, 2, 0, 0, 6) ::
  (10, .if_icmp .ge 44, 3, 54, 0, 0) ::
  (13, .aload_n 0, 1, 0, 0, 0) ::
  (14, .getfield 15, 3, 7, 2, 0) ::
  (17, .iload 5, 2, 5, 0, 0) ::
  (19, .iaload, 1, 0, 0, 0) ::
  (20, .ifCond .eq 28, 3, 48, 0, 0) ::
  (23, .iload 4, 2, 4, 0, 0) ::
  (25, .aload_n 0, 1, 0, 0, 0) ::
  (26, .getfield 15, 3, 7, 2, 0) ::
  (29, .iload 5, 2, 5, 0, 0) ::
  (31, .iaload, 1, 0, 0, 0) ::
  (32, .aload_n 1, 1, 1, 0, 0) ::
  (33, .iload 5, 2, 5, 0, 0) ::
  (35, .iload_n 2, 1, 2, 0, 0) ::
  (36, .iload_n 3, 1, 3, 0, 0) ::
  (37, .invokevirtual 112, 3, 70, 2, 1) ::
  (40, .imul, 1, 0, 0, 0) ::
  (41, .sipush 1000, 3, 0, 0, 1000) ::
  (44, .idiv, 1, 0, 0, 0) ::
  (45, .iadd, 1, 0, 0, 0) ::
  (46, .istore 4, 2, 4, 0, 0) ::
  (48, .iinc 5 1, 3, 5, 0, 1) ::
  (51, .goto (-45), 3, 6, 0, 0) ::
  (54, .iload 4, 2, 4, 0, 0) ::
  (56, .ireturn, 1, 0, 0, 0) ::
  []
def r_75 : List ax_E :=
  (0, .iconst 0, 1, 0, 0, 0) ::
  (1, .istore 4, 2, 4, 0, 0) ::
  (3, .iconst 0, 1, 0, 0, 0) ::
  (4, .istore 5, 2, 5, 0, 0) ::
  (6, .jsr 0, 0, 63, 0, 0) ::
  r_75_6
/-- 76 BlackSun$Fit.makeRows(LBlackSun$Book;)V -/
def r_76_53 : List ax_E :=
  (53, .iload 7, 2, 7, 0, 0) ::
  (55, .aload_n 0, 1, 0, 0, 0) ::
  (56, .getfield 100, 3, 7, 4, 0) ::
  (59, .if_icmp .ge 35, 3, 94, 0, 0) ::
  (62, .aload_n 0, 1, 0, 0, 0) ::
  (63, .getfield 21, 3, 7, 6, 0) ::
  (66, .iload 6, 2, 6, 0, 0) ::
  (68, .iconst 3, 1, 0, 0, 3) ::
  (69, .imul, 1, 0, 0, 0) ::
  (70, .iload 7, 2, 7, 0, 0) ::
  (72, .iadd, 1, 0, 0, 0) ::
  (73, .aload_n 1, 1, 1, 0, 0) ::
  (74, .aload_n 0, 1, 0, 0, 0) ::
  (75, .getfield 18, 3, 7, 5, 0) ::
  (78, .iload 7, 2, 7, 0, 0) ::
  (80, .iaload, 1, 0, 0, 0) ::
  (81, .iload_n 3, 1, 3, 0, 0) ::
  (82, .iload 5, 2, 5, 0, 0) ::
  (84, .invokevirtual 112, 3, 70, 2, 1) ::
  (87, .iastore, 1, 0, 0, 0) ::
  (88, .iinc 7 1, 3, 7, 0, 1) ::
  (91, .goto (-38), 3, 53, 0, 0) ::
  (94, .aload_n 0, 1, 0, 0, 0) ::
  (95, .getfield 24, 3, 7, 7, 0) ::
  (98, .iload 6, 2, 6, 0, 0) ::
  (100, .aload_n 0, 1, 0, 0, 0) ::
  (101, .aload_n 1, 1, 1, 0, 0) ::
  (102, .iload_n 3, 1, 3, 0, 0) ::
  (103, .iload 5, 2, 5, 0, 0) ::
  (105, .invokevirtual 126, 3, 75, 14, 1) ::
  (108, .iastore, 1, 0, 0, 0) ::
  (109, .aload_n 1, 1, 1, 0, 0) ::
  (110, .getfield 48, 3, 1, 3, 0) ::
  (113, .iload_n 3, 1, 3, 0, 0) ::
  (114, .iload 5, 2, 5, 0, 0) ::
  (116, .invokevirtual 130, 3, 28, 8, 1) ::
  (119, .istore 7, 2, 7, 0, 0) ::
  (121, .aload_n 0, 1, 0, 0, 0) ::
  (122, .getfield 27, 3, 7, 8, 0) ::
  (125, .iload 6, 2, 6, 0, 0) ::
  (127, .iload 4, 2, 4, 0, 0) ::
  (129, .ifCond .eq 9, 3, 138, 0, 0) ::
  (132, .iload 7, 2, 7, 0, 0) ::
  (134, .ineg, 1, 0, 0, 0) ::
  (135, .goto 5, 3, 140, 0, 0) ::
  (138, .iload 7, 2, 7, 0, 0) ::
  (140, .aload_n 0, 1, 0, 0, 0) ::
  (141, .getfield 24, 3, 7, 7, 0) ::
  (144, .iload 6, 2, 6, 0, 0) ::
  (146, .iaload, 1, 0, 0, 0) ::
  (147, .isub, 1, 0, 0, 0) ::
  (148, .iastore, 1, 0, 0, 0) ::
  (149, .iinc 5 1, 3, 5, 0, 1) ::
  (152, .goto (-116), 3, 36, 0, 0) ::
  (155, .iinc 2 1, 3, 2, 0, 1) ::
  (158, .goto (-156), 3, 2, 0, 0) ::
  (161, .return_, 1, 0, 0, 0) ::
  []
def r_76_36 : List ax_E :=
  (36, .iload 5, 2, 5, 0, 0) ::
  (38, .iconst 2, 1, 0, 0, 2) ::
  (39, .if_icmp .ge 116, 3, 155, 0, 0) ::
  (42, .iconst 2, 1, 0, 0, 2) ::
  (43, .iload_n 2, 1, 2, 0, 0) ::
  (44, .imul, 1, 0, 0, 0) ::
  (45, .iload 5, 2, 5, 0, 0) ::
  (47, .iadd, 1, 0, 0, 0) ::
  (48, .istore 6, 2, 6, 0, 0) ::
  (50, .iconst 0, 1, 0, 0, 0) ::
  (51, .istore 7, 2, 7, 0, 0) ::
  (53, .jsr 0, 0, 255, 0, 0) ::
  r_76_53
def r_76_2 : List ax_E :=
  (2, .iload_n 2, 1, 2, 0, 0) ::
  (3, .aload_n 0, 1, 0, 0, 0) ::
  (4, .getfield 54, 3, 7, 0, 0) ::
  (7, .if_icmp .ge 154, 3, 161, 0, 0) ::
  (10, .aload_n 0, 1, 0, 0, 0) ::
  (11, .getfield 11, 3, 7, 1, 0) ::
  (14, .iload_n 2, 1, 2, 0, 0) ::
  (15, .iaload, 1, 0, 0, 0) ::
  (16, .istore_n 3, 1, 3, 0, 0) ::
  (17, .aload_n 1, 1, 1, 0, 0) ::
  (18, .iload_n 3, 1, 3, 0, 0) ::
  (19, .invokevirtual 67, 3, 63, 2, 1) ::
  (22, .iconst 1, 1, 0, 0, 1) ::
  (23, .if_icmp .ne 7, 3, 30, 0, 0) ::
  (26, .iconst 1, 1, 0, 0, 1) ::
  (27, .goto 4, 3, 31, 0, 0) ::
  (30, .iconst 0, 1, 0, 0, 0) ::
  (31, .istore 4, 2, 4, 0, 0) ::
  (33, .iconst 0, 1, 0, 0, 0) ::
  (34, .istore 5, 2, 5, 0, 0) ::
  (36, .jsr 0, 0, 63, 0, 0) ::
  r_76_36
def r_76 : List ax_E :=
  (0, .iconst 0, 1, 0, 0, 0) ::
  (1, .istore_n 2, 1, 2, 0, 0) ::
  (2, .jsr 0, 0, 7, 0, 0) ::
  r_76_2
/-- 77 BlackSun$Fit.clearSum()V -/
def r_77_2 : List ax_E :=
  (2, .iload_n 1, 1, 1, 0, 0) ::
  (3, .bipush 13, 2, 0, 0, 13) ::
  (5, .if_icmp .ge 16, 3, 21, 0, 0) ::
  (8, .aload_n 0, 1, 0, 0, 0) ::
  (9, .getfield 38, 3, 7, 11, 0) ::
  (12, .iload_n 1, 1, 1, 0, 0) ::
  (13, .lconst 0, 1, 0, 0, 0) ::
  (14, .lastore, 1, 0, 0, 0) ::
  (15, .iinc 1 1, 3, 1, 0, 1) ::
  (18, .goto (-16), 3, 2, 0, 0) ::
  (21, .return_, 1, 0, 0, 0) ::
  []
def r_77 : List ax_E :=
  (0, .iconst 0, 1, 0, 0, 0) ::
  (1, .istore_n 1, 1, 1, 0, 0) ::
  (2, .jsr 0, 0, 3, 0, 0) ::
  r_77_2
/-- 78 BlackSun$Fit.addRow(I)V -/
def r_78_28 : List ax_E :=
  (28, .iload 6, 2, 6, 0, 0) ::
  (30, .aload_n 0, 1, 0, 0, 0) ::
  (31, .getfield 100, 3, 7, 4, 0) ::
  (34, .if_icmp .ge 36, 3, 70, 0, 0) ::
  (37, .aload_n 0, 1, 0, 0, 0) ::
  (38, .getfield 38, 3, 7, 11, 0) ::
  (41, .iload_n 3, 1, 3, 0, 0) ::
  (42, .iconst 4, 1, 0, 0, 4) ::
  (43, .imul, 1, 0, 0, 0) ::
  (44, .iload 6, 2, 6, 0, 0) ::
  (46, .iadd, 1, 0, 0, 0) ::
  (47, .dup2, 1, 0, 0, 0) ::
  (48, .laload, 1, 0, 0, 0) ::
  (49, .lload 4, 2, 4, 0, 0) ::
  (51, .aload_n 0, 1, 0, 0, 0) ::
  (52, .getfield 21, 3, 7, 6, 0) ::
  (55, .iload_n 2, 1, 2, 0, 0) ::
  (56, .iload 6, 2, 6, 0, 0) ::
  (58, .iadd, 1, 0, 0, 0) ::
  (59, .iaload, 1, 0, 0, 0) ::
  (60, .i2l, 1, 0, 0, 0) ::
  (61, .lmul, 1, 0, 0, 0) ::
  (62, .ladd, 1, 0, 0, 0) ::
  (63, .lastore, 1, 0, 0, 0) ::
  (64, .iinc 6 1, 3, 6, 0, 1) ::
  (67, .goto (-39), 3, 28, 0, 0) ::
  (70, .aload_n 0, 1, 0, 0, 0) ::
  (71, .getfield 38, 3, 7, 11, 0) ::
  (74, .iload_n 3, 1, 3, 0, 0) ::
  (75, .iconst 4, 1, 0, 0, 4) ::
  (76, .imul, 1, 0, 0, 0) ::
  (77, .iconst 3, 1, 0, 0, 3) ::
  (78, .iadd, 1, 0, 0, 0) ::
  (79, .dup2, 1, 0, 0, 0) ::
  (80, .laload, 1, 0, 0, 0) ::
  (81, .lload 4, 2, 4, 0, 0) ::
  (83, .aload_n 0, 1, 0, 0, 0) ::
  (84, .getfield 27, 3, 7, 8, 0) ::
  (87, .iload_n 1, 1, 1, 0, 0) ::
  (88, .iaload, 1, 0, 0, 0) ::
  (89, .i2l, 1, 0, 0, 0) ::
  (90, .lmul, 1, 0, 0, 0) ::
  (91, .ladd, 1, 0, 0, 0) ::
  (92, .lastore, 1, 0, 0, 0) ::
  (93, .iinc 3 1, 3, 3, 0, 1) ::
  (96, .goto (-90), 3, 6, 0, 0) ::
  (99, .return_, 1, 0, 0, 0) ::
  []
def r_78_6 : List ax_E :=
  (6, .iload_n 3, 1, 3, 0, 0) ::
  (7, .aload_n 0, 1, 0, 0, 0) ::
  (8, .getfield 100, 3, 7, 4, 0) ::
  (11, .if_icmp .ge 88, 3, 99, 0, 0) ::
  (14, .aload_n 0, 1, 0, 0, 0) ::
  (15, .getfield 21, 3, 7, 6, 0) ::
  (18, .iload_n 2, 1, 2, 0, 0) ::
  (19, .iload_n 3, 1, 3, 0, 0) ::
  (20, .iadd, 1, 0, 0, 0) ::
  (21, .iaload, 1, 0, 0, 0) ::
  (22, .i2l, 1, 0, 0, 0) ::
  (23, .lstore 4, 2, 4, 0, 0) ::
  (25, .iload_n 3, 1, 3, 0, 0) ::
  (26, .istore 6, 2, 6, 0, 0) ::
  (28, .jsr 0, 0, 95, 0, 0) ::
  r_78_28
def r_78 : List ax_E :=
  (0, .iload_n 1, 1, 1, 0, 0) ::
  (1, .iconst 3, 1, 0, 0, 3) ::
  (2, .imul, 1, 0, 0, 0) ::
  (3, .istore_n 2, 1, 2, 0, 0) ::
  (4, .iconst 0, 1, 0, 0, 0) ::
  (5, .istore_n 3, 1, 3, 0, 0) ::
  (6, .jsr 0, 0, 15, 0, 0) ::
  r_78_6
/-- 79 BlackSun$Fit.addSum([J[J)V -/
def r_79_2 : List ax_E :=
  (2, .iload_n 2, 1, 2, 0, 0) ::
  (3, .bipush 13, 2, 0, 0, 13) ::
  (5, .if_icmp .ge 18, 3, 23, 0, 0) ::
  (8, .aload_n 0, 1, 0, 0, 0) ::
  (9, .iload_n 2, 1, 2, 0, 0) ::
  (10, .dup2, 1, 0, 0, 0) ::
  (11, .laload, 1, 0, 0, 0) ::
  (12, .aload_n 1, 1, 1, 0, 0) ::
  (13, .iload_n 2, 1, 2, 0, 0) ::
  (14, .laload, 1, 0, 0, 0) ::
  (15, .ladd, 1, 0, 0, 0) ::
  (16, .lastore, 1, 0, 0, 0) ::
  (17, .iinc 2 1, 3, 2, 0, 1) ::
  (20, .goto (-18), 3, 2, 0, 0) ::
  (23, .return_, 1, 0, 0, 0) ::
  []
def r_79 : List ax_E :=
  (0, .iconst 0, 1, 0, 0, 0) ::
  (1, .istore_n 2, 1, 2, 0, 0) ::
  (2, .jsr 0, 0, 7, 0, 0) ::
  r_79_2
/-- 80 BlackSun$Fit.addUp(LBlackSun$Images;)V -/
def r_80_39 : List ax_E :=
  (39, .iload_n 2, 1, 2, 0, 0) ::
  (40, .aload_n 0, 1, 0, 0, 0) ::
  (41, .getfield 54, 3, 7, 0, 0) ::
  (44, .if_icmp .ge 100, 3, 144, 0, 0) ::
  (47, .aload_n 0, 1, 0, 0, 0) ::
  (48, .invokevirtual 134, 3, 77, 14, 0) ::
  (51, .aload_n 0, 1, 0, 0, 0) ::
  (52, .getfield 38, 3, 7, 11, 0) ::
  (55, .bipush 12, 2, 0, 0, 12) ::
  (57, .lconst 1, 1, 0, 0, 1) ::
  (58, .lastore, 1, 0, 0, 0) ::
  (59, .aload_n 0, 1, 0, 0, 0) ::
  (60, .iconst 2, 1, 0, 0, 2) ::
  (61, .iload_n 2, 1, 2, 0, 0) ::
  (62, .imul, 1, 0, 0, 0) ::
  (63, .invokevirtual 137, 3, 78, 14, 0) ::
  (66, .aload_n 0, 1, 0, 0, 0) ::
  (67, .iconst 2, 1, 0, 0, 2) ::
  (68, .iload_n 2, 1, 2, 0, 0) ::
  (69, .imul, 1, 0, 0, 0) ::
  (70, .iconst 1, 1, 0, 0, 1) ::
  (71, .iadd, 1, 0, 0, 0) ::
  (72, .invokevirtual 137, 3, 78, 14, 0) ::
  (75, .aload_n 0, 1, 0, 0, 0) ::
  (76, .getfield 35, 3, 7, 10, 0) ::
  (79, .bipush 46, 2, 0, 0, 46) ::
  (81, .aaload, 1, 22, 0, 0) ::
  (82, .aload_n 0, 1, 0, 0, 0) ::
  (83, .getfield 38, 3, 7, 11, 0) ::
  (86, .invokestatic 141, 3, 79, 0, 0) ::
  (89, .aload_n 0, 1, 0, 0, 0) ::
  (90, .getfield 35, 3, 7, 10, 0) ::
  (93, .aload_n 1, 1, 1, 0, 0) ::
  (94, .getfield 145, 3, 4, 1, 0) ::
  (97, .aload_n 0, 1, 0, 0, 0) ::
  (98, .getfield 11, 3, 7, 1, 0) ::
  (101, .iload_n 2, 1, 2, 0, 0) ::
  (102, .iaload, 1, 0, 0, 0) ::
  (103, .iaload, 1, 0, 0, 0) ::
  (104, .aaload, 1, 22, 0, 0) ::
  (105, .aload_n 0, 1, 0, 0, 0) ::
  (106, .getfield 38, 3, 7, 11, 0) ::
  (109, .invokestatic 141, 3, 79, 0, 0) ::
  (112, .aload_n 0, 1, 0, 0, 0) ::
  (113, .getfield 35, 3, 7, 10, 0) ::
  (116, .bipush 16, 2, 0, 0, 16) ::
  (118, .aload_n 1, 1, 1, 0, 0) ::
  (119, .getfield 148, 3, 4, 2, 0) ::
  (122, .aload_n 0, 1, 0, 0, 0) ::
  (123, .getfield 11, 3, 7, 1, 0) ::
  (126, .iload_n 2, 1, 2, 0, 0) ::
  (127, .iaload, 1, 0, 0, 0) ::
  (128, .iaload, 1, 0, 0, 0) ::
  (129, .iadd, 1, 0, 0, 0) ::
  (130, .aaload, 1, 22, 0, 0) ::
  (131, .aload_n 0, 1, 0, 0, 0) ::
  (132, .getfield 38, 3, 7, 11, 0) ::
  (135, .invokestatic 141, 3, 79, 0, 0) ::
  (138, .iinc 2 1, 3, 2, 0, 1) ::
  (141, .goto (-102), 3, 39, 0, 0) ::
  (144, .return_, 1, 0, 0, 0) ::
  []
def r_80_10 : List ax_E :=
  (10, .iload_n 3, 1, 3, 0, 0) ::
  (11, .bipush 13, 2, 0, 0, 13) ::
  (13, .if_icmp .ge 18, 3, 31, 0, 0) ::
  (16, .aload_n 0, 1, 0, 0, 0) ::
  (17, .getfield 35, 3, 7, 10, 0) ::
  (20, .iload_n 2, 1, 2, 0, 0) ::
  (21, .aaload, 1, 22, 0, 0) ::
  (22, .iload_n 3, 1, 3, 0, 0) ::
  (23, .lconst 0, 1, 0, 0, 0) ::
  (24, .lastore, 1, 0, 0, 0) ::
  (25, .iinc 3 1, 3, 3, 0, 1) ::
  (28, .goto (-18), 3, 10, 0, 0) ::
  (31, .iinc 2 1, 3, 2, 0, 1) ::
  (34, .goto (-32), 3, 2, 0, 0) ::
  (37, .iconst 0, 1, 0, 0, 0) ::
  (38, .istore_n 2, 1, 2, 0, 0) ::
  (39, .jsr 0, 0, 7, 0, 0) ::
  r_80_39
def r_80_2 : List ax_E :=
  (2, .iload_n 2, 1, 2, 0, 0) ::
  (3, .bipush 46, 2, 0, 0, 46) ::
  (5, .if_icmp .gt 32, 3, 37, 0, 0) ::
  (8, .iconst 0, 1, 0, 0, 0) ::
  (9, .istore_n 3, 1, 3, 0, 0) ::
  (10, .jsr 0, 0, 15, 0, 0) ::
  r_80_10
def r_80 : List ax_E :=
  (0, .iconst 0, 1, 0, 0, 0) ::
  (1, .istore_n 2, 1, 2, 0, 0) ::
  (2, .jsr 0, 0, 7, 0, 0) ::
  r_80_2
/-- 81 BlackSun$Fit.open(LBlackSun$Book;LBlackSun$Way;I)Z -/
def r_81 : List ax_E :=
  (0, .aload_n 0, 1, 0, 0, 0) ::
  (1, .aload_n 1, 1, 1, 0, 0) ::
  (2, .aload_n 2, 1, 2, 0, 0) ::
  (3, .iload_n 3, 1, 3, 0, 0) ::
  (4, .invokevirtual 84, 3, 68, 14, 0) ::
  (7, .aload_n 0, 1, 0, 0, 0) ::
  (8, .aload_n 1, 1, 1, 0, 0) ::
  (9, .aload_n 2, 1, 2, 0, 0) ::
  (10, .iload_n 3, 1, 3, 0, 0) ::
  (11, .iconst (-1), 1, 0, 0, (-1)) ::
  (12, .invokevirtual 88, 3, 74, 14, 1) ::
  (15, .ifCond .ne 5, 3, 20, 0, 0) ::
  (18, .iconst 0, 1, 0, 0, 0) ::
  (19, .ireturn, 1, 1, 0, 0) ::
  (20, .aload_n 0, 1, 0, 0, 0) ::
  (21, .aload_n 1, 1, 1, 0, 0) ::
  (22, .invokevirtual 92, 3, 76, 14, 0) ::
  (25, .aload_n 0, 1, 0, 0, 0) ::
  (26, .aload_n 1, 1, 1, 0, 0) ::
  (27, .getfield 48, 3, 1, 3, 0) ::
  (30, .invokevirtual 96, 3, 80, 14, 0) ::
  (33, .iconst 1, 1, 0, 0, 1) ::
  (34, .ireturn, 1, 1, 0, 0) ::
  []
/-- 82 BlackSun$Fit.solve()Z -/
def r_82_272 : List ax_E :=
  (272, .aload_n 0, 1, 0, 0, 0) ::
  (273, .getfield 100, 3, 7, 4, 0) ::
  (276, .iconst 3, 1, 0, 0, 3) ::
  (277, .if_icmp .lt 48, 3, 325, 0, 0) ::
  (280, .aload_n 0, 1, 0, 0, 0) ::
  (281, .aload_n 0, 1, 0, 0, 0) ::
  (282, .getfield 18, 3, 7, 5, 0) ::
  (285, .iconst 2, 1, 0, 0, 2) ::
  (286, .iaload, 1, 0, 0, 0) ::
  (287, .lload 23, 2, 23, 0, 0) ::
  (289, .lload 13, 2, 13, 0, 0) ::
  (291, .lmul, 1, 0, 0, 0) ::
  (292, .lload_n 3, 1, 3, 0, 0) ::
  (293, .lload 5, 2, 5, 0, 0) ::
  (295, .lmul, 1, 0, 0, 0) ::
  (296, .lload_n 1, 1, 1, 0, 0) ::
  (297, .lload 9, 2, 9, 0, 0) ::
  (299, .lmul, 1, 0, 0, 0) ::
  (300, .lsub, 1, 0, 0, 0) ::
  (301, .lload 15, 2, 15, 0, 0) ::
  (303, .lmul, 1, 0, 0, 0) ::
  (304, .ladd, 1, 0, 0, 0) ::
  (305, .lload_n 1, 1, 1, 0, 0) ::
  (306, .lload 7, 2, 7, 0, 0) ::
  (308, .lmul, 1, 0, 0, 0) ::
  (309, .lload_n 3, 1, 3, 0, 0) ::
  (310, .lload_n 3, 1, 3, 0, 0) ::
  (311, .lmul, 1, 0, 0, 0) ::
  (312, .lsub, 1, 0, 0, 0) ::
  (313, .lload 17, 2, 17, 0, 0) ::
  (315, .lmul, 1, 0, 0, 0) ::
  (316, .ladd, 1, 0, 0, 0) ::
  (317, .lload 25, 2, 25, 0, 0) ::
  (319, .invokevirtual 122, 3, 72, 14, 1) ::
  (322, .ifCond .eq 7, 3, 329, 0, 0) ::
  (325, .iconst 1, 1, 0, 0, 1) ::
  (326, .goto 4, 3, 330, 0, 0) ::
  (329, .iconst 0, 1, 0, 0, 0) ::
  (330, .ireturn, 1, 1, 0, 0) ::
  []
def r_82_217 : List ax_E :=
  (217, .aload_n 0, 1, 0, 0, 0) ::
  (218, .getfield 100, 3, 7, 4, 0) ::
  (221, .iconst 2, 1, 0, 0, 2) ::
  (222, .if_icmp .lt 50, 3, 272, 0, 0) ::
  (225, .aload_n 0, 1, 0, 0, 0) ::
  (226, .aload_n 0, 1, 0, 0, 0) ::
  (227, .getfield 18, 3, 7, 5, 0) ::
  (230, .iconst 1, 1, 0, 0, 1) ::
  (231, .iaload, 1, 0, 0, 0) ::
  (232, .lload 21, 2, 21, 0, 0) ::
  (234, .lload 13, 2, 13, 0, 0) ::
  (236, .lmul, 1, 0, 0, 0) ::
  (237, .lload_n 1, 1, 1, 0, 0) ::
  (238, .lload 11, 2, 11, 0, 0) ::
  (240, .lmul, 1, 0, 0, 0) ::
  (241, .lload 5, 2, 5, 0, 0) ::
  (243, .lload 5, 2, 5, 0, 0) ::
  (245, .lmul, 1, 0, 0, 0) ::
  (246, .lsub, 1, 0, 0, 0) ::
  (247, .lload 15, 2, 15, 0, 0) ::
  (249, .lmul, 1, 0, 0, 0) ::
  (250, .ladd, 1, 0, 0, 0) ::
  (251, .lload_n 3, 1, 3, 0, 0) ::
  (252, .lload 5, 2, 5, 0, 0) ::
  (254, .lmul, 1, 0, 0, 0) ::
  (255, .lload_n 1, 1, 1, 0, 0) ::
  (256, .lload 9, 2, 9, 0, 0) ::
  (258, .lmul, 1, 0, 0, 0) ::
  (259, .lsub, 1, 0, 0, 0) ::
  (260, .lload 17, 2, 17, 0, 0) ::
  (262, .lmul, 1, 0, 0, 0) ::
  (263, .ladd, 1, 0, 0, 0) ::
  (264, .lload 25, 2, 25, 0, 0) ::
  (266, .invokevirtual 122, 3, 72, 14, 1) ::
  (269, .ifCond .eq 60, 3, 329, 0, 0) ::
  (272, .jsr 0, 0, 42115755, 0, 0) ::
  r_82_272
def r_82_95 : List ax_E :=
  (95, .lstore 11, 2, 11, 0, 0) ::
  (97, .aload_n 0, 1, 0, 0, 0) ::
  (98, .getfield 38, 3, 7, 11, 0) ::
  (101, .iconst 3, 1, 0, 0, 3) ::
  (102, .laload, 1, 0, 0, 0) ::
  (103, .lstore 13, 2, 13, 0, 0) ::
  (105, .aload_n 0, 1, 0, 0, 0) ::
  (106, .getfield 38, 3, 7, 11, 0) ::
  (109, .bipush 7, 2, 0, 0, 7) ::
  (111, .laload, 1, 0, 0, 0) ::
  (112, .lstore 15, 2, 15, 0, 0) ::
  (114, .aload_n 0, 1, 0, 0, 0) ::
  (115, .getfield 38, 3, 7, 11, 0) ::
  (118, .bipush 11, 2, 0, 0, 11) ::
  (120, .laload, 1, 0, 0, 0) ::
  (121, .lstore 17, 2, 17, 0, 0) ::
  (123, .lload 7, 2, 7, 0, 0) ::
  (125, .lload 11, 2, 11, 0, 0) ::
  (127, .lmul, 1, 0, 0, 0) ::
  (128, .lload 9, 2, 9, 0, 0) ::
  (130, .lload 9, 2, 9, 0, 0) ::
  (132, .lmul, 1, 0, 0, 0) ::
  (133, .lsub, 1, 0, 0, 0) ::
  (134, .lstore 19, 2, 19, 0, 0) ::
  (136, .lload 5, 2, 5, 0, 0) ::
  (138, .lload 9, 2, 9, 0, 0) ::
  (140, .lmul, 1, 0, 0, 0) ::
  (141, .lload_n 3, 1, 3, 0, 0) ::
  (142, .lload 11, 2, 11, 0, 0) ::
  (144, .lmul, 1, 0, 0, 0) ::
  (145, .lsub, 1, 0, 0, 0) ::
  (146, .lstore 21, 2, 21, 0, 0) ::
  (148, .lload_n 3, 1, 3, 0, 0) ::
  (149, .lload 9, 2, 9, 0, 0) ::
  (151, .lmul, 1, 0, 0, 0) ::
  (152, .lload 5, 2, 5, 0, 0) ::
  (154, .lload 7, 2, 7, 0, 0) ::
  (156, .lmul, 1, 0, 0, 0) ::
  (157, .lsub, 1, 0, 0, 0) ::
  (158, .lstore 23, 2, 23, 0, 0) ::
  (160, .lload_n 1, 1, 1, 0, 0) ::
  (161, .lload 19, 2, 19, 0, 0) ::
  (163, .lmul, 1, 0, 0, 0) ::
  (164, .lload_n 3, 1, 3, 0, 0) ::
  (165, .lload 21, 2, 21, 0, 0) ::
  (167, .lmul, 1, 0, 0, 0) ::
  (168, .ladd, 1, 0, 0, 0) ::
  (169, .lload 5, 2, 5, 0, 0) ::
  (171, .lload 23, 2, 23, 0, 0) ::
  (173, .lmul, 1, 0, 0, 0) ::
  (174, .ladd, 1, 0, 0, 0) ::
  (175, .lstore 25, 2, 25, 0, 0) ::
  (177, .aload_n 0, 1, 0, 0, 0) ::
  (178, .getfield 100, 3, 7, 4, 0) ::
  (181, .iconst 1, 1, 0, 0, 1) ::
  (182, .if_icmp .lt 35, 3, 217, 0, 0) ::
  (185, .aload_n 0, 1, 0, 0, 0) ::
  (186, .aload_n 0, 1, 0, 0, 0) ::
  (187, .getfield 18, 3, 7, 5, 0) ::
  (190, .iconst 0, 1, 0, 0, 0) ::
  (191, .iaload, 1, 0, 0, 0) ::
  (192, .lload 19, 2, 19, 0, 0) ::
  (194, .lload 13, 2, 13, 0, 0) ::
  (196, .lmul, 1, 0, 0, 0) ::
  (197, .lload 21, 2, 21, 0, 0) ::
  (199, .lload 15, 2, 15, 0, 0) ::
  (201, .lmul, 1, 0, 0, 0) ::
  (202, .ladd, 1, 0, 0, 0) ::
  (203, .lload 23, 2, 23, 0, 0) ::
  (205, .lload 17, 2, 17, 0, 0) ::
  (207, .lmul, 1, 0, 0, 0) ::
  (208, .ladd, 1, 0, 0, 0) ::
  (209, .lload 25, 2, 25, 0, 0) ::
  (211, .invokevirtual 122, 3, 72, 14, 1) ::
  (214, .ifCond .eq 115, 3, 329, 0, 0) ::
  (217, .jsr 0, 0, 44214955, 0, 0) ::
  r_82_217
def r_82_65 : List ax_E :=
  (65, .lstore 7, 2, 7, 0, 0) ::
  (67, .aload_n 0, 1, 0, 0, 0) ::
  (68, .getfield 38, 3, 7, 11, 0) ::
  (71, .bipush 6, 2, 0, 0, 6) ::
  (73, .laload, 1, 0, 0, 0) ::
  (74, .lstore 9, 2, 9, 0, 0) ::
  (76, .aload_n 0, 1, 0, 0, 0) ::
  (77, .getfield 100, 3, 7, 4, 0) ::
  (80, .iconst 2, 1, 0, 0, 2) ::
  (81, .if_icmp .le 13, 3, 94, 0, 0) ::
  (84, .aload_n 0, 1, 0, 0, 0) ::
  (85, .getfield 38, 3, 7, 11, 0) ::
  (88, .bipush 10, 2, 0, 0, 10) ::
  (90, .laload, 1, 0, 0, 0) ::
  (91, .goto 4, 3, 95, 0, 0) ::
  (94, .lconst 1, 1, 0, 0, 1) ::
  (95, .jsr 0, 0, 683, 0, 0) ::
  r_82_95
def r_82_31 : List ax_E :=
  (31, .lstore_n 1, 1, 1, 0, 0) ::
  (32, .aload_n 0, 1, 0, 0, 0) ::
  (33, .getfield 38, 3, 7, 11, 0) ::
  (36, .iconst 1, 1, 0, 0, 1) ::
  (37, .laload, 1, 0, 0, 0) ::
  (38, .lstore_n 3, 1, 3, 0, 0) ::
  (39, .aload_n 0, 1, 0, 0, 0) ::
  (40, .getfield 38, 3, 7, 11, 0) ::
  (43, .iconst 2, 1, 0, 0, 2) ::
  (44, .laload, 1, 0, 0, 0) ::
  (45, .lstore 5, 2, 5, 0, 0) ::
  (47, .aload_n 0, 1, 0, 0, 0) ::
  (48, .getfield 100, 3, 7, 4, 0) ::
  (51, .iconst 1, 1, 0, 0, 1) ::
  (52, .if_icmp .le 12, 3, 64, 0, 0) ::
  (55, .aload_n 0, 1, 0, 0, 0) ::
  (56, .getfield 38, 3, 7, 11, 0) ::
  (59, .iconst 5, 1, 0, 0, 5) ::
  (60, .laload, 1, 0, 0, 0) ::
  (61, .goto 4, 3, 65, 0, 0) ::
  (64, .lconst 1, 1, 0, 0, 1) ::
  (65, .jsr 0, 0, 43, 0, 0) ::
  r_82_65
def r_82 : List ax_E :=
  (0, .aload_n 0, 1, 0, 0, 0) ::
  (1, .getfield 38, 3, 7, 11, 0) ::
  (4, .bipush 12, 2, 0, 0, 12) ::
  (6, .laload, 1, 0, 0, 0) ::
  (7, .lconst 0, 1, 0, 0, 0) ::
  (8, .lcmp, 1, 0, 0, 0) ::
  (9, .ifCond .ne 5, 3, 14, 0, 0) ::
  (12, .iconst 0, 1, 0, 0, 0) ::
  (13, .ireturn, 1, 1, 0, 0) ::
  (14, .aload_n 0, 1, 0, 0, 0) ::
  (15, .getfield 100, 3, 7, 4, 0) ::
  (18, .ifCond .le 12, 3, 30, 0, 0) ::
  (21, .aload_n 0, 1, 0, 0, 0) ::
  (22, .getfield 38, 3, 7, 11, 0) ::
  (25, .iconst 0, 1, 0, 0, 0) ::
  (26, .laload, 1, 0, 0, 0) ::
  (27, .goto 4, 3, 31, 0, 0) ::
  (30, .lconst 1, 1, 0, 0, 1) ::
  (31, .jsr 0, 0, 1, 0, 0) ::
  r_82_31
/-- 83 BlackSun$Fit.solveAll()Z -/
def r_83 : List ax_E :=
  (0, .aload_n 0, 1, 0, 0, 0) ::
  (1, .getfield 35, 3, 7, 10, 0) ::
  (4, .bipush 46, 2, 0, 0, 46) ::
  (6, .aaload, 1, 22, 0, 0) ::
  (7, .iconst 0, 1, 0, 0, 0) ::
  (8, .aload_n 0, 1, 0, 0, 0) ::
  (9, .getfield 38, 3, 7, 11, 0) ::
  (12, .iconst 0, 1, 0, 0, 0) ::
  (13, .bipush 13, 2, 0, 0, 13) ::
  (15, .invokestatic 151, 3, 17, 100, 0) ::
  (18, .aload_n 0, 1, 0, 0, 0) ::
  (19, .invokevirtual 157, 3, 82, 14, 1) ::
  (22, .ireturn, 1, 1, 0, 0) ::
  []
/-- 84 BlackSun.answerOf(LBlackSun$Way;II)I -/
def r_84 : List ax_E :=
  (0, .aload_n 0, 1, 0, 0, 0) ::
  (1, .getfield 30, 3, 0, 3, 0) ::
  (4, .aload_n 0, 1, 0, 0, 0) ::
  (5, .getfield 10, 3, 0, 0, 0) ::
  (8, .aload_n 1, 1, 1, 0, 0) ::
  (9, .iload_n 3, 1, 3, 0, 0) ::
  (10, .invokevirtual 167, 3, 81, 14, 1) ::
  (13, .ifCond .eq 25, 3, 38, 0, 0) ::
  (16, .aload_n 0, 1, 0, 0, 0) ::
  (17, .getfield 30, 3, 0, 3, 0) ::
  (20, .invokevirtual 171, 3, 83, 14, 1) ::
  (23, .ifCond .eq 15, 3, 38, 0, 0) ::
  (26, .aload_n 0, 1, 0, 0, 0) ::
  (27, .getfield 30, 3, 0, 3, 0) ::
  (30, .getfield 183, 3, 7, 2, 0) ::
  (33, .iload_n 2, 1, 2, 0, 0) ::
  (34, .iaload, 1, 0, 0, 0) ::
  (35, .goto 5, 3, 40, 0, 0) ::
  (38, .ldc 182, 2, 0, 0, (-1000000000)) ::
  (40, .ireturn, 1, 0, 0, 0) ::
  []
/-- 85 BlackSun.answer(III)I -/
def r_85 : List ax_E :=
  (0, .aload_n 0, 1, 0, 0, 0) ::
  (1, .getfield 10, 3, 0, 0, 0) ::
  (4, .iload_n 1, 1, 1, 0, 0) ::
  (5, .invokevirtual 141, 3, 61, 2, 3) ::
  (8, .astore 4, 2, 4, 0, 0) ::
  (10, .aload 4, 2, 4, 0, 0) ::
  (12, .ifnull 17, 3, 29, 0, 0) ::
  (15, .iload_n 2, 1, 2, 0, 0) ::
  (16, .invokestatic 114, 3, 30, 0, 1) ::
  (19, .ifCond .eq 10, 3, 29, 0, 0) ::
  (22, .iload_n 3, 1, 3, 0, 0) ::
  (23, .invokestatic 100, 3, 26, 0, 1) ::
  (26, .ifCond .ne 6, 3, 32, 0, 0) ::
  (29, .ldc 160, 2, 0, 0, (-2000000000)) ::
  (31, .ireturn, 1, 0, 0, 0) ::
  (32, .aload_n 0, 1, 0, 0, 0) ::
  (33, .aload 4, 2, 4, 0, 0) ::
  (35, .iload_n 2, 1, 2, 0, 0) ::
  (36, .iload_n 3, 1, 3, 0, 0) ::
  (37, .invokevirtual 161, 3, 84, 0, 1) ::
  (40, .ireturn, 1, 0, 0, 0) ::
  []
/-- 86 BlackSun$Fit.missed()J -/
def r_86_20 : List ax_E :=
  (20, .iload 6, 2, 6, 0, 0) ::
  (22, .aload_n 0, 1, 0, 0, 0) ::
  (23, .getfield 100, 3, 7, 4, 0) ::
  (26, .if_icmp .ge 40, 3, 66, 0, 0) ::
  (29, .lload 4, 2, 4, 0, 0) ::
  (31, .aload_n 0, 1, 0, 0, 0) ::
  (32, .getfield 15, 3, 7, 2, 0) ::
  (35, .aload_n 0, 1, 0, 0, 0) ::
  (36, .getfield 18, 3, 7, 5, 0) ::
  (39, .iload 6, 2, 6, 0, 0) ::
  (41, .iaload, 1, 0, 0, 0) ::
  (42, .iaload, 1, 0, 0, 0) ::
  (43, .i2l, 1, 0, 0, 0) ::
  (44, .aload_n 0, 1, 0, 0, 0) ::
  (45, .getfield 21, 3, 7, 6, 0) ::
  (48, .iload_n 3, 1, 3, 0, 0) ::
  (49, .iconst 3, 1, 0, 0, 3) ::
  (50, .imul, 1, 0, 0, 0) ::
  (51, .iload 6, 2, 6, 0, 0) ::
  (53, .iadd, 1, 0, 0, 0) ::
  (54, .iaload, 1, 0, 0, 0) ::
  (55, .i2l, 1, 0, 0, 0) ::
  (56, .lmul, 1, 0, 0, 0) ::
  (57, .ladd, 1, 0, 0, 0) ::
  (58, .lstore 4, 2, 4, 0, 0) ::
  (60, .iinc 6 1, 3, 6, 0, 1) ::
  (63, .goto (-43), 3, 20, 0, 0) ::
  (66, .aload_n 0, 1, 0, 0, 0) ::
  (67, .getfield 27, 3, 7, 8, 0) ::
  (70, .iload_n 3, 1, 3, 0, 0) ::
  (71, .iaload, 1, 0, 0, 0) ::
  (72, .i2l, 1, 0, 0, 0) ::
  (73, .lload 4, 2, 4, 0, 0) ::
  (75, .ldc2_w 185, 3, 0, 0, 1000) ::
  (78, .ldiv, 1, 0, 0, 0) ::
  (79, .lsub, 1, 0, 0, 0) ::
  (80, .lstore 6, 2, 6, 0, 0) ::
  (82, .lload_n 1, 1, 1, 0, 0) ::
  (83, .lload 6, 2, 6, 0, 0) ::
  (85, .lload 6, 2, 6, 0, 0) ::
  (87, .lmul, 1, 0, 0, 0) ::
  (88, .ladd, 1, 0, 0, 0) ::
  (89, .lstore_n 1, 1, 1, 0, 0) ::
  (90, .iinc 3 1, 3, 3, 0, 1) ::
  (93, .goto (-89), 3, 4, 0, 0) ::
  (96, .lload_n 1, 1, 1, 0, 0) ::
  (97, .lreturn, 1, 0, 0, 0) ::
  []
def r_86_4 : List ax_E :=
  (4, .iload_n 3, 1, 3, 0, 0) ::
  (5, .iconst 2, 1, 0, 0, 2) ::
  (6, .aload_n 0, 1, 0, 0, 0) ::
  (7, .getfield 54, 3, 7, 0, 0) ::
  (10, .imul, 1, 0, 0, 0) ::
  (11, .if_icmp .ge 85, 3, 96, 0, 0) ::
  (14, .lconst 0, 1, 0, 0, 0) ::
  (15, .lstore 4, 2, 4, 0, 0) ::
  (17, .iconst 0, 1, 0, 0, 0) ::
  (18, .istore 6, 2, 6, 0, 0) ::
  (20, .jsr 0, 0, 91, 0, 0) ::
  r_86_20
def r_86 : List ax_E :=
  (0, .lconst 0, 1, 0, 0, 0) ::
  (1, .lstore_n 1, 1, 1, 0, 0) ::
  (2, .iconst 0, 1, 0, 0, 0) ::
  (3, .istore_n 3, 1, 3, 0, 0) ::
  (4, .jsr 0, 0, 11, 0, 0) ::
  r_86_4
/-- 87 BlackSun.miss(II)J -/
def r_87 : List ax_E :=
  (0, .aload_n 0, 1, 0, 0, 0) ::
  (1, .getfield 10, 3, 0, 0, 0) ::
  (4, .iload_n 1, 1, 1, 0, 0) ::
  (5, .invokevirtual 141, 3, 61, 2, 3) ::
  (8, .astore_n 3, 1, 3, 0, 0) ::
  (9, .aload_n 3, 1, 3, 0, 0) ::
  (10, .ifnull 10, 3, 20, 0, 0) ::
  (13, .iload_n 2, 1, 2, 0, 0) ::
  (14, .invokestatic 100, 3, 26, 0, 1) ::
  (17, .ifCond .ne 7, 3, 24, 0, 0) ::
  (20, .ldc2_w 165, 3, 0, 0, (-1)) ::
  (23, .lreturn, 1, 0, 0, 0) ::
  (24, .aload_n 0, 1, 0, 0, 0) ::
  (25, .getfield 30, 3, 0, 3, 0) ::
  (28, .aload_n 0, 1, 0, 0, 0) ::
  (29, .getfield 10, 3, 0, 0, 0) ::
  (32, .aload_n 3, 1, 3, 0, 0) ::
  (33, .iload_n 2, 1, 2, 0, 0) ::
  (34, .invokevirtual 167, 3, 81, 14, 1) ::
  (37, .ifCond .eq 13, 3, 50, 0, 0) ::
  (40, .aload_n 0, 1, 0, 0, 0) ::
  (41, .getfield 30, 3, 0, 3, 0) ::
  (44, .invokevirtual 171, 3, 83, 14, 1) ::
  (47, .ifCond .ne 7, 3, 54, 0, 0) ::
  (50, .ldc2_w 165, 3, 0, 0, (-1)) ::
  (53, .lreturn, 1, 0, 0, 0) ::
  (54, .aload_n 0, 1, 0, 0, 0) ::
  (55, .getfield 30, 3, 0, 3, 0) ::
  (58, .invokevirtual 175, 3, 86, 14, 2) ::
  (61, .lreturn, 1, 0, 0, 0) ::
  []
/-- 88 BlackSun$Fit.leaveOut([J)V -/
def r_88_11 : List ax_E :=
  (11, .iload_n 2, 1, 2, 0, 0) ::
  (12, .bipush 13, 2, 0, 0, 13) ::
  (14, .if_icmp .ge 21, 3, 35, 0, 0) ::
  (17, .aload_n 0, 1, 0, 0, 0) ::
  (18, .getfield 38, 3, 7, 11, 0) ::
  (21, .iload_n 2, 1, 2, 0, 0) ::
  (22, .dup2, 1, 0, 0, 0) ::
  (23, .laload, 1, 0, 0, 0) ::
  (24, .aload_n 1, 1, 1, 0, 0) ::
  (25, .iload_n 2, 1, 2, 0, 0) ::
  (26, .laload, 1, 0, 0, 0) ::
  (27, .lsub, 1, 0, 0, 0) ::
  (28, .lastore, 1, 0, 0, 0) ::
  (29, .iinc 2 1, 3, 2, 0, 1) ::
  (32, .goto (-21), 3, 11, 0, 0) ::
  (35, .return_, 1, 0, 0, 0) ::
  []
def r_88 : List ax_E :=
  (0, .aload_n 1, 1, 1, 0, 0) ::
  (1, .bipush 12, 2, 0, 0, 12) ::
  (3, .laload, 1, 0, 0, 0) ::
  (4, .lconst 0, 1, 0, 0, 0) ::
  (5, .lcmp, 1, 0, 0, 0) ::
  (6, .ifCond .eq 29, 3, 35, 0, 0) ::
  (9, .iconst 0, 1, 0, 0, 0) ::
  (10, .istore_n 2, 1, 2, 0, 0) ::
  (11, .jsr 0, 0, 7, 0, 0) ::
  r_88_11
/-- 89 BlackSun$Fit.solveWithout(I)Z -/
def r_89 : List ax_E :=
  (0, .aload_n 0, 1, 0, 0, 0) ::
  (1, .getfield 35, 3, 7, 10, 0) ::
  (4, .bipush 46, 2, 0, 0, 46) ::
  (6, .aaload, 1, 22, 0, 0) ::
  (7, .iconst 0, 1, 0, 0, 0) ::
  (8, .aload_n 0, 1, 0, 0, 0) ::
  (9, .getfield 38, 3, 7, 11, 0) ::
  (12, .iconst 0, 1, 0, 0, 0) ::
  (13, .bipush 13, 2, 0, 0, 13) ::
  (15, .invokestatic 151, 3, 17, 100, 0) ::
  (18, .aload_n 0, 1, 0, 0, 0) ::
  (19, .aload_n 0, 1, 0, 0, 0) ::
  (20, .getfield 35, 3, 7, 10, 0) ::
  (23, .iload_n 1, 1, 1, 0, 0) ::
  (24, .aaload, 1, 22, 0, 0) ::
  (25, .invokevirtual 161, 3, 88, 14, 0) ::
  (28, .aload_n 0, 1, 0, 0, 0) ::
  (29, .invokevirtual 157, 3, 82, 14, 1) ::
  (32, .ireturn, 1, 1, 0, 0) ::
  []
/-- 90 BlackSun.each(IIII)I -/
def r_90_86 : List ax_E :=
  (86, .istore 6, 2, 6, 0, 0) ::
  (88, .aload_n 0, 1, 0, 0, 0) ::
  (89, .getfield 30, 3, 0, 3, 0) ::
  (92, .aload_n 0, 1, 0, 0, 0) ::
  (93, .getfield 10, 3, 0, 0, 0) ::
  (96, .aload 5, 2, 5, 0, 0) ::
  (98, .iload_n 2, 1, 2, 0, 0) ::
  (99, .invokevirtual 167, 3, 81, 14, 1) ::
  (102, .ifCond .eq 15, 3, 117, 0, 0) ::
  (105, .aload_n 0, 1, 0, 0, 0) ::
  (106, .getfield 30, 3, 0, 3, 0) ::
  (109, .iload 6, 2, 6, 0, 0) ::
  (111, .invokevirtual 179, 3, 89, 14, 1) ::
  (114, .ifCond .ne 6, 3, 120, 0, 0) ::
  (117, .ldc 182, 2, 0, 0, (-1000000000)) ::
  (119, .ireturn, 1, 0, 0, 0) ::
  (120, .aload_n 0, 1, 0, 0, 0) ::
  (121, .getfield 30, 3, 0, 3, 0) ::
  (124, .getfield 183, 3, 7, 2, 0) ::
  (127, .iconst 4, 1, 0, 0, 4) ::
  (128, .iaload, 1, 0, 0, 0) ::
  (129, .ireturn, 1, 0, 0, 0) ::
  []
def r_90 : List ax_E :=
  (0, .aload_n 0, 1, 0, 0, 0) ::
  (1, .getfield 10, 3, 0, 0, 0) ::
  (4, .iload_n 1, 1, 1, 0, 0) ::
  (5, .invokevirtual 141, 3, 61, 2, 3) ::
  (8, .astore 5, 2, 5, 0, 0) ::
  (10, .aload 5, 2, 5, 0, 0) ::
  (12, .ifnull 17, 3, 29, 0, 0) ::
  (15, .iload_n 2, 1, 2, 0, 0) ::
  (16, .invokestatic 100, 3, 26, 0, 1) ::
  (19, .ifCond .eq 10, 3, 29, 0, 0) ::
  (22, .iload_n 3, 1, 3, 0, 0) ::
  (23, .invokestatic 103, 3, 27, 0, 1) ::
  (26, .ifCond .ne 6, 3, 32, 0, 0) ::
  (29, .ldc 160, 2, 0, 0, (-2000000000)) ::
  (31, .ireturn, 1, 0, 0, 0) ::
  (32, .iload_n 3, 1, 3, 0, 0) ::
  (33, .ifCond .ne 21, 3, 54, 0, 0) ::
  (36, .aload_n 0, 1, 0, 0, 0) ::
  (37, .getfield 10, 3, 0, 0, 0) ::
  (40, .getfield 80, 3, 1, 2, 0) ::
  (43, .iload 4, 2, 4, 0, 0) ::
  (45, .invokevirtual 87, 3, 20, 6, 1) ::
  (48, .ifCond .ne 24, 3, 72, 0, 0) ::
  (51, .goto 18, 3, 69, 0, 0) ::
  (54, .aload_n 0, 1, 0, 0, 0) ::
  (55, .getfield 10, 3, 0, 0, 0) ::
  (58, .getfield 49, 3, 1, 1, 0) ::
  (61, .iload 4, 2, 4, 0, 0) ::
  (63, .invokevirtual 59, 3, 14, 4, 1) ::
  (66, .ifCond .ne 6, 3, 72, 0, 0) ::
  (69, .ldc 160, 2, 0, 0, (-2000000000)) ::
  (71, .ireturn, 1, 0, 0, 0) ::
  (72, .iload_n 3, 1, 3, 0, 0) ::
  (73, .ifCond .ne 8, 3, 81, 0, 0) ::
  (76, .iload 4, 2, 4, 0, 0) ::
  (78, .goto 8, 3, 86, 0, 0) ::
  (81, .bipush 16, 2, 0, 0, 16) ::
  (83, .iload 4, 2, 4, 0, 0) ::
  (85, .iadd, 1, 0, 0, 0) ::
  (86, .jsr 0, 0, 37, 0, 0) ::
  r_90_86
/-- 91 BlackSun$Fit.findRulable(LBlackSun$Plates;)I -/
def r_91_7 : List ax_E :=
  (7, .iload 4, 2, 4, 0, 0) ::
  (9, .aload_n 1, 1, 1, 0, 0) ::
  (10, .getfield 169, 3, 3, 0, 0) ::
  (13, .if_icmp .ge 55, 3, 68, 0, 0) ::
  (16, .iload_n 2, 1, 2, 0, 0) ::
  (17, .bipush 8, 2, 0, 0, 8) ::
  (19, .if_icmp .ge 49, 3, 68, 0, 0) ::
  (22, .aload_n 1, 1, 1, 0, 0) ::
  (23, .getfield 215, 3, 3, 2, 0) ::
  (26, .iload 4, 2, 4, 0, 0) ::
  (28, .iaload, 1, 0, 0, 0) ::
  (29, .iconst 2, 1, 0, 0, 2) ::
  (30, .if_icmp .eq 32, 3, 62, 0, 0) ::
  (33, .iinc 2 1, 3, 2, 0, 1) ::
  (36, .aload_n 0, 1, 0, 0, 0) ::
  (37, .getfield 35, 3, 7, 10, 0) ::
  (40, .iload 4, 2, 4, 0, 0) ::
  (42, .aaload, 1, 22, 0, 0) ::
  (43, .bipush 12, 2, 0, 0, 12) ::
  (45, .laload, 1, 0, 0, 0) ::
  (46, .lconst 0, 1, 0, 0, 0) ::
  (47, .lcmp, 1, 0, 0, 0) ::
  (48, .ifCond .eq 14, 3, 62, 0, 0) ::
  (51, .aload_n 0, 1, 0, 0, 0) ::
  (52, .getfield 42, 3, 7, 12, 0) ::
  (55, .iload_n 3, 1, 3, 0, 0) ::
  (56, .iload 4, 2, 4, 0, 0) ::
  (58, .iastore, 1, 0, 0, 0) ::
  (59, .iinc 3 1, 3, 3, 0, 1) ::
  (62, .iinc 4 1, 3, 4, 0, 1) ::
  (65, .goto (-58), 3, 7, 0, 0) ::
  (68, .iload_n 3, 1, 3, 0, 0) ::
  (69, .ireturn, 1, 0, 0, 0) ::
  []
def r_91 : List ax_E :=
  (0, .iconst 0, 1, 0, 0, 0) ::
  (1, .istore_n 2, 1, 2, 0, 0) ::
  (2, .iconst 0, 1, 0, 0, 0) ::
  (3, .istore_n 3, 1, 3, 0, 0) ::
  (4, .iconst 0, 1, 0, 0, 0) ::
  (5, .istore 4, 2, 4, 0, 0) ::
  (7, .jsr 0, 0, 31, 0, 0) ::
  r_91_7
/-- 92 BlackSun$Fit.leaveOutChoice(II)I -/
def r_92_23 : List ax_E :=
  (23, .iload 4, 2, 4, 0, 0) ::
  (25, .iload_n 1, 1, 1, 0, 0) ::
  (26, .if_icmp .ge 46, 3, 72, 0, 0) ::
  (29, .iload_n 2, 1, 2, 0, 0) ::
  (30, .iload 4, 2, 4, 0, 0) ::
  (32, .ishr, 1, 0, 0, 0) ::
  (33, .iconst 1, 1, 0, 0, 1) ::
  (34, .iand, 1, 0, 0, 0) ::
  (35, .ifCond .eq 31, 3, 66, 0, 0) ::
  (38, .aload_n 0, 1, 0, 0, 0) ::
  (39, .aload_n 0, 1, 0, 0, 0) ::
  (40, .getfield 35, 3, 7, 10, 0) ::
  (43, .aload_n 0, 1, 0, 0, 0) ::
  (44, .getfield 42, 3, 7, 12, 0) ::
  (47, .iload 4, 2, 4, 0, 0) ::
  (49, .iaload, 1, 0, 0, 0) ::
  (50, .aaload, 1, 22, 0, 0) ::
  (51, .invokevirtual 161, 3, 88, 14, 0) ::
  (54, .iload_n 3, 1, 3, 0, 0) ::
  (55, .iconst 1, 1, 0, 0, 1) ::
  (56, .aload_n 0, 1, 0, 0, 0) ::
  (57, .getfield 42, 3, 7, 12, 0) ::
  (60, .iload 4, 2, 4, 0, 0) ::
  (62, .iaload, 1, 0, 0, 0) ::
  (63, .ishl, 1, 0, 0, 0) ::
  (64, .ior, 1, 0, 0, 0) ::
  (65, .istore_n 3, 1, 3, 0, 0) ::
  (66, .iinc 4 1, 3, 4, 0, 1) ::
  (69, .goto (-46), 3, 23, 0, 0) ::
  (72, .iload_n 3, 1, 3, 0, 0) ::
  (73, .ireturn, 1, 0, 0, 0) ::
  []
def r_92 : List ax_E :=
  (0, .aload_n 0, 1, 0, 0, 0) ::
  (1, .getfield 35, 3, 7, 10, 0) ::
  (4, .bipush 46, 2, 0, 0, 46) ::
  (6, .aaload, 1, 22, 0, 0) ::
  (7, .iconst 0, 1, 0, 0, 0) ::
  (8, .aload_n 0, 1, 0, 0, 0) ::
  (9, .getfield 38, 3, 7, 11, 0) ::
  (12, .iconst 0, 1, 0, 0, 0) ::
  (13, .bipush 13, 2, 0, 0, 13) ::
  (15, .invokestatic 151, 3, 17, 100, 0) ::
  (18, .iconst 0, 1, 0, 0, 0) ::
  (19, .istore_n 3, 1, 3, 0, 0) ::
  (20, .iconst 0, 1, 0, 0, 0) ::
  (21, .istore 4, 2, 4, 0, 0) ::
  (23, .jsr 0, 0, 31, 0, 0) ::
  r_92_23
/-- 93 java/lang/Math.abs(J)J -/
def r_93 : List ax_E :=
  (0, .lload_n 0, 1, 0, 0, 0) ::
  (1, .lconst 0, 1, 0, 0, 0) ::
  (2, .lcmp, 1, 0, 0, 0) ::
  (3, .ifCond .ge 8, 3, 11, 0, 0) ::
  (6, .lload_n 0, 1, 0, 0, 0) ::
  (7, .lneg, 1, 0, 0, 0) ::
  (8, .goto 4, 3, 12, 0, 0) ::
  (11, .lload_n 0, 1, 0, 0, 0) ::
  (12, .lreturn, 1, 0, 0, 0) ::
  []
/-- 94 java/lang/Integer.bitCount(I)I -/
def r_94 : List ax_E :=
  (0, .iload_n 0, 1, 0, 0, 0) ::
  (1, .iload_n 0, 1, 0, 0, 0) ::
  (2, .iconst 1, 1, 0, 0, 1) ::
  (3, .iushr, 1, 0, 0, 0) ::
  (4, .ldc_w 265, 3, 0, 0, 1431655765) ::
  (7, .iand, 1, 0, 0, 0) ::
  (8, .isub, 1, 0, 0, 0) ::
  (9, .istore_n 0, 1, 0, 0, 0) ::
  (10, .iload_n 0, 1, 0, 0, 0) ::
  (11, .ldc_w 266, 3, 0, 0, 858993459) ::
  (14, .iand, 1, 0, 0, 0) ::
  (15, .iload_n 0, 1, 0, 0, 0) ::
  (16, .iconst 2, 1, 0, 0, 2) ::
  (17, .iushr, 1, 0, 0, 0) ::
  (18, .ldc_w 266, 3, 0, 0, 858993459) ::
  (21, .iand, 1, 0, 0, 0) ::
  (22, .iadd, 1, 0, 0, 0) ::
  (23, .istore_n 0, 1, 0, 0, 0) ::
  (24, .iload_n 0, 1, 0, 0, 0) ::
  (25, .iload_n 0, 1, 0, 0, 0) ::
  (26, .iconst 4, 1, 0, 0, 4) ::
  (27, .iushr, 1, 0, 0, 0) ::
  (28, .iadd, 1, 0, 0, 0) ::
  (29, .ldc_w 267, 3, 0, 0, 252645135) ::
  (32, .iand, 1, 0, 0, 0) ::
  (33, .istore_n 0, 1, 0, 0, 0) ::
  (34, .iload_n 0, 1, 0, 0, 0) ::
  (35, .iload_n 0, 1, 0, 0, 0) ::
  (36, .bipush 8, 2, 0, 0, 8) ::
  (38, .iushr, 1, 0, 0, 0) ::
  (39, .iadd, 1, 0, 0, 0) ::
  (40, .istore_n 0, 1, 0, 0, 0) ::
  (41, .iload_n 0, 1, 0, 0, 0) ::
  (42, .iload_n 0, 1, 0, 0, 0) ::
  (43, .bipush 16, 2, 0, 0, 16) ::
  (45, .iushr, 1, 0, 0, 0) ::
  (46, .iadd, 1, 0, 0, 0) ::
  (47, .istore_n 0, 1, 0, 0, 0) ::
  (48, .iload_n 0, 1, 0, 0, 0) ::
  (49, .bipush 63, 2, 0, 0, 63) ::
  (51, .iand, 1, 0, 0, 0) ::
  (52, .ireturn, 1, 0, 0, 0) ::
  []
/-- 95 BlackSun$Fit.nearestSet(LBlackSun$Book;II)I -/
def r_95_87 : List ax_E :=
  (87, .istore 12, 2, 12, 0, 0) ::
  (89, .iload 5, 2, 5, 0, 0) ::
  (91, .iconst (-1), 1, 0, 0, (-1)) ::
  (92, .if_icmp .eq 24, 3, 116, 0, 0) ::
  (95, .lload 10, 2, 10, 0, 0) ::
  (97, .lload 6, 2, 6, 0, 0) ::
  (99, .lcmp, 1, 0, 0, 0) ::
  (100, .ifCond .lt 16, 3, 116, 0, 0) ::
  (103, .lload 10, 2, 10, 0, 0) ::
  (105, .lload 6, 2, 6, 0, 0) ::
  (107, .lcmp, 1, 0, 0, 0) ::
  (108, .ifCond .ne 26, 3, 134, 0, 0) ::
  (111, .iload 12, 2, 12, 0, 0) ::
  (113, .ifCond .eq 21, 3, 134, 0, 0) ::
  (116, .iload 9, 2, 9, 0, 0) ::
  (118, .istore 5, 2, 5, 0, 0) ::
  (120, .lload 10, 2, 10, 0, 0) ::
  (122, .lstore 6, 2, 6, 0, 0) ::
  (124, .aload_n 0, 1, 0, 0, 0) ::
  (125, .aload_n 0, 1, 0, 0, 0) ::
  (126, .getfield 15, 3, 7, 2, 0) ::
  (129, .iload_n 2, 1, 2, 0, 0) ::
  (130, .iaload, 1, 0, 0, 0) ::
  (131, .putfield 212, 3, 7, 3, 0) ::
  (134, .iinc 8 1, 3, 8, 0, 1) ::
  (137, .goto (-118), 3, 19, 0, 0) ::
  (140, .iload 5, 2, 5, 0, 0) ::
  (142, .ireturn, 1, 0, 0, 0) ::
  []
def r_95_19 : List ax_E :=
  (19, .iload 8, 2, 8, 0, 0) ::
  (21, .iconst 1, 1, 0, 0, 1) ::
  (22, .iload 4, 2, 4, 0, 0) ::
  (24, .ishl, 1, 0, 0, 0) ::
  (25, .if_icmp .ge 115, 3, 140, 0, 0) ::
  (28, .aload_n 0, 1, 0, 0, 0) ::
  (29, .iload 4, 2, 4, 0, 0) ::
  (31, .iload 8, 2, 8, 0, 0) ::
  (33, .invokevirtual 200, 3, 92, 14, 1) ::
  (36, .istore 9, 2, 9, 0, 0) ::
  (38, .aload_n 0, 1, 0, 0, 0) ::
  (39, .invokevirtual 157, 3, 82, 14, 1) ::
  (42, .ifCond .ne 6, 3, 48, 0, 0) ::
  (45, .goto 89, 3, 134, 0, 0) ::
  (48, .aload_n 0, 1, 0, 0, 0) ::
  (49, .getfield 15, 3, 7, 2, 0) ::
  (52, .iload_n 2, 1, 2, 0, 0) ::
  (53, .iaload, 1, 0, 0, 0) ::
  (54, .i2l, 1, 0, 0, 0) ::
  (55, .iload_n 3, 1, 3, 0, 0) ::
  (56, .i2l, 1, 0, 0, 0) ::
  (57, .lsub, 1, 0, 0, 0) ::
  (58, .invokestatic 203, 3, 93, 0, 2) ::
  (61, .lstore 10, 2, 10, 0, 0) ::
  (63, .iload 5, 2, 5, 0, 0) ::
  (65, .iconst (-1), 1, 0, 0, (-1)) ::
  (66, .if_icmp .eq 20, 3, 86, 0, 0) ::
  (69, .iload 9, 2, 9, 0, 0) ::
  (71, .invokestatic 207, 3, 94, 0, 1) ::
  (74, .iload 5, 2, 5, 0, 0) ::
  (76, .invokestatic 207, 3, 94, 0, 1) ::
  (79, .if_icmp .ge 7, 3, 86, 0, 0) ::
  (82, .iconst 1, 1, 0, 0, 1) ::
  (83, .goto 4, 3, 87, 0, 0) ::
  (86, .iconst 0, 1, 0, 0, 0) ::
  (87, .jsr 0, 0, 1917, 0, 0) ::
  r_95_87
def r_95 : List ax_E :=
  (0, .aload_n 0, 1, 0, 0, 0) ::
  (1, .aload_n 1, 1, 1, 0, 0) ::
  (2, .getfield 165, 3, 1, 2, 0) ::
  (5, .invokevirtual 196, 3, 91, 14, 1) ::
  (8, .istore 4, 2, 4, 0, 0) ::
  (10, .iconst (-1), 1, 0, 0, (-1)) ::
  (11, .istore 5, 2, 5, 0, 0) ::
  (13, .lconst 0, 1, 0, 0, 0) ::
  (14, .lstore 6, 2, 6, 0, 0) ::
  (16, .iconst 0, 1, 0, 0, 0) ::
  (17, .istore 8, 2, 8, 0, 0) ::
  (19, .jsr 0, 0, 381, 0, 0) ::
  r_95_19
/-- 96 BlackSun.ruled(IIIII)I -/
def r_96 : List ax_E :=
  (0, .aload_n 0, 1, 0, 0, 0) ::
  (1, .getfield 10, 3, 0, 0, 0) ::
  (4, .iload_n 1, 1, 1, 0, 0) ::
  (5, .invokevirtual 141, 3, 61, 2, 3) ::
  (8, .astore 6, 2, 6, 0, 0) ::
  (10, .aload 6, 2, 6, 0, 0) ::
  (12, .ifnull 28, 3, 40, 0, 0) ::
  (15, .iload_n 2, 1, 2, 0, 0) ::
  (16, .invokestatic 114, 3, 30, 0, 1) ::
  (19, .ifCond .eq 21, 3, 40, 0, 0) ::
  (22, .aload 6, 2, 6, 0, 0) ::
  (24, .getfield 145, 3, 5, 0, 0) ::
  (27, .iload_n 2, 1, 2, 0, 0) ::
  (28, .iaload, 1, 0, 0, 0) ::
  (29, .iconst 1, 1, 0, 0, 1) ::
  (30, .if_icmp .ne 10, 3, 40, 0, 0) ::
  (33, .iload_n 3, 1, 3, 0, 0) ::
  (34, .invokestatic 100, 3, 26, 0, 1) ::
  (37, .ifCond .ne 6, 3, 43, 0, 0) ::
  (40, .ldc 160, 2, 0, 0, (-2000000000)) ::
  (42, .ireturn, 1, 0, 0, 0) ::
  (43, .iload 4, 2, 4, 0, 0) ::
  (45, .ldc 186, 2, 0, 0, (-99999)) ::
  (47, .ldc 187, 2, 0, 0, 99999) ::
  (49, .invokestatic 45, 3, 11, 0, 1) ::
  (52, .ifCond .eq 11, 3, 63, 0, 0) ::
  (55, .iload 5, 2, 5, 0, 0) ::
  (57, .invokestatic 103, 3, 27, 0, 1) ::
  (60, .ifCond .ne 6, 3, 66, 0, 0) ::
  (63, .ldc 160, 2, 0, 0, (-2000000000)) ::
  (65, .ireturn, 1, 0, 0, 0) ::
  (66, .aload_n 0, 1, 0, 0, 0) ::
  (67, .getfield 30, 3, 0, 3, 0) ::
  (70, .aload_n 0, 1, 0, 0, 0) ::
  (71, .getfield 10, 3, 0, 0, 0) ::
  (74, .aload 6, 2, 6, 0, 0) ::
  (76, .iload_n 3, 1, 3, 0, 0) ::
  (77, .invokevirtual 167, 3, 81, 14, 1) ::
  (80, .ifCond .ne 6, 3, 86, 0, 0) ::
  (83, .ldc 182, 2, 0, 0, (-1000000000)) ::
  (85, .ireturn, 1, 0, 0, 0) ::
  (86, .aload_n 0, 1, 0, 0, 0) ::
  (87, .getfield 30, 3, 0, 3, 0) ::
  (90, .aload_n 0, 1, 0, 0, 0) ::
  (91, .getfield 10, 3, 0, 0, 0) ::
  (94, .iload_n 2, 1, 2, 0, 0) ::
  (95, .iload 4, 2, 4, 0, 0) ::
  (97, .invokevirtual 188, 3, 95, 14, 1) ::
  (100, .istore 7, 2, 7, 0, 0) ::
  (102, .iload 7, 2, 7, 0, 0) ::
  (104, .iconst (-1), 1, 0, 0, (-1)) ::
  (105, .if_icmp .ne 6, 3, 111, 0, 0) ::
  (108, .ldc 182, 2, 0, 0, (-1000000000)) ::
  (110, .ireturn, 1, 0, 0, 0) ::
  (111, .iload 5, 2, 5, 0, 0) ::
  (113, .ifCond .ne 8, 3, 121, 0, 0) ::
  (116, .iload 7, 2, 7, 0, 0) ::
  (118, .goto 10, 3, 128, 0, 0) ::
  (121, .aload_n 0, 1, 0, 0, 0) ::
  (122, .getfield 30, 3, 0, 3, 0) ::
  (125, .getfield 192, 3, 7, 3, 0) ::
  (128, .ireturn, 1, 0, 0, 0) ::
  []
/-- 97 BlackSun.isNumber(I)Z -/
def r_97 : List ax_E :=
  (0, .iload_n 0, 1, 0, 0, 0) ::
  (1, .iconst 0, 1, 0, 0, 0) ::
  (2, .ldc 187, 2, 0, 0, 99999) ::
  (4, .invokestatic 45, 3, 11, 0, 1) ::
  (7, .ireturn, 1, 1, 0, 0) ::
  []
/-- 98 BlackSun.areThree(III)Z -/
def r_98 : List ax_E :=
  (0, .iload_n 0, 1, 0, 0, 0) ::
  (1, .invokestatic 311, 3, 97, 0, 1) ::
  (4, .ifCond .eq 21, 3, 25, 0, 0) ::
  (7, .iload_n 1, 1, 1, 0, 0) ::
  (8, .invokestatic 311, 3, 97, 0, 1) ::
  (11, .ifCond .eq 14, 3, 25, 0, 0) ::
  (14, .iload_n 2, 1, 2, 0, 0) ::
  (15, .invokestatic 311, 3, 97, 0, 1) ::
  (18, .ifCond .eq 7, 3, 25, 0, 0) ::
  (21, .iconst 1, 1, 0, 0, 1) ::
  (22, .goto 4, 3, 26, 0, 0) ::
  (25, .iconst 0, 1, 0, 0, 0) ::
  (26, .ireturn, 1, 1, 0, 0) ::
  []
/-- 99 BlackSun$Fit.leastOfThree(LBlackSun$Book;LBlackSun$Way;IIII)I -/
def r_99_93 : List ax_E :=
  (93, .lstore 12, 2, 12, 0, 0) ::
  (95, .lload 12, 2, 12, 0, 0) ::
  (97, .ldc2_w 194, 3, 0, 0, (-1)) ::
  (100, .lcmp, 1, 0, 0, 0) ::
  (101, .ifCond .eq 24, 3, 125, 0, 0) ::
  (104, .iload 7, 2, 7, 0, 0) ::
  (106, .ifCond .lt 11, 3, 117, 0, 0) ::
  (109, .lload 12, 2, 12, 0, 0) ::
  (111, .lload 8, 2, 8, 0, 0) ::
  (113, .lcmp, 1, 0, 0, 0) ::
  (114, .ifCond .ge 11, 3, 125, 0, 0) ::
  (117, .iload 10, 2, 10, 0, 0) ::
  (119, .istore 7, 2, 7, 0, 0) ::
  (121, .lload 12, 2, 12, 0, 0) ::
  (123, .lstore 8, 2, 8, 0, 0) ::
  (125, .iinc 10 1, 3, 10, 0, 1) ::
  (128, .goto (-111), 3, 17, 0, 0) ::
  (131, .iload 7, 2, 7, 0, 0) ::
  (133, .ireturn, 1, 0, 0, 0) ::
  []
def r_99_46 : List ax_E :=
  (46, .istore 11, 2, 11, 0, 0) ::
  (48, .aload_n 0, 1, 0, 0, 0) ::
  (49, .aload_n 1, 1, 1, 0, 0) ::
  (50, .aload_n 2, 1, 2, 0, 0) ::
  (51, .iload_n 3, 1, 3, 0, 0) ::
  (52, .iload 11, 2, 11, 0, 0) ::
  (54, .invokevirtual 88, 3, 74, 14, 1) ::
  (57, .ifCond .ne 6, 3, 63, 0, 0) ::
  (60, .iload 7, 2, 7, 0, 0) ::
  (62, .ireturn, 1, 0, 0, 0) ::
  (63, .aload_n 0, 1, 0, 0, 0) ::
  (64, .aload_n 1, 1, 1, 0, 0) ::
  (65, .invokevirtual 92, 3, 76, 14, 0) ::
  (68, .aload_n 0, 1, 0, 0, 0) ::
  (69, .aload_n 1, 1, 1, 0, 0) ::
  (70, .getfield 48, 3, 1, 3, 0) ::
  (73, .invokevirtual 96, 3, 80, 14, 0) ::
  (76, .aload_n 0, 1, 0, 0, 0) ::
  (77, .invokevirtual 187, 3, 83, 14, 1) ::
  (80, .ifCond .eq 10, 3, 90, 0, 0) ::
  (83, .aload_n 0, 1, 0, 0, 0) ::
  (84, .invokevirtual 190, 3, 86, 14, 2) ::
  (87, .goto 6, 3, 93, 0, 0) ::
  (90, .ldc2_w 194, 3, 0, 0, (-1)) ::
  (93, .jsr 0, 0, 1535, 0, 0) ::
  r_99_93
def r_99_17 : List ax_E :=
  (17, .iload 10, 2, 10, 0, 0) ::
  (19, .iconst 3, 1, 0, 0, 3) ::
  (20, .if_icmp .ge 111, 3, 131, 0, 0) ::
  (23, .iload 10, 2, 10, 0, 0) ::
  (25, .ifCond .ne 8, 3, 33, 0, 0) ::
  (28, .iload 4, 2, 4, 0, 0) ::
  (30, .goto 16, 3, 46, 0, 0) ::
  (33, .iload 10, 2, 10, 0, 0) ::
  (35, .iconst 1, 1, 0, 0, 1) ::
  (36, .if_icmp .ne 8, 3, 44, 0, 0) ::
  (39, .iload 5, 2, 5, 0, 0) ::
  (41, .goto 5, 3, 46, 0, 0) ::
  (44, .iload 6, 2, 6, 0, 0) ::
  (46, .jsr 0, 0, 1535, 0, 0) ::
  r_99_46
def r_99 : List ax_E :=
  (0, .aload_n 0, 1, 0, 0, 0) ::
  (1, .aload_n 1, 1, 1, 0, 0) ::
  (2, .aload_n 2, 1, 2, 0, 0) ::
  (3, .iload_n 3, 1, 3, 0, 0) ::
  (4, .invokevirtual 84, 3, 68, 14, 0) ::
  (7, .bipush (-2), 2, 0, 0, (-2)) ::
  (9, .istore 7, 2, 7, 0, 0) ::
  (11, .lconst 0, 1, 0, 0, 0) ::
  (12, .lstore 8, 2, 8, 0, 0) ::
  (14, .iconst 0, 1, 0, 0, 0) ::
  (15, .istore 10, 2, 10, 0, 0) ::
  (17, .jsr 0, 0, 1535, 0, 0) ::
  r_99_17
/-- 100 BlackSun.three(IIIII)I -/
def r_100 : List ax_E :=
  (0, .aload_n 0, 1, 0, 0, 0) ::
  (1, .getfield 10, 3, 0, 0, 0) ::
  (4, .iload_n 1, 1, 1, 0, 0) ::
  (5, .invokevirtual 141, 3, 61, 2, 3) ::
  (8, .astore 6, 2, 6, 0, 0) ::
  (10, .aload 6, 2, 6, 0, 0) ::
  (12, .ifnull 21, 3, 33, 0, 0) ::
  (15, .iload_n 2, 1, 2, 0, 0) ::
  (16, .invokestatic 100, 3, 26, 0, 1) ::
  (19, .ifCond .eq 14, 3, 33, 0, 0) ::
  (22, .iload_n 3, 1, 3, 0, 0) ::
  (23, .iload 4, 2, 4, 0, 0) ::
  (25, .iload 5, 2, 5, 0, 0) ::
  (27, .invokestatic 195, 3, 98, 0, 1) ::
  (30, .ifCond .ne 5, 3, 35, 0, 0) ::
  (33, .iconst (-1), 1, 0, 0, (-1)) ::
  (34, .ireturn, 1, 0, 0, 0) ::
  (35, .aload_n 0, 1, 0, 0, 0) ::
  (36, .getfield 30, 3, 0, 3, 0) ::
  (39, .aload_n 0, 1, 0, 0, 0) ::
  (40, .getfield 10, 3, 0, 0, 0) ::
  (43, .aload 6, 2, 6, 0, 0) ::
  (45, .iload_n 2, 1, 2, 0, 0) ::
  (46, .iload_n 3, 1, 3, 0, 0) ::
  (47, .iload 4, 2, 4, 0, 0) ::
  (49, .iload 5, 2, 5, 0, 0) ::
  (51, .invokevirtual 198, 3, 99, 14, 1) ::
  (54, .ireturn, 1, 0, 0, 0) ::
  []
/-- 101 BlackSun$Images.starsOnPlate(II)I -/
def r_101_5 : List ax_E :=
  (5, .iload 4, 2, 4, 0, 0) ::
  (7, .aload_n 0, 1, 0, 0, 0) ::
  (8, .getfield 33, 3, 4, 0, 0) ::
  (11, .if_icmp .ge 42, 3, 53, 0, 0) ::
  (14, .aload_n 0, 1, 0, 0, 0) ::
  (15, .getfield 9, 3, 4, 1, 0) ::
  (18, .iload 4, 2, 4, 0, 0) ::
  (20, .iaload, 1, 0, 0, 0) ::
  (21, .iload_n 1, 1, 1, 0, 0) ::
  (22, .if_icmp .ne 25, 3, 47, 0, 0) ::
  (25, .aload_n 0, 1, 0, 0, 0) ::
  (26, .iload 4, 2, 4, 0, 0) ::
  (28, .iload_n 2, 1, 2, 0, 0) ::
  (29, .invokevirtual 41, 3, 22, 8, 1) ::
  (32, .ifCond .eq 15, 3, 47, 0, 0) ::
  (35, .iload_n 3, 1, 3, 0, 0) ::
  (36, .iconst 1, 1, 0, 0, 1) ::
  (37, .aload_n 0, 1, 0, 0, 0) ::
  (38, .getfield 15, 3, 4, 2, 0) ::
  (41, .iload 4, 2, 4, 0, 0) ::
  (43, .iaload, 1, 0, 0, 0) ::
  (44, .ishl, 1, 0, 0, 0) ::
  (45, .ior, 1, 0, 0, 0) ::
  (46, .istore_n 3, 1, 3, 0, 0) ::
  (47, .iinc 4 1, 3, 4, 0, 1) ::
  (50, .goto (-45), 3, 5, 0, 0) ::
  (53, .iload_n 3, 1, 3, 0, 0) ::
  (54, .ireturn, 1, 0, 0, 0) ::
  []
def r_101 : List ax_E :=
  (0, .iconst 0, 1, 0, 0, 0) ::
  (1, .istore_n 3, 1, 3, 0, 0) ::
  (2, .iconst 0, 1, 0, 0, 0) ::
  (3, .istore 4, 2, 4, 0, 0) ::
  (5, .jsr 0, 0, 31, 0, 0) ::
  r_101_5
/-- 102 BlackSun$Mix.add(LBlackSun$Stars;II)V -/
def r_102_63 : List ax_E :=
  (63, .aload_n 0, 1, 0, 0, 0) ::
  (64, .dup, 1, 0, 0, 0) ::
  (65, .getfield 18, 3, 8, 2, 0) ::
  (68, .iload_n 3, 1, 3, 0, 0) ::
  (69, .iload 5, 2, 5, 0, 0) ::
  (71, .imul, 1, 0, 0, 0) ::
  (72, .iload 6, 2, 6, 0, 0) ::
  (74, .imul, 1, 0, 0, 0) ::
  (75, .i2l, 1, 0, 0, 0) ::
  (76, .ladd, 1, 0, 0, 0) ::
  (77, .putfield 18, 3, 8, 2, 0) ::
  (80, .iinc 4 1, 3, 4, 0, 1) ::
  (83, .goto (-80), 3, 3, 0, 0) ::
  (86, .return_, 1, 0, 0, 0) ::
  []
def r_102_46 : List ax_E :=
  (46, .aload_n 0, 1, 0, 0, 0) ::
  (47, .dup, 1, 0, 0, 0) ::
  (48, .getfield 15, 3, 8, 1, 0) ::
  (51, .iload_n 3, 1, 3, 0, 0) ::
  (52, .iload 6, 2, 6, 0, 0) ::
  (54, .imul, 1, 0, 0, 0) ::
  (55, .iload 6, 2, 6, 0, 0) ::
  (57, .imul, 1, 0, 0, 0) ::
  (58, .i2l, 1, 0, 0, 0) ::
  (59, .ladd, 1, 0, 0, 0) ::
  (60, .putfield 15, 3, 8, 1, 0) ::
  (63, .jsr 0, 0, 127, 0, 0) ::
  r_102_63
def r_102_29 : List ax_E :=
  (29, .aload_n 0, 1, 0, 0, 0) ::
  (30, .dup, 1, 0, 0, 0) ::
  (31, .getfield 9, 3, 8, 0, 0) ::
  (34, .iload_n 3, 1, 3, 0, 0) ::
  (35, .iload 5, 2, 5, 0, 0) ::
  (37, .imul, 1, 0, 0, 0) ::
  (38, .iload 5, 2, 5, 0, 0) ::
  (40, .imul, 1, 0, 0, 0) ::
  (41, .i2l, 1, 0, 0, 0) ::
  (42, .ladd, 1, 0, 0, 0) ::
  (43, .putfield 9, 3, 8, 0, 0) ::
  (46, .jsr 0, 0, 127, 0, 0) ::
  r_102_46
def r_102_3 : List ax_E :=
  (3, .iload 4, 2, 4, 0, 0) ::
  (5, .iconst 2, 1, 0, 0, 2) ::
  (6, .if_icmp .ge 80, 3, 86, 0, 0) ::
  (9, .aload_n 1, 1, 1, 0, 0) ::
  (10, .iconst 2, 1, 0, 0, 2) ::
  (11, .iload_n 2, 1, 2, 0, 0) ::
  (12, .iload 4, 2, 4, 0, 0) ::
  (14, .invokevirtual 47, 3, 31, 4, 1) ::
  (17, .istore 5, 2, 5, 0, 0) ::
  (19, .aload_n 1, 1, 1, 0, 0) ::
  (20, .iconst 4, 1, 0, 0, 4) ::
  (21, .iload_n 2, 1, 2, 0, 0) ::
  (22, .iload 4, 2, 4, 0, 0) ::
  (24, .invokevirtual 47, 3, 31, 4, 1) ::
  (27, .istore 6, 2, 6, 0, 0) ::
  (29, .jsr 0, 0, 127, 0, 0) ::
  r_102_29
def r_102 : List ax_E :=
  (0, .iconst 0, 1, 0, 0, 0) ::
  (1, .istore 4, 2, 4, 0, 0) ::
  (3, .jsr 0, 0, 31, 0, 0) ::
  r_102_3
/-- 103 BlackSun$Mix.gather(LBlackSun$Book;II)V -/
def r_103_29 : List ax_E :=
  (29, .iload 5, 2, 5, 0, 0) ::
  (31, .aload_n 1, 1, 1, 0, 0) ::
  (32, .getfield 33, 3, 1, 1, 0) ::
  (35, .getfield 37, 3, 2, 0, 0) ::
  (38, .if_icmp .ge 30, 3, 68, 0, 0) ::
  (41, .iload 4, 2, 4, 0, 0) ::
  (43, .iload 5, 2, 5, 0, 0) ::
  (45, .ishr, 1, 0, 0, 0) ::
  (46, .iconst 1, 1, 0, 0, 1) ::
  (47, .iand, 1, 0, 0, 0) ::
  (48, .ifCond .eq 14, 3, 62, 0, 0) ::
  (51, .aload_n 0, 1, 0, 0, 0) ::
  (52, .aload_n 1, 1, 1, 0, 0) ::
  (53, .getfield 33, 3, 1, 1, 0) ::
  (56, .iload 5, 2, 5, 0, 0) ::
  (58, .iconst 1, 1, 0, 0, 1) ::
  (59, .invokevirtual 43, 3, 102, 16, 0) ::
  (62, .iinc 5 1, 3, 5, 0, 1) ::
  (65, .goto (-36), 3, 29, 0, 0) ::
  (68, .return_, 1, 0, 0, 0) ::
  []
def r_103 : List ax_E :=
  (0, .aload_n 0, 1, 0, 0, 0) ::
  (1, .lconst 0, 1, 0, 0, 0) ::
  (2, .putfield 9, 3, 8, 0, 0) ::
  (5, .aload_n 0, 1, 0, 0, 0) ::
  (6, .lconst 0, 1, 0, 0, 0) ::
  (7, .putfield 15, 3, 8, 1, 0) ::
  (10, .aload_n 0, 1, 0, 0, 0) ::
  (11, .lconst 0, 1, 0, 0, 0) ::
  (12, .putfield 18, 3, 8, 2, 0) ::
  (15, .aload_n 1, 1, 1, 0, 0) ::
  (16, .getfield 21, 3, 1, 3, 0) ::
  (19, .iload_n 2, 1, 2, 0, 0) ::
  (20, .iload_n 3, 1, 3, 0, 0) ::
  (21, .invokevirtual 27, 3, 101, 8, 1) ::
  (24, .istore 4, 2, 4, 0, 0) ::
  (26, .iconst 0, 1, 0, 0, 0) ::
  (27, .istore 5, 2, 5, 0, 0) ::
  (29, .jsr 0, 0, 51, 0, 0) ::
  r_103_29
/-- 104 BlackSun$Mix.above()J -/
def r_104 : List ax_E :=
  (0, .aload_n 0, 1, 0, 0, 0) ::
  (1, .getfield 18, 3, 8, 2, 0) ::
  (4, .aload_n 0, 1, 0, 0, 0) ::
  (5, .getfield 18, 3, 8, 2, 0) ::
  (8, .lmul, 1, 0, 0, 0) ::
  (9, .lreturn, 1, 0, 0, 0) ::
  []
/-- 105 BlackSun$Mix.below()J -/
def r_105 : List ax_E :=
  (0, .aload_n 0, 1, 0, 0, 0) ::
  (1, .getfield 9, 3, 8, 0, 0) ::
  (4, .aload_n 0, 1, 0, 0, 0) ::
  (5, .getfield 15, 3, 8, 1, 0) ::
  (8, .lmul, 1, 0, 0, 0) ::
  (9, .lreturn, 1, 0, 0, 0) ::
  []
/-- 106 BlackSun.commonDivisor(JJ)J -/
def r_106_9 : List ax_E :=
  (9, .iload 8, 2, 8, 0, 0) ::
  (11, .bipush 100, 2, 0, 0, 100) ::
  (13, .if_icmp .ge 31, 3, 44, 0, 0) ::
  (16, .lload 6, 2, 6, 0, 0) ::
  (18, .lconst 0, 1, 0, 0, 0) ::
  (19, .lcmp, 1, 0, 0, 0) ::
  (20, .ifCond .eq 24, 3, 44, 0, 0) ::
  (23, .lload 4, 2, 4, 0, 0) ::
  (25, .lload 6, 2, 6, 0, 0) ::
  (27, .lrem, 1, 0, 0, 0) ::
  (28, .lstore 9, 2, 9, 0, 0) ::
  (30, .lload 6, 2, 6, 0, 0) ::
  (32, .lstore 4, 2, 4, 0, 0) ::
  (34, .lload 9, 2, 9, 0, 0) ::
  (36, .lstore 6, 2, 6, 0, 0) ::
  (38, .iinc 8 1, 3, 8, 0, 1) ::
  (41, .goto (-32), 3, 9, 0, 0) ::
  (44, .lload 4, 2, 4, 0, 0) ::
  (46, .lreturn, 1, 0, 0, 0) ::
  []
def r_106 : List ax_E :=
  (0, .lload_n 0, 1, 0, 0, 0) ::
  (1, .lstore 4, 2, 4, 0, 0) ::
  (3, .lload_n 2, 1, 2, 0, 0) ::
  (4, .lstore 6, 2, 6, 0, 0) ::
  (6, .iconst 0, 1, 0, 0, 0) ::
  (7, .istore 8, 2, 8, 0, 0) ::
  (9, .jsr 0, 0, 336, 0, 0) ::
  r_106_9
/-- 107 BlackSun.lowest(JJI)J -/
def r_107 : List ax_E :=
  (0, .lload_n 0, 1, 0, 0, 0) ::
  (1, .lconst 0, 1, 0, 0, 0) ::
  (2, .lcmp, 1, 0, 0, 0) ::
  (3, .ifCond .eq 9, 3, 12, 0, 0) ::
  (6, .lload_n 2, 1, 2, 0, 0) ::
  (7, .lconst 0, 1, 0, 0, 0) ::
  (8, .lcmp, 1, 0, 0, 0) ::
  (9, .ifCond .gt 7, 3, 16, 0, 0) ::
  (12, .iload 4, 2, 4, 0, 0) ::
  (14, .i2l, 1, 0, 0, 0) ::
  (15, .lreturn, 1, 0, 0, 0) ::
  (16, .lload_n 0, 1, 0, 0, 0) ::
  (17, .invokestatic 353, 3, 93, 0, 2) ::
  (20, .lload_n 2, 1, 2, 0, 0) ::
  (21, .invokestatic 357, 3, 106, 0, 2) ::
  (24, .lstore 5, 2, 5, 0, 0) ::
  (26, .lload 5, 2, 5, 0, 0) ::
  (28, .lconst 0, 1, 0, 0, 0) ::
  (29, .lcmp, 1, 0, 0, 0) ::
  (30, .ifCond .gt 7, 3, 37, 0, 0) ::
  (33, .iload 4, 2, 4, 0, 0) ::
  (35, .i2l, 1, 0, 0, 0) ::
  (36, .lreturn, 1, 0, 0, 0) ::
  (37, .iload 4, 2, 4, 0, 0) ::
  (39, .ifCond .ne 7, 3, 46, 0, 0) ::
  (42, .lload_n 0, 1, 0, 0, 0) ::
  (43, .goto 4, 3, 47, 0, 0) ::
  (46, .lload_n 2, 1, 2, 0, 0) ::
  (47, .lload 5, 2, 5, 0, 0) ::
  (49, .ldiv, 1, 0, 0, 0) ::
  (50, .lreturn, 1, 0, 0, 0) ::
  []
/-- 108 BlackSun.mixed(III)J -/
def r_108 : List ax_E :=
  (0, .aload_n 0, 1, 0, 0, 0) ::
  (1, .getfield 10, 3, 0, 0, 0) ::
  (4, .getfield 80, 3, 1, 2, 0) ::
  (7, .iload_n 1, 1, 1, 0, 0) ::
  (8, .invokevirtual 87, 3, 20, 6, 1) ::
  (11, .ifCond .eq 17, 3, 28, 0, 0) ::
  (14, .iload_n 2, 1, 2, 0, 0) ::
  (15, .invokestatic 100, 3, 26, 0, 1) ::
  (18, .ifCond .eq 10, 3, 28, 0, 0) ::
  (21, .iload_n 3, 1, 3, 0, 0) ::
  (22, .invokestatic 103, 3, 27, 0, 1) ::
  (25, .ifCond .ne 7, 3, 32, 0, 0) ::
  (28, .ldc2_w 165, 3, 0, 0, (-1)) ::
  (31, .lreturn, 1, 0, 0, 0) ::
  (32, .aload_n 0, 1, 0, 0, 0) ::
  (33, .getfield 37, 3, 0, 4, 0) ::
  (36, .aload_n 0, 1, 0, 0, 0) ::
  (37, .getfield 10, 3, 0, 0, 0) ::
  (40, .iload_n 1, 1, 1, 0, 0) ::
  (41, .iload_n 2, 1, 2, 0, 0) ::
  (42, .invokevirtual 202, 3, 103, 16, 0) ::
  (45, .aload_n 0, 1, 0, 0, 0) ::
  (46, .getfield 37, 3, 0, 4, 0) ::
  (49, .invokevirtual 206, 3, 104, 16, 2) ::
  (52, .aload_n 0, 1, 0, 0, 0) ::
  (53, .getfield 37, 3, 0, 4, 0) ::
  (56, .invokevirtual 209, 3, 105, 16, 2) ::
  (59, .iload_n 3, 1, 3, 0, 0) ::
  (60, .invokestatic 212, 3, 107, 0, 2) ::
  (63, .lreturn, 1, 0, 0, 0) ::
  []
/-- 109 BlackSun$Mix.bestParter(LBlackSun$Book;II)I -/
def r_109_87 : List ax_E :=
  (87, .iload 10, 2, 10, 0, 0) ::
  (89, .istore 5, 2, 5, 0, 0) ::
  (91, .aload_n 0, 1, 0, 0, 0) ::
  (92, .invokevirtual 55, 3, 104, 16, 2) ::
  (95, .lstore 6, 2, 6, 0, 0) ::
  (97, .aload_n 0, 1, 0, 0, 0) ::
  (98, .invokevirtual 59, 3, 105, 16, 2) ::
  (101, .lstore 8, 2, 8, 0, 0) ::
  (103, .aload_n 0, 1, 0, 0, 0) ::
  (104, .aload_n 1, 1, 1, 0, 0) ::
  (105, .getfield 33, 3, 1, 1, 0) ::
  (108, .iload 10, 2, 10, 0, 0) ::
  (110, .iconst (-1), 1, 0, 0, (-1)) ::
  (111, .invokevirtual 43, 3, 102, 16, 0) ::
  (114, .iinc 10 1, 3, 10, 0, 1) ::
  (117, .goto (-87), 3, 30, 0, 0) ::
  (120, .iload 5, 2, 5, 0, 0) ::
  (122, .ireturn, 1, 0, 0, 0) ::
  []
def r_109_30 : List ax_E :=
  (30, .iload 10, 2, 10, 0, 0) ::
  (32, .aload_n 1, 1, 1, 0, 0) ::
  (33, .getfield 33, 3, 1, 1, 0) ::
  (36, .getfield 37, 3, 2, 0, 0) ::
  (39, .if_icmp .ge 81, 3, 120, 0, 0) ::
  (42, .iload 4, 2, 4, 0, 0) ::
  (44, .iload 10, 2, 10, 0, 0) ::
  (46, .ishr, 1, 0, 0, 0) ::
  (47, .iconst 1, 1, 0, 0, 1) ::
  (48, .iand, 1, 0, 0, 0) ::
  (49, .ifCond .ne 65, 3, 114, 0, 0) ::
  (52, .aload_n 0, 1, 0, 0, 0) ::
  (53, .aload_n 1, 1, 1, 0, 0) ::
  (54, .getfield 33, 3, 1, 1, 0) ::
  (57, .iload 10, 2, 10, 0, 0) ::
  (59, .iconst 1, 1, 0, 0, 1) ::
  (60, .invokevirtual 43, 3, 102, 16, 0) ::
  (63, .iload 5, 2, 5, 0, 0) ::
  (65, .iconst (-1), 1, 0, 0, (-1)) ::
  (66, .if_icmp .eq 21, 3, 87, 0, 0) ::
  (69, .aload_n 0, 1, 0, 0, 0) ::
  (70, .invokevirtual 55, 3, 104, 16, 2) ::
  (73, .lload 8, 2, 8, 0, 0) ::
  (75, .lmul, 1, 0, 0, 0) ::
  (76, .lload 6, 2, 6, 0, 0) ::
  (78, .aload_n 0, 1, 0, 0, 0) ::
  (79, .invokevirtual 59, 3, 105, 16, 2) ::
  (82, .lmul, 1, 0, 0, 0) ::
  (83, .lcmp, 1, 0, 0, 0) ::
  (84, .ifCond .ge 19, 3, 103, 0, 0) ::
  (87, .jsr 0, 0, 1043, 0, 0) ::
  r_109_87
def r_109 : List ax_E :=
  (0, .aload_n 0, 1, 0, 0, 0) ::
  (1, .aload_n 1, 1, 1, 0, 0) ::
  (2, .iload_n 2, 1, 2, 0, 0) ::
  (3, .iload_n 3, 1, 3, 0, 0) ::
  (4, .invokevirtual 51, 3, 103, 16, 0) ::
  (7, .aload_n 1, 1, 1, 0, 0) ::
  (8, .getfield 21, 3, 1, 3, 0) ::
  (11, .iload_n 2, 1, 2, 0, 0) ::
  (12, .iload_n 3, 1, 3, 0, 0) ::
  (13, .invokevirtual 27, 3, 101, 8, 1) ::
  (16, .istore 4, 2, 4, 0, 0) ::
  (18, .iconst (-1), 1, 0, 0, (-1)) ::
  (19, .istore 5, 2, 5, 0, 0) ::
  (21, .lconst 0, 1, 0, 0, 0) ::
  (22, .lstore 6, 2, 6, 0, 0) ::
  (24, .lconst 1, 1, 0, 0, 1) ::
  (25, .lstore 8, 2, 8, 0, 0) ::
  (27, .iconst 0, 1, 0, 0, 0) ::
  (28, .istore 10, 2, 10, 0, 0) ::
  (30, .jsr 0, 0, 1395, 0, 0) ::
  r_109_30
/-- 110 BlackSun.parter(II)I -/
def r_110 : List ax_E :=
  (0, .aload_n 0, 1, 0, 0, 0) ::
  (1, .getfield 10, 3, 0, 0, 0) ::
  (4, .getfield 80, 3, 1, 2, 0) ::
  (7, .iload_n 1, 1, 1, 0, 0) ::
  (8, .invokevirtual 87, 3, 20, 6, 1) ::
  (11, .ifCond .eq 10, 3, 21, 0, 0) ::
  (14, .iload_n 2, 1, 2, 0, 0) ::
  (15, .invokestatic 100, 3, 26, 0, 1) ::
  (18, .ifCond .ne 5, 3, 23, 0, 0) ::
  (21, .iconst (-1), 1, 0, 0, (-1)) ::
  (22, .ireturn, 1, 0, 0, 0) ::
  (23, .aload_n 0, 1, 0, 0, 0) ::
  (24, .getfield 37, 3, 0, 4, 0) ::
  (27, .aload_n 0, 1, 0, 0, 0) ::
  (28, .getfield 10, 3, 0, 0, 0) ::
  (31, .iload_n 1, 1, 1, 0, 0) ::
  (32, .iload_n 2, 1, 2, 0, 0) ::
  (33, .invokevirtual 216, 3, 109, 16, 1) ::
  (36, .ireturn, 1, 0, 0, 0) ::
  []
/-- 111 BlackSun.isNear(III)Z -/
def r_111 : List ax_E :=
  (0, .iload_n 0, 1, 0, 0, 0) ::
  (1, .i2l, 1, 0, 0, 0) ::
  (2, .iload_n 1, 1, 1, 0, 0) ::
  (3, .i2l, 1, 0, 0, 0) ::
  (4, .lsub, 1, 0, 0, 0) ::
  (5, .invokestatic 353, 3, 93, 0, 2) ::
  (8, .iload_n 2, 1, 2, 0, 0) ::
  (9, .i2l, 1, 0, 0, 0) ::
  (10, .lcmp, 1, 0, 0, 0) ::
  (11, .ifCond .gt 7, 3, 18, 0, 0) ::
  (14, .iconst 1, 1, 0, 0, 1) ::
  (15, .goto 4, 3, 19, 0, 0) ::
  (18, .iconst 0, 1, 0, 0, 0) ::
  (19, .ireturn, 1, 1, 0, 0) ::
  []
/-- 112 BlackSun$Images.isOnPlate(II)Z -/
def r_112_2 : List ax_E :=
  (2, .iload_n 3, 1, 3, 0, 0) ::
  (3, .aload_n 0, 1, 0, 0, 0) ::
  (4, .getfield 33, 3, 4, 0, 0) ::
  (7, .if_icmp .ge 30, 3, 37, 0, 0) ::
  (10, .aload_n 0, 1, 0, 0, 0) ::
  (11, .getfield 9, 3, 4, 1, 0) ::
  (14, .iload_n 3, 1, 3, 0, 0) ::
  (15, .iaload, 1, 0, 0, 0) ::
  (16, .iload_n 1, 1, 1, 0, 0) ::
  (17, .if_icmp .ne 14, 3, 31, 0, 0) ::
  (20, .aload_n 0, 1, 0, 0, 0) ::
  (21, .iload_n 3, 1, 3, 0, 0) ::
  (22, .iload_n 2, 1, 2, 0, 0) ::
  (23, .invokevirtual 41, 3, 22, 8, 1) ::
  (26, .ifCond .eq 5, 3, 31, 0, 0) ::
  (29, .iconst 1, 1, 0, 0, 1) ::
  (30, .ireturn, 1, 1, 0, 0) ::
  (31, .iinc 3 1, 3, 3, 0, 1) ::
  (34, .goto (-32), 3, 2, 0, 0) ::
  (37, .iconst 0, 1, 0, 0, 0) ::
  (38, .ireturn, 1, 1, 0, 0) ::
  []
def r_112 : List ax_E :=
  (0, .iconst 0, 1, 0, 0, 0) ::
  (1, .istore_n 3, 1, 3, 0, 0) ::
  (2, .jsr 0, 0, 15, 0, 0) ::
  r_112_2
/-- 113 BlackSun$Book.hasCheckNear(III)Z -/
def r_113_82 : List ax_E :=
  (82, .istore 5, 2, 5, 0, 0) ::
  (84, .iload 5, 2, 5, 0, 0) ::
  (86, .ifCond .eq 18, 3, 104, 0, 0) ::
  (89, .aload_n 0, 1, 0, 0, 0) ::
  (90, .getfield 28, 3, 1, 3, 0) ::
  (93, .iload 4, 2, 4, 0, 0) ::
  (95, .iload_n 2, 1, 2, 0, 0) ::
  (96, .invokevirtual 136, 3, 112, 8, 1) ::
  (99, .ifCond .eq 5, 3, 104, 0, 0) ::
  (102, .iconst 1, 1, 0, 0, 1) ::
  (103, .ireturn, 1, 1, 0, 0) ::
  (104, .iinc 4 1, 3, 4, 0, 1) ::
  (107, .goto (-104), 3, 3, 0, 0) ::
  (110, .iconst 0, 1, 0, 0, 0) ::
  (111, .ireturn, 1, 1, 0, 0) ::
  []
def r_113_3 : List ax_E :=
  (3, .iload 4, 2, 4, 0, 0) ::
  (5, .aload_n 0, 1, 0, 0, 0) ::
  (6, .getfield 21, 3, 1, 2, 0) ::
  (9, .getfield 130, 3, 3, 0, 0) ::
  (12, .if_icmp .ge 98, 3, 110, 0, 0) ::
  (15, .aload_n 0, 1, 0, 0, 0) ::
  (16, .getfield 21, 3, 1, 2, 0) ::
  (19, .getfield 74, 3, 3, 2, 0) ::
  (22, .iload 4, 2, 4, 0, 0) ::
  (24, .iaload, 1, 0, 0, 0) ::
  (25, .iconst 2, 1, 0, 0, 2) ::
  (26, .if_icmp .ne 55, 3, 81, 0, 0) ::
  (29, .aload_n 0, 1, 0, 0, 0) ::
  (30, .getfield 21, 3, 1, 2, 0) ::
  (33, .getfield 100, 3, 3, 1, 0) ::
  (36, .iload 4, 2, 4, 0, 0) ::
  (38, .iaload, 1, 0, 0, 0) ::
  (39, .aload_n 0, 1, 0, 0, 0) ::
  (40, .getfield 21, 3, 1, 2, 0) ::
  (43, .getfield 100, 3, 3, 1, 0) ::
  (46, .iload_n 1, 1, 1, 0, 0) ::
  (47, .iaload, 1, 0, 0, 0) ::
  (48, .if_icmp .ne 33, 3, 81, 0, 0) ::
  (51, .aload_n 0, 1, 0, 0, 0) ::
  (52, .getfield 21, 3, 1, 2, 0) ::
  (55, .getfield 103, 3, 3, 3, 0) ::
  (58, .iload 4, 2, 4, 0, 0) ::
  (60, .iaload, 1, 0, 0, 0) ::
  (61, .aload_n 0, 1, 0, 0, 0) ::
  (62, .getfield 21, 3, 1, 2, 0) ::
  (65, .getfield 103, 3, 3, 3, 0) ::
  (68, .iload_n 1, 1, 1, 0, 0) ::
  (69, .iaload, 1, 0, 0, 0) ::
  (70, .iload_n 3, 1, 3, 0, 0) ::
  (71, .invokestatic 133, 3, 111, 0, 1) ::
  (74, .ifCond .eq 7, 3, 81, 0, 0) ::
  (77, .iconst 1, 1, 0, 0, 1) ::
  (78, .goto 4, 3, 82, 0, 0) ::
  (81, .iconst 0, 1, 0, 0, 0) ::
  (82, .jsr 0, 0, 31, 0, 0) ::
  r_113_82
def r_113 : List ax_E :=
  (0, .iconst 0, 1, 0, 0, 0) ::
  (1, .istore 4, 2, 4, 0, 0) ::
  (3, .jsr 0, 0, 31, 0, 0) ::
  r_113_3
/-- 114 BlackSun.usable(III)I -/
def r_114 : List ax_E :=
  (0, .aload_n 0, 1, 0, 0, 0) ::
  (1, .getfield 10, 3, 0, 0, 0) ::
  (4, .getfield 80, 3, 1, 2, 0) ::
  (7, .iload_n 1, 1, 1, 0, 0) ::
  (8, .invokevirtual 87, 3, 20, 6, 1) ::
  (11, .ifCond .eq 18, 3, 29, 0, 0) ::
  (14, .aload_n 0, 1, 0, 0, 0) ::
  (15, .getfield 10, 3, 0, 0, 0) ::
  (18, .getfield 80, 3, 1, 2, 0) ::
  (21, .getfield 219, 3, 3, 2, 0) ::
  (24, .iload_n 1, 1, 1, 0, 0) ::
  (25, .iaload, 1, 0, 0, 0) ::
  (26, .ifCond .eq 5, 3, 31, 0, 0) ::
  (29, .iconst (-1), 1, 0, 0, (-1)) ::
  (30, .ireturn, 1, 0, 0, 0) ::
  (31, .iload_n 2, 1, 2, 0, 0) ::
  (32, .invokestatic 100, 3, 26, 0, 1) ::
  (35, .ifCond .eq 13, 3, 48, 0, 0) ::
  (38, .iload_n 3, 1, 3, 0, 0) ::
  (39, .iconst 0, 1, 0, 0, 0) ::
  (40, .bipush 99, 2, 0, 0, 99) ::
  (42, .invokestatic 45, 3, 11, 0, 1) ::
  (45, .ifCond .ne 5, 3, 50, 0, 0) ::
  (48, .iconst (-1), 1, 0, 0, (-1)) ::
  (49, .ireturn, 1, 0, 0, 0) ::
  (50, .aload_n 0, 1, 0, 0, 0) ::
  (51, .getfield 10, 3, 0, 0, 0) ::
  (54, .iload_n 1, 1, 1, 0, 0) ::
  (55, .iload_n 2, 1, 2, 0, 0) ::
  (56, .iload_n 3, 1, 3, 0, 0) ::
  (57, .invokevirtual 222, 3, 113, 2, 1) ::
  (60, .ifCond .eq 7, 3, 67, 0, 0) ::
  (63, .iconst 1, 1, 0, 0, 1) ::
  (64, .goto 4, 3, 68, 0, 0) ::
  (67, .iconst 0, 1, 0, 0, 0) ::
  (68, .ireturn, 1, 0, 0, 0) ::
  []
/-- 115 java/lang/Math.min(II)I -/
def r_115 : List ax_E :=
  (0, .iload_n 0, 1, 0, 0, 0) ::
  (1, .iload_n 1, 1, 1, 0, 0) ::
  (2, .if_icmp .gt 7, 3, 9, 0, 0) ::
  (5, .iload_n 0, 1, 0, 0, 0) ::
  (6, .goto 4, 3, 10, 0, 0) ::
  (9, .iload_n 1, 1, 1, 0, 0) ::
  (10, .ireturn, 1, 0, 0, 0) ::
  []
/-- 116 BlackSun.tell(II)Z -/
def r_116 : List ax_E :=
  (0, .iload_n 1, 1, 1, 0, 0) ::
  (1, .invokestatic 88, 3, 21, 0, 1) ::
  (4, .ifCond .eq 18, 3, 22, 0, 0) ::
  (7, .iload_n 2, 1, 2, 0, 0) ::
  (8, .iconst 0, 1, 0, 0, 0) ::
  (9, .aload_n 0, 1, 0, 0, 0) ::
  (10, .getfield 10, 3, 0, 0, 0) ::
  (13, .getfield 41, 3, 1, 0, 0) ::
  (16, .invokestatic 45, 3, 11, 0, 1) ::
  (19, .ifCond .ne 5, 3, 24, 0, 0) ::
  (22, .iconst 0, 1, 0, 0, 0) ::
  (23, .ireturn, 1, 1, 0, 0) ::
  (24, .aload_n 0, 1, 0, 0, 0) ::
  (25, .getfield 10, 3, 0, 0, 0) ::
  (28, .getfield 225, 3, 1, 15, 0) ::
  (31, .iload_n 1, 1, 1, 0, 0) ::
  (32, .aload_n 0, 1, 0, 0, 0) ::
  (33, .getfield 10, 3, 0, 0, 0) ::
  (36, .getfield 225, 3, 1, 15, 0) ::
  (39, .iload_n 1, 1, 1, 0, 0) ::
  (40, .iaload, 1, 0, 0, 0) ::
  (41, .iload_n 2, 1, 2, 0, 0) ::
  (42, .invokestatic 228, 3, 115, 0, 1) ::
  (45, .iastore, 1, 0, 0, 0) ::
  (46, .iconst 1, 1, 0, 0, 1) ::
  (47, .ireturn, 1, 1, 0, 0) ::
  []
/-- 117 BlackSun$Book.hasKnowledge(II)Z -/
def r_117 : List ax_E :=
  (0, .aload_n 0, 1, 0, 0, 0) ::
  (1, .getfield 60, 3, 1, 15, 0) ::
  (4, .iload_n 1, 1, 1, 0, 0) ::
  (5, .iaload, 1, 0, 0, 0) ::
  (6, .iload_n 2, 1, 2, 0, 0) ::
  (7, .if_icmp .gt 7, 3, 14, 0, 0) ::
  (10, .iconst 1, 1, 0, 0, 1) ::
  (11, .goto 4, 3, 15, 0, 0) ::
  (14, .iconst 0, 1, 0, 0, 0) ::
  (15, .ireturn, 1, 1, 0, 0) ::
  []
/-- 118 BlackSun.knows(II)I -/
def r_118 : List ax_E :=
  (0, .iload_n 1, 1, 1, 0, 0) ::
  (1, .invokestatic 88, 3, 21, 0, 1) ::
  (4, .ifCond .eq 10, 3, 14, 0, 0) ::
  (7, .iload_n 2, 1, 2, 0, 0) ::
  (8, .invokestatic 100, 3, 26, 0, 1) ::
  (11, .ifCond .ne 5, 3, 16, 0, 0) ::
  (14, .iconst (-1), 1, 0, 0, (-1)) ::
  (15, .ireturn, 1, 0, 0, 0) ::
  (16, .aload_n 0, 1, 0, 0, 0) ::
  (17, .getfield 10, 3, 0, 0, 0) ::
  (20, .iload_n 1, 1, 1, 0, 0) ::
  (21, .iload_n 2, 1, 2, 0, 0) ::
  (22, .invokevirtual 233, 3, 117, 2, 1) ::
  (25, .ifCond .eq 7, 3, 32, 0, 0) ::
  (28, .iconst 1, 1, 0, 0, 1) ::
  (29, .goto 4, 3, 33, 0, 0) ::
  (32, .iconst 0, 1, 0, 0, 0) ::
  (33, .ireturn, 1, 0, 0, 0) ::
  []
/-- 119 BlackSun$Lean.<init>()V -/
def r_119 : List ax_E :=
  (0, .aload_n 0, 1, 0, 0, 0) ::
  (1, .invokespecial 1, 3, 0, 100, 0) ::
  (4, .return_, 1, 0, 0, 0) ::
  []
/-- 120 BlackSun$Lean.measure(LBlackSun$Book;II)J -/
def r_120 : List ax_E :=
  (0, .aload_n 0, 1, 0, 0, 0) ::
  (1, .getfield 7, 3, 1, 3, 0) ::
  (4, .getfield 55, 3, 4, 4, 0) ::
  (7, .iload_n 1, 1, 1, 0, 0) ::
  (8, .iaload, 1, 0, 0, 0) ::
  (9, .istore_n 3, 1, 3, 0, 0) ::
  (10, .iload_n 2, 1, 2, 0, 0) ::
  (11, .ifCond .ne 6, 3, 17, 0, 0) ::
  (14, .iload_n 3, 1, 3, 0, 0) ::
  (15, .i2l, 1, 0, 0, 0) ::
  (16, .lreturn, 1, 0, 0, 0) ::
  (17, .aload_n 0, 1, 0, 0, 0) ::
  (18, .getfield 7, 3, 1, 3, 0) ::
  (21, .getfield 36, 3, 4, 2, 0) ::
  (24, .iload_n 1, 1, 1, 0, 0) ::
  (25, .iaload, 1, 0, 0, 0) ::
  (26, .istore 4, 2, 4, 0, 0) ::
  (28, .aload_n 0, 1, 0, 0, 0) ::
  (29, .getfield 58, 3, 1, 1, 0) ::
  (32, .getfield 62, 3, 2, 1, 0) ::
  (35, .iload 4, 2, 4, 0, 0) ::
  (37, .iaload, 1, 0, 0, 0) ::
  (38, .iload_n 3, 1, 3, 0, 0) ::
  (39, .imul, 1, 0, 0, 0) ::
  (40, .aload_n 0, 1, 0, 0, 0) ::
  (41, .getfield 58, 3, 1, 1, 0) ::
  (44, .getfield 67, 3, 2, 2, 0) ::
  (47, .iload 4, 2, 4, 0, 0) ::
  (49, .iaload, 1, 0, 0, 0) ::
  (50, .aload_n 0, 1, 0, 0, 0) ::
  (51, .getfield 7, 3, 1, 3, 0) ::
  (54, .getfield 70, 3, 4, 5, 0) ::
  (57, .iload_n 1, 1, 1, 0, 0) ::
  (58, .iaload, 1, 0, 0, 0) ::
  (59, .imul, 1, 0, 0, 0) ::
  (60, .iadd, 1, 0, 0, 0) ::
  (61, .i2l, 1, 0, 0, 0) ::
  (62, .lreturn, 1, 0, 0, 0) ::
  []
/-- 121 BlackSun$Lean.addPlace(LBlackSun$Book;III)V -/
def r_121_95 : List ax_E :=
  (95, .istore 10, 2, 10, 0, 0) ::
  (97, .iload 10, 2, 10, 0, 0) ::
  (99, .ifCond .eq 35, 3, 134, 0, 0) ::
  (102, .aload_n 1, 1, 1, 0, 0) ::
  (103, .aload 5, 2, 5, 0, 0) ::
  (105, .getfield 19, 3, 4, 3, 0) ::
  (108, .iload 9, 2, 9, 0, 0) ::
  (110, .iaload, 1, 0, 0, 0) ::
  (111, .iload_n 3, 1, 3, 0, 0) ::
  (112, .invokevirtual 39, 3, 117, 2, 1) ::
  (115, .ifCond .ne 19, 3, 134, 0, 0) ::
  (118, .lload 6, 2, 6, 0, 0) ::
  (120, .aload_n 1, 1, 1, 0, 0) ::
  (121, .iload 9, 2, 9, 0, 0) ::
  (123, .iload 4, 2, 4, 0, 0) ::
  (125, .invokestatic 42, 3, 120, 0, 2) ::
  (128, .ladd, 1, 0, 0, 0) ::
  (129, .lstore 6, 2, 6, 0, 0) ::
  (131, .iinc 8 1, 3, 8, 0, 1) ::
  (134, .iinc 9 1, 3, 9, 0, 1) ::
  (137, .goto (-122), 3, 15, 0, 0) ::
  (140, .iload 8, 2, 8, 0, 0) ::
  (142, .ifCond .le 46, 3, 188, 0, 0) ::
  (145, .aload_n 0, 1, 0, 0, 0) ::
  (146, .dup, 1, 0, 0, 0) ::
  (147, .getfield 46, 3, 9, 0, 0) ::
  (150, .ldc2_w 50, 3, 0, 0, 420) ::
  (153, .aload_n 1, 1, 1, 0, 0) ::
  (154, .iload_n 2, 1, 2, 0, 0) ::
  (155, .iload 4, 2, 4, 0, 0) ::
  (157, .invokestatic 42, 3, 120, 0, 2) ::
  (160, .lmul, 1, 0, 0, 0) ::
  (161, .sipush 420, 3, 0, 0, 420) ::
  (164, .iload 8, 2, 8, 0, 0) ::
  (166, .idiv, 1, 0, 0, 0) ::
  (167, .i2l, 1, 0, 0, 0) ::
  (168, .lload 6, 2, 6, 0, 0) ::
  (170, .lmul, 1, 0, 0, 0) ::
  (171, .lsub, 1, 0, 0, 0) ::
  (172, .ladd, 1, 0, 0, 0) ::
  (173, .putfield 46, 3, 9, 0, 0) ::
  (176, .aload_n 0, 1, 0, 0, 0) ::
  (177, .dup, 1, 0, 0, 0) ::
  (178, .getfield 52, 3, 9, 1, 0) ::
  (181, .ldc2_w 50, 3, 0, 0, 420) ::
  (184, .ladd, 1, 0, 0, 0) ::
  (185, .putfield 52, 3, 9, 1, 0) ::
  (188, .return_, 1, 0, 0, 0) ::
  []
def r_121_15 : List ax_E :=
  (15, .iload 9, 2, 9, 0, 0) ::
  (17, .aload 5, 2, 5, 0, 0) ::
  (19, .getfield 13, 3, 4, 0, 0) ::
  (22, .if_icmp .ge 118, 3, 140, 0, 0) ::
  (25, .aload 5, 2, 5, 0, 0) ::
  (27, .getfield 33, 3, 4, 1, 0) ::
  (30, .iload 9, 2, 9, 0, 0) ::
  (32, .iaload, 1, 0, 0, 0) ::
  (33, .aload 5, 2, 5, 0, 0) ::
  (35, .getfield 33, 3, 4, 1, 0) ::
  (38, .iload_n 2, 1, 2, 0, 0) ::
  (39, .iaload, 1, 0, 0, 0) ::
  (40, .if_icmp .ne 54, 3, 94, 0, 0) ::
  (43, .aload 5, 2, 5, 0, 0) ::
  (45, .getfield 36, 3, 4, 2, 0) ::
  (48, .iload 9, 2, 9, 0, 0) ::
  (50, .iaload, 1, 0, 0, 0) ::
  (51, .aload 5, 2, 5, 0, 0) ::
  (53, .getfield 36, 3, 4, 2, 0) ::
  (56, .iload_n 2, 1, 2, 0, 0) ::
  (57, .iaload, 1, 0, 0, 0) ::
  (58, .if_icmp .ne 36, 3, 94, 0, 0) ::
  (61, .aload 5, 2, 5, 0, 0) ::
  (63, .getfield 19, 3, 4, 3, 0) ::
  (66, .iload 9, 2, 9, 0, 0) ::
  (68, .iaload, 1, 0, 0, 0) ::
  (69, .aload 5, 2, 5, 0, 0) ::
  (71, .getfield 19, 3, 4, 3, 0) ::
  (74, .iload_n 2, 1, 2, 0, 0) ::
  (75, .iaload, 1, 0, 0, 0) ::
  (76, .if_icmp .eq 18, 3, 94, 0, 0) ::
  (79, .aload 5, 2, 5, 0, 0) ::
  (81, .iload 9, 2, 9, 0, 0) ::
  (83, .iload_n 3, 1, 3, 0, 0) ::
  (84, .invokevirtual 23, 3, 22, 8, 1) ::
  (87, .ifCond .eq 7, 3, 94, 0, 0) ::
  (90, .iconst 1, 1, 0, 0, 1) ::
  (91, .goto 4, 3, 95, 0, 0) ::
  (94, .iconst 0, 1, 0, 0, 0) ::
  (95, .jsr 0, 0, 895, 0, 0) ::
  r_121_95
def r_121 : List ax_E :=
  (0, .aload_n 1, 1, 1, 0, 0) ::
  (1, .getfield 7, 3, 1, 3, 0) ::
  (4, .astore 5, 2, 5, 0, 0) ::
  (6, .lconst 0, 1, 0, 0, 0) ::
  (7, .lstore 6, 2, 6, 0, 0) ::
  (9, .iconst 0, 1, 0, 0, 0) ::
  (10, .istore 8, 2, 8, 0, 0) ::
  (12, .iconst 0, 1, 0, 0, 0) ::
  (13, .istore 9, 2, 9, 0, 0) ::
  (15, .jsr 0, 0, 895, 0, 0) ::
  r_121_15
/-- 122 BlackSun$Lean.gather(LBlackSun$Book;III)V -/
def r_122_9 : List ax_E :=
  (9, .iload 6, 2, 6, 0, 0) ::
  (11, .aload 5, 2, 5, 0, 0) ::
  (13, .getfield 13, 3, 4, 0, 0) ::
  (16, .if_icmp .ge 42, 3, 58, 0, 0) ::
  (19, .aload 5, 2, 5, 0, 0) ::
  (21, .getfield 19, 3, 4, 3, 0) ::
  (24, .iload 6, 2, 6, 0, 0) ::
  (26, .iaload, 1, 0, 0, 0) ::
  (27, .iload_n 2, 1, 2, 0, 0) ::
  (28, .if_icmp .ne 24, 3, 52, 0, 0) ::
  (31, .aload 5, 2, 5, 0, 0) ::
  (33, .iload 6, 2, 6, 0, 0) ::
  (35, .iload_n 3, 1, 3, 0, 0) ::
  (36, .invokevirtual 23, 3, 22, 8, 1) ::
  (39, .ifCond .eq 13, 3, 52, 0, 0) ::
  (42, .aload_n 0, 1, 0, 0, 0) ::
  (43, .aload_n 1, 1, 1, 0, 0) ::
  (44, .iload 6, 2, 6, 0, 0) ::
  (46, .iload_n 3, 1, 3, 0, 0) ::
  (47, .iload 4, 2, 4, 0, 0) ::
  (49, .invokevirtual 27, 3, 121, 18, 0) ::
  (52, .iinc 6 1, 3, 6, 0, 1) ::
  (55, .goto (-46), 3, 9, 0, 0) ::
  (58, .return_, 1, 0, 0, 0) ::
  []
def r_122 : List ax_E :=
  (0, .aload_n 1, 1, 1, 0, 0) ::
  (1, .getfield 7, 3, 1, 3, 0) ::
  (4, .astore 5, 2, 5, 0, 0) ::
  (6, .iconst 0, 1, 0, 0, 0) ::
  (7, .istore 6, 2, 6, 0, 0) ::
  (9, .jsr 0, 0, 127, 0, 0) ::
  r_122_9
/-- 123 BlackSun.leans(IIII)J -/
def r_123 : List ax_E :=
  (0, .iload_n 1, 1, 1, 0, 0) ::
  (1, .invokestatic 88, 3, 21, 0, 1) ::
  (4, .ifCond .eq 25, 3, 29, 0, 0) ::
  (7, .iload_n 2, 1, 2, 0, 0) ::
  (8, .invokestatic 100, 3, 26, 0, 1) ::
  (11, .ifCond .eq 18, 3, 29, 0, 0) ::
  (14, .iload_n 3, 1, 3, 0, 0) ::
  (15, .invokestatic 103, 3, 27, 0, 1) ::
  (18, .ifCond .eq 11, 3, 29, 0, 0) ::
  (21, .iload 4, 2, 4, 0, 0) ::
  (23, .invokestatic 103, 3, 27, 0, 1) ::
  (26, .ifCond .ne 7, 3, 33, 0, 0) ::
  (29, .ldc2_w 237, 3, 0, 0, (-1000000000000)) ::
  (32, .lreturn, 1, 0, 0, 0) ::
  (33, .new 239, 3, 9, 0, 0) ::
  (36, .dup, 1, 0, 0, 0) ::
  (37, .invokespecial 241, 3, 119, 18, 0) ::
  (40, .astore 5, 2, 5, 0, 0) ::
  (42, .aload 5, 2, 5, 0, 0) ::
  (44, .aload_n 0, 1, 0, 0, 0) ::
  (45, .getfield 10, 3, 0, 0, 0) ::
  (48, .iload_n 1, 1, 1, 0, 0) ::
  (49, .iload_n 2, 1, 2, 0, 0) ::
  (50, .iload_n 3, 1, 3, 0, 0) ::
  (51, .invokevirtual 242, 3, 122, 18, 0) ::
  (54, .aload 5, 2, 5, 0, 0) ::
  (56, .getfield 245, 3, 9, 0, 0) ::
  (59, .aload 5, 2, 5, 0, 0) ::
  (61, .getfield 248, 3, 9, 1, 0) ::
  (64, .iload 4, 2, 4, 0, 0) ::
  (66, .invokestatic 212, 3, 107, 0, 2) ::
  (69, .lreturn, 1, 0, 0, 0) ::
  []
/-- 124 BlackSun.areTwoIslands(II)Z -/
def r_124 : List ax_E :=
  (0, .iload_n 0, 1, 0, 0, 0) ::
  (1, .invokestatic 77, 3, 17, 0, 1) ::
  (4, .ifCond .eq 19, 3, 23, 0, 0) ::
  (7, .iload_n 1, 1, 1, 0, 0) ::
  (8, .invokestatic 77, 3, 17, 0, 1) ::
  (11, .ifCond .eq 12, 3, 23, 0, 0) ::
  (14, .iload_n 0, 1, 0, 0, 0) ::
  (15, .iload_n 1, 1, 1, 0, 0) ::
  (16, .if_icmp .eq 7, 3, 23, 0, 0) ::
  (19, .iconst 1, 1, 0, 0, 1) ::
  (20, .goto 4, 3, 24, 0, 0) ::
  (23, .iconst 0, 1, 0, 0, 0) ::
  (24, .ireturn, 1, 1, 0, 0) ::
  []
/-- 125 BlackSun$Fit.solveIsland(LBlackSun$Book;I)Z -/
def r_125_6 : List ax_E :=
  (6, .iload_n 3, 1, 3, 0, 0) ::
  (7, .aload_n 1, 1, 1, 0, 0) ::
  (8, .getfield 165, 3, 1, 2, 0) ::
  (11, .getfield 169, 3, 3, 0, 0) ::
  (14, .if_icmp .ge 35, 3, 49, 0, 0) ::
  (17, .aload_n 1, 1, 1, 0, 0) ::
  (18, .getfield 165, 3, 1, 2, 0) ::
  (21, .getfield 172, 3, 3, 1, 0) ::
  (24, .iload_n 3, 1, 3, 0, 0) ::
  (25, .iaload, 1, 0, 0, 0) ::
  (26, .iload_n 2, 1, 2, 0, 0) ::
  (27, .if_icmp .ne 16, 3, 43, 0, 0) ::
  (30, .aload_n 0, 1, 0, 0, 0) ::
  (31, .getfield 38, 3, 7, 11, 0) ::
  (34, .aload_n 0, 1, 0, 0, 0) ::
  (35, .getfield 35, 3, 7, 10, 0) ::
  (38, .iload_n 3, 1, 3, 0, 0) ::
  (39, .aaload, 1, 22, 0, 0) ::
  (40, .invokestatic 141, 3, 79, 0, 0) ::
  (43, .iinc 3 1, 3, 3, 0, 1) ::
  (46, .goto (-40), 3, 6, 0, 0) ::
  (49, .aload_n 0, 1, 0, 0, 0) ::
  (50, .invokevirtual 157, 3, 82, 14, 1) ::
  (53, .ireturn, 1, 1, 0, 0) ::
  []
def r_125 : List ax_E :=
  (0, .aload_n 0, 1, 0, 0, 0) ::
  (1, .invokevirtual 134, 3, 77, 14, 0) ::
  (4, .iconst 0, 1, 0, 0, 0) ::
  (5, .istore_n 3, 1, 3, 0, 0) ::
  (6, .jsr 0, 0, 15, 0, 0) ::
  r_125_6
/-- 126 BlackSun$Fit.solvedImages()J -/
def r_126 : List ax_E :=
  (0, .aload_n 0, 1, 0, 0, 0) ::
  (1, .getfield 38, 3, 7, 11, 0) ::
  (4, .bipush 12, 2, 0, 0, 12) ::
  (6, .laload, 1, 0, 0, 0) ::
  (7, .lreturn, 1, 0, 0, 0) ::
  []
/-- 127 BlackSun.joined(IIII)I -/
def r_127 : List ax_E :=
  (0, .aload_n 0, 1, 0, 0, 0) ::
  (1, .getfield 10, 3, 0, 0, 0) ::
  (4, .iload_n 1, 1, 1, 0, 0) ::
  (5, .invokevirtual 141, 3, 61, 2, 3) ::
  (8, .astore 5, 2, 5, 0, 0) ::
  (10, .aload 5, 2, 5, 0, 0) ::
  (12, .ifnull 19, 3, 31, 0, 0) ::
  (15, .iload_n 2, 1, 2, 0, 0) ::
  (16, .invokestatic 100, 3, 26, 0, 1) ::
  (19, .ifCond .eq 12, 3, 31, 0, 0) ::
  (22, .iload_n 3, 1, 3, 0, 0) ::
  (23, .iload 4, 2, 4, 0, 0) ::
  (25, .invokestatic 250, 3, 124, 0, 1) ::
  (28, .ifCond .ne 6, 3, 34, 0, 0) ::
  (31, .ldc 160, 2, 0, 0, (-2000000000)) ::
  (33, .ireturn, 1, 0, 0, 0) ::
  (34, .aload_n 0, 1, 0, 0, 0) ::
  (35, .getfield 30, 3, 0, 3, 0) ::
  (38, .aload_n 0, 1, 0, 0, 0) ::
  (39, .getfield 10, 3, 0, 0, 0) ::
  (42, .aload 5, 2, 5, 0, 0) ::
  (44, .iload_n 2, 1, 2, 0, 0) ::
  (45, .invokevirtual 167, 3, 81, 14, 1) ::
  (48, .ifCond .eq 18, 3, 66, 0, 0) ::
  (51, .aload_n 0, 1, 0, 0, 0) ::
  (52, .getfield 30, 3, 0, 3, 0) ::
  (55, .aload_n 0, 1, 0, 0, 0) ::
  (56, .getfield 10, 3, 0, 0, 0) ::
  (59, .iload_n 3, 1, 3, 0, 0) ::
  (60, .invokevirtual 253, 3, 125, 14, 1) ::
  (63, .ifCond .ne 6, 3, 69, 0, 0) ::
  (66, .ldc 182, 2, 0, 0, (-1000000000)) ::
  (68, .ireturn, 1, 0, 0, 0) ::
  (69, .aload_n 0, 1, 0, 0, 0) ::
  (70, .getfield 30, 3, 0, 3, 0) ::
  (73, .invokevirtual 257, 3, 126, 14, 2) ::
  (76, .lstore 6, 2, 6, 0, 0) ::
  (78, .lload 6, 2, 6, 0, 0) ::
  (80, .aload_n 0, 1, 0, 0, 0) ::
  (81, .getfield 30, 3, 0, 3, 0) ::
  (84, .getfield 183, 3, 7, 2, 0) ::
  (87, .iconst 4, 1, 0, 0, 4) ::
  (88, .iaload, 1, 0, 0, 0) ::
  (89, .i2l, 1, 0, 0, 0) ::
  (90, .lmul, 1, 0, 0, 0) ::
  (91, .lstore 8, 2, 8, 0, 0) ::
  (93, .aload_n 0, 1, 0, 0, 0) ::
  (94, .getfield 30, 3, 0, 3, 0) ::
  (97, .aload_n 0, 1, 0, 0, 0) ::
  (98, .getfield 10, 3, 0, 0, 0) ::
  (101, .iload 4, 2, 4, 0, 0) ::
  (103, .invokevirtual 253, 3, 125, 14, 1) ::
  (106, .ifCond .ne 6, 3, 112, 0, 0) ::
  (109, .ldc 182, 2, 0, 0, (-1000000000)) ::
  (111, .ireturn, 1, 0, 0, 0) ::
  (112, .lload 6, 2, 6, 0, 0) ::
  (114, .aload_n 0, 1, 0, 0, 0) ::
  (115, .getfield 30, 3, 0, 3, 0) ::
  (118, .invokevirtual 257, 3, 126, 14, 2) ::
  (121, .ladd, 1, 0, 0, 0) ::
  (122, .lstore 6, 2, 6, 0, 0) ::
  (124, .lload 8, 2, 8, 0, 0) ::
  (126, .aload_n 0, 1, 0, 0, 0) ::
  (127, .getfield 30, 3, 0, 3, 0) ::
  (130, .invokevirtual 257, 3, 126, 14, 2) ::
  (133, .aload_n 0, 1, 0, 0, 0) ::
  (134, .getfield 30, 3, 0, 3, 0) ::
  (137, .getfield 183, 3, 7, 2, 0) ::
  (140, .iconst 4, 1, 0, 0, 4) ::
  (141, .iaload, 1, 0, 0, 0) ::
  (142, .i2l, 1, 0, 0, 0) ::
  (143, .lmul, 1, 0, 0, 0) ::
  (144, .ladd, 1, 0, 0, 0) ::
  (145, .lstore 8, 2, 8, 0, 0) ::
  (147, .lload 6, 2, 6, 0, 0) ::
  (149, .lconst 0, 1, 0, 0, 0) ::
  (150, .lcmp, 1, 0, 0, 0) ::
  (151, .ifCond .gt 8, 3, 159, 0, 0) ::
  (154, .ldc 182, 2, 0, 0, (-1000000000)) ::
  (156, .goto 11, 3, 167, 0, 0) ::
  (159, .lload 8, 2, 8, 0, 0) ::
  (161, .lload 6, 2, 6, 0, 0) ::
  (163, .invokestatic 260, 3, 71, 0, 2) ::
  (166, .l2i, 1, 0, 0, 0) ::
  (167, .ireturn, 1, 0, 0, 0) ::
  []
/-- 128 BlackSun.quarrel(IIIII)I -/
def r_128 : List ax_E :=
  (0, .aload_n 0, 1, 0, 0, 0) ::
  (1, .getfield 10, 3, 0, 0, 0) ::
  (4, .iload_n 1, 1, 1, 0, 0) ::
  (5, .invokevirtual 141, 3, 61, 2, 3) ::
  (8, .astore 6, 2, 6, 0, 0) ::
  (10, .aload 6, 2, 6, 0, 0) ::
  (12, .ifnull 30, 3, 42, 0, 0) ::
  (15, .iload_n 2, 1, 2, 0, 0) ::
  (16, .invokestatic 100, 3, 26, 0, 1) ::
  (19, .ifCond .eq 23, 3, 42, 0, 0) ::
  (22, .iload_n 3, 1, 3, 0, 0) ::
  (23, .iload 4, 2, 4, 0, 0) ::
  (25, .invokestatic 250, 3, 124, 0, 1) ::
  (28, .ifCond .eq 14, 3, 42, 0, 0) ::
  (31, .iload 5, 2, 5, 0, 0) ::
  (33, .iconst 0, 1, 0, 0, 0) ::
  (34, .ldc 187, 2, 0, 0, 99999) ::
  (36, .invokestatic 45, 3, 11, 0, 1) ::
  (39, .ifCond .ne 5, 3, 44, 0, 0) ::
  (42, .iconst (-1), 1, 0, 0, (-1)) ::
  (43, .ireturn, 1, 0, 0, 0) ::
  (44, .aload_n 0, 1, 0, 0, 0) ::
  (45, .getfield 30, 3, 0, 3, 0) ::
  (48, .aload_n 0, 1, 0, 0, 0) ::
  (49, .getfield 10, 3, 0, 0, 0) ::
  (52, .aload 6, 2, 6, 0, 0) ::
  (54, .iload_n 2, 1, 2, 0, 0) ::
  (55, .invokevirtual 167, 3, 81, 14, 1) ::
  (58, .ifCond .eq 18, 3, 76, 0, 0) ::
  (61, .aload_n 0, 1, 0, 0, 0) ::
  (62, .getfield 30, 3, 0, 3, 0) ::
  (65, .aload_n 0, 1, 0, 0, 0) ::
  (66, .getfield 10, 3, 0, 0, 0) ::
  (69, .iload_n 3, 1, 3, 0, 0) ::
  (70, .invokevirtual 253, 3, 125, 14, 1) ::
  (73, .ifCond .ne 5, 3, 78, 0, 0) ::
  (76, .iconst 0, 1, 0, 0, 0) ::
  (77, .ireturn, 1, 0, 0, 0) ::
  (78, .aload_n 0, 1, 0, 0, 0) ::
  (79, .getfield 30, 3, 0, 3, 0) ::
  (82, .getfield 183, 3, 7, 2, 0) ::
  (85, .iconst 4, 1, 0, 0, 4) ::
  (86, .iaload, 1, 0, 0, 0) ::
  (87, .istore 7, 2, 7, 0, 0) ::
  (89, .aload_n 0, 1, 0, 0, 0) ::
  (90, .getfield 30, 3, 0, 3, 0) ::
  (93, .aload_n 0, 1, 0, 0, 0) ::
  (94, .getfield 10, 3, 0, 0, 0) ::
  (97, .iload 4, 2, 4, 0, 0) ::
  (99, .invokevirtual 253, 3, 125, 14, 1) ::
  (102, .ifCond .ne 5, 3, 107, 0, 0) ::
  (105, .iconst 0, 1, 0, 0, 0) ::
  (106, .ireturn, 1, 0, 0, 0) ::
  (107, .iload 7, 2, 7, 0, 0) ::
  (109, .aload_n 0, 1, 0, 0, 0) ::
  (110, .getfield 30, 3, 0, 3, 0) ::
  (113, .getfield 183, 3, 7, 2, 0) ::
  (116, .iconst 4, 1, 0, 0, 4) ::
  (117, .iaload, 1, 0, 0, 0) ::
  (118, .iload 5, 2, 5, 0, 0) ::
  (120, .invokestatic 264, 3, 111, 0, 1) ::
  (123, .ifCond .eq 7, 3, 130, 0, 0) ::
  (126, .iconst 0, 1, 0, 0, 0) ::
  (127, .goto 4, 3, 131, 0, 0) ::
  (130, .iconst 1, 1, 0, 0, 1) ::
  (131, .ireturn, 1, 0, 0, 0) ::
  []
/-- 129 BlackSun$Book.putSaid(II)I -/
def r_129 : List ax_E :=
  (0, .aload_n 0, 1, 0, 0, 0) ::
  (1, .getfield 80, 3, 1, 6, 0) ::
  (4, .bipush 40, 2, 0, 0, 40) ::
  (6, .if_icmp .lt 5, 3, 11, 0, 0) ::
  (9, .iconst (-1), 1, 0, 0, (-1)) ::
  (10, .ireturn, 1, 0, 0, 0) ::
  (11, .aload_n 0, 1, 0, 0, 0) ::
  (12, .getfield 38, 3, 1, 7, 0) ::
  (15, .aload_n 0, 1, 0, 0, 0) ::
  (16, .getfield 80, 3, 1, 6, 0) ::
  (19, .iload_n 1, 1, 1, 0, 0) ::
  (20, .iastore, 1, 0, 0, 0) ::
  (21, .aload_n 0, 1, 0, 0, 0) ::
  (22, .getfield 42, 3, 1, 8, 0) ::
  (25, .aload_n 0, 1, 0, 0, 0) ::
  (26, .getfield 80, 3, 1, 6, 0) ::
  (29, .aload_n 0, 1, 0, 0, 0) ::
  (30, .getfield 83, 3, 1, 0, 0) ::
  (33, .iastore, 1, 0, 0, 0) ::
  (34, .aload_n 0, 1, 0, 0, 0) ::
  (35, .getfield 45, 3, 1, 9, 0) ::
  (38, .aload_n 0, 1, 0, 0, 0) ::
  (39, .getfield 80, 3, 1, 6, 0) ::
  (42, .iload_n 2, 1, 2, 0, 0) ::
  (43, .iastore, 1, 0, 0, 0) ::
  (44, .aload_n 0, 1, 0, 0, 0) ::
  (45, .dup, 1, 0, 0, 0) ::
  (46, .getfield 80, 3, 1, 6, 0) ::
  (49, .iconst 1, 1, 0, 0, 1) ::
  (50, .iadd, 1, 0, 0, 0) ::
  (51, .putfield 80, 3, 1, 6, 0) ::
  (54, .aload_n 0, 1, 0, 0, 0) ::
  (55, .getfield 80, 3, 1, 6, 0) ::
  (58, .iconst 1, 1, 0, 0, 1) ::
  (59, .isub, 1, 0, 0, 0) ::
  (60, .ireturn, 1, 0, 0, 0) ::
  []
/-- 130 BlackSun.say(II)I -/
def r_130 : List ax_E :=
  (0, .aload_n 0, 1, 0, 0, 0) ::
  (1, .getfield 10, 3, 0, 0, 0) ::
  (4, .iload_n 1, 1, 1, 0, 0) ::
  (5, .invokevirtual 141, 3, 61, 2, 3) ::
  (8, .ifnull 14, 3, 22, 0, 0) ::
  (11, .iload_n 2, 1, 2, 0, 0) ::
  (12, .ldc 186, 2, 0, 0, (-99999)) ::
  (14, .ldc 187, 2, 0, 0, 99999) ::
  (16, .invokestatic 45, 3, 11, 0, 1) ::
  (19, .ifCond .ne 5, 3, 24, 0, 0) ::
  (22, .iconst (-1), 1, 0, 0, (-1)) ::
  (23, .ireturn, 1, 0, 0, 0) ::
  (24, .aload_n 0, 1, 0, 0, 0) ::
  (25, .getfield 10, 3, 0, 0, 0) ::
  (28, .iload_n 1, 1, 1, 0, 0) ::
  (29, .iload_n 2, 1, 2, 0, 0) ::
  (30, .invokevirtual 267, 3, 129, 2, 1) ::
  (33, .ireturn, 1, 0, 0, 0) ::
  []
/-- 131 BlackSun.could(IIZ)I -/
def r_131_81 : List ax_E :=
  (81, .invokevirtual 161, 3, 84, 0, 1) ::
  (84, .istore 5, 2, 5, 0, 0) ::
  (86, .iload 5, 2, 5, 0, 0) ::
  (88, .ldc 182, 2, 0, 0, (-1000000000)) ::
  (90, .if_icmp .eq 25, 3, 115, 0, 0) ::
  (93, .iload 5, 2, 5, 0, 0) ::
  (95, .aload_n 0, 1, 0, 0, 0) ::
  (96, .getfield 10, 3, 0, 0, 0) ::
  (99, .getfield 279, 3, 1, 9, 0) ::
  (102, .iload_n 1, 1, 1, 0, 0) ::
  (103, .iaload, 1, 0, 0, 0) ::
  (104, .iload_n 2, 1, 2, 0, 0) ::
  (105, .invokestatic 264, 3, 111, 0, 1) ::
  (108, .ifCond .eq 7, 3, 115, 0, 0) ::
  (111, .iconst 1, 1, 0, 0, 1) ::
  (112, .goto 4, 3, 116, 0, 0) ::
  (115, .iconst 0, 1, 0, 0, 0) ::
  (116, .ireturn, 1, 0, 0, 0) ::
  []
def r_131 : List ax_E :=
  (0, .iload_n 1, 1, 1, 0, 0) ::
  (1, .iconst 0, 1, 0, 0, 0) ::
  (2, .aload_n 0, 1, 0, 0, 0) ::
  (3, .getfield 10, 3, 0, 0, 0) ::
  (6, .getfield 270, 3, 1, 6, 0) ::
  (9, .iconst 1, 1, 0, 0, 1) ::
  (10, .isub, 1, 0, 0, 0) ::
  (11, .invokestatic 45, 3, 11, 0, 1) ::
  (14, .ifCond .eq 13, 3, 27, 0, 0) ::
  (17, .iload_n 2, 1, 2, 0, 0) ::
  (18, .iconst 0, 1, 0, 0, 0) ::
  (19, .ldc 187, 2, 0, 0, 99999) ::
  (21, .invokestatic 45, 3, 11, 0, 1) ::
  (24, .ifCond .ne 5, 3, 29, 0, 0) ::
  (27, .iconst (-1), 1, 0, 0, (-1)) ::
  (28, .ireturn, 1, 0, 0, 0) ::
  (29, .aload_n 0, 1, 0, 0, 0) ::
  (30, .getfield 10, 3, 0, 0, 0) ::
  (33, .aload_n 0, 1, 0, 0, 0) ::
  (34, .getfield 10, 3, 0, 0, 0) ::
  (37, .getfield 273, 3, 1, 7, 0) ::
  (40, .iload_n 1, 1, 1, 0, 0) ::
  (41, .iaload, 1, 0, 0, 0) ::
  (42, .invokevirtual 141, 3, 61, 2, 3) ::
  (45, .astore 4, 2, 4, 0, 0) ::
  (47, .aload 4, 2, 4, 0, 0) ::
  (49, .ifnonnull 5, 3, 54, 0, 0) ::
  (52, .iconst (-1), 1, 0, 0, (-1)) ::
  (53, .ireturn, 1, 0, 0, 0) ::
  (54, .aload_n 0, 1, 0, 0, 0) ::
  (55, .aload 4, 2, 4, 0, 0) ::
  (57, .iconst 4, 1, 0, 0, 4) ::
  (58, .iload_n 3, 1, 3, 0, 0) ::
  (59, .ifCond .eq 13, 3, 72, 0, 0) ::
  (62, .aload_n 0, 1, 0, 0, 0) ::
  (63, .getfield 10, 3, 0, 0, 0) ::
  (66, .getfield 41, 3, 1, 0, 0) ::
  (69, .goto 12, 3, 81, 0, 0) ::
  (72, .aload_n 0, 1, 0, 0, 0) ::
  (73, .getfield 10, 3, 0, 0, 0) ::
  (76, .getfield 276, 3, 1, 8, 0) ::
  (79, .iload_n 1, 1, 1, 0, 0) ::
  (80, .iaload, 1, 0, 0, 0) ::
  (81, .jsr 0, 0, 7, 0, 0) ::
  r_131_81
/-- 132 BlackSun$Book.putField(II)I -/
def r_132 : List ax_E :=
  (0, .aload_n 0, 1, 0, 0, 0) ::
  (1, .getfield 86, 3, 1, 10, 0) ::
  (4, .bipush 9, 2, 0, 0, 9) ::
  (6, .if_icmp .lt 5, 3, 11, 0, 0) ::
  (9, .iconst (-1), 1, 0, 0, (-1)) ::
  (10, .ireturn, 1, 0, 0, 0) ::
  (11, .aload_n 0, 1, 0, 0, 0) ::
  (12, .getfield 48, 3, 1, 11, 0) ::
  (15, .aload_n 0, 1, 0, 0, 0) ::
  (16, .getfield 86, 3, 1, 10, 0) ::
  (19, .iload_n 1, 1, 1, 0, 0) ::
  (20, .iastore, 1, 0, 0, 0) ::
  (21, .aload_n 0, 1, 0, 0, 0) ::
  (22, .getfield 51, 3, 1, 12, 0) ::
  (25, .aload_n 0, 1, 0, 0, 0) ::
  (26, .getfield 86, 3, 1, 10, 0) ::
  (29, .iload_n 2, 1, 2, 0, 0) ::
  (30, .iastore, 1, 0, 0, 0) ::
  (31, .aload_n 0, 1, 0, 0, 0) ::
  (32, .dup, 1, 0, 0, 0) ::
  (33, .getfield 86, 3, 1, 10, 0) ::
  (36, .iconst 1, 1, 0, 0, 1) ::
  (37, .iadd, 1, 0, 0, 0) ::
  (38, .putfield 86, 3, 1, 10, 0) ::
  (41, .aload_n 0, 1, 0, 0, 0) ::
  (42, .getfield 86, 3, 1, 10, 0) ::
  (45, .iconst 1, 1, 0, 0, 1) ::
  (46, .isub, 1, 0, 0, 0) ::
  (47, .ireturn, 1, 0, 0, 0) ::
  []
/-- 133 BlackSun.field(II)I -/
def r_133 : List ax_E :=
  (0, .iload_n 1, 1, 1, 0, 0) ::
  (1, .iconst 1, 1, 0, 0, 1) ::
  (2, .bipush 99, 2, 0, 0, 99) ::
  (4, .invokestatic 45, 3, 11, 0, 1) ::
  (7, .ifCond .eq 18, 3, 25, 0, 0) ::
  (10, .iload_n 2, 1, 2, 0, 0) ::
  (11, .aload_n 0, 1, 0, 0, 0) ::
  (12, .getfield 10, 3, 0, 0, 0) ::
  (15, .getfield 49, 3, 1, 1, 0) ::
  (18, .getfield 282, 3, 2, 0, 0) ::
  (21, .iushr, 1, 0, 0, 0) ::
  (22, .ifCond .eq 5, 3, 27, 0, 0) ::
  (25, .iconst (-1), 1, 0, 0, (-1)) ::
  (26, .ireturn, 1, 0, 0, 0) ::
  (27, .aload_n 0, 1, 0, 0, 0) ::
  (28, .getfield 10, 3, 0, 0, 0) ::
  (31, .iload_n 1, 1, 1, 0, 0) ::
  (32, .iload_n 2, 1, 2, 0, 0) ::
  (33, .invokevirtual 285, 3, 132, 2, 1) ::
  (36, .ireturn, 1, 0, 0, 0) ::
  []
/-- 134 BlackSun$Book.minutesOf(I)I -/
def r_134_4 : List ax_E :=
  (4, .iload_n 3, 1, 3, 0, 0) ::
  (5, .aload_n 0, 1, 0, 0, 0) ::
  (6, .getfield 86, 3, 1, 10, 0) ::
  (9, .if_icmp .ge 26, 3, 35, 0, 0) ::
  (12, .iload_n 1, 1, 1, 0, 0) ::
  (13, .iload_n 3, 1, 3, 0, 0) ::
  (14, .ishr, 1, 0, 0, 0) ::
  (15, .iconst 1, 1, 0, 0, 1) ::
  (16, .iand, 1, 0, 0, 0) ::
  (17, .ifCond .eq 12, 3, 29, 0, 0) ::
  (20, .iload_n 2, 1, 2, 0, 0) ::
  (21, .aload_n 0, 1, 0, 0, 0) ::
  (22, .getfield 48, 3, 1, 11, 0) ::
  (25, .iload_n 3, 1, 3, 0, 0) ::
  (26, .iaload, 1, 0, 0, 0) ::
  (27, .iadd, 1, 0, 0, 0) ::
  (28, .istore_n 2, 1, 2, 0, 0) ::
  (29, .iinc 3 1, 3, 3, 0, 1) ::
  (32, .goto (-28), 3, 4, 0, 0) ::
  (35, .iload_n 2, 1, 2, 0, 0) ::
  (36, .ireturn, 1, 0, 0, 0) ::
  []
def r_134 : List ax_E :=
  (0, .iconst 0, 1, 0, 0, 0) ::
  (1, .istore_n 2, 1, 2, 0, 0) ::
  (2, .iconst 0, 1, 0, 0, 0) ::
  (3, .istore_n 3, 1, 3, 0, 0) ::
  (4, .jsr 0, 0, 15, 0, 0) ::
  r_134_4
/-- 135 BlackSun$Stars.lightSquared(I)I -/
def r_135 : List ax_E :=
  (0, .aload_n 0, 1, 0, 0, 0) ::
  (1, .iconst 4, 1, 0, 0, 4) ::
  (2, .iload_n 1, 1, 1, 0, 0) ::
  (3, .iconst 0, 1, 0, 0, 0) ::
  (4, .invokevirtual 29, 3, 31, 4, 1) ::
  (7, .istore_n 2, 1, 2, 0, 0) ::
  (8, .aload_n 0, 1, 0, 0, 0) ::
  (9, .iconst 4, 1, 0, 0, 4) ::
  (10, .iload_n 1, 1, 1, 0, 0) ::
  (11, .iconst 1, 1, 0, 0, 1) ::
  (12, .invokevirtual 29, 3, 31, 4, 1) ::
  (15, .istore_n 3, 1, 3, 0, 0) ::
  (16, .iload_n 2, 1, 2, 0, 0) ::
  (17, .iload_n 2, 1, 2, 0, 0) ::
  (18, .imul, 1, 0, 0, 0) ::
  (19, .iload_n 3, 1, 3, 0, 0) ::
  (20, .iload_n 3, 1, 3, 0, 0) ::
  (21, .imul, 1, 0, 0, 0) ::
  (22, .iadd, 1, 0, 0, 0) ::
  (23, .ireturn, 1, 0, 0, 0) ::
  []
/-- 136 BlackSun$Book.worthOf(I)I -/
def r_136_40 : List ax_E :=
  (40, .iload 4, 2, 4, 0, 0) ::
  (42, .aload_n 0, 1, 0, 0, 0) ::
  (43, .getfield 12, 3, 1, 1, 0) ::
  (46, .getfield 164, 3, 2, 0, 0) ::
  (49, .if_icmp .ge 30, 3, 79, 0, 0) ::
  (52, .iload_n 2, 1, 2, 0, 0) ::
  (53, .iload 4, 2, 4, 0, 0) ::
  (55, .ishr, 1, 0, 0, 0) ::
  (56, .iconst 1, 1, 0, 0, 1) ::
  (57, .iand, 1, 0, 0, 0) ::
  (58, .ifCond .eq 15, 3, 73, 0, 0) ::
  (61, .iload_n 3, 1, 3, 0, 0) ::
  (62, .aload_n 0, 1, 0, 0, 0) ::
  (63, .getfield 12, 3, 1, 1, 0) ::
  (66, .iload 4, 2, 4, 0, 0) ::
  (68, .invokevirtual 165, 3, 135, 4, 1) ::
  (71, .iadd, 1, 0, 0, 0) ::
  (72, .istore_n 3, 1, 3, 0, 0) ::
  (73, .iinc 4 1, 3, 4, 0, 1) ::
  (76, .goto (-36), 3, 40, 0, 0) ::
  (79, .iload_n 3, 1, 3, 0, 0) ::
  (80, .ireturn, 1, 0, 0, 0) ::
  []
def r_136_4 : List ax_E :=
  (4, .iload_n 3, 1, 3, 0, 0) ::
  (5, .aload_n 0, 1, 0, 0, 0) ::
  (6, .getfield 86, 3, 1, 10, 0) ::
  (9, .if_icmp .ge 26, 3, 35, 0, 0) ::
  (12, .iload_n 1, 1, 1, 0, 0) ::
  (13, .iload_n 3, 1, 3, 0, 0) ::
  (14, .ishr, 1, 0, 0, 0) ::
  (15, .iconst 1, 1, 0, 0, 1) ::
  (16, .iand, 1, 0, 0, 0) ::
  (17, .ifCond .eq 12, 3, 29, 0, 0) ::
  (20, .iload_n 2, 1, 2, 0, 0) ::
  (21, .aload_n 0, 1, 0, 0, 0) ::
  (22, .getfield 51, 3, 1, 12, 0) ::
  (25, .iload_n 3, 1, 3, 0, 0) ::
  (26, .iaload, 1, 0, 0, 0) ::
  (27, .ior, 1, 0, 0, 0) ::
  (28, .istore_n 2, 1, 2, 0, 0) ::
  (29, .iinc 3 1, 3, 3, 0, 1) ::
  (32, .goto (-28), 3, 4, 0, 0) ::
  (35, .iconst 0, 1, 0, 0, 0) ::
  (36, .istore_n 3, 1, 3, 0, 0) ::
  (37, .iconst 0, 1, 0, 0, 0) ::
  (38, .istore 4, 2, 4, 0, 0) ::
  (40, .jsr 0, 0, 29, 0, 0) ::
  r_136_40
def r_136 : List ax_E :=
  (0, .iconst 0, 1, 0, 0, 0) ::
  (1, .istore_n 2, 1, 2, 0, 0) ::
  (2, .iconst 0, 1, 0, 0, 0) ::
  (3, .istore_n 3, 1, 3, 0, 0) ::
  (4, .jsr 0, 0, 15, 0, 0) ::
  r_136_4
/-- 137 BlackSun$Book.bestFields(I)I -/
def r_137_10 : List ax_E :=
  (10, .iload 5, 2, 5, 0, 0) ::
  (12, .iconst 1, 1, 0, 0, 1) ::
  (13, .aload_n 0, 1, 0, 0, 0) ::
  (14, .getfield 86, 3, 1, 10, 0) ::
  (17, .ishl, 1, 0, 0, 0) ::
  (18, .if_icmp .ge 63, 3, 81, 0, 0) ::
  (21, .aload_n 0, 1, 0, 0, 0) ::
  (22, .iload 5, 2, 5, 0, 0) ::
  (24, .invokevirtual 158, 3, 134, 2, 1) ::
  (27, .istore 6, 2, 6, 0, 0) ::
  (29, .iload 6, 2, 6, 0, 0) ::
  (31, .iload_n 1, 1, 1, 0, 0) ::
  (32, .if_icmp .le 6, 3, 38, 0, 0) ::
  (35, .goto 40, 3, 75, 0, 0) ::
  (38, .aload_n 0, 1, 0, 0, 0) ::
  (39, .iload 5, 2, 5, 0, 0) ::
  (41, .invokevirtual 161, 3, 136, 2, 1) ::
  (44, .istore 7, 2, 7, 0, 0) ::
  (46, .iload 7, 2, 7, 0, 0) ::
  (48, .iload_n 3, 1, 3, 0, 0) ::
  (49, .if_icmp .gt 16, 3, 65, 0, 0) ::
  (52, .iload 7, 2, 7, 0, 0) ::
  (54, .iload_n 3, 1, 3, 0, 0) ::
  (55, .if_icmp .ne 20, 3, 75, 0, 0) ::
  (58, .iload 6, 2, 6, 0, 0) ::
  (60, .iload 4, 2, 4, 0, 0) ::
  (62, .if_icmp .ge 13, 3, 75, 0, 0) ::
  (65, .iload 5, 2, 5, 0, 0) ::
  (67, .istore_n 2, 1, 2, 0, 0) ::
  (68, .iload 7, 2, 7, 0, 0) ::
  (70, .istore_n 3, 1, 3, 0, 0) ::
  (71, .iload 6, 2, 6, 0, 0) ::
  (73, .istore 4, 2, 4, 0, 0) ::
  (75, .iinc 5 1, 3, 5, 0, 1) ::
  (78, .goto (-68), 3, 10, 0, 0) ::
  (81, .iload_n 2, 1, 2, 0, 0) ::
  (82, .ireturn, 1, 0, 0, 0) ::
  []
def r_137 : List ax_E :=
  (0, .iconst 0, 1, 0, 0, 0) ::
  (1, .istore_n 2, 1, 2, 0, 0) ::
  (2, .iconst 0, 1, 0, 0, 0) ::
  (3, .istore_n 3, 1, 3, 0, 0) ::
  (4, .iconst 0, 1, 0, 0, 0) ::
  (5, .istore 4, 2, 4, 0, 0) ::
  (7, .iconst 1, 1, 0, 0, 1) ::
  (8, .istore 5, 2, 5, 0, 0) ::
  (10, .jsr 0, 0, 63, 0, 0) ::
  r_137_10
/-- 138 BlackSun.planned(II)I -/
def r_138 : List ax_E :=
  (0, .iload_n 1, 1, 1, 0, 0) ::
  (1, .iconst 1, 1, 0, 0, 1) ::
  (2, .sipush 999, 3, 0, 0, 999) ::
  (5, .invokestatic 45, 3, 11, 0, 1) ::
  (8, .ifCond .eq 12, 3, 20, 0, 0) ::
  (11, .iload_n 2, 1, 2, 0, 0) ::
  (12, .iconst 0, 1, 0, 0, 0) ::
  (13, .iconst 2, 1, 0, 0, 2) ::
  (14, .invokestatic 45, 3, 11, 0, 1) ::
  (17, .ifCond .ne 5, 3, 22, 0, 0) ::
  (20, .iconst (-1), 1, 0, 0, (-1)) ::
  (21, .ireturn, 1, 0, 0, 0) ::
  (22, .aload_n 0, 1, 0, 0, 0) ::
  (23, .getfield 10, 3, 0, 0, 0) ::
  (26, .iload_n 1, 1, 1, 0, 0) ::
  (27, .invokevirtual 288, 3, 137, 2, 1) ::
  (30, .istore_n 3, 1, 3, 0, 0) ::
  (31, .iload_n 2, 1, 2, 0, 0) ::
  (32, .lookupswitch 39 #[(0, 28), (1, 30)], 28, 0, 0, 0) ::
  (60, .iload_n 3, 1, 3, 0, 0) ::
  (61, .ireturn, 1, 0, 0, 0) ::
  (62, .aload_n 0, 1, 0, 0, 0) ::
  (63, .getfield 10, 3, 0, 0, 0) ::
  (66, .iload_n 3, 1, 3, 0, 0) ::
  (67, .invokevirtual 291, 3, 136, 2, 1) ::
  (70, .ireturn, 1, 0, 0, 0) ::
  (71, .aload_n 0, 1, 0, 0, 0) ::
  (72, .getfield 10, 3, 0, 0, 0) ::
  (75, .iload_n 3, 1, 3, 0, 0) ::
  (76, .invokevirtual 294, 3, 134, 2, 1) ::
  (79, .ireturn, 1, 0, 0, 0) ::
  []
/-- 139 BlackSun$Fit.makeLawful(LBlackSun$Book;I)V -/
def r_139_2 : List ax_E :=
  (2, .iload_n 3, 1, 3, 0, 0) ::
  (3, .iconst 2, 1, 0, 0, 2) ::
  (4, .aload_n 0, 1, 0, 0, 0) ::
  (5, .getfield 54, 3, 7, 0, 0) ::
  (8, .imul, 1, 0, 0, 0) ::
  (9, .if_icmp .ge 37, 3, 46, 0, 0) ::
  (12, .aload_n 0, 1, 0, 0, 0) ::
  (13, .getfield 30, 3, 7, 9, 0) ::
  (16, .iload_n 3, 1, 3, 0, 0) ::
  (17, .iload_n 2, 1, 2, 0, 0) ::
  (18, .aload_n 1, 1, 1, 0, 0) ::
  (19, .iconst 4, 1, 0, 0, 4) ::
  (20, .aload_n 0, 1, 0, 0, 0) ::
  (21, .getfield 11, 3, 7, 1, 0) ::
  (24, .iload_n 3, 1, 3, 0, 0) ::
  (25, .iconst 2, 1, 0, 0, 2) ::
  (26, .idiv, 1, 0, 0, 0) ::
  (27, .iaload, 1, 0, 0, 0) ::
  (28, .iload_n 3, 1, 3, 0, 0) ::
  (29, .iconst 2, 1, 0, 0, 2) ::
  (30, .irem, 1, 0, 0, 0) ::
  (31, .invokevirtual 112, 3, 70, 2, 1) ::
  (34, .imul, 1, 0, 0, 0) ::
  (35, .sipush 1000, 3, 0, 0, 1000) ::
  (38, .idiv, 1, 0, 0, 0) ::
  (39, .iastore, 1, 0, 0, 0) ::
  (40, .iinc 3 1, 3, 3, 0, 1) ::
  (43, .goto (-41), 3, 2, 0, 0) ::
  (46, .return_, 1, 0, 0, 0) ::
  []
def r_139 : List ax_E :=
  (0, .iconst 0, 1, 0, 0, 0) ::
  (1, .istore_n 3, 1, 3, 0, 0) ::
  (2, .jsr 0, 0, 15, 0, 0) ::
  r_139_2
/-- 140 BlackSun$Fit.drawSlip(I)I -/
def r_140 : List ax_E :=
  (0, .aload_n 0, 1, 0, 0, 0) ::
  (1, .aload_n 0, 1, 0, 0, 0) ::
  (2, .getfield 226, 3, 7, 14, 0) ::
  (5, .ldc2_w 240, 3, 0, 0, 1103515245) ::
  (8, .lmul, 1, 0, 0, 0) ::
  (9, .ldc2_w 242, 3, 0, 0, 12345) ::
  (12, .ladd, 1, 0, 0, 0) ::
  (13, .ldc2_w 244, 3, 0, 0, 2147483648) ::
  (16, .lrem, 1, 0, 0, 0) ::
  (17, .putfield 226, 3, 7, 14, 0) ::
  (20, .iconst 2, 1, 0, 0, 2) ::
  (21, .iload_n 1, 1, 1, 0, 0) ::
  (22, .imul, 1, 0, 0, 0) ::
  (23, .iconst 1, 1, 0, 0, 1) ::
  (24, .iadd, 1, 0, 0, 0) ::
  (25, .istore_n 2, 1, 2, 0, 0) ::
  (26, .iload_n 2, 1, 2, 0, 0) ::
  (27, .ifCond .gt 7, 3, 34, 0, 0) ::
  (30, .iconst 0, 1, 0, 0, 0) ::
  (31, .goto 17, 3, 48, 0, 0) ::
  (34, .aload_n 0, 1, 0, 0, 0) ::
  (35, .getfield 226, 3, 7, 14, 0) ::
  (38, .ldc2_w 246, 3, 0, 0, 65536) ::
  (41, .ldiv, 1, 0, 0, 0) ::
  (42, .iload_n 2, 1, 2, 0, 0) ::
  (43, .i2l, 1, 0, 0, 0) ::
  (44, .lrem, 1, 0, 0, 0) ::
  (45, .l2i, 1, 0, 0, 0) ::
  (46, .iload_n 1, 1, 1, 0, 0) ::
  (47, .isub, 1, 0, 0, 0) ::
  (48, .ireturn, 1, 0, 0, 0) ::
  []
/-- 141 BlackSun$Fit.drawWorld(LBlackSun$Book;I)V -/
def r_141_102 : List ax_E :=
  (102, .iload 8, 2, 8, 0, 0) ::
  (104, .aload_n 0, 1, 0, 0, 0) ::
  (105, .getfield 100, 3, 7, 4, 0) ::
  (108, .if_icmp .ge 38, 3, 146, 0, 0) ::
  (111, .aload_n 0, 1, 0, 0, 0) ::
  (112, .getfield 38, 3, 7, 11, 0) ::
  (115, .iload 8, 2, 8, 0, 0) ::
  (117, .iconst 4, 1, 0, 0, 4) ::
  (118, .imul, 1, 0, 0, 0) ::
  (119, .iconst 3, 1, 0, 0, 3) ::
  (120, .iadd, 1, 0, 0, 0) ::
  (121, .dup2, 1, 0, 0, 0) ::
  (122, .laload, 1, 0, 0, 0) ::
  (123, .lload 6, 2, 6, 0, 0) ::
  (125, .aload_n 0, 1, 0, 0, 0) ::
  (126, .getfield 21, 3, 7, 6, 0) ::
  (129, .iload_n 3, 1, 3, 0, 0) ::
  (130, .iconst 3, 1, 0, 0, 3) ::
  (131, .imul, 1, 0, 0, 0) ::
  (132, .iload 8, 2, 8, 0, 0) ::
  (134, .iadd, 1, 0, 0, 0) ::
  (135, .iaload, 1, 0, 0, 0) ::
  (136, .i2l, 1, 0, 0, 0) ::
  (137, .lmul, 1, 0, 0, 0) ::
  (138, .ladd, 1, 0, 0, 0) ::
  (139, .lastore, 1, 0, 0, 0) ::
  (140, .iinc 8 1, 3, 8, 0, 1) ::
  (143, .goto (-41), 3, 102, 0, 0) ::
  (146, .iinc 3 1, 3, 3, 0, 1) ::
  (149, .goto (-120), 3, 29, 0, 0) ::
  (152, .return_, 1, 0, 0, 0) ::
  []
def r_141_74 : List ax_E :=
  (74, .istore 5, 2, 5, 0, 0) ::
  (76, .iload 5, 2, 5, 0, 0) ::
  (78, .ifCond .eq 9, 3, 87, 0, 0) ::
  (81, .iload 4, 2, 4, 0, 0) ::
  (83, .ineg, 1, 0, 0, 0) ::
  (84, .goto 5, 3, 89, 0, 0) ::
  (87, .iload 4, 2, 4, 0, 0) ::
  (89, .aload_n 0, 1, 0, 0, 0) ::
  (90, .getfield 24, 3, 7, 7, 0) ::
  (93, .iload_n 3, 1, 3, 0, 0) ::
  (94, .iaload, 1, 0, 0, 0) ::
  (95, .isub, 1, 0, 0, 0) ::
  (96, .i2l, 1, 0, 0, 0) ::
  (97, .lstore 6, 2, 6, 0, 0) ::
  (99, .iconst 0, 1, 0, 0, 0) ::
  (100, .istore 8, 2, 8, 0, 0) ::
  (102, .jsr 0, 0, 335, 0, 0) ::
  r_141_102
def r_141_29 : List ax_E :=
  (29, .iload_n 3, 1, 3, 0, 0) ::
  (30, .iconst 2, 1, 0, 0, 2) ::
  (31, .aload_n 0, 1, 0, 0, 0) ::
  (32, .getfield 54, 3, 7, 0, 0) ::
  (35, .imul, 1, 0, 0, 0) ::
  (36, .if_icmp .ge 116, 3, 152, 0, 0) ::
  (39, .aload_n 0, 1, 0, 0, 0) ::
  (40, .getfield 30, 3, 7, 9, 0) ::
  (43, .iload_n 3, 1, 3, 0, 0) ::
  (44, .iaload, 1, 0, 0, 0) ::
  (45, .aload_n 0, 1, 0, 0, 0) ::
  (46, .iload_n 2, 1, 2, 0, 0) ::
  (47, .invokevirtual 237, 3, 140, 14, 1) ::
  (50, .iadd, 1, 0, 0, 0) ::
  (51, .istore 4, 2, 4, 0, 0) ::
  (53, .aload_n 1, 1, 1, 0, 0) ::
  (54, .aload_n 0, 1, 0, 0, 0) ::
  (55, .getfield 11, 3, 7, 1, 0) ::
  (58, .iload_n 3, 1, 3, 0, 0) ::
  (59, .iconst 2, 1, 0, 0, 2) ::
  (60, .idiv, 1, 0, 0, 0) ::
  (61, .iaload, 1, 0, 0, 0) ::
  (62, .invokevirtual 67, 3, 63, 2, 1) ::
  (65, .iconst 1, 1, 0, 0, 1) ::
  (66, .if_icmp .ne 7, 3, 73, 0, 0) ::
  (69, .iconst 1, 1, 0, 0, 1) ::
  (70, .goto 4, 3, 74, 0, 0) ::
  (73, .iconst 0, 1, 0, 0, 0) ::
  (74, .jsr 0, 0, 31, 0, 0) ::
  r_141_74
def r_141_2 : List ax_E :=
  (2, .iload_n 3, 1, 3, 0, 0) ::
  (3, .aload_n 0, 1, 0, 0, 0) ::
  (4, .getfield 100, 3, 7, 4, 0) ::
  (7, .if_icmp .ge 20, 3, 27, 0, 0) ::
  (10, .aload_n 0, 1, 0, 0, 0) ::
  (11, .getfield 38, 3, 7, 11, 0) ::
  (14, .iload_n 3, 1, 3, 0, 0) ::
  (15, .iconst 4, 1, 0, 0, 4) ::
  (16, .imul, 1, 0, 0, 0) ::
  (17, .iconst 3, 1, 0, 0, 3) ::
  (18, .iadd, 1, 0, 0, 0) ::
  (19, .lconst 0, 1, 0, 0, 0) ::
  (20, .lastore, 1, 0, 0, 0) ::
  (21, .iinc 3 1, 3, 3, 0, 1) ::
  (24, .goto (-22), 3, 2, 0, 0) ::
  (27, .iconst 0, 1, 0, 0, 0) ::
  (28, .istore_n 3, 1, 3, 0, 0) ::
  (29, .jsr 0, 0, 15, 0, 0) ::
  r_141_29
def r_141 : List ax_E :=
  (0, .iconst 0, 1, 0, 0, 0) ::
  (1, .istore_n 3, 1, 3, 0, 0) ::
  (2, .jsr 0, 0, 15, 0, 0) ::
  r_141_2
end
section
/-! rows of the methods, printed by wip/gen/rows.py -/
/-- 142 BlackSun$Fit.rightWorlds(LBlackSun$Book;IIIII)I -/
def r_142_36 : List ax_E :=
  (36, .iload 8, 2, 8, 0, 0) ::
  (38, .iload 5, 2, 5, 0, 0) ::
  (40, .if_icmp .ge 41, 3, 81, 0, 0) ::
  (43, .aload_n 0, 1, 0, 0, 0) ::
  (44, .aload_n 1, 1, 1, 0, 0) ::
  (45, .iload 4, 2, 4, 0, 0) ::
  (47, .invokevirtual 230, 3, 141, 14, 0) ::
  (50, .aload_n 0, 1, 0, 0, 0) ::
  (51, .invokevirtual 157, 3, 82, 14, 1) ::
  (54, .ifCond .eq 21, 3, 75, 0, 0) ::
  (57, .aload_n 0, 1, 0, 0, 0) ::
  (58, .getfield 15, 3, 7, 2, 0) ::
  (61, .iconst 4, 1, 0, 0, 4) ::
  (62, .iaload, 1, 0, 0, 0) ::
  (63, .iload_n 3, 1, 3, 0, 0) ::
  (64, .iload 6, 2, 6, 0, 0) ::
  (66, .invokestatic 233, 3, 111, 0, 1) ::
  (69, .ifCond .eq 6, 3, 75, 0, 0) ::
  (72, .iinc 7 1, 3, 7, 0, 1) ::
  (75, .iinc 8 1, 3, 8, 0, 1) ::
  (78, .goto (-42), 3, 36, 0, 0) ::
  (81, .iload 7, 2, 7, 0, 0) ::
  (83, .ireturn, 1, 0, 0, 0) ::
  []
def r_142 : List ax_E :=
  (0, .aload_n 0, 1, 0, 0, 0) ::
  (1, .aload_n 1, 1, 1, 0, 0) ::
  (2, .iload_n 3, 1, 3, 0, 0) ::
  (3, .invokevirtual 222, 3, 139, 14, 0) ::
  (6, .aload_n 0, 1, 0, 0, 0) ::
  (7, .getfield 35, 3, 7, 10, 0) ::
  (10, .bipush 46, 2, 0, 0, 46) ::
  (12, .aaload, 1, 22, 0, 0) ::
  (13, .iconst 0, 1, 0, 0, 0) ::
  (14, .aload_n 0, 1, 0, 0, 0) ::
  (15, .getfield 38, 3, 7, 11, 0) ::
  (18, .iconst 0, 1, 0, 0, 0) ::
  (19, .bipush 13, 2, 0, 0, 13) ::
  (21, .invokestatic 151, 3, 17, 100, 0) ::
  (24, .aload_n 0, 1, 0, 0, 0) ::
  (25, .iload_n 2, 1, 2, 0, 0) ::
  (26, .i2l, 1, 0, 0, 0) ::
  (27, .putfield 226, 3, 7, 14, 0) ::
  (30, .iconst 0, 1, 0, 0, 0) ::
  (31, .istore 7, 2, 7, 0, 0) ::
  (33, .iconst 0, 1, 0, 0, 0) ::
  (34, .istore 8, 2, 8, 0, 0) ::
  (36, .jsr 0, 0, 507, 0, 0) ::
  r_142_36
/-- 143 BlackSun.right(IIIIII)I -/
def r_143 : List ax_E :=
  (0, .aload_n 0, 1, 0, 0, 0) ::
  (1, .getfield 10, 3, 0, 0, 0) ::
  (4, .iload_n 1, 1, 1, 0, 0) ::
  (5, .invokevirtual 141, 3, 61, 2, 3) ::
  (8, .astore 7, 2, 7, 0, 0) ::
  (10, .aload 7, 2, 7, 0, 0) ::
  (12, .ifnull 29, 3, 41, 0, 0) ::
  (15, .iload_n 2, 1, 2, 0, 0) ::
  (16, .ifCond .lt 25, 3, 41, 0, 0) ::
  (19, .iload_n 3, 1, 3, 0, 0) ::
  (20, .iconst 0, 1, 0, 0, 0) ::
  (21, .sipush 9999, 3, 0, 0, 9999) ::
  (24, .invokestatic 45, 3, 11, 0, 1) ::
  (27, .ifCond .eq 14, 3, 41, 0, 0) ::
  (30, .iload 4, 2, 4, 0, 0) ::
  (32, .iconst 0, 1, 0, 0, 0) ::
  (33, .bipush 99, 2, 0, 0, 99) ::
  (35, .invokestatic 45, 3, 11, 0, 1) ::
  (38, .ifCond .ne 5, 3, 43, 0, 0) ::
  (41, .iconst (-1), 1, 0, 0, (-1)) ::
  (42, .ireturn, 1, 0, 0, 0) ::
  (43, .iload 5, 2, 5, 0, 0) ::
  (45, .iconst 1, 1, 0, 0, 1) ::
  (46, .bipush 50, 2, 0, 0, 50) ::
  (48, .invokestatic 45, 3, 11, 0, 1) ::
  (51, .ifCond .eq 14, 3, 65, 0, 0) ::
  (54, .iload 6, 2, 6, 0, 0) ::
  (56, .iconst 0, 1, 0, 0, 0) ::
  (57, .ldc 187, 2, 0, 0, 99999) ::
  (59, .invokestatic 45, 3, 11, 0, 1) ::
  (62, .ifCond .ne 5, 3, 67, 0, 0) ::
  (65, .iconst (-1), 1, 0, 0, (-1)) ::
  (66, .ireturn, 1, 0, 0, 0) ::
  (67, .aload_n 0, 1, 0, 0, 0) ::
  (68, .getfield 30, 3, 0, 3, 0) ::
  (71, .aload_n 0, 1, 0, 0, 0) ::
  (72, .getfield 10, 3, 0, 0, 0) ::
  (75, .aload 7, 2, 7, 0, 0) ::
  (77, .aload_n 0, 1, 0, 0, 0) ::
  (78, .getfield 10, 3, 0, 0, 0) ::
  (81, .getfield 41, 3, 1, 0, 0) ::
  (84, .invokevirtual 167, 3, 81, 14, 1) ::
  (87, .ifCond .ne 5, 3, 92, 0, 0) ::
  (90, .iconst 0, 1, 0, 0, 0) ::
  (91, .ireturn, 1, 0, 0, 0) ::
  (92, .aload_n 0, 1, 0, 0, 0) ::
  (93, .getfield 30, 3, 0, 3, 0) ::
  (96, .aload_n 0, 1, 0, 0, 0) ::
  (97, .getfield 10, 3, 0, 0, 0) ::
  (100, .iload_n 2, 1, 2, 0, 0) ::
  (101, .iload_n 3, 1, 3, 0, 0) ::
  (102, .iload 4, 2, 4, 0, 0) ::
  (104, .iload 5, 2, 5, 0, 0) ::
  (106, .iload 6, 2, 6, 0, 0) ::
  (108, .invokevirtual 297, 3, 142, 14, 1) ::
  (111, .ireturn, 1, 0, 0, 0) ::
  []
/-- 144 BlackSun$Fit.farthest(Z)I -/
def r_144_21 : List ax_E :=
  (21, .iload_n 3, 1, 3, 0, 0) ::
  (22, .bipush 46, 2, 0, 0, 46) ::
  (24, .if_icmp .ge 67, 3, 91, 0, 0) ::
  (27, .aload_n 0, 1, 0, 0, 0) ::
  (28, .getfield 35, 3, 7, 10, 0) ::
  (31, .iload_n 3, 1, 3, 0, 0) ::
  (32, .aaload, 1, 22, 0, 0) ::
  (33, .bipush 12, 2, 0, 0, 12) ::
  (35, .laload, 1, 0, 0, 0) ::
  (36, .lconst 0, 1, 0, 0, 0) ::
  (37, .lcmp, 1, 0, 0, 0) ::
  (38, .ifCond .eq 47, 3, 85, 0, 0) ::
  (41, .aload_n 0, 1, 0, 0, 0) ::
  (42, .iload_n 3, 1, 3, 0, 0) ::
  (43, .invokevirtual 219, 3, 89, 14, 1) ::
  (46, .ifCond .eq 39, 3, 85, 0, 0) ::
  (49, .aload_n 0, 1, 0, 0, 0) ::
  (50, .getfield 15, 3, 7, 2, 0) ::
  (53, .iconst 4, 1, 0, 0, 4) ::
  (54, .iaload, 1, 0, 0, 0) ::
  (55, .istore 4, 2, 4, 0, 0) ::
  (57, .iload_n 2, 1, 2, 0, 0) ::
  (58, .ldc 218, 2, 0, 0, (-1000000000)) ::
  (60, .if_icmp .eq 22, 3, 82, 0, 0) ::
  (63, .iload_n 1, 1, 1, 0, 0) ::
  (64, .ifCond .eq 12, 3, 76, 0, 0) ::
  (67, .iload 4, 2, 4, 0, 0) ::
  (69, .iload_n 2, 1, 2, 0, 0) ::
  (70, .if_icmp .le 15, 3, 85, 0, 0) ::
  (73, .goto 9, 3, 82, 0, 0) ::
  (76, .iload 4, 2, 4, 0, 0) ::
  (78, .iload_n 2, 1, 2, 0, 0) ::
  (79, .if_icmp .ge 6, 3, 85, 0, 0) ::
  (82, .iload 4, 2, 4, 0, 0) ::
  (84, .istore_n 2, 1, 2, 0, 0) ::
  (85, .iinc 3 1, 3, 3, 0, 1) ::
  (88, .goto (-67), 3, 21, 0, 0) ::
  (91, .iload_n 2, 1, 2, 0, 0) ::
  (92, .ireturn, 1, 0, 0, 0) ::
  []
def r_144 : List ax_E :=
  (0, .aload_n 0, 1, 0, 0, 0) ::
  (1, .invokevirtual 187, 3, 83, 14, 1) ::
  (4, .ifCond .eq 12, 3, 16, 0, 0) ::
  (7, .aload_n 0, 1, 0, 0, 0) ::
  (8, .getfield 15, 3, 7, 2, 0) ::
  (11, .iconst 4, 1, 0, 0, 4) ::
  (12, .iaload, 1, 0, 0, 0) ::
  (13, .goto 5, 3, 18, 0, 0) ::
  (16, .ldc 218, 2, 0, 0, (-1000000000)) ::
  (18, .istore_n 2, 1, 2, 0, 0) ::
  (19, .iconst 0, 1, 0, 0, 0) ::
  (20, .istore_n 3, 1, 3, 0, 0) ::
  (21, .jsr 0, 0, 15, 0, 0) ::
  r_144_21
/-- 145 BlackSun.span(III)I -/
def r_145 : List ax_E :=
  (0, .aload_n 0, 1, 0, 0, 0) ::
  (1, .getfield 10, 3, 0, 0, 0) ::
  (4, .iload_n 1, 1, 1, 0, 0) ::
  (5, .invokevirtual 141, 3, 61, 2, 3) ::
  (8, .astore 4, 2, 4, 0, 0) ::
  (10, .aload 4, 2, 4, 0, 0) ::
  (12, .ifnull 17, 3, 29, 0, 0) ::
  (15, .iload_n 2, 1, 2, 0, 0) ::
  (16, .invokestatic 100, 3, 26, 0, 1) ::
  (19, .ifCond .eq 10, 3, 29, 0, 0) ::
  (22, .iload_n 3, 1, 3, 0, 0) ::
  (23, .invokestatic 103, 3, 27, 0, 1) ::
  (26, .ifCond .ne 6, 3, 32, 0, 0) ::
  (29, .ldc 160, 2, 0, 0, (-2000000000)) ::
  (31, .ireturn, 1, 0, 0, 0) ::
  (32, .aload_n 0, 1, 0, 0, 0) ::
  (33, .getfield 30, 3, 0, 3, 0) ::
  (36, .aload_n 0, 1, 0, 0, 0) ::
  (37, .getfield 10, 3, 0, 0, 0) ::
  (40, .aload 4, 2, 4, 0, 0) ::
  (42, .iload_n 2, 1, 2, 0, 0) ::
  (43, .invokevirtual 167, 3, 81, 14, 1) ::
  (46, .ifCond .eq 23, 3, 69, 0, 0) ::
  (49, .aload_n 0, 1, 0, 0, 0) ::
  (50, .getfield 30, 3, 0, 3, 0) ::
  (53, .iload_n 3, 1, 3, 0, 0) ::
  (54, .iconst 1, 1, 0, 0, 1) ::
  (55, .if_icmp .ne 7, 3, 62, 0, 0) ::
  (58, .iconst 1, 1, 0, 0, 1) ::
  (59, .goto 4, 3, 63, 0, 0) ::
  (62, .iconst 0, 1, 0, 0, 0) ::
  (63, .invokevirtual 301, 3, 144, 14, 1) ::
  (66, .goto 5, 3, 71, 0, 0) ::
  (69, .ldc 182, 2, 0, 0, (-1000000000)) ::
  (71, .ireturn, 1, 0, 0, 0) ::
  []
/-- 146 BlackSun.named(IIIII)I -/
def r_146_50 : List ax_E :=
  (50, .iload 8, 2, 8, 0, 0) ::
  (52, .aload_n 0, 1, 0, 0, 0) ::
  (53, .getfield 10, 3, 0, 0, 0) ::
  (56, .getfield 127, 3, 1, 4, 0) ::
  (59, .if_icmp .ge 51, 3, 110, 0, 0) ::
  (62, .aload_n 0, 1, 0, 0, 0) ::
  (63, .getfield 10, 3, 0, 0, 0) ::
  (66, .iload 8, 2, 8, 0, 0) ::
  (68, .invokevirtual 141, 3, 61, 2, 3) ::
  (71, .astore 9, 2, 9, 0, 0) ::
  (73, .aload 9, 2, 9, 0, 0) ::
  (75, .ifnull 29, 3, 104, 0, 0) ::
  (78, .aload_n 0, 1, 0, 0, 0) ::
  (79, .getfield 30, 3, 0, 3, 0) ::
  (82, .aload_n 0, 1, 0, 0, 0) ::
  (83, .getfield 10, 3, 0, 0, 0) ::
  (86, .aload 9, 2, 9, 0, 0) ::
  (88, .iload_n 1, 1, 1, 0, 0) ::
  (89, .iload_n 2, 1, 2, 0, 0) ::
  (90, .iload_n 3, 1, 3, 0, 0) ::
  (91, .iload 4, 2, 4, 0, 0) ::
  (93, .invokevirtual 198, 3, 99, 14, 1) ::
  (96, .iload 6, 2, 6, 0, 0) ::
  (98, .if_icmp .ne 6, 3, 104, 0, 0) ::
  (101, .iinc 7 1, 3, 7, 0, 1) ::
  (104, .iinc 8 1, 3, 8, 0, 1) ::
  (107, .goto (-57), 3, 50, 0, 0) ::
  (110, .iload 7, 2, 7, 0, 0) ::
  (112, .ireturn, 1, 0, 0, 0) ::
  []
def r_146 : List ax_E :=
  (0, .iload_n 1, 1, 1, 0, 0) ::
  (1, .invokestatic 100, 3, 26, 0, 1) ::
  (4, .ifCond .eq 23, 3, 27, 0, 0) ::
  (7, .iload_n 2, 1, 2, 0, 0) ::
  (8, .iload_n 3, 1, 3, 0, 0) ::
  (9, .iload 4, 2, 4, 0, 0) ::
  (11, .invokestatic 195, 3, 98, 0, 1) ::
  (14, .ifCond .eq 13, 3, 27, 0, 0) ::
  (17, .iload 5, 2, 5, 0, 0) ::
  (19, .iconst 0, 1, 0, 0, 0) ::
  (20, .iconst 3, 1, 0, 0, 3) ::
  (21, .invokestatic 45, 3, 11, 0, 1) ::
  (24, .ifCond .ne 5, 3, 29, 0, 0) ::
  (27, .iconst (-1), 1, 0, 0, (-1)) ::
  (28, .ireturn, 1, 0, 0, 0) ::
  (29, .iload 5, 2, 5, 0, 0) ::
  (31, .iconst 3, 1, 0, 0, 3) ::
  (32, .if_icmp .ne 8, 3, 40, 0, 0) ::
  (35, .bipush (-2), 2, 0, 0, (-2)) ::
  (37, .goto 5, 3, 42, 0, 0) ::
  (40, .iload 5, 2, 5, 0, 0) ::
  (42, .istore 6, 2, 6, 0, 0) ::
  (44, .iconst 0, 1, 0, 0, 0) ::
  (45, .istore 7, 2, 7, 0, 0) ::
  (47, .iconst 0, 1, 0, 0, 0) ::
  (48, .istore 8, 2, 8, 0, 0) ::
  (50, .jsr 0, 0, 479, 0, 0) ::
  r_146_50
/-- 147 BlackSun.glass(IIII)Z -/
def r_147 : List ax_E :=
  (0, .iload_n 1, 1, 1, 0, 0) ::
  (1, .invokestatic 77, 3, 17, 0, 1) ::
  (4, .ifCond .eq 15, 3, 19, 0, 0) ::
  (7, .iload_n 2, 1, 2, 0, 0) ::
  (8, .invokestatic 114, 3, 30, 0, 1) ::
  (11, .ifCond .eq 8, 3, 19, 0, 0) ::
  (14, .iload_n 2, 1, 2, 0, 0) ::
  (15, .iconst 4, 1, 0, 0, 4) ::
  (16, .if_icmp .ne 5, 3, 21, 0, 0) ::
  (19, .iconst 0, 1, 0, 0, 0) ::
  (20, .ireturn, 1, 1, 0, 0) ::
  (21, .iload_n 3, 1, 3, 0, 0) ::
  (22, .sipush (-9999), 3, 0, 0, (-9999)) ::
  (25, .sipush 9999, 3, 0, 0, 9999) ::
  (28, .invokestatic 45, 3, 11, 0, 1) ::
  (31, .ifCond .eq 15, 3, 46, 0, 0) ::
  (34, .iload 4, 2, 4, 0, 0) ::
  (36, .bipush (-99), 2, 0, 0, (-99)) ::
  (38, .bipush 99, 2, 0, 0, 99) ::
  (40, .invokestatic 45, 3, 11, 0, 1) ::
  (43, .ifCond .ne 5, 3, 48, 0, 0) ::
  (46, .iconst 0, 1, 0, 0, 0) ::
  (47, .ireturn, 1, 1, 0, 0) ::
  (48, .aload_n 0, 1, 0, 0, 0) ::
  (49, .getfield 10, 3, 0, 0, 0) ::
  (52, .getfield 305, 3, 1, 13, 0) ::
  (55, .iload_n 1, 1, 1, 0, 0) ::
  (56, .bipush 6, 2, 0, 0, 6) ::
  (58, .imul, 1, 0, 0, 0) ::
  (59, .iload_n 2, 1, 2, 0, 0) ::
  (60, .iadd, 1, 0, 0, 0) ::
  (61, .iload_n 3, 1, 3, 0, 0) ::
  (62, .iastore, 1, 0, 0, 0) ::
  (63, .aload_n 0, 1, 0, 0, 0) ::
  (64, .getfield 10, 3, 0, 0, 0) ::
  (67, .getfield 308, 3, 1, 14, 0) ::
  (70, .iload_n 1, 1, 1, 0, 0) ::
  (71, .bipush 6, 2, 0, 0, 6) ::
  (73, .imul, 1, 0, 0, 0) ::
  (74, .iload_n 2, 1, 2, 0, 0) ::
  (75, .iadd, 1, 0, 0, 0) ::
  (76, .iload 4, 2, 4, 0, 0) ::
  (78, .iastore, 1, 0, 0, 0) ::
  (79, .iconst 1, 1, 0, 0, 1) ::
  (80, .ireturn, 1, 1, 0, 0) ::
  []
/-- 148 BlackSun$Book.warm(III)V -/
def r_148_17 : List ax_E :=
  (17, .iload 5, 2, 5, 0, 0) ::
  (19, .bipush 6, 2, 0, 0, 6) ::
  (21, .if_icmp .ge 39, 3, 60, 0, 0) ::
  (24, .aload_n 0, 1, 0, 0, 0) ::
  (25, .getfield 63, 3, 1, 16, 0) ::
  (28, .iload 5, 2, 5, 0, 0) ::
  (30, .aload_n 0, 1, 0, 0, 0) ::
  (31, .getfield 54, 3, 1, 13, 0) ::
  (34, .iload 4, 2, 4, 0, 0) ::
  (36, .iload 5, 2, 5, 0, 0) ::
  (38, .iadd, 1, 0, 0, 0) ::
  (39, .iaload, 1, 0, 0, 0) ::
  (40, .iload_n 2, 1, 2, 0, 0) ::
  (41, .aload_n 0, 1, 0, 0, 0) ::
  (42, .getfield 57, 3, 1, 14, 0) ::
  (45, .iload 4, 2, 4, 0, 0) ::
  (47, .iload 5, 2, 5, 0, 0) ::
  (49, .iadd, 1, 0, 0, 0) ::
  (50, .iaload, 1, 0, 0, 0) ::
  (51, .imul, 1, 0, 0, 0) ::
  (52, .iadd, 1, 0, 0, 0) ::
  (53, .iastore, 1, 0, 0, 0) ::
  (54, .iinc 5 1, 3, 5, 0, 1) ::
  (57, .goto (-40), 3, 17, 0, 0) ::
  (60, .aload_n 0, 1, 0, 0, 0) ::
  (61, .getfield 63, 3, 1, 16, 0) ::
  (64, .iconst 4, 1, 0, 0, 4) ::
  (65, .aload_n 0, 1, 0, 0, 0) ::
  (66, .getfield 21, 3, 1, 2, 0) ::
  (69, .getfield 74, 3, 3, 2, 0) ::
  (72, .iload_n 1, 1, 1, 0, 0) ::
  (73, .iaload, 1, 0, 0, 0) ::
  (74, .iconst 1, 1, 0, 0, 1) ::
  (75, .if_icmp .ne 7, 3, 82, 0, 0) ::
  (78, .iconst 0, 1, 0, 0, 0) ::
  (79, .goto 4, 3, 83, 0, 0) ::
  (82, .iload_n 3, 1, 3, 0, 0) ::
  (83, .iastore, 1, 0, 0, 0) ::
  (84, .return_, 1, 0, 0, 0) ::
  []
def r_148 : List ax_E :=
  (0, .aload_n 0, 1, 0, 0, 0) ::
  (1, .getfield 21, 3, 1, 2, 0) ::
  (4, .getfield 100, 3, 3, 1, 0) ::
  (7, .iload_n 1, 1, 1, 0, 0) ::
  (8, .iaload, 1, 0, 0, 0) ::
  (9, .bipush 6, 2, 0, 0, 6) ::
  (11, .imul, 1, 0, 0, 0) ::
  (12, .istore 4, 2, 4, 0, 0) ::
  (14, .iconst 0, 1, 0, 0, 0) ::
  (15, .istore 5, 2, 5, 0, 0) ::
  (17, .jsr 0, 0, 63, 0, 0) ::
  r_148_17
/-- 149 BlackSun$Book.standing(II)I -/
def r_149_5 : List ax_E :=
  (5, .iload 4, 2, 4, 0, 0) ::
  (7, .bipush 6, 2, 0, 0, 6) ::
  (9, .if_icmp .ge 45, 3, 54, 0, 0) ::
  (12, .aload_n 0, 1, 0, 0, 0) ::
  (13, .getfield 63, 3, 1, 16, 0) ::
  (16, .iload 4, 2, 4, 0, 0) ::
  (18, .iaload, 1, 0, 0, 0) ::
  (19, .ifCond .eq 29, 3, 48, 0, 0) ::
  (22, .iload_n 3, 1, 3, 0, 0) ::
  (23, .aload_n 0, 1, 0, 0, 0) ::
  (24, .getfield 63, 3, 1, 16, 0) ::
  (27, .iload 4, 2, 4, 0, 0) ::
  (29, .iaload, 1, 0, 0, 0) ::
  (30, .aload_n 0, 1, 0, 0, 0) ::
  (31, .getfield 12, 3, 1, 1, 0) ::
  (34, .iload 4, 2, 4, 0, 0) ::
  (36, .iload_n 1, 1, 1, 0, 0) ::
  (37, .iload_n 2, 1, 2, 0, 0) ::
  (38, .invokevirtual 96, 3, 31, 4, 1) ::
  (41, .imul, 1, 0, 0, 0) ::
  (42, .sipush 1000, 3, 0, 0, 1000) ::
  (45, .idiv, 1, 0, 0, 0) ::
  (46, .iadd, 1, 0, 0, 0) ::
  (47, .istore_n 3, 1, 3, 0, 0) ::
  (48, .iinc 4 1, 3, 4, 0, 1) ::
  (51, .goto (-46), 3, 5, 0, 0) ::
  (54, .iload_n 3, 1, 3, 0, 0) ::
  (55, .ireturn, 1, 0, 0, 0) ::
  []
def r_149 : List ax_E :=
  (0, .iconst 0, 1, 0, 0, 0) ::
  (1, .istore_n 3, 1, 3, 0, 0) ::
  (2, .iconst 0, 1, 0, 0, 0) ::
  (3, .istore 4, 2, 4, 0, 0) ::
  (5, .jsr 0, 0, 31, 0, 0) ::
  r_149_5
/-- 150 BlackSun.stands(IIII)I -/
def r_150 : List ax_E :=
  (0, .aload_n 0, 1, 0, 0, 0) ::
  (1, .getfield 10, 3, 0, 0, 0) ::
  (4, .getfield 80, 3, 1, 2, 0) ::
  (7, .iload_n 1, 1, 1, 0, 0) ::
  (8, .invokevirtual 87, 3, 20, 6, 1) ::
  (11, .ifCond .eq 32, 3, 43, 0, 0) ::
  (14, .aload_n 0, 1, 0, 0, 0) ::
  (15, .getfield 10, 3, 0, 0, 0) ::
  (18, .getfield 49, 3, 1, 1, 0) ::
  (21, .iload_n 2, 1, 2, 0, 0) ::
  (22, .invokevirtual 59, 3, 14, 4, 1) ::
  (25, .ifCond .eq 18, 3, 43, 0, 0) ::
  (28, .iload_n 3, 1, 3, 0, 0) ::
  (29, .invokestatic 311, 3, 97, 0, 1) ::
  (32, .ifCond .eq 11, 3, 43, 0, 0) ::
  (35, .iload 4, 2, 4, 0, 0) ::
  (37, .invokestatic 103, 3, 27, 0, 1) ::
  (40, .ifCond .ne 7, 3, 47, 0, 0) ::
  (43, .ldc_w 314, 3, 0, 0, (-1000000)) ::
  (46, .ireturn, 1, 0, 0, 0) ::
  (47, .aload_n 0, 1, 0, 0, 0) ::
  (48, .getfield 10, 3, 0, 0, 0) ::
  (51, .iload_n 1, 1, 1, 0, 0) ::
  (52, .aload_n 0, 1, 0, 0, 0) ::
  (53, .getfield 10, 3, 0, 0, 0) ::
  (56, .getfield 80, 3, 1, 2, 0) ::
  (59, .getfield 315, 3, 3, 3, 0) ::
  (62, .iload_n 1, 1, 1, 0, 0) ::
  (63, .iaload, 1, 0, 0, 0) ::
  (64, .iload_n 3, 1, 3, 0, 0) ::
  (65, .invokevirtual 318, 3, 148, 2, 0) ::
  (68, .aload_n 0, 1, 0, 0, 0) ::
  (69, .getfield 10, 3, 0, 0, 0) ::
  (72, .iload_n 2, 1, 2, 0, 0) ::
  (73, .iload 4, 2, 4, 0, 0) ::
  (75, .invokevirtual 322, 3, 149, 2, 1) ::
  (78, .ireturn, 1, 0, 0, 0) ::
  []
/-- 151 BlackSun$Book.squaresOff(II)J -/
def r_151_5 : List ax_E :=
  (5, .iload 5, 2, 5, 0, 0) ::
  (7, .aload_n 0, 1, 0, 0, 0) ::
  (8, .getfield 28, 3, 1, 3, 0) ::
  (11, .getfield 140, 3, 4, 0, 0) ::
  (14, .if_icmp .ge 108, 3, 122, 0, 0) ::
  (17, .aload_n 0, 1, 0, 0, 0) ::
  (18, .getfield 28, 3, 1, 3, 0) ::
  (21, .getfield 77, 3, 4, 1, 0) ::
  (24, .iload 5, 2, 5, 0, 0) ::
  (26, .iaload, 1, 0, 0, 0) ::
  (27, .iload_n 1, 1, 1, 0, 0) ::
  (28, .if_icmp .ne 88, 3, 116, 0, 0) ::
  (31, .aload_n 0, 1, 0, 0, 0) ::
  (32, .getfield 28, 3, 1, 3, 0) ::
  (35, .iload 5, 2, 5, 0, 0) ::
  (37, .iload_n 2, 1, 2, 0, 0) ::
  (38, .invokevirtual 141, 3, 22, 8, 1) ::
  (41, .ifCond .eq 75, 3, 116, 0, 0) ::
  (44, .aload_n 0, 1, 0, 0, 0) ::
  (45, .getfield 28, 3, 1, 3, 0) ::
  (48, .getfield 118, 3, 4, 4, 0) ::
  (51, .iload 5, 2, 5, 0, 0) ::
  (53, .iaload, 1, 0, 0, 0) ::
  (54, .aload_n 0, 1, 0, 0, 0) ::
  (55, .aload_n 0, 1, 0, 0, 0) ::
  (56, .getfield 28, 3, 1, 3, 0) ::
  (59, .getfield 93, 3, 4, 2, 0) ::
  (62, .iload 5, 2, 5, 0, 0) ::
  (64, .iaload, 1, 0, 0, 0) ::
  (65, .iconst 0, 1, 0, 0, 0) ::
  (66, .invokevirtual 144, 3, 149, 2, 1) ::
  (69, .isub, 1, 0, 0, 0) ::
  (70, .i2l, 1, 0, 0, 0) ::
  (71, .lstore 6, 2, 6, 0, 0) ::
  (73, .aload_n 0, 1, 0, 0, 0) ::
  (74, .getfield 28, 3, 1, 3, 0) ::
  (77, .getfield 121, 3, 4, 5, 0) ::
  (80, .iload 5, 2, 5, 0, 0) ::
  (82, .iaload, 1, 0, 0, 0) ::
  (83, .aload_n 0, 1, 0, 0, 0) ::
  (84, .aload_n 0, 1, 0, 0, 0) ::
  (85, .getfield 28, 3, 1, 3, 0) ::
  (88, .getfield 93, 3, 4, 2, 0) ::
  (91, .iload 5, 2, 5, 0, 0) ::
  (93, .iaload, 1, 0, 0, 0) ::
  (94, .iconst 1, 1, 0, 0, 1) ::
  (95, .invokevirtual 144, 3, 149, 2, 1) ::
  (98, .isub, 1, 0, 0, 0) ::
  (99, .i2l, 1, 0, 0, 0) ::
  (100, .lstore 8, 2, 8, 0, 0) ::
  (102, .lload_n 3, 1, 3, 0, 0) ::
  (103, .lload 6, 2, 6, 0, 0) ::
  (105, .lload 6, 2, 6, 0, 0) ::
  (107, .lmul, 1, 0, 0, 0) ::
  (108, .lload 8, 2, 8, 0, 0) ::
  (110, .lload 8, 2, 8, 0, 0) ::
  (112, .lmul, 1, 0, 0, 0) ::
  (113, .ladd, 1, 0, 0, 0) ::
  (114, .ladd, 1, 0, 0, 0) ::
  (115, .lstore_n 3, 1, 3, 0, 0) ::
  (116, .iinc 5 1, 3, 5, 0, 1) ::
  (119, .goto (-114), 3, 5, 0, 0) ::
  (122, .lload_n 3, 1, 3, 0, 0) ::
  (123, .lreturn, 1, 0, 0, 0) ::
  []
def r_151 : List ax_E :=
  (0, .lconst 0, 1, 0, 0, 0) ::
  (1, .lstore_n 3, 1, 3, 0, 0) ::
  (2, .iconst 0, 1, 0, 0, 0) ::
  (3, .istore 5, 2, 5, 0, 0) ::
  (5, .jsr 0, 0, 47, 0, 0) ::
  r_151_5
/-- 152 BlackSun.off(III)J -/
def r_152 : List ax_E :=
  (0, .aload_n 0, 1, 0, 0, 0) ::
  (1, .getfield 10, 3, 0, 0, 0) ::
  (4, .getfield 80, 3, 1, 2, 0) ::
  (7, .iload_n 1, 1, 1, 0, 0) ::
  (8, .invokevirtual 87, 3, 20, 6, 1) ::
  (11, .ifCond .eq 17, 3, 28, 0, 0) ::
  (14, .iload_n 2, 1, 2, 0, 0) ::
  (15, .invokestatic 100, 3, 26, 0, 1) ::
  (18, .ifCond .eq 10, 3, 28, 0, 0) ::
  (21, .iload_n 3, 1, 3, 0, 0) ::
  (22, .invokestatic 311, 3, 97, 0, 1) ::
  (25, .ifCond .ne 7, 3, 32, 0, 0) ::
  (28, .ldc2_w 165, 3, 0, 0, (-1)) ::
  (31, .lreturn, 1, 0, 0, 0) ::
  (32, .aload_n 0, 1, 0, 0, 0) ::
  (33, .getfield 10, 3, 0, 0, 0) ::
  (36, .iload_n 1, 1, 1, 0, 0) ::
  (37, .aload_n 0, 1, 0, 0, 0) ::
  (38, .getfield 10, 3, 0, 0, 0) ::
  (41, .getfield 80, 3, 1, 2, 0) ::
  (44, .getfield 315, 3, 3, 3, 0) ::
  (47, .iload_n 1, 1, 1, 0, 0) ::
  (48, .iaload, 1, 0, 0, 0) ::
  (49, .iload_n 3, 1, 3, 0, 0) ::
  (50, .invokevirtual 318, 3, 148, 2, 0) ::
  (53, .aload_n 0, 1, 0, 0, 0) ::
  (54, .getfield 10, 3, 0, 0, 0) ::
  (57, .iload_n 1, 1, 1, 0, 0) ::
  (58, .iload_n 2, 1, 2, 0, 0) ::
  (59, .invokevirtual 325, 3, 151, 2, 2) ::
  (62, .lreturn, 1, 0, 0, 0) ::
  []
/-- 153 BlackSun$Book.likeliestHeat(III)I -/
def r_153_11 : List ax_E :=
  (11, .iload 7, 2, 7, 0, 0) ::
  (13, .bipush 99, 2, 0, 0, 99) ::
  (15, .if_icmp .gt 48, 3, 63, 0, 0) ::
  (18, .aload_n 0, 1, 0, 0, 0) ::
  (19, .iload_n 1, 1, 1, 0, 0) ::
  (20, .iload 7, 2, 7, 0, 0) ::
  (22, .iload_n 3, 1, 3, 0, 0) ::
  (23, .invokevirtual 150, 3, 148, 2, 0) ::
  (26, .aload_n 0, 1, 0, 0, 0) ::
  (27, .iload_n 1, 1, 1, 0, 0) ::
  (28, .iload_n 2, 1, 2, 0, 0) ::
  (29, .invokevirtual 154, 3, 151, 2, 2) ::
  (32, .lstore 8, 2, 8, 0, 0) ::
  (34, .lload 5, 2, 5, 0, 0) ::
  (36, .lconst 0, 1, 0, 0, 0) ::
  (37, .lcmp, 1, 0, 0, 0) ::
  (38, .ifCond .lt 11, 3, 49, 0, 0) ::
  (41, .lload 8, 2, 8, 0, 0) ::
  (43, .lload 5, 2, 5, 0, 0) ::
  (45, .lcmp, 1, 0, 0, 0) ::
  (46, .ifCond .ge 11, 3, 57, 0, 0) ::
  (49, .lload 8, 2, 8, 0, 0) ::
  (51, .lstore 5, 2, 5, 0, 0) ::
  (53, .iload 7, 2, 7, 0, 0) ::
  (55, .istore 4, 2, 4, 0, 0) ::
  (57, .iinc 7 1, 3, 7, 0, 1) ::
  (60, .goto (-49), 3, 11, 0, 0) ::
  (63, .iload 4, 2, 4, 0, 0) ::
  (65, .ireturn, 1, 0, 0, 0) ::
  []
def r_153 : List ax_E :=
  (0, .iconst 0, 1, 0, 0, 0) ::
  (1, .istore 4, 2, 4, 0, 0) ::
  (3, .ldc2_w 148, 3, 0, 0, (-1)) ::
  (6, .lstore 5, 2, 5, 0, 0) ::
  (8, .iconst 0, 1, 0, 0, 0) ::
  (9, .istore 7, 2, 7, 0, 0) ::
  (11, .jsr 0, 0, 191, 0, 0) ::
  r_153_11
/-- 154 BlackSun.heat(III)I -/
def r_154 : List ax_E :=
  (0, .aload_n 0, 1, 0, 0, 0) ::
  (1, .getfield 10, 3, 0, 0, 0) ::
  (4, .getfield 80, 3, 1, 2, 0) ::
  (7, .iload_n 1, 1, 1, 0, 0) ::
  (8, .invokevirtual 87, 3, 20, 6, 1) ::
  (11, .ifCond .eq 17, 3, 28, 0, 0) ::
  (14, .iload_n 2, 1, 2, 0, 0) ::
  (15, .invokestatic 100, 3, 26, 0, 1) ::
  (18, .ifCond .eq 10, 3, 28, 0, 0) ::
  (21, .iload_n 3, 1, 3, 0, 0) ::
  (22, .invokestatic 311, 3, 97, 0, 1) ::
  (25, .ifCond .ne 5, 3, 30, 0, 0) ::
  (28, .iconst (-1), 1, 0, 0, (-1)) ::
  (29, .ireturn, 1, 0, 0, 0) ::
  (30, .aload_n 0, 1, 0, 0, 0) ::
  (31, .getfield 10, 3, 0, 0, 0) ::
  (34, .getfield 91, 3, 1, 3, 0) ::
  (37, .iload_n 1, 1, 1, 0, 0) ::
  (38, .iload_n 2, 1, 2, 0, 0) ::
  (39, .invokevirtual 329, 3, 112, 8, 1) ::
  (42, .ifCond .eq 16, 3, 58, 0, 0) ::
  (45, .aload_n 0, 1, 0, 0, 0) ::
  (46, .getfield 10, 3, 0, 0, 0) ::
  (49, .iload_n 1, 1, 1, 0, 0) ::
  (50, .iload_n 2, 1, 2, 0, 0) ::
  (51, .iload_n 3, 1, 3, 0, 0) ::
  (52, .invokevirtual 332, 3, 153, 2, 1) ::
  (55, .goto 4, 3, 59, 0, 0) ::
  (58, .iconst (-1), 1, 0, 0, (-1)) ::
  (59, .ireturn, 1, 0, 0, 0) ::
  []
/-- 155 BlackSun$Moves.<init>()V -/
def r_155 : List ax_E :=
  (0, .aload_n 0, 1, 0, 0, 0) ::
  (1, .invokespecial 3, 3, 0, 100, 0) ::
  (4, .aload_n 0, 1, 0, 0, 0) ::
  (5, .iconst (-1), 1, 0, 0, (-1)) ::
  (6, .putfield 9, 3, 10, 4, 0) ::
  (9, .aload_n 0, 1, 0, 0, 0) ::
  (10, .iconst (-1), 1, 0, 0, (-1)) ::
  (11, .putfield 15, 3, 10, 5, 0) ::
  (14, .return_, 1, 0, 0, 0) ::
  []
/-- 156 BlackSun$Moves.isBefore(LBlackSun$Images;I)Z -/
def r_156 : List ax_E :=
  (0, .aload_n 1, 1, 1, 0, 0) ::
  (1, .getfield 31, 3, 4, 1, 0) ::
  (4, .iload_n 2, 1, 2, 0, 0) ::
  (5, .iaload, 1, 0, 0, 0) ::
  (6, .aload_n 0, 1, 0, 0, 0) ::
  (7, .getfield 9, 3, 10, 4, 0) ::
  (10, .if_icmp .lt 29, 3, 39, 0, 0) ::
  (13, .aload_n 1, 1, 1, 0, 0) ::
  (14, .getfield 31, 3, 4, 1, 0) ::
  (17, .iload_n 2, 1, 2, 0, 0) ::
  (18, .iaload, 1, 0, 0, 0) ::
  (19, .aload_n 0, 1, 0, 0, 0) ::
  (20, .getfield 9, 3, 10, 4, 0) ::
  (23, .if_icmp .ne 20, 3, 43, 0, 0) ::
  (26, .aload_n 1, 1, 1, 0, 0) ::
  (27, .getfield 33, 3, 4, 2, 0) ::
  (30, .iload_n 2, 1, 2, 0, 0) ::
  (31, .iaload, 1, 0, 0, 0) ::
  (32, .aload_n 0, 1, 0, 0, 0) ::
  (33, .getfield 15, 3, 10, 5, 0) ::
  (36, .if_icmp .ge 7, 3, 43, 0, 0) ::
  (39, .iconst 1, 1, 0, 0, 1) ::
  (40, .goto 4, 3, 44, 0, 0) ::
  (43, .iconst 0, 1, 0, 0, 0) ::
  (44, .ireturn, 1, 1, 0, 0) ::
  []
/-- 157 BlackSun$Moves.add(LBlackSun$Images;II)V -/
def r_157_110 : List ax_E :=
  (110, .aload_n 0, 1, 0, 0, 0) ::
  (111, .iload 6, 2, 6, 0, 0) ::
  (113, .putfield 58, 3, 10, 3, 0) ::
  (116, .aload_n 0, 1, 0, 0, 0) ::
  (117, .aload_n 1, 1, 1, 0, 0) ::
  (118, .getfield 31, 3, 4, 1, 0) ::
  (121, .iload_n 2, 1, 2, 0, 0) ::
  (122, .iaload, 1, 0, 0, 0) ::
  (123, .putfield 9, 3, 10, 4, 0) ::
  (126, .aload_n 0, 1, 0, 0, 0) ::
  (127, .aload_n 1, 1, 1, 0, 0) ::
  (128, .getfield 33, 3, 4, 2, 0) ::
  (131, .iload_n 2, 1, 2, 0, 0) ::
  (132, .iaload, 1, 0, 0, 0) ::
  (133, .putfield 15, 3, 10, 5, 0) ::
  (136, .return_, 1, 0, 0, 0) ::
  []
def r_157 : List ax_E :=
  (0, .aload_n 1, 1, 1, 0, 0) ::
  (1, .getfield 43, 3, 4, 4, 0) ::
  (4, .iload_n 3, 1, 3, 0, 0) ::
  (5, .iaload, 1, 0, 0, 0) ::
  (6, .aload_n 1, 1, 1, 0, 0) ::
  (7, .getfield 43, 3, 4, 4, 0) ::
  (10, .iload_n 2, 1, 2, 0, 0) ::
  (11, .iaload, 1, 0, 0, 0) ::
  (12, .isub, 1, 0, 0, 0) ::
  (13, .istore 4, 2, 4, 0, 0) ::
  (15, .aload_n 1, 1, 1, 0, 0) ::
  (16, .getfield 46, 3, 4, 5, 0) ::
  (19, .iload_n 3, 1, 3, 0, 0) ::
  (20, .iaload, 1, 0, 0, 0) ::
  (21, .aload_n 1, 1, 1, 0, 0) ::
  (22, .getfield 46, 3, 4, 5, 0) ::
  (25, .iload_n 2, 1, 2, 0, 0) ::
  (26, .iaload, 1, 0, 0, 0) ::
  (27, .isub, 1, 0, 0, 0) ::
  (28, .istore 5, 2, 5, 0, 0) ::
  (30, .iload 4, 2, 4, 0, 0) ::
  (32, .iload 4, 2, 4, 0, 0) ::
  (34, .imul, 1, 0, 0, 0) ::
  (35, .iload 5, 2, 5, 0, 0) ::
  (37, .iload 5, 2, 5, 0, 0) ::
  (39, .imul, 1, 0, 0, 0) ::
  (40, .iadd, 1, 0, 0, 0) ::
  (41, .istore 6, 2, 6, 0, 0) ::
  (43, .aload_n 0, 1, 0, 0, 0) ::
  (44, .dup, 1, 0, 0, 0) ::
  (45, .getfield 49, 3, 10, 0, 0) ::
  (48, .iconst 1, 1, 0, 0, 1) ::
  (49, .iadd, 1, 0, 0, 0) ::
  (50, .putfield 49, 3, 10, 0, 0) ::
  (53, .aload_n 0, 1, 0, 0, 0) ::
  (54, .dup, 1, 0, 0, 0) ::
  (55, .getfield 52, 3, 10, 1, 0) ::
  (58, .iload 4, 2, 4, 0, 0) ::
  (60, .iadd, 1, 0, 0, 0) ::
  (61, .putfield 52, 3, 10, 1, 0) ::
  (64, .aload_n 0, 1, 0, 0, 0) ::
  (65, .dup, 1, 0, 0, 0) ::
  (66, .getfield 55, 3, 10, 2, 0) ::
  (69, .iload 5, 2, 5, 0, 0) ::
  (71, .iadd, 1, 0, 0, 0) ::
  (72, .putfield 55, 3, 10, 2, 0) ::
  (75, .aload_n 0, 1, 0, 0, 0) ::
  (76, .getfield 9, 3, 10, 4, 0) ::
  (79, .iconst (-1), 1, 0, 0, (-1)) ::
  (80, .if_icmp .eq 30, 3, 110, 0, 0) ::
  (83, .iload 6, 2, 6, 0, 0) ::
  (85, .aload_n 0, 1, 0, 0, 0) ::
  (86, .getfield 58, 3, 10, 3, 0) ::
  (89, .if_icmp .gt 21, 3, 110, 0, 0) ::
  (92, .iload 6, 2, 6, 0, 0) ::
  (94, .aload_n 0, 1, 0, 0, 0) ::
  (95, .getfield 58, 3, 10, 3, 0) ::
  (98, .if_icmp .ne 38, 3, 136, 0, 0) ::
  (101, .aload_n 0, 1, 0, 0, 0) ::
  (102, .aload_n 1, 1, 1, 0, 0) ::
  (103, .iload_n 2, 1, 2, 0, 0) ::
  (104, .invokevirtual 61, 3, 156, 20, 1) ::
  (107, .ifCond .eq 29, 3, 136, 0, 0) ::
  (110, .jsr 0, 0, 71, 0, 0) ::
  r_157_110
/-- 158 BlackSun$Moves.gather(LBlackSun$Images;III)V -/
def r_158_3 : List ax_E :=
  (3, .iload 5, 2, 5, 0, 0) ::
  (5, .aload_n 1, 1, 1, 0, 0) ::
  (6, .getfield 18, 3, 4, 0, 0) ::
  (9, .if_icmp .ge 69, 3, 78, 0, 0) ::
  (12, .aload_n 1, 1, 1, 0, 0) ::
  (13, .getfield 23, 3, 4, 3, 0) ::
  (16, .iload 5, 2, 5, 0, 0) ::
  (18, .iaload, 1, 0, 0, 0) ::
  (19, .iload_n 2, 1, 2, 0, 0) ::
  (20, .if_icmp .ne 52, 3, 72, 0, 0) ::
  (23, .aload_n 1, 1, 1, 0, 0) ::
  (24, .iload 5, 2, 5, 0, 0) ::
  (26, .iload 4, 2, 4, 0, 0) ::
  (28, .invokevirtual 27, 3, 22, 8, 1) ::
  (31, .ifCond .eq 41, 3, 72, 0, 0) ::
  (34, .aload_n 1, 1, 1, 0, 0) ::
  (35, .aload_n 1, 1, 1, 0, 0) ::
  (36, .getfield 31, 3, 4, 1, 0) ::
  (39, .iload 5, 2, 5, 0, 0) ::
  (41, .iaload, 1, 0, 0, 0) ::
  (42, .aload_n 1, 1, 1, 0, 0) ::
  (43, .getfield 33, 3, 4, 2, 0) ::
  (46, .iload 5, 2, 5, 0, 0) ::
  (48, .iaload, 1, 0, 0, 0) ::
  (49, .iload_n 3, 1, 3, 0, 0) ::
  (50, .iload 4, 2, 4, 0, 0) ::
  (52, .invokevirtual 35, 3, 23, 8, 1) ::
  (55, .istore 6, 2, 6, 0, 0) ::
  (57, .iload 6, 2, 6, 0, 0) ::
  (59, .iconst (-1), 1, 0, 0, (-1)) ::
  (60, .if_icmp .eq 12, 3, 72, 0, 0) ::
  (63, .aload_n 0, 1, 0, 0, 0) ::
  (64, .aload_n 1, 1, 1, 0, 0) ::
  (65, .iload 5, 2, 5, 0, 0) ::
  (67, .iload 6, 2, 6, 0, 0) ::
  (69, .invokevirtual 39, 3, 157, 20, 0) ::
  (72, .iinc 5 1, 3, 5, 0, 1) ::
  (75, .goto (-72), 3, 3, 0, 0) ::
  (78, .return_, 1, 0, 0, 0) ::
  []
def r_158 : List ax_E :=
  (0, .iconst 0, 1, 0, 0, 0) ::
  (1, .istore 5, 2, 5, 0, 0) ::
  (3, .jsr 0, 0, 63, 0, 0) ::
  r_158_3
/-- 159 BlackSun$Moves.told(I)I -/
def r_159 : List ax_E :=
  (0, .iload_n 1, 1, 1, 0, 0) ::
  (1, .tableswitch 60 0 4 #[35, 40, 45, 50, 55], 35, 0, 0, 0) ::
  (36, .aload_n 0, 1, 0, 0, 0) ::
  (37, .getfield 49, 3, 10, 0, 0) ::
  (40, .ireturn, 1, 0, 0, 0) ::
  (41, .aload_n 0, 1, 0, 0, 0) ::
  (42, .getfield 52, 3, 10, 1, 0) ::
  (45, .ireturn, 1, 0, 0, 0) ::
  (46, .aload_n 0, 1, 0, 0, 0) ::
  (47, .getfield 55, 3, 10, 2, 0) ::
  (50, .ireturn, 1, 0, 0, 0) ::
  (51, .aload_n 0, 1, 0, 0, 0) ::
  (52, .getfield 58, 3, 10, 3, 0) ::
  (55, .ireturn, 1, 0, 0, 0) ::
  (56, .aload_n 0, 1, 0, 0, 0) ::
  (57, .getfield 9, 3, 10, 4, 0) ::
  (60, .ireturn, 1, 0, 0, 0) ::
  (61, .aload_n 0, 1, 0, 0, 0) ::
  (62, .getfield 15, 3, 10, 5, 0) ::
  (65, .ireturn, 1, 0, 0, 0) ::
  []
/-- 160 BlackSun.again(IIII)I -/
def r_160 : List ax_E :=
  (0, .iload_n 1, 1, 1, 0, 0) ::
  (1, .invokestatic 88, 3, 21, 0, 1) ::
  (4, .ifCond .eq 32, 3, 36, 0, 0) ::
  (7, .iload_n 2, 1, 2, 0, 0) ::
  (8, .invokestatic 88, 3, 21, 0, 1) ::
  (11, .ifCond .eq 25, 3, 36, 0, 0) ::
  (14, .iload_n 1, 1, 1, 0, 0) ::
  (15, .iload_n 2, 1, 2, 0, 0) ::
  (16, .if_icmp .eq 20, 3, 36, 0, 0) ::
  (19, .iload_n 3, 1, 3, 0, 0) ::
  (20, .invokestatic 100, 3, 26, 0, 1) ::
  (23, .ifCond .eq 13, 3, 36, 0, 0) ::
  (26, .iload 4, 2, 4, 0, 0) ::
  (28, .iconst 0, 1, 0, 0, 0) ::
  (29, .iconst 5, 1, 0, 0, 5) ::
  (30, .invokestatic 45, 3, 11, 0, 1) ::
  (33, .ifCond .ne 7, 3, 40, 0, 0) ::
  (36, .ldc_w 314, 3, 0, 0, (-1000000)) ::
  (39, .ireturn, 1, 0, 0, 0) ::
  (40, .new 335, 3, 10, 0, 0) ::
  (43, .dup, 1, 0, 0, 0) ::
  (44, .invokespecial 337, 3, 155, 20, 0) ::
  (47, .astore 5, 2, 5, 0, 0) ::
  (49, .aload 5, 2, 5, 0, 0) ::
  (51, .aload_n 0, 1, 0, 0, 0) ::
  (52, .getfield 10, 3, 0, 0, 0) ::
  (55, .getfield 91, 3, 1, 3, 0) ::
  (58, .iload_n 1, 1, 1, 0, 0) ::
  (59, .iload_n 2, 1, 2, 0, 0) ::
  (60, .iload_n 3, 1, 3, 0, 0) ::
  (61, .invokevirtual 338, 3, 158, 20, 0) ::
  (64, .aload 5, 2, 5, 0, 0) ::
  (66, .iload 4, 2, 4, 0, 0) ::
  (68, .invokevirtual 341, 3, 159, 20, 1) ::
  (71, .ireturn, 1, 0, 0, 0) ::
  []
/-- 161 BlackSun$Stars.copyFrom(LBlackSun$Stars;)V -/
def r_161 : List ax_E :=
  (0, .aload_n 0, 1, 0, 0, 0) ::
  (1, .aload_n 1, 1, 1, 0, 0) ::
  (2, .getfield 21, 3, 2, 0, 0) ::
  (5, .putfield 21, 3, 2, 0, 0) ::
  (8, .aload_n 1, 1, 1, 0, 0) ::
  (9, .getfield 9, 3, 2, 1, 0) ::
  (12, .iconst 0, 1, 0, 0, 0) ::
  (13, .aload_n 0, 1, 0, 0, 0) ::
  (14, .getfield 9, 3, 2, 1, 0) ::
  (17, .iconst 0, 1, 0, 0, 0) ::
  (18, .bipush 30, 2, 0, 0, 30) ::
  (20, .invokestatic 33, 3, 16, 100, 0) ::
  (23, .aload_n 1, 1, 1, 0, 0) ::
  (24, .getfield 15, 3, 2, 2, 0) ::
  (27, .iconst 0, 1, 0, 0, 0) ::
  (28, .aload_n 0, 1, 0, 0, 0) ::
  (29, .getfield 15, 3, 2, 2, 0) ::
  (32, .iconst 0, 1, 0, 0, 0) ::
  (33, .bipush 30, 2, 0, 0, 30) ::
  (35, .invokestatic 33, 3, 16, 100, 0) ::
  (38, .aload_n 1, 1, 1, 0, 0) ::
  (39, .getfield 18, 3, 2, 3, 0) ::
  (42, .iconst 0, 1, 0, 0, 0) ::
  (43, .aload_n 0, 1, 0, 0, 0) ::
  (44, .getfield 18, 3, 2, 3, 0) ::
  (47, .iconst 0, 1, 0, 0, 0) ::
  (48, .bipush 30, 2, 0, 0, 30) ::
  (50, .invokestatic 33, 3, 16, 100, 0) ::
  (53, .return_, 1, 0, 0, 0) ::
  []
/-- 162 BlackSun$Plates.copyFrom(LBlackSun$Plates;)V -/
def r_162 : List ax_E :=
  (0, .aload_n 0, 1, 0, 0, 0) ::
  (1, .aload_n 1, 1, 1, 0, 0) ::
  (2, .getfield 21, 3, 3, 0, 0) ::
  (5, .putfield 21, 3, 3, 0, 0) ::
  (8, .aload_n 1, 1, 1, 0, 0) ::
  (9, .getfield 9, 3, 3, 1, 0) ::
  (12, .iconst 0, 1, 0, 0, 0) ::
  (13, .aload_n 0, 1, 0, 0, 0) ::
  (14, .getfield 9, 3, 3, 1, 0) ::
  (17, .iconst 0, 1, 0, 0, 0) ::
  (18, .bipush 16, 2, 0, 0, 16) ::
  (20, .invokestatic 29, 3, 16, 100, 0) ::
  (23, .aload_n 1, 1, 1, 0, 0) ::
  (24, .getfield 15, 3, 3, 2, 0) ::
  (27, .iconst 0, 1, 0, 0, 0) ::
  (28, .aload_n 0, 1, 0, 0, 0) ::
  (29, .getfield 15, 3, 3, 2, 0) ::
  (32, .iconst 0, 1, 0, 0, 0) ::
  (33, .bipush 16, 2, 0, 0, 16) ::
  (35, .invokestatic 29, 3, 16, 100, 0) ::
  (38, .aload_n 1, 1, 1, 0, 0) ::
  (39, .getfield 18, 3, 3, 3, 0) ::
  (42, .iconst 0, 1, 0, 0, 0) ::
  (43, .aload_n 0, 1, 0, 0, 0) ::
  (44, .getfield 18, 3, 3, 3, 0) ::
  (47, .iconst 0, 1, 0, 0, 0) ::
  (48, .bipush 16, 2, 0, 0, 16) ::
  (50, .invokestatic 29, 3, 16, 100, 0) ::
  (53, .return_, 1, 0, 0, 0) ::
  []
/-- 163 BlackSun$Images.copyFrom(LBlackSun$Images;)V -/
def r_163 : List ax_E :=
  (0, .aload_n 0, 1, 0, 0, 0) ::
  (1, .aload_n 1, 1, 1, 0, 0) ::
  (2, .getfield 33, 3, 4, 0, 0) ::
  (5, .putfield 33, 3, 4, 0, 0) ::
  (8, .aload_n 1, 1, 1, 0, 0) ::
  (9, .getfield 9, 3, 4, 1, 0) ::
  (12, .iconst 0, 1, 0, 0, 0) ::
  (13, .aload_n 0, 1, 0, 0, 0) ::
  (14, .getfield 9, 3, 4, 1, 0) ::
  (17, .iconst 0, 1, 0, 0, 0) ::
  (18, .bipush 100, 2, 0, 0, 100) ::
  (20, .invokestatic 45, 3, 16, 100, 0) ::
  (23, .aload_n 1, 1, 1, 0, 0) ::
  (24, .getfield 15, 3, 4, 2, 0) ::
  (27, .iconst 0, 1, 0, 0, 0) ::
  (28, .aload_n 0, 1, 0, 0, 0) ::
  (29, .getfield 15, 3, 4, 2, 0) ::
  (32, .iconst 0, 1, 0, 0, 0) ::
  (33, .bipush 100, 2, 0, 0, 100) ::
  (35, .invokestatic 45, 3, 16, 100, 0) ::
  (38, .aload_n 1, 1, 1, 0, 0) ::
  (39, .getfield 18, 3, 4, 3, 0) ::
  (42, .iconst 0, 1, 0, 0, 0) ::
  (43, .aload_n 0, 1, 0, 0, 0) ::
  (44, .getfield 18, 3, 4, 3, 0) ::
  (47, .iconst 0, 1, 0, 0, 0) ::
  (48, .bipush 100, 2, 0, 0, 100) ::
  (50, .invokestatic 45, 3, 16, 100, 0) ::
  (53, .aload_n 1, 1, 1, 0, 0) ::
  (54, .getfield 21, 3, 4, 4, 0) ::
  (57, .iconst 0, 1, 0, 0, 0) ::
  (58, .aload_n 0, 1, 0, 0, 0) ::
  (59, .getfield 21, 3, 4, 4, 0) ::
  (62, .iconst 0, 1, 0, 0, 0) ::
  (63, .bipush 100, 2, 0, 0, 100) ::
  (65, .invokestatic 45, 3, 16, 100, 0) ::
  (68, .aload_n 1, 1, 1, 0, 0) ::
  (69, .getfield 24, 3, 4, 5, 0) ::
  (72, .iconst 0, 1, 0, 0, 0) ::
  (73, .aload_n 0, 1, 0, 0, 0) ::
  (74, .getfield 24, 3, 4, 5, 0) ::
  (77, .iconst 0, 1, 0, 0, 0) ::
  (78, .bipush 100, 2, 0, 0, 100) ::
  (80, .invokestatic 45, 3, 16, 100, 0) ::
  (83, .aload_n 1, 1, 1, 0, 0) ::
  (84, .getfield 27, 3, 4, 6, 0) ::
  (87, .iconst 0, 1, 0, 0, 0) ::
  (88, .aload_n 0, 1, 0, 0, 0) ::
  (89, .getfield 27, 3, 4, 6, 0) ::
  (92, .iconst 0, 1, 0, 0, 0) ::
  (93, .bipush 100, 2, 0, 0, 100) ::
  (95, .invokestatic 45, 3, 16, 100, 0) ::
  (98, .aload_n 1, 1, 1, 0, 0) ::
  (99, .getfield 30, 3, 4, 7, 0) ::
  (102, .iconst 0, 1, 0, 0, 0) ::
  (103, .aload_n 0, 1, 0, 0, 0) ::
  (104, .getfield 30, 3, 4, 7, 0) ::
  (107, .iconst 0, 1, 0, 0, 0) ::
  (108, .bipush 100, 2, 0, 0, 100) ::
  (110, .invokestatic 45, 3, 16, 100, 0) ::
  (113, .return_, 1, 0, 0, 0) ::
  []
/-- 164 BlackSun$Book.copyFrom(LBlackSun$Book;)V -/
def r_164_51 : List ax_E :=
  (51, .iload_n 2, 1, 2, 0, 0) ::
  (52, .bipush 10, 2, 0, 0, 10) ::
  (54, .if_icmp .ge 21, 3, 75, 0, 0) ::
  (57, .aload_n 0, 1, 0, 0, 0) ::
  (58, .getfield 34, 3, 1, 5, 0) ::
  (61, .iload_n 2, 1, 2, 0, 0) ::
  (62, .aload_n 1, 1, 1, 0, 0) ::
  (63, .getfield 34, 3, 1, 5, 0) ::
  (66, .iload_n 2, 1, 2, 0, 0) ::
  (67, .aaload, 1, 20, 0, 0) ::
  (68, .aastore, 1, 20, 0, 0) ::
  (69, .iinc 2 1, 3, 2, 0, 1) ::
  (72, .goto (-21), 3, 51, 0, 0) ::
  (75, .aload_n 0, 1, 0, 0, 0) ::
  (76, .aload_n 1, 1, 1, 0, 0) ::
  (77, .getfield 80, 3, 1, 6, 0) ::
  (80, .putfield 80, 3, 1, 6, 0) ::
  (83, .aload_n 1, 1, 1, 0, 0) ::
  (84, .getfield 38, 3, 1, 7, 0) ::
  (87, .iconst 0, 1, 0, 0, 0) ::
  (88, .aload_n 0, 1, 0, 0, 0) ::
  (89, .getfield 38, 3, 1, 7, 0) ::
  (92, .iconst 0, 1, 0, 0, 0) ::
  (93, .bipush 40, 2, 0, 0, 40) ::
  (95, .invokestatic 178, 3, 16, 100, 0) ::
  (98, .aload_n 1, 1, 1, 0, 0) ::
  (99, .getfield 42, 3, 1, 8, 0) ::
  (102, .iconst 0, 1, 0, 0, 0) ::
  (103, .aload_n 0, 1, 0, 0, 0) ::
  (104, .getfield 42, 3, 1, 8, 0) ::
  (107, .iconst 0, 1, 0, 0, 0) ::
  (108, .bipush 40, 2, 0, 0, 40) ::
  (110, .invokestatic 178, 3, 16, 100, 0) ::
  (113, .aload_n 1, 1, 1, 0, 0) ::
  (114, .getfield 45, 3, 1, 9, 0) ::
  (117, .iconst 0, 1, 0, 0, 0) ::
  (118, .aload_n 0, 1, 0, 0, 0) ::
  (119, .getfield 45, 3, 1, 9, 0) ::
  (122, .iconst 0, 1, 0, 0, 0) ::
  (123, .bipush 40, 2, 0, 0, 40) ::
  (125, .invokestatic 178, 3, 16, 100, 0) ::
  (128, .aload_n 0, 1, 0, 0, 0) ::
  (129, .aload_n 1, 1, 1, 0, 0) ::
  (130, .getfield 86, 3, 1, 10, 0) ::
  (133, .putfield 86, 3, 1, 10, 0) ::
  (136, .aload_n 1, 1, 1, 0, 0) ::
  (137, .getfield 48, 3, 1, 11, 0) ::
  (140, .iconst 0, 1, 0, 0, 0) ::
  (141, .aload_n 0, 1, 0, 0, 0) ::
  (142, .getfield 48, 3, 1, 11, 0) ::
  (145, .iconst 0, 1, 0, 0, 0) ::
  (146, .bipush 9, 2, 0, 0, 9) ::
  (148, .invokestatic 178, 3, 16, 100, 0) ::
  (151, .aload_n 1, 1, 1, 0, 0) ::
  (152, .getfield 51, 3, 1, 12, 0) ::
  (155, .iconst 0, 1, 0, 0, 0) ::
  (156, .aload_n 0, 1, 0, 0, 0) ::
  (157, .getfield 51, 3, 1, 12, 0) ::
  (160, .iconst 0, 1, 0, 0, 0) ::
  (161, .bipush 9, 2, 0, 0, 9) ::
  (163, .invokestatic 178, 3, 16, 100, 0) ::
  (166, .aload_n 1, 1, 1, 0, 0) ::
  (167, .getfield 54, 3, 1, 13, 0) ::
  (170, .iconst 0, 1, 0, 0, 0) ::
  (171, .aload_n 0, 1, 0, 0, 0) ::
  (172, .getfield 54, 3, 1, 13, 0) ::
  (175, .iconst 0, 1, 0, 0, 0) ::
  (176, .bipush 24, 2, 0, 0, 24) ::
  (178, .invokestatic 178, 3, 16, 100, 0) ::
  (181, .aload_n 1, 1, 1, 0, 0) ::
  (182, .getfield 57, 3, 1, 14, 0) ::
  (185, .iconst 0, 1, 0, 0, 0) ::
  (186, .aload_n 0, 1, 0, 0, 0) ::
  (187, .getfield 57, 3, 1, 14, 0) ::
  (190, .iconst 0, 1, 0, 0, 0) ::
  (191, .bipush 24, 2, 0, 0, 24) ::
  (193, .invokestatic 178, 3, 16, 100, 0) ::
  (196, .aload_n 1, 1, 1, 0, 0) ::
  (197, .getfield 60, 3, 1, 15, 0) ::
  (200, .iconst 0, 1, 0, 0, 0) ::
  (201, .aload_n 0, 1, 0, 0, 0) ::
  (202, .getfield 60, 3, 1, 15, 0) ::
  (205, .iconst 0, 1, 0, 0, 0) ::
  (206, .bipush 8, 2, 0, 0, 8) ::
  (208, .invokestatic 178, 3, 16, 100, 0) ::
  (211, .return_, 1, 0, 0, 0) ::
  []
def r_164 : List ax_E :=
  (0, .aload_n 0, 1, 0, 0, 0) ::
  (1, .aload_n 1, 1, 1, 0, 0) ::
  (2, .getfield 83, 3, 1, 0, 0) ::
  (5, .putfield 83, 3, 1, 0, 0) ::
  (8, .aload_n 0, 1, 0, 0, 0) ::
  (9, .getfield 12, 3, 1, 1, 0) ::
  (12, .aload_n 1, 1, 1, 0, 0) ::
  (13, .getfield 12, 3, 1, 1, 0) ::
  (16, .invokevirtual 168, 3, 161, 4, 0) ::
  (19, .aload_n 0, 1, 0, 0, 0) ::
  (20, .getfield 21, 3, 1, 2, 0) ::
  (23, .aload_n 1, 1, 1, 0, 0) ::
  (24, .getfield 21, 3, 1, 2, 0) ::
  (27, .invokevirtual 172, 3, 162, 6, 0) ::
  (30, .aload_n 0, 1, 0, 0, 0) ::
  (31, .getfield 28, 3, 1, 3, 0) ::
  (34, .aload_n 1, 1, 1, 0, 0) ::
  (35, .getfield 28, 3, 1, 3, 0) ::
  (38, .invokevirtual 175, 3, 163, 8, 0) ::
  (41, .aload_n 0, 1, 0, 0, 0) ::
  (42, .aload_n 1, 1, 1, 0, 0) ::
  (43, .getfield 66, 3, 1, 4, 0) ::
  (46, .putfield 66, 3, 1, 4, 0) ::
  (49, .iconst 0, 1, 0, 0, 0) ::
  (50, .istore_n 2, 1, 2, 0, 0) ::
  (51, .jsr 0, 0, 7, 0, 0) ::
  r_164_51
/-- 165 BlackSun.mark(I)I -/
def r_165 : List ax_E :=
  (0, .iload_n 1, 1, 1, 0, 0) ::
  (1, .iconst 0, 1, 0, 0, 0) ::
  (2, .iconst 3, 1, 0, 0, 3) ::
  (3, .invokestatic 45, 3, 11, 0, 1) ::
  (6, .ifCond .ne 5, 3, 11, 0, 0) ::
  (9, .iconst (-1), 1, 0, 0, (-1)) ::
  (10, .ireturn, 1, 0, 0, 0) ::
  (11, .aload_n 0, 1, 0, 0, 0) ::
  (12, .getfield 16, 3, 0, 1, 0) ::
  (15, .iload_n 1, 1, 1, 0, 0) ::
  (16, .aaload, 1, 21, 0, 0) ::
  (17, .astore_n 2, 1, 2, 0, 0) ::
  (18, .aload_n 2, 1, 2, 0, 0) ::
  (19, .ifnonnull 18, 3, 37, 0, 0) ::
  (22, .new 7, 3, 1, 0, 0) ::
  (25, .dup, 1, 0, 0, 0) ::
  (26, .invokespecial 9, 3, 5, 2, 0) ::
  (29, .astore_n 2, 1, 2, 0, 0) ::
  (30, .aload_n 0, 1, 0, 0, 0) ::
  (31, .getfield 16, 3, 0, 1, 0) ::
  (34, .iload_n 1, 1, 1, 0, 0) ::
  (35, .aload_n 2, 1, 2, 0, 0) ::
  (36, .aastore, 1, 21, 0, 0) ::
  (37, .aload_n 2, 1, 2, 0, 0) ::
  (38, .aload_n 0, 1, 0, 0, 0) ::
  (39, .getfield 10, 3, 0, 0, 0) ::
  (42, .invokevirtual 344, 3, 164, 2, 0) ::
  (45, .aload_n 0, 1, 0, 0, 0) ::
  (46, .getfield 10, 3, 0, 0, 0) ::
  (49, .getfield 41, 3, 1, 0, 0) ::
  (52, .ireturn, 1, 0, 0, 0) ::
  []
/-- 166 BlackSun.back(I)I -/
def r_166 : List ax_E :=
  (0, .iload_n 1, 1, 1, 0, 0) ::
  (1, .iconst 0, 1, 0, 0, 0) ::
  (2, .iconst 3, 1, 0, 0, 3) ::
  (3, .invokestatic 45, 3, 11, 0, 1) ::
  (6, .ifCond .ne 5, 3, 11, 0, 0) ::
  (9, .iconst (-1), 1, 0, 0, (-1)) ::
  (10, .ireturn, 1, 0, 0, 0) ::
  (11, .aload_n 0, 1, 0, 0, 0) ::
  (12, .getfield 16, 3, 0, 1, 0) ::
  (15, .iload_n 1, 1, 1, 0, 0) ::
  (16, .aaload, 1, 21, 0, 0) ::
  (17, .astore_n 2, 1, 2, 0, 0) ::
  (18, .aload_n 2, 1, 2, 0, 0) ::
  (19, .ifnonnull 5, 3, 24, 0, 0) ::
  (22, .iconst (-1), 1, 0, 0, (-1)) ::
  (23, .ireturn, 1, 0, 0, 0) ::
  (24, .aload_n 0, 1, 0, 0, 0) ::
  (25, .getfield 10, 3, 0, 0, 0) ::
  (28, .aload_n 2, 1, 2, 0, 0) ::
  (29, .invokevirtual 344, 3, 164, 2, 0) ::
  (32, .aload_n 0, 1, 0, 0, 0) ::
  (33, .getfield 10, 3, 0, 0, 0) ::
  (36, .getfield 41, 3, 1, 0, 0) ::
  (39, .ireturn, 1, 0, 0, 0) ::
  []
/-- 167 BlackSun.count(I)I -/
def r_167 : List ax_E :=
  (0, .iload_n 1, 1, 1, 0, 0) ::
  (1, .tableswitch 120 0 7 #[47, 55, 66, 77, 88, 96, 104, 112], 47, 0, 0, 0) ::
  (48, .aload_n 0, 1, 0, 0, 0) ::
  (49, .getfield 10, 3, 0, 0, 0) ::
  (52, .getfield 41, 3, 1, 0, 0) ::
  (55, .ireturn, 1, 0, 0, 0) ::
  (56, .aload_n 0, 1, 0, 0, 0) ::
  (57, .getfield 10, 3, 0, 0, 0) ::
  (60, .getfield 49, 3, 1, 1, 0) ::
  (63, .getfield 282, 3, 2, 0, 0) ::
  (66, .ireturn, 1, 0, 0, 0) ::
  (67, .aload_n 0, 1, 0, 0, 0) ::
  (68, .getfield 10, 3, 0, 0, 0) ::
  (71, .getfield 80, 3, 1, 2, 0) ::
  (74, .getfield 348, 3, 3, 0, 0) ::
  (77, .ireturn, 1, 0, 0, 0) ::
  (78, .aload_n 0, 1, 0, 0, 0) ::
  (79, .getfield 10, 3, 0, 0, 0) ::
  (82, .getfield 91, 3, 1, 3, 0) ::
  (85, .getfield 349, 3, 4, 0, 0) ::
  (88, .ireturn, 1, 0, 0, 0) ::
  (89, .aload_n 0, 1, 0, 0, 0) ::
  (90, .getfield 10, 3, 0, 0, 0) ::
  (93, .getfield 127, 3, 1, 4, 0) ::
  (96, .ireturn, 1, 0, 0, 0) ::
  (97, .aload_n 0, 1, 0, 0, 0) ::
  (98, .getfield 10, 3, 0, 0, 0) ::
  (101, .getfield 270, 3, 1, 6, 0) ::
  (104, .ireturn, 1, 0, 0, 0) ::
  (105, .aload_n 0, 1, 0, 0, 0) ::
  (106, .getfield 10, 3, 0, 0, 0) ::
  (109, .getfield 350, 3, 1, 10, 0) ::
  (112, .ireturn, 1, 0, 0, 0) ::
  (113, .aload_n 0, 1, 0, 0, 0) ::
  (114, .getfield 23, 3, 0, 2, 0) ::
  (117, .getfield 120, 3, 6, 0, 0) ::
  (120, .ireturn, 1, 0, 0, 0) ::
  (121, .iconst (-1), 1, 0, 0, (-1)) ::
  (122, .ireturn, 1, 0, 0, 0) ::
  []
/-- 168 BlackSunModel.<init>()V -/
def r_168_384 : List ax_E :=
  (384, .iload_n 1, 1, 1, 0, 0) ::
  (385, .bipush 8, 2, 0, 0, 8) ::
  (387, .if_icmp .ge 16, 3, 403, 0, 0) ::
  (390, .aload_n 0, 1, 0, 0, 0) ::
  (391, .getfield 121, 3, 11, 56, 0) ::
  (394, .iload_n 1, 1, 1, 0, 0) ::
  (395, .iconst (-1), 1, 0, 0, (-1)) ::
  (396, .iastore, 1, 0, 0, 0) ::
  (397, .iinc 1 1, 3, 1, 0, 1) ::
  (400, .goto (-16), 3, 384, 0, 0) ::
  (403, .return_, 1, 0, 0, 0) ::
  []
def r_168_x65 : List ax_E :=
  (65, .putfield 31, 3, 11, 12, 0) ::
  (68, .aload_n 0, 1, 0, 0, 0) ::
  (69, .bipush 100, 2, 0, 0, 100) ::
  (71, .newarray .int, 2, 16, 0, 0) ::
  (73, .putfield 34, 3, 11, 13, 0) ::
  (76, .aload_n 0, 1, 0, 0, 0) ::
  (77, .bipush 100, 2, 0, 0, 100) ::
  (79, .newarray .int, 2, 16, 0, 0) ::
  (81, .putfield 37, 3, 11, 14, 0) ::
  (84, .aload_n 0, 1, 0, 0, 0) ::
  (85, .bipush 100, 2, 0, 0, 100) ::
  (87, .newarray .int, 2, 16, 0, 0) ::
  (89, .putfield 40, 3, 11, 15, 0) ::
  (92, .aload_n 0, 1, 0, 0, 0) ::
  (93, .bipush 100, 2, 0, 0, 100) ::
  (95, .newarray .int, 2, 16, 0, 0) ::
  (97, .putfield 43, 3, 11, 16, 0) ::
  (100, .aload_n 0, 1, 0, 0, 0) ::
  (101, .sipush 400, 3, 0, 0, 400) ::
  (104, .newarray .byte, 2, 18, 0, 0) ::
  (106, .putfield 46, 3, 11, 26, 0) ::
  (109, .aload_n 0, 1, 0, 0, 0) ::
  (110, .sipush 3000, 3, 0, 0, 3000) ::
  (113, .newarray .int, 2, 16, 0, 0) ::
  (115, .putfield 50, 3, 11, 27, 0) ::
  (118, .aload_n 0, 1, 0, 0, 0) ::
  (119, .sipush 3000, 3, 0, 0, 3000) ::
  (122, .newarray .int, 2, 16, 0, 0) ::
  (124, .putfield 53, 3, 11, 28, 0) ::
  (127, .aload_n 0, 1, 0, 0, 0) ::
  (128, .bipush 120, 2, 0, 0, 120) ::
  (130, .newarray .int, 2, 16, 0, 0) ::
  (132, .putfield 56, 3, 11, 29, 0) ::
  (135, .aload_n 0, 1, 0, 0, 0) ::
  (136, .bipush 120, 2, 0, 0, 120) ::
  (138, .newarray .int, 2, 16, 0, 0) ::
  (140, .putfield 59, 3, 11, 30, 0) ::
  (143, .aload_n 0, 1, 0, 0, 0) ::
  (144, .bipush 10, 2, 0, 0, 10) ::
  (146, .newarray .int, 2, 16, 0, 0) ::
  (148, .putfield 62, 3, 11, 31, 0) ::
  (151, .aload_n 0, 1, 0, 0, 0) ::
  (152, .bipush 10, 2, 0, 0, 10) ::
  (154, .newarray .int, 2, 16, 0, 0) ::
  (156, .putfield 65, 3, 11, 32, 0) ::
  (159, .aload_n 0, 1, 0, 0, 0) ::
  (160, .bipush 60, 2, 0, 0, 60) ::
  (162, .newarray .int, 2, 16, 0, 0) ::
  (164, .putfield 68, 3, 11, 33, 0) ::
  (167, .aload_n 0, 1, 0, 0, 0) ::
  (168, .bipush 60, 2, 0, 0, 60) ::
  (170, .newarray .int, 2, 16, 0, 0) ::
  (172, .putfield 71, 3, 11, 34, 0) ::
  (175, .aload_n 0, 1, 0, 0, 0) ::
  (176, .sipush 402, 3, 0, 0, 402) ::
  (179, .newarray .int, 2, 16, 0, 0) ::
  (181, .putfield 74, 3, 11, 35, 0) ::
  (184, .aload_n 0, 1, 0, 0, 0) ::
  (185, .bipush 13, 2, 0, 0, 13) ::
  (187, .newarray .long, 2, 17, 0, 0) ::
  (189, .putfield 77, 3, 11, 36, 0) ::
  (192, .aload_n 0, 1, 0, 0, 0) ::
  (193, .sipush 300, 3, 0, 0, 300) ::
  (196, .newarray .long, 2, 17, 0, 0) ::
  (198, .putfield 81, 3, 11, 37, 0) ::
  (201, .aload_n 0, 1, 0, 0, 0) ::
  (202, .bipush 100, 2, 0, 0, 100) ::
  (204, .newarray .boolean, 2, 19, 0, 0) ::
  (206, .putfield 84, 3, 11, 38, 0) ::
  (209, .aload_n 0, 1, 0, 0, 0) ::
  (210, .iconst 3, 1, 0, 0, 3) ::
  (211, .newarray .int, 2, 16, 0, 0) ::
  (213, .putfield 88, 3, 11, 39, 0) ::
  (216, .aload_n 0, 1, 0, 0, 0) ::
  (217, .bipush 6, 2, 0, 0, 6) ::
  (219, .newarray .long, 2, 17, 0, 0) ::
  (221, .putfield 91, 3, 11, 40, 0) ::
  (224, .aload_n 0, 1, 0, 0, 0) ::
  (225, .bipush 9, 2, 0, 0, 9) ::
  (227, .newarray .long, 2, 17, 0, 0) ::
  (229, .putfield 94, 3, 11, 41, 0) ::
  (232, .aload_n 0, 1, 0, 0, 0) ::
  (233, .iconst 3, 1, 0, 0, 3) ::
  (234, .newarray .long, 2, 17, 0, 0) ::
  (236, .putfield 97, 3, 11, 42, 0) ::
  (239, .aload_n 0, 1, 0, 0, 0) ::
  (240, .iconst 3, 1, 0, 0, 3) ::
  (241, .newarray .long, 2, 17, 0, 0) ::
  (243, .putfield 100, 3, 11, 43, 0) ::
  (246, .aload_n 0, 1, 0, 0, 0) ::
  (247, .bipush 6, 2, 0, 0, 6) ::
  (249, .newarray .long, 2, 17, 0, 0) ::
  (251, .putfield 103, 3, 11, 44, 0) ::
  (254, .aload_n 0, 1, 0, 0, 0) ::
  (255, .bipush 6, 2, 0, 0, 6) ::
  (257, .newarray .boolean, 2, 19, 0, 0) ::
  (259, .putfield 106, 3, 11, 45, 0) ::
  (262, .aload_n 0, 1, 0, 0, 0) ::
  (263, .bipush 100, 2, 0, 0, 100) ::
  (265, .newarray .int, 2, 16, 0, 0) ::
  (267, .putfield 109, 3, 11, 46, 0) ::
  (270, .aload_n 0, 1, 0, 0, 0) ::
  (271, .bipush 100, 2, 0, 0, 100) ::
  (273, .newarray .int, 2, 16, 0, 0) ::
  (275, .putfield 112, 3, 11, 47, 0) ::
  (278, .aload_n 0, 1, 0, 0, 0) ::
  (279, .bipush 100, 2, 0, 0, 100) ::
  (281, .newarray .boolean, 2, 19, 0, 0) ::
  (283, .putfield 115, 3, 11, 48, 0) ::
  (286, .aload_n 0, 1, 0, 0, 0) ::
  (287, .bipush 30, 2, 0, 0, 30) ::
  (289, .newarray .boolean, 2, 19, 0, 0) ::
  (291, .putfield 118, 3, 11, 53, 0) ::
  (294, .aload_n 0, 1, 0, 0, 0) ::
  (295, .bipush 8, 2, 0, 0, 8) ::
  (297, .newarray .int, 2, 16, 0, 0) ::
  (299, .putfield 121, 3, 11, 56, 0) ::
  (302, .aload_n 0, 1, 0, 0, 0) ::
  (303, .bipush 40, 2, 0, 0, 40) ::
  (305, .newarray .int, 2, 16, 0, 0) ::
  (307, .putfield 124, 3, 11, 60, 0) ::
  (310, .aload_n 0, 1, 0, 0, 0) ::
  (311, .bipush 40, 2, 0, 0, 40) ::
  (313, .newarray .int, 2, 16, 0, 0) ::
  (315, .putfield 127, 3, 11, 61, 0) ::
  (318, .aload_n 0, 1, 0, 0, 0) ::
  (319, .bipush 40, 2, 0, 0, 40) ::
  (321, .newarray .int, 2, 16, 0, 0) ::
  (323, .putfield 130, 3, 11, 62, 0) ::
  (326, .aload_n 0, 1, 0, 0, 0) ::
  (327, .bipush 9, 2, 0, 0, 9) ::
  (329, .newarray .int, 2, 16, 0, 0) ::
  (331, .putfield 133, 3, 11, 64, 0) ::
  (334, .aload_n 0, 1, 0, 0, 0) ::
  (335, .bipush 9, 2, 0, 0, 9) ::
  (337, .newarray .int, 2, 16, 0, 0) ::
  (339, .putfield 136, 3, 11, 65, 0) ::
  (342, .aload_n 0, 1, 0, 0, 0) ::
  (343, .bipush 24, 2, 0, 0, 24) ::
  (345, .newarray .int, 2, 16, 0, 0) ::
  (347, .putfield 139, 3, 11, 67, 0) ::
  (350, .aload_n 0, 1, 0, 0, 0) ::
  (351, .bipush 24, 2, 0, 0, 24) ::
  (353, .newarray .int, 2, 16, 0, 0) ::
  (355, .putfield 142, 3, 11, 68, 0) ::
  (358, .aload_n 0, 1, 0, 0, 0) ::
  (359, .sipush 32000, 3, 0, 0, 32000) ::
  (362, .newarray .int, 2, 16, 0, 0) ::
  (364, .putfield 145, 3, 11, 70, 0) ::
  (367, .aload_n 0, 1, 0, 0, 0) ::
  (368, .bipush 8, 2, 0, 0, 8) ::
  (370, .newarray .int, 2, 16, 0, 0) ::
  (372, .putfield 148, 3, 11, 71, 0) ::
  (375, .aload_n 0, 1, 0, 0, 0) ::
  (376, .iconst 4, 1, 0, 0, 4) ::
  (377, .newarray .boolean, 2, 19, 0, 0) ::
  (379, .putfield 151, 3, 11, 72, 0) ::
  (382, .iconst 0, 1, 0, 0, 0) ::
  (383, .istore_n 1, 1, 1, 0, 0) ::
  (384, .jsr 0, 0, 3, 0, 0) ::
  r_168_384
def r_168 : List ax_E :=
  (0, .aload_n 0, 1, 0, 0, 0) ::
  (1, .invokespecial 1, 3, 0, 100, 0) ::
  (4, .aload_n 0, 1, 0, 0, 0) ::
  (5, .bipush 30, 2, 0, 0, 30) ::
  (7, .newarray .int, 2, 16, 0, 0) ::
  (9, .putfield 9, 3, 11, 5, 0) ::
  (12, .aload_n 0, 1, 0, 0, 0) ::
  (13, .bipush 30, 2, 0, 0, 30) ::
  (15, .newarray .int, 2, 16, 0, 0) ::
  (17, .putfield 13, 3, 11, 6, 0) ::
  (20, .aload_n 0, 1, 0, 0, 0) ::
  (21, .bipush 30, 2, 0, 0, 30) ::
  (23, .newarray .int, 2, 16, 0, 0) ::
  (25, .putfield 16, 3, 11, 7, 0) ::
  (28, .aload_n 0, 1, 0, 0, 0) ::
  (29, .bipush 16, 2, 0, 0, 16) ::
  (31, .newarray .int, 2, 16, 0, 0) ::
  (33, .putfield 19, 3, 11, 8, 0) ::
  (36, .aload_n 0, 1, 0, 0, 0) ::
  (37, .bipush 16, 2, 0, 0, 16) ::
  (39, .newarray .int, 2, 16, 0, 0) ::
  (41, .putfield 22, 3, 11, 9, 0) ::
  (44, .aload_n 0, 1, 0, 0, 0) ::
  (45, .bipush 16, 2, 0, 0, 16) ::
  (47, .newarray .int, 2, 16, 0, 0) ::
  (49, .putfield 25, 3, 11, 10, 0) ::
  (52, .aload_n 0, 1, 0, 0, 0) ::
  (53, .bipush 100, 2, 0, 0, 100) ::
  (55, .newarray .int, 2, 16, 0, 0) ::
  (57, .putfield 28, 3, 11, 11, 0) ::
  (60, .aload_n 0, 1, 0, 0, 0) ::
  (61, .bipush 100, 2, 0, 0, 100) ::
  (63, .newarray .int, 2, 16, 0, 0) ::
  r_168_x65
/-- 169 BlackSunModel.in(JJJ)Z -/
def r_169 : List ax_E :=
  (0, .lload_n 0, 1, 0, 0, 0) ::
  (1, .lload_n 2, 1, 2, 0, 0) ::
  (2, .lcmp, 1, 0, 0, 0) ::
  (3, .ifCond .lt 14, 3, 17, 0, 0) ::
  (6, .lload_n 0, 1, 0, 0, 0) ::
  (7, .lload 4, 2, 4, 0, 0) ::
  (9, .lcmp, 1, 0, 0, 0) ::
  (10, .ifCond .gt 7, 3, 17, 0, 0) ::
  (13, .iconst 1, 1, 0, 0, 1) ::
  (14, .goto 4, 3, 18, 0, 0) ::
  (17, .iconst 0, 1, 0, 0, 0) ::
  (18, .ireturn, 1, 1, 0, 0) ::
  []
/-- 170 BlackSunModel.isWeek(I)Z -/
def r_170 : List ax_E :=
  (0, .iload_n 0, 1, 0, 0, 0) ::
  (1, .i2l, 1, 0, 0, 0) ::
  (2, .lconst 0, 1, 0, 0, 0) ::
  (3, .ldc2_w 158, 3, 0, 0, 9999) ::
  (6, .invokestatic 160, 3, 169, 0, 1) ::
  (9, .ireturn, 1, 1, 0, 0) ::
  []
/-- 171 BlackSunModel.clock(I)Z -/
def r_171 : List ax_E :=
  (0, .iload_n 1, 1, 1, 0, 0) ::
  (1, .i2l, 1, 0, 0, 0) ::
  (2, .aload_n 0, 1, 0, 0, 0) ::
  (3, .getfield 164, 3, 11, 1, 0) ::
  (6, .i2l, 1, 0, 0, 0) ::
  (7, .ldc2_w 158, 3, 0, 0, 9999) ::
  (10, .invokestatic 160, 3, 169, 0, 1) ::
  (13, .ifCond .ne 5, 3, 18, 0, 0) ::
  (16, .iconst 0, 1, 0, 0, 0) ::
  (17, .ireturn, 1, 1, 0, 0) ::
  (18, .aload_n 0, 1, 0, 0, 0) ::
  (19, .iload_n 1, 1, 1, 0, 0) ::
  (20, .putfield 164, 3, 11, 1, 0) ::
  (23, .iconst 1, 1, 0, 0, 1) ::
  (24, .ireturn, 1, 1, 0, 0) ::
  []
/-- 172 BlackSunModel.isStar(I)Z -/
def r_172 : List ax_E :=
  (0, .iload_n 1, 1, 1, 0, 0) ::
  (1, .i2l, 1, 0, 0, 0) ::
  (2, .lconst 0, 1, 0, 0, 0) ::
  (3, .aload_n 0, 1, 0, 0, 0) ::
  (4, .getfield 167, 3, 11, 2, 0) ::
  (7, .iconst 1, 1, 0, 0, 1) ::
  (8, .isub, 1, 0, 0, 0) ::
  (9, .i2l, 1, 0, 0, 0) ::
  (10, .invokestatic 160, 3, 169, 0, 1) ::
  (13, .ireturn, 1, 1, 0, 0) ::
  []
/-- 173 BlackSunModel.isPlate(I)Z -/
def r_173 : List ax_E :=
  (0, .iload_n 1, 1, 1, 0, 0) ::
  (1, .i2l, 1, 0, 0, 0) ::
  (2, .lconst 0, 1, 0, 0, 0) ::
  (3, .aload_n 0, 1, 0, 0, 0) ::
  (4, .getfield 170, 3, 11, 3, 0) ::
  (7, .iconst 1, 1, 0, 0, 1) ::
  (8, .isub, 1, 0, 0, 0) ::
  (9, .i2l, 1, 0, 0, 0) ::
  (10, .invokestatic 160, 3, 169, 0, 1) ::
  (13, .ireturn, 1, 1, 0, 0) ::
  []
/-- 174 BlackSunModel.isHand(I)Z -/
def r_174 : List ax_E :=
  (0, .iload_n 0, 1, 0, 0, 0) ::
  (1, .i2l, 1, 0, 0, 0) ::
  (2, .lconst 0, 1, 0, 0, 0) ::
  (3, .ldc2_w 173, 3, 0, 0, 7) ::
  (6, .invokestatic 160, 3, 169, 0, 1) ::
  (9, .ireturn, 1, 1, 0, 0) ::
  []
/-- 175 BlackSunModel.far(I)I -/
def r_175 : List ax_E :=
  (0, .aload_n 0, 1, 0, 0, 0) ::
  (1, .getfield 9, 3, 11, 5, 0) ::
  (4, .iload_n 1, 1, 1, 0, 0) ::
  (5, .iaload, 1, 0, 0, 0) ::
  (6, .aload_n 0, 1, 0, 0, 0) ::
  (7, .getfield 9, 3, 11, 5, 0) ::
  (10, .iload_n 1, 1, 1, 0, 0) ::
  (11, .iaload, 1, 0, 0, 0) ::
  (12, .imul, 1, 0, 0, 0) ::
  (13, .aload_n 0, 1, 0, 0, 0) ::
  (14, .getfield 13, 3, 11, 6, 0) ::
  (17, .iload_n 1, 1, 1, 0, 0) ::
  (18, .iaload, 1, 0, 0, 0) ::
  (19, .aload_n 0, 1, 0, 0, 0) ::
  (20, .getfield 13, 3, 11, 6, 0) ::
  (23, .iload_n 1, 1, 1, 0, 0) ::
  (24, .iaload, 1, 0, 0, 0) ::
  (25, .imul, 1, 0, 0, 0) ::
  (26, .iadd, 1, 0, 0, 0) ::
  (27, .ireturn, 1, 0, 0, 0) ::
  []
/-- 176 BlackSunModel.star(III)I -/
def r_176_45 : List ax_E :=
  (45, .iload_n 3, 1, 3, 0, 0) ::
  (46, .i2l, 1, 0, 0, 0) ::
  (47, .lconst 0, 1, 0, 0, 0) ::
  (48, .ldc2_w 179, 3, 0, 0, 99) ::
  (51, .invokestatic 160, 3, 169, 0, 1) ::
  (54, .ifCond .ne 5, 3, 59, 0, 0) ::
  (57, .iconst (-1), 1, 0, 0, (-1)) ::
  (58, .ireturn, 1, 0, 0, 0) ::
  (59, .aload_n 0, 1, 0, 0, 0) ::
  (60, .getfield 9, 3, 11, 5, 0) ::
  (63, .aload_n 0, 1, 0, 0, 0) ::
  (64, .getfield 167, 3, 11, 2, 0) ::
  (67, .iload_n 1, 1, 1, 0, 0) ::
  (68, .iastore, 1, 0, 0, 0) ::
  (69, .aload_n 0, 1, 0, 0, 0) ::
  (70, .getfield 13, 3, 11, 6, 0) ::
  (73, .aload_n 0, 1, 0, 0, 0) ::
  (74, .getfield 167, 3, 11, 2, 0) ::
  (77, .iload_n 2, 1, 2, 0, 0) ::
  (78, .iastore, 1, 0, 0, 0) ::
  (79, .aload_n 0, 1, 0, 0, 0) ::
  (80, .getfield 16, 3, 11, 7, 0) ::
  (83, .aload_n 0, 1, 0, 0, 0) ::
  (84, .getfield 167, 3, 11, 2, 0) ::
  (87, .iload_n 3, 1, 3, 0, 0) ::
  (88, .iastore, 1, 0, 0, 0) ::
  (89, .aload_n 0, 1, 0, 0, 0) ::
  (90, .dup, 1, 0, 0, 0) ::
  (91, .getfield 167, 3, 11, 2, 0) ::
  (94, .iconst 1, 1, 0, 0, 1) ::
  (95, .iadd, 1, 0, 0, 0) ::
  (96, .putfield 167, 3, 11, 2, 0) ::
  (99, .aload_n 0, 1, 0, 0, 0) ::
  (100, .getfield 167, 3, 11, 2, 0) ::
  (103, .iconst 1, 1, 0, 0, 1) ::
  (104, .isub, 1, 0, 0, 0) ::
  (105, .ireturn, 1, 0, 0, 0) ::
  []
def r_176 : List ax_E :=
  (0, .aload_n 0, 1, 0, 0, 0) ::
  (1, .getfield 167, 3, 11, 2, 0) ::
  (4, .bipush 30, 2, 0, 0, 30) ::
  (6, .if_icmp .eq 51, 3, 57, 0, 0) ::
  (9, .iload_n 1, 1, 1, 0, 0) ::
  (10, .i2l, 1, 0, 0, 0) ::
  (11, .ldc2_w 175, 3, 0, 0, (-9)) ::
  (14, .ldc2_w 177, 3, 0, 0, 9) ::
  (17, .invokestatic 160, 3, 169, 0, 1) ::
  (20, .ifCond .eq 37, 3, 57, 0, 0) ::
  (23, .iload_n 2, 1, 2, 0, 0) ::
  (24, .i2l, 1, 0, 0, 0) ::
  (25, .ldc2_w 175, 3, 0, 0, (-9)) ::
  (28, .ldc2_w 177, 3, 0, 0, 9) ::
  (31, .invokestatic 160, 3, 169, 0, 1) ::
  (34, .ifCond .eq 23, 3, 57, 0, 0) ::
  (37, .iload_n 1, 1, 1, 0, 0) ::
  (38, .ifCond .ne 7, 3, 45, 0, 0) ::
  (41, .iload_n 2, 1, 2, 0, 0) ::
  (42, .ifCond .eq 15, 3, 57, 0, 0) ::
  (45, .jsr 0, 0, 15, 0, 0) ::
  r_176_45
/-- 177 BlackSunModel.stars(II)I -/
def r_177 : List ax_E :=
  (0, .aload_n 0, 1, 0, 0, 0) ::
  (1, .iload_n 1, 1, 1, 0, 0) ::
  (2, .invokevirtual 181, 3, 172, 22, 1) ::
  (5, .ifCond .ne 7, 3, 12, 0, 0) ::
  (8, .sipush (-1000), 3, 0, 0, (-1000)) ::
  (11, .ireturn, 1, 0, 0, 0) ::
  (12, .iload_n 2, 1, 2, 0, 0) ::
  (13, .tableswitch 58 0 3 #[31, 38, 45, 52], 31, 0, 0, 0) ::
  (44, .aload_n 0, 1, 0, 0, 0) ::
  (45, .getfield 9, 3, 11, 5, 0) ::
  (48, .iload_n 1, 1, 1, 0, 0) ::
  (49, .iaload, 1, 0, 0, 0) ::
  (50, .ireturn, 1, 0, 0, 0) ::
  (51, .aload_n 0, 1, 0, 0, 0) ::
  (52, .getfield 13, 3, 11, 6, 0) ::
  (55, .iload_n 1, 1, 1, 0, 0) ::
  (56, .iaload, 1, 0, 0, 0) ::
  (57, .ireturn, 1, 0, 0, 0) ::
  (58, .aload_n 0, 1, 0, 0, 0) ::
  (59, .getfield 16, 3, 11, 7, 0) ::
  (62, .iload_n 1, 1, 1, 0, 0) ::
  (63, .iaload, 1, 0, 0, 0) ::
  (64, .ireturn, 1, 0, 0, 0) ::
  (65, .aload_n 0, 1, 0, 0, 0) ::
  (66, .iload_n 1, 1, 1, 0, 0) ::
  (67, .invokevirtual 185, 3, 175, 22, 1) ::
  (70, .ireturn, 1, 0, 0, 0) ::
  (71, .sipush (-1000), 3, 0, 0, (-1000)) ::
  (74, .ireturn, 1, 0, 0, 0) ::
  []
/-- 178 BlackSunModel.plate(III)I -/
def r_178 : List ax_E :=
  (0, .aload_n 0, 1, 0, 0, 0) ::
  (1, .getfield 170, 3, 11, 3, 0) ::
  (4, .bipush 16, 2, 0, 0, 16) ::
  (6, .if_icmp .eq 39, 3, 45, 0, 0) ::
  (9, .iload_n 1, 1, 1, 0, 0) ::
  (10, .i2l, 1, 0, 0, 0) ::
  (11, .lconst 0, 1, 0, 0, 0) ::
  (12, .ldc2_w 189, 3, 0, 0, 3) ::
  (15, .invokestatic 160, 3, 169, 0, 1) ::
  (18, .ifCond .eq 27, 3, 45, 0, 0) ::
  (21, .iload_n 2, 1, 2, 0, 0) ::
  (22, .i2l, 1, 0, 0, 0) ::
  (23, .lconst 0, 1, 0, 0, 0) ::
  (24, .ldc2_w 191, 3, 0, 0, 2) ::
  (27, .invokestatic 160, 3, 169, 0, 1) ::
  (30, .ifCond .eq 15, 3, 45, 0, 0) ::
  (33, .iload_n 3, 1, 3, 0, 0) ::
  (34, .i2l, 1, 0, 0, 0) ::
  (35, .lconst 0, 1, 0, 0, 0) ::
  (36, .ldc2_w 179, 3, 0, 0, 99) ::
  (39, .invokestatic 160, 3, 169, 0, 1) ::
  (42, .ifCond .ne 5, 3, 47, 0, 0) ::
  (45, .iconst (-1), 1, 0, 0, (-1)) ::
  (46, .ireturn, 1, 0, 0, 0) ::
  (47, .aload_n 0, 1, 0, 0, 0) ::
  (48, .getfield 19, 3, 11, 8, 0) ::
  (51, .aload_n 0, 1, 0, 0, 0) ::
  (52, .getfield 170, 3, 11, 3, 0) ::
  (55, .iload_n 1, 1, 1, 0, 0) ::
  (56, .iastore, 1, 0, 0, 0) ::
  (57, .aload_n 0, 1, 0, 0, 0) ::
  (58, .getfield 22, 3, 11, 9, 0) ::
  (61, .aload_n 0, 1, 0, 0, 0) ::
  (62, .getfield 170, 3, 11, 3, 0) ::
  (65, .iload_n 2, 1, 2, 0, 0) ::
  (66, .iastore, 1, 0, 0, 0) ::
  (67, .aload_n 0, 1, 0, 0, 0) ::
  (68, .getfield 25, 3, 11, 10, 0) ::
  (71, .aload_n 0, 1, 0, 0, 0) ::
  (72, .getfield 170, 3, 11, 3, 0) ::
  (75, .iload_n 3, 1, 3, 0, 0) ::
  (76, .iastore, 1, 0, 0, 0) ::
  (77, .aload_n 0, 1, 0, 0, 0) ::
  (78, .dup, 1, 0, 0, 0) ::
  (79, .getfield 170, 3, 11, 3, 0) ::
  (82, .iconst 1, 1, 0, 0, 1) ::
  (83, .iadd, 1, 0, 0, 0) ::
  (84, .putfield 170, 3, 11, 3, 0) ::
  (87, .aload_n 0, 1, 0, 0, 0) ::
  (88, .getfield 170, 3, 11, 3, 0) ::
  (91, .iconst 1, 1, 0, 0, 1) ::
  (92, .isub, 1, 0, 0, 0) ::
  (93, .ireturn, 1, 0, 0, 0) ::
  []
/-- 179 BlackSunModel.image(IIIII)I -/
def r_179 : List ax_E :=
  (0, .aload_n 0, 1, 0, 0, 0) ::
  (1, .getfield 193, 3, 11, 4, 0) ::
  (4, .bipush 100, 2, 0, 0, 100) ::
  (6, .if_icmp .eq 56, 3, 62, 0, 0) ::
  (9, .aload_n 0, 1, 0, 0, 0) ::
  (10, .iload_n 1, 1, 1, 0, 0) ::
  (11, .invokevirtual 196, 3, 173, 22, 1) ::
  (14, .ifCond .eq 48, 3, 62, 0, 0) ::
  (17, .aload_n 0, 1, 0, 0, 0) ::
  (18, .iload_n 2, 1, 2, 0, 0) ::
  (19, .invokevirtual 181, 3, 172, 22, 1) ::
  (22, .ifCond .eq 40, 3, 62, 0, 0) ::
  (25, .iload_n 3, 1, 3, 0, 0) ::
  (26, .invokestatic 199, 3, 174, 0, 1) ::
  (29, .ifCond .eq 33, 3, 62, 0, 0) ::
  (32, .iload 4, 2, 4, 0, 0) ::
  (34, .i2l, 1, 0, 0, 0) ::
  (35, .ldc2_w 202, 3, 0, 0, (-299)) ::
  (38, .ldc2_w 204, 3, 0, 0, 299) ::
  (41, .invokestatic 160, 3, 169, 0, 1) ::
  (44, .ifCond .eq 18, 3, 62, 0, 0) ::
  (47, .iload 5, 2, 5, 0, 0) ::
  (49, .i2l, 1, 0, 0, 0) ::
  (50, .ldc2_w 202, 3, 0, 0, (-299)) ::
  (53, .ldc2_w 204, 3, 0, 0, 299) ::
  (56, .invokestatic 160, 3, 169, 0, 1) ::
  (59, .ifCond .ne 5, 3, 64, 0, 0) ::
  (62, .iconst (-1), 1, 0, 0, (-1)) ::
  (63, .ireturn, 1, 0, 0, 0) ::
  (64, .aload_n 0, 1, 0, 0, 0) ::
  (65, .getfield 28, 3, 11, 11, 0) ::
  (68, .aload_n 0, 1, 0, 0, 0) ::
  (69, .getfield 193, 3, 11, 4, 0) ::
  (72, .iload_n 1, 1, 1, 0, 0) ::
  (73, .iastore, 1, 0, 0, 0) ::
  (74, .aload_n 0, 1, 0, 0, 0) ::
  (75, .getfield 31, 3, 11, 12, 0) ::
  (78, .aload_n 0, 1, 0, 0, 0) ::
  (79, .getfield 193, 3, 11, 4, 0) ::
  (82, .iload_n 2, 1, 2, 0, 0) ::
  (83, .iastore, 1, 0, 0, 0) ::
  (84, .aload_n 0, 1, 0, 0, 0) ::
  (85, .getfield 34, 3, 11, 13, 0) ::
  (88, .aload_n 0, 1, 0, 0, 0) ::
  (89, .getfield 193, 3, 11, 4, 0) ::
  (92, .iload_n 3, 1, 3, 0, 0) ::
  (93, .iastore, 1, 0, 0, 0) ::
  (94, .aload_n 0, 1, 0, 0, 0) ::
  (95, .getfield 37, 3, 11, 14, 0) ::
  (98, .aload_n 0, 1, 0, 0, 0) ::
  (99, .getfield 193, 3, 11, 4, 0) ::
  (102, .iload 4, 2, 4, 0, 0) ::
  (104, .iastore, 1, 0, 0, 0) ::
  (105, .aload_n 0, 1, 0, 0, 0) ::
  (106, .getfield 40, 3, 11, 15, 0) ::
  (109, .aload_n 0, 1, 0, 0, 0) ::
  (110, .getfield 193, 3, 11, 4, 0) ::
  (113, .iload 5, 2, 5, 0, 0) ::
  (115, .iastore, 1, 0, 0, 0) ::
  (116, .aload_n 0, 1, 0, 0, 0) ::
  (117, .getfield 43, 3, 11, 16, 0) ::
  (120, .aload_n 0, 1, 0, 0, 0) ::
  (121, .getfield 193, 3, 11, 4, 0) ::
  (124, .aload_n 0, 1, 0, 0, 0) ::
  (125, .getfield 164, 3, 11, 1, 0) ::
  (128, .iastore, 1, 0, 0, 0) ::
  (129, .aload_n 0, 1, 0, 0, 0) ::
  (130, .dup, 1, 0, 0, 0) ::
  (131, .getfield 193, 3, 11, 4, 0) ::
  (134, .iconst 1, 1, 0, 0, 1) ::
  (135, .iadd, 1, 0, 0, 0) ::
  (136, .putfield 193, 3, 11, 4, 0) ::
  (139, .aload_n 0, 1, 0, 0, 0) ::
  (140, .getfield 193, 3, 11, 4, 0) ::
  (143, .iconst 1, 1, 0, 0, 1) ::
  (144, .isub, 1, 0, 0, 0) ::
  (145, .ireturn, 1, 0, 0, 0) ::
  []
/-- 180 BlackSunModel.counting(IIII)I -/
def r_180_6 : List ax_E :=
  (6, .iload 6, 2, 6, 0, 0) ::
  (8, .aload_n 0, 1, 0, 0, 0) ::
  (9, .getfield 193, 3, 11, 4, 0) ::
  (12, .if_icmp .ge 63, 3, 75, 0, 0) ::
  (15, .aload_n 0, 1, 0, 0, 0) ::
  (16, .getfield 28, 3, 11, 11, 0) ::
  (19, .iload 6, 2, 6, 0, 0) ::
  (21, .iaload, 1, 0, 0, 0) ::
  (22, .iload_n 1, 1, 1, 0, 0) ::
  (23, .if_icmp .ne 42, 3, 65, 0, 0) ::
  (26, .aload_n 0, 1, 0, 0, 0) ::
  (27, .getfield 31, 3, 11, 12, 0) ::
  (30, .iload 6, 2, 6, 0, 0) ::
  (32, .iaload, 1, 0, 0, 0) ::
  (33, .iload_n 2, 1, 2, 0, 0) ::
  (34, .if_icmp .ne 31, 3, 65, 0, 0) ::
  (37, .aload_n 0, 1, 0, 0, 0) ::
  (38, .getfield 34, 3, 11, 13, 0) ::
  (41, .iload 6, 2, 6, 0, 0) ::
  (43, .iaload, 1, 0, 0, 0) ::
  (44, .iload_n 3, 1, 3, 0, 0) ::
  (45, .if_icmp .ne 20, 3, 65, 0, 0) ::
  (48, .aload_n 0, 1, 0, 0, 0) ::
  (49, .getfield 43, 3, 11, 16, 0) ::
  (52, .iload 6, 2, 6, 0, 0) ::
  (54, .iaload, 1, 0, 0, 0) ::
  (55, .iload 4, 2, 4, 0, 0) ::
  (57, .if_icmp .gt 8, 3, 65, 0, 0) ::
  (60, .iload 6, 2, 6, 0, 0) ::
  (62, .goto 5, 3, 67, 0, 0) ::
  (65, .iload 5, 2, 5, 0, 0) ::
  (67, .istore 5, 2, 5, 0, 0) ::
  (69, .iinc 6 1, 3, 6, 0, 1) ::
  (72, .goto (-66), 3, 6, 0, 0) ::
  (75, .iload 5, 2, 5, 0, 0) ::
  (77, .ireturn, 1, 0, 0, 0) ::
  []
def r_180 : List ax_E :=
  (0, .iconst (-1), 1, 0, 0, (-1)) ::
  (1, .istore 5, 2, 5, 0, 0) ::
  (3, .iconst 0, 1, 0, 0, 0) ::
  (4, .istore 6, 2, 6, 0, 0) ::
  (6, .jsr 0, 0, 127, 0, 0) ::
  r_180_6
/-- 181 BlackSunModel.counts(II)Z -/
def r_181 : List ax_E :=
  (0, .aload_n 0, 1, 0, 0, 0) ::
  (1, .getfield 43, 3, 11, 16, 0) ::
  (4, .iload_n 1, 1, 1, 0, 0) ::
  (5, .iaload, 1, 0, 0, 0) ::
  (6, .iload_n 2, 1, 2, 0, 0) ::
  (7, .if_icmp .gt 34, 3, 41, 0, 0) ::
  (10, .aload_n 0, 1, 0, 0, 0) ::
  (11, .aload_n 0, 1, 0, 0, 0) ::
  (12, .getfield 28, 3, 11, 11, 0) ::
  (15, .iload_n 1, 1, 1, 0, 0) ::
  (16, .iaload, 1, 0, 0, 0) ::
  (17, .aload_n 0, 1, 0, 0, 0) ::
  (18, .getfield 31, 3, 11, 12, 0) ::
  (21, .iload_n 1, 1, 1, 0, 0) ::
  (22, .iaload, 1, 0, 0, 0) ::
  (23, .aload_n 0, 1, 0, 0, 0) ::
  (24, .getfield 34, 3, 11, 13, 0) ::
  (27, .iload_n 1, 1, 1, 0, 0) ::
  (28, .iaload, 1, 0, 0, 0) ::
  (29, .iload_n 2, 1, 2, 0, 0) ::
  (30, .invokevirtual 206, 3, 180, 22, 1) ::
  (33, .iload_n 1, 1, 1, 0, 0) ::
  (34, .if_icmp .ne 7, 3, 41, 0, 0) ::
  (37, .iconst 1, 1, 0, 0, 1) ::
  (38, .goto 4, 3, 42, 0, 0) ::
  (41, .iconst 0, 1, 0, 0, 0) ::
  (42, .ireturn, 1, 1, 0, 0) ::
  []
/-- 182 BlackSunModel.images(IIIII)I -/
def r_182 : List ax_E :=
  (0, .aload_n 0, 1, 0, 0, 0) ::
  (1, .iload_n 1, 1, 1, 0, 0) ::
  (2, .invokevirtual 196, 3, 173, 22, 1) ::
  (5, .ifCond .eq 37, 3, 42, 0, 0) ::
  (8, .aload_n 0, 1, 0, 0, 0) ::
  (9, .iload_n 2, 1, 2, 0, 0) ::
  (10, .invokevirtual 181, 3, 172, 22, 1) ::
  (13, .ifCond .eq 29, 3, 42, 0, 0) ::
  (16, .iload_n 3, 1, 3, 0, 0) ::
  (17, .invokestatic 199, 3, 174, 0, 1) ::
  (20, .ifCond .eq 22, 3, 42, 0, 0) ::
  (23, .iload 4, 2, 4, 0, 0) ::
  (25, .invokestatic 210, 3, 170, 0, 1) ::
  (28, .ifCond .eq 14, 3, 42, 0, 0) ::
  (31, .iload 5, 2, 5, 0, 0) ::
  (33, .i2l, 1, 0, 0, 0) ::
  (34, .lconst 0, 1, 0, 0, 0) ::
  (35, .lconst 1, 1, 0, 0, 1) ::
  (36, .invokestatic 160, 3, 169, 0, 1) ::
  (39, .ifCond .ne 7, 3, 46, 0, 0) ::
  (42, .sipush (-1000), 3, 0, 0, (-1000)) ::
  (45, .ireturn, 1, 0, 0, 0) ::
  (46, .aload_n 0, 1, 0, 0, 0) ::
  (47, .iload_n 1, 1, 1, 0, 0) ::
  (48, .iload_n 2, 1, 2, 0, 0) ::
  (49, .iload_n 3, 1, 3, 0, 0) ::
  (50, .iload 4, 2, 4, 0, 0) ::
  (52, .invokevirtual 206, 3, 180, 22, 1) ::
  (55, .istore 6, 2, 6, 0, 0) ::
  (57, .iload 6, 2, 6, 0, 0) ::
  (59, .iconst (-1), 1, 0, 0, (-1)) ::
  (60, .if_icmp .ne 9, 3, 69, 0, 0) ::
  (63, .sipush (-1000), 3, 0, 0, (-1000)) ::
  (66, .goto 25, 3, 91, 0, 0) ::
  (69, .iload 5, 2, 5, 0, 0) ::
  (71, .ifCond .ne 13, 3, 84, 0, 0) ::
  (74, .aload_n 0, 1, 0, 0, 0) ::
  (75, .getfield 37, 3, 11, 14, 0) ::
  (78, .iload 6, 2, 6, 0, 0) ::
  (80, .iaload, 1, 0, 0, 0) ::
  (81, .goto 10, 3, 91, 0, 0) ::
  (84, .aload_n 0, 1, 0, 0, 0) ::
  (85, .getfield 40, 3, 11, 15, 0) ::
  (88, .iload 6, 2, 6, 0, 0) ::
  (90, .iaload, 1, 0, 0, 0) ::
  (91, .ireturn, 1, 0, 0, 0) ::
  []
/-- 183 BlackSunModel.given(III)I -/
def r_183 : List ax_E :=
  (0, .aload_n 0, 1, 0, 0, 0) ::
  (1, .getfield 9, 3, 11, 5, 0) ::
  (4, .iload_n 2, 1, 2, 0, 0) ::
  (5, .iaload, 1, 0, 0, 0) ::
  (6, .istore 4, 2, 4, 0, 0) ::
  (8, .aload_n 0, 1, 0, 0, 0) ::
  (9, .getfield 13, 3, 11, 6, 0) ::
  (12, .iload_n 2, 1, 2, 0, 0) ::
  (13, .iaload, 1, 0, 0, 0) ::
  (14, .istore 5, 2, 5, 0, 0) ::
  (16, .iload_n 1, 1, 1, 0, 0) ::
  (17, .tableswitch 87 0 4 #[35, 39, 41, 53, 66], 35, 0, 0, 0) ::
  (52, .iconst 1, 1, 0, 0, 1) ::
  (53, .iload_n 3, 1, 3, 0, 0) ::
  (54, .isub, 1, 0, 0, 0) ::
  (55, .ireturn, 1, 0, 0, 0) ::
  (56, .iload_n 3, 1, 3, 0, 0) ::
  (57, .ireturn, 1, 0, 0, 0) ::
  (58, .iload_n 3, 1, 3, 0, 0) ::
  (59, .ifCond .ne 8, 3, 67, 0, 0) ::
  (62, .iload 4, 2, 4, 0, 0) ::
  (64, .goto 5, 3, 69, 0, 0) ::
  (67, .iload 5, 2, 5, 0, 0) ::
  (69, .ireturn, 1, 0, 0, 0) ::
  (70, .iload_n 3, 1, 3, 0, 0) ::
  (71, .ifCond .ne 9, 3, 80, 0, 0) ::
  (74, .iload 5, 2, 5, 0, 0) ::
  (76, .ineg, 1, 0, 0, 0) ::
  (77, .goto 5, 3, 82, 0, 0) ::
  (80, .iload 4, 2, 4, 0, 0) ::
  (82, .ireturn, 1, 0, 0, 0) ::
  (83, .bipush 40, 2, 0, 0, 40) ::
  (85, .iload_n 3, 1, 3, 0, 0) ::
  (86, .ifCond .ne 8, 3, 94, 0, 0) ::
  (89, .iload 4, 2, 4, 0, 0) ::
  (91, .goto 5, 3, 96, 0, 0) ::
  (94, .iload 5, 2, 5, 0, 0) ::
  (96, .imul, 1, 0, 0, 0) ::
  (97, .aload_n 0, 1, 0, 0, 0) ::
  (98, .iload_n 2, 1, 2, 0, 0) ::
  (99, .invokevirtual 185, 3, 175, 22, 1) ::
  (102, .idiv, 1, 0, 0, 0) ::
  (103, .ireturn, 1, 0, 0, 0) ::
  (104, .iload_n 3, 1, 3, 0, 0) ::
  (105, .ifCond .ne 11, 3, 116, 0, 0) ::
  (108, .iload 4, 2, 4, 0, 0) ::
  (110, .iload 5, 2, 5, 0, 0) ::
  (112, .imul, 1, 0, 0, 0) ::
  (113, .goto 4, 3, 117, 0, 0) ::
  (116, .iconst 0, 1, 0, 0, 0) ::
  (117, .ireturn, 1, 0, 0, 0) ::
  []
/-- 184 BlackSunModel.gives(III)I -/
def r_184 : List ax_E :=
  (0, .iload_n 1, 1, 1, 0, 0) ::
  (1, .i2l, 1, 0, 0, 0) ::
  (2, .lconst 0, 1, 0, 0, 0) ::
  (3, .ldc2_w 213, 3, 0, 0, 5) ::
  (6, .invokestatic 160, 3, 169, 0, 1) ::
  (9, .ifCond .eq 31, 3, 40, 0, 0) ::
  (12, .aload_n 0, 1, 0, 0, 0) ::
  (13, .iload_n 2, 1, 2, 0, 0) ::
  (14, .invokevirtual 181, 3, 172, 22, 1) ::
  (17, .ifCond .eq 23, 3, 40, 0, 0) ::
  (20, .iload_n 3, 1, 3, 0, 0) ::
  (21, .i2l, 1, 0, 0, 0) ::
  (22, .lconst 0, 1, 0, 0, 0) ::
  (23, .lconst 1, 1, 0, 0, 1) ::
  (24, .invokestatic 160, 3, 169, 0, 1) ::
  (27, .ifCond .eq 13, 3, 40, 0, 0) ::
  (30, .aload_n 0, 1, 0, 0, 0) ::
  (31, .iload_n 1, 1, 1, 0, 0) ::
  (32, .iload_n 2, 1, 2, 0, 0) ::
  (33, .iload_n 3, 1, 3, 0, 0) ::
  (34, .invokevirtual 215, 3, 183, 22, 1) ::
  (37, .goto 6, 3, 43, 0, 0) ::
  (40, .sipush (-1000), 3, 0, 0, (-1000)) ::
  (43, .ireturn, 1, 0, 0, 0) ::
  []
/-- 185 BlackSunModel.put(I)V -/
def r_185_3 : List ax_E :=
  (3, .iload_n 2, 1, 2, 0, 0) ::
  (4, .ifCond .lt 32, 3, 36, 0, 0) ::
  (7, .aload_n 0, 1, 0, 0, 0) ::
  (8, .getfield 46, 3, 11, 26, 0) ::
  (11, .aload_n 0, 1, 0, 0, 0) ::
  (12, .getfield 219, 3, 11, 17, 0) ::
  (15, .iload_n 1, 1, 1, 0, 0) ::
  (16, .iload_n 2, 1, 2, 0, 0) ::
  (17, .ishr, 1, 0, 0, 0) ::
  (18, .i2b, 1, 0, 0, 0) ::
  (19, .bastore, 1, 18, 0, 0) ::
  (20, .aload_n 0, 1, 0, 0, 0) ::
  (21, .dup, 1, 0, 0, 0) ::
  (22, .getfield 219, 3, 11, 17, 0) ::
  (25, .iconst 1, 1, 0, 0, 1) ::
  (26, .iadd, 1, 0, 0, 0) ::
  (27, .putfield 219, 3, 11, 17, 0) ::
  (30, .iinc 2 (-8), 3, 2, 0, (-8)) ::
  (33, .goto (-30), 3, 3, 0, 0) ::
  (36, .return_, 1, 0, 0, 0) ::
  []
def r_185 : List ax_E :=
  (0, .bipush 24, 2, 0, 0, 24) ::
  (2, .istore_n 2, 1, 2, 0, 0) ::
  (3, .jsr 0, 0, 7, 0, 0) ::
  r_185_3
/-- 186 BlackSunModel.feed(IIIII)I -/
def r_186 : List ax_E :=
  (0, .aload_n 0, 1, 0, 0, 0) ::
  (1, .getfield 219, 3, 11, 17, 0) ::
  (4, .bipush 20, 2, 0, 0, 20) ::
  (6, .iadd, 1, 0, 0, 0) ::
  (7, .sipush 400, 3, 0, 0, 400) ::
  (10, .if_icmp .le 5, 3, 15, 0, 0) ::
  (13, .iconst (-1), 1, 0, 0, (-1)) ::
  (14, .ireturn, 1, 0, 0, 0) ::
  (15, .aload_n 0, 1, 0, 0, 0) ::
  (16, .iload_n 1, 1, 1, 0, 0) ::
  (17, .invokevirtual 222, 3, 185, 22, 0) ::
  (20, .aload_n 0, 1, 0, 0, 0) ::
  (21, .iload_n 2, 1, 2, 0, 0) ::
  (22, .invokevirtual 222, 3, 185, 22, 0) ::
  (25, .aload_n 0, 1, 0, 0, 0) ::
  (26, .iload_n 3, 1, 3, 0, 0) ::
  (27, .invokevirtual 222, 3, 185, 22, 0) ::
  (30, .aload_n 0, 1, 0, 0, 0) ::
  (31, .iload 4, 2, 4, 0, 0) ::
  (33, .invokevirtual 222, 3, 185, 22, 0) ::
  (36, .aload_n 0, 1, 0, 0, 0) ::
  (37, .iload 5, 2, 5, 0, 0) ::
  (39, .invokevirtual 222, 3, 185, 22, 0) ::
  (42, .aload_n 0, 1, 0, 0, 0) ::
  (43, .getfield 219, 3, 11, 17, 0) ::
  (46, .ireturn, 1, 0, 0, 0) ::
  []
/-- 187 BlackSunModel.end(I)I -/
def r_187 : List ax_E :=
  (0, .iload_n 1, 1, 1, 0, 0) ::
  (1, .ifCond .lt 11, 3, 12, 0, 0) ::
  (4, .iload_n 1, 1, 1, 0, 0) ::
  (5, .aload_n 0, 1, 0, 0, 0) ::
  (6, .getfield 219, 3, 11, 17, 0) ::
  (9, .if_icmp .le 5, 3, 14, 0, 0) ::
  (12, .iconst (-1), 1, 0, 0, (-1)) ::
  (13, .ireturn, 1, 0, 0, 0) ::
  (14, .aload_n 0, 1, 0, 0, 0) ::
  (15, .iload_n 1, 1, 1, 0, 0) ::
  (16, .putfield 219, 3, 11, 17, 0) ::
  (19, .iload_n 1, 1, 1, 0, 0) ::
  (20, .ireturn, 1, 0, 0, 0) ::
  []
/-- 188 BlackSunModel.termName(I)Ljava/lang/String; -/
def r_188 : List ax_E :=
  (0, .iload_n 0, 1, 0, 0, 0) ::
  (1, .tableswitch 50 0 4 #[35, 38, 41, 44, 47], 35, 0, 0, 0) ::
  (36, .ldc 226, 2, 29, 1, 0) ::
  (38, .areturn, 1, 0, 0, 0) ::
  (39, .ldc 228, 2, 30, 1, 0) ::
  (41, .areturn, 1, 0, 0, 0) ::
  (42, .ldc 230, 2, 31, 1, 0) ::
  (44, .areturn, 1, 0, 0, 0) ::
  (45, .ldc 232, 2, 32, 1, 0) ::
  (47, .areturn, 1, 0, 0, 0) ::
  (48, .ldc 234, 2, 33, 1, 0) ::
  (50, .areturn, 1, 0, 0, 0) ::
  (51, .ldc 236, 2, 34, 1, 0) ::
  (53, .areturn, 1, 0, 0, 0) ::
  []
/-- 189 BlackSunModel.wordOf(I)Ljava/lang/String; -/
def r_189 : List ax_E :=
  (0, .iload_n 0, 1, 0, 0, 0) ::
  (1, .tableswitch 99 0 11 #[63, 66, 69, 72, 75, 78, 81, 84, 87, 90, 93, 96], 63, 0, 0, 0) ::
  (64, .ldc 238, 2, 15, 1, 0) ::
  (66, .areturn, 1, 0, 0, 0) ::
  (67, .ldc 240, 2, 16, 1, 0) ::
  (69, .areturn, 1, 0, 0, 0) ::
  (70, .ldc 241, 2, 17, 1, 0) ::
  (72, .areturn, 1, 0, 0, 0) ::
  (73, .ldc 242, 2, 18, 1, 0) ::
  (75, .areturn, 1, 0, 0, 0) ::
  (76, .ldc 243, 2, 19, 1, 0) ::
  (78, .areturn, 1, 0, 0, 0) ::
  (79, .ldc 245, 2, 20, 1, 0) ::
  (81, .areturn, 1, 0, 0, 0) ::
  (82, .ldc 246, 2, 21, 1, 0) ::
  (84, .areturn, 1, 0, 0, 0) ::
  (85, .ldc 247, 2, 22, 1, 0) ::
  (87, .areturn, 1, 0, 0, 0) ::
  (88, .ldc 249, 2, 23, 1, 0) ::
  (90, .areturn, 1, 0, 0, 0) ::
  (91, .ldc 251, 2, 24, 1, 0) ::
  (93, .areturn, 1, 0, 0, 0) ::
  (94, .ldc 253, 2, 25, 1, 0) ::
  (96, .areturn, 1, 0, 0, 0) ::
  (97, .ldc 255, 2, 26, 1, 0) ::
  (99, .areturn, 1, 0, 0, 0) ::
  (100, .ldc_w 257, 3, 12, 1, 0) ::
  (103, .areturn, 1, 0, 0, 0) ::
  []
/-- 190 BlackSunModel.fails(II)V -/
def r_190 : List ax_E :=
  (0, .aload_n 0, 1, 0, 0, 0) ::
  (1, .aload_n 0, 1, 0, 0, 0) ::
  (2, .getfield 259, 3, 11, 19, 0) ::
  (5, .ifCond .ne 14, 3, 19, 0, 0) ::
  (8, .iconst 1, 1, 0, 0, 1) ::
  (9, .bipush 8, 2, 0, 0, 8) ::
  (11, .iload_n 2, 1, 2, 0, 0) ::
  (12, .imul, 1, 0, 0, 0) ::
  (13, .iadd, 1, 0, 0, 0) ::
  (14, .iload_n 1, 1, 1, 0, 0) ::
  (15, .iadd, 1, 0, 0, 0) ::
  (16, .goto 7, 3, 23, 0, 0) ::
  (19, .aload_n 0, 1, 0, 0, 0) ::
  (20, .getfield 259, 3, 11, 19, 0) ::
  (23, .putfield 259, 3, 11, 19, 0) ::
  (26, .return_, 1, 0, 0, 0) ::
  []
/-- 191 BlackSunModel.sign()I -/
def r_191 : List ax_E :=
  (0, .aload_n 0, 1, 0, 0, 0) ::
  (1, .getfield 262, 3, 11, 18, 0) ::
  (4, .aload_n 0, 1, 0, 0, 0) ::
  (5, .getfield 219, 3, 11, 17, 0) ::
  (8, .if_icmp .ge 19, 3, 27, 0, 0) ::
  (11, .aload_n 0, 1, 0, 0, 0) ::
  (12, .getfield 46, 3, 11, 26, 0) ::
  (15, .aload_n 0, 1, 0, 0, 0) ::
  (16, .getfield 262, 3, 11, 18, 0) ::
  (19, .baload, 1, 18, 0, 0) ::
  (20, .sipush 255, 3, 0, 0, 255) ::
  (23, .iand, 1, 0, 0, 0) ::
  (24, .goto 4, 3, 28, 0, 0) ::
  (27, .iconst (-1), 1, 0, 0, (-1)) ::
  (28, .ireturn, 1, 0, 0, 0) ::
  []
/-- 192 BlackSunModel.blanks()V -/
def r_192_0 : List ax_E :=
  (0, .aload_n 0, 1, 0, 0, 0) ::
  (1, .invokevirtual 265, 3, 191, 22, 1) ::
  (4, .bipush 32, 2, 0, 0, 32) ::
  (6, .if_icmp .ne 16, 3, 22, 0, 0) ::
  (9, .aload_n 0, 1, 0, 0, 0) ::
  (10, .dup, 1, 0, 0, 0) ::
  (11, .getfield 262, 3, 11, 18, 0) ::
  (14, .iconst 1, 1, 0, 0, 1) ::
  (15, .iadd, 1, 0, 0, 0) ::
  (16, .putfield 262, 3, 11, 18, 0) ::
  (19, .goto (-19), 3, 0, 0, 0) ::
  (22, .return_, 1, 0, 0, 0) ::
  []
def r_192 : List ax_E :=
  (0, .jsr 0, 0, 1, 0, 0) ::
  r_192_0
/-- 193 BlackSunModel.isDigit()Z -/
def r_193 : List ax_E :=
  (0, .aload_n 0, 1, 0, 0, 0) ::
  (1, .invokevirtual 265, 3, 191, 22, 1) ::
  (4, .i2l, 1, 0, 0, 0) ::
  (5, .ldc2_w 269, 3, 0, 0, 48) ::
  (8, .ldc2_w 271, 3, 0, 0, 57) ::
  (11, .invokestatic 160, 3, 169, 0, 1) ::
  (14, .ireturn, 1, 1, 0, 0) ::
  []
/-- 194 BlackSunModel.stands(Ljava/lang/String;)Z -/
def r_194_63 : List ax_E :=
  (63, .iload 4, 2, 4, 0, 0) ::
  (65, .aload_n 1, 1, 1, 0, 0) ::
  (66, .invokevirtual 273, 3, 0, 90, 1) ::
  (69, .if_icmp .ge 40, 3, 109, 0, 0) ::
  (72, .iload_n 3, 1, 3, 0, 0) ::
  (73, .ifCond .eq 36, 3, 109, 0, 0) ::
  (76, .aload_n 0, 1, 0, 0, 0) ::
  (77, .getfield 46, 3, 11, 26, 0) ::
  (80, .aload_n 0, 1, 0, 0, 0) ::
  (81, .getfield 262, 3, 11, 18, 0) ::
  (84, .iload 4, 2, 4, 0, 0) ::
  (86, .iadd, 1, 0, 0, 0) ::
  (87, .baload, 1, 18, 0, 0) ::
  (88, .aload_n 1, 1, 1, 0, 0) ::
  (89, .iload 4, 2, 4, 0, 0) ::
  (91, .invokevirtual 278, 3, 1, 90, 1) ::
  (94, .if_icmp .ne 7, 3, 101, 0, 0) ::
  (97, .iconst 1, 1, 0, 0, 1) ::
  (98, .goto 4, 3, 102, 0, 0) ::
  (101, .iconst 0, 1, 0, 0, 0) ::
  (102, .istore_n 3, 1, 3, 0, 0) ::
  (103, .iinc 4 1, 3, 4, 0, 1) ::
  (106, .goto (-43), 3, 63, 0, 0) ::
  (109, .iload_n 3, 1, 3, 0, 0) ::
  (110, .ireturn, 1, 1, 0, 0) ::
  []
def r_194_41 : List ax_E :=
  (41, .iload_n 2, 1, 2, 0, 0) ::
  (42, .aload_n 0, 1, 0, 0, 0) ::
  (43, .getfield 262, 3, 11, 18, 0) ::
  (46, .isub, 1, 0, 0, 0) ::
  (47, .aload_n 1, 1, 1, 0, 0) ::
  (48, .invokevirtual 273, 3, 0, 90, 1) ::
  (51, .if_icmp .ne 7, 3, 58, 0, 0) ::
  (54, .iconst 1, 1, 0, 0, 1) ::
  (55, .goto 4, 3, 59, 0, 0) ::
  (58, .iconst 0, 1, 0, 0, 0) ::
  (59, .istore_n 3, 1, 3, 0, 0) ::
  (60, .iconst 0, 1, 0, 0, 0) ::
  (61, .istore 4, 2, 4, 0, 0) ::
  (63, .jsr 0, 0, 27, 0, 0) ::
  r_194_63
def r_194_5 : List ax_E :=
  (5, .iload_n 2, 1, 2, 0, 0) ::
  (6, .aload_n 0, 1, 0, 0, 0) ::
  (7, .getfield 219, 3, 11, 17, 0) ::
  (10, .if_icmp .ge 31, 3, 41, 0, 0) ::
  (13, .aload_n 0, 1, 0, 0, 0) ::
  (14, .getfield 46, 3, 11, 26, 0) ::
  (17, .iload_n 2, 1, 2, 0, 0) ::
  (18, .baload, 1, 18, 0, 0) ::
  (19, .bipush 97, 2, 0, 0, 97) ::
  (21, .if_icmp .lt 20, 3, 41, 0, 0) ::
  (24, .aload_n 0, 1, 0, 0, 0) ::
  (25, .getfield 46, 3, 11, 26, 0) ::
  (28, .iload_n 2, 1, 2, 0, 0) ::
  (29, .baload, 1, 18, 0, 0) ::
  (30, .bipush 122, 2, 0, 0, 122) ::
  (32, .if_icmp .gt 9, 3, 41, 0, 0) ::
  (35, .iinc 2 1, 3, 2, 0, 1) ::
  (38, .goto (-33), 3, 5, 0, 0) ::
  (41, .jsr 0, 0, 7, 0, 0) ::
  r_194_41
def r_194 : List ax_E :=
  (0, .aload_n 0, 1, 0, 0, 0) ::
  (1, .getfield 262, 3, 11, 18, 0) ::
  (4, .istore_n 2, 1, 2, 0, 0) ::
  (5, .jsr 0, 0, 7, 0, 0) ::
  r_194_5
/-- 195 BlackSunModel.takes(Ljava/lang/String;)Z -/
def r_195 : List ax_E :=
  (0, .aload_n 0, 1, 0, 0, 0) ::
  (1, .invokevirtual 282, 3, 192, 22, 0) ::
  (4, .aload_n 0, 1, 0, 0, 0) ::
  (5, .aload_n 1, 1, 1, 0, 0) ::
  (6, .invokevirtual 285, 3, 194, 22, 1) ::
  (9, .istore_n 2, 1, 2, 0, 0) ::
  (10, .aload_n 0, 1, 0, 0, 0) ::
  (11, .dup, 1, 0, 0, 0) ::
  (12, .getfield 262, 3, 11, 18, 0) ::
  (15, .iload_n 2, 1, 2, 0, 0) ::
  (16, .ifCond .eq 10, 3, 26, 0, 0) ::
  (19, .aload_n 1, 1, 1, 0, 0) ::
  (20, .invokevirtual 273, 3, 0, 90, 1) ::
  (23, .goto 4, 3, 27, 0, 0) ::
  (26, .iconst 0, 1, 0, 0, 0) ::
  (27, .iadd, 1, 0, 0, 0) ::
  (28, .putfield 262, 3, 11, 18, 0) ::
  (31, .iload_n 2, 1, 2, 0, 0) ::
  (32, .ireturn, 1, 1, 0, 0) ::
  []
/-- 196 BlackSunModel.entry(II)V -/
def r_196 : List ax_E :=
  (0, .aload_n 0, 1, 0, 0, 0) ::
  (1, .getfield 259, 3, 11, 19, 0) ::
  (4, .ifCond .ne 51, 3, 55, 0, 0) ::
  (7, .aload_n 0, 1, 0, 0, 0) ::
  (8, .getfield 50, 3, 11, 27, 0) ::
  (11, .sipush 300, 3, 0, 0, 300) ::
  (14, .aload_n 0, 1, 0, 0, 0) ::
  (15, .getfield 289, 3, 11, 20, 0) ::
  (18, .imul, 1, 0, 0, 0) ::
  (19, .aload_n 0, 1, 0, 0, 0) ::
  (20, .getfield 292, 3, 11, 21, 0) ::
  (23, .iadd, 1, 0, 0, 0) ::
  (24, .iload_n 1, 1, 1, 0, 0) ::
  (25, .iastore, 1, 0, 0, 0) ::
  (26, .aload_n 0, 1, 0, 0, 0) ::
  (27, .getfield 53, 3, 11, 28, 0) ::
  (30, .sipush 300, 3, 0, 0, 300) ::
  (33, .aload_n 0, 1, 0, 0, 0) ::
  (34, .getfield 289, 3, 11, 20, 0) ::
  (37, .imul, 1, 0, 0, 0) ::
  (38, .aload_n 0, 1, 0, 0, 0) ::
  (39, .getfield 292, 3, 11, 21, 0) ::
  (42, .iadd, 1, 0, 0, 0) ::
  (43, .iload_n 2, 1, 2, 0, 0) ::
  (44, .iastore, 1, 0, 0, 0) ::
  (45, .aload_n 0, 1, 0, 0, 0) ::
  (46, .dup, 1, 0, 0, 0) ::
  (47, .getfield 292, 3, 11, 21, 0) ::
  (50, .iconst 1, 1, 0, 0, 1) ::
  (51, .iadd, 1, 0, 0, 0) ::
  (52, .putfield 292, 3, 11, 21, 0) ::
  (55, .return_, 1, 0, 0, 0) ::
  []
/-- 197 BlackSunModel.isCounted(I)V -/
def r_197 : List ax_E :=
  (0, .aload_n 0, 1, 0, 0, 0) ::
  (1, .getfield 295, 3, 11, 23, 0) ::
  (4, .bipush 60, 2, 0, 0, 60) ::
  (6, .if_icmp .ne 9, 3, 15, 0, 0) ::
  (9, .aload_n 0, 1, 0, 0, 0) ::
  (10, .iconst 3, 1, 0, 0, 3) ::
  (11, .iload_n 1, 1, 1, 0, 0) ::
  (12, .invokevirtual 298, 3, 190, 22, 0) ::
  (15, .aload_n 0, 1, 0, 0, 0) ::
  (16, .dup, 1, 0, 0, 0) ::
  (17, .getfield 295, 3, 11, 23, 0) ::
  (20, .iconst 1, 1, 0, 0, 1) ::
  (21, .iadd, 1, 0, 0, 0) ::
  (22, .putfield 295, 3, 11, 23, 0) ::
  (25, .return_, 1, 0, 0, 0) ::
  []
/-- 198 BlackSunModel.digits(I)I -/
def r_198_25 : List ax_E :=
  (25, .aload_n 0, 1, 0, 0, 0) ::
  (26, .invokevirtual 302, 3, 193, 22, 1) ::
  (29, .ifCond .eq 43, 3, 72, 0, 0) ::
  (32, .aload_n 0, 1, 0, 0, 0) ::
  (33, .getfield 262, 3, 11, 18, 0) ::
  (36, .iload_n 2, 1, 2, 0, 0) ::
  (37, .isub, 1, 0, 0, 0) ::
  (38, .iconst 5, 1, 0, 0, 5) ::
  (39, .if_icmp .ge 18, 3, 57, 0, 0) ::
  (42, .bipush 10, 2, 0, 0, 10) ::
  (44, .iload_n 3, 1, 3, 0, 0) ::
  (45, .imul, 1, 0, 0, 0) ::
  (46, .aload_n 0, 1, 0, 0, 0) ::
  (47, .invokevirtual 265, 3, 191, 22, 1) ::
  (50, .iadd, 1, 0, 0, 0) ::
  (51, .bipush 48, 2, 0, 0, 48) ::
  (53, .isub, 1, 0, 0, 0) ::
  (54, .goto 4, 3, 58, 0, 0) ::
  (57, .iload_n 3, 1, 3, 0, 0) ::
  (58, .istore_n 3, 1, 3, 0, 0) ::
  (59, .aload_n 0, 1, 0, 0, 0) ::
  (60, .dup, 1, 0, 0, 0) ::
  (61, .getfield 262, 3, 11, 18, 0) ::
  (64, .iconst 1, 1, 0, 0, 1) ::
  (65, .iadd, 1, 0, 0, 0) ::
  (66, .putfield 262, 3, 11, 18, 0) ::
  (69, .goto (-44), 3, 25, 0, 0) ::
  (72, .aload_n 0, 1, 0, 0, 0) ::
  (73, .getfield 262, 3, 11, 18, 0) ::
  (76, .iload_n 2, 1, 2, 0, 0) ::
  (77, .isub, 1, 0, 0, 0) ::
  (78, .iconst 5, 1, 0, 0, 5) ::
  (79, .if_icmp .gt 8, 3, 87, 0, 0) ::
  (82, .iload_n 3, 1, 3, 0, 0) ::
  (83, .iload_n 1, 1, 1, 0, 0) ::
  (84, .if_icmp .le 9, 3, 93, 0, 0) ::
  (87, .aload_n 0, 1, 0, 0, 0) ::
  (88, .iconst 1, 1, 0, 0, 1) ::
  (89, .iload_n 2, 1, 2, 0, 0) ::
  (90, .invokevirtual 298, 3, 190, 22, 0) ::
  (93, .iload_n 3, 1, 3, 0, 0) ::
  (94, .ireturn, 1, 0, 0, 0) ::
  []
def r_198 : List ax_E :=
  (0, .aload_n 0, 1, 0, 0, 0) ::
  (1, .invokevirtual 302, 3, 193, 22, 1) ::
  (4, .ifCond .ne 14, 3, 18, 0, 0) ::
  (7, .aload_n 0, 1, 0, 0, 0) ::
  (8, .iconst 0, 1, 0, 0, 0) ::
  (9, .aload_n 0, 1, 0, 0, 0) ::
  (10, .getfield 262, 3, 11, 18, 0) ::
  (13, .invokevirtual 298, 3, 190, 22, 0) ::
  (16, .iconst 0, 1, 0, 0, 0) ::
  (17, .ireturn, 1, 0, 0, 0) ::
  (18, .aload_n 0, 1, 0, 0, 0) ::
  (19, .getfield 262, 3, 11, 18, 0) ::
  (22, .istore_n 2, 1, 2, 0, 0) ::
  (23, .iconst 0, 1, 0, 0, 0) ::
  (24, .istore_n 3, 1, 3, 0, 0) ::
  (25, .jsr 0, 0, 15, 0, 0) ::
  r_198_25
/-- 199 BlackSunModel.value()V -/
def r_199_61 : List ax_E :=
  (61, .iload_n 2, 1, 2, 0, 0) ::
  (62, .bipush 13, 2, 0, 0, 13) ::
  (64, .if_icmp .ne 10, 3, 74, 0, 0) ::
  (67, .aload_n 0, 1, 0, 0, 0) ::
  (68, .iconst 0, 1, 0, 0, 0) ::
  (69, .iload_n 1, 1, 1, 0, 0) ::
  (70, .invokevirtual 298, 3, 190, 22, 0) ::
  (73, .return_, 1, 0, 0, 0) ::
  (74, .aload_n 0, 1, 0, 0, 0) ::
  (75, .iload_n 1, 1, 1, 0, 0) ::
  (76, .invokevirtual 310, 3, 197, 22, 0) ::
  (79, .aload_n 0, 1, 0, 0, 0) ::
  (80, .dup, 1, 0, 0, 0) ::
  (81, .getfield 262, 3, 11, 18, 0) ::
  (84, .iload_n 2, 1, 2, 0, 0) ::
  (85, .invokestatic 316, 3, 189, 0, 3) ::
  (88, .invokevirtual 273, 3, 0, 90, 1) ::
  (91, .iadd, 1, 0, 0, 0) ::
  (92, .putfield 262, 3, 11, 18, 0) ::
  (95, .aload_n 0, 1, 0, 0, 0) ::
  (96, .iconst 1, 1, 0, 0, 1) ::
  (97, .iload_n 2, 1, 2, 0, 0) ::
  (98, .invokevirtual 313, 3, 196, 22, 0) ::
  (101, .return_, 1, 0, 0, 0) ::
  []
def r_199_38 : List ax_E :=
  (38, .iload_n 2, 1, 2, 0, 0) ::
  (39, .bipush 13, 2, 0, 0, 13) ::
  (41, .if_icmp .ge 20, 3, 61, 0, 0) ::
  (44, .aload_n 0, 1, 0, 0, 0) ::
  (45, .iload_n 2, 1, 2, 0, 0) ::
  (46, .invokestatic 316, 3, 189, 0, 3) ::
  (49, .invokevirtual 285, 3, 194, 22, 1) ::
  (52, .ifCond .ne 9, 3, 61, 0, 0) ::
  (55, .iinc 2 1, 3, 2, 0, 1) ::
  (58, .goto (-20), 3, 38, 0, 0) ::
  (61, .jsr 0, 0, 7, 0, 0) ::
  r_199_61
def r_199 : List ax_E :=
  (0, .aload_n 0, 1, 0, 0, 0) ::
  (1, .invokevirtual 282, 3, 192, 22, 0) ::
  (4, .aload_n 0, 1, 0, 0, 0) ::
  (5, .getfield 262, 3, 11, 18, 0) ::
  (8, .istore_n 1, 1, 1, 0, 0) ::
  (9, .aload_n 0, 1, 0, 0, 0) ::
  (10, .invokevirtual 302, 3, 193, 22, 1) ::
  (13, .ifCond .eq 23, 3, 36, 0, 0) ::
  (16, .aload_n 0, 1, 0, 0, 0) ::
  (17, .ldc_w 306, 3, 0, 0, 99999) ::
  (20, .invokevirtual 307, 3, 198, 22, 1) ::
  (23, .istore_n 2, 1, 2, 0, 0) ::
  (24, .aload_n 0, 1, 0, 0, 0) ::
  (25, .iload_n 1, 1, 1, 0, 0) ::
  (26, .invokevirtual 310, 3, 197, 22, 0) ::
  (29, .aload_n 0, 1, 0, 0, 0) ::
  (30, .iconst 0, 1, 0, 0, 0) ::
  (31, .iload_n 2, 1, 2, 0, 0) ::
  (32, .invokevirtual 313, 3, 196, 22, 0) ::
  (35, .return_, 1, 0, 0, 0) ::
  (36, .iconst 0, 1, 0, 0, 0) ::
  (37, .istore_n 2, 1, 2, 0, 0) ::
  (38, .jsr 0, 0, 7, 0, 0) ::
  r_199_38
/-- 200 BlackSunModel.sum()V -/
def r_200_47 : List ax_E :=
  (47, .istore_n 1, 1, 1, 0, 0) ::
  (48, .aload_n 0, 1, 0, 0, 0) ::
  (49, .dup, 1, 0, 0, 0) ::
  (50, .getfield 262, 3, 11, 18, 0) ::
  (53, .iconst 1, 1, 0, 0, 1) ::
  (54, .iadd, 1, 0, 0, 0) ::
  (55, .putfield 262, 3, 11, 18, 0) ::
  (58, .aload_n 0, 1, 0, 0, 0) ::
  (59, .invokevirtual 320, 3, 199, 22, 0) ::
  (62, .aload_n 0, 1, 0, 0, 0) ::
  (63, .iload_n 1, 1, 1, 0, 0) ::
  (64, .iconst 0, 1, 0, 0, 0) ::
  (65, .invokevirtual 313, 3, 196, 22, 0) ::
  (68, .aload_n 0, 1, 0, 0, 0) ::
  (69, .invokevirtual 282, 3, 192, 22, 0) ::
  (72, .goto (-64), 3, 8, 0, 0) ::
  (75, .return_, 1, 0, 0, 0) ::
  []
def r_200_8 : List ax_E :=
  (8, .aload_n 0, 1, 0, 0, 0) ::
  (9, .getfield 259, 3, 11, 19, 0) ::
  (12, .ifCond .ne 63, 3, 75, 0, 0) ::
  (15, .aload_n 0, 1, 0, 0, 0) ::
  (16, .invokevirtual 265, 3, 191, 22, 1) ::
  (19, .bipush 43, 2, 0, 0, 43) ::
  (21, .if_icmp .eq 12, 3, 33, 0, 0) ::
  (24, .aload_n 0, 1, 0, 0, 0) ::
  (25, .invokevirtual 265, 3, 191, 22, 1) ::
  (28, .bipush 45, 2, 0, 0, 45) ::
  (30, .if_icmp .ne 45, 3, 75, 0, 0) ::
  (33, .aload_n 0, 1, 0, 0, 0) ::
  (34, .invokevirtual 265, 3, 191, 22, 1) ::
  (37, .bipush 43, 2, 0, 0, 43) ::
  (39, .if_icmp .ne 7, 3, 46, 0, 0) ::
  (42, .iconst 2, 1, 0, 0, 2) ::
  (43, .goto 4, 3, 47, 0, 0) ::
  (46, .iconst 3, 1, 0, 0, 3) ::
  (47, .jsr 0, 0, 1, 0, 0) ::
  r_200_47
def r_200 : List ax_E :=
  (0, .aload_n 0, 1, 0, 0, 0) ::
  (1, .invokevirtual 320, 3, 199, 22, 0) ::
  (4, .aload_n 0, 1, 0, 0, 0) ::
  (5, .invokevirtual 282, 3, 192, 22, 0) ::
  (8, .jsr 0, 0, 1, 0, 0) ::
  r_200_8
/-- 201 BlackSunModel.compared()V -/
def r_201_90 : List ax_E :=
  (90, .iadd, 1, 0, 0, 0) ::
  (91, .putfield 262, 3, 11, 18, 0) ::
  (94, .aload_n 0, 1, 0, 0, 0) ::
  (95, .invokevirtual 323, 3, 200, 22, 0) ::
  (98, .aload_n 0, 1, 0, 0, 0) ::
  (99, .iload_n 1, 1, 1, 0, 0) ::
  (100, .bipush 61, 2, 0, 0, 61) ::
  (102, .if_icmp .ne 8, 3, 110, 0, 0) ::
  (105, .bipush 6, 2, 0, 0, 6) ::
  (107, .goto 32, 3, 139, 0, 0) ::
  (110, .iload_n 1, 1, 1, 0, 0) ::
  (111, .bipush 60, 2, 0, 0, 60) ::
  (113, .if_icmp .ne 15, 3, 128, 0, 0) ::
  (116, .iload_n 2, 1, 2, 0, 0) ::
  (117, .ifCond .eq 7, 3, 124, 0, 0) ::
  (120, .iconst 5, 1, 0, 0, 5) ::
  (121, .goto 18, 3, 139, 0, 0) ::
  (124, .iconst 4, 1, 0, 0, 4) ::
  (125, .goto 14, 3, 139, 0, 0) ::
  (128, .iload_n 2, 1, 2, 0, 0) ::
  (129, .ifCond .eq 8, 3, 137, 0, 0) ::
  (132, .bipush 7, 2, 0, 0, 7) ::
  (134, .goto 5, 3, 139, 0, 0) ::
  (137, .bipush 8, 2, 0, 0, 8) ::
  (139, .iconst 0, 1, 0, 0, 0) ::
  (140, .invokevirtual 313, 3, 196, 22, 0) ::
  (143, .return_, 1, 0, 0, 0) ::
  []
def r_201_37 : List ax_E :=
  (37, .aload_n 0, 1, 0, 0, 0) ::
  (38, .aload_n 0, 1, 0, 0, 0) ::
  (39, .getfield 262, 3, 11, 18, 0) ::
  (42, .invokevirtual 310, 3, 197, 22, 0) ::
  (45, .aload_n 0, 1, 0, 0, 0) ::
  (46, .dup, 1, 0, 0, 0) ::
  (47, .getfield 262, 3, 11, 18, 0) ::
  (50, .iconst 1, 1, 0, 0, 1) ::
  (51, .iadd, 1, 0, 0, 0) ::
  (52, .putfield 262, 3, 11, 18, 0) ::
  (55, .iload_n 1, 1, 1, 0, 0) ::
  (56, .bipush 61, 2, 0, 0, 61) ::
  (58, .if_icmp .eq 16, 3, 74, 0, 0) ::
  (61, .aload_n 0, 1, 0, 0, 0) ::
  (62, .invokevirtual 265, 3, 191, 22, 1) ::
  (65, .bipush 61, 2, 0, 0, 61) ::
  (67, .if_icmp .ne 7, 3, 74, 0, 0) ::
  (70, .iconst 1, 1, 0, 0, 1) ::
  (71, .goto 4, 3, 75, 0, 0) ::
  (74, .iconst 0, 1, 0, 0, 0) ::
  (75, .istore_n 2, 1, 2, 0, 0) ::
  (76, .aload_n 0, 1, 0, 0, 0) ::
  (77, .dup, 1, 0, 0, 0) ::
  (78, .getfield 262, 3, 11, 18, 0) ::
  (81, .iload_n 2, 1, 2, 0, 0) ::
  (82, .ifCond .eq 7, 3, 89, 0, 0) ::
  (85, .iconst 1, 1, 0, 0, 1) ::
  (86, .goto 4, 3, 90, 0, 0) ::
  (89, .iconst 0, 1, 0, 0, 0) ::
  (90, .jsr 0, 0, 7, 0, 0) ::
  r_201_90
def r_201 : List ax_E :=
  (0, .aload_n 0, 1, 0, 0, 0) ::
  (1, .invokevirtual 323, 3, 200, 22, 0) ::
  (4, .aload_n 0, 1, 0, 0, 0) ::
  (5, .invokevirtual 265, 3, 191, 22, 1) ::
  (8, .istore_n 1, 1, 1, 0, 0) ::
  (9, .iload_n 1, 1, 1, 0, 0) ::
  (10, .bipush 60, 2, 0, 0, 60) ::
  (12, .if_icmp .eq 25, 3, 37, 0, 0) ::
  (15, .iload_n 1, 1, 1, 0, 0) ::
  (16, .bipush 61, 2, 0, 0, 61) ::
  (18, .if_icmp .eq 19, 3, 37, 0, 0) ::
  (21, .iload_n 1, 1, 1, 0, 0) ::
  (22, .bipush 62, 2, 0, 0, 62) ::
  (24, .if_icmp .eq 13, 3, 37, 0, 0) ::
  (27, .aload_n 0, 1, 0, 0, 0) ::
  (28, .iconst 0, 1, 0, 0, 0) ::
  (29, .aload_n 0, 1, 0, 0, 0) ::
  (30, .getfield 262, 3, 11, 18, 0) ::
  (33, .invokevirtual 298, 3, 190, 22, 0) ::
  (36, .return_, 1, 0, 0, 0) ::
  (37, .jsr 0, 0, 3, 0, 0) ::
  r_201_37
/-- 202 BlackSunModel.top()I -/
def r_202 : List ax_E :=
  (0, .aload_n 0, 1, 0, 0, 0) ::
  (1, .getfield 326, 3, 11, 24, 0) ::
  (4, .ifCond .ne 7, 3, 11, 0, 0) ::
  (7, .iconst (-1), 1, 0, 0, (-1)) ::
  (8, .goto 14, 3, 22, 0, 0) ::
  (11, .aload_n 0, 1, 0, 0, 0) ::
  (12, .getfield 74, 3, 11, 35, 0) ::
  (15, .aload_n 0, 1, 0, 0, 0) ::
  (16, .getfield 326, 3, 11, 24, 0) ::
  (19, .iconst 1, 1, 0, 0, 1) ::
  (20, .isub, 1, 0, 0, 0) ::
  (21, .iaload, 1, 0, 0, 0) ::
  (22, .ireturn, 1, 0, 0, 0) ::
  []
/-- 203 BlackSunModel.opens(I)V -/
def r_203_30 : List ax_E :=
  (30, .aload_n 0, 1, 0, 0, 0) ::
  (31, .dup, 1, 0, 0, 0) ::
  (32, .getfield 329, 3, 11, 22, 0) ::
  (35, .iconst 1, 1, 0, 0, 1) ::
  (36, .iadd, 1, 0, 0, 0) ::
  (37, .putfield 329, 3, 11, 22, 0) ::
  (40, .aload_n 0, 1, 0, 0, 0) ::
  (41, .getfield 74, 3, 11, 35, 0) ::
  (44, .aload_n 0, 1, 0, 0, 0) ::
  (45, .getfield 326, 3, 11, 24, 0) ::
  (48, .iload_n 1, 1, 1, 0, 0) ::
  (49, .iastore, 1, 0, 0, 0) ::
  (50, .aload_n 0, 1, 0, 0, 0) ::
  (51, .dup, 1, 0, 0, 0) ::
  (52, .getfield 326, 3, 11, 24, 0) ::
  (55, .iconst 1, 1, 0, 0, 1) ::
  (56, .iadd, 1, 0, 0, 0) ::
  (57, .putfield 326, 3, 11, 24, 0) ::
  (60, .return_, 1, 0, 0, 0) ::
  []
def r_203 : List ax_E :=
  (0, .iload_n 1, 1, 1, 0, 0) ::
  (1, .bipush 9, 2, 0, 0, 9) ::
  (3, .if_icmp .eq 9, 3, 12, 0, 0) ::
  (6, .iload_n 1, 1, 1, 0, 0) ::
  (7, .bipush 12, 2, 0, 0, 12) ::
  (9, .if_icmp .ne 31, 3, 40, 0, 0) ::
  (12, .aload_n 0, 1, 0, 0, 0) ::
  (13, .getfield 329, 3, 11, 22, 0) ::
  (16, .bipush 10, 2, 0, 0, 10) ::
  (18, .if_icmp .ne 12, 3, 30, 0, 0) ::
  (21, .aload_n 0, 1, 0, 0, 0) ::
  (22, .iconst 2, 1, 0, 0, 2) ::
  (23, .aload_n 0, 1, 0, 0, 0) ::
  (24, .getfield 262, 3, 11, 18, 0) ::
  (27, .invokevirtual 298, 3, 190, 22, 0) ::
  (30, .jsr 0, 0, 3, 0, 0) ::
  r_203_30
/-- 204 BlackSunModel.answers(I)V -/
def r_204_0 : List ax_E :=
  (0, .aload_n 0, 1, 0, 0, 0) ::
  (1, .invokevirtual 332, 3, 202, 22, 1) ::
  (4, .iload_n 1, 1, 1, 0, 0) ::
  (5, .if_icmp .ne 49, 3, 54, 0, 0) ::
  (8, .aload_n 0, 1, 0, 0, 0) ::
  (9, .getfield 259, 3, 11, 19, 0) ::
  (12, .ifCond .ne 42, 3, 54, 0, 0) ::
  (15, .aload_n 0, 1, 0, 0, 0) ::
  (16, .iload_n 1, 1, 1, 0, 0) ::
  (17, .iconst 0, 1, 0, 0, 0) ::
  (18, .invokevirtual 313, 3, 196, 22, 0) ::
  (21, .aload_n 0, 1, 0, 0, 0) ::
  (22, .dup, 1, 0, 0, 0) ::
  (23, .getfield 326, 3, 11, 24, 0) ::
  (26, .iconst 1, 1, 0, 0, 1) ::
  (27, .isub, 1, 0, 0, 0) ::
  (28, .putfield 326, 3, 11, 24, 0) ::
  (31, .aload_n 0, 1, 0, 0, 0) ::
  (32, .dup, 1, 0, 0, 0) ::
  (33, .getfield 329, 3, 11, 22, 0) ::
  (36, .iload_n 1, 1, 1, 0, 0) ::
  (37, .bipush 9, 2, 0, 0, 9) ::
  (39, .if_icmp .ne 7, 3, 46, 0, 0) ::
  (42, .iconst 1, 1, 0, 0, 1) ::
  (43, .goto 4, 3, 47, 0, 0) ::
  (46, .iconst 0, 1, 0, 0, 0) ::
  (47, .isub, 1, 0, 0, 0) ::
  (48, .putfield 329, 3, 11, 22, 0) ::
  (51, .goto (-51), 3, 0, 0, 0) ::
  (54, .return_, 1, 0, 0, 0) ::
  []
def r_204 : List ax_E :=
  (0, .jsr 0, 0, 3, 0, 0) ::
  r_204_0
/-- 205 BlackSunModel.fact()Z -/
def r_205 : List ax_E :=
  (0, .aload_n 0, 1, 0, 0, 0) ::
  (1, .invokevirtual 282, 3, 192, 22, 0) ::
  (4, .aload_n 0, 1, 0, 0, 0) ::
  (5, .ldc_w 335, 3, 14, 1, 0) ::
  (8, .invokevirtual 285, 3, 194, 22, 1) ::
  (11, .ifCond .eq 21, 3, 32, 0, 0) ::
  (14, .aload_n 0, 1, 0, 0, 0) ::
  (15, .bipush 9, 2, 0, 0, 9) ::
  (17, .invokevirtual 337, 3, 203, 22, 0) ::
  (20, .aload_n 0, 1, 0, 0, 0) ::
  (21, .dup, 1, 0, 0, 0) ::
  (22, .getfield 262, 3, 11, 18, 0) ::
  (25, .iconst 3, 1, 0, 0, 3) ::
  (26, .iadd, 1, 0, 0, 0) ::
  (27, .putfield 262, 3, 11, 18, 0) ::
  (30, .iconst 0, 1, 0, 0, 0) ::
  (31, .ireturn, 1, 1, 0, 0) ::
  (32, .aload_n 0, 1, 0, 0, 0) ::
  (33, .invokevirtual 265, 3, 191, 22, 1) ::
  (36, .bipush 91, 2, 0, 0, 91) ::
  (38, .if_icmp .ne 21, 3, 59, 0, 0) ::
  (41, .aload_n 0, 1, 0, 0, 0) ::
  (42, .bipush 12, 2, 0, 0, 12) ::
  (44, .invokevirtual 337, 3, 203, 22, 0) ::
  (47, .aload_n 0, 1, 0, 0, 0) ::
  (48, .dup, 1, 0, 0, 0) ::
  (49, .getfield 262, 3, 11, 18, 0) ::
  (52, .iconst 1, 1, 0, 0, 1) ::
  (53, .iadd, 1, 0, 0, 0) ::
  (54, .putfield 262, 3, 11, 18, 0) ::
  (57, .iconst 0, 1, 0, 0, 0) ::
  (58, .ireturn, 1, 1, 0, 0) ::
  (59, .aload_n 0, 1, 0, 0, 0) ::
  (60, .invokevirtual 340, 3, 201, 22, 0) ::
  (63, .iconst 1, 1, 0, 0, 1) ::
  (64, .ireturn, 1, 1, 0, 0) ::
  []
/-- 206 BlackSunModel.test()V -/
def r_206_164 : List ax_E :=
  (164, .aload_n 0, 1, 0, 0, 0) ::
  (165, .dup, 1, 0, 0, 0) ::
  (166, .getfield 262, 3, 11, 18, 0) ::
  (169, .iconst 1, 1, 0, 0, 1) ::
  (170, .iadd, 1, 0, 0, 0) ::
  (171, .putfield 262, 3, 11, 18, 0) ::
  (174, .aload_n 0, 1, 0, 0, 0) ::
  (175, .dup, 1, 0, 0, 0) ::
  (176, .getfield 326, 3, 11, 24, 0) ::
  (179, .iconst 1, 1, 0, 0, 1) ::
  (180, .isub, 1, 0, 0, 0) ::
  (181, .putfield 326, 3, 11, 24, 0) ::
  (184, .aload_n 0, 1, 0, 0, 0) ::
  (185, .dup, 1, 0, 0, 0) ::
  (186, .getfield 329, 3, 11, 22, 0) ::
  (189, .iconst 1, 1, 0, 0, 1) ::
  (190, .isub, 1, 0, 0, 0) ::
  (191, .putfield 329, 3, 11, 22, 0) ::
  (194, .goto 5, 3, 199, 0, 0) ::
  (197, .iconst 0, 1, 0, 0, 0) ::
  (198, .istore_n 2, 1, 2, 0, 0) ::
  (199, .goto (-190), 3, 9, 0, 0) ::
  (202, .return_, 1, 0, 0, 0) ::
  []
def r_206_105 : List ax_E :=
  (105, .invokevirtual 337, 3, 203, 22, 0) ::
  (108, .aload_n 0, 1, 0, 0, 0) ::
  (109, .dup, 1, 0, 0, 0) ::
  (110, .getfield 262, 3, 11, 18, 0) ::
  (113, .iload_n 3, 1, 3, 0, 0) ::
  (114, .ifCond .eq 7, 3, 121, 0, 0) ::
  (117, .iconst 3, 1, 0, 0, 3) ::
  (118, .goto 4, 3, 122, 0, 0) ::
  (121, .iconst 2, 1, 0, 0, 2) ::
  (122, .iadd, 1, 0, 0, 0) ::
  (123, .putfield 262, 3, 11, 18, 0) ::
  (126, .iconst 1, 1, 0, 0, 1) ::
  (127, .istore_n 1, 1, 1, 0, 0) ::
  (128, .goto 71, 3, 199, 0, 0) ::
  (131, .aload_n 0, 1, 0, 0, 0) ::
  (132, .bipush 11, 2, 0, 0, 11) ::
  (134, .invokevirtual 346, 3, 204, 22, 0) ::
  (137, .aload_n 0, 1, 0, 0, 0) ::
  (138, .invokevirtual 332, 3, 202, 22, 1) ::
  (141, .bipush 12, 2, 0, 0, 12) ::
  (143, .if_icmp .ne 54, 3, 197, 0, 0) ::
  (146, .aload_n 0, 1, 0, 0, 0) ::
  (147, .invokevirtual 265, 3, 191, 22, 1) ::
  (150, .bipush 93, 2, 0, 0, 93) ::
  (152, .if_icmp .eq 12, 3, 164, 0, 0) ::
  (155, .aload_n 0, 1, 0, 0, 0) ::
  (156, .iconst 0, 1, 0, 0, 0) ::
  (157, .aload_n 0, 1, 0, 0, 0) ::
  (158, .getfield 262, 3, 11, 18, 0) ::
  (161, .invokevirtual 298, 3, 190, 22, 0) ::
  (164, .jsr 0, 0, 7, 0, 0) ::
  r_206_164
def r_206_82 : List ax_E :=
  (82, .iload 4, 2, 4, 0, 0) ::
  (84, .ifCond .eq 9, 3, 93, 0, 0) ::
  (87, .aload_n 0, 1, 0, 0, 0) ::
  (88, .bipush 11, 2, 0, 0, 11) ::
  (90, .invokevirtual 346, 3, 204, 22, 0) ::
  (93, .aload_n 0, 1, 0, 0, 0) ::
  (94, .iload_n 3, 1, 3, 0, 0) ::
  (95, .ifCond .eq 8, 3, 103, 0, 0) ::
  (98, .bipush 10, 2, 0, 0, 10) ::
  (100, .goto 5, 3, 105, 0, 0) ::
  (103, .bipush 11, 2, 0, 0, 11) ::
  (105, .jsr 0, 0, 13, 0, 0) ::
  r_206_105
def r_206_9 : List ax_E :=
  (9, .iload_n 2, 1, 2, 0, 0) ::
  (10, .ifCond .eq 192, 3, 202, 0, 0) ::
  (13, .aload_n 0, 1, 0, 0, 0) ::
  (14, .getfield 259, 3, 11, 19, 0) ::
  (17, .ifCond .ne 185, 3, 202, 0, 0) ::
  (20, .iload_n 1, 1, 1, 0, 0) ::
  (21, .ifCond .eq 19, 3, 40, 0, 0) ::
  (24, .aload_n 0, 1, 0, 0, 0) ::
  (25, .invokevirtual 343, 3, 205, 22, 1) ::
  (28, .ifCond .ne 7, 3, 35, 0, 0) ::
  (31, .iconst 1, 1, 0, 0, 1) ::
  (32, .goto 4, 3, 36, 0, 0) ::
  (35, .iconst 0, 1, 0, 0, 0) ::
  (36, .istore_n 1, 1, 1, 0, 0) ::
  (37, .goto (-28), 3, 9, 0, 0) ::
  (40, .aload_n 0, 1, 0, 0, 0) ::
  (41, .bipush 9, 2, 0, 0, 9) ::
  (43, .invokevirtual 346, 3, 204, 22, 0) ::
  (46, .aload_n 0, 1, 0, 0, 0) ::
  (47, .invokevirtual 282, 3, 192, 22, 0) ::
  (50, .aload_n 0, 1, 0, 0, 0) ::
  (51, .ldc_w 348, 3, 27, 1, 0) ::
  (54, .invokevirtual 285, 3, 194, 22, 1) ::
  (57, .istore_n 3, 1, 3, 0, 0) ::
  (58, .aload_n 0, 1, 0, 0, 0) ::
  (59, .ldc_w 350, 3, 28, 1, 0) ::
  (62, .invokevirtual 285, 3, 194, 22, 1) ::
  (65, .istore 4, 2, 4, 0, 0) ::
  (67, .aload_n 0, 1, 0, 0, 0) ::
  (68, .bipush 10, 2, 0, 0, 10) ::
  (70, .invokevirtual 346, 3, 204, 22, 0) ::
  (73, .iload_n 3, 1, 3, 0, 0) ::
  (74, .ifCond .ne 8, 3, 82, 0, 0) ::
  (77, .iload 4, 2, 4, 0, 0) ::
  (79, .ifCond .eq 52, 3, 131, 0, 0) ::
  (82, .jsr 0, 0, 29, 0, 0) ::
  r_206_82
def r_206 : List ax_E :=
  (0, .aload_n 0, 1, 0, 0, 0) ::
  (1, .iconst 0, 1, 0, 0, 0) ::
  (2, .putfield 326, 3, 11, 24, 0) ::
  (5, .iconst 1, 1, 0, 0, 1) ::
  (6, .istore_n 1, 1, 1, 0, 0) ::
  (7, .iconst 1, 1, 0, 0, 1) ::
  (8, .istore_n 2, 1, 2, 0, 0) ::
  (9, .jsr 0, 0, 7, 0, 0) ::
  r_206_9
end
section
/-! rows of the methods, printed by wip/gen/rows.py -/
/-- 207 BlackSunModel.term(Z)I -/
def r_207_75 : List ax_E :=
  (75, .aload_n 0, 1, 0, 0, 0) ::
  (76, .iconst 5, 1, 0, 0, 5) ::
  (77, .aload_n 0, 1, 0, 0, 0) ::
  (78, .getfield 262, 3, 11, 18, 0) ::
  (81, .invokevirtual 298, 3, 190, 22, 0) ::
  (84, .aload_n 0, 1, 0, 0, 0) ::
  (85, .dup, 1, 0, 0, 0) ::
  (86, .getfield 262, 3, 11, 18, 0) ::
  (89, .iload_n 2, 1, 2, 0, 0) ::
  (90, .invokestatic 352, 3, 188, 0, 3) ::
  (93, .invokevirtual 273, 3, 0, 90, 1) ::
  (96, .iadd, 1, 0, 0, 0) ::
  (97, .putfield 262, 3, 11, 18, 0) ::
  (100, .iload_n 2, 1, 2, 0, 0) ::
  (101, .ireturn, 1, 0, 0, 0) ::
  []
def r_207_29 : List ax_E :=
  (29, .iload_n 2, 1, 2, 0, 0) ::
  (30, .bipush 6, 2, 0, 0, 6) ::
  (32, .if_icmp .ne 14, 3, 46, 0, 0) ::
  (35, .aload_n 0, 1, 0, 0, 0) ::
  (36, .iconst 0, 1, 0, 0, 0) ::
  (37, .aload_n 0, 1, 0, 0, 0) ::
  (38, .getfield 262, 3, 11, 18, 0) ::
  (41, .invokevirtual 298, 3, 190, 22, 0) ::
  (44, .iconst 0, 1, 0, 0, 0) ::
  (45, .ireturn, 1, 0, 0, 0) ::
  (46, .aload_n 0, 1, 0, 0, 0) ::
  (47, .getfield 68, 3, 11, 33, 0) ::
  (50, .bipush 6, 2, 0, 0, 6) ::
  (52, .aload_n 0, 1, 0, 0, 0) ::
  (53, .getfield 289, 3, 11, 20, 0) ::
  (56, .imul, 1, 0, 0, 0) ::
  (57, .iload_n 2, 1, 2, 0, 0) ::
  (58, .iadd, 1, 0, 0, 0) ::
  (59, .iaload, 1, 0, 0, 0) ::
  (60, .ifCond .ne 15, 3, 75, 0, 0) ::
  (63, .iload_n 1, 1, 1, 0, 0) ::
  (64, .ifCond .eq 20, 3, 84, 0, 0) ::
  (67, .aload_n 0, 1, 0, 0, 0) ::
  (68, .getfield 355, 3, 11, 25, 0) ::
  (71, .iconst 3, 1, 0, 0, 3) ::
  (72, .if_icmp .ne 12, 3, 84, 0, 0) ::
  (75, .jsr 0, 0, 5, 0, 0) ::
  r_207_75
def r_207_6 : List ax_E :=
  (6, .iload_n 2, 1, 2, 0, 0) ::
  (7, .bipush 6, 2, 0, 0, 6) ::
  (9, .if_icmp .ge 20, 3, 29, 0, 0) ::
  (12, .aload_n 0, 1, 0, 0, 0) ::
  (13, .iload_n 2, 1, 2, 0, 0) ::
  (14, .invokestatic 352, 3, 188, 0, 3) ::
  (17, .invokevirtual 285, 3, 194, 22, 1) ::
  (20, .ifCond .ne 9, 3, 29, 0, 0) ::
  (23, .iinc 2 1, 3, 2, 0, 1) ::
  (26, .goto (-20), 3, 6, 0, 0) ::
  (29, .jsr 0, 0, 7, 0, 0) ::
  r_207_29
def r_207 : List ax_E :=
  (0, .aload_n 0, 1, 0, 0, 0) ::
  (1, .invokevirtual 282, 3, 192, 22, 0) ::
  (4, .iconst 0, 1, 0, 0, 0) ::
  (5, .istore_n 2, 1, 2, 0, 0) ::
  (6, .jsr 0, 0, 7, 0, 0) ::
  r_207_6
/-- 208 BlackSunModel.names(II)V -/
def r_208 : List ax_E :=
  (0, .aload_n 0, 1, 0, 0, 0) ::
  (1, .getfield 259, 3, 11, 19, 0) ::
  (4, .ifCond .ne 37, 3, 41, 0, 0) ::
  (7, .aload_n 0, 1, 0, 0, 0) ::
  (8, .getfield 68, 3, 11, 33, 0) ::
  (11, .bipush 6, 2, 0, 0, 6) ::
  (13, .aload_n 0, 1, 0, 0, 0) ::
  (14, .getfield 289, 3, 11, 20, 0) ::
  (17, .imul, 1, 0, 0, 0) ::
  (18, .iload_n 1, 1, 1, 0, 0) ::
  (19, .iadd, 1, 0, 0, 0) ::
  (20, .iload_n 2, 1, 2, 0, 0) ::
  (21, .iastore, 1, 0, 0, 0) ::
  (22, .aload_n 0, 1, 0, 0, 0) ::
  (23, .dup, 1, 0, 0, 0) ::
  (24, .getfield 355, 3, 11, 25, 0) ::
  (27, .iload_n 2, 1, 2, 0, 0) ::
  (28, .iconst 1, 1, 0, 0, 1) ::
  (29, .if_icmp .ne 7, 3, 36, 0, 0) ::
  (32, .iconst 1, 1, 0, 0, 1) ::
  (33, .goto 4, 3, 37, 0, 0) ::
  (36, .iconst 0, 1, 0, 0, 0) ::
  (37, .iadd, 1, 0, 0, 0) ::
  (38, .putfield 355, 3, 11, 25, 0) ::
  (41, .return_, 1, 0, 0, 0) ::
  []
/-- 209 BlackSunModel.clause(I)V -/
def r_209_345 : List ax_E :=
  (345, .iadd, 1, 0, 0, 0) ::
  (346, .putfield 262, 3, 11, 18, 0) ::
  (349, .aload_n 0, 1, 0, 0, 0) ::
  (350, .ldc_w 306, 3, 0, 0, 99999) ::
  (353, .invokevirtual 307, 3, 198, 22, 1) ::
  (356, .istore 10, 2, 10, 0, 0) ::
  (358, .aload_n 0, 1, 0, 0, 0) ::
  (359, .getfield 71, 3, 11, 34, 0) ::
  (362, .bipush 6, 2, 0, 0, 6) ::
  (364, .aload_n 0, 1, 0, 0, 0) ::
  (365, .getfield 289, 3, 11, 20, 0) ::
  (368, .imul, 1, 0, 0, 0) ::
  (369, .iload 8, 2, 8, 0, 0) ::
  (371, .iadd, 1, 0, 0, 0) ::
  (372, .iload 9, 2, 9, 0, 0) ::
  (374, .ifCond .eq 9, 3, 383, 0, 0) ::
  (377, .iload 10, 2, 10, 0, 0) ::
  (379, .ineg, 1, 0, 0, 0) ::
  (380, .goto 5, 3, 385, 0, 0) ::
  (383, .iload 10, 2, 10, 0, 0) ::
  (385, .iastore, 1, 0, 0, 0) ::
  (386, .return_, 1, 0, 0, 0) ::
  []
def r_209_295 : List ax_E :=
  (295, .invokevirtual 378, 3, 208, 22, 0) ::
  (298, .iload 4, 2, 4, 0, 0) ::
  (300, .ifCond .eq 86, 3, 386, 0, 0) ::
  (303, .aload_n 0, 1, 0, 0, 0) ::
  (304, .getfield 259, 3, 11, 19, 0) ::
  (307, .ifCond .ne 79, 3, 386, 0, 0) ::
  (310, .aload_n 0, 1, 0, 0, 0) ::
  (311, .invokevirtual 282, 3, 192, 22, 0) ::
  (314, .aload_n 0, 1, 0, 0, 0) ::
  (315, .invokevirtual 265, 3, 191, 22, 1) ::
  (318, .bipush 45, 2, 0, 0, 45) ::
  (320, .if_icmp .ne 7, 3, 327, 0, 0) ::
  (323, .iconst 1, 1, 0, 0, 1) ::
  (324, .goto 4, 3, 328, 0, 0) ::
  (327, .iconst 0, 1, 0, 0, 0) ::
  (328, .istore 9, 2, 9, 0, 0) ::
  (330, .aload_n 0, 1, 0, 0, 0) ::
  (331, .dup, 1, 0, 0, 0) ::
  (332, .getfield 262, 3, 11, 18, 0) ::
  (335, .iload 9, 2, 9, 0, 0) ::
  (337, .ifCond .eq 7, 3, 344, 0, 0) ::
  (340, .iconst 1, 1, 0, 0, 1) ::
  (341, .goto 4, 3, 345, 0, 0) ::
  (344, .iconst 0, 1, 0, 0, 0) ::
  (345, .jsr 0, 0, 769, 0, 0) ::
  r_209_345
def r_209_150 : List ax_E :=
  (150, .iadd, 1, 0, 0, 0) ::
  (151, .putfield 262, 3, 11, 18, 0) ::
  (154, .iload 7, 2, 7, 0, 0) ::
  (156, .ifCond .eq 25, 3, 181, 0, 0) ::
  (159, .aload_n 0, 1, 0, 0, 0) ::
  (160, .invokevirtual 282, 3, 192, 22, 0) ::
  (163, .aload_n 0, 1, 0, 0, 0) ::
  (164, .getfield 65, 3, 11, 32, 0) ::
  (167, .aload_n 0, 1, 0, 0, 0) ::
  (168, .getfield 289, 3, 11, 20, 0) ::
  (171, .aload_n 0, 1, 0, 0, 0) ::
  (172, .bipush 7, 2, 0, 0, 7) ::
  (174, .invokevirtual 307, 3, 198, 22, 1) ::
  (177, .iastore, 1, 0, 0, 0) ::
  (178, .goto 208, 3, 386, 0, 0) ::
  (181, .iload 6, 2, 6, 0, 0) ::
  (183, .ifCond .eq 84, 3, 267, 0, 0) ::
  (186, .aload_n 0, 1, 0, 0, 0) ::
  (187, .ldc_w 366, 3, 13, 1, 0) ::
  (190, .invokevirtual 368, 3, 195, 22, 1) ::
  (193, .ifCond .ne 13, 3, 206, 0, 0) ::
  (196, .aload_n 0, 1, 0, 0, 0) ::
  (197, .iconst 0, 1, 0, 0, 0) ::
  (198, .aload_n 0, 1, 0, 0, 0) ::
  (199, .getfield 262, 3, 11, 18, 0) ::
  (202, .invokevirtual 298, 3, 190, 22, 0) ::
  (205, .return_, 1, 0, 0, 0) ::
  (206, .bipush 12, 2, 0, 0, 12) ::
  (208, .aload_n 0, 1, 0, 0, 0) ::
  (209, .getfield 289, 3, 11, 20, 0) ::
  (212, .imul, 1, 0, 0, 0) ::
  (213, .aload_n 0, 1, 0, 0, 0) ::
  (214, .getfield 62, 3, 11, 31, 0) ::
  (217, .aload_n 0, 1, 0, 0, 0) ::
  (218, .getfield 289, 3, 11, 20, 0) ::
  (221, .iaload, 1, 0, 0, 0) ::
  (222, .iadd, 1, 0, 0, 0) ::
  (223, .istore 8, 2, 8, 0, 0) ::
  (225, .aload_n 0, 1, 0, 0, 0) ::
  (226, .getfield 56, 3, 11, 29, 0) ::
  (229, .iload 8, 2, 8, 0, 0) ::
  (231, .aload_n 0, 1, 0, 0, 0) ::
  (232, .getfield 292, 3, 11, 21, 0) ::
  (235, .iastore, 1, 0, 0, 0) ::
  (236, .aload_n 0, 1, 0, 0, 0) ::
  (237, .invokevirtual 371, 3, 206, 22, 0) ::
  (240, .aload_n 0, 1, 0, 0, 0) ::
  (241, .getfield 59, 3, 11, 30, 0) ::
  (244, .iload 8, 2, 8, 0, 0) ::
  (246, .aload_n 0, 1, 0, 0, 0) ::
  (247, .getfield 292, 3, 11, 21, 0) ::
  (250, .iastore, 1, 0, 0, 0) ::
  (251, .aload_n 0, 1, 0, 0, 0) ::
  (252, .getfield 62, 3, 11, 31, 0) ::
  (255, .aload_n 0, 1, 0, 0, 0) ::
  (256, .getfield 289, 3, 11, 20, 0) ::
  (259, .dup2, 1, 0, 0, 0) ::
  (260, .iaload, 1, 0, 0, 0) ::
  (261, .iconst 1, 1, 0, 0, 1) ::
  (262, .iadd, 1, 0, 0, 0) ::
  (263, .iastore, 1, 0, 0, 0) ::
  (264, .goto 122, 3, 386, 0, 0) ::
  (267, .aload_n 0, 1, 0, 0, 0) ::
  (268, .iload_n 3, 1, 3, 0, 0) ::
  (269, .invokevirtual 374, 3, 207, 22, 1) ::
  (272, .istore 8, 2, 8, 0, 0) ::
  (274, .aload_n 0, 1, 0, 0, 0) ::
  (275, .iload 8, 2, 8, 0, 0) ::
  (277, .iload_n 3, 1, 3, 0, 0) ::
  (278, .ifCond .eq 7, 3, 285, 0, 0) ::
  (281, .iconst 1, 1, 0, 0, 1) ::
  (282, .goto 13, 3, 295, 0, 0) ::
  (285, .iload 4, 2, 4, 0, 0) ::
  (287, .ifCond .eq 7, 3, 294, 0, 0) ::
  (290, .iconst 2, 1, 0, 0, 2) ::
  (291, .goto 4, 3, 295, 0, 0) ::
  (294, .iconst 3, 1, 0, 0, 3) ::
  (295, .jsr 0, 0, 273, 0, 0) ::
  r_209_295
def r_209_122 : List ax_E :=
  (122, .aload_n 0, 1, 0, 0, 0) ::
  (123, .dup, 1, 0, 0, 0) ::
  (124, .getfield 262, 3, 11, 18, 0) ::
  (127, .iload_n 3, 1, 3, 0, 0) ::
  (128, .ifCond .eq 7, 3, 135, 0, 0) ::
  (131, .iconst 3, 1, 0, 0, 3) ::
  (132, .goto 18, 3, 150, 0, 0) ::
  (135, .iload 4, 2, 4, 0, 0) ::
  (137, .ifCond .ne 8, 3, 145, 0, 0) ::
  (140, .iload 7, 2, 7, 0, 0) ::
  (142, .ifCond .eq 7, 3, 149, 0, 0) ::
  (145, .iconst 4, 1, 0, 0, 4) ::
  (146, .goto 4, 3, 150, 0, 0) ::
  (149, .iconst 5, 1, 0, 0, 5) ::
  (150, .jsr 0, 0, 217, 0, 0) ::
  r_209_150
def r_209_84 : List ax_E :=
  (84, .iload_n 1, 1, 1, 0, 0) ::
  (85, .bipush 12, 2, 0, 0, 12) ::
  (87, .if_icmp .ne 10, 3, 97, 0, 0) ::
  (90, .aload_n 0, 1, 0, 0, 0) ::
  (91, .iconst 4, 1, 0, 0, 4) ::
  (92, .iload_n 2, 1, 2, 0, 0) ::
  (93, .invokevirtual 298, 3, 190, 22, 0) ::
  (96, .return_, 1, 0, 0, 0) ::
  (97, .iload 7, 2, 7, 0, 0) ::
  (99, .ifCond .eq 23, 3, 122, 0, 0) ::
  (102, .aload_n 0, 1, 0, 0, 0) ::
  (103, .getfield 65, 3, 11, 32, 0) ::
  (106, .aload_n 0, 1, 0, 0, 0) ::
  (107, .getfield 289, 3, 11, 20, 0) ::
  (110, .iaload, 1, 0, 0, 0) ::
  (111, .iconst (-1), 1, 0, 0, (-1)) ::
  (112, .if_icmp .eq 10, 3, 122, 0, 0) ::
  (115, .aload_n 0, 1, 0, 0, 0) ::
  (116, .iconst 5, 1, 0, 0, 5) ::
  (117, .iload_n 2, 1, 2, 0, 0) ::
  (118, .invokevirtual 298, 3, 190, 22, 0) ::
  (121, .return_, 1, 0, 0, 0) ::
  (122, .jsr 0, 0, 217, 0, 0) ::
  r_209_122
def r_209 : List ax_E :=
  (0, .aload_n 0, 1, 0, 0, 0) ::
  (1, .invokevirtual 282, 3, 192, 22, 0) ::
  (4, .aload_n 0, 1, 0, 0, 0) ::
  (5, .getfield 262, 3, 11, 18, 0) ::
  (8, .istore_n 2, 1, 2, 0, 0) ::
  (9, .aload_n 0, 1, 0, 0, 0) ::
  (10, .ldc_w 358, 3, 8, 1, 0) ::
  (13, .invokevirtual 285, 3, 194, 22, 1) ::
  (16, .istore_n 3, 1, 3, 0, 0) ::
  (17, .aload_n 0, 1, 0, 0, 0) ::
  (18, .ldc_w 360, 3, 9, 1, 0) ::
  (21, .invokevirtual 285, 3, 194, 22, 1) ::
  (24, .istore 4, 2, 4, 0, 0) ::
  (26, .aload_n 0, 1, 0, 0, 0) ::
  (27, .ldc_w 362, 3, 10, 1, 0) ::
  (30, .invokevirtual 285, 3, 194, 22, 1) ::
  (33, .istore 5, 2, 5, 0, 0) ::
  (35, .aload_n 0, 1, 0, 0, 0) ::
  (36, .ldc_w 364, 3, 11, 1, 0) ::
  (39, .invokevirtual 285, 3, 194, 22, 1) ::
  (42, .istore 6, 2, 6, 0, 0) ::
  (44, .aload_n 0, 1, 0, 0, 0) ::
  (45, .ldc_w 257, 3, 12, 1, 0) ::
  (48, .invokevirtual 285, 3, 194, 22, 1) ::
  (51, .istore 7, 2, 7, 0, 0) ::
  (53, .iload_n 3, 1, 3, 0, 0) ::
  (54, .ifCond .ne 30, 3, 84, 0, 0) ::
  (57, .iload 4, 2, 4, 0, 0) ::
  (59, .ifCond .ne 25, 3, 84, 0, 0) ::
  (62, .iload 5, 2, 5, 0, 0) ::
  (64, .ifCond .ne 20, 3, 84, 0, 0) ::
  (67, .iload 6, 2, 6, 0, 0) ::
  (69, .ifCond .ne 15, 3, 84, 0, 0) ::
  (72, .iload 7, 2, 7, 0, 0) ::
  (74, .ifCond .ne 10, 3, 84, 0, 0) ::
  (77, .aload_n 0, 1, 0, 0, 0) ::
  (78, .iconst 0, 1, 0, 0, 0) ::
  (79, .iload_n 2, 1, 2, 0, 0) ::
  (80, .invokevirtual 298, 3, 190, 22, 0) ::
  (83, .return_, 1, 0, 0, 0) ::
  (84, .jsr 0, 0, 223, 0, 0) ::
  r_209_84
/-- 210 BlackSunModel.way()I -/
def r_210_161 : List ax_E :=
  (161, .aload_n 0, 1, 0, 0, 0) ::
  (162, .getfield 259, 3, 11, 19, 0) ::
  (165, .ifCond .ne 18, 3, 183, 0, 0) ::
  (168, .aload_n 0, 1, 0, 0, 0) ::
  (169, .getfield 262, 3, 11, 18, 0) ::
  (172, .aload_n 0, 1, 0, 0, 0) ::
  (173, .getfield 219, 3, 11, 17, 0) ::
  (176, .if_icmp .ge 7, 3, 183, 0, 0) ::
  (179, .iconst 1, 1, 0, 0, 1) ::
  (180, .goto 4, 3, 184, 0, 0) ::
  (183, .iconst 0, 1, 0, 0, 0) ::
  (184, .istore_n 2, 1, 2, 0, 0) ::
  (185, .aload_n 0, 1, 0, 0, 0) ::
  (186, .dup, 1, 0, 0, 0) ::
  (187, .getfield 262, 3, 11, 18, 0) ::
  (190, .iconst 1, 1, 0, 0, 1) ::
  (191, .iadd, 1, 0, 0, 0) ::
  (192, .putfield 262, 3, 11, 18, 0) ::
  (195, .goto (-86), 3, 109, 0, 0) ::
  (198, .aload_n 0, 1, 0, 0, 0) ::
  (199, .iconst 0, 1, 0, 0, 0) ::
  (200, .putfield 219, 3, 11, 17, 0) ::
  (203, .aload_n 0, 1, 0, 0, 0) ::
  (204, .getfield 259, 3, 11, 19, 0) ::
  (207, .ifCond .le 11, 3, 218, 0, 0) ::
  (210, .bipush (-2), 2, 0, 0, (-2)) ::
  (212, .aload_n 0, 1, 0, 0, 0) ::
  (213, .getfield 259, 3, 11, 19, 0) ::
  (216, .isub, 1, 0, 0, 0) ::
  (217, .ireturn, 1, 0, 0, 0) ::
  (218, .aload_n 0, 1, 0, 0, 0) ::
  (219, .dup, 1, 0, 0, 0) ::
  (220, .getfield 289, 3, 11, 20, 0) ::
  (223, .iconst 1, 1, 0, 0, 1) ::
  (224, .iadd, 1, 0, 0, 0) ::
  (225, .putfield 289, 3, 11, 20, 0) ::
  (228, .aload_n 0, 1, 0, 0, 0) ::
  (229, .getfield 289, 3, 11, 20, 0) ::
  (232, .iconst 1, 1, 0, 0, 1) ::
  (233, .isub, 1, 0, 0, 0) ::
  (234, .ireturn, 1, 0, 0, 0) ::
  []
def r_210_109 : List ax_E :=
  (109, .iload_n 2, 1, 2, 0, 0) ::
  (110, .ifCond .eq 88, 3, 198, 0, 0) ::
  (113, .aload_n 0, 1, 0, 0, 0) ::
  (114, .iload_n 1, 1, 1, 0, 0) ::
  (115, .invokevirtual 381, 3, 209, 22, 0) ::
  (118, .iinc 1 1, 3, 1, 0, 1) ::
  (121, .aload_n 0, 1, 0, 0, 0) ::
  (122, .invokevirtual 282, 3, 192, 22, 0) ::
  (125, .aload_n 0, 1, 0, 0, 0) ::
  (126, .getfield 259, 3, 11, 19, 0) ::
  (129, .ifCond .ne 32, 3, 161, 0, 0) ::
  (132, .aload_n 0, 1, 0, 0, 0) ::
  (133, .getfield 262, 3, 11, 18, 0) ::
  (136, .aload_n 0, 1, 0, 0, 0) ::
  (137, .getfield 219, 3, 11, 17, 0) ::
  (140, .if_icmp .ge 21, 3, 161, 0, 0) ::
  (143, .aload_n 0, 1, 0, 0, 0) ::
  (144, .invokevirtual 265, 3, 191, 22, 1) ::
  (147, .bipush 59, 2, 0, 0, 59) ::
  (149, .if_icmp .eq 12, 3, 161, 0, 0) ::
  (152, .aload_n 0, 1, 0, 0, 0) ::
  (153, .iconst 0, 1, 0, 0, 0) ::
  (154, .aload_n 0, 1, 0, 0, 0) ::
  (155, .getfield 262, 3, 11, 18, 0) ::
  (158, .invokevirtual 298, 3, 190, 22, 0) ::
  (161, .jsr 0, 0, 3, 0, 0) ::
  r_210_161
def r_210_63 : List ax_E :=
  (63, .iload_n 1, 1, 1, 0, 0) ::
  (64, .bipush 6, 2, 0, 0, 6) ::
  (66, .if_icmp .ge 39, 3, 105, 0, 0) ::
  (69, .aload_n 0, 1, 0, 0, 0) ::
  (70, .getfield 68, 3, 11, 33, 0) ::
  (73, .bipush 6, 2, 0, 0, 6) ::
  (75, .aload_n 0, 1, 0, 0, 0) ::
  (76, .getfield 289, 3, 11, 20, 0) ::
  (79, .imul, 1, 0, 0, 0) ::
  (80, .iload_n 1, 1, 1, 0, 0) ::
  (81, .iadd, 1, 0, 0, 0) ::
  (82, .iconst 0, 1, 0, 0, 0) ::
  (83, .iastore, 1, 0, 0, 0) ::
  (84, .aload_n 0, 1, 0, 0, 0) ::
  (85, .getfield 71, 3, 11, 34, 0) ::
  (88, .bipush 6, 2, 0, 0, 6) ::
  (90, .aload_n 0, 1, 0, 0, 0) ::
  (91, .getfield 289, 3, 11, 20, 0) ::
  (94, .imul, 1, 0, 0, 0) ::
  (95, .iload_n 1, 1, 1, 0, 0) ::
  (96, .iadd, 1, 0, 0, 0) ::
  (97, .iconst 0, 1, 0, 0, 0) ::
  (98, .iastore, 1, 0, 0, 0) ::
  (99, .iinc 1 1, 3, 1, 0, 1) ::
  (102, .goto (-39), 3, 63, 0, 0) ::
  (105, .iconst 0, 1, 0, 0, 0) ::
  (106, .istore_n 1, 1, 1, 0, 0) ::
  (107, .iconst 1, 1, 0, 0, 1) ::
  (108, .istore_n 2, 1, 2, 0, 0) ::
  (109, .jsr 0, 0, 7, 0, 0) ::
  r_210_109
def r_210 : List ax_E :=
  (0, .aload_n 0, 1, 0, 0, 0) ::
  (1, .getfield 289, 3, 11, 20, 0) ::
  (4, .bipush 10, 2, 0, 0, 10) ::
  (6, .if_icmp .ne 5, 3, 11, 0, 0) ::
  (9, .iconst (-1), 1, 0, 0, (-1)) ::
  (10, .ireturn, 1, 0, 0, 0) ::
  (11, .aload_n 0, 1, 0, 0, 0) ::
  (12, .iconst 0, 1, 0, 0, 0) ::
  (13, .putfield 262, 3, 11, 18, 0) ::
  (16, .aload_n 0, 1, 0, 0, 0) ::
  (17, .iconst 0, 1, 0, 0, 0) ::
  (18, .putfield 259, 3, 11, 19, 0) ::
  (21, .aload_n 0, 1, 0, 0, 0) ::
  (22, .iconst 0, 1, 0, 0, 0) ::
  (23, .putfield 292, 3, 11, 21, 0) ::
  (26, .aload_n 0, 1, 0, 0, 0) ::
  (27, .iconst 0, 1, 0, 0, 0) ::
  (28, .putfield 329, 3, 11, 22, 0) ::
  (31, .aload_n 0, 1, 0, 0, 0) ::
  (32, .iconst 0, 1, 0, 0, 0) ::
  (33, .putfield 295, 3, 11, 23, 0) ::
  (36, .aload_n 0, 1, 0, 0, 0) ::
  (37, .iconst 0, 1, 0, 0, 0) ::
  (38, .putfield 355, 3, 11, 25, 0) ::
  (41, .aload_n 0, 1, 0, 0, 0) ::
  (42, .getfield 62, 3, 11, 31, 0) ::
  (45, .aload_n 0, 1, 0, 0, 0) ::
  (46, .getfield 289, 3, 11, 20, 0) ::
  (49, .iconst 0, 1, 0, 0, 0) ::
  (50, .iastore, 1, 0, 0, 0) ::
  (51, .aload_n 0, 1, 0, 0, 0) ::
  (52, .getfield 65, 3, 11, 32, 0) ::
  (55, .aload_n 0, 1, 0, 0, 0) ::
  (56, .getfield 289, 3, 11, 20, 0) ::
  (59, .iconst (-1), 1, 0, 0, (-1)) ::
  (60, .iastore, 1, 0, 0, 0) ::
  (61, .iconst 0, 1, 0, 0, 0) ::
  (62, .istore_n 1, 1, 1, 0, 0) ::
  (63, .jsr 0, 0, 3, 0, 0) ::
  r_210_63
/-- 211 BlackSunModel.isWay(I)Z -/
def r_211 : List ax_E :=
  (0, .iload_n 1, 1, 1, 0, 0) ::
  (1, .i2l, 1, 0, 0, 0) ::
  (2, .lconst 0, 1, 0, 0, 0) ::
  (3, .aload_n 0, 1, 0, 0, 0) ::
  (4, .getfield 289, 3, 11, 20, 0) ::
  (7, .iconst 1, 1, 0, 0, 1) ::
  (8, .isub, 1, 0, 0, 0) ::
  (9, .i2l, 1, 0, 0, 0) ::
  (10, .invokestatic 160, 3, 169, 0, 1) ::
  (13, .ireturn, 1, 1, 0, 0) ::
  []
/-- 212 BlackSunModel.isTerm(I)Z -/
def r_212 : List ax_E :=
  (0, .iload_n 0, 1, 0, 0, 0) ::
  (1, .i2l, 1, 0, 0, 0) ::
  (2, .lconst 0, 1, 0, 0, 0) ::
  (3, .ldc2_w 213, 3, 0, 0, 5) ::
  (6, .invokestatic 160, 3, 169, 0, 1) ::
  (9, .ireturn, 1, 1, 0, 0) ::
  []
/-- 213 BlackSunModel.ways(II)I -/
def r_213 : List ax_E :=
  (0, .aload_n 0, 1, 0, 0, 0) ::
  (1, .iload_n 1, 1, 1, 0, 0) ::
  (2, .invokevirtual 384, 3, 211, 22, 1) ::
  (5, .ifCond .eq 24, 3, 29, 0, 0) ::
  (8, .iload_n 2, 1, 2, 0, 0) ::
  (9, .invokestatic 387, 3, 212, 0, 1) ::
  (12, .ifCond .eq 17, 3, 29, 0, 0) ::
  (15, .aload_n 0, 1, 0, 0, 0) ::
  (16, .getfield 68, 3, 11, 33, 0) ::
  (19, .bipush 6, 2, 0, 0, 6) ::
  (21, .iload_n 1, 1, 1, 0, 0) ::
  (22, .imul, 1, 0, 0, 0) ::
  (23, .iload_n 2, 1, 2, 0, 0) ::
  (24, .iadd, 1, 0, 0, 0) ::
  (25, .iaload, 1, 0, 0, 0) ::
  (26, .goto 4, 3, 30, 0, 0) ::
  (29, .iconst (-1), 1, 0, 0, (-1)) ::
  (30, .ireturn, 1, 0, 0, 0) ::
  []
/-- 214 BlackSunModel.truth(Z)J -/
def r_214 : List ax_E :=
  (0, .iload_n 0, 1, 0, 0, 0) ::
  (1, .ifCond .eq 7, 3, 8, 0, 0) ::
  (4, .lconst 1, 1, 0, 0, 1) ::
  (5, .goto 4, 3, 9, 0, 0) ::
  (8, .lconst 0, 1, 0, 0, 0) ::
  (9, .lreturn, 1, 0, 0, 0) ::
  []
/-- 215 BlackSunModel.both(IJJ)J -/
def r_215 : List ax_E :=
  (0, .iload_n 0, 1, 0, 0, 0) ::
  (1, .tableswitch 138 2 10 #[51, 55, 59, 74, 89, 104, 119, 138, 134], 51, 0, 0, 0) ::
  (52, .lload_n 1, 1, 1, 0, 0) ::
  (53, .lload_n 3, 1, 3, 0, 0) ::
  (54, .ladd, 1, 0, 0, 0) ::
  (55, .lreturn, 1, 0, 0, 0) ::
  (56, .lload_n 1, 1, 1, 0, 0) ::
  (57, .lload_n 3, 1, 3, 0, 0) ::
  (58, .lsub, 1, 0, 0, 0) ::
  (59, .lreturn, 1, 0, 0, 0) ::
  (60, .lload_n 1, 1, 1, 0, 0) ::
  (61, .lload_n 3, 1, 3, 0, 0) ::
  (62, .lcmp, 1, 0, 0, 0) ::
  (63, .ifCond .ge 7, 3, 70, 0, 0) ::
  (66, .iconst 1, 1, 0, 0, 1) ::
  (67, .goto 4, 3, 71, 0, 0) ::
  (70, .iconst 0, 1, 0, 0, 0) ::
  (71, .invokestatic 390, 3, 214, 0, 2) ::
  (74, .lreturn, 1, 0, 0, 0) ::
  (75, .lload_n 1, 1, 1, 0, 0) ::
  (76, .lload_n 3, 1, 3, 0, 0) ::
  (77, .lcmp, 1, 0, 0, 0) ::
  (78, .ifCond .gt 7, 3, 85, 0, 0) ::
  (81, .iconst 1, 1, 0, 0, 1) ::
  (82, .goto 4, 3, 86, 0, 0) ::
  (85, .iconst 0, 1, 0, 0, 0) ::
  (86, .invokestatic 390, 3, 214, 0, 2) ::
  (89, .lreturn, 1, 0, 0, 0) ::
  (90, .lload_n 1, 1, 1, 0, 0) ::
  (91, .lload_n 3, 1, 3, 0, 0) ::
  (92, .lcmp, 1, 0, 0, 0) ::
  (93, .ifCond .ne 7, 3, 100, 0, 0) ::
  (96, .iconst 1, 1, 0, 0, 1) ::
  (97, .goto 4, 3, 101, 0, 0) ::
  (100, .iconst 0, 1, 0, 0, 0) ::
  (101, .invokestatic 390, 3, 214, 0, 2) ::
  (104, .lreturn, 1, 0, 0, 0) ::
  (105, .lload_n 1, 1, 1, 0, 0) ::
  (106, .lload_n 3, 1, 3, 0, 0) ::
  (107, .lcmp, 1, 0, 0, 0) ::
  (108, .ifCond .lt 7, 3, 115, 0, 0) ::
  (111, .iconst 1, 1, 0, 0, 1) ::
  (112, .goto 4, 3, 116, 0, 0) ::
  (115, .iconst 0, 1, 0, 0, 0) ::
  (116, .invokestatic 390, 3, 214, 0, 2) ::
  (119, .lreturn, 1, 0, 0, 0) ::
  (120, .lload_n 1, 1, 1, 0, 0) ::
  (121, .lload_n 3, 1, 3, 0, 0) ::
  (122, .lcmp, 1, 0, 0, 0) ::
  (123, .ifCond .le 7, 3, 130, 0, 0) ::
  (126, .iconst 1, 1, 0, 0, 1) ::
  (127, .goto 4, 3, 131, 0, 0) ::
  (130, .iconst 0, 1, 0, 0, 0) ::
  (131, .invokestatic 390, 3, 214, 0, 2) ::
  (134, .lreturn, 1, 0, 0, 0) ::
  (135, .lload_n 1, 1, 1, 0, 0) ::
  (136, .lload_n 3, 1, 3, 0, 0) ::
  (137, .land, 1, 0, 0, 0) ::
  (138, .lreturn, 1, 0, 0, 0) ::
  (139, .lload_n 1, 1, 1, 0, 0) ::
  (140, .lload_n 3, 1, 3, 0, 0) ::
  (141, .lor, 1, 0, 0, 0) ::
  (142, .lreturn, 1, 0, 0, 0) ::
  []
/-- 216 BlackSunModel.isTrue(III)Z -/
def r_216_53 : List ax_E :=
  (53, .aload_n 0, 1, 0, 0, 0) ::
  (54, .getfield 81, 3, 11, 37, 0) ::
  (57, .iload 4, 2, 4, 0, 0) ::
  (59, .iload 6, 2, 6, 0, 0) ::
  (61, .ifCond .ne 9, 3, 70, 0, 0) ::
  (64, .iload 7, 2, 7, 0, 0) ::
  (66, .i2l, 1, 0, 0, 0) ::
  (67, .goto 10, 3, 77, 0, 0) ::
  (70, .aload_n 0, 1, 0, 0, 0) ::
  (71, .getfield 77, 3, 11, 36, 0) ::
  (74, .iload 7, 2, 7, 0, 0) ::
  (76, .laload, 1, 0, 0, 0) ::
  (77, .lastore, 1, 0, 0, 0) ::
  (78, .iinc 4 1, 3, 4, 0, 1) ::
  (81, .goto 66, 3, 147, 0, 0) ::
  (84, .iload 6, 2, 6, 0, 0) ::
  (86, .bipush 9, 2, 0, 0, 9) ::
  (88, .if_icmp .ne 26, 3, 114, 0, 0) ::
  (91, .aload_n 0, 1, 0, 0, 0) ::
  (92, .getfield 81, 3, 11, 37, 0) ::
  (95, .iload 4, 2, 4, 0, 0) ::
  (97, .iconst 1, 1, 0, 0, 1) ::
  (98, .isub, 1, 0, 0, 0) ::
  (99, .lconst 1, 1, 0, 0, 1) ::
  (100, .aload_n 0, 1, 0, 0, 0) ::
  (101, .getfield 81, 3, 11, 37, 0) ::
  (104, .iload 4, 2, 4, 0, 0) ::
  (106, .iconst 1, 1, 0, 0, 1) ::
  (107, .isub, 1, 0, 0, 0) ::
  (108, .laload, 1, 0, 0, 0) ::
  (109, .lsub, 1, 0, 0, 0) ::
  (110, .lastore, 1, 0, 0, 0) ::
  (111, .goto 36, 3, 147, 0, 0) ::
  (114, .iinc 4 (-1), 3, 4, 0, (-1)) ::
  (117, .aload_n 0, 1, 0, 0, 0) ::
  (118, .getfield 81, 3, 11, 37, 0) ::
  (121, .iload 4, 2, 4, 0, 0) ::
  (123, .iconst 1, 1, 0, 0, 1) ::
  (124, .isub, 1, 0, 0, 0) ::
  (125, .iload 6, 2, 6, 0, 0) ::
  (127, .aload_n 0, 1, 0, 0, 0) ::
  (128, .getfield 81, 3, 11, 37, 0) ::
  (131, .iload 4, 2, 4, 0, 0) ::
  (133, .iconst 1, 1, 0, 0, 1) ::
  (134, .isub, 1, 0, 0, 0) ::
  (135, .laload, 1, 0, 0, 0) ::
  (136, .aload_n 0, 1, 0, 0, 0) ::
  (137, .getfield 81, 3, 11, 37, 0) ::
  (140, .iload 4, 2, 4, 0, 0) ::
  (142, .laload, 1, 0, 0, 0) ::
  (143, .invokestatic 394, 3, 215, 0, 2) ::
  (146, .lastore, 1, 0, 0, 0) ::
  (147, .iinc 5 1, 3, 5, 0, 1) ::
  (150, .goto (-144), 3, 6, 0, 0) ::
  (153, .aload_n 0, 1, 0, 0, 0) ::
  (154, .getfield 81, 3, 11, 37, 0) ::
  (157, .iconst 0, 1, 0, 0, 0) ::
  (158, .laload, 1, 0, 0, 0) ::
  (159, .lconst 1, 1, 0, 0, 1) ::
  (160, .lcmp, 1, 0, 0, 0) ::
  (161, .ifCond .ne 7, 3, 168, 0, 0) ::
  (164, .iconst 1, 1, 0, 0, 1) ::
  (165, .goto 4, 3, 169, 0, 0) ::
  (168, .iconst 0, 1, 0, 0, 0) ::
  (169, .ireturn, 1, 1, 0, 0) ::
  []
def r_216_6 : List ax_E :=
  (6, .iload 5, 2, 5, 0, 0) ::
  (8, .iload_n 3, 1, 3, 0, 0) ::
  (9, .if_icmp .ge 144, 3, 153, 0, 0) ::
  (12, .aload_n 0, 1, 0, 0, 0) ::
  (13, .getfield 50, 3, 11, 27, 0) ::
  (16, .sipush 300, 3, 0, 0, 300) ::
  (19, .iload_n 1, 1, 1, 0, 0) ::
  (20, .imul, 1, 0, 0, 0) ::
  (21, .iload 5, 2, 5, 0, 0) ::
  (23, .iadd, 1, 0, 0, 0) ::
  (24, .iaload, 1, 0, 0, 0) ::
  (25, .istore 6, 2, 6, 0, 0) ::
  (27, .aload_n 0, 1, 0, 0, 0) ::
  (28, .getfield 53, 3, 11, 28, 0) ::
  (31, .sipush 300, 3, 0, 0, 300) ::
  (34, .iload_n 1, 1, 1, 0, 0) ::
  (35, .imul, 1, 0, 0, 0) ::
  (36, .iload 5, 2, 5, 0, 0) ::
  (38, .iadd, 1, 0, 0, 0) ::
  (39, .iaload, 1, 0, 0, 0) ::
  (40, .istore 7, 2, 7, 0, 0) ::
  (42, .iload 6, 2, 6, 0, 0) ::
  (44, .ifCond .eq 9, 3, 53, 0, 0) ::
  (47, .iload 6, 2, 6, 0, 0) ::
  (49, .iconst 1, 1, 0, 0, 1) ::
  (50, .if_icmp .ne 34, 3, 84, 0, 0) ::
  (53, .jsr 0, 0, 251, 0, 0) ::
  r_216_53
def r_216 : List ax_E :=
  (0, .iconst 0, 1, 0, 0, 0) ::
  (1, .istore 4, 2, 4, 0, 0) ::
  (3, .iload_n 2, 1, 2, 0, 0) ::
  (4, .istore 5, 2, 5, 0, 0) ::
  (6, .jsr 0, 0, 59, 0, 0) ::
  r_216_6
/-- 217 BlackSunModel.isLeft(II)Z -/
def r_217_190 : List ax_E :=
  (190, .iload 6, 2, 6, 0, 0) ::
  (192, .aload_n 0, 1, 0, 0, 0) ::
  (193, .getfield 62, 3, 11, 31, 0) ::
  (196, .iload_n 1, 1, 1, 0, 0) ::
  (197, .iaload, 1, 0, 0, 0) ::
  (198, .if_icmp .ge 45, 3, 243, 0, 0) ::
  (201, .iload 5, 2, 5, 0, 0) ::
  (203, .ifCond .ne 40, 3, 243, 0, 0) ::
  (206, .aload_n 0, 1, 0, 0, 0) ::
  (207, .iload_n 1, 1, 1, 0, 0) ::
  (208, .aload_n 0, 1, 0, 0, 0) ::
  (209, .getfield 56, 3, 11, 29, 0) ::
  (212, .bipush 12, 2, 0, 0, 12) ::
  (214, .iload_n 1, 1, 1, 0, 0) ::
  (215, .imul, 1, 0, 0, 0) ::
  (216, .iload 6, 2, 6, 0, 0) ::
  (218, .iadd, 1, 0, 0, 0) ::
  (219, .iaload, 1, 0, 0, 0) ::
  (220, .aload_n 0, 1, 0, 0, 0) ::
  (221, .getfield 59, 3, 11, 30, 0) ::
  (224, .bipush 12, 2, 0, 0, 12) ::
  (226, .iload_n 1, 1, 1, 0, 0) ::
  (227, .imul, 1, 0, 0, 0) ::
  (228, .iload 6, 2, 6, 0, 0) ::
  (230, .iadd, 1, 0, 0, 0) ::
  (231, .iaload, 1, 0, 0, 0) ::
  (232, .invokevirtual 398, 3, 216, 22, 1) ::
  (235, .istore 5, 2, 5, 0, 0) ::
  (237, .iinc 6 1, 3, 6, 0, 1) ::
  (240, .goto (-50), 3, 190, 0, 0) ::
  (243, .iload 5, 2, 5, 0, 0) ::
  (245, .ireturn, 1, 1, 0, 0) ::
  []
def r_217 : List ax_E :=
  (0, .aload_n 0, 1, 0, 0, 0) ::
  (1, .getfield 31, 3, 11, 12, 0) ::
  (4, .iload_n 2, 1, 2, 0, 0) ::
  (5, .iaload, 1, 0, 0, 0) ::
  (6, .istore_n 3, 1, 3, 0, 0) ::
  (7, .aload_n 0, 1, 0, 0, 0) ::
  (8, .getfield 28, 3, 11, 11, 0) ::
  (11, .iload_n 2, 1, 2, 0, 0) ::
  (12, .iaload, 1, 0, 0, 0) ::
  (13, .istore 4, 2, 4, 0, 0) ::
  (15, .aload_n 0, 1, 0, 0, 0) ::
  (16, .getfield 77, 3, 11, 36, 0) ::
  (19, .iconst 0, 1, 0, 0, 0) ::
  (20, .iload 4, 2, 4, 0, 0) ::
  (22, .i2l, 1, 0, 0, 0) ::
  (23, .lastore, 1, 0, 0, 0) ::
  (24, .aload_n 0, 1, 0, 0, 0) ::
  (25, .getfield 77, 3, 11, 36, 0) ::
  (28, .iconst 1, 1, 0, 0, 1) ::
  (29, .aload_n 0, 1, 0, 0, 0) ::
  (30, .getfield 19, 3, 11, 8, 0) ::
  (33, .iload 4, 2, 4, 0, 0) ::
  (35, .iaload, 1, 0, 0, 0) ::
  (36, .i2l, 1, 0, 0, 0) ::
  (37, .lastore, 1, 0, 0, 0) ::
  (38, .aload_n 0, 1, 0, 0, 0) ::
  (39, .getfield 77, 3, 11, 36, 0) ::
  (42, .iconst 2, 1, 0, 0, 2) ::
  (43, .aload_n 0, 1, 0, 0, 0) ::
  (44, .getfield 22, 3, 11, 9, 0) ::
  (47, .iload 4, 2, 4, 0, 0) ::
  (49, .iaload, 1, 0, 0, 0) ::
  (50, .i2l, 1, 0, 0, 0) ::
  (51, .lastore, 1, 0, 0, 0) ::
  (52, .aload_n 0, 1, 0, 0, 0) ::
  (53, .getfield 77, 3, 11, 36, 0) ::
  (56, .iconst 3, 1, 0, 0, 3) ::
  (57, .aload_n 0, 1, 0, 0, 0) ::
  (58, .getfield 25, 3, 11, 10, 0) ::
  (61, .iload 4, 2, 4, 0, 0) ::
  (63, .iaload, 1, 0, 0, 0) ::
  (64, .i2l, 1, 0, 0, 0) ::
  (65, .lastore, 1, 0, 0, 0) ::
  (66, .aload_n 0, 1, 0, 0, 0) ::
  (67, .getfield 77, 3, 11, 36, 0) ::
  (70, .iconst 4, 1, 0, 0, 4) ::
  (71, .iload_n 3, 1, 3, 0, 0) ::
  (72, .i2l, 1, 0, 0, 0) ::
  (73, .lastore, 1, 0, 0, 0) ::
  (74, .aload_n 0, 1, 0, 0, 0) ::
  (75, .getfield 77, 3, 11, 36, 0) ::
  (78, .iconst 5, 1, 0, 0, 5) ::
  (79, .aload_n 0, 1, 0, 0, 0) ::
  (80, .getfield 16, 3, 11, 7, 0) ::
  (83, .iload_n 3, 1, 3, 0, 0) ::
  (84, .iaload, 1, 0, 0, 0) ::
  (85, .i2l, 1, 0, 0, 0) ::
  (86, .lastore, 1, 0, 0, 0) ::
  (87, .aload_n 0, 1, 0, 0, 0) ::
  (88, .getfield 77, 3, 11, 36, 0) ::
  (91, .bipush 6, 2, 0, 0, 6) ::
  (93, .aload_n 0, 1, 0, 0, 0) ::
  (94, .iload_n 3, 1, 3, 0, 0) ::
  (95, .invokevirtual 185, 3, 175, 22, 1) ::
  (98, .i2l, 1, 0, 0, 0) ::
  (99, .lastore, 1, 0, 0, 0) ::
  (100, .aload_n 0, 1, 0, 0, 0) ::
  (101, .getfield 77, 3, 11, 36, 0) ::
  (104, .bipush 7, 2, 0, 0, 7) ::
  (106, .aload_n 0, 1, 0, 0, 0) ::
  (107, .getfield 9, 3, 11, 5, 0) ::
  (110, .iload_n 3, 1, 3, 0, 0) ::
  (111, .iaload, 1, 0, 0, 0) ::
  (112, .i2l, 1, 0, 0, 0) ::
  (113, .lastore, 1, 0, 0, 0) ::
  (114, .aload_n 0, 1, 0, 0, 0) ::
  (115, .getfield 77, 3, 11, 36, 0) ::
  (118, .bipush 8, 2, 0, 0, 8) ::
  (120, .aload_n 0, 1, 0, 0, 0) ::
  (121, .getfield 13, 3, 11, 6, 0) ::
  (124, .iload_n 3, 1, 3, 0, 0) ::
  (125, .iaload, 1, 0, 0, 0) ::
  (126, .i2l, 1, 0, 0, 0) ::
  (127, .lastore, 1, 0, 0, 0) ::
  (128, .aload_n 0, 1, 0, 0, 0) ::
  (129, .getfield 77, 3, 11, 36, 0) ::
  (132, .bipush 9, 2, 0, 0, 9) ::
  (134, .aload_n 0, 1, 0, 0, 0) ::
  (135, .getfield 37, 3, 11, 14, 0) ::
  (138, .iload_n 2, 1, 2, 0, 0) ::
  (139, .iaload, 1, 0, 0, 0) ::
  (140, .i2l, 1, 0, 0, 0) ::
  (141, .lastore, 1, 0, 0, 0) ::
  (142, .aload_n 0, 1, 0, 0, 0) ::
  (143, .getfield 77, 3, 11, 36, 0) ::
  (146, .bipush 10, 2, 0, 0, 10) ::
  (148, .aload_n 0, 1, 0, 0, 0) ::
  (149, .getfield 40, 3, 11, 15, 0) ::
  (152, .iload_n 2, 1, 2, 0, 0) ::
  (153, .iaload, 1, 0, 0, 0) ::
  (154, .i2l, 1, 0, 0, 0) ::
  (155, .lastore, 1, 0, 0, 0) ::
  (156, .aload_n 0, 1, 0, 0, 0) ::
  (157, .getfield 77, 3, 11, 36, 0) ::
  (160, .bipush 11, 2, 0, 0, 11) ::
  (162, .aload_n 0, 1, 0, 0, 0) ::
  (163, .getfield 43, 3, 11, 16, 0) ::
  (166, .iload_n 2, 1, 2, 0, 0) ::
  (167, .iaload, 1, 0, 0, 0) ::
  (168, .i2l, 1, 0, 0, 0) ::
  (169, .lastore, 1, 0, 0, 0) ::
  (170, .aload_n 0, 1, 0, 0, 0) ::
  (171, .getfield 77, 3, 11, 36, 0) ::
  (174, .bipush 12, 2, 0, 0, 12) ::
  (176, .aload_n 0, 1, 0, 0, 0) ::
  (177, .getfield 34, 3, 11, 13, 0) ::
  (180, .iload_n 2, 1, 2, 0, 0) ::
  (181, .iaload, 1, 0, 0, 0) ::
  (182, .i2l, 1, 0, 0, 0) ::
  (183, .lastore, 1, 0, 0, 0) ::
  (184, .iconst 0, 1, 0, 0, 0) ::
  (185, .istore 5, 2, 5, 0, 0) ::
  (187, .iconst 0, 1, 0, 0, 0) ::
  (188, .istore 6, 2, 6, 0, 0) ::
  (190, .jsr 0, 0, 99, 0, 0) ::
  r_217_190
/-- 218 BlackSunModel.isByHand(II)Z -/
def r_218 : List ax_E :=
  (0, .aload_n 0, 1, 0, 0, 0) ::
  (1, .getfield 65, 3, 11, 32, 0) ::
  (4, .iload_n 1, 1, 1, 0, 0) ::
  (5, .iaload, 1, 0, 0, 0) ::
  (6, .iconst (-1), 1, 0, 0, (-1)) ::
  (7, .if_icmp .eq 18, 3, 25, 0, 0) ::
  (10, .aload_n 0, 1, 0, 0, 0) ::
  (11, .getfield 65, 3, 11, 32, 0) ::
  (14, .iload_n 1, 1, 1, 0, 0) ::
  (15, .iaload, 1, 0, 0, 0) ::
  (16, .aload_n 0, 1, 0, 0, 0) ::
  (17, .getfield 34, 3, 11, 13, 0) ::
  (20, .iload_n 2, 1, 2, 0, 0) ::
  (21, .iaload, 1, 0, 0, 0) ::
  (22, .if_icmp .ne 7, 3, 29, 0, 0) ::
  (25, .iconst 1, 1, 0, 0, 1) ::
  (26, .goto 4, 3, 30, 0, 0) ::
  (29, .iconst 0, 1, 0, 0, 0) ::
  (30, .ireturn, 1, 1, 0, 0) ::
  []
/-- 219 BlackSunModel.takesAll(II)V -/
def r_219_2 : List ax_E :=
  (2, .iload_n 3, 1, 3, 0, 0) ::
  (3, .aload_n 0, 1, 0, 0, 0) ::
  (4, .getfield 193, 3, 11, 4, 0) ::
  (7, .if_icmp .ge 62, 3, 69, 0, 0) ::
  (10, .aload_n 0, 1, 0, 0, 0) ::
  (11, .getfield 84, 3, 11, 38, 0) ::
  (14, .iload_n 3, 1, 3, 0, 0) ::
  (15, .aload_n 0, 1, 0, 0, 0) ::
  (16, .getfield 22, 3, 11, 9, 0) ::
  (19, .aload_n 0, 1, 0, 0, 0) ::
  (20, .getfield 28, 3, 11, 11, 0) ::
  (23, .iload_n 3, 1, 3, 0, 0) ::
  (24, .iaload, 1, 0, 0, 0) ::
  (25, .iaload, 1, 0, 0, 0) ::
  (26, .iconst 2, 1, 0, 0, 2) ::
  (27, .if_icmp .eq 34, 3, 61, 0, 0) ::
  (30, .aload_n 0, 1, 0, 0, 0) ::
  (31, .iload_n 1, 1, 1, 0, 0) ::
  (32, .iload_n 3, 1, 3, 0, 0) ::
  (33, .invokevirtual 402, 3, 218, 22, 1) ::
  (36, .ifCond .eq 25, 3, 61, 0, 0) ::
  (39, .aload_n 0, 1, 0, 0, 0) ::
  (40, .iload_n 3, 1, 3, 0, 0) ::
  (41, .iload_n 2, 1, 2, 0, 0) ::
  (42, .invokevirtual 406, 3, 181, 22, 1) ::
  (45, .ifCond .eq 16, 3, 61, 0, 0) ::
  (48, .aload_n 0, 1, 0, 0, 0) ::
  (49, .iload_n 1, 1, 1, 0, 0) ::
  (50, .iload_n 3, 1, 3, 0, 0) ::
  (51, .invokevirtual 409, 3, 217, 22, 1) ::
  (54, .ifCond .ne 7, 3, 61, 0, 0) ::
  (57, .iconst 1, 1, 0, 0, 1) ::
  (58, .goto 4, 3, 62, 0, 0) ::
  (61, .iconst 0, 1, 0, 0, 0) ::
  (62, .bastore, 1, 19, 0, 0) ::
  (63, .iinc 3 1, 3, 3, 0, 1) ::
  (66, .goto (-64), 3, 2, 0, 0) ::
  (69, .return_, 1, 0, 0, 0) ::
  []
def r_219 : List ax_E :=
  (0, .iconst 0, 1, 0, 0, 0) ::
  (1, .istore_n 3, 1, 3, 0, 0) ::
  (2, .jsr 0, 0, 15, 0, 0) ::
  r_219_2
/-- 220 BlackSunModel.takes(III)I -/
def r_220_29 : List ax_E :=
  (29, .iload 5, 2, 5, 0, 0) ::
  (31, .aload_n 0, 1, 0, 0, 0) ::
  (32, .getfield 193, 3, 11, 4, 0) ::
  (35, .if_icmp .ge 31, 3, 66, 0, 0) ::
  (38, .aload_n 0, 1, 0, 0, 0) ::
  (39, .getfield 84, 3, 11, 38, 0) ::
  (42, .iload 5, 2, 5, 0, 0) ::
  (44, .baload, 1, 19, 0, 0) ::
  (45, .ifCond .eq 15, 3, 60, 0, 0) ::
  (48, .iload 4, 2, 4, 0, 0) ::
  (50, .iload_n 3, 1, 3, 0, 0) ::
  (51, .if_icmp .ne 6, 3, 57, 0, 0) ::
  (54, .iload 5, 2, 5, 0, 0) ::
  (56, .ireturn, 1, 0, 0, 0) ::
  (57, .iinc 4 1, 3, 4, 0, 1) ::
  (60, .iinc 5 1, 3, 5, 0, 1) ::
  (63, .goto (-34), 3, 29, 0, 0) ::
  (66, .iload_n 3, 1, 3, 0, 0) ::
  (67, .iconst (-1), 1, 0, 0, (-1)) ::
  (68, .if_icmp .ne 8, 3, 76, 0, 0) ::
  (71, .iload 4, 2, 4, 0, 0) ::
  (73, .goto 4, 3, 77, 0, 0) ::
  (76, .iconst (-1), 1, 0, 0, (-1)) ::
  (77, .ireturn, 1, 0, 0, 0) ::
  []
def r_220 : List ax_E :=
  (0, .aload_n 0, 1, 0, 0, 0) ::
  (1, .iload_n 1, 1, 1, 0, 0) ::
  (2, .invokevirtual 384, 3, 211, 22, 1) ::
  (5, .ifCond .eq 10, 3, 15, 0, 0) ::
  (8, .iload_n 2, 1, 2, 0, 0) ::
  (9, .invokestatic 210, 3, 170, 0, 1) ::
  (12, .ifCond .ne 5, 3, 17, 0, 0) ::
  (15, .iconst (-1), 1, 0, 0, (-1)) ::
  (16, .ireturn, 1, 0, 0, 0) ::
  (17, .aload_n 0, 1, 0, 0, 0) ::
  (18, .iload_n 1, 1, 1, 0, 0) ::
  (19, .iload_n 2, 1, 2, 0, 0) ::
  (20, .invokevirtual 412, 3, 219, 22, 0) ::
  (23, .iconst 0, 1, 0, 0, 0) ::
  (24, .istore 4, 2, 4, 0, 0) ::
  (26, .iconst 0, 1, 0, 0, 0) ::
  (27, .istore 5, 2, 5, 0, 0) ::
  (29, .jsr 0, 0, 57, 0, 0) ::
  r_220_29
/-- 221 BlackSunModel.floorOf(JJ)J -/
def r_221 : List ax_E :=
  (0, .lload_n 0, 1, 0, 0, 0) ::
  (1, .lload_n 2, 1, 2, 0, 0) ::
  (2, .ldiv, 1, 0, 0, 0) ::
  (3, .lstore 4, 2, 4, 0, 0) ::
  (5, .lload_n 0, 1, 0, 0, 0) ::
  (6, .lload_n 2, 1, 2, 0, 0) ::
  (7, .lrem, 1, 0, 0, 0) ::
  (8, .lconst 0, 1, 0, 0, 0) ::
  (9, .lcmp, 1, 0, 0, 0) ::
  (10, .ifCond .ge 10, 3, 20, 0, 0) ::
  (13, .lload 4, 2, 4, 0, 0) ::
  (15, .lconst 1, 1, 0, 0, 1) ::
  (16, .lsub, 1, 0, 0, 0) ::
  (17, .goto 5, 3, 22, 0, 0) ::
  (20, .lload 4, 2, 4, 0, 0) ::
  (22, .lreturn, 1, 0, 0, 0) ::
  []
/-- 222 BlackSunModel.checks(III)Z -/
def r_222_9 : List ax_E :=
  (9, .iload 8, 2, 8, 0, 0) ::
  (11, .aload_n 0, 1, 0, 0, 0) ::
  (12, .getfield 193, 3, 11, 4, 0) ::
  (15, .if_icmp .ge 121, 3, 136, 0, 0) ::
  (18, .aload_n 0, 1, 0, 0, 0) ::
  (19, .getfield 22, 3, 11, 9, 0) ::
  (22, .aload_n 0, 1, 0, 0, 0) ::
  (23, .getfield 28, 3, 11, 11, 0) ::
  (26, .iload 8, 2, 8, 0, 0) ::
  (28, .iaload, 1, 0, 0, 0) ::
  (29, .iaload, 1, 0, 0, 0) ::
  (30, .iconst 2, 1, 0, 0, 2) ::
  (31, .if_icmp .ne 99, 3, 130, 0, 0) ::
  (34, .aload_n 0, 1, 0, 0, 0) ::
  (35, .iload_n 1, 1, 1, 0, 0) ::
  (36, .iload 8, 2, 8, 0, 0) ::
  (38, .invokevirtual 402, 3, 218, 22, 1) ::
  (41, .ifCond .eq 89, 3, 130, 0, 0) ::
  (44, .aload_n 0, 1, 0, 0, 0) ::
  (45, .iload 8, 2, 8, 0, 0) ::
  (47, .iload_n 3, 1, 3, 0, 0) ::
  (48, .invokevirtual 406, 3, 181, 22, 1) ::
  (51, .ifCond .eq 79, 3, 130, 0, 0) ::
  (54, .aload_n 0, 1, 0, 0, 0) ::
  (55, .iload_n 2, 1, 2, 0, 0) ::
  (56, .aload_n 0, 1, 0, 0, 0) ::
  (57, .getfield 31, 3, 11, 12, 0) ::
  (60, .iload 8, 2, 8, 0, 0) ::
  (62, .iaload, 1, 0, 0, 0) ::
  (63, .iconst 0, 1, 0, 0, 0) ::
  (64, .invokevirtual 215, 3, 183, 22, 1) ::
  (67, .i2l, 1, 0, 0, 0) ::
  (68, .lstore 9, 2, 9, 0, 0) ::
  (70, .aload_n 0, 1, 0, 0, 0) ::
  (71, .iload_n 2, 1, 2, 0, 0) ::
  (72, .aload_n 0, 1, 0, 0, 0) ::
  (73, .getfield 31, 3, 11, 12, 0) ::
  (76, .iload 8, 2, 8, 0, 0) ::
  (78, .iaload, 1, 0, 0, 0) ::
  (79, .iconst 1, 1, 0, 0, 1) ::
  (80, .invokevirtual 215, 3, 183, 22, 1) ::
  (83, .i2l, 1, 0, 0, 0) ::
  (84, .lstore 11, 2, 11, 0, 0) ::
  (86, .lload 4, 2, 4, 0, 0) ::
  (88, .lload 9, 2, 9, 0, 0) ::
  (90, .lload 9, 2, 9, 0, 0) ::
  (92, .lmul, 1, 0, 0, 0) ::
  (93, .lload 11, 2, 11, 0, 0) ::
  (95, .lload 11, 2, 11, 0, 0) ::
  (97, .lmul, 1, 0, 0, 0) ::
  (98, .ladd, 1, 0, 0, 0) ::
  (99, .ladd, 1, 0, 0, 0) ::
  (100, .lstore 4, 2, 4, 0, 0) ::
  (102, .lload 6, 2, 6, 0, 0) ::
  (104, .lload 9, 2, 9, 0, 0) ::
  (106, .aload_n 0, 1, 0, 0, 0) ::
  (107, .getfield 37, 3, 11, 14, 0) ::
  (110, .iload 8, 2, 8, 0, 0) ::
  (112, .iaload, 1, 0, 0, 0) ::
  (113, .i2l, 1, 0, 0, 0) ::
  (114, .lmul, 1, 0, 0, 0) ::
  (115, .lload 11, 2, 11, 0, 0) ::
  (117, .aload_n 0, 1, 0, 0, 0) ::
  (118, .getfield 40, 3, 11, 15, 0) ::
  (121, .iload 8, 2, 8, 0, 0) ::
  (123, .iaload, 1, 0, 0, 0) ::
  (124, .i2l, 1, 0, 0, 0) ::
  (125, .lmul, 1, 0, 0, 0) ::
  (126, .ladd, 1, 0, 0, 0) ::
  (127, .ladd, 1, 0, 0, 0) ::
  (128, .lstore 6, 2, 6, 0, 0) ::
  (130, .iinc 8 1, 3, 8, 0, 1) ::
  (133, .goto (-124), 3, 9, 0, 0) ::
  (136, .lload 4, 2, 4, 0, 0) ::
  (138, .lconst 0, 1, 0, 0, 0) ::
  (139, .lcmp, 1, 0, 0, 0) ::
  (140, .ifCond .ne 5, 3, 145, 0, 0) ::
  (143, .iconst 0, 1, 0, 0, 0) ::
  (144, .ireturn, 1, 1, 0, 0) ::
  (145, .aload_n 0, 1, 0, 0, 0) ::
  (146, .getfield 91, 3, 11, 40, 0) ::
  (149, .iload_n 2, 1, 2, 0, 0) ::
  (150, .ldc2_w 415, 3, 0, 0, 1000) ::
  (153, .lload 6, 2, 6, 0, 0) ::
  (155, .lmul, 1, 0, 0, 0) ::
  (156, .lload 4, 2, 4, 0, 0) ::
  (158, .invokestatic 417, 3, 221, 0, 2) ::
  (161, .lastore, 1, 0, 0, 0) ::
  (162, .iconst 1, 1, 0, 0, 1) ::
  (163, .ireturn, 1, 1, 0, 0) ::
  []
def r_222 : List ax_E :=
  (0, .lconst 0, 1, 0, 0, 0) ::
  (1, .lstore 4, 2, 4, 0, 0) ::
  (3, .lconst 0, 1, 0, 0, 0) ::
  (4, .lstore 6, 2, 6, 0, 0) ::
  (6, .iconst 0, 1, 0, 0, 0) ::
  (7, .istore 8, 2, 8, 0, 0) ::
  (9, .jsr 0, 0, 351, 0, 0) ::
  r_222_9
/-- 223 BlackSunModel.begins(IIZI)Z -/
def r_223_143 : List ax_E :=
  (143, .iload 7, 2, 7, 0, 0) ::
  (145, .iconst 3, 1, 0, 0, 3) ::
  (146, .if_icmp .ne 26, 3, 172, 0, 0) ::
  (149, .aload_n 0, 1, 0, 0, 0) ::
  (150, .iload_n 1, 1, 1, 0, 0) ::
  (151, .iload 6, 2, 6, 0, 0) ::
  (153, .iload_n 2, 1, 2, 0, 0) ::
  (154, .invokevirtual 424, 3, 222, 22, 1) ::
  (157, .ifCond .eq 12, 3, 169, 0, 0) ::
  (160, .iload 5, 2, 5, 0, 0) ::
  (162, .ifCond .eq 7, 3, 169, 0, 0) ::
  (165, .iconst 1, 1, 0, 0, 1) ::
  (166, .goto 4, 3, 170, 0, 0) ::
  (169, .iconst 0, 1, 0, 0, 0) ::
  (170, .istore 5, 2, 5, 0, 0) ::
  (172, .iinc 6 1, 3, 6, 0, 1) ::
  (175, .goto (-164), 3, 11, 0, 0) ::
  (178, .iload 5, 2, 5, 0, 0) ::
  (180, .ireturn, 1, 1, 0, 0) ::
  []
def r_223_115 : List ax_E :=
  (115, .bastore, 1, 19, 0, 0) ::
  (116, .iload 7, 2, 7, 0, 0) ::
  (118, .iconst 1, 1, 0, 0, 1) ::
  (119, .if_icmp .ne 24, 3, 143, 0, 0) ::
  (122, .aload_n 0, 1, 0, 0, 0) ::
  (123, .getfield 88, 3, 11, 39, 0) ::
  (126, .aload_n 0, 1, 0, 0, 0) ::
  (127, .getfield 421, 3, 11, 49, 0) ::
  (130, .iload 6, 2, 6, 0, 0) ::
  (132, .iastore, 1, 0, 0, 0) ::
  (133, .aload_n 0, 1, 0, 0, 0) ::
  (134, .dup, 1, 0, 0, 0) ::
  (135, .getfield 421, 3, 11, 49, 0) ::
  (138, .iconst 1, 1, 0, 0, 1) ::
  (139, .iadd, 1, 0, 0, 0) ::
  (140, .putfield 421, 3, 11, 49, 0) ::
  (143, .jsr 0, 0, 255, 0, 0) ::
  r_223_143
def r_223_91 : List ax_E :=
  (91, .lastore, 1, 0, 0, 0) ::
  (92, .aload_n 0, 1, 0, 0, 0) ::
  (93, .getfield 106, 3, 11, 45, 0) ::
  (96, .iload 6, 2, 6, 0, 0) ::
  (98, .iload 7, 2, 7, 0, 0) ::
  (100, .iconst 2, 1, 0, 0, 2) ::
  (101, .if_icmp .eq 9, 3, 110, 0, 0) ::
  (104, .iload 7, 2, 7, 0, 0) ::
  (106, .iconst 3, 1, 0, 0, 3) ::
  (107, .if_icmp .ne 7, 3, 114, 0, 0) ::
  (110, .iconst 1, 1, 0, 0, 1) ::
  (111, .goto 4, 3, 115, 0, 0) ::
  (114, .iconst 0, 1, 0, 0, 0) ::
  (115, .jsr 0, 0, 255, 0, 0) ::
  r_223_115
def r_223_44 : List ax_E :=
  (44, .istore 7, 2, 7, 0, 0) ::
  (46, .aload_n 0, 1, 0, 0, 0) ::
  (47, .getfield 91, 3, 11, 40, 0) ::
  (50, .iload 6, 2, 6, 0, 0) ::
  (52, .iload 7, 2, 7, 0, 0) ::
  (54, .iconst 2, 1, 0, 0, 2) ::
  (55, .if_icmp .ne 35, 3, 90, 0, 0) ::
  (58, .iload_n 3, 1, 3, 0, 0) ::
  (59, .ifCond .eq 15, 3, 74, 0, 0) ::
  (62, .iload 6, 2, 6, 0, 0) ::
  (64, .iconst 4, 1, 0, 0, 4) ::
  (65, .if_icmp .ne 9, 3, 74, 0, 0) ::
  (68, .iload 4, 2, 4, 0, 0) ::
  (70, .i2l, 1, 0, 0, 0) ::
  (71, .goto 20, 3, 91, 0, 0) ::
  (74, .aload_n 0, 1, 0, 0, 0) ::
  (75, .getfield 71, 3, 11, 34, 0) ::
  (78, .bipush 6, 2, 0, 0, 6) ::
  (80, .iload_n 1, 1, 1, 0, 0) ::
  (81, .imul, 1, 0, 0, 0) ::
  (82, .iload 6, 2, 6, 0, 0) ::
  (84, .iadd, 1, 0, 0, 0) ::
  (85, .iaload, 1, 0, 0, 0) ::
  (86, .i2l, 1, 0, 0, 0) ::
  (87, .goto 4, 3, 91, 0, 0) ::
  (90, .lconst 0, 1, 0, 0, 0) ::
  (91, .jsr 0, 0, 255, 0, 0) ::
  r_223_91
def r_223_11 : List ax_E :=
  (11, .iload 6, 2, 6, 0, 0) ::
  (13, .bipush 6, 2, 0, 0, 6) ::
  (15, .if_icmp .ge 163, 3, 178, 0, 0) ::
  (18, .iload_n 3, 1, 3, 0, 0) ::
  (19, .ifCond .eq 13, 3, 32, 0, 0) ::
  (22, .iload 6, 2, 6, 0, 0) ::
  (24, .iconst 4, 1, 0, 0, 4) ::
  (25, .if_icmp .ne 7, 3, 32, 0, 0) ::
  (28, .iconst 2, 1, 0, 0, 2) ::
  (29, .goto 15, 3, 44, 0, 0) ::
  (32, .aload_n 0, 1, 0, 0, 0) ::
  (33, .getfield 68, 3, 11, 33, 0) ::
  (36, .bipush 6, 2, 0, 0, 6) ::
  (38, .iload_n 1, 1, 1, 0, 0) ::
  (39, .imul, 1, 0, 0, 0) ::
  (40, .iload 6, 2, 6, 0, 0) ::
  (42, .iadd, 1, 0, 0, 0) ::
  (43, .iaload, 1, 0, 0, 0) ::
  (44, .jsr 0, 0, 127, 0, 0) ::
  r_223_44
def r_223 : List ax_E :=
  (0, .aload_n 0, 1, 0, 0, 0) ::
  (1, .iconst 0, 1, 0, 0, 0) ::
  (2, .putfield 421, 3, 11, 49, 0) ::
  (5, .iconst 1, 1, 0, 0, 1) ::
  (6, .istore 5, 2, 5, 0, 0) ::
  (8, .iconst 0, 1, 0, 0, 0) ::
  (9, .istore 6, 2, 6, 0, 0) ::
  (11, .jsr 0, 0, 127, 0, 0) ::
  r_223_11
/-- 224 BlackSunModel.measures()V -/
def r_224_30 : List ax_E :=
  (30, .istore_n 2, 1, 2, 0, 0) ::
  (31, .aload_n 0, 1, 0, 0, 0) ::
  (32, .getfield 109, 3, 11, 46, 0) ::
  (35, .iload_n 1, 1, 1, 0, 0) ::
  (36, .iload_n 2, 1, 2, 0, 0) ::
  (37, .aload_n 0, 1, 0, 0, 0) ::
  (38, .getfield 37, 3, 11, 14, 0) ::
  (41, .iload_n 1, 1, 1, 0, 0) ::
  (42, .iaload, 1, 0, 0, 0) ::
  (43, .imul, 1, 0, 0, 0) ::
  (44, .iastore, 1, 0, 0, 0) ::
  (45, .aload_n 0, 1, 0, 0, 0) ::
  (46, .getfield 112, 3, 11, 47, 0) ::
  (49, .iload_n 1, 1, 1, 0, 0) ::
  (50, .iload_n 2, 1, 2, 0, 0) ::
  (51, .aload_n 0, 1, 0, 0, 0) ::
  (52, .getfield 40, 3, 11, 15, 0) ::
  (55, .iload_n 1, 1, 1, 0, 0) ::
  (56, .iaload, 1, 0, 0, 0) ::
  (57, .imul, 1, 0, 0, 0) ::
  (58, .iastore, 1, 0, 0, 0) ::
  (59, .aload_n 0, 1, 0, 0, 0) ::
  (60, .getfield 115, 3, 11, 48, 0) ::
  (63, .iload_n 1, 1, 1, 0, 0) ::
  (64, .aload_n 0, 1, 0, 0, 0) ::
  (65, .getfield 84, 3, 11, 38, 0) ::
  (68, .iload_n 1, 1, 1, 0, 0) ::
  (69, .baload, 1, 19, 0, 0) ::
  (70, .ifCond .ne 7, 3, 77, 0, 0) ::
  (73, .iconst 1, 1, 0, 0, 1) ::
  (74, .goto 4, 3, 78, 0, 0) ::
  (77, .iconst 0, 1, 0, 0, 0) ::
  (78, .bastore, 1, 19, 0, 0) ::
  (79, .iinc 1 1, 3, 1, 0, 1) ::
  (82, .goto (-80), 3, 2, 0, 0) ::
  (85, .return_, 1, 0, 0, 0) ::
  []
def r_224_2 : List ax_E :=
  (2, .iload_n 1, 1, 1, 0, 0) ::
  (3, .aload_n 0, 1, 0, 0, 0) ::
  (4, .getfield 193, 3, 11, 4, 0) ::
  (7, .if_icmp .ge 78, 3, 85, 0, 0) ::
  (10, .aload_n 0, 1, 0, 0, 0) ::
  (11, .getfield 22, 3, 11, 9, 0) ::
  (14, .aload_n 0, 1, 0, 0, 0) ::
  (15, .getfield 28, 3, 11, 11, 0) ::
  (18, .iload_n 1, 1, 1, 0, 0) ::
  (19, .iaload, 1, 0, 0, 0) ::
  (20, .iaload, 1, 0, 0, 0) ::
  (21, .iconst 1, 1, 0, 0, 1) ::
  (22, .if_icmp .ne 7, 3, 29, 0, 0) ::
  (25, .iconst (-1), 1, 0, 0, (-1)) ::
  (26, .goto 4, 3, 30, 0, 0) ::
  (29, .iconst 1, 1, 0, 0, 1) ::
  (30, .jsr 0, 0, 3, 0, 0) ::
  r_224_30
def r_224 : List ax_E :=
  (0, .iconst 0, 1, 0, 0, 0) ::
  (1, .istore_n 1, 1, 1, 0, 0) ::
  (2, .jsr 0, 0, 3, 0, 0) ::
  r_224_2
/-- 225 BlackSunModel.givenOn(III)J -/
def r_225 : List ax_E :=
  (0, .iload_n 1, 1, 1, 0, 0) ::
  (1, .iconst 4, 1, 0, 0, 4) ::
  (2, .if_icmp .ne 22, 3, 24, 0, 0) ::
  (5, .aload_n 0, 1, 0, 0, 0) ::
  (6, .getfield 22, 3, 11, 9, 0) ::
  (9, .aload_n 0, 1, 0, 0, 0) ::
  (10, .getfield 28, 3, 11, 11, 0) ::
  (13, .iload_n 2, 1, 2, 0, 0) ::
  (14, .iaload, 1, 0, 0, 0) ::
  (15, .iaload, 1, 0, 0, 0) ::
  (16, .iconst 1, 1, 0, 0, 1) ::
  (17, .if_icmp .ne 7, 3, 24, 0, 0) ::
  (20, .lconst 0, 1, 0, 0, 0) ::
  (21, .goto 16, 3, 37, 0, 0) ::
  (24, .aload_n 0, 1, 0, 0, 0) ::
  (25, .iload_n 1, 1, 1, 0, 0) ::
  (26, .aload_n 0, 1, 0, 0, 0) ::
  (27, .getfield 31, 3, 11, 12, 0) ::
  (30, .iload_n 2, 1, 2, 0, 0) ::
  (31, .iaload, 1, 0, 0, 0) ::
  (32, .iload_n 3, 1, 3, 0, 0) ::
  (33, .invokevirtual 215, 3, 183, 22, 1) ::
  (36, .i2l, 1, 0, 0, 0) ::
  (37, .lreturn, 1, 0, 0, 0) ::
  []
/-- 226 BlackSunModel.left(II)J -/
def r_226_25 : List ax_E :=
  (25, .iload 5, 2, 5, 0, 0) ::
  (27, .bipush 6, 2, 0, 0, 6) ::
  (29, .if_icmp .ge 46, 3, 75, 0, 0) ::
  (32, .lload_n 3, 1, 3, 0, 0) ::
  (33, .aload_n 0, 1, 0, 0, 0) ::
  (34, .getfield 106, 3, 11, 45, 0) ::
  (37, .iload 5, 2, 5, 0, 0) ::
  (39, .baload, 1, 19, 0, 0) ::
  (40, .ifCond .eq 26, 3, 66, 0, 0) ::
  (43, .aload_n 0, 1, 0, 0, 0) ::
  (44, .getfield 91, 3, 11, 40, 0) ::
  (47, .iload 5, 2, 5, 0, 0) ::
  (49, .laload, 1, 0, 0, 0) ::
  (50, .aload_n 0, 1, 0, 0, 0) ::
  (51, .iload 5, 2, 5, 0, 0) ::
  (53, .iload_n 1, 1, 1, 0, 0) ::
  (54, .iload_n 2, 1, 2, 0, 0) ::
  (55, .invokevirtual 427, 3, 225, 22, 2) ::
  (58, .lmul, 1, 0, 0, 0) ::
  (59, .ldc2_w 415, 3, 0, 0, 1000) ::
  (62, .ldiv, 1, 0, 0, 0) ::
  (63, .goto 4, 3, 67, 0, 0) ::
  (66, .lconst 0, 1, 0, 0, 0) ::
  (67, .lsub, 1, 0, 0, 0) ::
  (68, .lstore_n 3, 1, 3, 0, 0) ::
  (69, .iinc 5 1, 3, 5, 0, 1) ::
  (72, .goto (-47), 3, 25, 0, 0) ::
  (75, .lload_n 3, 1, 3, 0, 0) ::
  (76, .lreturn, 1, 0, 0, 0) ::
  []
def r_226 : List ax_E :=
  (0, .iload_n 2, 1, 2, 0, 0) ::
  (1, .ifCond .ne 13, 3, 14, 0, 0) ::
  (4, .aload_n 0, 1, 0, 0, 0) ::
  (5, .getfield 109, 3, 11, 46, 0) ::
  (8, .iload_n 1, 1, 1, 0, 0) ::
  (9, .iaload, 1, 0, 0, 0) ::
  (10, .i2l, 1, 0, 0, 0) ::
  (11, .goto 10, 3, 21, 0, 0) ::
  (14, .aload_n 0, 1, 0, 0, 0) ::
  (15, .getfield 112, 3, 11, 47, 0) ::
  (18, .iload_n 1, 1, 1, 0, 0) ::
  (19, .iaload, 1, 0, 0, 0) ::
  (20, .i2l, 1, 0, 0, 0) ::
  (21, .lstore_n 3, 1, 3, 0, 0) ::
  (22, .iconst 0, 1, 0, 0, 0) ::
  (23, .istore 5, 2, 5, 0, 0) ::
  (25, .jsr 0, 0, 47, 0, 0) ::
  r_226_25
/-- 227 BlackSunModel.rows(II)V -/
def r_227_73 : List ax_E :=
  (73, .iload 9, 2, 9, 0, 0) ::
  (75, .aload_n 0, 1, 0, 0, 0) ::
  (76, .getfield 421, 3, 11, 49, 0) ::
  (79, .if_icmp .ge 40, 3, 119, 0, 0) ::
  (82, .aload_n 0, 1, 0, 0, 0) ::
  (83, .getfield 94, 3, 11, 41, 0) ::
  (86, .iconst 3, 1, 0, 0, 3) ::
  (87, .iload 6, 2, 6, 0, 0) ::
  (89, .imul, 1, 0, 0, 0) ::
  (90, .iload 9, 2, 9, 0, 0) ::
  (92, .iadd, 1, 0, 0, 0) ::
  (93, .dup2, 1, 0, 0, 0) ::
  (94, .laload, 1, 0, 0, 0) ::
  (95, .lload 7, 2, 7, 0, 0) ::
  (97, .aload_n 0, 1, 0, 0, 0) ::
  (98, .aload_n 0, 1, 0, 0, 0) ::
  (99, .getfield 88, 3, 11, 39, 0) ::
  (102, .iload 9, 2, 9, 0, 0) ::
  (104, .iaload, 1, 0, 0, 0) ::
  (105, .iload_n 1, 1, 1, 0, 0) ::
  (106, .iload_n 3, 1, 3, 0, 0) ::
  (107, .invokevirtual 427, 3, 225, 22, 2) ::
  (110, .lmul, 1, 0, 0, 0) ::
  (111, .ladd, 1, 0, 0, 0) ::
  (112, .lastore, 1, 0, 0, 0) ::
  (113, .iinc 9 1, 3, 9, 0, 1) ::
  (116, .goto (-43), 3, 73, 0, 0) ::
  (119, .iinc 6 1, 3, 6, 0, 1) ::
  (122, .goto (-94), 3, 28, 0, 0) ::
  (125, .iinc 3 1, 3, 3, 0, 1) ::
  (128, .goto (-116), 3, 12, 0, 0) ::
  (131, .return_, 1, 0, 0, 0) ::
  []
def r_227_28 : List ax_E :=
  (28, .iload 6, 2, 6, 0, 0) ::
  (30, .aload_n 0, 1, 0, 0, 0) ::
  (31, .getfield 421, 3, 11, 49, 0) ::
  (34, .if_icmp .ge 91, 3, 125, 0, 0) ::
  (37, .iload_n 2, 1, 2, 0, 0) ::
  (38, .i2l, 1, 0, 0, 0) ::
  (39, .aload_n 0, 1, 0, 0, 0) ::
  (40, .aload_n 0, 1, 0, 0, 0) ::
  (41, .getfield 88, 3, 11, 39, 0) ::
  (44, .iload 6, 2, 6, 0, 0) ::
  (46, .iaload, 1, 0, 0, 0) ::
  (47, .iload_n 1, 1, 1, 0, 0) ::
  (48, .iload_n 3, 1, 3, 0, 0) ::
  (49, .invokevirtual 427, 3, 225, 22, 2) ::
  (52, .lmul, 1, 0, 0, 0) ::
  (53, .lstore 7, 2, 7, 0, 0) ::
  (55, .aload_n 0, 1, 0, 0, 0) ::
  (56, .getfield 97, 3, 11, 42, 0) ::
  (59, .iload 6, 2, 6, 0, 0) ::
  (61, .dup2, 1, 0, 0, 0) ::
  (62, .laload, 1, 0, 0, 0) ::
  (63, .lload 7, 2, 7, 0, 0) ::
  (65, .lload 4, 2, 4, 0, 0) ::
  (67, .lmul, 1, 0, 0, 0) ::
  (68, .ladd, 1, 0, 0, 0) ::
  (69, .lastore, 1, 0, 0, 0) ::
  (70, .iconst 0, 1, 0, 0, 0) ::
  (71, .istore 9, 2, 9, 0, 0) ::
  (73, .jsr 0, 0, 735, 0, 0) ::
  r_227_73
def r_227_12 : List ax_E :=
  (12, .iload_n 3, 1, 3, 0, 0) ::
  (13, .iconst 2, 1, 0, 0, 2) ::
  (14, .if_icmp .ge 117, 3, 131, 0, 0) ::
  (17, .aload_n 0, 1, 0, 0, 0) ::
  (18, .iload_n 1, 1, 1, 0, 0) ::
  (19, .iload_n 3, 1, 3, 0, 0) ::
  (20, .invokevirtual 434, 3, 226, 22, 2) ::
  (23, .lstore 4, 2, 4, 0, 0) ::
  (25, .iconst 0, 1, 0, 0, 0) ::
  (26, .istore 6, 2, 6, 0, 0) ::
  (28, .jsr 0, 0, 95, 0, 0) ::
  r_227_28
def r_227 : List ax_E :=
  (0, .aload_n 0, 1, 0, 0, 0) ::
  (1, .dup, 1, 0, 0, 0) ::
  (2, .getfield 431, 3, 11, 50, 0) ::
  (5, .iload_n 2, 1, 2, 0, 0) ::
  (6, .iadd, 1, 0, 0, 0) ::
  (7, .putfield 431, 3, 11, 50, 0) ::
  (10, .iconst 0, 1, 0, 0, 0) ::
  (11, .istore_n 3, 1, 3, 0, 0) ::
  (12, .jsr 0, 0, 15, 0, 0) ::
  r_227_12
/-- 228 BlackSunModel.sumAt(II)J -/
def r_228 : List ax_E :=
  (0, .aload_n 0, 1, 0, 0, 0) ::
  (1, .getfield 94, 3, 11, 41, 0) ::
  (4, .iconst 3, 1, 0, 0, 3) ::
  (5, .iload_n 1, 1, 1, 0, 0) ::
  (6, .aload_n 0, 1, 0, 0, 0) ::
  (7, .getfield 421, 3, 11, 49, 0) ::
  (10, .irem, 1, 0, 0, 0) ::
  (11, .imul, 1, 0, 0, 0) ::
  (12, .iload_n 2, 1, 2, 0, 0) ::
  (13, .aload_n 0, 1, 0, 0, 0) ::
  (14, .getfield 421, 3, 11, 49, 0) ::
  (17, .irem, 1, 0, 0, 0) ::
  (18, .iadd, 1, 0, 0, 0) ::
  (19, .laload, 1, 0, 0, 0) ::
  (20, .lreturn, 1, 0, 0, 0) ::
  []
/-- 229 BlackSunModel.factor(II)J -/
def r_229 : List ax_E :=
  (0, .aload_n 0, 1, 0, 0, 0) ::
  (1, .getfield 421, 3, 11, 49, 0) ::
  (4, .iconst 1, 1, 0, 0, 1) ::
  (5, .if_icmp .ne 5, 3, 10, 0, 0) ::
  (8, .lconst 1, 1, 0, 0, 1) ::
  (9, .lreturn, 1, 0, 0, 0) ::
  (10, .aload_n 0, 1, 0, 0, 0) ::
  (11, .getfield 421, 3, 11, 49, 0) ::
  (14, .iconst 2, 1, 0, 0, 2) ::
  (15, .if_icmp .ne 33, 3, 48, 0, 0) ::
  (18, .iload_n 1, 1, 1, 0, 0) ::
  (19, .iload_n 2, 1, 2, 0, 0) ::
  (20, .if_icmp .ne 16, 3, 36, 0, 0) ::
  (23, .aload_n 0, 1, 0, 0, 0) ::
  (24, .iload_n 1, 1, 1, 0, 0) ::
  (25, .iconst 1, 1, 0, 0, 1) ::
  (26, .iadd, 1, 0, 0, 0) ::
  (27, .iload_n 2, 1, 2, 0, 0) ::
  (28, .iconst 1, 1, 0, 0, 1) ::
  (29, .iadd, 1, 0, 0, 0) ::
  (30, .invokevirtual 438, 3, 228, 22, 2) ::
  (33, .goto 14, 3, 47, 0, 0) ::
  (36, .aload_n 0, 1, 0, 0, 0) ::
  (37, .iload_n 1, 1, 1, 0, 0) ::
  (38, .iconst 1, 1, 0, 0, 1) ::
  (39, .iadd, 1, 0, 0, 0) ::
  (40, .iload_n 2, 1, 2, 0, 0) ::
  (41, .iconst 1, 1, 0, 0, 1) ::
  (42, .iadd, 1, 0, 0, 0) ::
  (43, .invokevirtual 438, 3, 228, 22, 2) ::
  (46, .lneg, 1, 0, 0, 0) ::
  (47, .lreturn, 1, 0, 0, 0) ::
  (48, .aload_n 0, 1, 0, 0, 0) ::
  (49, .iload_n 1, 1, 1, 0, 0) ::
  (50, .iconst 1, 1, 0, 0, 1) ::
  (51, .iadd, 1, 0, 0, 0) ::
  (52, .iload_n 2, 1, 2, 0, 0) ::
  (53, .iconst 1, 1, 0, 0, 1) ::
  (54, .iadd, 1, 0, 0, 0) ::
  (55, .invokevirtual 438, 3, 228, 22, 2) ::
  (58, .aload_n 0, 1, 0, 0, 0) ::
  (59, .iload_n 1, 1, 1, 0, 0) ::
  (60, .iconst 2, 1, 0, 0, 2) ::
  (61, .iadd, 1, 0, 0, 0) ::
  (62, .iload_n 2, 1, 2, 0, 0) ::
  (63, .iconst 2, 1, 0, 0, 2) ::
  (64, .iadd, 1, 0, 0, 0) ::
  (65, .invokevirtual 438, 3, 228, 22, 2) ::
  (68, .lmul, 1, 0, 0, 0) ::
  (69, .aload_n 0, 1, 0, 0, 0) ::
  (70, .iload_n 1, 1, 1, 0, 0) ::
  (71, .iconst 1, 1, 0, 0, 1) ::
  (72, .iadd, 1, 0, 0, 0) ::
  (73, .iload_n 2, 1, 2, 0, 0) ::
  (74, .iconst 2, 1, 0, 0, 2) ::
  (75, .iadd, 1, 0, 0, 0) ::
  (76, .invokevirtual 438, 3, 228, 22, 2) ::
  (79, .aload_n 0, 1, 0, 0, 0) ::
  (80, .iload_n 1, 1, 1, 0, 0) ::
  (81, .iconst 2, 1, 0, 0, 2) ::
  (82, .iadd, 1, 0, 0, 0) ::
  (83, .iload_n 2, 1, 2, 0, 0) ::
  (84, .iconst 1, 1, 0, 0, 1) ::
  (85, .iadd, 1, 0, 0, 0) ::
  (86, .invokevirtual 438, 3, 228, 22, 2) ::
  (89, .lmul, 1, 0, 0, 0) ::
  (90, .lsub, 1, 0, 0, 0) ::
  (91, .lreturn, 1, 0, 0, 0) ::
  []
/-- 230 BlackSunModel.adds(JJJ)V -/
def r_230_170 : List ax_E :=
  (170, .ladd, 1, 0, 0, 0) ::
  (171, .putfield 443, 3, 11, 51, 0) ::
  (174, .aload_n 0, 1, 0, 0, 0) ::
  (175, .dup, 1, 0, 0, 0) ::
  (176, .getfield 447, 3, 11, 52, 0) ::
  (179, .iload 17, 2, 17, 0, 0) ::
  (181, .ifCond .eq 9, 3, 190, 0, 0) ::
  (184, .lload 15, 2, 15, 0, 0) ::
  (186, .lneg, 1, 0, 0, 0) ::
  (187, .goto 5, 3, 192, 0, 0) ::
  (190, .lload 15, 2, 15, 0, 0) ::
  (192, .ladd, 1, 0, 0, 0) ::
  (193, .putfield 447, 3, 11, 52, 0) ::
  (196, .return_, 1, 0, 0, 0) ::
  []
def r_230_142 : List ax_E :=
  (142, .if_icmp .eq 7, 3, 149, 0, 0) ::
  (145, .iconst 1, 1, 0, 0, 1) ::
  (146, .goto 4, 3, 150, 0, 0) ::
  (149, .iconst 0, 1, 0, 0, 0) ::
  (150, .istore 17, 2, 17, 0, 0) ::
  (152, .aload_n 0, 1, 0, 0, 0) ::
  (153, .dup, 1, 0, 0, 0) ::
  (154, .getfield 443, 3, 11, 51, 0) ::
  (157, .iload 17, 2, 17, 0, 0) ::
  (159, .ifCond .eq 9, 3, 168, 0, 0) ::
  (162, .lload 13, 2, 13, 0, 0) ::
  (164, .lneg, 1, 0, 0, 0) ::
  (165, .goto 5, 3, 170, 0, 0) ::
  (168, .lload 13, 2, 13, 0, 0) ::
  (170, .jsr 0, 0, 163841, 0, 0) ::
  r_230_170
def r_230_60 : List ax_E :=
  (60, .lload 11, 2, 11, 0, 0) ::
  (62, .lconst 0, 1, 0, 0, 0) ::
  (63, .lcmp, 1, 0, 0, 0) ::
  (64, .ifCond .le 56, 3, 120, 0, 0) ::
  (67, .lload 15, 2, 15, 0, 0) ::
  (69, .ldc2_w 415, 3, 0, 0, 1000) ::
  (72, .lmul, 1, 0, 0, 0) ::
  (73, .lload 7, 2, 7, 0, 0) ::
  (75, .lload 9, 2, 9, 0, 0) ::
  (77, .lload 11, 2, 11, 0, 0) ::
  (79, .ldiv, 1, 0, 0, 0) ::
  (80, .ldc2_w 415, 3, 0, 0, 1000) ::
  (83, .lrem, 1, 0, 0, 0) ::
  (84, .lmul, 1, 0, 0, 0) ::
  (85, .ladd, 1, 0, 0, 0) ::
  (86, .lstore 17, 2, 17, 0, 0) ::
  (88, .lload 13, 2, 13, 0, 0) ::
  (90, .ldc2_w 415, 3, 0, 0, 1000) ::
  (93, .lmul, 1, 0, 0, 0) ::
  (94, .lload 17, 2, 17, 0, 0) ::
  (96, .lload 5, 2, 5, 0, 0) ::
  (98, .ldiv, 1, 0, 0, 0) ::
  (99, .ladd, 1, 0, 0, 0) ::
  (100, .lstore 13, 2, 13, 0, 0) ::
  (102, .lload 17, 2, 17, 0, 0) ::
  (104, .lload 5, 2, 5, 0, 0) ::
  (106, .lrem, 1, 0, 0, 0) ::
  (107, .lstore 15, 2, 15, 0, 0) ::
  (109, .lload 11, 2, 11, 0, 0) ::
  (111, .ldc2_w 415, 3, 0, 0, 1000) ::
  (114, .ldiv, 1, 0, 0, 0) ::
  (115, .lstore 11, 2, 11, 0, 0) ::
  (117, .goto (-57), 3, 60, 0, 0) ::
  (120, .lload_n 1, 1, 1, 0, 0) ::
  (121, .lconst 0, 1, 0, 0, 0) ::
  (122, .lcmp, 1, 0, 0, 0) ::
  (123, .ifCond .ge 7, 3, 130, 0, 0) ::
  (126, .iconst 1, 1, 0, 0, 1) ::
  (127, .goto 4, 3, 131, 0, 0) ::
  (130, .iconst 0, 1, 0, 0, 0) ::
  (131, .lload_n 3, 1, 3, 0, 0) ::
  (132, .lconst 0, 1, 0, 0, 0) ::
  (133, .lcmp, 1, 0, 0, 0) ::
  (134, .ifCond .ge 7, 3, 141, 0, 0) ::
  (137, .iconst 1, 1, 0, 0, 1) ::
  (138, .goto 4, 3, 142, 0, 0) ::
  (141, .iconst 0, 1, 0, 0, 0) ::
  (142, .jsr 0, 0, 40961, 0, 0) ::
  r_230_142
def r_230_31 : List ax_E :=
  (31, .lload 9, 2, 9, 0, 0) ::
  (33, .lload 11, 2, 11, 0, 0) ::
  (35, .ldiv, 1, 0, 0, 0) ::
  (36, .ldc2_w 441, 3, 0, 0, 999) ::
  (39, .lcmp, 1, 0, 0, 0) ::
  (40, .ifCond .le 14, 3, 54, 0, 0) ::
  (43, .lload 11, 2, 11, 0, 0) ::
  (45, .ldc2_w 415, 3, 0, 0, 1000) ::
  (48, .lmul, 1, 0, 0, 0) ::
  (49, .lstore 11, 2, 11, 0, 0) ::
  (51, .goto (-20), 3, 31, 0, 0) ::
  (54, .lconst 0, 1, 0, 0, 0) ::
  (55, .lstore 13, 2, 13, 0, 0) ::
  (57, .lconst 0, 1, 0, 0, 0) ::
  (58, .lstore 15, 2, 15, 0, 0) ::
  (60, .jsr 0, 0, 43691, 0, 0) ::
  r_230_60
def r_230_12 : List ax_E :=
  (12, .lstore 7, 2, 7, 0, 0) ::
  (14, .lload_n 3, 1, 3, 0, 0) ::
  (15, .lconst 0, 1, 0, 0, 0) ::
  (16, .lcmp, 1, 0, 0, 0) ::
  (17, .ifCond .ge 8, 3, 25, 0, 0) ::
  (20, .lload_n 3, 1, 3, 0, 0) ::
  (21, .lneg, 1, 0, 0, 0) ::
  (22, .goto 4, 3, 26, 0, 0) ::
  (25, .lload_n 3, 1, 3, 0, 0) ::
  (26, .lstore 9, 2, 9, 0, 0) ::
  (28, .lconst 1, 1, 0, 0, 1) ::
  (29, .lstore 11, 2, 11, 0, 0) ::
  (31, .jsr 0, 0, 2731, 0, 0) ::
  r_230_31
def r_230 : List ax_E :=
  (0, .lload_n 1, 1, 1, 0, 0) ::
  (1, .lconst 0, 1, 0, 0, 0) ::
  (2, .lcmp, 1, 0, 0, 0) ::
  (3, .ifCond .ge 8, 3, 11, 0, 0) ::
  (6, .lload_n 1, 1, 1, 0, 0) ::
  (7, .lneg, 1, 0, 0, 0) ::
  (8, .goto 4, 3, 12, 0, 0) ::
  (11, .lload_n 1, 1, 1, 0, 0) ::
  (12, .jsr 0, 0, 43, 0, 0) ::
  r_230_12
/-- 231 BlackSunModel.solves()Z -/
def r_231_234 : List ax_E :=
  (234, .lstore 10, 2, 10, 0, 0) ::
  (236, .iload_n 3, 1, 3, 0, 0) ::
  (237, .ifCond .eq 26, 3, 263, 0, 0) ::
  (240, .iload 9, 2, 9, 0, 0) ::
  (242, .ifCond .eq 21, 3, 263, 0, 0) ::
  (245, .lload 10, 2, 10, 0, 0) ::
  (247, .ldc2_w 461, 3, 0, 0, (-99999999)) ::
  (250, .ldc2_w 463, 3, 0, 0, 99999999) ::
  (253, .invokestatic 160, 3, 169, 0, 1) ::
  (256, .ifCond .eq 7, 3, 263, 0, 0) ::
  (259, .iconst 1, 1, 0, 0, 1) ::
  (260, .goto 4, 3, 264, 0, 0) ::
  (263, .iconst 0, 1, 0, 0, 0) ::
  (264, .istore_n 3, 1, 3, 0, 0) ::
  (265, .aload_n 0, 1, 0, 0, 0) ::
  (266, .getfield 103, 3, 11, 44, 0) ::
  (269, .aload_n 0, 1, 0, 0, 0) ::
  (270, .getfield 88, 3, 11, 39, 0) ::
  (273, .iload 4, 2, 4, 0, 0) ::
  (275, .iaload, 1, 0, 0, 0) ::
  (276, .lload 10, 2, 10, 0, 0) ::
  (278, .lastore, 1, 0, 0, 0) ::
  (279, .iinc 4 1, 3, 4, 0, 1) ::
  (282, .goto (-176), 3, 106, 0, 0) ::
  (285, .iload_n 3, 1, 3, 0, 0) ::
  (286, .ireturn, 1, 1, 0, 0) ::
  []
def r_231_128 : List ax_E :=
  (128, .iload 5, 2, 5, 0, 0) ::
  (130, .aload_n 0, 1, 0, 0, 0) ::
  (131, .getfield 421, 3, 11, 49, 0) ::
  (134, .if_icmp .ge 29, 3, 163, 0, 0) ::
  (137, .aload_n 0, 1, 0, 0, 0) ::
  (138, .aload_n 0, 1, 0, 0, 0) ::
  (139, .iload 4, 2, 4, 0, 0) ::
  (141, .iload 5, 2, 5, 0, 0) ::
  (143, .invokevirtual 450, 3, 229, 22, 2) ::
  (146, .aload_n 0, 1, 0, 0, 0) ::
  (147, .getfield 97, 3, 11, 42, 0) ::
  (150, .iload 5, 2, 5, 0, 0) ::
  (152, .laload, 1, 0, 0, 0) ::
  (153, .lload_n 1, 1, 1, 0, 0) ::
  (154, .invokevirtual 453, 3, 230, 22, 0) ::
  (157, .iinc 5 1, 3, 5, 0, 1) ::
  (160, .goto (-32), 3, 128, 0, 0) ::
  (163, .aload_n 0, 1, 0, 0, 0) ::
  (164, .getfield 443, 3, 11, 51, 0) ::
  (167, .aload_n 0, 1, 0, 0, 0) ::
  (168, .getfield 447, 3, 11, 52, 0) ::
  (171, .lload_n 1, 1, 1, 0, 0) ::
  (172, .invokestatic 417, 3, 221, 0, 2) ::
  (175, .ladd, 1, 0, 0, 0) ::
  (176, .lstore 5, 2, 5, 0, 0) ::
  (178, .aload_n 0, 1, 0, 0, 0) ::
  (179, .getfield 447, 3, 11, 52, 0) ::
  (182, .aload_n 0, 1, 0, 0, 0) ::
  (183, .getfield 447, 3, 11, 52, 0) ::
  (186, .lload_n 1, 1, 1, 0, 0) ::
  (187, .invokestatic 417, 3, 221, 0, 2) ::
  (190, .lload_n 1, 1, 1, 0, 0) ::
  (191, .lmul, 1, 0, 0, 0) ::
  (192, .lsub, 1, 0, 0, 0) ::
  (193, .lstore 7, 2, 7, 0, 0) ::
  (195, .lload 5, 2, 5, 0, 0) ::
  (197, .ldc2_w 457, 3, 0, 0, (-1000000)) ::
  (200, .ldc2_w 459, 3, 0, 0, 1000000) ::
  (203, .invokestatic 160, 3, 169, 0, 1) ::
  (206, .istore 9, 2, 9, 0, 0) ::
  (208, .iload 9, 2, 9, 0, 0) ::
  (210, .ifCond .eq 23, 3, 233, 0, 0) ::
  (213, .lload 5, 2, 5, 0, 0) ::
  (215, .ldc2_w 415, 3, 0, 0, 1000) ::
  (218, .lmul, 1, 0, 0, 0) ::
  (219, .ldc2_w 415, 3, 0, 0, 1000) ::
  (222, .lload 7, 2, 7, 0, 0) ::
  (224, .lmul, 1, 0, 0, 0) ::
  (225, .lload_n 1, 1, 1, 0, 0) ::
  (226, .invokestatic 417, 3, 221, 0, 2) ::
  (229, .ladd, 1, 0, 0, 0) ::
  (230, .goto 4, 3, 234, 0, 0) ::
  (233, .lconst 0, 1, 0, 0, 0) ::
  (234, .jsr 0, 0, 539, 0, 0) ::
  r_231_234
def r_231_106 : List ax_E :=
  (106, .iload 4, 2, 4, 0, 0) ::
  (108, .aload_n 0, 1, 0, 0, 0) ::
  (109, .getfield 421, 3, 11, 49, 0) ::
  (112, .if_icmp .ge 173, 3, 285, 0, 0) ::
  (115, .aload_n 0, 1, 0, 0, 0) ::
  (116, .lconst 0, 1, 0, 0, 0) ::
  (117, .putfield 443, 3, 11, 51, 0) ::
  (120, .aload_n 0, 1, 0, 0, 0) ::
  (121, .lconst 0, 1, 0, 0, 0) ::
  (122, .putfield 447, 3, 11, 52, 0) ::
  (125, .iconst 0, 1, 0, 0, 0) ::
  (126, .istore 5, 2, 5, 0, 0) ::
  (128, .jsr 0, 0, 59, 0, 0) ::
  r_231_128
def r_231_63 : List ax_E :=
  (63, .iload_n 3, 1, 3, 0, 0) ::
  (64, .aload_n 0, 1, 0, 0, 0) ::
  (65, .getfield 421, 3, 11, 49, 0) ::
  (68, .if_icmp .ge 25, 3, 93, 0, 0) ::
  (71, .lload_n 1, 1, 1, 0, 0) ::
  (72, .aload_n 0, 1, 0, 0, 0) ::
  (73, .getfield 94, 3, 11, 41, 0) ::
  (76, .iload_n 3, 1, 3, 0, 0) ::
  (77, .laload, 1, 0, 0, 0) ::
  (78, .aload_n 0, 1, 0, 0, 0) ::
  (79, .iconst 0, 1, 0, 0, 0) ::
  (80, .iload_n 3, 1, 3, 0, 0) ::
  (81, .invokevirtual 450, 3, 229, 22, 2) ::
  (84, .lmul, 1, 0, 0, 0) ::
  (85, .ladd, 1, 0, 0, 0) ::
  (86, .lstore_n 1, 1, 1, 0, 0) ::
  (87, .iinc 3 1, 3, 3, 0, 1) ::
  (90, .goto (-27), 3, 63, 0, 0) ::
  (93, .lload_n 1, 1, 1, 0, 0) ::
  (94, .lconst 0, 1, 0, 0, 0) ::
  (95, .lcmp, 1, 0, 0, 0) ::
  (96, .ifCond .ne 5, 3, 101, 0, 0) ::
  (99, .iconst 0, 1, 0, 0, 0) ::
  (100, .ireturn, 1, 1, 0, 0) ::
  (101, .iconst 1, 1, 0, 0, 1) ::
  (102, .istore_n 3, 1, 3, 0, 0) ::
  (103, .iconst 0, 1, 0, 0, 0) ::
  (104, .istore 4, 2, 4, 0, 0) ::
  (106, .jsr 0, 0, 27, 0, 0) ::
  r_231_106
def r_231_2 : List ax_E :=
  (2, .iload_n 1, 1, 1, 0, 0) ::
  (3, .bipush 6, 2, 0, 0, 6) ::
  (5, .if_icmp .ge 34, 3, 39, 0, 0) ::
  (8, .aload_n 0, 1, 0, 0, 0) ::
  (9, .getfield 103, 3, 11, 44, 0) ::
  (12, .iload_n 1, 1, 1, 0, 0) ::
  (13, .aload_n 0, 1, 0, 0, 0) ::
  (14, .getfield 106, 3, 11, 45, 0) ::
  (17, .iload_n 1, 1, 1, 0, 0) ::
  (18, .baload, 1, 19, 0, 0) ::
  (19, .ifCond .eq 12, 3, 31, 0, 0) ::
  (22, .aload_n 0, 1, 0, 0, 0) ::
  (23, .getfield 91, 3, 11, 40, 0) ::
  (26, .iload_n 1, 1, 1, 0, 0) ::
  (27, .laload, 1, 0, 0, 0) ::
  (28, .goto 4, 3, 32, 0, 0) ::
  (31, .lconst 0, 1, 0, 0, 0) ::
  (32, .lastore, 1, 0, 0, 0) ::
  (33, .iinc 1 1, 3, 1, 0, 1) ::
  (36, .goto (-34), 3, 2, 0, 0) ::
  (39, .aload_n 0, 1, 0, 0, 0) ::
  (40, .getfield 421, 3, 11, 49, 0) ::
  (43, .ifCond .ne 16, 3, 59, 0, 0) ::
  (46, .aload_n 0, 1, 0, 0, 0) ::
  (47, .getfield 431, 3, 11, 50, 0) ::
  (50, .ifCond .le 7, 3, 57, 0, 0) ::
  (53, .iconst 1, 1, 0, 0, 1) ::
  (54, .goto 4, 3, 58, 0, 0) ::
  (57, .iconst 0, 1, 0, 0, 0) ::
  (58, .ireturn, 1, 1, 0, 0) ::
  (59, .lconst 0, 1, 0, 0, 0) ::
  (60, .lstore_n 1, 1, 1, 0, 0) ::
  (61, .iconst 0, 1, 0, 0, 0) ::
  (62, .istore_n 3, 1, 3, 0, 0) ::
  (63, .jsr 0, 0, 11, 0, 0) ::
  r_231_63
def r_231 : List ax_E :=
  (0, .iconst 0, 1, 0, 0, 0) ::
  (1, .istore_n 1, 1, 1, 0, 0) ::
  (2, .jsr 0, 0, 3, 0, 0) ::
  r_231_2
/-- 232 BlackSunModel.empties()V -/
def r_232_21 : List ax_E :=
  (21, .iload_n 2, 1, 2, 0, 0) ::
  (22, .iconst 3, 1, 0, 0, 3) ::
  (23, .if_icmp .ge 20, 3, 43, 0, 0) ::
  (26, .aload_n 0, 1, 0, 0, 0) ::
  (27, .getfield 94, 3, 11, 41, 0) ::
  (30, .iconst 3, 1, 0, 0, 3) ::
  (31, .iload_n 1, 1, 1, 0, 0) ::
  (32, .imul, 1, 0, 0, 0) ::
  (33, .iload_n 2, 1, 2, 0, 0) ::
  (34, .iadd, 1, 0, 0, 0) ::
  (35, .lconst 0, 1, 0, 0, 0) ::
  (36, .lastore, 1, 0, 0, 0) ::
  (37, .iinc 2 1, 3, 2, 0, 1) ::
  (40, .goto (-19), 3, 21, 0, 0) ::
  (43, .iinc 1 1, 3, 1, 0, 1) ::
  (46, .goto (-39), 3, 7, 0, 0) ::
  (49, .return_, 1, 0, 0, 0) ::
  []
def r_232_7 : List ax_E :=
  (7, .iload_n 1, 1, 1, 0, 0) ::
  (8, .iconst 3, 1, 0, 0, 3) ::
  (9, .if_icmp .ge 40, 3, 49, 0, 0) ::
  (12, .aload_n 0, 1, 0, 0, 0) ::
  (13, .getfield 97, 3, 11, 42, 0) ::
  (16, .iload_n 1, 1, 1, 0, 0) ::
  (17, .lconst 0, 1, 0, 0, 0) ::
  (18, .lastore, 1, 0, 0, 0) ::
  (19, .iconst 0, 1, 0, 0, 0) ::
  (20, .istore_n 2, 1, 2, 0, 0) ::
  (21, .jsr 0, 0, 7, 0, 0) ::
  r_232_21
def r_232 : List ax_E :=
  (0, .aload_n 0, 1, 0, 0, 0) ::
  (1, .iconst 0, 1, 0, 0, 0) ::
  (2, .putfield 431, 3, 11, 50, 0) ::
  (5, .iconst 0, 1, 0, 0, 0) ::
  (6, .istore_n 1, 1, 1, 0, 0) ::
  (7, .jsr 0, 0, 3, 0, 0) ::
  r_232_7
/-- 233 BlackSunModel.fit()Z -/
def r_233_6 : List ax_E :=
  (6, .iload_n 1, 1, 1, 0, 0) ::
  (7, .aload_n 0, 1, 0, 0, 0) ::
  (8, .getfield 193, 3, 11, 4, 0) ::
  (11, .if_icmp .ge 24, 3, 35, 0, 0) ::
  (14, .aload_n 0, 1, 0, 0, 0) ::
  (15, .getfield 115, 3, 11, 48, 0) ::
  (18, .iload_n 1, 1, 1, 0, 0) ::
  (19, .baload, 1, 19, 0, 0) ::
  (20, .ifCond .ne 9, 3, 29, 0, 0) ::
  (23, .aload_n 0, 1, 0, 0, 0) ::
  (24, .iload_n 1, 1, 1, 0, 0) ::
  (25, .iconst 1, 1, 0, 0, 1) ::
  (26, .invokevirtual 468, 3, 227, 22, 0) ::
  (29, .iinc 1 1, 3, 1, 0, 1) ::
  (32, .goto (-26), 3, 6, 0, 0) ::
  (35, .aload_n 0, 1, 0, 0, 0) ::
  (36, .invokevirtual 471, 3, 231, 22, 1) ::
  (39, .ireturn, 1, 1, 0, 0) ::
  []
def r_233 : List ax_E :=
  (0, .aload_n 0, 1, 0, 0, 0) ::
  (1, .invokevirtual 465, 3, 232, 22, 0) ::
  (4, .iconst 0, 1, 0, 0, 0) ::
  (5, .istore_n 1, 1, 1, 0, 0) ::
  (6, .jsr 0, 0, 3, 0, 0) ::
  r_233_6
/-- 234 BlackSunModel.missed()J -/
def r_234_36 : List ax_E :=
  (36, .iload 7, 2, 7, 0, 0) ::
  (38, .aload_n 0, 1, 0, 0, 0) ::
  (39, .getfield 421, 3, 11, 49, 0) ::
  (42, .if_icmp .ge 41, 3, 83, 0, 0) ::
  (45, .lload 5, 2, 5, 0, 0) ::
  (47, .aload_n 0, 1, 0, 0, 0) ::
  (48, .getfield 103, 3, 11, 44, 0) ::
  (51, .aload_n 0, 1, 0, 0, 0) ::
  (52, .getfield 88, 3, 11, 39, 0) ::
  (55, .iload 7, 2, 7, 0, 0) ::
  (57, .iaload, 1, 0, 0, 0) ::
  (58, .laload, 1, 0, 0, 0) ::
  (59, .aload_n 0, 1, 0, 0, 0) ::
  (60, .aload_n 0, 1, 0, 0, 0) ::
  (61, .getfield 88, 3, 11, 39, 0) ::
  (64, .iload 7, 2, 7, 0, 0) ::
  (66, .iaload, 1, 0, 0, 0) ::
  (67, .iload_n 3, 1, 3, 0, 0) ::
  (68, .iload 4, 2, 4, 0, 0) ::
  (70, .invokevirtual 427, 3, 225, 22, 2) ::
  (73, .lmul, 1, 0, 0, 0) ::
  (74, .ladd, 1, 0, 0, 0) ::
  (75, .lstore 5, 2, 5, 0, 0) ::
  (77, .iinc 7 1, 3, 7, 0, 1) ::
  (80, .goto (-44), 3, 36, 0, 0) ::
  (83, .aload_n 0, 1, 0, 0, 0) ::
  (84, .iload_n 3, 1, 3, 0, 0) ::
  (85, .iload 4, 2, 4, 0, 0) ::
  (87, .invokevirtual 434, 3, 226, 22, 2) ::
  (90, .lload 5, 2, 5, 0, 0) ::
  (92, .ldc2_w 415, 3, 0, 0, 1000) ::
  (95, .ldiv, 1, 0, 0, 0) ::
  (96, .lsub, 1, 0, 0, 0) ::
  (97, .lstore 7, 2, 7, 0, 0) ::
  (99, .lload_n 1, 1, 1, 0, 0) ::
  (100, .lload 7, 2, 7, 0, 0) ::
  (102, .lload 7, 2, 7, 0, 0) ::
  (104, .lmul, 1, 0, 0, 0) ::
  (105, .ladd, 1, 0, 0, 0) ::
  (106, .lstore_n 1, 1, 1, 0, 0) ::
  (107, .iinc 4 1, 3, 4, 0, 1) ::
  (110, .goto (-95), 3, 15, 0, 0) ::
  (113, .iinc 3 1, 3, 3, 0, 1) ::
  (116, .goto (-112), 3, 4, 0, 0) ::
  (119, .lload_n 1, 1, 1, 0, 0) ::
  (120, .lreturn, 1, 0, 0, 0) ::
  []
def r_234_15 : List ax_E :=
  (15, .iload 4, 2, 4, 0, 0) ::
  (17, .iconst 2, 1, 0, 0, 2) ::
  (18, .if_icmp .ge 95, 3, 113, 0, 0) ::
  (21, .aload_n 0, 1, 0, 0, 0) ::
  (22, .getfield 115, 3, 11, 48, 0) ::
  (25, .iload_n 3, 1, 3, 0, 0) ::
  (26, .baload, 1, 19, 0, 0) ::
  (27, .ifCond .ne 86, 3, 113, 0, 0) ::
  (30, .lconst 0, 1, 0, 0, 0) ::
  (31, .lstore 5, 2, 5, 0, 0) ::
  (33, .iconst 0, 1, 0, 0, 0) ::
  (34, .istore 7, 2, 7, 0, 0) ::
  (36, .jsr 0, 0, 187, 0, 0) ::
  r_234_36
def r_234_4 : List ax_E :=
  (4, .iload_n 3, 1, 3, 0, 0) ::
  (5, .aload_n 0, 1, 0, 0, 0) ::
  (6, .getfield 193, 3, 11, 4, 0) ::
  (9, .if_icmp .ge 110, 3, 119, 0, 0) ::
  (12, .iconst 0, 1, 0, 0, 0) ::
  (13, .istore 4, 2, 4, 0, 0) ::
  (15, .jsr 0, 0, 27, 0, 0) ::
  r_234_15
def r_234 : List ax_E :=
  (0, .lconst 0, 1, 0, 0, 0) ::
  (1, .lstore_n 1, 1, 1, 0, 0) ::
  (2, .iconst 0, 1, 0, 0, 0) ::
  (3, .istore_n 3, 1, 3, 0, 0) ::
  (4, .jsr 0, 0, 11, 0, 0) ::
  r_234_4
/-- 235 BlackSunModel.isAnswered(II)Z -/
def r_235 : List ax_E :=
  (0, .aload_n 0, 1, 0, 0, 0) ::
  (1, .iload_n 1, 1, 1, 0, 0) ::
  (2, .iload_n 2, 1, 2, 0, 0) ::
  (3, .invokevirtual 412, 3, 219, 22, 0) ::
  (6, .aload_n 0, 1, 0, 0, 0) ::
  (7, .invokevirtual 474, 3, 224, 22, 0) ::
  (10, .aload_n 0, 1, 0, 0, 0) ::
  (11, .iload_n 1, 1, 1, 0, 0) ::
  (12, .iload_n 2, 1, 2, 0, 0) ::
  (13, .iconst 0, 1, 0, 0, 0) ::
  (14, .iconst 0, 1, 0, 0, 0) ::
  (15, .invokevirtual 477, 3, 223, 22, 1) ::
  (18, .ifCond .eq 14, 3, 32, 0, 0) ::
  (21, .aload_n 0, 1, 0, 0, 0) ::
  (22, .invokevirtual 481, 3, 233, 22, 1) ::
  (25, .ifCond .eq 7, 3, 32, 0, 0) ::
  (28, .iconst 1, 1, 0, 0, 1) ::
  (29, .goto 4, 3, 33, 0, 0) ::
  (32, .iconst 0, 1, 0, 0, 0) ::
  (33, .ireturn, 1, 1, 0, 0) ::
  []
/-- 236 BlackSunModel.answerIn(III)I -/
def r_236 : List ax_E :=
  (0, .aload_n 0, 1, 0, 0, 0) ::
  (1, .iload_n 1, 1, 1, 0, 0) ::
  (2, .iload_n 3, 1, 3, 0, 0) ::
  (3, .invokevirtual 483, 3, 235, 22, 1) ::
  (6, .ifCond .eq 13, 3, 19, 0, 0) ::
  (9, .aload_n 0, 1, 0, 0, 0) ::
  (10, .getfield 103, 3, 11, 44, 0) ::
  (13, .iload_n 2, 1, 2, 0, 0) ::
  (14, .laload, 1, 0, 0, 0) ::
  (15, .l2i, 1, 0, 0, 0) ::
  (16, .goto 6, 3, 22, 0, 0) ::
  (19, .ldc_w 486, 3, 0, 0, (-1000000000)) ::
  (22, .ireturn, 1, 0, 0, 0) ::
  []
/-- 237 BlackSunModel.answer(III)I -/
def r_237 : List ax_E :=
  (0, .aload_n 0, 1, 0, 0, 0) ::
  (1, .iload_n 1, 1, 1, 0, 0) ::
  (2, .invokevirtual 384, 3, 211, 22, 1) ::
  (5, .ifCond .eq 27, 3, 32, 0, 0) ::
  (8, .iload_n 2, 1, 2, 0, 0) ::
  (9, .invokestatic 387, 3, 212, 0, 1) ::
  (12, .ifCond .eq 20, 3, 32, 0, 0) ::
  (15, .iload_n 3, 1, 3, 0, 0) ::
  (16, .invokestatic 210, 3, 170, 0, 1) ::
  (19, .ifCond .eq 13, 3, 32, 0, 0) ::
  (22, .aload_n 0, 1, 0, 0, 0) ::
  (23, .iload_n 1, 1, 1, 0, 0) ::
  (24, .iload_n 2, 1, 2, 0, 0) ::
  (25, .iload_n 3, 1, 3, 0, 0) ::
  (26, .invokevirtual 487, 3, 236, 22, 1) ::
  (29, .goto 6, 3, 35, 0, 0) ::
  (32, .ldc_w 490, 3, 0, 0, (-2000000000)) ::
  (35, .ireturn, 1, 0, 0, 0) ::
  []
/-- 238 BlackSunModel.miss(II)J -/
def r_238 : List ax_E :=
  (0, .aload_n 0, 1, 0, 0, 0) ::
  (1, .iload_n 1, 1, 1, 0, 0) ::
  (2, .invokevirtual 384, 3, 211, 22, 1) ::
  (5, .ifCond .eq 26, 3, 31, 0, 0) ::
  (8, .iload_n 2, 1, 2, 0, 0) ::
  (9, .invokestatic 210, 3, 170, 0, 1) ::
  (12, .ifCond .eq 19, 3, 31, 0, 0) ::
  (15, .aload_n 0, 1, 0, 0, 0) ::
  (16, .iload_n 1, 1, 1, 0, 0) ::
  (17, .iload_n 2, 1, 2, 0, 0) ::
  (18, .invokevirtual 483, 3, 235, 22, 1) ::
  (21, .ifCond .eq 10, 3, 31, 0, 0) ::
  (24, .aload_n 0, 1, 0, 0, 0) ::
  (25, .invokevirtual 491, 3, 234, 22, 2) ::
  (28, .goto 6, 3, 34, 0, 0) ::
  (31, .ldc2_w 495, 3, 0, 0, (-1)) ::
  (34, .lreturn, 1, 0, 0, 0) ::
  []
/-- 239 BlackSunModel.each(IIII)I -/
def r_239_67 : List ax_E :=
  (67, .iload 5, 2, 5, 0, 0) ::
  (69, .aload_n 0, 1, 0, 0, 0) ::
  (70, .getfield 193, 3, 11, 4, 0) ::
  (73, .if_icmp .ge 57, 3, 130, 0, 0) ::
  (76, .aload_n 0, 1, 0, 0, 0) ::
  (77, .getfield 115, 3, 11, 48, 0) ::
  (80, .iload 5, 2, 5, 0, 0) ::
  (82, .aload_n 0, 1, 0, 0, 0) ::
  (83, .getfield 115, 3, 11, 48, 0) ::
  (86, .iload 5, 2, 5, 0, 0) ::
  (88, .baload, 1, 19, 0, 0) ::
  (89, .ifCond .ne 29, 3, 118, 0, 0) ::
  (92, .iload_n 3, 1, 3, 0, 0) ::
  (93, .ifCond .ne 13, 3, 106, 0, 0) ::
  (96, .aload_n 0, 1, 0, 0, 0) ::
  (97, .getfield 28, 3, 11, 11, 0) ::
  (100, .iload 5, 2, 5, 0, 0) ::
  (102, .iaload, 1, 0, 0, 0) ::
  (103, .goto 10, 3, 113, 0, 0) ::
  (106, .aload_n 0, 1, 0, 0, 0) ::
  (107, .getfield 31, 3, 11, 12, 0) ::
  (110, .iload 5, 2, 5, 0, 0) ::
  (112, .iaload, 1, 0, 0, 0) ::
  (113, .iload 4, 2, 4, 0, 0) ::
  (115, .if_icmp .ne 7, 3, 122, 0, 0) ::
  (118, .iconst 1, 1, 0, 0, 1) ::
  (119, .goto 4, 3, 123, 0, 0) ::
  (122, .iconst 0, 1, 0, 0, 0) ::
  (123, .bastore, 1, 19, 0, 0) ::
  (124, .iinc 5 1, 3, 5, 0, 1) ::
  (127, .goto (-60), 3, 67, 0, 0) ::
  (130, .aload_n 0, 1, 0, 0, 0) ::
  (131, .iload_n 1, 1, 1, 0, 0) ::
  (132, .iload_n 2, 1, 2, 0, 0) ::
  (133, .iconst 0, 1, 0, 0, 0) ::
  (134, .iconst 0, 1, 0, 0, 0) ::
  (135, .invokevirtual 477, 3, 223, 22, 1) ::
  (138, .ifCond .eq 20, 3, 158, 0, 0) ::
  (141, .aload_n 0, 1, 0, 0, 0) ::
  (142, .invokevirtual 481, 3, 233, 22, 1) ::
  (145, .ifCond .eq 13, 3, 158, 0, 0) ::
  (148, .aload_n 0, 1, 0, 0, 0) ::
  (149, .getfield 103, 3, 11, 44, 0) ::
  (152, .iconst 4, 1, 0, 0, 4) ::
  (153, .laload, 1, 0, 0, 0) ::
  (154, .l2i, 1, 0, 0, 0) ::
  (155, .goto 6, 3, 161, 0, 0) ::
  (158, .ldc_w 486, 3, 0, 0, (-1000000000)) ::
  (161, .ireturn, 1, 0, 0, 0) ::
  []
def r_239 : List ax_E :=
  (0, .aload_n 0, 1, 0, 0, 0) ::
  (1, .iload_n 1, 1, 1, 0, 0) ::
  (2, .invokevirtual 384, 3, 211, 22, 1) ::
  (5, .ifCond .eq 45, 3, 50, 0, 0) ::
  (8, .iload_n 2, 1, 2, 0, 0) ::
  (9, .invokestatic 210, 3, 170, 0, 1) ::
  (12, .ifCond .eq 38, 3, 50, 0, 0) ::
  (15, .iload_n 3, 1, 3, 0, 0) ::
  (16, .i2l, 1, 0, 0, 0) ::
  (17, .lconst 0, 1, 0, 0, 0) ::
  (18, .lconst 1, 1, 0, 0, 1) ::
  (19, .invokestatic 160, 3, 169, 0, 1) ::
  (22, .ifCond .eq 28, 3, 50, 0, 0) ::
  (25, .iload_n 3, 1, 3, 0, 0) ::
  (26, .ifCond .ne 15, 3, 41, 0, 0) ::
  (29, .aload_n 0, 1, 0, 0, 0) ::
  (30, .iload 4, 2, 4, 0, 0) ::
  (32, .invokevirtual 196, 3, 173, 22, 1) ::
  (35, .ifCond .eq 15, 3, 50, 0, 0) ::
  (38, .goto 16, 3, 54, 0, 0) ::
  (41, .aload_n 0, 1, 0, 0, 0) ::
  (42, .iload 4, 2, 4, 0, 0) ::
  (44, .invokevirtual 181, 3, 172, 22, 1) ::
  (47, .ifCond .ne 7, 3, 54, 0, 0) ::
  (50, .ldc_w 490, 3, 0, 0, (-2000000000)) ::
  (53, .ireturn, 1, 0, 0, 0) ::
  (54, .aload_n 0, 1, 0, 0, 0) ::
  (55, .iload_n 1, 1, 1, 0, 0) ::
  (56, .iload_n 2, 1, 2, 0, 0) ::
  (57, .invokevirtual 412, 3, 219, 22, 0) ::
  (60, .aload_n 0, 1, 0, 0, 0) ::
  (61, .invokevirtual 474, 3, 224, 22, 0) ::
  (64, .iconst 0, 1, 0, 0, 0) ::
  (65, .istore 5, 2, 5, 0, 0) ::
  (67, .jsr 0, 0, 63, 0, 0) ::
  r_239_67
/-- 240 BlackSunModel.bits(I)I -/
def r_240_4 : List ax_E :=
  (4, .iload_n 2, 1, 2, 0, 0) ::
  (5, .ifCond .eq 15, 3, 20, 0, 0) ::
  (8, .iinc 1 1, 3, 1, 0, 1) ::
  (11, .iload_n 2, 1, 2, 0, 0) ::
  (12, .iload_n 2, 1, 2, 0, 0) ::
  (13, .iconst 1, 1, 0, 0, 1) ::
  (14, .isub, 1, 0, 0, 0) ::
  (15, .iand, 1, 0, 0, 0) ::
  (16, .istore_n 2, 1, 2, 0, 0) ::
  (17, .goto (-13), 3, 4, 0, 0) ::
  (20, .iload_n 1, 1, 1, 0, 0) ::
  (21, .ireturn, 1, 0, 0, 0) ::
  []
def r_240 : List ax_E :=
  (0, .iconst 0, 1, 0, 0, 0) ::
  (1, .istore_n 1, 1, 1, 0, 0) ::
  (2, .iload_n 0, 1, 0, 0, 0) ::
  (3, .istore_n 2, 1, 2, 0, 0) ::
  (4, .jsr 0, 0, 6, 0, 0) ::
  r_240_4
/-- 241 BlackSunModel.ruled(IIIII)I -/
def r_241_355 : List ax_E :=
  (355, .iload 13, 2, 13, 0, 0) ::
  (357, .iload 6, 2, 6, 0, 0) ::
  (359, .isub, 1, 0, 0, 0) ::
  (360, .iload 6, 2, 6, 0, 0) ::
  (362, .iand, 1, 0, 0, 0) ::
  (363, .istore 13, 2, 13, 0, 0) ::
  (365, .iload 13, 2, 13, 0, 0) ::
  (367, .ifCond .eq 7, 3, 374, 0, 0) ::
  (370, .iconst 1, 1, 0, 0, 1) ::
  (371, .goto 4, 3, 375, 0, 0) ::
  (374, .iconst 0, 1, 0, 0, 0) ::
  (375, .istore 14, 2, 14, 0, 0) ::
  (377, .goto (-216), 3, 161, 0, 0) ::
  (380, .iload 8, 2, 8, 0, 0) ::
  (382, .iconst (-1), 1, 0, 0, (-1)) ::
  (383, .if_icmp .ne 9, 3, 392, 0, 0) ::
  (386, .ldc_w 486, 3, 0, 0, (-1000000000)) ::
  (389, .goto 16, 3, 405, 0, 0) ::
  (392, .iload 5, 2, 5, 0, 0) ::
  (394, .ifCond .ne 8, 3, 402, 0, 0) ::
  (397, .iload 8, 2, 8, 0, 0) ::
  (399, .goto 6, 3, 405, 0, 0) ::
  (402, .lload 11, 2, 11, 0, 0) ::
  (404, .l2i, 1, 0, 0, 0) ::
  (405, .ireturn, 1, 0, 0, 0) ::
  []
def r_241_321 : List ax_E :=
  (321, .istore 8, 2, 8, 0, 0) ::
  (323, .iload 17, 2, 17, 0, 0) ::
  (325, .ifCond .eq 8, 3, 333, 0, 0) ::
  (328, .lload 15, 2, 15, 0, 0) ::
  (330, .goto 5, 3, 335, 0, 0) ::
  (333, .lload 9, 2, 9, 0, 0) ::
  (335, .lstore 9, 2, 9, 0, 0) ::
  (337, .iload 17, 2, 17, 0, 0) ::
  (339, .ifCond .eq 12, 3, 351, 0, 0) ::
  (342, .aload_n 0, 1, 0, 0, 0) ::
  (343, .getfield 103, 3, 11, 44, 0) ::
  (346, .iload_n 2, 1, 2, 0, 0) ::
  (347, .laload, 1, 0, 0, 0) ::
  (348, .goto 5, 3, 353, 0, 0) ::
  (351, .lload 11, 2, 11, 0, 0) ::
  (353, .lstore 11, 2, 11, 0, 0) ::
  (355, .jsr 0, 0, 11125, 0, 0) ::
  r_241_355
def r_241_265 : List ax_E :=
  (265, .lstore 15, 2, 15, 0, 0) ::
  (267, .iload 8, 2, 8, 0, 0) ::
  (269, .iconst (-1), 1, 0, 0, (-1)) ::
  (270, .if_icmp .eq 32, 3, 302, 0, 0) ::
  (273, .lload 15, 2, 15, 0, 0) ::
  (275, .lload 9, 2, 9, 0, 0) ::
  (277, .lcmp, 1, 0, 0, 0) ::
  (278, .ifCond .lt 24, 3, 302, 0, 0) ::
  (281, .lload 15, 2, 15, 0, 0) ::
  (283, .lload 9, 2, 9, 0, 0) ::
  (285, .lcmp, 1, 0, 0, 0) ::
  (286, .ifCond .ne 20, 3, 306, 0, 0) ::
  (289, .iload 13, 2, 13, 0, 0) ::
  (291, .invokestatic 501, 3, 240, 0, 1) ::
  (294, .iload 8, 2, 8, 0, 0) ::
  (296, .invokestatic 501, 3, 240, 0, 1) ::
  (299, .if_icmp .ge 7, 3, 306, 0, 0) ::
  (302, .iconst 1, 1, 0, 0, 1) ::
  (303, .goto 4, 3, 307, 0, 0) ::
  (306, .iconst 0, 1, 0, 0, 0) ::
  (307, .istore 17, 2, 17, 0, 0) ::
  (309, .iload 17, 2, 17, 0, 0) ::
  (311, .ifCond .eq 8, 3, 319, 0, 0) ::
  (314, .iload 13, 2, 13, 0, 0) ::
  (316, .goto 5, 3, 321, 0, 0) ::
  (319, .iload 8, 2, 8, 0, 0) ::
  (321, .jsr 0, 0, 174709, 0, 0) ::
  r_241_321
def r_241_169 : List ax_E :=
  (169, .iload 15, 2, 15, 0, 0) ::
  (171, .aload_n 0, 1, 0, 0, 0) ::
  (172, .getfield 193, 3, 11, 4, 0) ::
  (175, .if_icmp .ge 47, 3, 222, 0, 0) ::
  (178, .aload_n 0, 1, 0, 0, 0) ::
  (179, .getfield 115, 3, 11, 48, 0) ::
  (182, .iload 15, 2, 15, 0, 0) ::
  (184, .aload_n 0, 1, 0, 0, 0) ::
  (185, .getfield 84, 3, 11, 38, 0) ::
  (188, .iload 15, 2, 15, 0, 0) ::
  (190, .baload, 1, 19, 0, 0) ::
  (191, .ifCond .eq 19, 3, 210, 0, 0) ::
  (194, .iload 13, 2, 13, 0, 0) ::
  (196, .aload_n 0, 1, 0, 0, 0) ::
  (197, .getfield 28, 3, 11, 11, 0) ::
  (200, .iload 15, 2, 15, 0, 0) ::
  (202, .iaload, 1, 0, 0, 0) ::
  (203, .ishr, 1, 0, 0, 0) ::
  (204, .iconst 1, 1, 0, 0, 1) ::
  (205, .iand, 1, 0, 0, 0) ::
  (206, .iconst 1, 1, 0, 0, 1) ::
  (207, .if_icmp .ne 7, 3, 214, 0, 0) ::
  (210, .iconst 1, 1, 0, 0, 1) ::
  (211, .goto 4, 3, 215, 0, 0) ::
  (214, .iconst 0, 1, 0, 0, 0) ::
  (215, .bastore, 1, 19, 0, 0) ::
  (216, .iinc 15 1, 3, 15, 0, 1) ::
  (219, .goto (-50), 3, 169, 0, 0) ::
  (222, .aload_n 0, 1, 0, 0, 0) ::
  (223, .invokevirtual 481, 3, 233, 22, 1) ::
  (226, .ifCond .eq 129, 3, 355, 0, 0) ::
  (229, .aload_n 0, 1, 0, 0, 0) ::
  (230, .getfield 103, 3, 11, 44, 0) ::
  (233, .iload_n 2, 1, 2, 0, 0) ::
  (234, .laload, 1, 0, 0, 0) ::
  (235, .iload 4, 2, 4, 0, 0) ::
  (237, .i2l, 1, 0, 0, 0) ::
  (238, .lcmp, 1, 0, 0, 0) ::
  (239, .ifCond .le 16, 3, 255, 0, 0) ::
  (242, .aload_n 0, 1, 0, 0, 0) ::
  (243, .getfield 103, 3, 11, 44, 0) ::
  (246, .iload_n 2, 1, 2, 0, 0) ::
  (247, .laload, 1, 0, 0, 0) ::
  (248, .iload 4, 2, 4, 0, 0) ::
  (250, .i2l, 1, 0, 0, 0) ::
  (251, .lsub, 1, 0, 0, 0) ::
  (252, .goto 13, 3, 265, 0, 0) ::
  (255, .iload 4, 2, 4, 0, 0) ::
  (257, .i2l, 1, 0, 0, 0) ::
  (258, .aload_n 0, 1, 0, 0, 0) ::
  (259, .getfield 103, 3, 11, 44, 0) ::
  (262, .iload_n 2, 1, 2, 0, 0) ::
  (263, .laload, 1, 0, 0, 0) ::
  (264, .lsub, 1, 0, 0, 0) ::
  (265, .jsr 0, 0, 11125, 0, 0) ::
  r_241_265
def r_241_161 : List ax_E :=
  (161, .iload 14, 2, 14, 0, 0) ::
  (163, .ifCond .eq 217, 3, 380, 0, 0) ::
  (166, .iconst 0, 1, 0, 0, 0) ::
  (167, .istore 15, 2, 15, 0, 0) ::
  (169, .jsr 0, 0, 43893, 0, 0) ::
  r_241_169
def r_241_76 : List ax_E :=
  (76, .iload 8, 2, 8, 0, 0) ::
  (78, .aload_n 0, 1, 0, 0, 0) ::
  (79, .getfield 170, 3, 11, 3, 0) ::
  (82, .if_icmp .ge 39, 3, 121, 0, 0) ::
  (85, .aload_n 0, 1, 0, 0, 0) ::
  (86, .getfield 22, 3, 11, 9, 0) ::
  (89, .iload 8, 2, 8, 0, 0) ::
  (91, .iaload, 1, 0, 0, 0) ::
  (92, .iconst 2, 1, 0, 0, 2) ::
  (93, .if_icmp .eq 22, 3, 115, 0, 0) ::
  (96, .iload 7, 2, 7, 0, 0) ::
  (98, .bipush 8, 2, 0, 0, 8) ::
  (100, .if_icmp .ge 15, 3, 115, 0, 0) ::
  (103, .iload 6, 2, 6, 0, 0) ::
  (105, .iconst 1, 1, 0, 0, 1) ::
  (106, .iload 8, 2, 8, 0, 0) ::
  (108, .ishl, 1, 0, 0, 0) ::
  (109, .ior, 1, 0, 0, 0) ::
  (110, .istore 6, 2, 6, 0, 0) ::
  (112, .iinc 7 1, 3, 7, 0, 1) ::
  (115, .iinc 8 1, 3, 8, 0, 1) ::
  (118, .goto (-42), 3, 76, 0, 0) ::
  (121, .aload_n 0, 1, 0, 0, 0) ::
  (122, .iload_n 1, 1, 1, 0, 0) ::
  (123, .iload_n 3, 1, 3, 0, 0) ::
  (124, .invokevirtual 412, 3, 219, 22, 0) ::
  (127, .aload_n 0, 1, 0, 0, 0) ::
  (128, .invokevirtual 474, 3, 224, 22, 0) ::
  (131, .aload_n 0, 1, 0, 0, 0) ::
  (132, .iload_n 1, 1, 1, 0, 0) ::
  (133, .iload_n 3, 1, 3, 0, 0) ::
  (134, .iconst 0, 1, 0, 0, 0) ::
  (135, .iconst 0, 1, 0, 0, 0) ::
  (136, .invokevirtual 477, 3, 223, 22, 1) ::
  (139, .ifCond .ne 7, 3, 146, 0, 0) ::
  (142, .ldc_w 486, 3, 0, 0, (-1000000000)) ::
  (145, .ireturn, 1, 0, 0, 0) ::
  (146, .iconst (-1), 1, 0, 0, (-1)) ::
  (147, .istore 8, 2, 8, 0, 0) ::
  (149, .lconst 0, 1, 0, 0, 0) ::
  (150, .lstore 9, 2, 9, 0, 0) ::
  (152, .lconst 0, 1, 0, 0, 0) ::
  (153, .lstore 11, 2, 11, 0, 0) ::
  (155, .iconst 0, 1, 0, 0, 0) ::
  (156, .istore 13, 2, 13, 0, 0) ::
  (158, .iconst 1, 1, 0, 0, 1) ::
  (159, .istore 14, 2, 14, 0, 0) ::
  (161, .jsr 0, 0, 27509, 0, 0) ::
  r_241_161
def r_241 : List ax_E :=
  (0, .aload_n 0, 1, 0, 0, 0) ::
  (1, .iload_n 1, 1, 1, 0, 0) ::
  (2, .invokevirtual 384, 3, 211, 22, 1) ::
  (5, .ifCond .eq 58, 3, 63, 0, 0) ::
  (8, .iload_n 2, 1, 2, 0, 0) ::
  (9, .invokestatic 387, 3, 212, 0, 1) ::
  (12, .ifCond .eq 51, 3, 63, 0, 0) ::
  (15, .aload_n 0, 1, 0, 0, 0) ::
  (16, .getfield 68, 3, 11, 33, 0) ::
  (19, .bipush 6, 2, 0, 0, 6) ::
  (21, .iload_n 1, 1, 1, 0, 0) ::
  (22, .imul, 1, 0, 0, 0) ::
  (23, .iload_n 2, 1, 2, 0, 0) ::
  (24, .iadd, 1, 0, 0, 0) ::
  (25, .iaload, 1, 0, 0, 0) ::
  (26, .iconst 1, 1, 0, 0, 1) ::
  (27, .if_icmp .ne 36, 3, 63, 0, 0) ::
  (30, .iload_n 3, 1, 3, 0, 0) ::
  (31, .invokestatic 210, 3, 170, 0, 1) ::
  (34, .ifCond .eq 29, 3, 63, 0, 0) ::
  (37, .iload 4, 2, 4, 0, 0) ::
  (39, .i2l, 1, 0, 0, 0) ::
  (40, .ldc2_w 497, 3, 0, 0, (-99999)) ::
  (43, .ldc2_w 499, 3, 0, 0, 99999) ::
  (46, .invokestatic 160, 3, 169, 0, 1) ::
  (49, .ifCond .eq 14, 3, 63, 0, 0) ::
  (52, .iload 5, 2, 5, 0, 0) ::
  (54, .i2l, 1, 0, 0, 0) ::
  (55, .lconst 0, 1, 0, 0, 0) ::
  (56, .lconst 1, 1, 0, 0, 1) ::
  (57, .invokestatic 160, 3, 169, 0, 1) ::
  (60, .ifCond .ne 7, 3, 67, 0, 0) ::
  (63, .ldc_w 490, 3, 0, 0, (-2000000000)) ::
  (66, .ireturn, 1, 0, 0, 0) ::
  (67, .iconst 0, 1, 0, 0, 0) ::
  (68, .istore 6, 2, 6, 0, 0) ::
  (70, .iconst 0, 1, 0, 0, 0) ::
  (71, .istore 7, 2, 7, 0, 0) ::
  (73, .iconst 0, 1, 0, 0, 0) ::
  (74, .istore 8, 2, 8, 0, 0) ::
  (76, .jsr 0, 0, 511, 0, 0) ::
  r_241_76
/-- 242 BlackSunModel.three(IIIII)I -/
def r_242_146 : List ax_E :=
  (146, .istore 12, 2, 12, 0, 0) ::
  (148, .iload 12, 2, 12, 0, 0) ::
  (150, .ifCond .eq 8, 3, 158, 0, 0) ::
  (153, .iload 9, 2, 9, 0, 0) ::
  (155, .goto 5, 3, 160, 0, 0) ::
  (158, .iload 6, 2, 6, 0, 0) ::
  (160, .istore 6, 2, 6, 0, 0) ::
  (162, .iload 12, 2, 12, 0, 0) ::
  (164, .ifCond .eq 8, 3, 172, 0, 0) ::
  (167, .lload 10, 2, 10, 0, 0) ::
  (169, .goto 5, 3, 174, 0, 0) ::
  (172, .lload 7, 2, 7, 0, 0) ::
  (174, .lstore 7, 2, 7, 0, 0) ::
  (176, .iinc 9 1, 3, 9, 0, 1) ::
  (179, .goto (-104), 3, 75, 0, 0) ::
  (182, .iload 6, 2, 6, 0, 0) ::
  (184, .ireturn, 1, 0, 0, 0) ::
  []
def r_242_107 : List ax_E :=
  (107, .invokevirtual 477, 3, 223, 22, 1) ::
  (110, .ifCond .eq 66, 3, 176, 0, 0) ::
  (113, .aload_n 0, 1, 0, 0, 0) ::
  (114, .invokevirtual 481, 3, 233, 22, 1) ::
  (117, .ifCond .eq 59, 3, 176, 0, 0) ::
  (120, .aload_n 0, 1, 0, 0, 0) ::
  (121, .invokevirtual 491, 3, 234, 22, 2) ::
  (124, .lstore 10, 2, 10, 0, 0) ::
  (126, .iload 6, 2, 6, 0, 0) ::
  (128, .bipush (-2), 2, 0, 0, (-2)) ::
  (130, .if_icmp .eq 11, 3, 141, 0, 0) ::
  (133, .lload 10, 2, 10, 0, 0) ::
  (135, .lload 7, 2, 7, 0, 0) ::
  (137, .lcmp, 1, 0, 0, 0) ::
  (138, .ifCond .ge 7, 3, 145, 0, 0) ::
  (141, .iconst 1, 1, 0, 0, 1) ::
  (142, .goto 4, 3, 146, 0, 0) ::
  (145, .iconst 0, 1, 0, 0, 0) ::
  (146, .jsr 0, 0, 1791, 0, 0) ::
  r_242_146
def r_242_75 : List ax_E :=
  (75, .iload 9, 2, 9, 0, 0) ::
  (77, .iconst 3, 1, 0, 0, 3) ::
  (78, .if_icmp .ge 104, 3, 182, 0, 0) ::
  (81, .aload_n 0, 1, 0, 0, 0) ::
  (82, .iload_n 1, 1, 1, 0, 0) ::
  (83, .iload_n 2, 1, 2, 0, 0) ::
  (84, .iconst 1, 1, 0, 0, 1) ::
  (85, .iload 9, 2, 9, 0, 0) ::
  (87, .ifCond .ne 7, 3, 94, 0, 0) ::
  (90, .iload_n 3, 1, 3, 0, 0) ::
  (91, .goto 16, 3, 107, 0, 0) ::
  (94, .iload 9, 2, 9, 0, 0) ::
  (96, .iconst 1, 1, 0, 0, 1) ::
  (97, .if_icmp .ne 8, 3, 105, 0, 0) ::
  (100, .iload 4, 2, 4, 0, 0) ::
  (102, .goto 5, 3, 107, 0, 0) ::
  (105, .iload 5, 2, 5, 0, 0) ::
  (107, .jsr 0, 0, 767, 0, 0) ::
  r_242_107
def r_242 : List ax_E :=
  (0, .aload_n 0, 1, 0, 0, 0) ::
  (1, .iload_n 1, 1, 1, 0, 0) ::
  (2, .invokevirtual 384, 3, 211, 22, 1) ::
  (5, .ifCond .eq 48, 3, 53, 0, 0) ::
  (8, .iload_n 2, 1, 2, 0, 0) ::
  (9, .invokestatic 210, 3, 170, 0, 1) ::
  (12, .ifCond .eq 41, 3, 53, 0, 0) ::
  (15, .iload_n 3, 1, 3, 0, 0) ::
  (16, .i2l, 1, 0, 0, 0) ::
  (17, .lconst 0, 1, 0, 0, 0) ::
  (18, .ldc2_w 499, 3, 0, 0, 99999) ::
  (21, .invokestatic 160, 3, 169, 0, 1) ::
  (24, .ifCond .eq 29, 3, 53, 0, 0) ::
  (27, .iload 4, 2, 4, 0, 0) ::
  (29, .i2l, 1, 0, 0, 0) ::
  (30, .lconst 0, 1, 0, 0, 0) ::
  (31, .ldc2_w 499, 3, 0, 0, 99999) ::
  (34, .invokestatic 160, 3, 169, 0, 1) ::
  (37, .ifCond .eq 16, 3, 53, 0, 0) ::
  (40, .iload 5, 2, 5, 0, 0) ::
  (42, .i2l, 1, 0, 0, 0) ::
  (43, .lconst 0, 1, 0, 0, 0) ::
  (44, .ldc2_w 499, 3, 0, 0, 99999) ::
  (47, .invokestatic 160, 3, 169, 0, 1) ::
  (50, .ifCond .ne 5, 3, 55, 0, 0) ::
  (53, .iconst (-1), 1, 0, 0, (-1)) ::
  (54, .ireturn, 1, 0, 0, 0) ::
  (55, .aload_n 0, 1, 0, 0, 0) ::
  (56, .iload_n 1, 1, 1, 0, 0) ::
  (57, .iload_n 2, 1, 2, 0, 0) ::
  (58, .invokevirtual 412, 3, 219, 22, 0) ::
  (61, .aload_n 0, 1, 0, 0, 0) ::
  (62, .invokevirtual 474, 3, 224, 22, 0) ::
  (65, .bipush (-2), 2, 0, 0, (-2)) ::
  (67, .istore 6, 2, 6, 0, 0) ::
  (69, .lconst 0, 1, 0, 0, 0) ::
  (70, .lstore 7, 2, 7, 0, 0) ::
  (72, .iconst 0, 1, 0, 0, 0) ::
  (73, .istore 9, 2, 9, 0, 0) ::
  (75, .jsr 0, 0, 767, 0, 0) ::
  r_242_75
/-- 243 BlackSunModel.divisor(JJ)J -/
def r_243_28 : List ax_E :=
  (28, .lload 6, 2, 6, 0, 0) ::
  (30, .lconst 0, 1, 0, 0, 0) ::
  (31, .lcmp, 1, 0, 0, 0) ::
  (32, .ifCond .eq 21, 3, 53, 0, 0) ::
  (35, .lload 4, 2, 4, 0, 0) ::
  (37, .lload 6, 2, 6, 0, 0) ::
  (39, .lrem, 1, 0, 0, 0) ::
  (40, .lstore 8, 2, 8, 0, 0) ::
  (42, .lload 6, 2, 6, 0, 0) ::
  (44, .lstore 4, 2, 4, 0, 0) ::
  (46, .lload 8, 2, 8, 0, 0) ::
  (48, .lstore 6, 2, 6, 0, 0) ::
  (50, .goto (-22), 3, 28, 0, 0) ::
  (53, .lload 4, 2, 4, 0, 0) ::
  (55, .lreturn, 1, 0, 0, 0) ::
  []
def r_243 : List ax_E :=
  (0, .lload_n 0, 1, 0, 0, 0) ::
  (1, .lconst 0, 1, 0, 0, 0) ::
  (2, .lcmp, 1, 0, 0, 0) ::
  (3, .ifCond .ge 8, 3, 11, 0, 0) ::
  (6, .lload_n 0, 1, 0, 0, 0) ::
  (7, .lneg, 1, 0, 0, 0) ::
  (8, .goto 4, 3, 12, 0, 0) ::
  (11, .lload_n 0, 1, 0, 0, 0) ::
  (12, .lstore 4, 2, 4, 0, 0) ::
  (14, .lload_n 2, 1, 2, 0, 0) ::
  (15, .lconst 0, 1, 0, 0, 0) ::
  (16, .lcmp, 1, 0, 0, 0) ::
  (17, .ifCond .ge 8, 3, 25, 0, 0) ::
  (20, .lload_n 2, 1, 2, 0, 0) ::
  (21, .lneg, 1, 0, 0, 0) ::
  (22, .goto 4, 3, 26, 0, 0) ::
  (25, .lload_n 2, 1, 2, 0, 0) ::
  (26, .lstore 6, 2, 6, 0, 0) ::
  (28, .jsr 0, 0, 80, 0, 0) ::
  r_243_28
/-- 244 BlackSunModel.known(II)V -/
def r_244_23 : List ax_E :=
  (23, .iload_n 3, 1, 3, 0, 0) ::
  (24, .aload_n 0, 1, 0, 0, 0) ::
  (25, .getfield 193, 3, 11, 4, 0) ::
  (28, .if_icmp .ge 41, 3, 69, 0, 0) ::
  (31, .aload_n 0, 1, 0, 0, 0) ::
  (32, .getfield 28, 3, 11, 11, 0) ::
  (35, .iload_n 3, 1, 3, 0, 0) ::
  (36, .iaload, 1, 0, 0, 0) ::
  (37, .iload_n 1, 1, 1, 0, 0) ::
  (38, .if_icmp .ne 25, 3, 63, 0, 0) ::
  (41, .aload_n 0, 1, 0, 0, 0) ::
  (42, .getfield 43, 3, 11, 16, 0) ::
  (45, .iload_n 3, 1, 3, 0, 0) ::
  (46, .iaload, 1, 0, 0, 0) ::
  (47, .iload_n 2, 1, 2, 0, 0) ::
  (48, .if_icmp .gt 15, 3, 63, 0, 0) ::
  (51, .aload_n 0, 1, 0, 0, 0) ::
  (52, .getfield 118, 3, 11, 53, 0) ::
  (55, .aload_n 0, 1, 0, 0, 0) ::
  (56, .getfield 31, 3, 11, 12, 0) ::
  (59, .iload_n 3, 1, 3, 0, 0) ::
  (60, .iaload, 1, 0, 0, 0) ::
  (61, .iconst 1, 1, 0, 0, 1) ::
  (62, .bastore, 1, 19, 0, 0) ::
  (63, .iinc 3 1, 3, 3, 0, 1) ::
  (66, .goto (-43), 3, 23, 0, 0) ::
  (69, .return_, 1, 0, 0, 0) ::
  []
def r_244_2 : List ax_E :=
  (2, .iload_n 3, 1, 3, 0, 0) ::
  (3, .bipush 30, 2, 0, 0, 30) ::
  (5, .if_icmp .ge 16, 3, 21, 0, 0) ::
  (8, .aload_n 0, 1, 0, 0, 0) ::
  (9, .getfield 118, 3, 11, 53, 0) ::
  (12, .iload_n 3, 1, 3, 0, 0) ::
  (13, .iconst 0, 1, 0, 0, 0) ::
  (14, .bastore, 1, 19, 0, 0) ::
  (15, .iinc 3 1, 3, 3, 0, 1) ::
  (18, .goto (-16), 3, 2, 0, 0) ::
  (21, .iconst 0, 1, 0, 0, 0) ::
  (22, .istore_n 3, 1, 3, 0, 0) ::
  (23, .jsr 0, 0, 15, 0, 0) ::
  r_244_23
def r_244 : List ax_E :=
  (0, .iconst 0, 1, 0, 0, 0) ::
  (1, .istore_n 3, 1, 3, 0, 0) ::
  (2, .jsr 0, 0, 15, 0, 0) ::
  r_244_2
/-- 245 BlackSunModel.mixes()V -/
def r_245_143 : List ax_E :=
  (143, .aload_n 0, 1, 0, 0, 0) ::
  (144, .getfield 504, 3, 11, 54, 0) ::
  (147, .aload_n 0, 1, 0, 0, 0) ::
  (148, .getfield 507, 3, 11, 55, 0) ::
  (151, .invokestatic 510, 3, 243, 0, 2) ::
  (154, .lstore 7, 2, 7, 0, 0) ::
  (156, .aload_n 0, 1, 0, 0, 0) ::
  (157, .dup, 1, 0, 0, 0) ::
  (158, .getfield 504, 3, 11, 54, 0) ::
  (161, .lload 7, 2, 7, 0, 0) ::
  (163, .ldiv, 1, 0, 0, 0) ::
  (164, .putfield 504, 3, 11, 54, 0) ::
  (167, .aload_n 0, 1, 0, 0, 0) ::
  (168, .dup, 1, 0, 0, 0) ::
  (169, .getfield 507, 3, 11, 55, 0) ::
  (172, .lload 7, 2, 7, 0, 0) ::
  (174, .ldiv, 1, 0, 0, 0) ::
  (175, .putfield 507, 3, 11, 55, 0) ::
  (178, .return_, 1, 0, 0, 0) ::
  []
def r_245_22 : List ax_E :=
  (22, .iload 8, 2, 8, 0, 0) ::
  (24, .iconst 2, 1, 0, 0, 2) ::
  (25, .if_icmp .ge 69, 3, 94, 0, 0) ::
  (28, .aload_n 0, 1, 0, 0, 0) ::
  (29, .getfield 118, 3, 11, 53, 0) ::
  (32, .iload 7, 2, 7, 0, 0) ::
  (34, .baload, 1, 19, 0, 0) ::
  (35, .ifCond .eq 59, 3, 94, 0, 0) ::
  (38, .aload_n 0, 1, 0, 0, 0) ::
  (39, .iconst 2, 1, 0, 0, 2) ::
  (40, .iload 7, 2, 7, 0, 0) ::
  (42, .iload 8, 2, 8, 0, 0) ::
  (44, .invokevirtual 215, 3, 183, 22, 1) ::
  (47, .i2l, 1, 0, 0, 0) ::
  (48, .lstore 9, 2, 9, 0, 0) ::
  (50, .aload_n 0, 1, 0, 0, 0) ::
  (51, .iconst 4, 1, 0, 0, 4) ::
  (52, .iload 7, 2, 7, 0, 0) ::
  (54, .iload 8, 2, 8, 0, 0) ::
  (56, .invokevirtual 215, 3, 183, 22, 1) ::
  (59, .i2l, 1, 0, 0, 0) ::
  (60, .lstore 11, 2, 11, 0, 0) ::
  (62, .lload_n 1, 1, 1, 0, 0) ::
  (63, .lload 9, 2, 9, 0, 0) ::
  (65, .lload 11, 2, 11, 0, 0) ::
  (67, .lmul, 1, 0, 0, 0) ::
  (68, .ladd, 1, 0, 0, 0) ::
  (69, .lstore_n 1, 1, 1, 0, 0) ::
  (70, .lload_n 3, 1, 3, 0, 0) ::
  (71, .lload 9, 2, 9, 0, 0) ::
  (73, .lload 9, 2, 9, 0, 0) ::
  (75, .lmul, 1, 0, 0, 0) ::
  (76, .ladd, 1, 0, 0, 0) ::
  (77, .lstore_n 3, 1, 3, 0, 0) ::
  (78, .lload 5, 2, 5, 0, 0) ::
  (80, .lload 11, 2, 11, 0, 0) ::
  (82, .lload 11, 2, 11, 0, 0) ::
  (84, .lmul, 1, 0, 0, 0) ::
  (85, .ladd, 1, 0, 0, 0) ::
  (86, .lstore 5, 2, 5, 0, 0) ::
  (88, .iinc 8 1, 3, 8, 0, 1) ::
  (91, .goto (-69), 3, 22, 0, 0) ::
  (94, .iinc 7 1, 3, 7, 0, 1) ::
  (97, .goto (-87), 3, 10, 0, 0) ::
  (100, .aload_n 0, 1, 0, 0, 0) ::
  (101, .lload_n 1, 1, 1, 0, 0) ::
  (102, .lload_n 1, 1, 1, 0, 0) ::
  (103, .lmul, 1, 0, 0, 0) ::
  (104, .putfield 504, 3, 11, 54, 0) ::
  (107, .aload_n 0, 1, 0, 0, 0) ::
  (108, .lload_n 3, 1, 3, 0, 0) ::
  (109, .lload 5, 2, 5, 0, 0) ::
  (111, .lmul, 1, 0, 0, 0) ::
  (112, .putfield 507, 3, 11, 55, 0) ::
  (115, .aload_n 0, 1, 0, 0, 0) ::
  (116, .getfield 504, 3, 11, 54, 0) ::
  (119, .lconst 0, 1, 0, 0, 0) ::
  (120, .lcmp, 1, 0, 0, 0) ::
  (121, .ifCond .eq 12, 3, 133, 0, 0) ::
  (124, .aload_n 0, 1, 0, 0, 0) ::
  (125, .getfield 507, 3, 11, 55, 0) ::
  (128, .lconst 0, 1, 0, 0, 0) ::
  (129, .lcmp, 1, 0, 0, 0) ::
  (130, .ifCond .ne 13, 3, 143, 0, 0) ::
  (133, .aload_n 0, 1, 0, 0, 0) ::
  (134, .lconst 0, 1, 0, 0, 0) ::
  (135, .putfield 504, 3, 11, 54, 0) ::
  (138, .aload_n 0, 1, 0, 0, 0) ::
  (139, .lconst 1, 1, 0, 0, 1) ::
  (140, .putfield 507, 3, 11, 55, 0) ::
  (143, .jsr 0, 0, 1, 0, 0) ::
  r_245_143
def r_245_10 : List ax_E :=
  (10, .iload 7, 2, 7, 0, 0) ::
  (12, .aload_n 0, 1, 0, 0, 0) ::
  (13, .getfield 167, 3, 11, 2, 0) ::
  (16, .if_icmp .ge 84, 3, 100, 0, 0) ::
  (19, .iconst 0, 1, 0, 0, 0) ::
  (20, .istore 8, 2, 8, 0, 0) ::
  (22, .jsr 0, 0, 427, 0, 0) ::
  r_245_22
def r_245 : List ax_E :=
  (0, .lconst 0, 1, 0, 0, 0) ::
  (1, .lstore_n 1, 1, 1, 0, 0) ::
  (2, .lconst 0, 1, 0, 0, 0) ::
  (3, .lstore_n 3, 1, 3, 0, 0) ::
  (4, .lconst 0, 1, 0, 0, 0) ::
  (5, .lstore 5, 2, 5, 0, 0) ::
  (7, .iconst 0, 1, 0, 0, 0) ::
  (8, .istore 7, 2, 7, 0, 0) ::
  (10, .jsr 0, 0, 171, 0, 0) ::
  r_245_10
/-- 246 BlackSunModel.mixed(III)J -/
def r_246 : List ax_E :=
  (0, .aload_n 0, 1, 0, 0, 0) ::
  (1, .iload_n 1, 1, 1, 0, 0) ::
  (2, .invokevirtual 196, 3, 173, 22, 1) ::
  (5, .ifCond .eq 20, 3, 25, 0, 0) ::
  (8, .iload_n 2, 1, 2, 0, 0) ::
  (9, .invokestatic 210, 3, 170, 0, 1) ::
  (12, .ifCond .eq 13, 3, 25, 0, 0) ::
  (15, .iload_n 3, 1, 3, 0, 0) ::
  (16, .i2l, 1, 0, 0, 0) ::
  (17, .lconst 0, 1, 0, 0, 0) ::
  (18, .lconst 1, 1, 0, 0, 1) ::
  (19, .invokestatic 160, 3, 169, 0, 1) ::
  (22, .ifCond .ne 7, 3, 29, 0, 0) ::
  (25, .ldc2_w 495, 3, 0, 0, (-1)) ::
  (28, .lreturn, 1, 0, 0, 0) ::
  (29, .aload_n 0, 1, 0, 0, 0) ::
  (30, .iload_n 1, 1, 1, 0, 0) ::
  (31, .iload_n 2, 1, 2, 0, 0) ::
  (32, .invokevirtual 513, 3, 244, 22, 0) ::
  (35, .aload_n 0, 1, 0, 0, 0) ::
  (36, .invokevirtual 516, 3, 245, 22, 0) ::
  (39, .iload_n 3, 1, 3, 0, 0) ::
  (40, .ifCond .ne 10, 3, 50, 0, 0) ::
  (43, .aload_n 0, 1, 0, 0, 0) ::
  (44, .getfield 504, 3, 11, 54, 0) ::
  (47, .goto 7, 3, 54, 0, 0) ::
  (50, .aload_n 0, 1, 0, 0, 0) ::
  (51, .getfield 507, 3, 11, 55, 0) ::
  (54, .lreturn, 1, 0, 0, 0) ::
  []
/-- 247 BlackSunModel.parter(II)I -/
def r_247_34 : List ax_E :=
  (34, .iload 8, 2, 8, 0, 0) ::
  (36, .aload_n 0, 1, 0, 0, 0) ::
  (37, .getfield 167, 3, 11, 2, 0) ::
  (40, .if_icmp .ge 77, 3, 117, 0, 0) ::
  (43, .aload_n 0, 1, 0, 0, 0) ::
  (44, .getfield 118, 3, 11, 53, 0) ::
  (47, .iload 8, 2, 8, 0, 0) ::
  (49, .baload, 1, 19, 0, 0) ::
  (50, .ifCond .ne 61, 3, 111, 0, 0) ::
  (53, .aload_n 0, 1, 0, 0, 0) ::
  (54, .getfield 118, 3, 11, 53, 0) ::
  (57, .iload 8, 2, 8, 0, 0) ::
  (59, .iconst 1, 1, 0, 0, 1) ::
  (60, .bastore, 1, 19, 0, 0) ::
  (61, .aload_n 0, 1, 0, 0, 0) ::
  (62, .invokevirtual 516, 3, 245, 22, 0) ::
  (65, .aload_n 0, 1, 0, 0, 0) ::
  (66, .getfield 118, 3, 11, 53, 0) ::
  (69, .iload 8, 2, 8, 0, 0) ::
  (71, .iconst 0, 1, 0, 0, 0) ::
  (72, .bastore, 1, 19, 0, 0) ::
  (73, .iload_n 3, 1, 3, 0, 0) ::
  (74, .iconst (-1), 1, 0, 0, (-1)) ::
  (75, .if_icmp .eq 21, 3, 96, 0, 0) ::
  (78, .aload_n 0, 1, 0, 0, 0) ::
  (79, .getfield 504, 3, 11, 54, 0) ::
  (82, .lload 6, 2, 6, 0, 0) ::
  (84, .lmul, 1, 0, 0, 0) ::
  (85, .lload 4, 2, 4, 0, 0) ::
  (87, .aload_n 0, 1, 0, 0, 0) ::
  (88, .getfield 507, 3, 11, 55, 0) ::
  (91, .lmul, 1, 0, 0, 0) ::
  (92, .lcmp, 1, 0, 0, 0) ::
  (93, .ifCond .ge 18, 3, 111, 0, 0) ::
  (96, .iload 8, 2, 8, 0, 0) ::
  (98, .istore_n 3, 1, 3, 0, 0) ::
  (99, .aload_n 0, 1, 0, 0, 0) ::
  (100, .getfield 504, 3, 11, 54, 0) ::
  (103, .lstore 4, 2, 4, 0, 0) ::
  (105, .aload_n 0, 1, 0, 0, 0) ::
  (106, .getfield 507, 3, 11, 55, 0) ::
  (109, .lstore 6, 2, 6, 0, 0) ::
  (111, .iinc 8 1, 3, 8, 0, 1) ::
  (114, .goto (-80), 3, 34, 0, 0) ::
  (117, .iload_n 3, 1, 3, 0, 0) ::
  (118, .ireturn, 1, 0, 0, 0) ::
  []
def r_247 : List ax_E :=
  (0, .aload_n 0, 1, 0, 0, 0) ::
  (1, .iload_n 1, 1, 1, 0, 0) ::
  (2, .invokevirtual 196, 3, 173, 22, 1) ::
  (5, .ifCond .eq 10, 3, 15, 0, 0) ::
  (8, .iload_n 2, 1, 2, 0, 0) ::
  (9, .invokestatic 210, 3, 170, 0, 1) ::
  (12, .ifCond .ne 5, 3, 17, 0, 0) ::
  (15, .iconst (-1), 1, 0, 0, (-1)) ::
  (16, .ireturn, 1, 0, 0, 0) ::
  (17, .aload_n 0, 1, 0, 0, 0) ::
  (18, .iload_n 1, 1, 1, 0, 0) ::
  (19, .iload_n 2, 1, 2, 0, 0) ::
  (20, .invokevirtual 513, 3, 244, 22, 0) ::
  (23, .iconst (-1), 1, 0, 0, (-1)) ::
  (24, .istore_n 3, 1, 3, 0, 0) ::
  (25, .lconst 0, 1, 0, 0, 0) ::
  (26, .lstore 4, 2, 4, 0, 0) ::
  (28, .lconst 1, 1, 0, 0, 1) ::
  (29, .lstore 6, 2, 6, 0, 0) ::
  (31, .iconst 0, 1, 0, 0, 0) ::
  (32, .istore 8, 2, 8, 0, 0) ::
  (34, .jsr 0, 0, 345, 0, 0) ::
  r_247_34
/-- 248 BlackSunModel.usable(III)I -/
def r_248_44 : List ax_E :=
  (44, .iload 5, 2, 5, 0, 0) ::
  (46, .aload_n 0, 1, 0, 0, 0) ::
  (47, .getfield 193, 3, 11, 4, 0) ::
  (50, .if_icmp .ge 97, 3, 147, 0, 0) ::
  (53, .aload_n 0, 1, 0, 0, 0) ::
  (54, .getfield 28, 3, 11, 11, 0) ::
  (57, .iload 5, 2, 5, 0, 0) ::
  (59, .iaload, 1, 0, 0, 0) ::
  (60, .istore 6, 2, 6, 0, 0) ::
  (62, .aload_n 0, 1, 0, 0, 0) ::
  (63, .getfield 25, 3, 11, 10, 0) ::
  (66, .iload 6, 2, 6, 0, 0) ::
  (68, .iaload, 1, 0, 0, 0) ::
  (69, .aload_n 0, 1, 0, 0, 0) ::
  (70, .getfield 25, 3, 11, 10, 0) ::
  (73, .iload_n 1, 1, 1, 0, 0) ::
  (74, .iaload, 1, 0, 0, 0) ::
  (75, .isub, 1, 0, 0, 0) ::
  (76, .istore 7, 2, 7, 0, 0) ::
  (78, .iload 4, 2, 4, 0, 0) ::
  (80, .ifCond .ne 54, 3, 134, 0, 0) ::
  (83, .aload_n 0, 1, 0, 0, 0) ::
  (84, .getfield 22, 3, 11, 9, 0) ::
  (87, .iload 6, 2, 6, 0, 0) ::
  (89, .iaload, 1, 0, 0, 0) ::
  (90, .iconst 2, 1, 0, 0, 2) ::
  (91, .if_icmp .ne 47, 3, 138, 0, 0) ::
  (94, .aload_n 0, 1, 0, 0, 0) ::
  (95, .getfield 19, 3, 11, 8, 0) ::
  (98, .iload 6, 2, 6, 0, 0) ::
  (100, .iaload, 1, 0, 0, 0) ::
  (101, .aload_n 0, 1, 0, 0, 0) ::
  (102, .getfield 19, 3, 11, 8, 0) ::
  (105, .iload_n 1, 1, 1, 0, 0) ::
  (106, .iaload, 1, 0, 0, 0) ::
  (107, .if_icmp .ne 31, 3, 138, 0, 0) ::
  (110, .iload 7, 2, 7, 0, 0) ::
  (112, .iload_n 3, 1, 3, 0, 0) ::
  (113, .if_icmp .gt 25, 3, 138, 0, 0) ::
  (116, .iload 7, 2, 7, 0, 0) ::
  (118, .ineg, 1, 0, 0, 0) ::
  (119, .iload_n 3, 1, 3, 0, 0) ::
  (120, .if_icmp .gt 18, 3, 138, 0, 0) ::
  (123, .aload_n 0, 1, 0, 0, 0) ::
  (124, .getfield 43, 3, 11, 16, 0) ::
  (127, .iload 5, 2, 5, 0, 0) ::
  (129, .iaload, 1, 0, 0, 0) ::
  (130, .iload_n 2, 1, 2, 0, 0) ::
  (131, .if_icmp .gt 7, 3, 138, 0, 0) ::
  (134, .iconst 1, 1, 0, 0, 1) ::
  (135, .goto 4, 3, 139, 0, 0) ::
  (138, .iconst 0, 1, 0, 0, 0) ::
  (139, .istore 4, 2, 4, 0, 0) ::
  (141, .iinc 5 1, 3, 5, 0, 1) ::
  (144, .goto (-100), 3, 44, 0, 0) ::
  (147, .iload 4, 2, 4, 0, 0) ::
  (149, .ifCond .eq 7, 3, 156, 0, 0) ::
  (152, .iconst 1, 1, 0, 0, 1) ::
  (153, .goto 4, 3, 157, 0, 0) ::
  (156, .iconst 0, 1, 0, 0, 0) ::
  (157, .ireturn, 1, 0, 0, 0) ::
  []
def r_248 : List ax_E :=
  (0, .aload_n 0, 1, 0, 0, 0) ::
  (1, .iload_n 1, 1, 1, 0, 0) ::
  (2, .invokevirtual 196, 3, 173, 22, 1) ::
  (5, .ifCond .eq 31, 3, 36, 0, 0) ::
  (8, .aload_n 0, 1, 0, 0, 0) ::
  (9, .getfield 22, 3, 11, 9, 0) ::
  (12, .iload_n 1, 1, 1, 0, 0) ::
  (13, .iaload, 1, 0, 0, 0) ::
  (14, .ifCond .ne 22, 3, 36, 0, 0) ::
  (17, .iload_n 2, 1, 2, 0, 0) ::
  (18, .invokestatic 210, 3, 170, 0, 1) ::
  (21, .ifCond .eq 15, 3, 36, 0, 0) ::
  (24, .iload_n 3, 1, 3, 0, 0) ::
  (25, .i2l, 1, 0, 0, 0) ::
  (26, .lconst 0, 1, 0, 0, 0) ::
  (27, .ldc2_w 179, 3, 0, 0, 99) ::
  (30, .invokestatic 160, 3, 169, 0, 1) ::
  (33, .ifCond .ne 5, 3, 38, 0, 0) ::
  (36, .iconst (-1), 1, 0, 0, (-1)) ::
  (37, .ireturn, 1, 0, 0, 0) ::
  (38, .iconst 0, 1, 0, 0, 0) ::
  (39, .istore 4, 2, 4, 0, 0) ::
  (41, .iconst 0, 1, 0, 0, 0) ::
  (42, .istore 5, 2, 5, 0, 0) ::
  (44, .jsr 0, 0, 63, 0, 0) ::
  r_248_44
end
section
/-! rows of the methods, printed by wip/gen/rows.py -/
/-- 249 BlackSunModel.tell(II)Z -/
def r_249 : List ax_E :=
  (0, .iload_n 1, 1, 1, 0, 0) ::
  (1, .invokestatic 199, 3, 174, 0, 1) ::
  (4, .ifCond .eq 17, 3, 21, 0, 0) ::
  (7, .iload_n 2, 1, 2, 0, 0) ::
  (8, .i2l, 1, 0, 0, 0) ::
  (9, .lconst 0, 1, 0, 0, 0) ::
  (10, .aload_n 0, 1, 0, 0, 0) ::
  (11, .getfield 164, 3, 11, 1, 0) ::
  (14, .i2l, 1, 0, 0, 0) ::
  (15, .invokestatic 160, 3, 169, 0, 1) ::
  (18, .ifCond .ne 5, 3, 23, 0, 0) ::
  (21, .iconst 0, 1, 0, 0, 0) ::
  (22, .ireturn, 1, 1, 0, 0) ::
  (23, .aload_n 0, 1, 0, 0, 0) ::
  (24, .getfield 121, 3, 11, 56, 0) ::
  (27, .iload_n 1, 1, 1, 0, 0) ::
  (28, .aload_n 0, 1, 0, 0, 0) ::
  (29, .getfield 121, 3, 11, 56, 0) ::
  (32, .iload_n 1, 1, 1, 0, 0) ::
  (33, .iaload, 1, 0, 0, 0) ::
  (34, .iconst (-1), 1, 0, 0, (-1)) ::
  (35, .if_icmp .eq 13, 3, 48, 0, 0) ::
  (38, .iload_n 2, 1, 2, 0, 0) ::
  (39, .aload_n 0, 1, 0, 0, 0) ::
  (40, .getfield 121, 3, 11, 56, 0) ::
  (43, .iload_n 1, 1, 1, 0, 0) ::
  (44, .iaload, 1, 0, 0, 0) ::
  (45, .if_icmp .ge 7, 3, 52, 0, 0) ::
  (48, .iload_n 2, 1, 2, 0, 0) ::
  (49, .goto 9, 3, 58, 0, 0) ::
  (52, .aload_n 0, 1, 0, 0, 0) ::
  (53, .getfield 121, 3, 11, 56, 0) ::
  (56, .iload_n 1, 1, 1, 0, 0) ::
  (57, .iaload, 1, 0, 0, 0) ::
  (58, .iastore, 1, 0, 0, 0) ::
  (59, .iconst 1, 1, 0, 0, 1) ::
  (60, .ireturn, 1, 1, 0, 0) ::
  []
/-- 250 BlackSunModel.isKnowing(II)Z -/
def r_250 : List ax_E :=
  (0, .aload_n 0, 1, 0, 0, 0) ::
  (1, .getfield 121, 3, 11, 56, 0) ::
  (4, .iload_n 1, 1, 1, 0, 0) ::
  (5, .iaload, 1, 0, 0, 0) ::
  (6, .iconst (-1), 1, 0, 0, (-1)) ::
  (7, .if_icmp .eq 17, 3, 24, 0, 0) ::
  (10, .aload_n 0, 1, 0, 0, 0) ::
  (11, .getfield 121, 3, 11, 56, 0) ::
  (14, .iload_n 1, 1, 1, 0, 0) ::
  (15, .iaload, 1, 0, 0, 0) ::
  (16, .iload_n 2, 1, 2, 0, 0) ::
  (17, .if_icmp .gt 7, 3, 24, 0, 0) ::
  (20, .iconst 1, 1, 0, 0, 1) ::
  (21, .goto 4, 3, 25, 0, 0) ::
  (24, .iconst 0, 1, 0, 0, 0) ::
  (25, .ireturn, 1, 1, 0, 0) ::
  []
/-- 251 BlackSunModel.knows(II)I -/
def r_251 : List ax_E :=
  (0, .iload_n 1, 1, 1, 0, 0) ::
  (1, .invokestatic 199, 3, 174, 0, 1) ::
  (4, .ifCond .eq 10, 3, 14, 0, 0) ::
  (7, .iload_n 2, 1, 2, 0, 0) ::
  (8, .invokestatic 210, 3, 170, 0, 1) ::
  (11, .ifCond .ne 7, 3, 18, 0, 0) ::
  (14, .iconst (-1), 1, 0, 0, (-1)) ::
  (15, .goto 17, 3, 32, 0, 0) ::
  (18, .aload_n 0, 1, 0, 0, 0) ::
  (19, .iload_n 1, 1, 1, 0, 0) ::
  (20, .iload_n 2, 1, 2, 0, 0) ::
  (21, .invokevirtual 519, 3, 250, 22, 1) ::
  (24, .ifCond .eq 7, 3, 31, 0, 0) ::
  (27, .iconst 1, 1, 0, 0, 1) ::
  (28, .goto 4, 3, 32, 0, 0) ::
  (31, .iconst 0, 1, 0, 0, 0) ::
  (32, .ireturn, 1, 0, 0, 0) ::
  []
/-- 252 BlackSunModel.toldBy(II)I -/
def r_252 : List ax_E :=
  (0, .iload_n 2, 1, 2, 0, 0) ::
  (1, .ifCond .ne 12, 3, 13, 0, 0) ::
  (4, .aload_n 0, 1, 0, 0, 0) ::
  (5, .getfield 37, 3, 11, 14, 0) ::
  (8, .iload_n 1, 1, 1, 0, 0) ::
  (9, .iaload, 1, 0, 0, 0) ::
  (10, .goto 40, 3, 50, 0, 0) ::
  (13, .aload_n 0, 1, 0, 0, 0) ::
  (14, .getfield 9, 3, 11, 5, 0) ::
  (17, .aload_n 0, 1, 0, 0, 0) ::
  (18, .getfield 31, 3, 11, 12, 0) ::
  (21, .iload_n 1, 1, 1, 0, 0) ::
  (22, .iaload, 1, 0, 0, 0) ::
  (23, .iaload, 1, 0, 0, 0) ::
  (24, .aload_n 0, 1, 0, 0, 0) ::
  (25, .getfield 37, 3, 11, 14, 0) ::
  (28, .iload_n 1, 1, 1, 0, 0) ::
  (29, .iaload, 1, 0, 0, 0) ::
  (30, .imul, 1, 0, 0, 0) ::
  (31, .aload_n 0, 1, 0, 0, 0) ::
  (32, .getfield 13, 3, 11, 6, 0) ::
  (35, .aload_n 0, 1, 0, 0, 0) ::
  (36, .getfield 31, 3, 11, 12, 0) ::
  (39, .iload_n 1, 1, 1, 0, 0) ::
  (40, .iaload, 1, 0, 0, 0) ::
  (41, .iaload, 1, 0, 0, 0) ::
  (42, .aload_n 0, 1, 0, 0, 0) ::
  (43, .getfield 40, 3, 11, 15, 0) ::
  (46, .iload_n 1, 1, 1, 0, 0) ::
  (47, .iaload, 1, 0, 0, 0) ::
  (48, .imul, 1, 0, 0, 0) ::
  (49, .iadd, 1, 0, 0, 0) ::
  (50, .ireturn, 1, 0, 0, 0) ::
  []
/-- 253 BlackSunModel.leans(IIII)J -/
def r_253_215 : List ax_E :=
  (215, .ladd, 1, 0, 0, 0) ::
  (216, .lstore 5, 2, 5, 0, 0) ::
  (218, .lload 7, 2, 7, 0, 0) ::
  (220, .iload 12, 2, 12, 0, 0) ::
  (222, .ifCond .ne 7, 3, 229, 0, 0) ::
  (225, .lconst 0, 1, 0, 0, 0) ::
  (226, .goto 4, 3, 230, 0, 0) ::
  (229, .lconst 1, 1, 0, 0, 1) ::
  (230, .ladd, 1, 0, 0, 0) ::
  (231, .lstore 7, 2, 7, 0, 0) ::
  (233, .iinc 9 1, 3, 9, 0, 1) ::
  (236, .goto (-188), 3, 48, 0, 0) ::
  (239, .lload 7, 2, 7, 0, 0) ::
  (241, .lconst 0, 1, 0, 0, 0) ::
  (242, .lcmp, 1, 0, 0, 0) ::
  (243, .ifCond .ne 7, 3, 250, 0, 0) ::
  (246, .iload 4, 2, 4, 0, 0) ::
  (248, .i2l, 1, 0, 0, 0) ::
  (249, .lreturn, 1, 0, 0, 0) ::
  (250, .lload 5, 2, 5, 0, 0) ::
  (252, .ldc2_w 528, 3, 0, 0, 420) ::
  (255, .lload 7, 2, 7, 0, 0) ::
  (257, .lmul, 1, 0, 0, 0) ::
  (258, .invokestatic 510, 3, 243, 0, 2) ::
  (261, .lstore 9, 2, 9, 0, 0) ::
  (263, .iload 4, 2, 4, 0, 0) ::
  (265, .ifCond .ne 11, 3, 276, 0, 0) ::
  (268, .lload 5, 2, 5, 0, 0) ::
  (270, .lload 9, 2, 9, 0, 0) ::
  (272, .ldiv, 1, 0, 0, 0) ::
  (273, .goto 12, 3, 285, 0, 0) ::
  (276, .ldc2_w 528, 3, 0, 0, 420) ::
  (279, .lload 7, 2, 7, 0, 0) ::
  (281, .lmul, 1, 0, 0, 0) ::
  (282, .lload 9, 2, 9, 0, 0) ::
  (284, .ldiv, 1, 0, 0, 0) ::
  (285, .lreturn, 1, 0, 0, 0) ::
  []
def r_253_157 : List ax_E :=
  (157, .ladd, 1, 0, 0, 0) ::
  (158, .lstore 10, 2, 10, 0, 0) ::
  (160, .iload 12, 2, 12, 0, 0) ::
  (162, .iload 14, 2, 14, 0, 0) ::
  (164, .iconst (-1), 1, 0, 0, (-1)) ::
  (165, .if_icmp .ne 7, 3, 172, 0, 0) ::
  (168, .iconst 0, 1, 0, 0, 0) ::
  (169, .goto 4, 3, 173, 0, 0) ::
  (172, .iconst 1, 1, 0, 0, 1) ::
  (173, .iadd, 1, 0, 0, 0) ::
  (174, .istore 12, 2, 12, 0, 0) ::
  (176, .iinc 13 1, 3, 13, 0, 1) ::
  (179, .goto (-92), 3, 87, 0, 0) ::
  (182, .lload 5, 2, 5, 0, 0) ::
  (184, .iload 12, 2, 12, 0, 0) ::
  (186, .ifCond .ne 7, 3, 193, 0, 0) ::
  (189, .lconst 0, 1, 0, 0, 0) ::
  (190, .goto 25, 3, 215, 0, 0) ::
  (193, .iload 12, 2, 12, 0, 0) ::
  (195, .aload_n 0, 1, 0, 0, 0) ::
  (196, .iload 9, 2, 9, 0, 0) ::
  (198, .iload_n 3, 1, 3, 0, 0) ::
  (199, .invokevirtual 524, 3, 252, 22, 1) ::
  (202, .imul, 1, 0, 0, 0) ::
  (203, .i2l, 1, 0, 0, 0) ::
  (204, .lload 10, 2, 10, 0, 0) ::
  (206, .lsub, 1, 0, 0, 0) ::
  (207, .sipush 420, 3, 0, 0, 420) ::
  (210, .iload 12, 2, 12, 0, 0) ::
  (212, .idiv, 1, 0, 0, 0) ::
  (213, .i2l, 1, 0, 0, 0) ::
  (214, .lmul, 1, 0, 0, 0) ::
  (215, .jsr 0, 0, 4767, 0, 0) ::
  r_253_215
def r_253_110 : List ax_E :=
  (110, .iconst (-1), 1, 0, 0, (-1)) ::
  (111, .goto 24, 3, 135, 0, 0) ::
  (114, .aload_n 0, 1, 0, 0, 0) ::
  (115, .aload_n 0, 1, 0, 0, 0) ::
  (116, .getfield 28, 3, 11, 11, 0) ::
  (119, .iload 9, 2, 9, 0, 0) ::
  (121, .iaload, 1, 0, 0, 0) ::
  (122, .aload_n 0, 1, 0, 0, 0) ::
  (123, .getfield 31, 3, 11, 12, 0) ::
  (126, .iload 9, 2, 9, 0, 0) ::
  (128, .iaload, 1, 0, 0, 0) ::
  (129, .iload 13, 2, 13, 0, 0) ::
  (131, .iload_n 2, 1, 2, 0, 0) ::
  (132, .invokevirtual 206, 3, 180, 22, 1) ::
  (135, .istore 14, 2, 14, 0, 0) ::
  (137, .lload 10, 2, 10, 0, 0) ::
  (139, .iload 14, 2, 14, 0, 0) ::
  (141, .iconst (-1), 1, 0, 0, (-1)) ::
  (142, .if_icmp .ne 7, 3, 149, 0, 0) ::
  (145, .lconst 0, 1, 0, 0, 0) ::
  (146, .goto 11, 3, 157, 0, 0) ::
  (149, .aload_n 0, 1, 0, 0, 0) ::
  (150, .iload 14, 2, 14, 0, 0) ::
  (152, .iload_n 3, 1, 3, 0, 0) ::
  (153, .invokevirtual 524, 3, 252, 22, 1) ::
  (156, .i2l, 1, 0, 0, 0) ::
  (157, .jsr 0, 0, 29375, 0, 0) ::
  r_253_157
def r_253_87 : List ax_E :=
  (87, .iload 13, 2, 13, 0, 0) ::
  (89, .bipush 8, 2, 0, 0, 8) ::
  (91, .if_icmp .ge 91, 3, 182, 0, 0) ::
  (94, .iload 13, 2, 13, 0, 0) ::
  (96, .iload_n 1, 1, 1, 0, 0) ::
  (97, .if_icmp .eq 13, 3, 110, 0, 0) ::
  (100, .aload_n 0, 1, 0, 0, 0) ::
  (101, .iload 13, 2, 13, 0, 0) ::
  (103, .iload_n 2, 1, 2, 0, 0) ::
  (104, .invokevirtual 519, 3, 250, 22, 1) ::
  (107, .ifCond .eq 7, 3, 114, 0, 0) ::
  (110, .jsr 0, 0, 14015, 0, 0) ::
  r_253_110
def r_253_48 : List ax_E :=
  (48, .iload 9, 2, 9, 0, 0) ::
  (50, .aload_n 0, 1, 0, 0, 0) ::
  (51, .getfield 193, 3, 11, 4, 0) ::
  (54, .if_icmp .ge 185, 3, 239, 0, 0) ::
  (57, .aload_n 0, 1, 0, 0, 0) ::
  (58, .getfield 34, 3, 11, 13, 0) ::
  (61, .iload 9, 2, 9, 0, 0) ::
  (63, .iaload, 1, 0, 0, 0) ::
  (64, .iload_n 1, 1, 1, 0, 0) ::
  (65, .if_icmp .ne 168, 3, 233, 0, 0) ::
  (68, .aload_n 0, 1, 0, 0, 0) ::
  (69, .iload 9, 2, 9, 0, 0) ::
  (71, .iload_n 2, 1, 2, 0, 0) ::
  (72, .invokevirtual 406, 3, 181, 22, 1) ::
  (75, .ifCond .eq 158, 3, 233, 0, 0) ::
  (78, .lconst 0, 1, 0, 0, 0) ::
  (79, .lstore 10, 2, 10, 0, 0) ::
  (81, .iconst 0, 1, 0, 0, 0) ::
  (82, .istore 12, 2, 12, 0, 0) ::
  (84, .iconst 0, 1, 0, 0, 0) ::
  (85, .istore 13, 2, 13, 0, 0) ::
  (87, .jsr 0, 0, 14015, 0, 0) ::
  r_253_87
def r_253 : List ax_E :=
  (0, .iload_n 1, 1, 1, 0, 0) ::
  (1, .invokestatic 199, 3, 174, 0, 1) ::
  (4, .ifCond .eq 31, 3, 35, 0, 0) ::
  (7, .iload_n 2, 1, 2, 0, 0) ::
  (8, .invokestatic 210, 3, 170, 0, 1) ::
  (11, .ifCond .eq 24, 3, 35, 0, 0) ::
  (14, .iload_n 3, 1, 3, 0, 0) ::
  (15, .i2l, 1, 0, 0, 0) ::
  (16, .lconst 0, 1, 0, 0, 0) ::
  (17, .lconst 1, 1, 0, 0, 1) ::
  (18, .invokestatic 160, 3, 169, 0, 1) ::
  (21, .ifCond .eq 14, 3, 35, 0, 0) ::
  (24, .iload 4, 2, 4, 0, 0) ::
  (26, .i2l, 1, 0, 0, 0) ::
  (27, .lconst 0, 1, 0, 0, 0) ::
  (28, .lconst 1, 1, 0, 0, 1) ::
  (29, .invokestatic 160, 3, 169, 0, 1) ::
  (32, .ifCond .ne 7, 3, 39, 0, 0) ::
  (35, .ldc2_w 522, 3, 0, 0, (-1000000000000)) ::
  (38, .lreturn, 1, 0, 0, 0) ::
  (39, .lconst 0, 1, 0, 0, 0) ::
  (40, .lstore 5, 2, 5, 0, 0) ::
  (42, .lconst 0, 1, 0, 0, 0) ::
  (43, .lstore 7, 2, 7, 0, 0) ::
  (45, .iconst 0, 1, 0, 0, 0) ::
  (46, .istore 9, 2, 9, 0, 0) ::
  (48, .jsr 0, 0, 703, 0, 0) ::
  r_253_48
/-- 254 BlackSunModel.alone(III)Z -/
def r_254_13 : List ax_E :=
  (13, .iload 4, 2, 4, 0, 0) ::
  (15, .aload_n 0, 1, 0, 0, 0) ::
  (16, .getfield 193, 3, 11, 4, 0) ::
  (19, .if_icmp .ge 47, 3, 66, 0, 0) ::
  (22, .aload_n 0, 1, 0, 0, 0) ::
  (23, .getfield 115, 3, 11, 48, 0) ::
  (26, .iload 4, 2, 4, 0, 0) ::
  (28, .aload_n 0, 1, 0, 0, 0) ::
  (29, .getfield 115, 3, 11, 48, 0) ::
  (32, .iload 4, 2, 4, 0, 0) ::
  (34, .baload, 1, 19, 0, 0) ::
  (35, .ifCond .ne 19, 3, 54, 0, 0) ::
  (38, .aload_n 0, 1, 0, 0, 0) ::
  (39, .getfield 19, 3, 11, 8, 0) ::
  (42, .aload_n 0, 1, 0, 0, 0) ::
  (43, .getfield 28, 3, 11, 11, 0) ::
  (46, .iload 4, 2, 4, 0, 0) ::
  (48, .iaload, 1, 0, 0, 0) ::
  (49, .iaload, 1, 0, 0, 0) ::
  (50, .iload_n 3, 1, 3, 0, 0) ::
  (51, .if_icmp .eq 7, 3, 58, 0, 0) ::
  (54, .iconst 1, 1, 0, 0, 1) ::
  (55, .goto 4, 3, 59, 0, 0) ::
  (58, .iconst 0, 1, 0, 0, 0) ::
  (59, .bastore, 1, 19, 0, 0) ::
  (60, .iinc 4 1, 3, 4, 0, 1) ::
  (63, .goto (-50), 3, 13, 0, 0) ::
  (66, .aload_n 0, 1, 0, 0, 0) ::
  (67, .iload_n 1, 1, 1, 0, 0) ::
  (68, .iload_n 2, 1, 2, 0, 0) ::
  (69, .iconst 0, 1, 0, 0, 0) ::
  (70, .iconst 0, 1, 0, 0, 0) ::
  (71, .invokevirtual 477, 3, 223, 22, 1) ::
  (74, .ifCond .eq 14, 3, 88, 0, 0) ::
  (77, .aload_n 0, 1, 0, 0, 0) ::
  (78, .invokevirtual 481, 3, 233, 22, 1) ::
  (81, .ifCond .eq 7, 3, 88, 0, 0) ::
  (84, .iconst 1, 1, 0, 0, 1) ::
  (85, .goto 4, 3, 89, 0, 0) ::
  (88, .iconst 0, 1, 0, 0, 0) ::
  (89, .istore 4, 2, 4, 0, 0) ::
  (91, .aload_n 0, 1, 0, 0, 0) ::
  (92, .aload_n 0, 1, 0, 0, 0) ::
  (93, .getfield 103, 3, 11, 44, 0) ::
  (96, .iconst 4, 1, 0, 0, 4) ::
  (97, .laload, 1, 0, 0, 0) ::
  (98, .putfield 530, 3, 11, 57, 0) ::
  (101, .aload_n 0, 1, 0, 0, 0) ::
  (102, .aload_n 0, 1, 0, 0, 0) ::
  (103, .getfield 431, 3, 11, 50, 0) ::
  (106, .putfield 533, 3, 11, 58, 0) ::
  (109, .iload 4, 2, 4, 0, 0) ::
  (111, .ireturn, 1, 1, 0, 0) ::
  []
def r_254 : List ax_E :=
  (0, .aload_n 0, 1, 0, 0, 0) ::
  (1, .iload_n 1, 1, 1, 0, 0) ::
  (2, .iload_n 2, 1, 2, 0, 0) ::
  (3, .invokevirtual 412, 3, 219, 22, 0) ::
  (6, .aload_n 0, 1, 0, 0, 0) ::
  (7, .invokevirtual 474, 3, 224, 22, 0) ::
  (10, .iconst 0, 1, 0, 0, 0) ::
  (11, .istore 4, 2, 4, 0, 0) ::
  (13, .jsr 0, 0, 31, 0, 0) ::
  r_254_13
/-- 255 BlackSunModel.areIslands(IIII)Z -/
def r_255 : List ax_E :=
  (0, .aload_n 0, 1, 0, 0, 0) ::
  (1, .iload_n 1, 1, 1, 0, 0) ::
  (2, .invokevirtual 384, 3, 211, 22, 1) ::
  (5, .ifCond .eq 45, 3, 50, 0, 0) ::
  (8, .iload_n 2, 1, 2, 0, 0) ::
  (9, .invokestatic 210, 3, 170, 0, 1) ::
  (12, .ifCond .eq 38, 3, 50, 0, 0) ::
  (15, .iload_n 3, 1, 3, 0, 0) ::
  (16, .i2l, 1, 0, 0, 0) ::
  (17, .lconst 0, 1, 0, 0, 0) ::
  (18, .ldc2_w 189, 3, 0, 0, 3) ::
  (21, .invokestatic 160, 3, 169, 0, 1) ::
  (24, .ifCond .eq 26, 3, 50, 0, 0) ::
  (27, .iload 4, 2, 4, 0, 0) ::
  (29, .i2l, 1, 0, 0, 0) ::
  (30, .lconst 0, 1, 0, 0, 0) ::
  (31, .ldc2_w 189, 3, 0, 0, 3) ::
  (34, .invokestatic 160, 3, 169, 0, 1) ::
  (37, .ifCond .eq 13, 3, 50, 0, 0) ::
  (40, .iload_n 3, 1, 3, 0, 0) ::
  (41, .iload 4, 2, 4, 0, 0) ::
  (43, .if_icmp .eq 7, 3, 50, 0, 0) ::
  (46, .iconst 1, 1, 0, 0, 1) ::
  (47, .goto 4, 3, 51, 0, 0) ::
  (50, .iconst 0, 1, 0, 0, 0) ::
  (51, .ireturn, 1, 1, 0, 0) ::
  []
/-- 256 BlackSunModel.joined(IIII)I -/
def r_256 : List ax_E :=
  (0, .aload_n 0, 1, 0, 0, 0) ::
  (1, .iload_n 1, 1, 1, 0, 0) ::
  (2, .iload_n 2, 1, 2, 0, 0) ::
  (3, .iload_n 3, 1, 3, 0, 0) ::
  (4, .iload 4, 2, 4, 0, 0) ::
  (6, .invokevirtual 536, 3, 255, 22, 1) ::
  (9, .ifCond .ne 7, 3, 16, 0, 0) ::
  (12, .ldc_w 490, 3, 0, 0, (-2000000000)) ::
  (15, .ireturn, 1, 0, 0, 0) ::
  (16, .aload_n 0, 1, 0, 0, 0) ::
  (17, .iload_n 1, 1, 1, 0, 0) ::
  (18, .iload_n 2, 1, 2, 0, 0) ::
  (19, .iload_n 3, 1, 3, 0, 0) ::
  (20, .invokevirtual 540, 3, 254, 22, 1) ::
  (23, .ifCond .ne 7, 3, 30, 0, 0) ::
  (26, .ldc_w 486, 3, 0, 0, (-1000000000)) ::
  (29, .ireturn, 1, 0, 0, 0) ::
  (30, .aload_n 0, 1, 0, 0, 0) ::
  (31, .getfield 530, 3, 11, 57, 0) ::
  (34, .aload_n 0, 1, 0, 0, 0) ::
  (35, .getfield 533, 3, 11, 58, 0) ::
  (38, .i2l, 1, 0, 0, 0) ::
  (39, .lmul, 1, 0, 0, 0) ::
  (40, .lstore 5, 2, 5, 0, 0) ::
  (42, .aload_n 0, 1, 0, 0, 0) ::
  (43, .getfield 533, 3, 11, 58, 0) ::
  (46, .istore 7, 2, 7, 0, 0) ::
  (48, .aload_n 0, 1, 0, 0, 0) ::
  (49, .iload_n 1, 1, 1, 0, 0) ::
  (50, .iload_n 2, 1, 2, 0, 0) ::
  (51, .iload 4, 2, 4, 0, 0) ::
  (53, .invokevirtual 540, 3, 254, 22, 1) ::
  (56, .ifCond .ne 7, 3, 63, 0, 0) ::
  (59, .ldc_w 486, 3, 0, 0, (-1000000000)) ::
  (62, .ireturn, 1, 0, 0, 0) ::
  (63, .lload 5, 2, 5, 0, 0) ::
  (65, .aload_n 0, 1, 0, 0, 0) ::
  (66, .getfield 530, 3, 11, 57, 0) ::
  (69, .aload_n 0, 1, 0, 0, 0) ::
  (70, .getfield 533, 3, 11, 58, 0) ::
  (73, .i2l, 1, 0, 0, 0) ::
  (74, .lmul, 1, 0, 0, 0) ::
  (75, .ladd, 1, 0, 0, 0) ::
  (76, .iload 7, 2, 7, 0, 0) ::
  (78, .aload_n 0, 1, 0, 0, 0) ::
  (79, .getfield 533, 3, 11, 58, 0) ::
  (82, .iadd, 1, 0, 0, 0) ::
  (83, .i2l, 1, 0, 0, 0) ::
  (84, .invokestatic 417, 3, 221, 0, 2) ::
  (87, .l2i, 1, 0, 0, 0) ::
  (88, .ireturn, 1, 0, 0, 0) ::
  []
/-- 257 BlackSunModel.quarrel(IIIII)I -/
def r_257 : List ax_E :=
  (0, .aload_n 0, 1, 0, 0, 0) ::
  (1, .iload_n 1, 1, 1, 0, 0) ::
  (2, .iload_n 2, 1, 2, 0, 0) ::
  (3, .iload_n 3, 1, 3, 0, 0) ::
  (4, .iload 4, 2, 4, 0, 0) ::
  (6, .invokevirtual 536, 3, 255, 22, 1) ::
  (9, .ifCond .eq 16, 3, 25, 0, 0) ::
  (12, .iload 5, 2, 5, 0, 0) ::
  (14, .i2l, 1, 0, 0, 0) ::
  (15, .lconst 0, 1, 0, 0, 0) ::
  (16, .ldc2_w 499, 3, 0, 0, 99999) ::
  (19, .invokestatic 160, 3, 169, 0, 1) ::
  (22, .ifCond .ne 5, 3, 27, 0, 0) ::
  (25, .iconst (-1), 1, 0, 0, (-1)) ::
  (26, .ireturn, 1, 0, 0, 0) ::
  (27, .aload_n 0, 1, 0, 0, 0) ::
  (28, .iload_n 1, 1, 1, 0, 0) ::
  (29, .iload_n 2, 1, 2, 0, 0) ::
  (30, .iload_n 3, 1, 3, 0, 0) ::
  (31, .invokevirtual 540, 3, 254, 22, 1) ::
  (34, .ifCond .ne 5, 3, 39, 0, 0) ::
  (37, .iconst 0, 1, 0, 0, 0) ::
  (38, .ireturn, 1, 0, 0, 0) ::
  (39, .aload_n 0, 1, 0, 0, 0) ::
  (40, .getfield 530, 3, 11, 57, 0) ::
  (43, .lstore 6, 2, 6, 0, 0) ::
  (45, .aload_n 0, 1, 0, 0, 0) ::
  (46, .iload_n 1, 1, 1, 0, 0) ::
  (47, .iload_n 2, 1, 2, 0, 0) ::
  (48, .iload 4, 2, 4, 0, 0) ::
  (50, .invokevirtual 540, 3, 254, 22, 1) ::
  (53, .ifCond .eq 27, 3, 80, 0, 0) ::
  (56, .aload_n 0, 1, 0, 0, 0) ::
  (57, .getfield 530, 3, 11, 57, 0) ::
  (60, .lload 6, 2, 6, 0, 0) ::
  (62, .lsub, 1, 0, 0, 0) ::
  (63, .iload 5, 2, 5, 0, 0) ::
  (65, .ineg, 1, 0, 0, 0) ::
  (66, .i2l, 1, 0, 0, 0) ::
  (67, .iload 5, 2, 5, 0, 0) ::
  (69, .i2l, 1, 0, 0, 0) ::
  (70, .invokestatic 160, 3, 169, 0, 1) ::
  (73, .ifCond .ne 7, 3, 80, 0, 0) ::
  (76, .iconst 1, 1, 0, 0, 1) ::
  (77, .goto 4, 3, 81, 0, 0) ::
  (80, .iconst 0, 1, 0, 0, 0) ::
  (81, .ireturn, 1, 0, 0, 0) ::
  []
/-- 258 BlackSunModel.say(II)I -/
def r_258 : List ax_E :=
  (0, .aload_n 0, 1, 0, 0, 0) ::
  (1, .getfield 543, 3, 11, 59, 0) ::
  (4, .bipush 40, 2, 0, 0, 40) ::
  (6, .if_icmp .eq 25, 3, 31, 0, 0) ::
  (9, .aload_n 0, 1, 0, 0, 0) ::
  (10, .iload_n 1, 1, 1, 0, 0) ::
  (11, .invokevirtual 384, 3, 211, 22, 1) ::
  (14, .ifCond .eq 17, 3, 31, 0, 0) ::
  (17, .iload_n 2, 1, 2, 0, 0) ::
  (18, .i2l, 1, 0, 0, 0) ::
  (19, .ldc2_w 497, 3, 0, 0, (-99999)) ::
  (22, .ldc2_w 499, 3, 0, 0, 99999) ::
  (25, .invokestatic 160, 3, 169, 0, 1) ::
  (28, .ifCond .ne 5, 3, 33, 0, 0) ::
  (31, .iconst (-1), 1, 0, 0, (-1)) ::
  (32, .ireturn, 1, 0, 0, 0) ::
  (33, .aload_n 0, 1, 0, 0, 0) ::
  (34, .getfield 124, 3, 11, 60, 0) ::
  (37, .aload_n 0, 1, 0, 0, 0) ::
  (38, .getfield 543, 3, 11, 59, 0) ::
  (41, .iload_n 1, 1, 1, 0, 0) ::
  (42, .iastore, 1, 0, 0, 0) ::
  (43, .aload_n 0, 1, 0, 0, 0) ::
  (44, .getfield 127, 3, 11, 61, 0) ::
  (47, .aload_n 0, 1, 0, 0, 0) ::
  (48, .getfield 543, 3, 11, 59, 0) ::
  (51, .iload_n 2, 1, 2, 0, 0) ::
  (52, .iastore, 1, 0, 0, 0) ::
  (53, .aload_n 0, 1, 0, 0, 0) ::
  (54, .getfield 130, 3, 11, 62, 0) ::
  (57, .aload_n 0, 1, 0, 0, 0) ::
  (58, .getfield 543, 3, 11, 59, 0) ::
  (61, .aload_n 0, 1, 0, 0, 0) ::
  (62, .getfield 164, 3, 11, 1, 0) ::
  (65, .iastore, 1, 0, 0, 0) ::
  (66, .aload_n 0, 1, 0, 0, 0) ::
  (67, .dup, 1, 0, 0, 0) ::
  (68, .getfield 543, 3, 11, 59, 0) ::
  (71, .iconst 1, 1, 0, 0, 1) ::
  (72, .iadd, 1, 0, 0, 0) ::
  (73, .putfield 543, 3, 11, 59, 0) ::
  (76, .aload_n 0, 1, 0, 0, 0) ::
  (77, .getfield 543, 3, 11, 59, 0) ::
  (80, .iconst 1, 1, 0, 0, 1) ::
  (81, .isub, 1, 0, 0, 0) ::
  (82, .ireturn, 1, 0, 0, 0) ::
  []
/-- 259 BlackSunModel.could(IIZ)I -/
def r_259_55 : List ax_E :=
  (55, .invokevirtual 487, 3, 236, 22, 1) ::
  (58, .istore 4, 2, 4, 0, 0) ::
  (60, .iload 4, 2, 4, 0, 0) ::
  (62, .ldc_w 486, 3, 0, 0, (-1000000000)) ::
  (65, .if_icmp .eq 29, 3, 94, 0, 0) ::
  (68, .iload 4, 2, 4, 0, 0) ::
  (70, .i2l, 1, 0, 0, 0) ::
  (71, .aload_n 0, 1, 0, 0, 0) ::
  (72, .getfield 127, 3, 11, 61, 0) ::
  (75, .iload_n 1, 1, 1, 0, 0) ::
  (76, .iaload, 1, 0, 0, 0) ::
  (77, .i2l, 1, 0, 0, 0) ::
  (78, .lsub, 1, 0, 0, 0) ::
  (79, .iload_n 2, 1, 2, 0, 0) ::
  (80, .ineg, 1, 0, 0, 0) ::
  (81, .i2l, 1, 0, 0, 0) ::
  (82, .iload_n 2, 1, 2, 0, 0) ::
  (83, .i2l, 1, 0, 0, 0) ::
  (84, .invokestatic 160, 3, 169, 0, 1) ::
  (87, .ifCond .eq 7, 3, 94, 0, 0) ::
  (90, .iconst 1, 1, 0, 0, 1) ::
  (91, .goto 4, 3, 95, 0, 0) ::
  (94, .iconst 0, 1, 0, 0, 0) ::
  (95, .ireturn, 1, 0, 0, 0) ::
  []
def r_259 : List ax_E :=
  (0, .iload_n 1, 1, 1, 0, 0) ::
  (1, .i2l, 1, 0, 0, 0) ::
  (2, .lconst 0, 1, 0, 0, 0) ::
  (3, .aload_n 0, 1, 0, 0, 0) ::
  (4, .getfield 543, 3, 11, 59, 0) ::
  (7, .iconst 1, 1, 0, 0, 1) ::
  (8, .isub, 1, 0, 0, 0) ::
  (9, .i2l, 1, 0, 0, 0) ::
  (10, .invokestatic 160, 3, 169, 0, 1) ::
  (13, .ifCond .eq 15, 3, 28, 0, 0) ::
  (16, .iload_n 2, 1, 2, 0, 0) ::
  (17, .i2l, 1, 0, 0, 0) ::
  (18, .lconst 0, 1, 0, 0, 0) ::
  (19, .ldc2_w 499, 3, 0, 0, 99999) ::
  (22, .invokestatic 160, 3, 169, 0, 1) ::
  (25, .ifCond .ne 5, 3, 30, 0, 0) ::
  (28, .iconst (-1), 1, 0, 0, (-1)) ::
  (29, .ireturn, 1, 0, 0, 0) ::
  (30, .aload_n 0, 1, 0, 0, 0) ::
  (31, .aload_n 0, 1, 0, 0, 0) ::
  (32, .getfield 124, 3, 11, 60, 0) ::
  (35, .iload_n 1, 1, 1, 0, 0) ::
  (36, .iaload, 1, 0, 0, 0) ::
  (37, .iconst 4, 1, 0, 0, 4) ::
  (38, .iload_n 3, 1, 3, 0, 0) ::
  (39, .ifCond .eq 10, 3, 49, 0, 0) ::
  (42, .aload_n 0, 1, 0, 0, 0) ::
  (43, .getfield 164, 3, 11, 1, 0) ::
  (46, .goto 9, 3, 55, 0, 0) ::
  (49, .aload_n 0, 1, 0, 0, 0) ::
  (50, .getfield 130, 3, 11, 62, 0) ::
  (53, .iload_n 1, 1, 1, 0, 0) ::
  (54, .iaload, 1, 0, 0, 0) ::
  (55, .jsr 0, 0, 7, 0, 0) ::
  r_259_55
/-- 260 BlackSunModel.field(II)I -/
def r_260 : List ax_E :=
  (0, .aload_n 0, 1, 0, 0, 0) ::
  (1, .getfield 546, 3, 11, 63, 0) ::
  (4, .bipush 9, 2, 0, 0, 9) ::
  (6, .if_icmp .eq 28, 3, 34, 0, 0) ::
  (9, .iload_n 1, 1, 1, 0, 0) ::
  (10, .i2l, 1, 0, 0, 0) ::
  (11, .lconst 1, 1, 0, 0, 1) ::
  (12, .ldc2_w 179, 3, 0, 0, 99) ::
  (15, .invokestatic 160, 3, 169, 0, 1) ::
  (18, .ifCond .eq 16, 3, 34, 0, 0) ::
  (21, .iload_n 2, 1, 2, 0, 0) ::
  (22, .ifCond .lt 12, 3, 34, 0, 0) ::
  (25, .iload_n 2, 1, 2, 0, 0) ::
  (26, .aload_n 0, 1, 0, 0, 0) ::
  (27, .getfield 167, 3, 11, 2, 0) ::
  (30, .ishr, 1, 0, 0, 0) ::
  (31, .ifCond .eq 5, 3, 36, 0, 0) ::
  (34, .iconst (-1), 1, 0, 0, (-1)) ::
  (35, .ireturn, 1, 0, 0, 0) ::
  (36, .aload_n 0, 1, 0, 0, 0) ::
  (37, .getfield 133, 3, 11, 64, 0) ::
  (40, .aload_n 0, 1, 0, 0, 0) ::
  (41, .getfield 546, 3, 11, 63, 0) ::
  (44, .iload_n 1, 1, 1, 0, 0) ::
  (45, .iastore, 1, 0, 0, 0) ::
  (46, .aload_n 0, 1, 0, 0, 0) ::
  (47, .getfield 136, 3, 11, 65, 0) ::
  (50, .aload_n 0, 1, 0, 0, 0) ::
  (51, .getfield 546, 3, 11, 63, 0) ::
  (54, .iload_n 2, 1, 2, 0, 0) ::
  (55, .iastore, 1, 0, 0, 0) ::
  (56, .aload_n 0, 1, 0, 0, 0) ::
  (57, .dup, 1, 0, 0, 0) ::
  (58, .getfield 546, 3, 11, 63, 0) ::
  (61, .iconst 1, 1, 0, 0, 1) ::
  (62, .iadd, 1, 0, 0, 0) ::
  (63, .putfield 546, 3, 11, 63, 0) ::
  (66, .aload_n 0, 1, 0, 0, 0) ::
  (67, .getfield 546, 3, 11, 63, 0) ::
  (70, .iconst 1, 1, 0, 0, 1) ::
  (71, .isub, 1, 0, 0, 0) ::
  (72, .ireturn, 1, 0, 0, 0) ::
  []
/-- 261 BlackSunModel.planned(II)I -/
def r_261_132 : List ax_E :=
  (132, .iload 10, 2, 10, 0, 0) ::
  (134, .aload_n 0, 1, 0, 0, 0) ::
  (135, .getfield 167, 3, 11, 2, 0) ::
  (138, .if_icmp .ge 60, 3, 198, 0, 0) ::
  (141, .aload_n 0, 1, 0, 0, 0) ::
  (142, .iconst 4, 1, 0, 0, 4) ::
  (143, .iload 10, 2, 10, 0, 0) ::
  (145, .iconst 0, 1, 0, 0, 0) ::
  (146, .invokevirtual 215, 3, 183, 22, 1) ::
  (149, .istore 11, 2, 11, 0, 0) ::
  (151, .aload_n 0, 1, 0, 0, 0) ::
  (152, .iconst 4, 1, 0, 0, 4) ::
  (153, .iload 10, 2, 10, 0, 0) ::
  (155, .iconst 1, 1, 0, 0, 1) ::
  (156, .invokevirtual 215, 3, 183, 22, 1) ::
  (159, .istore 12, 2, 12, 0, 0) ::
  (161, .iload 9, 2, 9, 0, 0) ::
  (163, .iload 8, 2, 8, 0, 0) ::
  (165, .iload 10, 2, 10, 0, 0) ::
  (167, .ishr, 1, 0, 0, 0) ::
  (168, .iconst 1, 1, 0, 0, 1) ::
  (169, .iand, 1, 0, 0, 0) ::
  (170, .iconst 1, 1, 0, 0, 1) ::
  (171, .if_icmp .ne 17, 3, 188, 0, 0) ::
  (174, .iload 11, 2, 11, 0, 0) ::
  (176, .iload 11, 2, 11, 0, 0) ::
  (178, .imul, 1, 0, 0, 0) ::
  (179, .iload 12, 2, 12, 0, 0) ::
  (181, .iload 12, 2, 12, 0, 0) ::
  (183, .imul, 1, 0, 0, 0) ::
  (184, .iadd, 1, 0, 0, 0) ::
  (185, .goto 4, 3, 189, 0, 0) ::
  (188, .iconst 0, 1, 0, 0, 0) ::
  (189, .iadd, 1, 0, 0, 0) ::
  (190, .istore 9, 2, 9, 0, 0) ::
  (192, .iinc 10 1, 3, 10, 0, 1) ::
  (195, .goto (-63), 3, 132, 0, 0) ::
  (198, .iload 7, 2, 7, 0, 0) ::
  (200, .iload_n 1, 1, 1, 0, 0) ::
  (201, .if_icmp .gt 35, 3, 236, 0, 0) ::
  (204, .iload 9, 2, 9, 0, 0) ::
  (206, .iload 4, 2, 4, 0, 0) ::
  (208, .if_icmp .gt 17, 3, 225, 0, 0) ::
  (211, .iload 9, 2, 9, 0, 0) ::
  (213, .iload 4, 2, 4, 0, 0) ::
  (215, .if_icmp .ne 21, 3, 236, 0, 0) ::
  (218, .iload 7, 2, 7, 0, 0) ::
  (220, .iload 5, 2, 5, 0, 0) ::
  (222, .if_icmp .ge 14, 3, 236, 0, 0) ::
  (225, .iload 6, 2, 6, 0, 0) ::
  (227, .istore_n 3, 1, 3, 0, 0) ::
  (228, .iload 9, 2, 9, 0, 0) ::
  (230, .istore 4, 2, 4, 0, 0) ::
  (232, .iload 7, 2, 7, 0, 0) ::
  (234, .istore 5, 2, 5, 0, 0) ::
  (236, .iinc 6 1, 3, 6, 0, 1) ::
  (239, .goto (-202), 3, 37, 0, 0) ::
  (242, .iload_n 2, 1, 2, 0, 0) ::
  (243, .ifCond .ne 7, 3, 250, 0, 0) ::
  (246, .iload_n 3, 1, 3, 0, 0) ::
  (247, .goto 15, 3, 262, 0, 0) ::
  (250, .iload_n 2, 1, 2, 0, 0) ::
  (251, .iconst 1, 1, 0, 0, 1) ::
  (252, .if_icmp .ne 8, 3, 260, 0, 0) ::
  (255, .iload 4, 2, 4, 0, 0) ::
  (257, .goto 5, 3, 262, 0, 0) ::
  (260, .iload 5, 2, 5, 0, 0) ::
  (262, .ireturn, 1, 0, 0, 0) ::
  []
def r_261_90 : List ax_E :=
  (90, .iadd, 1, 0, 0, 0) ::
  (91, .istore 7, 2, 7, 0, 0) ::
  (93, .iload 8, 2, 8, 0, 0) ::
  (95, .iload 6, 2, 6, 0, 0) ::
  (97, .iload 9, 2, 9, 0, 0) ::
  (99, .ishr, 1, 0, 0, 0) ::
  (100, .iconst 1, 1, 0, 0, 1) ::
  (101, .iand, 1, 0, 0, 0) ::
  (102, .iconst 1, 1, 0, 0, 1) ::
  (103, .if_icmp .ne 13, 3, 116, 0, 0) ::
  (106, .aload_n 0, 1, 0, 0, 0) ::
  (107, .getfield 136, 3, 11, 65, 0) ::
  (110, .iload 9, 2, 9, 0, 0) ::
  (112, .iaload, 1, 0, 0, 0) ::
  (113, .goto 4, 3, 117, 0, 0) ::
  (116, .iconst 0, 1, 0, 0, 0) ::
  (117, .ior, 1, 0, 0, 0) ::
  (118, .istore 8, 2, 8, 0, 0) ::
  (120, .iinc 9 1, 3, 9, 0, 1) ::
  (123, .goto (-66), 3, 57, 0, 0) ::
  (126, .iconst 0, 1, 0, 0, 0) ::
  (127, .istore 9, 2, 9, 0, 0) ::
  (129, .iconst 0, 1, 0, 0, 0) ::
  (130, .istore 10, 2, 10, 0, 0) ::
  (132, .jsr 0, 0, 2047, 0, 0) ::
  r_261_132
def r_261_57 : List ax_E :=
  (57, .iload 9, 2, 9, 0, 0) ::
  (59, .aload_n 0, 1, 0, 0, 0) ::
  (60, .getfield 546, 3, 11, 63, 0) ::
  (63, .if_icmp .ge 63, 3, 126, 0, 0) ::
  (66, .iload 7, 2, 7, 0, 0) ::
  (68, .iload 6, 2, 6, 0, 0) ::
  (70, .iload 9, 2, 9, 0, 0) ::
  (72, .ishr, 1, 0, 0, 0) ::
  (73, .iconst 1, 1, 0, 0, 1) ::
  (74, .iand, 1, 0, 0, 0) ::
  (75, .iconst 1, 1, 0, 0, 1) ::
  (76, .if_icmp .ne 13, 3, 89, 0, 0) ::
  (79, .aload_n 0, 1, 0, 0, 0) ::
  (80, .getfield 133, 3, 11, 64, 0) ::
  (83, .iload 9, 2, 9, 0, 0) ::
  (85, .iaload, 1, 0, 0, 0) ::
  (86, .goto 4, 3, 90, 0, 0) ::
  (89, .iconst 0, 1, 0, 0, 0) ::
  (90, .jsr 0, 0, 895, 0, 0) ::
  r_261_90
def r_261_37 : List ax_E :=
  (37, .iload 6, 2, 6, 0, 0) ::
  (39, .iconst 1, 1, 0, 0, 1) ::
  (40, .aload_n 0, 1, 0, 0, 0) ::
  (41, .getfield 546, 3, 11, 63, 0) ::
  (44, .ishl, 1, 0, 0, 0) ::
  (45, .if_icmp .ge 197, 3, 242, 0, 0) ::
  (48, .iconst 0, 1, 0, 0, 0) ::
  (49, .istore 7, 2, 7, 0, 0) ::
  (51, .iconst 0, 1, 0, 0, 0) ::
  (52, .istore 8, 2, 8, 0, 0) ::
  (54, .iconst 0, 1, 0, 0, 0) ::
  (55, .istore 9, 2, 9, 0, 0) ::
  (57, .jsr 0, 0, 1023, 0, 0) ::
  r_261_57
def r_261 : List ax_E :=
  (0, .iload_n 1, 1, 1, 0, 0) ::
  (1, .i2l, 1, 0, 0, 0) ::
  (2, .lconst 1, 1, 0, 0, 1) ::
  (3, .ldc2_w 441, 3, 0, 0, 999) ::
  (6, .invokestatic 160, 3, 169, 0, 1) ::
  (9, .ifCond .eq 15, 3, 24, 0, 0) ::
  (12, .iload_n 2, 1, 2, 0, 0) ::
  (13, .i2l, 1, 0, 0, 0) ::
  (14, .lconst 0, 1, 0, 0, 0) ::
  (15, .ldc2_w 191, 3, 0, 0, 2) ::
  (18, .invokestatic 160, 3, 169, 0, 1) ::
  (21, .ifCond .ne 5, 3, 26, 0, 0) ::
  (24, .iconst (-1), 1, 0, 0, (-1)) ::
  (25, .ireturn, 1, 0, 0, 0) ::
  (26, .iconst 0, 1, 0, 0, 0) ::
  (27, .istore_n 3, 1, 3, 0, 0) ::
  (28, .iconst 0, 1, 0, 0, 0) ::
  (29, .istore 4, 2, 4, 0, 0) ::
  (31, .iconst 0, 1, 0, 0, 0) ::
  (32, .istore 5, 2, 5, 0, 0) ::
  (34, .iconst 0, 1, 0, 0, 0) ::
  (35, .istore 6, 2, 6, 0, 0) ::
  (37, .jsr 0, 0, 127, 0, 0) ::
  r_261_37
/-- 262 BlackSunModel.slipOf(I)I -/
def r_262 : List ax_E :=
  (0, .aload_n 0, 1, 0, 0, 0) ::
  (1, .aload_n 0, 1, 0, 0, 0) ::
  (2, .getfield 549, 3, 11, 66, 0) ::
  (5, .ldc2_w 552, 3, 0, 0, 1103515245) ::
  (8, .lmul, 1, 0, 0, 0) ::
  (9, .ldc2_w 554, 3, 0, 0, 12345) ::
  (12, .ladd, 1, 0, 0, 0) ::
  (13, .ldc2_w 556, 3, 0, 0, 2147483648) ::
  (16, .lrem, 1, 0, 0, 0) ::
  (17, .putfield 549, 3, 11, 66, 0) ::
  (20, .aload_n 0, 1, 0, 0, 0) ::
  (21, .getfield 549, 3, 11, 66, 0) ::
  (24, .ldc2_w 558, 3, 0, 0, 65536) ::
  (27, .ldiv, 1, 0, 0, 0) ::
  (28, .iconst 2, 1, 0, 0, 2) ::
  (29, .iload_n 1, 1, 1, 0, 0) ::
  (30, .imul, 1, 0, 0, 0) ::
  (31, .iconst 1, 1, 0, 0, 1) ::
  (32, .iadd, 1, 0, 0, 0) ::
  (33, .i2l, 1, 0, 0, 0) ::
  (34, .lrem, 1, 0, 0, 0) ::
  (35, .l2i, 1, 0, 0, 0) ::
  (36, .iload_n 1, 1, 1, 0, 0) ::
  (37, .isub, 1, 0, 0, 0) ::
  (38, .ireturn, 1, 0, 0, 0) ::
  []
/-- 263 BlackSunModel.right(IIIIII)I -/
def r_263_140 : List ax_E :=
  (140, .istore 10, 2, 10, 0, 0) ::
  (142, .iload_n 3, 1, 3, 0, 0) ::
  (143, .i2l, 1, 0, 0, 0) ::
  (144, .aload_n 0, 1, 0, 0, 0) ::
  (145, .iconst 4, 1, 0, 0, 4) ::
  (146, .iload 9, 2, 9, 0, 0) ::
  (148, .iconst 0, 1, 0, 0, 0) ::
  (149, .invokevirtual 427, 3, 225, 22, 2) ::
  (152, .lmul, 1, 0, 0, 0) ::
  (153, .ldc2_w 415, 3, 0, 0, 1000) ::
  (156, .ldiv, 1, 0, 0, 0) ::
  (157, .l2i, 1, 0, 0, 0) ::
  (158, .aload_n 0, 1, 0, 0, 0) ::
  (159, .iload 4, 2, 4, 0, 0) ::
  (161, .invokevirtual 562, 3, 262, 22, 1) ::
  (164, .iadd, 1, 0, 0, 0) ::
  (165, .istore 11, 2, 11, 0, 0) ::
  (167, .iload_n 3, 1, 3, 0, 0) ::
  (168, .i2l, 1, 0, 0, 0) ::
  (169, .aload_n 0, 1, 0, 0, 0) ::
  (170, .iconst 4, 1, 0, 0, 4) ::
  (171, .iload 9, 2, 9, 0, 0) ::
  (173, .iconst 1, 1, 0, 0, 1) ::
  (174, .invokevirtual 427, 3, 225, 22, 2) ::
  (177, .lmul, 1, 0, 0, 0) ::
  (178, .ldc2_w 415, 3, 0, 0, 1000) ::
  (181, .ldiv, 1, 0, 0, 0) ::
  (182, .l2i, 1, 0, 0, 0) ::
  (183, .aload_n 0, 1, 0, 0, 0) ::
  (184, .iload 4, 2, 4, 0, 0) ::
  (186, .invokevirtual 562, 3, 262, 22, 1) ::
  (189, .iadd, 1, 0, 0, 0) ::
  (190, .istore 12, 2, 12, 0, 0) ::
  (192, .aload_n 0, 1, 0, 0, 0) ::
  (193, .getfield 109, 3, 11, 46, 0) ::
  (196, .iload 9, 2, 9, 0, 0) ::
  (198, .iload 10, 2, 10, 0, 0) ::
  (200, .iload 11, 2, 11, 0, 0) ::
  (202, .imul, 1, 0, 0, 0) ::
  (203, .iastore, 1, 0, 0, 0) ::
  (204, .aload_n 0, 1, 0, 0, 0) ::
  (205, .getfield 112, 3, 11, 47, 0) ::
  (208, .iload 9, 2, 9, 0, 0) ::
  (210, .iload 10, 2, 10, 0, 0) ::
  (212, .iload 12, 2, 12, 0, 0) ::
  (214, .imul, 1, 0, 0, 0) ::
  (215, .iastore, 1, 0, 0, 0) ::
  (216, .iinc 9 1, 3, 9, 0, 1) ::
  (219, .goto (-119), 3, 100, 0, 0) ::
  (222, .iload 7, 2, 7, 0, 0) ::
  (224, .aload_n 0, 1, 0, 0, 0) ::
  (225, .iload_n 1, 1, 1, 0, 0) ::
  (226, .aload_n 0, 1, 0, 0, 0) ::
  (227, .getfield 164, 3, 11, 1, 0) ::
  (230, .iconst 0, 1, 0, 0, 0) ::
  (231, .iconst 0, 1, 0, 0, 0) ::
  (232, .invokevirtual 477, 3, 223, 22, 1) ::
  (235, .ifCond .eq 36, 3, 271, 0, 0) ::
  (238, .aload_n 0, 1, 0, 0, 0) ::
  (239, .invokevirtual 481, 3, 233, 22, 1) ::
  (242, .ifCond .eq 29, 3, 271, 0, 0) ::
  (245, .aload_n 0, 1, 0, 0, 0) ::
  (246, .getfield 103, 3, 11, 44, 0) ::
  (249, .iconst 4, 1, 0, 0, 4) ::
  (250, .laload, 1, 0, 0, 0) ::
  (251, .iload_n 3, 1, 3, 0, 0) ::
  (252, .i2l, 1, 0, 0, 0) ::
  (253, .lsub, 1, 0, 0, 0) ::
  (254, .iload 6, 2, 6, 0, 0) ::
  (256, .ineg, 1, 0, 0, 0) ::
  (257, .i2l, 1, 0, 0, 0) ::
  (258, .iload 6, 2, 6, 0, 0) ::
  (260, .i2l, 1, 0, 0, 0) ::
  (261, .invokestatic 160, 3, 169, 0, 1) ::
  (264, .ifCond .eq 7, 3, 271, 0, 0) ::
  (267, .iconst 1, 1, 0, 0, 1) ::
  (268, .goto 4, 3, 272, 0, 0) ::
  (271, .iconst 0, 1, 0, 0, 0) ::
  (272, .iadd, 1, 0, 0, 0) ::
  (273, .istore 7, 2, 7, 0, 0) ::
  (275, .iinc 8 1, 3, 8, 0, 1) ::
  (278, .goto (-188), 3, 90, 0, 0) ::
  (281, .iload 7, 2, 7, 0, 0) ::
  (283, .ireturn, 1, 0, 0, 0) ::
  []
def r_263_100 : List ax_E :=
  (100, .iload 9, 2, 9, 0, 0) ::
  (102, .aload_n 0, 1, 0, 0, 0) ::
  (103, .getfield 193, 3, 11, 4, 0) ::
  (106, .if_icmp .ge 116, 3, 222, 0, 0) ::
  (109, .aload_n 0, 1, 0, 0, 0) ::
  (110, .getfield 84, 3, 11, 38, 0) ::
  (113, .iload 9, 2, 9, 0, 0) ::
  (115, .baload, 1, 19, 0, 0) ::
  (116, .ifCond .eq 100, 3, 216, 0, 0) ::
  (119, .aload_n 0, 1, 0, 0, 0) ::
  (120, .getfield 22, 3, 11, 9, 0) ::
  (123, .aload_n 0, 1, 0, 0, 0) ::
  (124, .getfield 28, 3, 11, 11, 0) ::
  (127, .iload 9, 2, 9, 0, 0) ::
  (129, .iaload, 1, 0, 0, 0) ::
  (130, .iaload, 1, 0, 0, 0) ::
  (131, .iconst 1, 1, 0, 0, 1) ::
  (132, .if_icmp .ne 7, 3, 139, 0, 0) ::
  (135, .iconst (-1), 1, 0, 0, (-1)) ::
  (136, .goto 4, 3, 140, 0, 0) ::
  (139, .iconst 1, 1, 0, 0, 1) ::
  (140, .jsr 0, 0, 1019, 0, 0) ::
  r_263_140
def r_263_90 : List ax_E :=
  (90, .iload 8, 2, 8, 0, 0) ::
  (92, .iload 5, 2, 5, 0, 0) ::
  (94, .if_icmp .ge 187, 3, 281, 0, 0) ::
  (97, .iconst 0, 1, 0, 0, 0) ::
  (98, .istore 9, 2, 9, 0, 0) ::
  (100, .jsr 0, 0, 1019, 0, 0) ::
  r_263_100
def r_263 : List ax_E :=
  (0, .aload_n 0, 1, 0, 0, 0) ::
  (1, .iload_n 1, 1, 1, 0, 0) ::
  (2, .invokevirtual 384, 3, 211, 22, 1) ::
  (5, .ifCond .eq 58, 3, 63, 0, 0) ::
  (8, .iload_n 2, 1, 2, 0, 0) ::
  (9, .ifCond .lt 54, 3, 63, 0, 0) ::
  (12, .iload_n 3, 1, 3, 0, 0) ::
  (13, .i2l, 1, 0, 0, 0) ::
  (14, .lconst 0, 1, 0, 0, 0) ::
  (15, .ldc2_w 158, 3, 0, 0, 9999) ::
  (18, .invokestatic 160, 3, 169, 0, 1) ::
  (21, .ifCond .eq 42, 3, 63, 0, 0) ::
  (24, .iload 4, 2, 4, 0, 0) ::
  (26, .i2l, 1, 0, 0, 0) ::
  (27, .lconst 0, 1, 0, 0, 0) ::
  (28, .ldc2_w 179, 3, 0, 0, 99) ::
  (31, .invokestatic 160, 3, 169, 0, 1) ::
  (34, .ifCond .eq 29, 3, 63, 0, 0) ::
  (37, .iload 5, 2, 5, 0, 0) ::
  (39, .i2l, 1, 0, 0, 0) ::
  (40, .lconst 1, 1, 0, 0, 1) ::
  (41, .ldc2_w 560, 3, 0, 0, 50) ::
  (44, .invokestatic 160, 3, 169, 0, 1) ::
  (47, .ifCond .eq 16, 3, 63, 0, 0) ::
  (50, .iload 6, 2, 6, 0, 0) ::
  (52, .i2l, 1, 0, 0, 0) ::
  (53, .lconst 0, 1, 0, 0, 0) ::
  (54, .ldc2_w 499, 3, 0, 0, 99999) ::
  (57, .invokestatic 160, 3, 169, 0, 1) ::
  (60, .ifCond .ne 5, 3, 65, 0, 0) ::
  (63, .iconst (-1), 1, 0, 0, (-1)) ::
  (64, .ireturn, 1, 0, 0, 0) ::
  (65, .aload_n 0, 1, 0, 0, 0) ::
  (66, .iload_n 1, 1, 1, 0, 0) ::
  (67, .aload_n 0, 1, 0, 0, 0) ::
  (68, .getfield 164, 3, 11, 1, 0) ::
  (71, .invokevirtual 412, 3, 219, 22, 0) ::
  (74, .aload_n 0, 1, 0, 0, 0) ::
  (75, .invokevirtual 474, 3, 224, 22, 0) ::
  (78, .aload_n 0, 1, 0, 0, 0) ::
  (79, .iload_n 2, 1, 2, 0, 0) ::
  (80, .i2l, 1, 0, 0, 0) ::
  (81, .putfield 549, 3, 11, 66, 0) ::
  (84, .iconst 0, 1, 0, 0, 0) ::
  (85, .istore 7, 2, 7, 0, 0) ::
  (87, .iconst 0, 1, 0, 0, 0) ::
  (88, .istore 8, 2, 8, 0, 0) ::
  (90, .jsr 0, 0, 507, 0, 0) ::
  r_263_90
/-- 264 BlackSunModel.span(III)I -/
def r_264_133 : List ax_E :=
  (133, .iconst 0, 1, 0, 0, 0) ::
  (134, .istore 7, 2, 7, 0, 0) ::
  (136, .iload 7, 2, 7, 0, 0) ::
  (138, .ifCond .eq 8, 3, 146, 0, 0) ::
  (141, .iload 6, 2, 6, 0, 0) ::
  (143, .goto 5, 3, 148, 0, 0) ::
  (146, .iload 4, 2, 4, 0, 0) ::
  (148, .istore 4, 2, 4, 0, 0) ::
  (150, .iinc 5 1, 3, 5, 0, 1) ::
  (153, .goto (-112), 3, 41, 0, 0) ::
  (156, .iload 4, 2, 4, 0, 0) ::
  (158, .ireturn, 1, 0, 0, 0) ::
  []
def r_264_129 : List ax_E :=
  (129, .iconst 1, 1, 0, 0, 1) ::
  (130, .goto 4, 3, 134, 0, 0) ::
  (133, .jsr 0, 0, 127, 0, 0) ::
  r_264_133
def r_264_90 : List ax_E :=
  (90, .istore 6, 2, 6, 0, 0) ::
  (92, .iload 6, 2, 6, 0, 0) ::
  (94, .ldc_w 486, 3, 0, 0, (-1000000000)) ::
  (97, .if_icmp .eq 36, 3, 133, 0, 0) ::
  (100, .iload 4, 2, 4, 0, 0) ::
  (102, .ldc_w 486, 3, 0, 0, (-1000000000)) ::
  (105, .if_icmp .eq 24, 3, 129, 0, 0) ::
  (108, .iload_n 3, 1, 3, 0, 0) ::
  (109, .ifCond .ne 13, 3, 122, 0, 0) ::
  (112, .iload 6, 2, 6, 0, 0) ::
  (114, .iload 4, 2, 4, 0, 0) ::
  (116, .if_icmp .ge 17, 3, 133, 0, 0) ::
  (119, .goto 10, 3, 129, 0, 0) ::
  (122, .iload 6, 2, 6, 0, 0) ::
  (124, .iload 4, 2, 4, 0, 0) ::
  (126, .if_icmp .le 7, 3, 133, 0, 0) ::
  (129, .jsr 0, 0, 127, 0, 0) ::
  r_264_129
def r_264_41 : List ax_E :=
  (41, .iload 5, 2, 5, 0, 0) ::
  (43, .aload_n 0, 1, 0, 0, 0) ::
  (44, .getfield 170, 3, 11, 3, 0) ::
  (47, .aload_n 0, 1, 0, 0, 0) ::
  (48, .getfield 167, 3, 11, 2, 0) ::
  (51, .iadd, 1, 0, 0, 0) ::
  (52, .if_icmp .ge 104, 3, 156, 0, 0) ::
  (55, .iload 5, 2, 5, 0, 0) ::
  (57, .aload_n 0, 1, 0, 0, 0) ::
  (58, .getfield 170, 3, 11, 3, 0) ::
  (61, .if_icmp .ge 15, 3, 76, 0, 0) ::
  (64, .aload_n 0, 1, 0, 0, 0) ::
  (65, .iload_n 1, 1, 1, 0, 0) ::
  (66, .iload_n 2, 1, 2, 0, 0) ::
  (67, .iconst 0, 1, 0, 0, 0) ::
  (68, .iload 5, 2, 5, 0, 0) ::
  (70, .invokevirtual 565, 3, 239, 22, 1) ::
  (73, .goto 17, 3, 90, 0, 0) ::
  (76, .aload_n 0, 1, 0, 0, 0) ::
  (77, .iload_n 1, 1, 1, 0, 0) ::
  (78, .iload_n 2, 1, 2, 0, 0) ::
  (79, .iconst 1, 1, 0, 0, 1) ::
  (80, .iload 5, 2, 5, 0, 0) ::
  (82, .aload_n 0, 1, 0, 0, 0) ::
  (83, .getfield 170, 3, 11, 3, 0) ::
  (86, .isub, 1, 0, 0, 0) ::
  (87, .invokevirtual 565, 3, 239, 22, 1) ::
  (90, .jsr 0, 0, 63, 0, 0) ::
  r_264_90
def r_264 : List ax_E :=
  (0, .aload_n 0, 1, 0, 0, 0) ::
  (1, .iload_n 1, 1, 1, 0, 0) ::
  (2, .invokevirtual 384, 3, 211, 22, 1) ::
  (5, .ifCond .eq 20, 3, 25, 0, 0) ::
  (8, .iload_n 2, 1, 2, 0, 0) ::
  (9, .invokestatic 210, 3, 170, 0, 1) ::
  (12, .ifCond .eq 13, 3, 25, 0, 0) ::
  (15, .iload_n 3, 1, 3, 0, 0) ::
  (16, .i2l, 1, 0, 0, 0) ::
  (17, .lconst 0, 1, 0, 0, 0) ::
  (18, .lconst 1, 1, 0, 0, 1) ::
  (19, .invokestatic 160, 3, 169, 0, 1) ::
  (22, .ifCond .ne 7, 3, 29, 0, 0) ::
  (25, .ldc_w 490, 3, 0, 0, (-2000000000)) ::
  (28, .ireturn, 1, 0, 0, 0) ::
  (29, .aload_n 0, 1, 0, 0, 0) ::
  (30, .iload_n 1, 1, 1, 0, 0) ::
  (31, .iconst 4, 1, 0, 0, 4) ::
  (32, .iload_n 2, 1, 2, 0, 0) ::
  (33, .invokevirtual 487, 3, 236, 22, 1) ::
  (36, .istore 4, 2, 4, 0, 0) ::
  (38, .iconst 0, 1, 0, 0, 0) ::
  (39, .istore 5, 2, 5, 0, 0) ::
  (41, .jsr 0, 0, 63, 0, 0) ::
  r_264_41
/-- 265 BlackSunModel.named(IIIII)I -/
def r_265_102 : List ax_E :=
  (102, .iload 5, 2, 5, 0, 0) ::
  (104, .if_icmp .ne 7, 3, 111, 0, 0) ::
  (107, .iconst 1, 1, 0, 0, 1) ::
  (108, .goto 4, 3, 112, 0, 0) ::
  (111, .iconst 0, 1, 0, 0, 0) ::
  (112, .iadd, 1, 0, 0, 0) ::
  (113, .istore 6, 2, 6, 0, 0) ::
  (115, .iinc 7 1, 3, 7, 0, 1) ::
  (118, .goto (-53), 3, 65, 0, 0) ::
  (121, .iload 6, 2, 6, 0, 0) ::
  (123, .ireturn, 1, 0, 0, 0) ::
  []
def r_265_65 : List ax_E :=
  (65, .iload 7, 2, 7, 0, 0) ::
  (67, .aload_n 0, 1, 0, 0, 0) ::
  (68, .getfield 289, 3, 11, 20, 0) ::
  (71, .if_icmp .ge 50, 3, 121, 0, 0) ::
  (74, .aload_n 0, 1, 0, 0, 0) ::
  (75, .iload 7, 2, 7, 0, 0) ::
  (77, .iload_n 1, 1, 1, 0, 0) ::
  (78, .iload_n 2, 1, 2, 0, 0) ::
  (79, .iload_n 3, 1, 3, 0, 0) ::
  (80, .iload 4, 2, 4, 0, 0) ::
  (82, .invokevirtual 568, 3, 242, 22, 1) ::
  (85, .istore 8, 2, 8, 0, 0) ::
  (87, .iload 6, 2, 6, 0, 0) ::
  (89, .iload 8, 2, 8, 0, 0) ::
  (91, .bipush (-2), 2, 0, 0, (-2)) ::
  (93, .if_icmp .ne 7, 3, 100, 0, 0) ::
  (96, .iconst 3, 1, 0, 0, 3) ::
  (97, .goto 5, 3, 102, 0, 0) ::
  (100, .iload 8, 2, 8, 0, 0) ::
  (102, .jsr 0, 0, 191, 0, 0) ::
  r_265_102
def r_265 : List ax_E :=
  (0, .iload_n 1, 1, 1, 0, 0) ::
  (1, .invokestatic 210, 3, 170, 0, 1) ::
  (4, .ifCond .eq 53, 3, 57, 0, 0) ::
  (7, .iload_n 2, 1, 2, 0, 0) ::
  (8, .i2l, 1, 0, 0, 0) ::
  (9, .lconst 0, 1, 0, 0, 0) ::
  (10, .ldc2_w 499, 3, 0, 0, 99999) ::
  (13, .invokestatic 160, 3, 169, 0, 1) ::
  (16, .ifCond .eq 41, 3, 57, 0, 0) ::
  (19, .iload_n 3, 1, 3, 0, 0) ::
  (20, .i2l, 1, 0, 0, 0) ::
  (21, .lconst 0, 1, 0, 0, 0) ::
  (22, .ldc2_w 499, 3, 0, 0, 99999) ::
  (25, .invokestatic 160, 3, 169, 0, 1) ::
  (28, .ifCond .eq 29, 3, 57, 0, 0) ::
  (31, .iload 4, 2, 4, 0, 0) ::
  (33, .i2l, 1, 0, 0, 0) ::
  (34, .lconst 0, 1, 0, 0, 0) ::
  (35, .ldc2_w 499, 3, 0, 0, 99999) ::
  (38, .invokestatic 160, 3, 169, 0, 1) ::
  (41, .ifCond .eq 16, 3, 57, 0, 0) ::
  (44, .iload 5, 2, 5, 0, 0) ::
  (46, .i2l, 1, 0, 0, 0) ::
  (47, .lconst 0, 1, 0, 0, 0) ::
  (48, .ldc2_w 189, 3, 0, 0, 3) ::
  (51, .invokestatic 160, 3, 169, 0, 1) ::
  (54, .ifCond .ne 5, 3, 59, 0, 0) ::
  (57, .iconst (-1), 1, 0, 0, (-1)) ::
  (58, .ireturn, 1, 0, 0, 0) ::
  (59, .iconst 0, 1, 0, 0, 0) ::
  (60, .istore 6, 2, 6, 0, 0) ::
  (62, .iconst 0, 1, 0, 0, 0) ::
  (63, .istore 7, 2, 7, 0, 0) ::
  (65, .jsr 0, 0, 255, 0, 0) ::
  r_265_65
/-- 266 BlackSunModel.glass(IIII)Z -/
def r_266 : List ax_E :=
  (0, .iload_n 1, 1, 1, 0, 0) ::
  (1, .i2l, 1, 0, 0, 0) ::
  (2, .lconst 0, 1, 0, 0, 0) ::
  (3, .ldc2_w 189, 3, 0, 0, 3) ::
  (6, .invokestatic 160, 3, 169, 0, 1) ::
  (9, .ifCond .eq 44, 3, 53, 0, 0) ::
  (12, .iload_n 2, 1, 2, 0, 0) ::
  (13, .invokestatic 387, 3, 212, 0, 1) ::
  (16, .ifCond .eq 37, 3, 53, 0, 0) ::
  (19, .iload_n 2, 1, 2, 0, 0) ::
  (20, .iconst 4, 1, 0, 0, 4) ::
  (21, .if_icmp .eq 32, 3, 53, 0, 0) ::
  (24, .iload_n 3, 1, 3, 0, 0) ::
  (25, .i2l, 1, 0, 0, 0) ::
  (26, .ldc2_w 572, 3, 0, 0, (-9999)) ::
  (29, .ldc2_w 158, 3, 0, 0, 9999) ::
  (32, .invokestatic 160, 3, 169, 0, 1) ::
  (35, .ifCond .eq 18, 3, 53, 0, 0) ::
  (38, .iload 4, 2, 4, 0, 0) ::
  (40, .i2l, 1, 0, 0, 0) ::
  (41, .ldc2_w 574, 3, 0, 0, (-99)) ::
  (44, .ldc2_w 179, 3, 0, 0, 99) ::
  (47, .invokestatic 160, 3, 169, 0, 1) ::
  (50, .ifCond .ne 5, 3, 55, 0, 0) ::
  (53, .iconst 0, 1, 0, 0, 0) ::
  (54, .ireturn, 1, 1, 0, 0) ::
  (55, .aload_n 0, 1, 0, 0, 0) ::
  (56, .getfield 139, 3, 11, 67, 0) ::
  (59, .bipush 6, 2, 0, 0, 6) ::
  (61, .iload_n 1, 1, 1, 0, 0) ::
  (62, .imul, 1, 0, 0, 0) ::
  (63, .iload_n 2, 1, 2, 0, 0) ::
  (64, .iadd, 1, 0, 0, 0) ::
  (65, .iload_n 3, 1, 3, 0, 0) ::
  (66, .iastore, 1, 0, 0, 0) ::
  (67, .aload_n 0, 1, 0, 0, 0) ::
  (68, .getfield 142, 3, 11, 68, 0) ::
  (71, .bipush 6, 2, 0, 0, 6) ::
  (73, .iload_n 1, 1, 1, 0, 0) ::
  (74, .imul, 1, 0, 0, 0) ::
  (75, .iload_n 2, 1, 2, 0, 0) ::
  (76, .iadd, 1, 0, 0, 0) ::
  (77, .iload 4, 2, 4, 0, 0) ::
  (79, .iastore, 1, 0, 0, 0) ::
  (80, .iconst 1, 1, 0, 0, 1) ::
  (81, .ireturn, 1, 1, 0, 0) ::
  []
/-- 267 BlackSunModel.standing(IIIII)I -/
def r_267_69 : List ax_E :=
  (69, .istore 9, 2, 9, 0, 0) ::
  (71, .iload 6, 2, 6, 0, 0) ::
  (73, .iload 9, 2, 9, 0, 0) ::
  (75, .aload_n 0, 1, 0, 0, 0) ::
  (76, .iload 7, 2, 7, 0, 0) ::
  (78, .iload_n 3, 1, 3, 0, 0) ::
  (79, .iload 5, 2, 5, 0, 0) ::
  (81, .invokevirtual 215, 3, 183, 22, 1) ::
  (84, .imul, 1, 0, 0, 0) ::
  (85, .sipush 1000, 3, 0, 0, 1000) ::
  (88, .idiv, 1, 0, 0, 0) ::
  (89, .iadd, 1, 0, 0, 0) ::
  (90, .istore 6, 2, 6, 0, 0) ::
  (92, .iinc 7 1, 3, 7, 0, 1) ::
  (95, .goto (-89), 3, 6, 0, 0) ::
  (98, .iload 6, 2, 6, 0, 0) ::
  (100, .ireturn, 1, 0, 0, 0) ::
  []
def r_267_6 : List ax_E :=
  (6, .iload 7, 2, 7, 0, 0) ::
  (8, .bipush 6, 2, 0, 0, 6) ::
  (10, .if_icmp .ge 88, 3, 98, 0, 0) ::
  (13, .bipush 6, 2, 0, 0, 6) ::
  (15, .aload_n 0, 1, 0, 0, 0) ::
  (16, .getfield 19, 3, 11, 8, 0) ::
  (19, .iload_n 1, 1, 1, 0, 0) ::
  (20, .iaload, 1, 0, 0, 0) ::
  (21, .imul, 1, 0, 0, 0) ::
  (22, .iload 7, 2, 7, 0, 0) ::
  (24, .iadd, 1, 0, 0, 0) ::
  (25, .istore 8, 2, 8, 0, 0) ::
  (27, .iload 7, 2, 7, 0, 0) ::
  (29, .iconst 4, 1, 0, 0, 4) ::
  (30, .if_icmp .ne 22, 3, 52, 0, 0) ::
  (33, .aload_n 0, 1, 0, 0, 0) ::
  (34, .getfield 22, 3, 11, 9, 0) ::
  (37, .iload_n 1, 1, 1, 0, 0) ::
  (38, .iaload, 1, 0, 0, 0) ::
  (39, .iconst 1, 1, 0, 0, 1) ::
  (40, .if_icmp .ne 7, 3, 47, 0, 0) ::
  (43, .iconst 0, 1, 0, 0, 0) ::
  (44, .goto 25, 3, 69, 0, 0) ::
  (47, .iload 4, 2, 4, 0, 0) ::
  (49, .goto 20, 3, 69, 0, 0) ::
  (52, .aload_n 0, 1, 0, 0, 0) ::
  (53, .getfield 139, 3, 11, 67, 0) ::
  (56, .iload 8, 2, 8, 0, 0) ::
  (58, .iaload, 1, 0, 0, 0) ::
  (59, .iload_n 2, 1, 2, 0, 0) ::
  (60, .aload_n 0, 1, 0, 0, 0) ::
  (61, .getfield 142, 3, 11, 68, 0) ::
  (64, .iload 8, 2, 8, 0, 0) ::
  (66, .iaload, 1, 0, 0, 0) ::
  (67, .imul, 1, 0, 0, 0) ::
  (68, .iadd, 1, 0, 0, 0) ::
  (69, .jsr 0, 0, 255, 0, 0) ::
  r_267_69
def r_267 : List ax_E :=
  (0, .iconst 0, 1, 0, 0, 0) ::
  (1, .istore 6, 2, 6, 0, 0) ::
  (3, .iconst 0, 1, 0, 0, 0) ::
  (4, .istore 7, 2, 7, 0, 0) ::
  (6, .jsr 0, 0, 255, 0, 0) ::
  r_267_6
/-- 268 BlackSunModel.stands(IIII)I -/
def r_268 : List ax_E :=
  (0, .aload_n 0, 1, 0, 0, 0) ::
  (1, .iload_n 1, 1, 1, 0, 0) ::
  (2, .invokevirtual 196, 3, 173, 22, 1) ::
  (5, .ifCond .eq 52, 3, 57, 0, 0) ::
  (8, .aload_n 0, 1, 0, 0, 0) ::
  (9, .iload_n 2, 1, 2, 0, 0) ::
  (10, .invokevirtual 181, 3, 172, 22, 1) ::
  (13, .ifCond .eq 44, 3, 57, 0, 0) ::
  (16, .iload_n 3, 1, 3, 0, 0) ::
  (17, .i2l, 1, 0, 0, 0) ::
  (18, .lconst 0, 1, 0, 0, 0) ::
  (19, .ldc2_w 499, 3, 0, 0, 99999) ::
  (22, .invokestatic 160, 3, 169, 0, 1) ::
  (25, .ifCond .eq 32, 3, 57, 0, 0) ::
  (28, .iload 4, 2, 4, 0, 0) ::
  (30, .i2l, 1, 0, 0, 0) ::
  (31, .lconst 0, 1, 0, 0, 0) ::
  (32, .lconst 1, 1, 0, 0, 1) ::
  (33, .invokestatic 160, 3, 169, 0, 1) ::
  (36, .ifCond .eq 21, 3, 57, 0, 0) ::
  (39, .aload_n 0, 1, 0, 0, 0) ::
  (40, .iload_n 1, 1, 1, 0, 0) ::
  (41, .aload_n 0, 1, 0, 0, 0) ::
  (42, .getfield 25, 3, 11, 10, 0) ::
  (45, .iload_n 1, 1, 1, 0, 0) ::
  (46, .iaload, 1, 0, 0, 0) ::
  (47, .iload_n 2, 1, 2, 0, 0) ::
  (48, .iload_n 3, 1, 3, 0, 0) ::
  (49, .iload 4, 2, 4, 0, 0) ::
  (51, .invokevirtual 576, 3, 267, 22, 1) ::
  (54, .goto 6, 3, 60, 0, 0) ::
  (57, .ldc_w 579, 3, 0, 0, (-1000000)) ::
  (60, .ireturn, 1, 0, 0, 0) ::
  []
/-- 269 BlackSunModel.offBy(IIII)J -/
def r_269_11 : List ax_E :=
  (11, .iload 7, 2, 7, 0, 0) ::
  (13, .aload_n 0, 1, 0, 0, 0) ::
  (14, .getfield 193, 3, 11, 4, 0) ::
  (17, .if_icmp .ge 110, 3, 127, 0, 0) ::
  (20, .aload_n 0, 1, 0, 0, 0) ::
  (21, .getfield 28, 3, 11, 11, 0) ::
  (24, .iload 7, 2, 7, 0, 0) ::
  (26, .iaload, 1, 0, 0, 0) ::
  (27, .iload_n 1, 1, 1, 0, 0) ::
  (28, .if_icmp .ne 93, 3, 121, 0, 0) ::
  (31, .aload_n 0, 1, 0, 0, 0) ::
  (32, .iload 7, 2, 7, 0, 0) ::
  (34, .iload_n 2, 1, 2, 0, 0) ::
  (35, .invokevirtual 406, 3, 181, 22, 1) ::
  (38, .ifCond .eq 83, 3, 121, 0, 0) ::
  (41, .aload_n 0, 1, 0, 0, 0) ::
  (42, .getfield 37, 3, 11, 14, 0) ::
  (45, .iload 7, 2, 7, 0, 0) ::
  (47, .iaload, 1, 0, 0, 0) ::
  (48, .aload_n 0, 1, 0, 0, 0) ::
  (49, .iload_n 1, 1, 1, 0, 0) ::
  (50, .iload 4, 2, 4, 0, 0) ::
  (52, .aload_n 0, 1, 0, 0, 0) ::
  (53, .getfield 31, 3, 11, 12, 0) ::
  (56, .iload 7, 2, 7, 0, 0) ::
  (58, .iaload, 1, 0, 0, 0) ::
  (59, .iload_n 3, 1, 3, 0, 0) ::
  (60, .iconst 0, 1, 0, 0, 0) ::
  (61, .invokevirtual 576, 3, 267, 22, 1) ::
  (64, .isub, 1, 0, 0, 0) ::
  (65, .i2l, 1, 0, 0, 0) ::
  (66, .lstore 8, 2, 8, 0, 0) ::
  (68, .aload_n 0, 1, 0, 0, 0) ::
  (69, .getfield 40, 3, 11, 15, 0) ::
  (72, .iload 7, 2, 7, 0, 0) ::
  (74, .iaload, 1, 0, 0, 0) ::
  (75, .aload_n 0, 1, 0, 0, 0) ::
  (76, .iload_n 1, 1, 1, 0, 0) ::
  (77, .iload 4, 2, 4, 0, 0) ::
  (79, .aload_n 0, 1, 0, 0, 0) ::
  (80, .getfield 31, 3, 11, 12, 0) ::
  (83, .iload 7, 2, 7, 0, 0) ::
  (85, .iaload, 1, 0, 0, 0) ::
  (86, .iload_n 3, 1, 3, 0, 0) ::
  (87, .iconst 1, 1, 0, 0, 1) ::
  (88, .invokevirtual 576, 3, 267, 22, 1) ::
  (91, .isub, 1, 0, 0, 0) ::
  (92, .i2l, 1, 0, 0, 0) ::
  (93, .lstore 10, 2, 10, 0, 0) ::
  (95, .lload 5, 2, 5, 0, 0) ::
  (97, .lload 8, 2, 8, 0, 0) ::
  (99, .lload 8, 2, 8, 0, 0) ::
  (101, .lmul, 1, 0, 0, 0) ::
  (102, .lload 10, 2, 10, 0, 0) ::
  (104, .lload 10, 2, 10, 0, 0) ::
  (106, .lmul, 1, 0, 0, 0) ::
  (107, .ladd, 1, 0, 0, 0) ::
  (108, .ladd, 1, 0, 0, 0) ::
  (109, .lstore 5, 2, 5, 0, 0) ::
  (111, .aload_n 0, 1, 0, 0, 0) ::
  (112, .dup, 1, 0, 0, 0) ::
  (113, .getfield 580, 3, 11, 69, 0) ::
  (116, .iconst 1, 1, 0, 0, 1) ::
  (117, .iadd, 1, 0, 0, 0) ::
  (118, .putfield 580, 3, 11, 69, 0) ::
  (121, .iinc 7 1, 3, 7, 0, 1) ::
  (124, .goto (-113), 3, 11, 0, 0) ::
  (127, .lload 5, 2, 5, 0, 0) ::
  (129, .lreturn, 1, 0, 0, 0) ::
  []
def r_269 : List ax_E :=
  (0, .lconst 0, 1, 0, 0, 0) ::
  (1, .lstore 5, 2, 5, 0, 0) ::
  (3, .aload_n 0, 1, 0, 0, 0) ::
  (4, .iconst 0, 1, 0, 0, 0) ::
  (5, .putfield 580, 3, 11, 69, 0) ::
  (8, .iconst 0, 1, 0, 0, 0) ::
  (9, .istore 7, 2, 7, 0, 0) ::
  (11, .jsr 0, 0, 191, 0, 0) ::
  r_269_11
/-- 270 BlackSunModel.off(III)J -/
def r_270 : List ax_E :=
  (0, .aload_n 0, 1, 0, 0, 0) ::
  (1, .iload_n 1, 1, 1, 0, 0) ::
  (2, .invokevirtual 196, 3, 173, 22, 1) ::
  (5, .ifCond .eq 38, 3, 43, 0, 0) ::
  (8, .iload_n 2, 1, 2, 0, 0) ::
  (9, .invokestatic 210, 3, 170, 0, 1) ::
  (12, .ifCond .eq 31, 3, 43, 0, 0) ::
  (15, .iload_n 3, 1, 3, 0, 0) ::
  (16, .i2l, 1, 0, 0, 0) ::
  (17, .lconst 0, 1, 0, 0, 0) ::
  (18, .ldc2_w 499, 3, 0, 0, 99999) ::
  (21, .invokestatic 160, 3, 169, 0, 1) ::
  (24, .ifCond .eq 19, 3, 43, 0, 0) ::
  (27, .aload_n 0, 1, 0, 0, 0) ::
  (28, .iload_n 1, 1, 1, 0, 0) ::
  (29, .iload_n 2, 1, 2, 0, 0) ::
  (30, .iload_n 3, 1, 3, 0, 0) ::
  (31, .aload_n 0, 1, 0, 0, 0) ::
  (32, .getfield 25, 3, 11, 10, 0) ::
  (35, .iload_n 1, 1, 1, 0, 0) ::
  (36, .iaload, 1, 0, 0, 0) ::
  (37, .invokevirtual 583, 3, 269, 22, 2) ::
  (40, .goto 6, 3, 46, 0, 0) ::
  (43, .ldc2_w 495, 3, 0, 0, (-1)) ::
  (46, .lreturn, 1, 0, 0, 0) ::
  []
/-- 271 BlackSunModel.heat(III)I -/
def r_271_87 : List ax_E :=
  (87, .istore 4, 2, 4, 0, 0) ::
  (89, .lload 8, 2, 8, 0, 0) ::
  (91, .lload 5, 2, 5, 0, 0) ::
  (93, .lcmp, 1, 0, 0, 0) ::
  (94, .ifCond .ge 8, 3, 102, 0, 0) ::
  (97, .lload 8, 2, 8, 0, 0) ::
  (99, .goto 5, 3, 104, 0, 0) ::
  (102, .lload 5, 2, 5, 0, 0) ::
  (104, .lstore 5, 2, 5, 0, 0) ::
  (106, .iinc 7 1, 3, 7, 0, 1) ::
  (109, .goto (-55), 3, 54, 0, 0) ::
  (112, .iload 4, 2, 4, 0, 0) ::
  (114, .ireturn, 1, 0, 0, 0) ::
  []
def r_271_54 : List ax_E :=
  (54, .iload 7, 2, 7, 0, 0) ::
  (56, .bipush 100, 2, 0, 0, 100) ::
  (58, .if_icmp .ge 54, 3, 112, 0, 0) ::
  (61, .aload_n 0, 1, 0, 0, 0) ::
  (62, .iload_n 1, 1, 1, 0, 0) ::
  (63, .iload_n 2, 1, 2, 0, 0) ::
  (64, .iload_n 3, 1, 3, 0, 0) ::
  (65, .iload 7, 2, 7, 0, 0) ::
  (67, .invokevirtual 583, 3, 269, 22, 2) ::
  (70, .lstore 8, 2, 8, 0, 0) ::
  (72, .lload 8, 2, 8, 0, 0) ::
  (74, .lload 5, 2, 5, 0, 0) ::
  (76, .lcmp, 1, 0, 0, 0) ::
  (77, .ifCond .ge 8, 3, 85, 0, 0) ::
  (80, .iload 7, 2, 7, 0, 0) ::
  (82, .goto 5, 3, 87, 0, 0) ::
  (85, .iload 4, 2, 4, 0, 0) ::
  (87, .jsr 0, 0, 431, 0, 0) ::
  r_271_87
def r_271 : List ax_E :=
  (0, .aload_n 0, 1, 0, 0, 0) ::
  (1, .iload_n 1, 1, 1, 0, 0) ::
  (2, .invokevirtual 196, 3, 173, 22, 1) ::
  (5, .ifCond .eq 22, 3, 27, 0, 0) ::
  (8, .iload_n 2, 1, 2, 0, 0) ::
  (9, .invokestatic 210, 3, 170, 0, 1) ::
  (12, .ifCond .eq 15, 3, 27, 0, 0) ::
  (15, .iload_n 3, 1, 3, 0, 0) ::
  (16, .i2l, 1, 0, 0, 0) ::
  (17, .lconst 0, 1, 0, 0, 0) ::
  (18, .ldc2_w 499, 3, 0, 0, 99999) ::
  (21, .invokestatic 160, 3, 169, 0, 1) ::
  (24, .ifCond .ne 5, 3, 29, 0, 0) ::
  (27, .iconst (-1), 1, 0, 0, (-1)) ::
  (28, .ireturn, 1, 0, 0, 0) ::
  (29, .iconst 0, 1, 0, 0, 0) ::
  (30, .istore 4, 2, 4, 0, 0) ::
  (32, .aload_n 0, 1, 0, 0, 0) ::
  (33, .iload_n 1, 1, 1, 0, 0) ::
  (34, .iload_n 2, 1, 2, 0, 0) ::
  (35, .iload_n 3, 1, 3, 0, 0) ::
  (36, .iconst 0, 1, 0, 0, 0) ::
  (37, .invokevirtual 583, 3, 269, 22, 2) ::
  (40, .lstore 5, 2, 5, 0, 0) ::
  (42, .aload_n 0, 1, 0, 0, 0) ::
  (43, .getfield 580, 3, 11, 69, 0) ::
  (46, .ifCond .ne 5, 3, 51, 0, 0) ::
  (49, .iconst (-1), 1, 0, 0, (-1)) ::
  (50, .ireturn, 1, 0, 0, 0) ::
  (51, .iconst 1, 1, 0, 0, 1) ::
  (52, .istore 7, 2, 7, 0, 0) ::
  (54, .jsr 0, 0, 191, 0, 0) ::
  r_271_54
/-- 272 BlackSunModel.again(IIII)I -/
def r_272_194 : List ax_E :=
  (194, .iload 15, 2, 15, 0, 0) ::
  (196, .iload 15, 2, 15, 0, 0) ::
  (198, .imul, 1, 0, 0, 0) ::
  (199, .iload 16, 2, 16, 0, 0) ::
  (201, .iload 16, 2, 16, 0, 0) ::
  (203, .imul, 1, 0, 0, 0) ::
  (204, .iadd, 1, 0, 0, 0) ::
  (205, .istore 8, 2, 8, 0, 0) ::
  (207, .iload 11, 2, 11, 0, 0) ::
  (209, .istore 9, 2, 9, 0, 0) ::
  (211, .iload 12, 2, 12, 0, 0) ::
  (213, .istore 10, 2, 10, 0, 0) ::
  (215, .iinc 12 1, 3, 12, 0, 1) ::
  (218, .goto (-142), 3, 76, 0, 0) ::
  (221, .iinc 11 1, 3, 11, 0, 1) ::
  (224, .goto (-160), 3, 64, 0, 0) ::
  (227, .iload 4, 2, 4, 0, 0) ::
  (229, .tableswitch 50 0 4 #[35, 38, 41, 44, 47], 35, 0, 0, 0) ::
  (264, .iload 5, 2, 5, 0, 0) ::
  (266, .ireturn, 1, 0, 0, 0) ::
  (267, .iload 6, 2, 6, 0, 0) ::
  (269, .ireturn, 1, 0, 0, 0) ::
  (270, .iload 7, 2, 7, 0, 0) ::
  (272, .ireturn, 1, 0, 0, 0) ::
  (273, .iload 8, 2, 8, 0, 0) ::
  (275, .ireturn, 1, 0, 0, 0) ::
  (276, .iload 9, 2, 9, 0, 0) ::
  (278, .ireturn, 1, 0, 0, 0) ::
  (279, .iload 10, 2, 10, 0, 0) ::
  (281, .ireturn, 1, 0, 0, 0) ::
  []
def r_272_76 : List ax_E :=
  (76, .iload 12, 2, 12, 0, 0) ::
  (78, .aload_n 0, 1, 0, 0, 0) ::
  (79, .getfield 167, 3, 11, 2, 0) ::
  (82, .if_icmp .ge 139, 3, 221, 0, 0) ::
  (85, .aload_n 0, 1, 0, 0, 0) ::
  (86, .iload 11, 2, 11, 0, 0) ::
  (88, .iload 12, 2, 12, 0, 0) ::
  (90, .iload_n 1, 1, 1, 0, 0) ::
  (91, .iload_n 3, 1, 3, 0, 0) ::
  (92, .invokevirtual 206, 3, 180, 22, 1) ::
  (95, .istore 13, 2, 13, 0, 0) ::
  (97, .aload_n 0, 1, 0, 0, 0) ::
  (98, .iload 11, 2, 11, 0, 0) ::
  (100, .iload 12, 2, 12, 0, 0) ::
  (102, .iload_n 2, 1, 2, 0, 0) ::
  (103, .iload_n 3, 1, 3, 0, 0) ::
  (104, .invokevirtual 206, 3, 180, 22, 1) ::
  (107, .istore 14, 2, 14, 0, 0) ::
  (109, .iload 13, 2, 13, 0, 0) ::
  (111, .iconst (-1), 1, 0, 0, (-1)) ::
  (112, .if_icmp .eq 103, 3, 215, 0, 0) ::
  (115, .iload 14, 2, 14, 0, 0) ::
  (117, .iconst (-1), 1, 0, 0, (-1)) ::
  (118, .if_icmp .eq 97, 3, 215, 0, 0) ::
  (121, .aload_n 0, 1, 0, 0, 0) ::
  (122, .getfield 37, 3, 11, 14, 0) ::
  (125, .iload 14, 2, 14, 0, 0) ::
  (127, .iaload, 1, 0, 0, 0) ::
  (128, .aload_n 0, 1, 0, 0, 0) ::
  (129, .getfield 37, 3, 11, 14, 0) ::
  (132, .iload 13, 2, 13, 0, 0) ::
  (134, .iaload, 1, 0, 0, 0) ::
  (135, .isub, 1, 0, 0, 0) ::
  (136, .istore 15, 2, 15, 0, 0) ::
  (138, .aload_n 0, 1, 0, 0, 0) ::
  (139, .getfield 40, 3, 11, 15, 0) ::
  (142, .iload 14, 2, 14, 0, 0) ::
  (144, .iaload, 1, 0, 0, 0) ::
  (145, .aload_n 0, 1, 0, 0, 0) ::
  (146, .getfield 40, 3, 11, 15, 0) ::
  (149, .iload 13, 2, 13, 0, 0) ::
  (151, .iaload, 1, 0, 0, 0) ::
  (152, .isub, 1, 0, 0, 0) ::
  (153, .istore 16, 2, 16, 0, 0) ::
  (155, .iinc 5 1, 3, 5, 0, 1) ::
  (158, .iload 6, 2, 6, 0, 0) ::
  (160, .iload 15, 2, 15, 0, 0) ::
  (162, .iadd, 1, 0, 0, 0) ::
  (163, .istore 6, 2, 6, 0, 0) ::
  (165, .iload 7, 2, 7, 0, 0) ::
  (167, .iload 16, 2, 16, 0, 0) ::
  (169, .iadd, 1, 0, 0, 0) ::
  (170, .istore 7, 2, 7, 0, 0) ::
  (172, .iload 9, 2, 9, 0, 0) ::
  (174, .iconst (-1), 1, 0, 0, (-1)) ::
  (175, .if_icmp .eq 19, 3, 194, 0, 0) ::
  (178, .iload 15, 2, 15, 0, 0) ::
  (180, .iload 15, 2, 15, 0, 0) ::
  (182, .imul, 1, 0, 0, 0) ::
  (183, .iload 16, 2, 16, 0, 0) ::
  (185, .iload 16, 2, 16, 0, 0) ::
  (187, .imul, 1, 0, 0, 0) ::
  (188, .iadd, 1, 0, 0, 0) ::
  (189, .iload 8, 2, 8, 0, 0) ::
  (191, .if_icmp .le 24, 3, 215, 0, 0) ::
  (194, .jsr 0, 0, 104703, 0, 0) ::
  r_272_194
def r_272_64 : List ax_E :=
  (64, .iload 11, 2, 11, 0, 0) ::
  (66, .aload_n 0, 1, 0, 0, 0) ::
  (67, .getfield 170, 3, 11, 3, 0) ::
  (70, .if_icmp .ge 157, 3, 227, 0, 0) ::
  (73, .iconst 0, 1, 0, 0, 0) ::
  (74, .istore 12, 2, 12, 0, 0) ::
  (76, .jsr 0, 0, 8191, 0, 0) ::
  r_272_76
def r_272 : List ax_E :=
  (0, .iload_n 1, 1, 1, 0, 0) ::
  (1, .invokestatic 199, 3, 174, 0, 1) ::
  (4, .ifCond .eq 35, 3, 39, 0, 0) ::
  (7, .iload_n 2, 1, 2, 0, 0) ::
  (8, .invokestatic 199, 3, 174, 0, 1) ::
  (11, .ifCond .eq 28, 3, 39, 0, 0) ::
  (14, .iload_n 1, 1, 1, 0, 0) ::
  (15, .iload_n 2, 1, 2, 0, 0) ::
  (16, .if_icmp .eq 23, 3, 39, 0, 0) ::
  (19, .iload_n 3, 1, 3, 0, 0) ::
  (20, .invokestatic 210, 3, 170, 0, 1) ::
  (23, .ifCond .eq 16, 3, 39, 0, 0) ::
  (26, .iload 4, 2, 4, 0, 0) ::
  (28, .i2l, 1, 0, 0, 0) ::
  (29, .lconst 0, 1, 0, 0, 0) ::
  (30, .ldc2_w 213, 3, 0, 0, 5) ::
  (33, .invokestatic 160, 3, 169, 0, 1) ::
  (36, .ifCond .ne 7, 3, 43, 0, 0) ::
  (39, .ldc_w 579, 3, 0, 0, (-1000000)) ::
  (42, .ireturn, 1, 0, 0, 0) ::
  (43, .iconst 0, 1, 0, 0, 0) ::
  (44, .istore 5, 2, 5, 0, 0) ::
  (46, .iconst 0, 1, 0, 0, 0) ::
  (47, .istore 6, 2, 6, 0, 0) ::
  (49, .iconst 0, 1, 0, 0, 0) ::
  (50, .istore 7, 2, 7, 0, 0) ::
  (52, .iconst 0, 1, 0, 0, 0) ::
  (53, .istore 8, 2, 8, 0, 0) ::
  (55, .iconst (-1), 1, 0, 0, (-1)) ::
  (56, .istore 9, 2, 9, 0, 0) ::
  (58, .iconst (-1), 1, 0, 0, (-1)) ::
  (59, .istore 10, 2, 10, 0, 0) ::
  (61, .iconst 0, 1, 0, 0, 0) ::
  (62, .istore 11, 2, 11, 0, 0) ::
  (64, .jsr 0, 0, 4095, 0, 0) ::
  r_272_64
/-- 273 BlackSunModel.carry([I)V -/
def r_273_2 : List ax_E :=
  (2, .iload_n 2, 1, 2, 0, 0) ::
  (3, .aload_n 1, 1, 1, 0, 0) ::
  (4, .arraylength, 1, 0, 0, 0) ::
  (5, .if_icmp .ge 53, 3, 58, 0, 0) ::
  (8, .aload_n 0, 1, 0, 0, 0) ::
  (9, .getfield 587, 3, 11, 74, 0) ::
  (12, .ifCond .eq 18, 3, 30, 0, 0) ::
  (15, .aload_n 1, 1, 1, 0, 0) ::
  (16, .iload_n 2, 1, 2, 0, 0) ::
  (17, .aload_n 0, 1, 0, 0, 0) ::
  (18, .getfield 145, 3, 11, 70, 0) ::
  (21, .aload_n 0, 1, 0, 0, 0) ::
  (22, .getfield 591, 3, 11, 73, 0) ::
  (25, .iaload, 1, 0, 0, 0) ::
  (26, .iastore, 1, 0, 0, 0) ::
  (27, .goto 15, 3, 42, 0, 0) ::
  (30, .aload_n 0, 1, 0, 0, 0) ::
  (31, .getfield 145, 3, 11, 70, 0) ::
  (34, .aload_n 0, 1, 0, 0, 0) ::
  (35, .getfield 591, 3, 11, 73, 0) ::
  (38, .aload_n 1, 1, 1, 0, 0) ::
  (39, .iload_n 2, 1, 2, 0, 0) ::
  (40, .iaload, 1, 0, 0, 0) ::
  (41, .iastore, 1, 0, 0, 0) ::
  (42, .aload_n 0, 1, 0, 0, 0) ::
  (43, .dup, 1, 0, 0, 0) ::
  (44, .getfield 591, 3, 11, 73, 0) ::
  (47, .iconst 1, 1, 0, 0, 1) ::
  (48, .iadd, 1, 0, 0, 0) ::
  (49, .putfield 591, 3, 11, 73, 0) ::
  (52, .iinc 2 1, 3, 2, 0, 1) ::
  (55, .goto (-53), 3, 2, 0, 0) ::
  (58, .return_, 1, 0, 0, 0) ::
  []
def r_273 : List ax_E :=
  (0, .iconst 0, 1, 0, 0, 0) ::
  (1, .istore_n 2, 1, 2, 0, 0) ::
  (2, .jsr 0, 0, 7, 0, 0) ::
  r_273_2
/-- 274 BlackSunModel.carries(I)V -/
def r_274 : List ax_E :=
  (0, .aload_n 0, 1, 0, 0, 0) ::
  (1, .sipush 8000, 3, 0, 0, 8000) ::
  (4, .iload_n 1, 1, 1, 0, 0) ::
  (5, .imul, 1, 0, 0, 0) ::
  (6, .putfield 591, 3, 11, 73, 0) ::
  (9, .aload_n 0, 1, 0, 0, 0) ::
  (10, .aload_n 0, 1, 0, 0, 0) ::
  (11, .getfield 148, 3, 11, 71, 0) ::
  (14, .invokevirtual 594, 3, 273, 22, 0) ::
  (17, .aload_n 0, 1, 0, 0, 0) ::
  (18, .aload_n 0, 1, 0, 0, 0) ::
  (19, .getfield 9, 3, 11, 5, 0) ::
  (22, .invokevirtual 594, 3, 273, 22, 0) ::
  (25, .aload_n 0, 1, 0, 0, 0) ::
  (26, .aload_n 0, 1, 0, 0, 0) ::
  (27, .getfield 13, 3, 11, 6, 0) ::
  (30, .invokevirtual 594, 3, 273, 22, 0) ::
  (33, .aload_n 0, 1, 0, 0, 0) ::
  (34, .aload_n 0, 1, 0, 0, 0) ::
  (35, .getfield 16, 3, 11, 7, 0) ::
  (38, .invokevirtual 594, 3, 273, 22, 0) ::
  (41, .aload_n 0, 1, 0, 0, 0) ::
  (42, .aload_n 0, 1, 0, 0, 0) ::
  (43, .getfield 19, 3, 11, 8, 0) ::
  (46, .invokevirtual 594, 3, 273, 22, 0) ::
  (49, .aload_n 0, 1, 0, 0, 0) ::
  (50, .aload_n 0, 1, 0, 0, 0) ::
  (51, .getfield 22, 3, 11, 9, 0) ::
  (54, .invokevirtual 594, 3, 273, 22, 0) ::
  (57, .aload_n 0, 1, 0, 0, 0) ::
  (58, .aload_n 0, 1, 0, 0, 0) ::
  (59, .getfield 25, 3, 11, 10, 0) ::
  (62, .invokevirtual 594, 3, 273, 22, 0) ::
  (65, .aload_n 0, 1, 0, 0, 0) ::
  (66, .aload_n 0, 1, 0, 0, 0) ::
  (67, .getfield 28, 3, 11, 11, 0) ::
  (70, .invokevirtual 594, 3, 273, 22, 0) ::
  (73, .aload_n 0, 1, 0, 0, 0) ::
  (74, .aload_n 0, 1, 0, 0, 0) ::
  (75, .getfield 31, 3, 11, 12, 0) ::
  (78, .invokevirtual 594, 3, 273, 22, 0) ::
  (81, .aload_n 0, 1, 0, 0, 0) ::
  (82, .aload_n 0, 1, 0, 0, 0) ::
  (83, .getfield 34, 3, 11, 13, 0) ::
  (86, .invokevirtual 594, 3, 273, 22, 0) ::
  (89, .aload_n 0, 1, 0, 0, 0) ::
  (90, .aload_n 0, 1, 0, 0, 0) ::
  (91, .getfield 37, 3, 11, 14, 0) ::
  (94, .invokevirtual 594, 3, 273, 22, 0) ::
  (97, .aload_n 0, 1, 0, 0, 0) ::
  (98, .aload_n 0, 1, 0, 0, 0) ::
  (99, .getfield 40, 3, 11, 15, 0) ::
  (102, .invokevirtual 594, 3, 273, 22, 0) ::
  (105, .aload_n 0, 1, 0, 0, 0) ::
  (106, .aload_n 0, 1, 0, 0, 0) ::
  (107, .getfield 43, 3, 11, 16, 0) ::
  (110, .invokevirtual 594, 3, 273, 22, 0) ::
  (113, .aload_n 0, 1, 0, 0, 0) ::
  (114, .aload_n 0, 1, 0, 0, 0) ::
  (115, .getfield 50, 3, 11, 27, 0) ::
  (118, .invokevirtual 594, 3, 273, 22, 0) ::
  (121, .aload_n 0, 1, 0, 0, 0) ::
  (122, .aload_n 0, 1, 0, 0, 0) ::
  (123, .getfield 53, 3, 11, 28, 0) ::
  (126, .invokevirtual 594, 3, 273, 22, 0) ::
  (129, .aload_n 0, 1, 0, 0, 0) ::
  (130, .aload_n 0, 1, 0, 0, 0) ::
  (131, .getfield 56, 3, 11, 29, 0) ::
  (134, .invokevirtual 594, 3, 273, 22, 0) ::
  (137, .aload_n 0, 1, 0, 0, 0) ::
  (138, .aload_n 0, 1, 0, 0, 0) ::
  (139, .getfield 59, 3, 11, 30, 0) ::
  (142, .invokevirtual 594, 3, 273, 22, 0) ::
  (145, .aload_n 0, 1, 0, 0, 0) ::
  (146, .aload_n 0, 1, 0, 0, 0) ::
  (147, .getfield 62, 3, 11, 31, 0) ::
  (150, .invokevirtual 594, 3, 273, 22, 0) ::
  (153, .aload_n 0, 1, 0, 0, 0) ::
  (154, .aload_n 0, 1, 0, 0, 0) ::
  (155, .getfield 65, 3, 11, 32, 0) ::
  (158, .invokevirtual 594, 3, 273, 22, 0) ::
  (161, .aload_n 0, 1, 0, 0, 0) ::
  (162, .aload_n 0, 1, 0, 0, 0) ::
  (163, .getfield 68, 3, 11, 33, 0) ::
  (166, .invokevirtual 594, 3, 273, 22, 0) ::
  (169, .aload_n 0, 1, 0, 0, 0) ::
  (170, .aload_n 0, 1, 0, 0, 0) ::
  (171, .getfield 71, 3, 11, 34, 0) ::
  (174, .invokevirtual 594, 3, 273, 22, 0) ::
  (177, .aload_n 0, 1, 0, 0, 0) ::
  (178, .aload_n 0, 1, 0, 0, 0) ::
  (179, .getfield 124, 3, 11, 60, 0) ::
  (182, .invokevirtual 594, 3, 273, 22, 0) ::
  (185, .aload_n 0, 1, 0, 0, 0) ::
  (186, .aload_n 0, 1, 0, 0, 0) ::
  (187, .getfield 127, 3, 11, 61, 0) ::
  (190, .invokevirtual 594, 3, 273, 22, 0) ::
  (193, .aload_n 0, 1, 0, 0, 0) ::
  (194, .aload_n 0, 1, 0, 0, 0) ::
  (195, .getfield 130, 3, 11, 62, 0) ::
  (198, .invokevirtual 594, 3, 273, 22, 0) ::
  (201, .aload_n 0, 1, 0, 0, 0) ::
  (202, .aload_n 0, 1, 0, 0, 0) ::
  (203, .getfield 133, 3, 11, 64, 0) ::
  (206, .invokevirtual 594, 3, 273, 22, 0) ::
  (209, .aload_n 0, 1, 0, 0, 0) ::
  (210, .aload_n 0, 1, 0, 0, 0) ::
  (211, .getfield 136, 3, 11, 65, 0) ::
  (214, .invokevirtual 594, 3, 273, 22, 0) ::
  (217, .aload_n 0, 1, 0, 0, 0) ::
  (218, .aload_n 0, 1, 0, 0, 0) ::
  (219, .getfield 139, 3, 11, 67, 0) ::
  (222, .invokevirtual 594, 3, 273, 22, 0) ::
  (225, .aload_n 0, 1, 0, 0, 0) ::
  (226, .aload_n 0, 1, 0, 0, 0) ::
  (227, .getfield 142, 3, 11, 68, 0) ::
  (230, .invokevirtual 594, 3, 273, 22, 0) ::
  (233, .aload_n 0, 1, 0, 0, 0) ::
  (234, .aload_n 0, 1, 0, 0, 0) ::
  (235, .getfield 121, 3, 11, 56, 0) ::
  (238, .invokevirtual 594, 3, 273, 22, 0) ::
  (241, .return_, 1, 0, 0, 0) ::
  []
/-- 275 BlackSunModel.mark(I)I -/
def r_275 : List ax_E :=
  (0, .iload_n 1, 1, 1, 0, 0) ::
  (1, .i2l, 1, 0, 0, 0) ::
  (2, .lconst 0, 1, 0, 0, 0) ::
  (3, .ldc2_w 189, 3, 0, 0, 3) ::
  (6, .invokestatic 160, 3, 169, 0, 1) ::
  (9, .ifCond .ne 5, 3, 14, 0, 0) ::
  (12, .iconst (-1), 1, 0, 0, (-1)) ::
  (13, .ireturn, 1, 0, 0, 0) ::
  (14, .aload_n 0, 1, 0, 0, 0) ::
  (15, .getfield 148, 3, 11, 71, 0) ::
  (18, .iconst 0, 1, 0, 0, 0) ::
  (19, .aload_n 0, 1, 0, 0, 0) ::
  (20, .getfield 164, 3, 11, 1, 0) ::
  (23, .iastore, 1, 0, 0, 0) ::
  (24, .aload_n 0, 1, 0, 0, 0) ::
  (25, .getfield 148, 3, 11, 71, 0) ::
  (28, .iconst 1, 1, 0, 0, 1) ::
  (29, .aload_n 0, 1, 0, 0, 0) ::
  (30, .getfield 167, 3, 11, 2, 0) ::
  (33, .iastore, 1, 0, 0, 0) ::
  (34, .aload_n 0, 1, 0, 0, 0) ::
  (35, .getfield 148, 3, 11, 71, 0) ::
  (38, .iconst 2, 1, 0, 0, 2) ::
  (39, .aload_n 0, 1, 0, 0, 0) ::
  (40, .getfield 170, 3, 11, 3, 0) ::
  (43, .iastore, 1, 0, 0, 0) ::
  (44, .aload_n 0, 1, 0, 0, 0) ::
  (45, .getfield 148, 3, 11, 71, 0) ::
  (48, .iconst 3, 1, 0, 0, 3) ::
  (49, .aload_n 0, 1, 0, 0, 0) ::
  (50, .getfield 193, 3, 11, 4, 0) ::
  (53, .iastore, 1, 0, 0, 0) ::
  (54, .aload_n 0, 1, 0, 0, 0) ::
  (55, .getfield 148, 3, 11, 71, 0) ::
  (58, .iconst 4, 1, 0, 0, 4) ::
  (59, .aload_n 0, 1, 0, 0, 0) ::
  (60, .getfield 289, 3, 11, 20, 0) ::
  (63, .iastore, 1, 0, 0, 0) ::
  (64, .aload_n 0, 1, 0, 0, 0) ::
  (65, .getfield 148, 3, 11, 71, 0) ::
  (68, .iconst 5, 1, 0, 0, 5) ::
  (69, .aload_n 0, 1, 0, 0, 0) ::
  (70, .getfield 543, 3, 11, 59, 0) ::
  (73, .iastore, 1, 0, 0, 0) ::
  (74, .aload_n 0, 1, 0, 0, 0) ::
  (75, .getfield 148, 3, 11, 71, 0) ::
  (78, .bipush 6, 2, 0, 0, 6) ::
  (80, .aload_n 0, 1, 0, 0, 0) ::
  (81, .getfield 546, 3, 11, 63, 0) ::
  (84, .iastore, 1, 0, 0, 0) ::
  (85, .aload_n 0, 1, 0, 0, 0) ::
  (86, .getfield 151, 3, 11, 72, 0) ::
  (89, .iload_n 1, 1, 1, 0, 0) ::
  (90, .iconst 1, 1, 0, 0, 1) ::
  (91, .bastore, 1, 19, 0, 0) ::
  (92, .aload_n 0, 1, 0, 0, 0) ::
  (93, .iconst 0, 1, 0, 0, 0) ::
  (94, .putfield 587, 3, 11, 74, 0) ::
  (97, .aload_n 0, 1, 0, 0, 0) ::
  (98, .iload_n 1, 1, 1, 0, 0) ::
  (99, .invokevirtual 598, 3, 274, 22, 0) ::
  (102, .aload_n 0, 1, 0, 0, 0) ::
  (103, .getfield 164, 3, 11, 1, 0) ::
  (106, .ireturn, 1, 0, 0, 0) ::
  []
/-- 276 BlackSunModel.back(I)I -/
def r_276 : List ax_E :=
  (0, .iload_n 1, 1, 1, 0, 0) ::
  (1, .i2l, 1, 0, 0, 0) ::
  (2, .lconst 0, 1, 0, 0, 0) ::
  (3, .ldc2_w 189, 3, 0, 0, 3) ::
  (6, .invokestatic 160, 3, 169, 0, 1) ::
  (9, .ifCond .eq 12, 3, 21, 0, 0) ::
  (12, .aload_n 0, 1, 0, 0, 0) ::
  (13, .getfield 151, 3, 11, 72, 0) ::
  (16, .iload_n 1, 1, 1, 0, 0) ::
  (17, .baload, 1, 19, 0, 0) ::
  (18, .ifCond .ne 5, 3, 23, 0, 0) ::
  (21, .iconst (-1), 1, 0, 0, (-1)) ::
  (22, .ireturn, 1, 0, 0, 0) ::
  (23, .aload_n 0, 1, 0, 0, 0) ::
  (24, .iconst 1, 1, 0, 0, 1) ::
  (25, .putfield 587, 3, 11, 74, 0) ::
  (28, .aload_n 0, 1, 0, 0, 0) ::
  (29, .iload_n 1, 1, 1, 0, 0) ::
  (30, .invokevirtual 598, 3, 274, 22, 0) ::
  (33, .aload_n 0, 1, 0, 0, 0) ::
  (34, .aload_n 0, 1, 0, 0, 0) ::
  (35, .getfield 148, 3, 11, 71, 0) ::
  (38, .iconst 0, 1, 0, 0, 0) ::
  (39, .iaload, 1, 0, 0, 0) ::
  (40, .putfield 164, 3, 11, 1, 0) ::
  (43, .aload_n 0, 1, 0, 0, 0) ::
  (44, .aload_n 0, 1, 0, 0, 0) ::
  (45, .getfield 148, 3, 11, 71, 0) ::
  (48, .iconst 1, 1, 0, 0, 1) ::
  (49, .iaload, 1, 0, 0, 0) ::
  (50, .putfield 167, 3, 11, 2, 0) ::
  (53, .aload_n 0, 1, 0, 0, 0) ::
  (54, .aload_n 0, 1, 0, 0, 0) ::
  (55, .getfield 148, 3, 11, 71, 0) ::
  (58, .iconst 2, 1, 0, 0, 2) ::
  (59, .iaload, 1, 0, 0, 0) ::
  (60, .putfield 170, 3, 11, 3, 0) ::
  (63, .aload_n 0, 1, 0, 0, 0) ::
  (64, .aload_n 0, 1, 0, 0, 0) ::
  (65, .getfield 148, 3, 11, 71, 0) ::
  (68, .iconst 3, 1, 0, 0, 3) ::
  (69, .iaload, 1, 0, 0, 0) ::
  (70, .putfield 193, 3, 11, 4, 0) ::
  (73, .aload_n 0, 1, 0, 0, 0) ::
  (74, .aload_n 0, 1, 0, 0, 0) ::
  (75, .getfield 148, 3, 11, 71, 0) ::
  (78, .iconst 4, 1, 0, 0, 4) ::
  (79, .iaload, 1, 0, 0, 0) ::
  (80, .putfield 289, 3, 11, 20, 0) ::
  (83, .aload_n 0, 1, 0, 0, 0) ::
  (84, .aload_n 0, 1, 0, 0, 0) ::
  (85, .getfield 148, 3, 11, 71, 0) ::
  (88, .iconst 5, 1, 0, 0, 5) ::
  (89, .iaload, 1, 0, 0, 0) ::
  (90, .putfield 543, 3, 11, 59, 0) ::
  (93, .aload_n 0, 1, 0, 0, 0) ::
  (94, .aload_n 0, 1, 0, 0, 0) ::
  (95, .getfield 148, 3, 11, 71, 0) ::
  (98, .bipush 6, 2, 0, 0, 6) ::
  (100, .iaload, 1, 0, 0, 0) ::
  (101, .putfield 546, 3, 11, 63, 0) ::
  (104, .aload_n 0, 1, 0, 0, 0) ::
  (105, .getfield 164, 3, 11, 1, 0) ::
  (108, .ireturn, 1, 0, 0, 0) ::
  []
/-- 277 BlackSunModel.count(I)I -/
def r_277 : List ax_E :=
  (0, .iload_n 1, 1, 1, 0, 0) ::
  (1, .tableswitch 87 0 7 #[47, 52, 57, 62, 67, 72, 77, 82], 47, 0, 0, 0) ::
  (48, .aload_n 0, 1, 0, 0, 0) ::
  (49, .getfield 164, 3, 11, 1, 0) ::
  (52, .ireturn, 1, 0, 0, 0) ::
  (53, .aload_n 0, 1, 0, 0, 0) ::
  (54, .getfield 167, 3, 11, 2, 0) ::
  (57, .ireturn, 1, 0, 0, 0) ::
  (58, .aload_n 0, 1, 0, 0, 0) ::
  (59, .getfield 170, 3, 11, 3, 0) ::
  (62, .ireturn, 1, 0, 0, 0) ::
  (63, .aload_n 0, 1, 0, 0, 0) ::
  (64, .getfield 193, 3, 11, 4, 0) ::
  (67, .ireturn, 1, 0, 0, 0) ::
  (68, .aload_n 0, 1, 0, 0, 0) ::
  (69, .getfield 289, 3, 11, 20, 0) ::
  (72, .ireturn, 1, 0, 0, 0) ::
  (73, .aload_n 0, 1, 0, 0, 0) ::
  (74, .getfield 543, 3, 11, 59, 0) ::
  (77, .ireturn, 1, 0, 0, 0) ::
  (78, .aload_n 0, 1, 0, 0, 0) ::
  (79, .getfield 546, 3, 11, 63, 0) ::
  (82, .ireturn, 1, 0, 0, 0) ::
  (83, .aload_n 0, 1, 0, 0, 0) ::
  (84, .getfield 219, 3, 11, 17, 0) ::
  (87, .ireturn, 1, 0, 0, 0) ::
  (88, .iconst (-1), 1, 0, 0, (-1)) ::
  (89, .ireturn, 1, 0, 0, 0) ::
  []
/-- 278 BlackSunLaw.law([I)Z -/
def r_278_x1770 : List ax_E :=
  (1770, .aload_n 2, 1, 2, 0, 0) ::
  (1771, .aload_n 0, 1, 0, 0, 0) ::
  (1772, .iload_n 3, 1, 3, 0, 0) ::
  (1773, .iconst 1, 1, 0, 0, 1) ::
  (1774, .iadd, 1, 0, 0, 0) ::
  (1775, .iaload, 1, 0, 1, 0) ::
  (1776, .aload_n 0, 1, 0, 0, 0) ::
  (1777, .iload_n 3, 1, 3, 0, 0) ::
  (1778, .iconst 2, 1, 0, 0, 2) ::
  (1779, .iadd, 1, 0, 0, 0) ::
  (1780, .iaload, 1, 0, 1, 0) ::
  (1781, .aload_n 0, 1, 0, 0, 0) ::
  (1782, .iload_n 3, 1, 3, 0, 0) ::
  (1783, .iconst 3, 1, 0, 0, 3) ::
  (1784, .iadd, 1, 0, 0, 0) ::
  (1785, .iaload, 1, 0, 1, 0) ::
  (1786, .invokevirtual 166, 3, 270, 22, 2) ::
  (1789, .lcmp, 1, 0, 0, 0) ::
  (1790, .ifCond .eq 170, 3, 1960, 0, 0) ::
  (1793, .iconst 0, 1, 0, 0, 0) ::
  (1794, .ireturn, 1, 1, 0, 0) ::
  (1795, .aload_n 1, 1, 1, 0, 0) ::
  (1796, .aload_n 0, 1, 0, 0, 0) ::
  (1797, .iload_n 3, 1, 3, 0, 0) ::
  (1798, .iconst 1, 1, 0, 0, 1) ::
  (1799, .iadd, 1, 0, 0, 0) ::
  (1800, .iaload, 1, 0, 1, 0) ::
  (1801, .aload_n 0, 1, 0, 0, 0) ::
  (1802, .iload_n 3, 1, 3, 0, 0) ::
  (1803, .iconst 2, 1, 0, 0, 2) ::
  (1804, .iadd, 1, 0, 0, 0) ::
  (1805, .iaload, 1, 0, 1, 0) ::
  (1806, .aload_n 0, 1, 0, 0, 0) ::
  (1807, .iload_n 3, 1, 3, 0, 0) ::
  (1808, .iconst 3, 1, 0, 0, 3) ::
  (1809, .iadd, 1, 0, 0, 0) ::
  (1810, .iaload, 1, 0, 1, 0) ::
  (1811, .invokevirtual 167, 3, 154, 0, 1) ::
  (1814, .aload_n 2, 1, 2, 0, 0) ::
  (1815, .aload_n 0, 1, 0, 0, 0) ::
  (1816, .iload_n 3, 1, 3, 0, 0) ::
  (1817, .iconst 1, 1, 0, 0, 1) ::
  (1818, .iadd, 1, 0, 0, 0) ::
  (1819, .iaload, 1, 0, 1, 0) ::
  (1820, .aload_n 0, 1, 0, 0, 0) ::
  (1821, .iload_n 3, 1, 3, 0, 0) ::
  (1822, .iconst 2, 1, 0, 0, 2) ::
  (1823, .iadd, 1, 0, 0, 0) ::
  (1824, .iaload, 1, 0, 1, 0) ::
  (1825, .aload_n 0, 1, 0, 0, 0) ::
  (1826, .iload_n 3, 1, 3, 0, 0) ::
  (1827, .iconst 3, 1, 0, 0, 3) ::
  (1828, .iadd, 1, 0, 0, 0) ::
  (1829, .iaload, 1, 0, 1, 0) ::
  (1830, .invokevirtual 170, 3, 271, 22, 1) ::
  (1833, .if_icmp .eq 127, 3, 1960, 0, 0) ::
  (1836, .iconst 0, 1, 0, 0, 0) ::
  (1837, .ireturn, 1, 1, 0, 0) ::
  (1838, .aload_n 1, 1, 1, 0, 0) ::
  (1839, .aload_n 0, 1, 0, 0, 0) ::
  (1840, .iload_n 3, 1, 3, 0, 0) ::
  (1841, .iconst 1, 1, 0, 0, 1) ::
  (1842, .iadd, 1, 0, 0, 0) ::
  (1843, .iaload, 1, 0, 1, 0) ::
  (1844, .aload_n 0, 1, 0, 0, 0) ::
  (1845, .iload_n 3, 1, 3, 0, 0) ::
  (1846, .iconst 2, 1, 0, 0, 2) ::
  (1847, .iadd, 1, 0, 0, 0) ::
  (1848, .iaload, 1, 0, 1, 0) ::
  (1849, .aload_n 0, 1, 0, 0, 0) ::
  (1850, .iload_n 3, 1, 3, 0, 0) ::
  (1851, .iconst 3, 1, 0, 0, 3) ::
  (1852, .iadd, 1, 0, 0, 0) ::
  (1853, .iaload, 1, 0, 1, 0) ::
  (1854, .aload_n 0, 1, 0, 0, 0) ::
  (1855, .iload_n 3, 1, 3, 0, 0) ::
  (1856, .iconst 4, 1, 0, 0, 4) ::
  (1857, .iadd, 1, 0, 0, 0) ::
  (1858, .iaload, 1, 0, 1, 0) ::
  (1859, .invokevirtual 171, 3, 160, 0, 1) ::
  (1862, .aload_n 2, 1, 2, 0, 0) ::
  (1863, .aload_n 0, 1, 0, 0, 0) ::
  (1864, .iload_n 3, 1, 3, 0, 0) ::
  (1865, .iconst 1, 1, 0, 0, 1) ::
  (1866, .iadd, 1, 0, 0, 0) ::
  (1867, .iaload, 1, 0, 1, 0) ::
  (1868, .aload_n 0, 1, 0, 0, 0) ::
  (1869, .iload_n 3, 1, 3, 0, 0) ::
  (1870, .iconst 2, 1, 0, 0, 2) ::
  (1871, .iadd, 1, 0, 0, 0) ::
  (1872, .iaload, 1, 0, 1, 0) ::
  (1873, .aload_n 0, 1, 0, 0, 0) ::
  (1874, .iload_n 3, 1, 3, 0, 0) ::
  (1875, .iconst 3, 1, 0, 0, 3) ::
  (1876, .iadd, 1, 0, 0, 0) ::
  (1877, .iaload, 1, 0, 1, 0) ::
  (1878, .aload_n 0, 1, 0, 0, 0) ::
  (1879, .iload_n 3, 1, 3, 0, 0) ::
  (1880, .iconst 4, 1, 0, 0, 4) ::
  (1881, .iadd, 1, 0, 0, 0) ::
  (1882, .iaload, 1, 0, 1, 0) ::
  (1883, .invokevirtual 174, 3, 272, 22, 1) ::
  (1886, .if_icmp .eq 74, 3, 1960, 0, 0) ::
  (1889, .iconst 0, 1, 0, 0, 0) ::
  (1890, .ireturn, 1, 1, 0, 0) ::
  (1891, .aload_n 1, 1, 1, 0, 0) ::
  (1892, .aload_n 0, 1, 0, 0, 0) ::
  (1893, .iload_n 3, 1, 3, 0, 0) ::
  (1894, .iconst 1, 1, 0, 0, 1) ::
  (1895, .iadd, 1, 0, 0, 0) ::
  (1896, .iaload, 1, 0, 1, 0) ::
  (1897, .invokevirtual 175, 3, 165, 0, 1) ::
  (1900, .aload_n 2, 1, 2, 0, 0) ::
  (1901, .aload_n 0, 1, 0, 0, 0) ::
  (1902, .iload_n 3, 1, 3, 0, 0) ::
  (1903, .iconst 1, 1, 0, 0, 1) ::
  (1904, .iadd, 1, 0, 0, 0) ::
  (1905, .iaload, 1, 0, 1, 0) ::
  (1906, .invokevirtual 178, 3, 275, 22, 1) ::
  (1909, .if_icmp .eq 51, 3, 1960, 0, 0) ::
  (1912, .iconst 0, 1, 0, 0, 0) ::
  (1913, .ireturn, 1, 1, 0, 0) ::
  (1914, .aload_n 1, 1, 1, 0, 0) ::
  (1915, .aload_n 0, 1, 0, 0, 0) ::
  (1916, .iload_n 3, 1, 3, 0, 0) ::
  (1917, .iconst 1, 1, 0, 0, 1) ::
  (1918, .iadd, 1, 0, 0, 0) ::
  (1919, .iaload, 1, 0, 1, 0) ::
  (1920, .invokevirtual 179, 3, 166, 0, 1) ::
  (1923, .aload_n 2, 1, 2, 0, 0) ::
  (1924, .aload_n 0, 1, 0, 0, 0) ::
  (1925, .iload_n 3, 1, 3, 0, 0) ::
  (1926, .iconst 1, 1, 0, 0, 1) ::
  (1927, .iadd, 1, 0, 0, 0) ::
  (1928, .iaload, 1, 0, 1, 0) ::
  (1929, .invokevirtual 182, 3, 276, 22, 1) ::
  (1932, .if_icmp .eq 28, 3, 1960, 0, 0) ::
  (1935, .iconst 0, 1, 0, 0, 0) ::
  (1936, .ireturn, 1, 1, 0, 0) ::
  (1937, .aload_n 1, 1, 1, 0, 0) ::
  (1938, .aload_n 0, 1, 0, 0, 0) ::
  (1939, .iload_n 3, 1, 3, 0, 0) ::
  (1940, .iconst 1, 1, 0, 0, 1) ::
  (1941, .iadd, 1, 0, 0, 0) ::
  (1942, .iaload, 1, 0, 1, 0) ::
  (1943, .invokevirtual 183, 3, 167, 0, 1) ::
  (1946, .aload_n 2, 1, 2, 0, 0) ::
  (1947, .aload_n 0, 1, 0, 0, 0) ::
  (1948, .iload_n 3, 1, 3, 0, 0) ::
  (1949, .iconst 1, 1, 0, 0, 1) ::
  (1950, .iadd, 1, 0, 0, 0) ::
  (1951, .iaload, 1, 0, 1, 0) ::
  (1952, .invokevirtual 186, 3, 277, 22, 1) ::
  (1955, .if_icmp .eq 5, 3, 1960, 0, 0) ::
  (1958, .iconst 0, 1, 0, 0, 0) ::
  (1959, .ireturn, 1, 1, 0, 0) ::
  (1960, .iinc 3 7, 3, 3, 0, 7) ::
  (1963, .goto (-1945), 3, 18, 0, 0) ::
  (1966, .iconst 1, 1, 0, 0, 1) ::
  (1967, .ireturn, 1, 1, 0, 0) ::
  []
def r_278_x1590 : List ax_E :=
  (1590, .iconst 2, 1, 0, 0, 2) ::
  (1591, .iadd, 1, 0, 0, 0) ::
  (1592, .iaload, 1, 0, 1, 0) ::
  (1593, .aload_n 0, 1, 0, 0, 0) ::
  (1594, .iload_n 3, 1, 3, 0, 0) ::
  (1595, .iconst 3, 1, 0, 0, 3) ::
  (1596, .iadd, 1, 0, 0, 0) ::
  (1597, .iaload, 1, 0, 1, 0) ::
  (1598, .aload_n 0, 1, 0, 0, 0) ::
  (1599, .iload_n 3, 1, 3, 0, 0) ::
  (1600, .iconst 4, 1, 0, 0, 4) ::
  (1601, .iadd, 1, 0, 0, 0) ::
  (1602, .iaload, 1, 0, 1, 0) ::
  (1603, .aload_n 0, 1, 0, 0, 0) ::
  (1604, .iload_n 3, 1, 3, 0, 0) ::
  (1605, .iconst 5, 1, 0, 0, 5) ::
  (1606, .iadd, 1, 0, 0, 0) ::
  (1607, .iaload, 1, 0, 1, 0) ::
  (1608, .invokevirtual 150, 3, 146, 0, 1) ::
  (1611, .aload_n 2, 1, 2, 0, 0) ::
  (1612, .aload_n 0, 1, 0, 0, 0) ::
  (1613, .iload_n 3, 1, 3, 0, 0) ::
  (1614, .iconst 1, 1, 0, 0, 1) ::
  (1615, .iadd, 1, 0, 0, 0) ::
  (1616, .iaload, 1, 0, 1, 0) ::
  (1617, .aload_n 0, 1, 0, 0, 0) ::
  (1618, .iload_n 3, 1, 3, 0, 0) ::
  (1619, .iconst 2, 1, 0, 0, 2) ::
  (1620, .iadd, 1, 0, 0, 0) ::
  (1621, .iaload, 1, 0, 1, 0) ::
  (1622, .aload_n 0, 1, 0, 0, 0) ::
  (1623, .iload_n 3, 1, 3, 0, 0) ::
  (1624, .iconst 3, 1, 0, 0, 3) ::
  (1625, .iadd, 1, 0, 0, 0) ::
  (1626, .iaload, 1, 0, 1, 0) ::
  (1627, .aload_n 0, 1, 0, 0, 0) ::
  (1628, .iload_n 3, 1, 3, 0, 0) ::
  (1629, .iconst 4, 1, 0, 0, 4) ::
  (1630, .iadd, 1, 0, 0, 0) ::
  (1631, .iaload, 1, 0, 1, 0) ::
  (1632, .aload_n 0, 1, 0, 0, 0) ::
  (1633, .iload_n 3, 1, 3, 0, 0) ::
  (1634, .iconst 5, 1, 0, 0, 5) ::
  (1635, .iadd, 1, 0, 0, 0) ::
  (1636, .iaload, 1, 0, 1, 0) ::
  (1637, .invokevirtual 153, 3, 265, 22, 1) ::
  (1640, .if_icmp .eq 320, 3, 1960, 0, 0) ::
  (1643, .iconst 0, 1, 0, 0, 0) ::
  (1644, .ireturn, 1, 1, 0, 0) ::
  (1645, .aload_n 1, 1, 1, 0, 0) ::
  (1646, .aload_n 0, 1, 0, 0, 0) ::
  (1647, .iload_n 3, 1, 3, 0, 0) ::
  (1648, .iconst 1, 1, 0, 0, 1) ::
  (1649, .iadd, 1, 0, 0, 0) ::
  (1650, .iaload, 1, 0, 1, 0) ::
  (1651, .aload_n 0, 1, 0, 0, 0) ::
  (1652, .iload_n 3, 1, 3, 0, 0) ::
  (1653, .iconst 2, 1, 0, 0, 2) ::
  (1654, .iadd, 1, 0, 0, 0) ::
  (1655, .iaload, 1, 0, 1, 0) ::
  (1656, .aload_n 0, 1, 0, 0, 0) ::
  (1657, .iload_n 3, 1, 3, 0, 0) ::
  (1658, .iconst 3, 1, 0, 0, 3) ::
  (1659, .iadd, 1, 0, 0, 0) ::
  (1660, .iaload, 1, 0, 1, 0) ::
  (1661, .aload_n 0, 1, 0, 0, 0) ::
  (1662, .iload_n 3, 1, 3, 0, 0) ::
  (1663, .iconst 4, 1, 0, 0, 4) ::
  (1664, .iadd, 1, 0, 0, 0) ::
  (1665, .iaload, 1, 0, 1, 0) ::
  (1666, .invokevirtual 154, 3, 147, 0, 1) ::
  (1669, .aload_n 2, 1, 2, 0, 0) ::
  (1670, .aload_n 0, 1, 0, 0, 0) ::
  (1671, .iload_n 3, 1, 3, 0, 0) ::
  (1672, .iconst 1, 1, 0, 0, 1) ::
  (1673, .iadd, 1, 0, 0, 0) ::
  (1674, .iaload, 1, 0, 1, 0) ::
  (1675, .aload_n 0, 1, 0, 0, 0) ::
  (1676, .iload_n 3, 1, 3, 0, 0) ::
  (1677, .iconst 2, 1, 0, 0, 2) ::
  (1678, .iadd, 1, 0, 0, 0) ::
  (1679, .iaload, 1, 0, 1, 0) ::
  (1680, .aload_n 0, 1, 0, 0, 0) ::
  (1681, .iload_n 3, 1, 3, 0, 0) ::
  (1682, .iconst 3, 1, 0, 0, 3) ::
  (1683, .iadd, 1, 0, 0, 0) ::
  (1684, .iaload, 1, 0, 1, 0) ::
  (1685, .aload_n 0, 1, 0, 0, 0) ::
  (1686, .iload_n 3, 1, 3, 0, 0) ::
  (1687, .iconst 4, 1, 0, 0, 4) ::
  (1688, .iadd, 1, 0, 0, 0) ::
  (1689, .iaload, 1, 0, 1, 0) ::
  (1690, .invokevirtual 158, 3, 266, 22, 1) ::
  (1693, .if_icmp .eq 267, 3, 1960, 0, 0) ::
  (1696, .iconst 0, 1, 0, 0, 0) ::
  (1697, .ireturn, 1, 1, 0, 0) ::
  (1698, .aload_n 1, 1, 1, 0, 0) ::
  (1699, .aload_n 0, 1, 0, 0, 0) ::
  (1700, .iload_n 3, 1, 3, 0, 0) ::
  (1701, .iconst 1, 1, 0, 0, 1) ::
  (1702, .iadd, 1, 0, 0, 0) ::
  (1703, .iaload, 1, 0, 1, 0) ::
  (1704, .aload_n 0, 1, 0, 0, 0) ::
  (1705, .iload_n 3, 1, 3, 0, 0) ::
  (1706, .iconst 2, 1, 0, 0, 2) ::
  (1707, .iadd, 1, 0, 0, 0) ::
  (1708, .iaload, 1, 0, 1, 0) ::
  (1709, .aload_n 0, 1, 0, 0, 0) ::
  (1710, .iload_n 3, 1, 3, 0, 0) ::
  (1711, .iconst 3, 1, 0, 0, 3) ::
  (1712, .iadd, 1, 0, 0, 0) ::
  (1713, .iaload, 1, 0, 1, 0) ::
  (1714, .aload_n 0, 1, 0, 0, 0) ::
  (1715, .iload_n 3, 1, 3, 0, 0) ::
  (1716, .iconst 4, 1, 0, 0, 4) ::
  (1717, .iadd, 1, 0, 0, 0) ::
  (1718, .iaload, 1, 0, 1, 0) ::
  (1719, .invokevirtual 159, 3, 150, 0, 1) ::
  (1722, .aload_n 2, 1, 2, 0, 0) ::
  (1723, .aload_n 0, 1, 0, 0, 0) ::
  (1724, .iload_n 3, 1, 3, 0, 0) ::
  (1725, .iconst 1, 1, 0, 0, 1) ::
  (1726, .iadd, 1, 0, 0, 0) ::
  (1727, .iaload, 1, 0, 1, 0) ::
  (1728, .aload_n 0, 1, 0, 0, 0) ::
  (1729, .iload_n 3, 1, 3, 0, 0) ::
  (1730, .iconst 2, 1, 0, 0, 2) ::
  (1731, .iadd, 1, 0, 0, 0) ::
  (1732, .iaload, 1, 0, 1, 0) ::
  (1733, .aload_n 0, 1, 0, 0, 0) ::
  (1734, .iload_n 3, 1, 3, 0, 0) ::
  (1735, .iconst 3, 1, 0, 0, 3) ::
  (1736, .iadd, 1, 0, 0, 0) ::
  (1737, .iaload, 1, 0, 1, 0) ::
  (1738, .aload_n 0, 1, 0, 0, 0) ::
  (1739, .iload_n 3, 1, 3, 0, 0) ::
  (1740, .iconst 4, 1, 0, 0, 4) ::
  (1741, .iadd, 1, 0, 0, 0) ::
  (1742, .iaload, 1, 0, 1, 0) ::
  (1743, .invokevirtual 162, 3, 268, 22, 1) ::
  (1746, .if_icmp .eq 214, 3, 1960, 0, 0) ::
  (1749, .iconst 0, 1, 0, 0, 0) ::
  (1750, .ireturn, 1, 1, 0, 0) ::
  (1751, .aload_n 1, 1, 1, 0, 0) ::
  (1752, .aload_n 0, 1, 0, 0, 0) ::
  (1753, .iload_n 3, 1, 3, 0, 0) ::
  (1754, .iconst 1, 1, 0, 0, 1) ::
  (1755, .iadd, 1, 0, 0, 0) ::
  (1756, .iaload, 1, 0, 1, 0) ::
  (1757, .aload_n 0, 1, 0, 0, 0) ::
  (1758, .iload_n 3, 1, 3, 0, 0) ::
  (1759, .iconst 2, 1, 0, 0, 2) ::
  (1760, .iadd, 1, 0, 0, 0) ::
  (1761, .iaload, 1, 0, 1, 0) ::
  (1762, .aload_n 0, 1, 0, 0, 0) ::
  (1763, .iload_n 3, 1, 3, 0, 0) ::
  (1764, .iconst 3, 1, 0, 0, 3) ::
  (1765, .iadd, 1, 0, 0, 0) ::
  (1766, .iaload, 1, 0, 1, 0) ::
  (1767, .invokevirtual 163, 3, 152, 0, 2) ::
  r_278_x1770
def r_278_x1404 : List ax_E :=
  (1404, .aload_n 0, 1, 0, 0, 0) ::
  (1405, .iload_n 3, 1, 3, 0, 0) ::
  (1406, .iconst 2, 1, 0, 0, 2) ::
  (1407, .iadd, 1, 0, 0, 0) ::
  (1408, .iaload, 1, 0, 1, 0) ::
  (1409, .invokevirtual 133, 3, 133, 0, 1) ::
  (1412, .aload_n 2, 1, 2, 0, 0) ::
  (1413, .aload_n 0, 1, 0, 0, 0) ::
  (1414, .iload_n 3, 1, 3, 0, 0) ::
  (1415, .iconst 1, 1, 0, 0, 1) ::
  (1416, .iadd, 1, 0, 0, 0) ::
  (1417, .iaload, 1, 0, 1, 0) ::
  (1418, .aload_n 0, 1, 0, 0, 0) ::
  (1419, .iload_n 3, 1, 3, 0, 0) ::
  (1420, .iconst 2, 1, 0, 0, 2) ::
  (1421, .iadd, 1, 0, 0, 0) ::
  (1422, .iaload, 1, 0, 1, 0) ::
  (1423, .invokevirtual 136, 3, 260, 22, 1) ::
  (1426, .if_icmp .eq 534, 3, 1960, 0, 0) ::
  (1429, .iconst 0, 1, 0, 0, 0) ::
  (1430, .ireturn, 1, 1, 0, 0) ::
  (1431, .aload_n 1, 1, 1, 0, 0) ::
  (1432, .aload_n 0, 1, 0, 0, 0) ::
  (1433, .iload_n 3, 1, 3, 0, 0) ::
  (1434, .iconst 1, 1, 0, 0, 1) ::
  (1435, .iadd, 1, 0, 0, 0) ::
  (1436, .iaload, 1, 0, 1, 0) ::
  (1437, .aload_n 0, 1, 0, 0, 0) ::
  (1438, .iload_n 3, 1, 3, 0, 0) ::
  (1439, .iconst 2, 1, 0, 0, 2) ::
  (1440, .iadd, 1, 0, 0, 0) ::
  (1441, .iaload, 1, 0, 1, 0) ::
  (1442, .invokevirtual 137, 3, 138, 0, 1) ::
  (1445, .aload_n 2, 1, 2, 0, 0) ::
  (1446, .aload_n 0, 1, 0, 0, 0) ::
  (1447, .iload_n 3, 1, 3, 0, 0) ::
  (1448, .iconst 1, 1, 0, 0, 1) ::
  (1449, .iadd, 1, 0, 0, 0) ::
  (1450, .iaload, 1, 0, 1, 0) ::
  (1451, .aload_n 0, 1, 0, 0, 0) ::
  (1452, .iload_n 3, 1, 3, 0, 0) ::
  (1453, .iconst 2, 1, 0, 0, 2) ::
  (1454, .iadd, 1, 0, 0, 0) ::
  (1455, .iaload, 1, 0, 1, 0) ::
  (1456, .invokevirtual 140, 3, 261, 22, 1) ::
  (1459, .if_icmp .eq 501, 3, 1960, 0, 0) ::
  (1462, .iconst 0, 1, 0, 0, 0) ::
  (1463, .ireturn, 1, 1, 0, 0) ::
  (1464, .aload_n 1, 1, 1, 0, 0) ::
  (1465, .aload_n 0, 1, 0, 0, 0) ::
  (1466, .iload_n 3, 1, 3, 0, 0) ::
  (1467, .iconst 1, 1, 0, 0, 1) ::
  (1468, .iadd, 1, 0, 0, 0) ::
  (1469, .iaload, 1, 0, 1, 0) ::
  (1470, .aload_n 0, 1, 0, 0, 0) ::
  (1471, .iload_n 3, 1, 3, 0, 0) ::
  (1472, .iconst 2, 1, 0, 0, 2) ::
  (1473, .iadd, 1, 0, 0, 0) ::
  (1474, .iaload, 1, 0, 1, 0) ::
  (1475, .aload_n 0, 1, 0, 0, 0) ::
  (1476, .iload_n 3, 1, 3, 0, 0) ::
  (1477, .iconst 3, 1, 0, 0, 3) ::
  (1478, .iadd, 1, 0, 0, 0) ::
  (1479, .iaload, 1, 0, 1, 0) ::
  (1480, .aload_n 0, 1, 0, 0, 0) ::
  (1481, .iload_n 3, 1, 3, 0, 0) ::
  (1482, .iconst 4, 1, 0, 0, 4) ::
  (1483, .iadd, 1, 0, 0, 0) ::
  (1484, .iaload, 1, 0, 1, 0) ::
  (1485, .aload_n 0, 1, 0, 0, 0) ::
  (1486, .iload_n 3, 1, 3, 0, 0) ::
  (1487, .iconst 5, 1, 0, 0, 5) ::
  (1488, .iadd, 1, 0, 0, 0) ::
  (1489, .iaload, 1, 0, 1, 0) ::
  (1490, .aload_n 0, 1, 0, 0, 0) ::
  (1491, .iload_n 3, 1, 3, 0, 0) ::
  (1492, .bipush 6, 2, 0, 0, 6) ::
  (1494, .iadd, 1, 0, 0, 0) ::
  (1495, .iaload, 1, 0, 1, 0) ::
  (1496, .invokevirtual 141, 3, 143, 0, 1) ::
  (1499, .aload_n 2, 1, 2, 0, 0) ::
  (1500, .aload_n 0, 1, 0, 0, 0) ::
  (1501, .iload_n 3, 1, 3, 0, 0) ::
  (1502, .iconst 1, 1, 0, 0, 1) ::
  (1503, .iadd, 1, 0, 0, 0) ::
  (1504, .iaload, 1, 0, 1, 0) ::
  (1505, .aload_n 0, 1, 0, 0, 0) ::
  (1506, .iload_n 3, 1, 3, 0, 0) ::
  (1507, .iconst 2, 1, 0, 0, 2) ::
  (1508, .iadd, 1, 0, 0, 0) ::
  (1509, .iaload, 1, 0, 1, 0) ::
  (1510, .aload_n 0, 1, 0, 0, 0) ::
  (1511, .iload_n 3, 1, 3, 0, 0) ::
  (1512, .iconst 3, 1, 0, 0, 3) ::
  (1513, .iadd, 1, 0, 0, 0) ::
  (1514, .iaload, 1, 0, 1, 0) ::
  (1515, .aload_n 0, 1, 0, 0, 0) ::
  (1516, .iload_n 3, 1, 3, 0, 0) ::
  (1517, .iconst 4, 1, 0, 0, 4) ::
  (1518, .iadd, 1, 0, 0, 0) ::
  (1519, .iaload, 1, 0, 1, 0) ::
  (1520, .aload_n 0, 1, 0, 0, 0) ::
  (1521, .iload_n 3, 1, 3, 0, 0) ::
  (1522, .iconst 5, 1, 0, 0, 5) ::
  (1523, .iadd, 1, 0, 0, 0) ::
  (1524, .iaload, 1, 0, 1, 0) ::
  (1525, .aload_n 0, 1, 0, 0, 0) ::
  (1526, .iload_n 3, 1, 3, 0, 0) ::
  (1527, .bipush 6, 2, 0, 0, 6) ::
  (1529, .iadd, 1, 0, 0, 0) ::
  (1530, .iaload, 1, 0, 1, 0) ::
  (1531, .invokevirtual 145, 3, 263, 22, 1) ::
  (1534, .if_icmp .eq 426, 3, 1960, 0, 0) ::
  (1537, .iconst 0, 1, 0, 0, 0) ::
  (1538, .ireturn, 1, 1, 0, 0) ::
  (1539, .aload_n 1, 1, 1, 0, 0) ::
  (1540, .aload_n 0, 1, 0, 0, 0) ::
  (1541, .iload_n 3, 1, 3, 0, 0) ::
  (1542, .iconst 1, 1, 0, 0, 1) ::
  (1543, .iadd, 1, 0, 0, 0) ::
  (1544, .iaload, 1, 0, 1, 0) ::
  (1545, .aload_n 0, 1, 0, 0, 0) ::
  (1546, .iload_n 3, 1, 3, 0, 0) ::
  (1547, .iconst 2, 1, 0, 0, 2) ::
  (1548, .iadd, 1, 0, 0, 0) ::
  (1549, .iaload, 1, 0, 1, 0) ::
  (1550, .aload_n 0, 1, 0, 0, 0) ::
  (1551, .iload_n 3, 1, 3, 0, 0) ::
  (1552, .iconst 3, 1, 0, 0, 3) ::
  (1553, .iadd, 1, 0, 0, 0) ::
  (1554, .iaload, 1, 0, 1, 0) ::
  (1555, .invokevirtual 146, 3, 145, 0, 1) ::
  (1558, .aload_n 2, 1, 2, 0, 0) ::
  (1559, .aload_n 0, 1, 0, 0, 0) ::
  (1560, .iload_n 3, 1, 3, 0, 0) ::
  (1561, .iconst 1, 1, 0, 0, 1) ::
  (1562, .iadd, 1, 0, 0, 0) ::
  (1563, .iaload, 1, 0, 1, 0) ::
  (1564, .aload_n 0, 1, 0, 0, 0) ::
  (1565, .iload_n 3, 1, 3, 0, 0) ::
  (1566, .iconst 2, 1, 0, 0, 2) ::
  (1567, .iadd, 1, 0, 0, 0) ::
  (1568, .iaload, 1, 0, 1, 0) ::
  (1569, .aload_n 0, 1, 0, 0, 0) ::
  (1570, .iload_n 3, 1, 3, 0, 0) ::
  (1571, .iconst 3, 1, 0, 0, 3) ::
  (1572, .iadd, 1, 0, 0, 0) ::
  (1573, .iaload, 1, 0, 1, 0) ::
  (1574, .invokevirtual 149, 3, 264, 22, 1) ::
  (1577, .if_icmp .eq 383, 3, 1960, 0, 0) ::
  (1580, .iconst 0, 1, 0, 0, 0) ::
  (1581, .ireturn, 1, 1, 0, 0) ::
  (1582, .aload_n 1, 1, 1, 0, 0) ::
  (1583, .aload_n 0, 1, 0, 0, 0) ::
  (1584, .iload_n 3, 1, 3, 0, 0) ::
  (1585, .iconst 1, 1, 0, 0, 1) ::
  (1586, .iadd, 1, 0, 0, 0) ::
  (1587, .iaload, 1, 0, 1, 0) ::
  (1588, .aload_n 0, 1, 0, 0, 0) ::
  (1589, .iload_n 3, 1, 3, 0, 0) ::
  r_278_x1590
def r_278_1363 : List ax_E :=
  (1363, .invokevirtual 128, 3, 131, 0, 1) ::
  (1366, .aload_n 2, 1, 2, 0, 0) ::
  (1367, .aload_n 0, 1, 0, 0, 0) ::
  (1368, .iload_n 3, 1, 3, 0, 0) ::
  (1369, .iconst 1, 1, 0, 0, 1) ::
  (1370, .iadd, 1, 0, 0, 0) ::
  (1371, .iaload, 1, 0, 1, 0) ::
  (1372, .aload_n 0, 1, 0, 0, 0) ::
  (1373, .iload_n 3, 1, 3, 0, 0) ::
  (1374, .iconst 2, 1, 0, 0, 2) ::
  (1375, .iadd, 1, 0, 0, 0) ::
  (1376, .iaload, 1, 0, 1, 0) ::
  (1377, .aload_n 0, 1, 0, 0, 0) ::
  (1378, .iload_n 3, 1, 3, 0, 0) ::
  (1379, .iconst 3, 1, 0, 0, 3) ::
  (1380, .iadd, 1, 0, 0, 0) ::
  (1381, .iaload, 1, 0, 1, 0) ::
  (1382, .ifCond .eq 7, 3, 1389, 0, 0) ::
  (1385, .iconst 1, 1, 0, 0, 1) ::
  (1386, .goto 4, 3, 1390, 0, 0) ::
  (1389, .iconst 0, 1, 0, 0, 0) ::
  (1390, .invokevirtual 132, 3, 259, 22, 1) ::
  (1393, .if_icmp .eq 567, 3, 1960, 0, 0) ::
  (1396, .iconst 0, 1, 0, 0, 0) ::
  (1397, .ireturn, 1, 1, 0, 0) ::
  (1398, .aload_n 1, 1, 1, 0, 0) ::
  (1399, .aload_n 0, 1, 0, 0, 0) ::
  (1400, .iload_n 3, 1, 3, 0, 0) ::
  (1401, .iconst 1, 1, 0, 0, 1) ::
  (1402, .iadd, 1, 0, 0, 0) ::
  (1403, .iaload, 1, 0, 1, 0) ::
  r_278_x1404
def r_278_x1178 : List ax_E :=
  (1178, .iconst 4, 1, 0, 0, 4) ::
  (1179, .iadd, 1, 0, 0, 0) ::
  (1180, .iaload, 1, 0, 1, 0) ::
  (1181, .invokevirtual 115, 3, 253, 22, 2) ::
  (1184, .lcmp, 1, 0, 0, 0) ::
  (1185, .ifCond .eq 775, 3, 1960, 0, 0) ::
  (1188, .iconst 0, 1, 0, 0, 0) ::
  (1189, .ireturn, 1, 1, 0, 0) ::
  (1190, .aload_n 1, 1, 1, 0, 0) ::
  (1191, .aload_n 0, 1, 0, 0, 0) ::
  (1192, .iload_n 3, 1, 3, 0, 0) ::
  (1193, .iconst 1, 1, 0, 0, 1) ::
  (1194, .iadd, 1, 0, 0, 0) ::
  (1195, .iaload, 1, 0, 1, 0) ::
  (1196, .aload_n 0, 1, 0, 0, 0) ::
  (1197, .iload_n 3, 1, 3, 0, 0) ::
  (1198, .iconst 2, 1, 0, 0, 2) ::
  (1199, .iadd, 1, 0, 0, 0) ::
  (1200, .iaload, 1, 0, 1, 0) ::
  (1201, .aload_n 0, 1, 0, 0, 0) ::
  (1202, .iload_n 3, 1, 3, 0, 0) ::
  (1203, .iconst 3, 1, 0, 0, 3) ::
  (1204, .iadd, 1, 0, 0, 0) ::
  (1205, .iaload, 1, 0, 1, 0) ::
  (1206, .aload_n 0, 1, 0, 0, 0) ::
  (1207, .iload_n 3, 1, 3, 0, 0) ::
  (1208, .iconst 4, 1, 0, 0, 4) ::
  (1209, .iadd, 1, 0, 0, 0) ::
  (1210, .iaload, 1, 0, 1, 0) ::
  (1211, .invokevirtual 116, 3, 127, 0, 1) ::
  (1214, .aload_n 2, 1, 2, 0, 0) ::
  (1215, .aload_n 0, 1, 0, 0, 0) ::
  (1216, .iload_n 3, 1, 3, 0, 0) ::
  (1217, .iconst 1, 1, 0, 0, 1) ::
  (1218, .iadd, 1, 0, 0, 0) ::
  (1219, .iaload, 1, 0, 1, 0) ::
  (1220, .aload_n 0, 1, 0, 0, 0) ::
  (1221, .iload_n 3, 1, 3, 0, 0) ::
  (1222, .iconst 2, 1, 0, 0, 2) ::
  (1223, .iadd, 1, 0, 0, 0) ::
  (1224, .iaload, 1, 0, 1, 0) ::
  (1225, .aload_n 0, 1, 0, 0, 0) ::
  (1226, .iload_n 3, 1, 3, 0, 0) ::
  (1227, .iconst 3, 1, 0, 0, 3) ::
  (1228, .iadd, 1, 0, 0, 0) ::
  (1229, .iaload, 1, 0, 1, 0) ::
  (1230, .aload_n 0, 1, 0, 0, 0) ::
  (1231, .iload_n 3, 1, 3, 0, 0) ::
  (1232, .iconst 4, 1, 0, 0, 4) ::
  (1233, .iadd, 1, 0, 0, 0) ::
  (1234, .iaload, 1, 0, 1, 0) ::
  (1235, .invokevirtual 119, 3, 256, 22, 1) ::
  (1238, .if_icmp .eq 722, 3, 1960, 0, 0) ::
  (1241, .iconst 0, 1, 0, 0, 0) ::
  (1242, .ireturn, 1, 1, 0, 0) ::
  (1243, .aload_n 1, 1, 1, 0, 0) ::
  (1244, .aload_n 0, 1, 0, 0, 0) ::
  (1245, .iload_n 3, 1, 3, 0, 0) ::
  (1246, .iconst 1, 1, 0, 0, 1) ::
  (1247, .iadd, 1, 0, 0, 0) ::
  (1248, .iaload, 1, 0, 1, 0) ::
  (1249, .aload_n 0, 1, 0, 0, 0) ::
  (1250, .iload_n 3, 1, 3, 0, 0) ::
  (1251, .iconst 2, 1, 0, 0, 2) ::
  (1252, .iadd, 1, 0, 0, 0) ::
  (1253, .iaload, 1, 0, 1, 0) ::
  (1254, .aload_n 0, 1, 0, 0, 0) ::
  (1255, .iload_n 3, 1, 3, 0, 0) ::
  (1256, .iconst 3, 1, 0, 0, 3) ::
  (1257, .iadd, 1, 0, 0, 0) ::
  (1258, .iaload, 1, 0, 1, 0) ::
  (1259, .aload_n 0, 1, 0, 0, 0) ::
  (1260, .iload_n 3, 1, 3, 0, 0) ::
  (1261, .iconst 4, 1, 0, 0, 4) ::
  (1262, .iadd, 1, 0, 0, 0) ::
  (1263, .iaload, 1, 0, 1, 0) ::
  (1264, .aload_n 0, 1, 0, 0, 0) ::
  (1265, .iload_n 3, 1, 3, 0, 0) ::
  (1266, .iconst 5, 1, 0, 0, 5) ::
  (1267, .iadd, 1, 0, 0, 0) ::
  (1268, .iaload, 1, 0, 1, 0) ::
  (1269, .invokevirtual 120, 3, 128, 0, 1) ::
  (1272, .aload_n 2, 1, 2, 0, 0) ::
  (1273, .aload_n 0, 1, 0, 0, 0) ::
  (1274, .iload_n 3, 1, 3, 0, 0) ::
  (1275, .iconst 1, 1, 0, 0, 1) ::
  (1276, .iadd, 1, 0, 0, 0) ::
  (1277, .iaload, 1, 0, 1, 0) ::
  (1278, .aload_n 0, 1, 0, 0, 0) ::
  (1279, .iload_n 3, 1, 3, 0, 0) ::
  (1280, .iconst 2, 1, 0, 0, 2) ::
  (1281, .iadd, 1, 0, 0, 0) ::
  (1282, .iaload, 1, 0, 1, 0) ::
  (1283, .aload_n 0, 1, 0, 0, 0) ::
  (1284, .iload_n 3, 1, 3, 0, 0) ::
  (1285, .iconst 3, 1, 0, 0, 3) ::
  (1286, .iadd, 1, 0, 0, 0) ::
  (1287, .iaload, 1, 0, 1, 0) ::
  (1288, .aload_n 0, 1, 0, 0, 0) ::
  (1289, .iload_n 3, 1, 3, 0, 0) ::
  (1290, .iconst 4, 1, 0, 0, 4) ::
  (1291, .iadd, 1, 0, 0, 0) ::
  (1292, .iaload, 1, 0, 1, 0) ::
  (1293, .aload_n 0, 1, 0, 0, 0) ::
  (1294, .iload_n 3, 1, 3, 0, 0) ::
  (1295, .iconst 5, 1, 0, 0, 5) ::
  (1296, .iadd, 1, 0, 0, 0) ::
  (1297, .iaload, 1, 0, 1, 0) ::
  (1298, .invokevirtual 123, 3, 257, 22, 1) ::
  (1301, .if_icmp .eq 659, 3, 1960, 0, 0) ::
  (1304, .iconst 0, 1, 0, 0, 0) ::
  (1305, .ireturn, 1, 1, 0, 0) ::
  (1306, .aload_n 1, 1, 1, 0, 0) ::
  (1307, .aload_n 0, 1, 0, 0, 0) ::
  (1308, .iload_n 3, 1, 3, 0, 0) ::
  (1309, .iconst 1, 1, 0, 0, 1) ::
  (1310, .iadd, 1, 0, 0, 0) ::
  (1311, .iaload, 1, 0, 1, 0) ::
  (1312, .aload_n 0, 1, 0, 0, 0) ::
  (1313, .iload_n 3, 1, 3, 0, 0) ::
  (1314, .iconst 2, 1, 0, 0, 2) ::
  (1315, .iadd, 1, 0, 0, 0) ::
  (1316, .iaload, 1, 0, 1, 0) ::
  (1317, .invokevirtual 124, 3, 130, 0, 1) ::
  (1320, .aload_n 2, 1, 2, 0, 0) ::
  (1321, .aload_n 0, 1, 0, 0, 0) ::
  (1322, .iload_n 3, 1, 3, 0, 0) ::
  (1323, .iconst 1, 1, 0, 0, 1) ::
  (1324, .iadd, 1, 0, 0, 0) ::
  (1325, .iaload, 1, 0, 1, 0) ::
  (1326, .aload_n 0, 1, 0, 0, 0) ::
  (1327, .iload_n 3, 1, 3, 0, 0) ::
  (1328, .iconst 2, 1, 0, 0, 2) ::
  (1329, .iadd, 1, 0, 0, 0) ::
  (1330, .iaload, 1, 0, 1, 0) ::
  (1331, .invokevirtual 127, 3, 258, 22, 1) ::
  (1334, .if_icmp .eq 626, 3, 1960, 0, 0) ::
  (1337, .iconst 0, 1, 0, 0, 0) ::
  (1338, .ireturn, 1, 1, 0, 0) ::
  (1339, .aload_n 1, 1, 1, 0, 0) ::
  (1340, .aload_n 0, 1, 0, 0, 0) ::
  (1341, .iload_n 3, 1, 3, 0, 0) ::
  (1342, .iconst 1, 1, 0, 0, 1) ::
  (1343, .iadd, 1, 0, 0, 0) ::
  (1344, .iaload, 1, 0, 1, 0) ::
  (1345, .aload_n 0, 1, 0, 0, 0) ::
  (1346, .iload_n 3, 1, 3, 0, 0) ::
  (1347, .iconst 2, 1, 0, 0, 2) ::
  (1348, .iadd, 1, 0, 0, 0) ::
  (1349, .iaload, 1, 0, 1, 0) ::
  (1350, .aload_n 0, 1, 0, 0, 0) ::
  (1351, .iload_n 3, 1, 3, 0, 0) ::
  (1352, .iconst 3, 1, 0, 0, 3) ::
  (1353, .iadd, 1, 0, 0, 0) ::
  (1354, .iaload, 1, 0, 1, 0) ::
  (1355, .ifCond .eq 7, 3, 1362, 0, 0) ::
  (1358, .iconst 1, 1, 0, 0, 1) ::
  (1359, .goto 4, 3, 1363, 0, 0) ::
  (1362, .iconst 0, 1, 0, 0, 0) ::
  (1363, .jsr 0, 0, 15, 0, 0) ::
  r_278_1363
def r_278_x992 : List ax_E :=
  (992, .iconst 0, 1, 0, 0, 0) ::
  (993, .ireturn, 1, 1, 0, 0) ::
  (994, .aload_n 1, 1, 1, 0, 0) ::
  (995, .aload_n 0, 1, 0, 0, 0) ::
  (996, .iload_n 3, 1, 3, 0, 0) ::
  (997, .iconst 1, 1, 0, 0, 1) ::
  (998, .iadd, 1, 0, 0, 0) ::
  (999, .iaload, 1, 0, 1, 0) ::
  (1000, .aload_n 0, 1, 0, 0, 0) ::
  (1001, .iload_n 3, 1, 3, 0, 0) ::
  (1002, .iconst 2, 1, 0, 0, 2) ::
  (1003, .iadd, 1, 0, 0, 0) ::
  (1004, .iaload, 1, 0, 1, 0) ::
  (1005, .invokevirtual 94, 3, 110, 0, 1) ::
  (1008, .aload_n 2, 1, 2, 0, 0) ::
  (1009, .aload_n 0, 1, 0, 0, 0) ::
  (1010, .iload_n 3, 1, 3, 0, 0) ::
  (1011, .iconst 1, 1, 0, 0, 1) ::
  (1012, .iadd, 1, 0, 0, 0) ::
  (1013, .iaload, 1, 0, 1, 0) ::
  (1014, .aload_n 0, 1, 0, 0, 0) ::
  (1015, .iload_n 3, 1, 3, 0, 0) ::
  (1016, .iconst 2, 1, 0, 0, 2) ::
  (1017, .iadd, 1, 0, 0, 0) ::
  (1018, .iaload, 1, 0, 1, 0) ::
  (1019, .invokevirtual 97, 3, 247, 22, 1) ::
  (1022, .if_icmp .eq 938, 3, 1960, 0, 0) ::
  (1025, .iconst 0, 1, 0, 0, 0) ::
  (1026, .ireturn, 1, 1, 0, 0) ::
  (1027, .aload_n 1, 1, 1, 0, 0) ::
  (1028, .aload_n 0, 1, 0, 0, 0) ::
  (1029, .iload_n 3, 1, 3, 0, 0) ::
  (1030, .iconst 1, 1, 0, 0, 1) ::
  (1031, .iadd, 1, 0, 0, 0) ::
  (1032, .iaload, 1, 0, 1, 0) ::
  (1033, .aload_n 0, 1, 0, 0, 0) ::
  (1034, .iload_n 3, 1, 3, 0, 0) ::
  (1035, .iconst 2, 1, 0, 0, 2) ::
  (1036, .iadd, 1, 0, 0, 0) ::
  (1037, .iaload, 1, 0, 1, 0) ::
  (1038, .aload_n 0, 1, 0, 0, 0) ::
  (1039, .iload_n 3, 1, 3, 0, 0) ::
  (1040, .iconst 3, 1, 0, 0, 3) ::
  (1041, .iadd, 1, 0, 0, 0) ::
  (1042, .iaload, 1, 0, 1, 0) ::
  (1043, .invokevirtual 98, 3, 114, 0, 1) ::
  (1046, .aload_n 2, 1, 2, 0, 0) ::
  (1047, .aload_n 0, 1, 0, 0, 0) ::
  (1048, .iload_n 3, 1, 3, 0, 0) ::
  (1049, .iconst 1, 1, 0, 0, 1) ::
  (1050, .iadd, 1, 0, 0, 0) ::
  (1051, .iaload, 1, 0, 1, 0) ::
  (1052, .aload_n 0, 1, 0, 0, 0) ::
  (1053, .iload_n 3, 1, 3, 0, 0) ::
  (1054, .iconst 2, 1, 0, 0, 2) ::
  (1055, .iadd, 1, 0, 0, 0) ::
  (1056, .iaload, 1, 0, 1, 0) ::
  (1057, .aload_n 0, 1, 0, 0, 0) ::
  (1058, .iload_n 3, 1, 3, 0, 0) ::
  (1059, .iconst 3, 1, 0, 0, 3) ::
  (1060, .iadd, 1, 0, 0, 0) ::
  (1061, .iaload, 1, 0, 1, 0) ::
  (1062, .invokevirtual 101, 3, 248, 22, 1) ::
  (1065, .if_icmp .eq 895, 3, 1960, 0, 0) ::
  (1068, .iconst 0, 1, 0, 0, 0) ::
  (1069, .ireturn, 1, 1, 0, 0) ::
  (1070, .aload_n 1, 1, 1, 0, 0) ::
  (1071, .aload_n 0, 1, 0, 0, 0) ::
  (1072, .iload_n 3, 1, 3, 0, 0) ::
  (1073, .iconst 1, 1, 0, 0, 1) ::
  (1074, .iadd, 1, 0, 0, 0) ::
  (1075, .iaload, 1, 0, 1, 0) ::
  (1076, .aload_n 0, 1, 0, 0, 0) ::
  (1077, .iload_n 3, 1, 3, 0, 0) ::
  (1078, .iconst 2, 1, 0, 0, 2) ::
  (1079, .iadd, 1, 0, 0, 0) ::
  (1080, .iaload, 1, 0, 1, 0) ::
  (1081, .invokevirtual 102, 3, 116, 0, 1) ::
  (1084, .aload_n 2, 1, 2, 0, 0) ::
  (1085, .aload_n 0, 1, 0, 0, 0) ::
  (1086, .iload_n 3, 1, 3, 0, 0) ::
  (1087, .iconst 1, 1, 0, 0, 1) ::
  (1088, .iadd, 1, 0, 0, 0) ::
  (1089, .iaload, 1, 0, 1, 0) ::
  (1090, .aload_n 0, 1, 0, 0, 0) ::
  (1091, .iload_n 3, 1, 3, 0, 0) ::
  (1092, .iconst 2, 1, 0, 0, 2) ::
  (1093, .iadd, 1, 0, 0, 0) ::
  (1094, .iaload, 1, 0, 1, 0) ::
  (1095, .invokevirtual 106, 3, 249, 22, 1) ::
  (1098, .if_icmp .eq 862, 3, 1960, 0, 0) ::
  (1101, .iconst 0, 1, 0, 0, 0) ::
  (1102, .ireturn, 1, 1, 0, 0) ::
  (1103, .aload_n 1, 1, 1, 0, 0) ::
  (1104, .aload_n 0, 1, 0, 0, 0) ::
  (1105, .iload_n 3, 1, 3, 0, 0) ::
  (1106, .iconst 1, 1, 0, 0, 1) ::
  (1107, .iadd, 1, 0, 0, 0) ::
  (1108, .iaload, 1, 0, 1, 0) ::
  (1109, .aload_n 0, 1, 0, 0, 0) ::
  (1110, .iload_n 3, 1, 3, 0, 0) ::
  (1111, .iconst 2, 1, 0, 0, 2) ::
  (1112, .iadd, 1, 0, 0, 0) ::
  (1113, .iaload, 1, 0, 1, 0) ::
  (1114, .invokevirtual 107, 3, 118, 0, 1) ::
  (1117, .aload_n 2, 1, 2, 0, 0) ::
  (1118, .aload_n 0, 1, 0, 0, 0) ::
  (1119, .iload_n 3, 1, 3, 0, 0) ::
  (1120, .iconst 1, 1, 0, 0, 1) ::
  (1121, .iadd, 1, 0, 0, 0) ::
  (1122, .iaload, 1, 0, 1, 0) ::
  (1123, .aload_n 0, 1, 0, 0, 0) ::
  (1124, .iload_n 3, 1, 3, 0, 0) ::
  (1125, .iconst 2, 1, 0, 0, 2) ::
  (1126, .iadd, 1, 0, 0, 0) ::
  (1127, .iaload, 1, 0, 1, 0) ::
  (1128, .invokevirtual 110, 3, 251, 22, 1) ::
  (1131, .if_icmp .eq 829, 3, 1960, 0, 0) ::
  (1134, .iconst 0, 1, 0, 0, 0) ::
  (1135, .ireturn, 1, 1, 0, 0) ::
  (1136, .aload_n 1, 1, 1, 0, 0) ::
  (1137, .aload_n 0, 1, 0, 0, 0) ::
  (1138, .iload_n 3, 1, 3, 0, 0) ::
  (1139, .iconst 1, 1, 0, 0, 1) ::
  (1140, .iadd, 1, 0, 0, 0) ::
  (1141, .iaload, 1, 0, 1, 0) ::
  (1142, .aload_n 0, 1, 0, 0, 0) ::
  (1143, .iload_n 3, 1, 3, 0, 0) ::
  (1144, .iconst 2, 1, 0, 0, 2) ::
  (1145, .iadd, 1, 0, 0, 0) ::
  (1146, .iaload, 1, 0, 1, 0) ::
  (1147, .aload_n 0, 1, 0, 0, 0) ::
  (1148, .iload_n 3, 1, 3, 0, 0) ::
  (1149, .iconst 3, 1, 0, 0, 3) ::
  (1150, .iadd, 1, 0, 0, 0) ::
  (1151, .iaload, 1, 0, 1, 0) ::
  (1152, .aload_n 0, 1, 0, 0, 0) ::
  (1153, .iload_n 3, 1, 3, 0, 0) ::
  (1154, .iconst 4, 1, 0, 0, 4) ::
  (1155, .iadd, 1, 0, 0, 0) ::
  (1156, .iaload, 1, 0, 1, 0) ::
  (1157, .invokevirtual 111, 3, 123, 0, 2) ::
  (1160, .aload_n 2, 1, 2, 0, 0) ::
  (1161, .aload_n 0, 1, 0, 0, 0) ::
  (1162, .iload_n 3, 1, 3, 0, 0) ::
  (1163, .iconst 1, 1, 0, 0, 1) ::
  (1164, .iadd, 1, 0, 0, 0) ::
  (1165, .iaload, 1, 0, 1, 0) ::
  (1166, .aload_n 0, 1, 0, 0, 0) ::
  (1167, .iload_n 3, 1, 3, 0, 0) ::
  (1168, .iconst 2, 1, 0, 0, 2) ::
  (1169, .iadd, 1, 0, 0, 0) ::
  (1170, .iaload, 1, 0, 1, 0) ::
  (1171, .aload_n 0, 1, 0, 0, 0) ::
  (1172, .iload_n 3, 1, 3, 0, 0) ::
  (1173, .iconst 3, 1, 0, 0, 3) ::
  (1174, .iadd, 1, 0, 0, 0) ::
  (1175, .iaload, 1, 0, 1, 0) ::
  (1176, .aload_n 0, 1, 0, 0, 0) ::
  (1177, .iload_n 3, 1, 3, 0, 0) ::
  r_278_x1178
def r_278_x810 : List ax_E :=
  (810, .iaload, 1, 0, 1, 0) ::
  (811, .aload_n 0, 1, 0, 0, 0) ::
  (812, .iload_n 3, 1, 3, 0, 0) ::
  (813, .iconst 4, 1, 0, 0, 4) ::
  (814, .iadd, 1, 0, 0, 0) ::
  (815, .iaload, 1, 0, 1, 0) ::
  (816, .invokevirtual 80, 3, 239, 22, 1) ::
  (819, .if_icmp .eq 1141, 3, 1960, 0, 0) ::
  (822, .iconst 0, 1, 0, 0, 0) ::
  (823, .ireturn, 1, 1, 0, 0) ::
  (824, .aload_n 1, 1, 1, 0, 0) ::
  (825, .aload_n 0, 1, 0, 0, 0) ::
  (826, .iload_n 3, 1, 3, 0, 0) ::
  (827, .iconst 1, 1, 0, 0, 1) ::
  (828, .iadd, 1, 0, 0, 0) ::
  (829, .iaload, 1, 0, 1, 0) ::
  (830, .aload_n 0, 1, 0, 0, 0) ::
  (831, .iload_n 3, 1, 3, 0, 0) ::
  (832, .iconst 2, 1, 0, 0, 2) ::
  (833, .iadd, 1, 0, 0, 0) ::
  (834, .iaload, 1, 0, 1, 0) ::
  (835, .aload_n 0, 1, 0, 0, 0) ::
  (836, .iload_n 3, 1, 3, 0, 0) ::
  (837, .iconst 3, 1, 0, 0, 3) ::
  (838, .iadd, 1, 0, 0, 0) ::
  (839, .iaload, 1, 0, 1, 0) ::
  (840, .aload_n 0, 1, 0, 0, 0) ::
  (841, .iload_n 3, 1, 3, 0, 0) ::
  (842, .iconst 4, 1, 0, 0, 4) ::
  (843, .iadd, 1, 0, 0, 0) ::
  (844, .iaload, 1, 0, 1, 0) ::
  (845, .aload_n 0, 1, 0, 0, 0) ::
  (846, .iload_n 3, 1, 3, 0, 0) ::
  (847, .iconst 5, 1, 0, 0, 5) ::
  (848, .iadd, 1, 0, 0, 0) ::
  (849, .iaload, 1, 0, 1, 0) ::
  (850, .invokevirtual 81, 3, 96, 0, 1) ::
  (853, .aload_n 2, 1, 2, 0, 0) ::
  (854, .aload_n 0, 1, 0, 0, 0) ::
  (855, .iload_n 3, 1, 3, 0, 0) ::
  (856, .iconst 1, 1, 0, 0, 1) ::
  (857, .iadd, 1, 0, 0, 0) ::
  (858, .iaload, 1, 0, 1, 0) ::
  (859, .aload_n 0, 1, 0, 0, 0) ::
  (860, .iload_n 3, 1, 3, 0, 0) ::
  (861, .iconst 2, 1, 0, 0, 2) ::
  (862, .iadd, 1, 0, 0, 0) ::
  (863, .iaload, 1, 0, 1, 0) ::
  (864, .aload_n 0, 1, 0, 0, 0) ::
  (865, .iload_n 3, 1, 3, 0, 0) ::
  (866, .iconst 3, 1, 0, 0, 3) ::
  (867, .iadd, 1, 0, 0, 0) ::
  (868, .iaload, 1, 0, 1, 0) ::
  (869, .aload_n 0, 1, 0, 0, 0) ::
  (870, .iload_n 3, 1, 3, 0, 0) ::
  (871, .iconst 4, 1, 0, 0, 4) ::
  (872, .iadd, 1, 0, 0, 0) ::
  (873, .iaload, 1, 0, 1, 0) ::
  (874, .aload_n 0, 1, 0, 0, 0) ::
  (875, .iload_n 3, 1, 3, 0, 0) ::
  (876, .iconst 5, 1, 0, 0, 5) ::
  (877, .iadd, 1, 0, 0, 0) ::
  (878, .iaload, 1, 0, 1, 0) ::
  (879, .invokevirtual 84, 3, 241, 22, 1) ::
  (882, .if_icmp .eq 1078, 3, 1960, 0, 0) ::
  (885, .iconst 0, 1, 0, 0, 0) ::
  (886, .ireturn, 1, 1, 0, 0) ::
  (887, .aload_n 1, 1, 1, 0, 0) ::
  (888, .aload_n 0, 1, 0, 0, 0) ::
  (889, .iload_n 3, 1, 3, 0, 0) ::
  (890, .iconst 1, 1, 0, 0, 1) ::
  (891, .iadd, 1, 0, 0, 0) ::
  (892, .iaload, 1, 0, 1, 0) ::
  (893, .aload_n 0, 1, 0, 0, 0) ::
  (894, .iload_n 3, 1, 3, 0, 0) ::
  (895, .iconst 2, 1, 0, 0, 2) ::
  (896, .iadd, 1, 0, 0, 0) ::
  (897, .iaload, 1, 0, 1, 0) ::
  (898, .aload_n 0, 1, 0, 0, 0) ::
  (899, .iload_n 3, 1, 3, 0, 0) ::
  (900, .iconst 3, 1, 0, 0, 3) ::
  (901, .iadd, 1, 0, 0, 0) ::
  (902, .iaload, 1, 0, 1, 0) ::
  (903, .aload_n 0, 1, 0, 0, 0) ::
  (904, .iload_n 3, 1, 3, 0, 0) ::
  (905, .iconst 4, 1, 0, 0, 4) ::
  (906, .iadd, 1, 0, 0, 0) ::
  (907, .iaload, 1, 0, 1, 0) ::
  (908, .aload_n 0, 1, 0, 0, 0) ::
  (909, .iload_n 3, 1, 3, 0, 0) ::
  (910, .iconst 5, 1, 0, 0, 5) ::
  (911, .iadd, 1, 0, 0, 0) ::
  (912, .iaload, 1, 0, 1, 0) ::
  (913, .invokevirtual 85, 3, 100, 0, 1) ::
  (916, .aload_n 2, 1, 2, 0, 0) ::
  (917, .aload_n 0, 1, 0, 0, 0) ::
  (918, .iload_n 3, 1, 3, 0, 0) ::
  (919, .iconst 1, 1, 0, 0, 1) ::
  (920, .iadd, 1, 0, 0, 0) ::
  (921, .iaload, 1, 0, 1, 0) ::
  (922, .aload_n 0, 1, 0, 0, 0) ::
  (923, .iload_n 3, 1, 3, 0, 0) ::
  (924, .iconst 2, 1, 0, 0, 2) ::
  (925, .iadd, 1, 0, 0, 0) ::
  (926, .iaload, 1, 0, 1, 0) ::
  (927, .aload_n 0, 1, 0, 0, 0) ::
  (928, .iload_n 3, 1, 3, 0, 0) ::
  (929, .iconst 3, 1, 0, 0, 3) ::
  (930, .iadd, 1, 0, 0, 0) ::
  (931, .iaload, 1, 0, 1, 0) ::
  (932, .aload_n 0, 1, 0, 0, 0) ::
  (933, .iload_n 3, 1, 3, 0, 0) ::
  (934, .iconst 4, 1, 0, 0, 4) ::
  (935, .iadd, 1, 0, 0, 0) ::
  (936, .iaload, 1, 0, 1, 0) ::
  (937, .aload_n 0, 1, 0, 0, 0) ::
  (938, .iload_n 3, 1, 3, 0, 0) ::
  (939, .iconst 5, 1, 0, 0, 5) ::
  (940, .iadd, 1, 0, 0, 0) ::
  (941, .iaload, 1, 0, 1, 0) ::
  (942, .invokevirtual 88, 3, 242, 22, 1) ::
  (945, .if_icmp .eq 1015, 3, 1960, 0, 0) ::
  (948, .iconst 0, 1, 0, 0, 0) ::
  (949, .ireturn, 1, 1, 0, 0) ::
  (950, .aload_n 1, 1, 1, 0, 0) ::
  (951, .aload_n 0, 1, 0, 0, 0) ::
  (952, .iload_n 3, 1, 3, 0, 0) ::
  (953, .iconst 1, 1, 0, 0, 1) ::
  (954, .iadd, 1, 0, 0, 0) ::
  (955, .iaload, 1, 0, 1, 0) ::
  (956, .aload_n 0, 1, 0, 0, 0) ::
  (957, .iload_n 3, 1, 3, 0, 0) ::
  (958, .iconst 2, 1, 0, 0, 2) ::
  (959, .iadd, 1, 0, 0, 0) ::
  (960, .iaload, 1, 0, 1, 0) ::
  (961, .aload_n 0, 1, 0, 0, 0) ::
  (962, .iload_n 3, 1, 3, 0, 0) ::
  (963, .iconst 3, 1, 0, 0, 3) ::
  (964, .iadd, 1, 0, 0, 0) ::
  (965, .iaload, 1, 0, 1, 0) ::
  (966, .invokevirtual 89, 3, 108, 0, 2) ::
  (969, .aload_n 2, 1, 2, 0, 0) ::
  (970, .aload_n 0, 1, 0, 0, 0) ::
  (971, .iload_n 3, 1, 3, 0, 0) ::
  (972, .iconst 1, 1, 0, 0, 1) ::
  (973, .iadd, 1, 0, 0, 0) ::
  (974, .iaload, 1, 0, 1, 0) ::
  (975, .aload_n 0, 1, 0, 0, 0) ::
  (976, .iload_n 3, 1, 3, 0, 0) ::
  (977, .iconst 2, 1, 0, 0, 2) ::
  (978, .iadd, 1, 0, 0, 0) ::
  (979, .iaload, 1, 0, 1, 0) ::
  (980, .aload_n 0, 1, 0, 0, 0) ::
  (981, .iload_n 3, 1, 3, 0, 0) ::
  (982, .iconst 3, 1, 0, 0, 3) ::
  (983, .iadd, 1, 0, 0, 0) ::
  (984, .iaload, 1, 0, 1, 0) ::
  (985, .invokevirtual 93, 3, 246, 22, 2) ::
  (988, .lcmp, 1, 0, 0, 0) ::
  (989, .ifCond .eq 971, 3, 1960, 0, 0) ::
  r_278_x992
def r_278_x624 : List ax_E :=
  (624, .aload_n 0, 1, 0, 0, 0) ::
  (625, .iload_n 3, 1, 3, 0, 0) ::
  (626, .iconst 2, 1, 0, 0, 2) ::
  (627, .iadd, 1, 0, 0, 0) ::
  (628, .iaload, 1, 0, 1, 0) ::
  (629, .invokevirtual 59, 3, 62, 0, 1) ::
  (632, .aload_n 2, 1, 2, 0, 0) ::
  (633, .aload_n 0, 1, 0, 0, 0) ::
  (634, .iload_n 3, 1, 3, 0, 0) ::
  (635, .iconst 1, 1, 0, 0, 1) ::
  (636, .iadd, 1, 0, 0, 0) ::
  (637, .iaload, 1, 0, 1, 0) ::
  (638, .aload_n 0, 1, 0, 0, 0) ::
  (639, .iload_n 3, 1, 3, 0, 0) ::
  (640, .iconst 2, 1, 0, 0, 2) ::
  (641, .iadd, 1, 0, 0, 0) ::
  (642, .iaload, 1, 0, 1, 0) ::
  (643, .invokevirtual 62, 3, 213, 22, 1) ::
  (646, .if_icmp .eq 1314, 3, 1960, 0, 0) ::
  (649, .iconst 0, 1, 0, 0, 0) ::
  (650, .ireturn, 1, 1, 0, 0) ::
  (651, .aload_n 1, 1, 1, 0, 0) ::
  (652, .aload_n 0, 1, 0, 0, 0) ::
  (653, .iload_n 3, 1, 3, 0, 0) ::
  (654, .iconst 1, 1, 0, 0, 1) ::
  (655, .iadd, 1, 0, 0, 0) ::
  (656, .iaload, 1, 0, 1, 0) ::
  (657, .aload_n 0, 1, 0, 0, 0) ::
  (658, .iload_n 3, 1, 3, 0, 0) ::
  (659, .iconst 2, 1, 0, 0, 2) ::
  (660, .iadd, 1, 0, 0, 0) ::
  (661, .iaload, 1, 0, 1, 0) ::
  (662, .aload_n 0, 1, 0, 0, 0) ::
  (663, .iload_n 3, 1, 3, 0, 0) ::
  (664, .iconst 3, 1, 0, 0, 3) ::
  (665, .iadd, 1, 0, 0, 0) ::
  (666, .iaload, 1, 0, 1, 0) ::
  (667, .invokevirtual 63, 3, 69, 0, 1) ::
  (670, .aload_n 2, 1, 2, 0, 0) ::
  (671, .aload_n 0, 1, 0, 0, 0) ::
  (672, .iload_n 3, 1, 3, 0, 0) ::
  (673, .iconst 1, 1, 0, 0, 1) ::
  (674, .iadd, 1, 0, 0, 0) ::
  (675, .iaload, 1, 0, 1, 0) ::
  (676, .aload_n 0, 1, 0, 0, 0) ::
  (677, .iload_n 3, 1, 3, 0, 0) ::
  (678, .iconst 2, 1, 0, 0, 2) ::
  (679, .iadd, 1, 0, 0, 0) ::
  (680, .iaload, 1, 0, 1, 0) ::
  (681, .aload_n 0, 1, 0, 0, 0) ::
  (682, .iload_n 3, 1, 3, 0, 0) ::
  (683, .iconst 3, 1, 0, 0, 3) ::
  (684, .iadd, 1, 0, 0, 0) ::
  (685, .iaload, 1, 0, 1, 0) ::
  (686, .invokevirtual 66, 3, 220, 22, 1) ::
  (689, .if_icmp .eq 1271, 3, 1960, 0, 0) ::
  (692, .iconst 0, 1, 0, 0, 0) ::
  (693, .ireturn, 1, 1, 0, 0) ::
  (694, .aload_n 1, 1, 1, 0, 0) ::
  (695, .aload_n 0, 1, 0, 0, 0) ::
  (696, .iload_n 3, 1, 3, 0, 0) ::
  (697, .iconst 1, 1, 0, 0, 1) ::
  (698, .iadd, 1, 0, 0, 0) ::
  (699, .iaload, 1, 0, 1, 0) ::
  (700, .aload_n 0, 1, 0, 0, 0) ::
  (701, .iload_n 3, 1, 3, 0, 0) ::
  (702, .iconst 2, 1, 0, 0, 2) ::
  (703, .iadd, 1, 0, 0, 0) ::
  (704, .iaload, 1, 0, 1, 0) ::
  (705, .aload_n 0, 1, 0, 0, 0) ::
  (706, .iload_n 3, 1, 3, 0, 0) ::
  (707, .iconst 3, 1, 0, 0, 3) ::
  (708, .iadd, 1, 0, 0, 0) ::
  (709, .iaload, 1, 0, 1, 0) ::
  (710, .invokevirtual 67, 3, 85, 0, 1) ::
  (713, .aload_n 2, 1, 2, 0, 0) ::
  (714, .aload_n 0, 1, 0, 0, 0) ::
  (715, .iload_n 3, 1, 3, 0, 0) ::
  (716, .iconst 1, 1, 0, 0, 1) ::
  (717, .iadd, 1, 0, 0, 0) ::
  (718, .iaload, 1, 0, 1, 0) ::
  (719, .aload_n 0, 1, 0, 0, 0) ::
  (720, .iload_n 3, 1, 3, 0, 0) ::
  (721, .iconst 2, 1, 0, 0, 2) ::
  (722, .iadd, 1, 0, 0, 0) ::
  (723, .iaload, 1, 0, 1, 0) ::
  (724, .aload_n 0, 1, 0, 0, 0) ::
  (725, .iload_n 3, 1, 3, 0, 0) ::
  (726, .iconst 3, 1, 0, 0, 3) ::
  (727, .iadd, 1, 0, 0, 0) ::
  (728, .iaload, 1, 0, 1, 0) ::
  (729, .invokevirtual 70, 3, 237, 22, 1) ::
  (732, .if_icmp .eq 1228, 3, 1960, 0, 0) ::
  (735, .iconst 0, 1, 0, 0, 0) ::
  (736, .ireturn, 1, 1, 0, 0) ::
  (737, .aload_n 1, 1, 1, 0, 0) ::
  (738, .aload_n 0, 1, 0, 0, 0) ::
  (739, .iload_n 3, 1, 3, 0, 0) ::
  (740, .iconst 1, 1, 0, 0, 1) ::
  (741, .iadd, 1, 0, 0, 0) ::
  (742, .iaload, 1, 0, 1, 0) ::
  (743, .aload_n 0, 1, 0, 0, 0) ::
  (744, .iload_n 3, 1, 3, 0, 0) ::
  (745, .iconst 2, 1, 0, 0, 2) ::
  (746, .iadd, 1, 0, 0, 0) ::
  (747, .iaload, 1, 0, 1, 0) ::
  (748, .invokevirtual 71, 3, 87, 0, 2) ::
  (751, .aload_n 2, 1, 2, 0, 0) ::
  (752, .aload_n 0, 1, 0, 0, 0) ::
  (753, .iload_n 3, 1, 3, 0, 0) ::
  (754, .iconst 1, 1, 0, 0, 1) ::
  (755, .iadd, 1, 0, 0, 0) ::
  (756, .iaload, 1, 0, 1, 0) ::
  (757, .aload_n 0, 1, 0, 0, 0) ::
  (758, .iload_n 3, 1, 3, 0, 0) ::
  (759, .iconst 2, 1, 0, 0, 2) ::
  (760, .iadd, 1, 0, 0, 0) ::
  (761, .iaload, 1, 0, 1, 0) ::
  (762, .invokevirtual 75, 3, 238, 22, 2) ::
  (765, .lcmp, 1, 0, 0, 0) ::
  (766, .ifCond .eq 1194, 3, 1960, 0, 0) ::
  (769, .iconst 0, 1, 0, 0, 0) ::
  (770, .ireturn, 1, 1, 0, 0) ::
  (771, .aload_n 1, 1, 1, 0, 0) ::
  (772, .aload_n 0, 1, 0, 0, 0) ::
  (773, .iload_n 3, 1, 3, 0, 0) ::
  (774, .iconst 1, 1, 0, 0, 1) ::
  (775, .iadd, 1, 0, 0, 0) ::
  (776, .iaload, 1, 0, 1, 0) ::
  (777, .aload_n 0, 1, 0, 0, 0) ::
  (778, .iload_n 3, 1, 3, 0, 0) ::
  (779, .iconst 2, 1, 0, 0, 2) ::
  (780, .iadd, 1, 0, 0, 0) ::
  (781, .iaload, 1, 0, 1, 0) ::
  (782, .aload_n 0, 1, 0, 0, 0) ::
  (783, .iload_n 3, 1, 3, 0, 0) ::
  (784, .iconst 3, 1, 0, 0, 3) ::
  (785, .iadd, 1, 0, 0, 0) ::
  (786, .iaload, 1, 0, 1, 0) ::
  (787, .aload_n 0, 1, 0, 0, 0) ::
  (788, .iload_n 3, 1, 3, 0, 0) ::
  (789, .iconst 4, 1, 0, 0, 4) ::
  (790, .iadd, 1, 0, 0, 0) ::
  (791, .iaload, 1, 0, 1, 0) ::
  (792, .invokevirtual 76, 3, 90, 0, 1) ::
  (795, .aload_n 2, 1, 2, 0, 0) ::
  (796, .aload_n 0, 1, 0, 0, 0) ::
  (797, .iload_n 3, 1, 3, 0, 0) ::
  (798, .iconst 1, 1, 0, 0, 1) ::
  (799, .iadd, 1, 0, 0, 0) ::
  (800, .iaload, 1, 0, 1, 0) ::
  (801, .aload_n 0, 1, 0, 0, 0) ::
  (802, .iload_n 3, 1, 3, 0, 0) ::
  (803, .iconst 2, 1, 0, 0, 2) ::
  (804, .iadd, 1, 0, 0, 0) ::
  (805, .iaload, 1, 0, 1, 0) ::
  (806, .aload_n 0, 1, 0, 0, 0) ::
  (807, .iload_n 3, 1, 3, 0, 0) ::
  (808, .iconst 3, 1, 0, 0, 3) ::
  (809, .iadd, 1, 0, 0, 0) ::
  r_278_x810
def r_278_x434 : List ax_E :=
  (434, .aload_n 0, 1, 0, 0, 0) ::
  (435, .iload_n 3, 1, 3, 0, 0) ::
  (436, .iconst 5, 1, 0, 0, 5) ::
  (437, .iadd, 1, 0, 0, 0) ::
  (438, .iaload, 1, 0, 1, 0) ::
  (439, .invokevirtual 37, 3, 29, 0, 1) ::
  (442, .aload_n 2, 1, 2, 0, 0) ::
  (443, .aload_n 0, 1, 0, 0, 0) ::
  (444, .iload_n 3, 1, 3, 0, 0) ::
  (445, .iconst 1, 1, 0, 0, 1) ::
  (446, .iadd, 1, 0, 0, 0) ::
  (447, .iaload, 1, 0, 1, 0) ::
  (448, .aload_n 0, 1, 0, 0, 0) ::
  (449, .iload_n 3, 1, 3, 0, 0) ::
  (450, .iconst 2, 1, 0, 0, 2) ::
  (451, .iadd, 1, 0, 0, 0) ::
  (452, .iaload, 1, 0, 1, 0) ::
  (453, .aload_n 0, 1, 0, 0, 0) ::
  (454, .iload_n 3, 1, 3, 0, 0) ::
  (455, .iconst 3, 1, 0, 0, 3) ::
  (456, .iadd, 1, 0, 0, 0) ::
  (457, .iaload, 1, 0, 1, 0) ::
  (458, .aload_n 0, 1, 0, 0, 0) ::
  (459, .iload_n 3, 1, 3, 0, 0) ::
  (460, .iconst 4, 1, 0, 0, 4) ::
  (461, .iadd, 1, 0, 0, 0) ::
  (462, .iaload, 1, 0, 1, 0) ::
  (463, .aload_n 0, 1, 0, 0, 0) ::
  (464, .iload_n 3, 1, 3, 0, 0) ::
  (465, .iconst 5, 1, 0, 0, 5) ::
  (466, .iadd, 1, 0, 0, 0) ::
  (467, .iaload, 1, 0, 1, 0) ::
  (468, .invokevirtual 40, 3, 182, 22, 1) ::
  (471, .if_icmp .eq 1489, 3, 1960, 0, 0) ::
  (474, .iconst 0, 1, 0, 0, 0) ::
  (475, .ireturn, 1, 1, 0, 0) ::
  (476, .aload_n 1, 1, 1, 0, 0) ::
  (477, .aload_n 0, 1, 0, 0, 0) ::
  (478, .iload_n 3, 1, 3, 0, 0) ::
  (479, .iconst 1, 1, 0, 0, 1) ::
  (480, .iadd, 1, 0, 0, 0) ::
  (481, .iaload, 1, 0, 1, 0) ::
  (482, .aload_n 0, 1, 0, 0, 0) ::
  (483, .iload_n 3, 1, 3, 0, 0) ::
  (484, .iconst 2, 1, 0, 0, 2) ::
  (485, .iadd, 1, 0, 0, 0) ::
  (486, .iaload, 1, 0, 1, 0) ::
  (487, .aload_n 0, 1, 0, 0, 0) ::
  (488, .iload_n 3, 1, 3, 0, 0) ::
  (489, .iconst 3, 1, 0, 0, 3) ::
  (490, .iadd, 1, 0, 0, 0) ::
  (491, .iaload, 1, 0, 1, 0) ::
  (492, .invokevirtual 41, 3, 32, 0, 1) ::
  (495, .aload_n 2, 1, 2, 0, 0) ::
  (496, .aload_n 0, 1, 0, 0, 0) ::
  (497, .iload_n 3, 1, 3, 0, 0) ::
  (498, .iconst 1, 1, 0, 0, 1) ::
  (499, .iadd, 1, 0, 0, 0) ::
  (500, .iaload, 1, 0, 1, 0) ::
  (501, .aload_n 0, 1, 0, 0, 0) ::
  (502, .iload_n 3, 1, 3, 0, 0) ::
  (503, .iconst 2, 1, 0, 0, 2) ::
  (504, .iadd, 1, 0, 0, 0) ::
  (505, .iaload, 1, 0, 1, 0) ::
  (506, .aload_n 0, 1, 0, 0, 0) ::
  (507, .iload_n 3, 1, 3, 0, 0) ::
  (508, .iconst 3, 1, 0, 0, 3) ::
  (509, .iadd, 1, 0, 0, 0) ::
  (510, .iaload, 1, 0, 1, 0) ::
  (511, .invokevirtual 44, 3, 184, 22, 1) ::
  (514, .if_icmp .eq 1446, 3, 1960, 0, 0) ::
  (517, .iconst 0, 1, 0, 0, 0) ::
  (518, .ireturn, 1, 1, 0, 0) ::
  (519, .aload_n 1, 1, 1, 0, 0) ::
  (520, .aload_n 0, 1, 0, 0, 0) ::
  (521, .iload_n 3, 1, 3, 0, 0) ::
  (522, .iconst 1, 1, 0, 0, 1) ::
  (523, .iadd, 1, 0, 0, 0) ::
  (524, .iaload, 1, 0, 1, 0) ::
  (525, .aload_n 0, 1, 0, 0, 0) ::
  (526, .iload_n 3, 1, 3, 0, 0) ::
  (527, .iconst 2, 1, 0, 0, 2) ::
  (528, .iadd, 1, 0, 0, 0) ::
  (529, .iaload, 1, 0, 1, 0) ::
  (530, .aload_n 0, 1, 0, 0, 0) ::
  (531, .iload_n 3, 1, 3, 0, 0) ::
  (532, .iconst 3, 1, 0, 0, 3) ::
  (533, .iadd, 1, 0, 0, 0) ::
  (534, .iaload, 1, 0, 1, 0) ::
  (535, .aload_n 0, 1, 0, 0, 0) ::
  (536, .iload_n 3, 1, 3, 0, 0) ::
  (537, .iconst 4, 1, 0, 0, 4) ::
  (538, .iadd, 1, 0, 0, 0) ::
  (539, .iaload, 1, 0, 1, 0) ::
  (540, .aload_n 0, 1, 0, 0, 0) ::
  (541, .iload_n 3, 1, 3, 0, 0) ::
  (542, .iconst 5, 1, 0, 0, 5) ::
  (543, .iadd, 1, 0, 0, 0) ::
  (544, .iaload, 1, 0, 1, 0) ::
  (545, .invokevirtual 45, 3, 34, 0, 1) ::
  (548, .aload_n 2, 1, 2, 0, 0) ::
  (549, .aload_n 0, 1, 0, 0, 0) ::
  (550, .iload_n 3, 1, 3, 0, 0) ::
  (551, .iconst 1, 1, 0, 0, 1) ::
  (552, .iadd, 1, 0, 0, 0) ::
  (553, .iaload, 1, 0, 1, 0) ::
  (554, .aload_n 0, 1, 0, 0, 0) ::
  (555, .iload_n 3, 1, 3, 0, 0) ::
  (556, .iconst 2, 1, 0, 0, 2) ::
  (557, .iadd, 1, 0, 0, 0) ::
  (558, .iaload, 1, 0, 1, 0) ::
  (559, .aload_n 0, 1, 0, 0, 0) ::
  (560, .iload_n 3, 1, 3, 0, 0) ::
  (561, .iconst 3, 1, 0, 0, 3) ::
  (562, .iadd, 1, 0, 0, 0) ::
  (563, .iaload, 1, 0, 1, 0) ::
  (564, .aload_n 0, 1, 0, 0, 0) ::
  (565, .iload_n 3, 1, 3, 0, 0) ::
  (566, .iconst 4, 1, 0, 0, 4) ::
  (567, .iadd, 1, 0, 0, 0) ::
  (568, .iaload, 1, 0, 1, 0) ::
  (569, .aload_n 0, 1, 0, 0, 0) ::
  (570, .iload_n 3, 1, 3, 0, 0) ::
  (571, .iconst 5, 1, 0, 0, 5) ::
  (572, .iadd, 1, 0, 0, 0) ::
  (573, .iaload, 1, 0, 1, 0) ::
  (574, .invokevirtual 48, 3, 186, 22, 1) ::
  (577, .if_icmp .eq 1383, 3, 1960, 0, 0) ::
  (580, .iconst 0, 1, 0, 0, 0) ::
  (581, .ireturn, 1, 1, 0, 0) ::
  (582, .aload_n 1, 1, 1, 0, 0) ::
  (583, .aload_n 0, 1, 0, 0, 0) ::
  (584, .iload_n 3, 1, 3, 0, 0) ::
  (585, .iconst 1, 1, 0, 0, 1) ::
  (586, .iadd, 1, 0, 0, 0) ::
  (587, .iaload, 1, 0, 1, 0) ::
  (588, .invokevirtual 49, 3, 35, 0, 1) ::
  (591, .aload_n 2, 1, 2, 0, 0) ::
  (592, .aload_n 0, 1, 0, 0, 0) ::
  (593, .iload_n 3, 1, 3, 0, 0) ::
  (594, .iconst 1, 1, 0, 0, 1) ::
  (595, .iadd, 1, 0, 0, 0) ::
  (596, .iaload, 1, 0, 1, 0) ::
  (597, .invokevirtual 53, 3, 187, 22, 1) ::
  (600, .if_icmp .eq 1360, 3, 1960, 0, 0) ::
  (603, .iconst 0, 1, 0, 0, 0) ::
  (604, .ireturn, 1, 1, 0, 0) ::
  (605, .aload_n 1, 1, 1, 0, 0) ::
  (606, .invokevirtual 54, 3, 60, 0, 1) ::
  (609, .aload_n 2, 1, 2, 0, 0) ::
  (610, .invokevirtual 58, 3, 210, 22, 1) ::
  (613, .if_icmp .eq 1347, 3, 1960, 0, 0) ::
  (616, .iconst 0, 1, 0, 0, 0) ::
  (617, .ireturn, 1, 1, 0, 0) ::
  (618, .aload_n 1, 1, 1, 0, 0) ::
  (619, .aload_n 0, 1, 0, 0, 0) ::
  (620, .iload_n 3, 1, 3, 0, 0) ::
  (621, .iconst 1, 1, 0, 0, 1) ::
  (622, .iadd, 1, 0, 0, 0) ::
  (623, .iaload, 1, 0, 1, 0) ::
  r_278_x624
def r_278_x252 : List ax_E :=
  (252, .iload_n 3, 1, 3, 0, 0) ::
  (253, .iconst 1, 1, 0, 0, 1) ::
  (254, .iadd, 1, 0, 0, 0) ::
  (255, .iaload, 1, 0, 1, 0) ::
  (256, .aload_n 0, 1, 0, 0, 0) ::
  (257, .iload_n 3, 1, 3, 0, 0) ::
  (258, .iconst 2, 1, 0, 0, 2) ::
  (259, .iadd, 1, 0, 0, 0) ::
  (260, .iaload, 1, 0, 1, 0) ::
  (261, .aload_n 0, 1, 0, 0, 0) ::
  (262, .iload_n 3, 1, 3, 0, 0) ::
  (263, .iconst 3, 1, 0, 0, 3) ::
  (264, .iadd, 1, 0, 0, 0) ::
  (265, .iaload, 1, 0, 1, 0) ::
  (266, .invokevirtual 22, 3, 176, 22, 1) ::
  (269, .if_icmp .eq 1691, 3, 1960, 0, 0) ::
  (272, .iconst 0, 1, 0, 0, 0) ::
  (273, .ireturn, 1, 1, 0, 0) ::
  (274, .aload_n 1, 1, 1, 0, 0) ::
  (275, .aload_n 0, 1, 0, 0, 0) ::
  (276, .iload_n 3, 1, 3, 0, 0) ::
  (277, .iconst 1, 1, 0, 0, 1) ::
  (278, .iadd, 1, 0, 0, 0) ::
  (279, .iaload, 1, 0, 1, 0) ::
  (280, .aload_n 0, 1, 0, 0, 0) ::
  (281, .iload_n 3, 1, 3, 0, 0) ::
  (282, .iconst 2, 1, 0, 0, 2) ::
  (283, .iadd, 1, 0, 0, 0) ::
  (284, .iaload, 1, 0, 1, 0) ::
  (285, .invokevirtual 23, 3, 16, 0, 1) ::
  (288, .aload_n 2, 1, 2, 0, 0) ::
  (289, .aload_n 0, 1, 0, 0, 0) ::
  (290, .iload_n 3, 1, 3, 0, 0) ::
  (291, .iconst 1, 1, 0, 0, 1) ::
  (292, .iadd, 1, 0, 0, 0) ::
  (293, .iaload, 1, 0, 1, 0) ::
  (294, .aload_n 0, 1, 0, 0, 0) ::
  (295, .iload_n 3, 1, 3, 0, 0) ::
  (296, .iconst 2, 1, 0, 0, 2) ::
  (297, .iadd, 1, 0, 0, 0) ::
  (298, .iaload, 1, 0, 1, 0) ::
  (299, .invokevirtual 27, 3, 177, 22, 1) ::
  (302, .if_icmp .eq 1658, 3, 1960, 0, 0) ::
  (305, .iconst 0, 1, 0, 0, 0) ::
  (306, .ireturn, 1, 1, 0, 0) ::
  (307, .aload_n 1, 1, 1, 0, 0) ::
  (308, .aload_n 0, 1, 0, 0, 0) ::
  (309, .iload_n 3, 1, 3, 0, 0) ::
  (310, .iconst 1, 1, 0, 0, 1) ::
  (311, .iadd, 1, 0, 0, 0) ::
  (312, .iaload, 1, 0, 1, 0) ::
  (313, .aload_n 0, 1, 0, 0, 0) ::
  (314, .iload_n 3, 1, 3, 0, 0) ::
  (315, .iconst 2, 1, 0, 0, 2) ::
  (316, .iadd, 1, 0, 0, 0) ::
  (317, .iaload, 1, 0, 1, 0) ::
  (318, .aload_n 0, 1, 0, 0, 0) ::
  (319, .iload_n 3, 1, 3, 0, 0) ::
  (320, .iconst 3, 1, 0, 0, 3) ::
  (321, .iadd, 1, 0, 0, 0) ::
  (322, .iaload, 1, 0, 1, 0) ::
  (323, .invokevirtual 28, 3, 19, 0, 1) ::
  (326, .aload_n 2, 1, 2, 0, 0) ::
  (327, .aload_n 0, 1, 0, 0, 0) ::
  (328, .iload_n 3, 1, 3, 0, 0) ::
  (329, .iconst 1, 1, 0, 0, 1) ::
  (330, .iadd, 1, 0, 0, 0) ::
  (331, .iaload, 1, 0, 1, 0) ::
  (332, .aload_n 0, 1, 0, 0, 0) ::
  (333, .iload_n 3, 1, 3, 0, 0) ::
  (334, .iconst 2, 1, 0, 0, 2) ::
  (335, .iadd, 1, 0, 0, 0) ::
  (336, .iaload, 1, 0, 1, 0) ::
  (337, .aload_n 0, 1, 0, 0, 0) ::
  (338, .iload_n 3, 1, 3, 0, 0) ::
  (339, .iconst 3, 1, 0, 0, 3) ::
  (340, .iadd, 1, 0, 0, 0) ::
  (341, .iaload, 1, 0, 1, 0) ::
  (342, .invokevirtual 31, 3, 178, 22, 1) ::
  (345, .if_icmp .eq 1615, 3, 1960, 0, 0) ::
  (348, .iconst 0, 1, 0, 0, 0) ::
  (349, .ireturn, 1, 1, 0, 0) ::
  (350, .aload_n 1, 1, 1, 0, 0) ::
  (351, .aload_n 0, 1, 0, 0, 0) ::
  (352, .iload_n 3, 1, 3, 0, 0) ::
  (353, .iconst 1, 1, 0, 0, 1) ::
  (354, .iadd, 1, 0, 0, 0) ::
  (355, .iaload, 1, 0, 1, 0) ::
  (356, .aload_n 0, 1, 0, 0, 0) ::
  (357, .iload_n 3, 1, 3, 0, 0) ::
  (358, .iconst 2, 1, 0, 0, 2) ::
  (359, .iadd, 1, 0, 0, 0) ::
  (360, .iaload, 1, 0, 1, 0) ::
  (361, .aload_n 0, 1, 0, 0, 0) ::
  (362, .iload_n 3, 1, 3, 0, 0) ::
  (363, .iconst 3, 1, 0, 0, 3) ::
  (364, .iadd, 1, 0, 0, 0) ::
  (365, .iaload, 1, 0, 1, 0) ::
  (366, .aload_n 0, 1, 0, 0, 0) ::
  (367, .iload_n 3, 1, 3, 0, 0) ::
  (368, .iconst 4, 1, 0, 0, 4) ::
  (369, .iadd, 1, 0, 0, 0) ::
  (370, .iaload, 1, 0, 1, 0) ::
  (371, .aload_n 0, 1, 0, 0, 0) ::
  (372, .iload_n 3, 1, 3, 0, 0) ::
  (373, .iconst 5, 1, 0, 0, 5) ::
  (374, .iadd, 1, 0, 0, 0) ::
  (375, .iaload, 1, 0, 1, 0) ::
  (376, .invokevirtual 32, 3, 25, 0, 1) ::
  (379, .aload_n 2, 1, 2, 0, 0) ::
  (380, .aload_n 0, 1, 0, 0, 0) ::
  (381, .iload_n 3, 1, 3, 0, 0) ::
  (382, .iconst 1, 1, 0, 0, 1) ::
  (383, .iadd, 1, 0, 0, 0) ::
  (384, .iaload, 1, 0, 1, 0) ::
  (385, .aload_n 0, 1, 0, 0, 0) ::
  (386, .iload_n 3, 1, 3, 0, 0) ::
  (387, .iconst 2, 1, 0, 0, 2) ::
  (388, .iadd, 1, 0, 0, 0) ::
  (389, .iaload, 1, 0, 1, 0) ::
  (390, .aload_n 0, 1, 0, 0, 0) ::
  (391, .iload_n 3, 1, 3, 0, 0) ::
  (392, .iconst 3, 1, 0, 0, 3) ::
  (393, .iadd, 1, 0, 0, 0) ::
  (394, .iaload, 1, 0, 1, 0) ::
  (395, .aload_n 0, 1, 0, 0, 0) ::
  (396, .iload_n 3, 1, 3, 0, 0) ::
  (397, .iconst 4, 1, 0, 0, 4) ::
  (398, .iadd, 1, 0, 0, 0) ::
  (399, .iaload, 1, 0, 1, 0) ::
  (400, .aload_n 0, 1, 0, 0, 0) ::
  (401, .iload_n 3, 1, 3, 0, 0) ::
  (402, .iconst 5, 1, 0, 0, 5) ::
  (403, .iadd, 1, 0, 0, 0) ::
  (404, .iaload, 1, 0, 1, 0) ::
  (405, .invokevirtual 36, 3, 179, 22, 1) ::
  (408, .if_icmp .eq 1552, 3, 1960, 0, 0) ::
  (411, .iconst 0, 1, 0, 0, 0) ::
  (412, .ireturn, 1, 1, 0, 0) ::
  (413, .aload_n 1, 1, 1, 0, 0) ::
  (414, .aload_n 0, 1, 0, 0, 0) ::
  (415, .iload_n 3, 1, 3, 0, 0) ::
  (416, .iconst 1, 1, 0, 0, 1) ::
  (417, .iadd, 1, 0, 0, 0) ::
  (418, .iaload, 1, 0, 1, 0) ::
  (419, .aload_n 0, 1, 0, 0, 0) ::
  (420, .iload_n 3, 1, 3, 0, 0) ::
  (421, .iconst 2, 1, 0, 0, 2) ::
  (422, .iadd, 1, 0, 0, 0) ::
  (423, .iaload, 1, 0, 1, 0) ::
  (424, .aload_n 0, 1, 0, 0, 0) ::
  (425, .iload_n 3, 1, 3, 0, 0) ::
  (426, .iconst 3, 1, 0, 0, 3) ::
  (427, .iadd, 1, 0, 0, 0) ::
  (428, .iaload, 1, 0, 1, 0) ::
  (429, .aload_n 0, 1, 0, 0, 0) ::
  (430, .iload_n 3, 1, 3, 0, 0) ::
  (431, .iconst 4, 1, 0, 0, 4) ::
  (432, .iadd, 1, 0, 0, 0) ::
  (433, .iaload, 1, 0, 1, 0) ::
  r_278_x434
def r_278_18 : List ax_E :=
  (18, .iload_n 3, 1, 3, 0, 0) ::
  (19, .aload_n 0, 1, 0, 0, 0) ::
  (20, .arraylength, 1, 0, 1, 0) ::
  (21, .bipush 7, 2, 0, 0, 7) ::
  (23, .isub, 1, 0, 0, 0) ::
  (24, .if_icmp .gt 1942, 3, 1966, 0, 0) ::
  (27, .aload_n 0, 1, 0, 0, 0) ::
  (28, .iload_n 3, 1, 3, 0, 0) ::
  (29, .iaload, 1, 0, 1, 0) ::
  (30, .bipush 63, 2, 0, 0, 63) ::
  (32, .iand, 1, 0, 0, 0) ::
  (33, .tableswitch 1927 0 39 #[175, 198, 241, 274, 317, 380, 443, 486, 549, 572, 585, 618, 661, 704, 738, 791, 854, 917, 961, 994, 1037, 1070, 1103, 1157, 1210, 1273, 1306, 1365, 1398, 1431, 1506, 1549, 1612, 1665, 1718, 1762, 1805, 1858, 1881, 1904], 175, 0, 0, 0) ::
  (208, .aload_n 1, 1, 1, 0, 0) ::
  (209, .aload_n 0, 1, 0, 0, 0) ::
  (210, .iload_n 3, 1, 3, 0, 0) ::
  (211, .iconst 1, 1, 0, 0, 1) ::
  (212, .iadd, 1, 0, 0, 0) ::
  (213, .iaload, 1, 0, 1, 0) ::
  (214, .invokevirtual 13, 3, 10, 0, 1) ::
  (217, .aload_n 2, 1, 2, 0, 0) ::
  (218, .aload_n 0, 1, 0, 0, 0) ::
  (219, .iload_n 3, 1, 3, 0, 0) ::
  (220, .iconst 1, 1, 0, 0, 1) ::
  (221, .iadd, 1, 0, 0, 0) ::
  (222, .iaload, 1, 0, 1, 0) ::
  (223, .invokevirtual 17, 3, 171, 22, 1) ::
  (226, .if_icmp .eq 1734, 3, 1960, 0, 0) ::
  (229, .iconst 0, 1, 0, 0, 0) ::
  (230, .ireturn, 1, 1, 0, 0) ::
  (231, .aload_n 1, 1, 1, 0, 0) ::
  (232, .aload_n 0, 1, 0, 0, 0) ::
  (233, .iload_n 3, 1, 3, 0, 0) ::
  (234, .iconst 1, 1, 0, 0, 1) ::
  (235, .iadd, 1, 0, 0, 0) ::
  (236, .iaload, 1, 0, 1, 0) ::
  (237, .aload_n 0, 1, 0, 0, 0) ::
  (238, .iload_n 3, 1, 3, 0, 0) ::
  (239, .iconst 2, 1, 0, 0, 2) ::
  (240, .iadd, 1, 0, 0, 0) ::
  (241, .iaload, 1, 0, 1, 0) ::
  (242, .aload_n 0, 1, 0, 0, 0) ::
  (243, .iload_n 3, 1, 3, 0, 0) ::
  (244, .iconst 3, 1, 0, 0, 3) ::
  (245, .iadd, 1, 0, 0, 0) ::
  (246, .iaload, 1, 0, 1, 0) ::
  (247, .invokevirtual 18, 3, 13, 0, 1) ::
  (250, .aload_n 2, 1, 2, 0, 0) ::
  (251, .aload_n 0, 1, 0, 0, 0) ::
  r_278_x252
def r_278 : List ax_E :=
  (0, .new 7, 3, 0, 0, 0) ::
  (3, .dup, 1, 0, 0, 0) ::
  (4, .invokespecial 9, 3, 9, 0, 0) ::
  (7, .astore_n 1, 1, 1, 0, 0) ::
  (8, .new 10, 3, 11, 0, 0) ::
  (11, .dup, 1, 0, 0, 0) ::
  (12, .invokespecial 12, 3, 168, 22, 0) ::
  (15, .astore_n 2, 1, 2, 0, 0) ::
  (16, .iconst 0, 1, 0, 0, 0) ::
  (17, .istore_n 3, 1, 3, 0, 0) ::
  (18, .jsr 0, 0, 15, 0, 0) ::
  r_278_18
end
section
/-! the methods by number, printed by wip/gen/rows.py -/
def ax_Rw_0 : List (List ax_E) := [[], [], r_2, r_3, r_4, r_5, r_6, r_7, r_8, r_9, r_10, r_11, r_12, r_13, r_14, r_15, r_16, r_17, r_18, r_19, r_20, r_21, r_22, r_23, r_24, r_25, r_26, r_27, r_28, r_29, r_30, r_31, r_32, r_33, r_34, r_35, r_36, r_37, r_38, r_39]
def ax_Rw_1 : List (List ax_E) := [r_40, r_41, r_42, r_43, r_44, r_45, r_46, r_47, r_48, r_49, r_50, r_51, r_52, r_53, r_54, r_55, r_56, r_57, r_58, r_59, r_60, r_61, r_62, r_63, r_64, r_65, r_66, r_67, r_68, r_69, r_70, r_71, r_72, r_73, r_74, r_75, r_76, r_77, r_78, r_79]
def ax_Rw_2 : List (List ax_E) := [r_80, r_81, r_82, r_83, r_84, r_85, r_86, r_87, r_88, r_89, r_90, r_91, r_92, r_93, r_94, r_95, r_96, r_97, r_98, r_99, r_100, r_101, r_102, r_103, r_104, r_105, r_106, r_107, r_108, r_109, r_110, r_111, r_112, r_113, r_114, r_115, r_116, r_117, r_118, r_119]
def ax_Rw_3 : List (List ax_E) := [r_120, r_121, r_122, r_123, r_124, r_125, r_126, r_127, r_128, r_129, r_130, r_131, r_132, r_133, r_134, r_135, r_136, r_137, r_138, r_139, r_140, r_141, r_142, r_143, r_144, r_145, r_146, r_147, r_148, r_149, r_150, r_151, r_152, r_153, r_154, r_155, r_156, r_157, r_158, r_159]
def ax_Rw_4 : List (List ax_E) := [r_160, r_161, r_162, r_163, r_164, r_165, r_166, r_167, r_168, r_169, r_170, r_171, r_172, r_173, r_174, r_175, r_176, r_177, r_178, r_179, r_180, r_181, r_182, r_183, r_184, r_185, r_186, r_187, r_188, r_189, r_190, r_191, r_192, r_193, r_194, r_195, r_196, r_197, r_198, r_199]
def ax_Rw_5 : List (List ax_E) := [r_200, r_201, r_202, r_203, r_204, r_205, r_206, r_207, r_208, r_209, r_210, r_211, r_212, r_213, r_214, r_215, r_216, r_217, r_218, r_219, r_220, r_221, r_222, r_223, r_224, r_225, r_226, r_227, r_228, r_229, r_230, r_231, r_232, r_233, r_234, r_235, r_236, r_237, r_238, r_239]
def ax_Rw_6 : List (List ax_E) := [r_240, r_241, r_242, r_243, r_244, r_245, r_246, r_247, r_248, r_249, r_250, r_251, r_252, r_253, r_254, r_255, r_256, r_257, r_258, r_259, r_260, r_261, r_262, r_263, r_264, r_265, r_266, r_267, r_268, r_269, r_270, r_271, r_272, r_273, r_274, r_275, r_276, r_277, r_278]
def ax_Rw_l : List (List ax_E) := ax_Rw_0 ++ (ax_Rw_1 ++ (ax_Rw_2 ++ (ax_Rw_3 ++ (ax_Rw_4 ++ (ax_Rw_5 ++ (ax_Rw_6))))))
def ax_rows (N : Nat) : List ax_E := ax_Rw_l.getD N []
def ax_Mi_0 : List (ax_MI) := [(⟨"java/lang/String", "length", "()I"⟩, prog_17_method_54_code, 1, (Option.some Jvm.ClassFile.FieldType.int), 1, 3, 64), (⟨"java/lang/String", "charAt", "(I)C"⟩, prog_17_method_56_code, 2, (Option.some Jvm.ClassFile.FieldType.char), 2, 3, 64), (⟨"BlackSun$Stars", "<init>", "()V"⟩, prog_10_method_1_code, 1, (Option.none : Option Jvm.ClassFile.FieldType), 1, 1, 20), (⟨"BlackSun$Plates", "<init>", "()V"⟩, prog_8_method_1_code, 1, (Option.none : Option Jvm.ClassFile.FieldType), 1, 1, 20), (⟨"BlackSun$Images", "<init>", "()V"⟩, prog_4_method_1_code, 1, (Option.none : Option Jvm.ClassFile.FieldType), 1, 1, 20), (⟨"BlackSun$Book", "<init>", "()V"⟩, prog_2_method_1_code, 2, (Option.none : Option Jvm.ClassFile.FieldType), 1, 2, 40), (⟨"BlackSun$Reader", "<init>", "()V"⟩, prog_9_method_1_code, 1, (Option.none : Option Jvm.ClassFile.FieldType), 1, 1, 20), (⟨"BlackSun$Fit", "<init>", "()V"⟩, prog_3_method_1_code, 1, (Option.none : Option Jvm.ClassFile.FieldType), 1, 1, 20), (⟨"BlackSun$Mix", "<init>", "()V"⟩, prog_6_method_1_code, 1, (Option.none : Option Jvm.ClassFile.FieldType), 1, 1, 20), (⟨"BlackSun", "<init>", "()V"⟩, prog_1_method_1_code, 1, (Option.none : Option Jvm.ClassFile.FieldType), 1, 3, 61), (⟨"BlackSun", "clock", "(I)Z"⟩, prog_1_method_2_code, 2, (Option.some Jvm.ClassFile.FieldType.boolean), 2, 0, 0), (⟨"BlackSun", "isWithin", "(III)Z"⟩, prog_1_method_43_code, 3, (Option.some Jvm.ClassFile.FieldType.boolean), 3, 0, 0), (⟨"BlackSun$Stars", "put", "(III)I"⟩, prog_10_method_2_code, 4, (Option.some Jvm.ClassFile.FieldType.int), 4, 0, 0), (⟨"BlackSun", "star", "(III)I"⟩, prog_1_method_3_code, 5, (Option.some Jvm.ClassFile.FieldType.int), 4, 1, 23), (⟨"BlackSun$Stars", "has", "(I)Z"⟩, prog_10_method_3_code, 2, (Option.some Jvm.ClassFile.FieldType.boolean), 2, 1, 22), (⟨"BlackSun$Stars", "far", "(I)I"⟩, prog_10_method_4_code, 2, (Option.some Jvm.ClassFile.FieldType.int), 2, 0, 0), (⟨"BlackSun", "stars", "(II)I"⟩, prog_1_method_4_code, 3, (Option.some Jvm.ClassFile.FieldType.int), 3, 2, 43), (⟨"BlackSun", "isIsland", "(I)Z"⟩, prog_1_method_47_code, 1, (Option.some Jvm.ClassFile.FieldType.boolean), 1, 1, 22), (⟨"BlackSun$Plates", "put", "(III)I"⟩, prog_8_method_2_code, 4, (Option.some Jvm.ClassFile.FieldType.int), 4, 0, 0), (⟨"BlackSun", "plate", "(III)I"⟩, prog_1_method_5_code, 4, (Option.some Jvm.ClassFile.FieldType.int), 4, 2, 42), (⟨"BlackSun$Plates", "has", "(I)Z"⟩, prog_8_method_3_code, 2, (Option.some Jvm.ClassFile.FieldType.boolean), 2, 1, 22), (⟨"BlackSun", "isHand", "(I)Z"⟩, prog_1_method_46_code, 1, (Option.some Jvm.ClassFile.FieldType.boolean), 1, 1, 22), (⟨"BlackSun$Images", "isKnown", "(II)Z"⟩, prog_4_method_3_code, 3, (Option.some Jvm.ClassFile.FieldType.boolean), 3, 0, 0), (⟨"BlackSun$Images", "find", "(IIII)I"⟩, prog_4_method_4_code, 6, (Option.some Jvm.ClassFile.FieldType.int), 5, 1, 22), (⟨"BlackSun$Images", "put", "(IIIIII)I"⟩, prog_4_method_2_code, 8, (Option.some Jvm.ClassFile.FieldType.int), 7, 2, 47), (⟨"BlackSun", "image", "(IIIII)I"⟩, prog_1_method_6_code, 6, (Option.some Jvm.ClassFile.FieldType.int), 6, 3, 74), (⟨"BlackSun", "isWeek", "(I)Z"⟩, prog_1_method_44_code, 1, (Option.some Jvm.ClassFile.FieldType.boolean), 1, 1, 22), (⟨"BlackSun", "isChoice", "(I)Z"⟩, prog_1_method_49_code, 1, (Option.some Jvm.ClassFile.FieldType.boolean), 1, 0, 0), (⟨"BlackSun$Images", "measured", "(II)I"⟩, prog_4_method_5_code, 3, (Option.some Jvm.ClassFile.FieldType.int), 3, 0, 0), (⟨"BlackSun", "images", "(IIIII)I"⟩, prog_1_method_7_code, 7, (Option.some Jvm.ClassFile.FieldType.int), 6, 2, 47), (⟨"BlackSun", "isTerm", "(I)Z"⟩, prog_1_method_45_code, 1, (Option.some Jvm.ClassFile.FieldType.boolean), 1, 1, 22), (⟨"BlackSun$Stars", "give", "(III)I"⟩, prog_10_method_5_code, 6, (Option.some Jvm.ClassFile.FieldType.int), 4, 0, 0), (⟨"BlackSun", "gives", "(III)I"⟩, prog_1_method_8_code, 4, (Option.some Jvm.ClassFile.FieldType.int), 4, 2, 43), (⟨"BlackSun$Reader", "append", "(I)V"⟩, prog_9_method_2_code, 3, (Option.none : Option Jvm.ClassFile.FieldType), 2, 0, 0), (⟨"BlackSun", "feed", "(IIIII)I"⟩, prog_1_method_9_code, 6, (Option.some Jvm.ClassFile.FieldType.int), 6, 1, 22), (⟨"BlackSun", "end", "(I)I"⟩, prog_1_method_10_code, 2, (Option.some Jvm.ClassFile.FieldType.int), 2, 1, 22), (⟨"BlackSun$Reader", "forget", "()V"⟩, prog_9_method_4_code, 2, (Option.none : Option Jvm.ClassFile.FieldType), 1, 0, 0), (⟨"BlackSun$Reader", "next", "()I"⟩, prog_9_method_22_code, 1, (Option.some Jvm.ClassFile.FieldType.int), 1, 0, 0), (⟨"BlackSun$Reader", "takeWord", "(Ljava/lang/String;)I"⟩, prog_9_method_23_code, 8, (Option.some Jvm.ClassFile.FieldType.int), 2, 4, 85), (⟨"BlackSun$Reader", "fail", "(II)Z"⟩, prog_9_method_25_code, 3, (Option.some Jvm.ClassFile.FieldType.boolean), 3, 0, 0)]
def ax_Mi_1 : List (ax_MI) := [(⟨"BlackSun$Reader", "isDigit", "(I)Z"⟩, prog_9_method_21_code, 1, (Option.some Jvm.ClassFile.FieldType.boolean), 1, 0, 0), (⟨"BlackSun$Reader", "readNumber", "(I)I"⟩, prog_9_method_20_code, 5, (Option.some Jvm.ClassFile.FieldType.int), 2, 1, 22), (⟨"BlackSun$Reader", "readHeld", "(I)Z"⟩, prog_9_method_8_code, 4, (Option.some Jvm.ClassFile.FieldType.boolean), 2, 2, 46), (⟨"BlackSun$Reader", "readTerm", "(I)Z"⟩, prog_9_method_7_code, 4, (Option.some Jvm.ClassFile.FieldType.boolean), 2, 5, 112), (⟨"BlackSun$Reader", "await", "(I)V"⟩, prog_9_method_16_code, 2, (Option.none : Option Jvm.ClassFile.FieldType), 2, 0, 0), (⟨"BlackSun$Reader", "openDeeper", "(II)Z"⟩, prog_9_method_12_code, 3, (Option.some Jvm.ClassFile.FieldType.boolean), 3, 1, 22), (⟨"BlackSun$Reader", "step", "(II)V"⟩, prog_9_method_24_code, 3, (Option.none : Option Jvm.ClassFile.FieldType), 3, 0, 0), (⟨"BlackSun$Reader", "countOneMore", "(I)Z"⟩, prog_9_method_19_code, 2, (Option.some Jvm.ClassFile.FieldType.boolean), 2, 1, 22), (⟨"BlackSun$Reader", "readValue", "()Z"⟩, prog_9_method_18_code, 4, (Option.some Jvm.ClassFile.FieldType.boolean), 1, 5, 112), (⟨"BlackSun$Reader", "readOperand", "()Z"⟩, prog_9_method_11_code, 3, (Option.some Jvm.ClassFile.FieldType.boolean), 1, 6, 135), (⟨"BlackSun$Reader", "bind", "(I)V"⟩, prog_9_method_17_code, 3, (Option.none : Option Jvm.ClassFile.FieldType), 2, 1, 22), (⟨"BlackSun$Reader", "readSign", "(I)Z"⟩, prog_9_method_14_code, 3, (Option.some Jvm.ClassFile.FieldType.boolean), 2, 2, 44), (⟨"BlackSun$Reader", "readClosing", "(I)Z"⟩, prog_9_method_15_code, 2, (Option.some Jvm.ClassFile.FieldType.boolean), 2, 2, 44), (⟨"BlackSun$Reader", "readOperator", "()Z"⟩, prog_9_method_13_code, 4, (Option.some Jvm.ClassFile.FieldType.boolean), 1, 5, 112), (⟨"BlackSun$Reader", "readLeave", "()Z"⟩, prog_9_method_10_code, 4, (Option.some Jvm.ClassFile.FieldType.boolean), 1, 7, 157), (⟨"BlackSun$Reader", "readHand", "(I)Z"⟩, prog_9_method_9_code, 2, (Option.some Jvm.ClassFile.FieldType.boolean), 2, 2, 46), (⟨"BlackSun$Reader", "readClause", "(I)Z"⟩, prog_9_method_6_code, 4, (Option.some Jvm.ClassFile.FieldType.boolean), 2, 8, 180), (⟨"BlackSun$Reader", "copyOfSteps", "()[I"⟩, prog_9_method_5_code, 2, (Option.some (Jvm.ClassFile.FieldType.array Jvm.ClassFile.FieldType.int)), 1, 1, 26), (⟨"BlackSun$Way", "<init>", "([I[II[I)V"⟩, prog_11_method_1_code, 5, (Option.none : Option Jvm.ClassFile.FieldType), 5, 1, 20), (⟨"BlackSun$Reader", "readWay", "()LBlackSun$Way;"⟩, prog_9_method_3_code, 3, (Option.some (Jvm.ClassFile.FieldType.object "BlackSun$Way")), 1, 9, 203), (⟨"BlackSun", "way", "()I"⟩, prog_1_method_11_code, 2, (Option.some Jvm.ClassFile.FieldType.int), 1, 10, 225), (⟨"BlackSun$Book", "wayAt", "(I)LBlackSun$Way;"⟩, prog_2_method_2_code, 2, (Option.some (Jvm.ClassFile.FieldType.object "BlackSun$Way")), 2, 1, 22), (⟨"BlackSun", "ways", "(II)I"⟩, prog_1_method_12_code, 4, (Option.some Jvm.ClassFile.FieldType.int), 3, 2, 43), (⟨"BlackSun$Book", "kindOf", "(I)I"⟩, prog_2_method_3_code, 2, (Option.some Jvm.ClassFile.FieldType.int), 2, 0, 0), (⟨"BlackSun$Way", "isReading", "(I)Z"⟩, prog_11_method_2_code, 2, (Option.some Jvm.ClassFile.FieldType.boolean), 2, 0, 0), (⟨"BlackSun$Book", "factOf", "(II)I"⟩, prog_2_method_8_code, 5, (Option.some Jvm.ClassFile.FieldType.int), 3, 1, 21), (⟨"BlackSun$Way", "combine", "(III)I"⟩, prog_11_method_4_code, 3, (Option.some Jvm.ClassFile.FieldType.int), 3, 0, 0), (⟨"BlackSun$Way", "isLeaving", "(LBlackSun$Book;I[I)Z"⟩, prog_11_method_3_code, 8, (Option.some Jvm.ClassFile.FieldType.boolean), 4, 2, 45), (⟨"BlackSun$Fit", "take", "(LBlackSun$Book;LBlackSun$Way;I)V"⟩, prog_3_method_2_code, 7, (Option.none : Option Jvm.ClassFile.FieldType), 4, 3, 72), (⟨"BlackSun", "takes", "(III)I"⟩, prog_1_method_13_code, 5, (Option.some Jvm.ClassFile.FieldType.int), 4, 4, 98), (⟨"BlackSun$Book", "termOf", "(III)I"⟩, prog_2_method_7_code, 4, (Option.some Jvm.ClassFile.FieldType.int), 4, 1, 25), (⟨"java/lang/Math", "floorDiv", "(JJ)J"⟩, prog_16_method_49_code, 6, (Option.some Jvm.ClassFile.FieldType.long), 2, 0, 0), (⟨"BlackSun$Fit", "put", "(IJJ)Z"⟩, prog_3_method_18_code, 10, (Option.some Jvm.ClassFile.FieldType.boolean), 4, 1, 25), (⟨"BlackSun$Fit", "settleCheck", "(LBlackSun$Book;LBlackSun$Way;II)Z"⟩, prog_3_method_5_code, 13, (Option.some Jvm.ClassFile.FieldType.boolean), 5, 2, 54), (⟨"BlackSun$Fit", "settle", "(LBlackSun$Book;LBlackSun$Way;II)Z"⟩, prog_3_method_4_code, 8, (Option.some Jvm.ClassFile.FieldType.boolean), 5, 3, 86), (⟨"BlackSun$Fit", "settledOf", "(LBlackSun$Book;II)I"⟩, prog_3_method_7_code, 6, (Option.some Jvm.ClassFile.FieldType.int), 4, 2, 48), (⟨"BlackSun$Fit", "makeRows", "(LBlackSun$Book;)V"⟩, prog_3_method_6_code, 8, (Option.none : Option Jvm.ClassFile.FieldType), 2, 3, 73), (⟨"BlackSun$Fit", "clearSum", "()V"⟩, prog_3_method_10_code, 2, (Option.none : Option Jvm.ClassFile.FieldType), 1, 0, 0), (⟨"BlackSun$Fit", "addRow", "(I)V"⟩, prog_3_method_9_code, 7, (Option.none : Option Jvm.ClassFile.FieldType), 2, 0, 0), (⟨"BlackSun$Fit", "addSum", "([J[J)V"⟩, prog_3_method_11_code, 3, (Option.none : Option Jvm.ClassFile.FieldType), 2, 0, 0)]
def ax_Mi_2 : List (ax_MI) := [(⟨"BlackSun$Fit", "addUp", "(LBlackSun$Images;)V"⟩, prog_3_method_8_code, 4, (Option.none : Option Jvm.ClassFile.FieldType), 2, 1, 26), (⟨"BlackSun$Fit", "open", "(LBlackSun$Book;LBlackSun$Way;I)Z"⟩, prog_3_method_3_code, 4, (Option.some Jvm.ClassFile.FieldType.boolean), 4, 4, 113), (⟨"BlackSun$Fit", "solve", "()Z"⟩, prog_3_method_17_code, 27, (Option.some Jvm.ClassFile.FieldType.boolean), 1, 2, 54), (⟨"BlackSun$Fit", "solveAll", "()Z"⟩, prog_3_method_13_code, 1, (Option.some Jvm.ClassFile.FieldType.boolean), 1, 3, 100), (⟨"BlackSun", "answerOf", "(LBlackSun$Way;II)I"⟩, prog_1_method_42_code, 4, (Option.some Jvm.ClassFile.FieldType.int), 4, 5, 136), (⟨"BlackSun", "answer", "(III)I"⟩, prog_1_method_14_code, 5, (Option.some Jvm.ClassFile.FieldType.int), 4, 6, 159), (⟨"BlackSun$Fit", "missed", "()J"⟩, prog_3_method_19_code, 8, (Option.some Jvm.ClassFile.FieldType.long), 1, 0, 0), (⟨"BlackSun", "miss", "(II)J"⟩, prog_1_method_15_code, 4, (Option.some Jvm.ClassFile.FieldType.long), 3, 5, 136), (⟨"BlackSun$Fit", "leaveOut", "([J)V"⟩, prog_3_method_12_code, 3, (Option.none : Option Jvm.ClassFile.FieldType), 2, 0, 0), (⟨"BlackSun$Fit", "solveWithout", "(I)Z"⟩, prog_3_method_14_code, 2, (Option.some Jvm.ClassFile.FieldType.boolean), 2, 3, 100), (⟨"BlackSun", "each", "(IIII)I"⟩, prog_1_method_16_code, 7, (Option.some Jvm.ClassFile.FieldType.int), 5, 5, 136), (⟨"BlackSun$Fit", "findRulable", "(LBlackSun$Plates;)I"⟩, prog_3_method_22_code, 5, (Option.some Jvm.ClassFile.FieldType.int), 2, 0, 0), (⟨"BlackSun$Fit", "leaveOutChoice", "(II)I"⟩, prog_3_method_23_code, 5, (Option.some Jvm.ClassFile.FieldType.int), 3, 1, 26), (⟨"java/lang/Math", "abs", "(J)J"⟩, prog_16_method_61_code, 2, (Option.some Jvm.ClassFile.FieldType.long), 1, 0, 0), (⟨"java/lang/Integer", "bitCount", "(I)I"⟩, prog_15_method_49_code, 1, (Option.some Jvm.ClassFile.FieldType.int), 1, 0, 0), (⟨"BlackSun$Fit", "nearestSet", "(LBlackSun$Book;II)I"⟩, prog_3_method_21_code, 13, (Option.some Jvm.ClassFile.FieldType.int), 4, 3, 100), (⟨"BlackSun", "ruled", "(IIIII)I"⟩, prog_1_method_17_code, 8, (Option.some Jvm.ClassFile.FieldType.int), 6, 5, 136), (⟨"BlackSun", "isNumber", "(I)Z"⟩, prog_1_method_48_code, 1, (Option.some Jvm.ClassFile.FieldType.boolean), 1, 1, 22), (⟨"BlackSun", "areThree", "(III)Z"⟩, prog_1_method_50_code, 3, (Option.some Jvm.ClassFile.FieldType.boolean), 3, 2, 42), (⟨"BlackSun$Fit", "leastOfThree", "(LBlackSun$Book;LBlackSun$Way;IIII)I"⟩, prog_3_method_20_code, 14, (Option.some Jvm.ClassFile.FieldType.int), 7, 4, 120), (⟨"BlackSun", "three", "(IIIII)I"⟩, prog_1_method_18_code, 7, (Option.some Jvm.ClassFile.FieldType.int), 6, 5, 153), (⟨"BlackSun$Images", "starsOnPlate", "(II)I"⟩, prog_4_method_7_code, 5, (Option.some Jvm.ClassFile.FieldType.int), 3, 1, 22), (⟨"BlackSun$Mix", "add", "(LBlackSun$Stars;II)V"⟩, prog_6_method_3_code, 7, (Option.none : Option Jvm.ClassFile.FieldType), 4, 1, 25), (⟨"BlackSun$Mix", "gather", "(LBlackSun$Book;II)V"⟩, prog_6_method_2_code, 6, (Option.none : Option Jvm.ClassFile.FieldType), 4, 2, 51), (⟨"BlackSun$Mix", "above", "()J"⟩, prog_6_method_4_code, 1, (Option.some Jvm.ClassFile.FieldType.long), 1, 0, 0), (⟨"BlackSun$Mix", "below", "()J"⟩, prog_6_method_5_code, 1, (Option.some Jvm.ClassFile.FieldType.long), 1, 0, 0), (⟨"BlackSun", "commonDivisor", "(JJ)J"⟩, prog_1_method_54_code, 11, (Option.some Jvm.ClassFile.FieldType.long), 2, 0, 0), (⟨"BlackSun", "lowest", "(JJI)J"⟩, prog_1_method_53_code, 7, (Option.some Jvm.ClassFile.FieldType.long), 3, 1, 30), (⟨"BlackSun", "mixed", "(III)J"⟩, prog_1_method_19_code, 4, (Option.some Jvm.ClassFile.FieldType.long), 4, 3, 76), (⟨"BlackSun$Mix", "bestParter", "(LBlackSun$Book;II)I"⟩, prog_6_method_6_code, 11, (Option.some Jvm.ClassFile.FieldType.int), 4, 3, 76), (⟨"BlackSun", "parter", "(II)I"⟩, prog_1_method_20_code, 3, (Option.some Jvm.ClassFile.FieldType.int), 3, 4, 106), (⟨"BlackSun", "isNear", "(III)Z"⟩, prog_1_method_52_code, 3, (Option.some Jvm.ClassFile.FieldType.boolean), 3, 1, 21), (⟨"BlackSun$Images", "isOnPlate", "(II)Z"⟩, prog_4_method_6_code, 4, (Option.some Jvm.ClassFile.FieldType.boolean), 3, 1, 22), (⟨"BlackSun$Book", "hasCheckNear", "(III)Z"⟩, prog_2_method_9_code, 6, (Option.some Jvm.ClassFile.FieldType.boolean), 4, 2, 45), (⟨"BlackSun", "usable", "(III)I"⟩, prog_1_method_21_code, 4, (Option.some Jvm.ClassFile.FieldType.int), 4, 3, 70), (⟨"java/lang/Math", "min", "(II)I"⟩, prog_16_method_69_code, 2, (Option.some Jvm.ClassFile.FieldType.int), 2, 0, 0), (⟨"BlackSun", "tell", "(II)Z"⟩, prog_1_method_22_code, 3, (Option.some Jvm.ClassFile.FieldType.boolean), 3, 2, 42), (⟨"BlackSun$Book", "hasKnowledge", "(II)Z"⟩, prog_2_method_4_code, 3, (Option.some Jvm.ClassFile.FieldType.boolean), 3, 0, 0), (⟨"BlackSun", "knows", "(II)I"⟩, prog_1_method_23_code, 3, (Option.some Jvm.ClassFile.FieldType.int), 3, 2, 42), (⟨"BlackSun$Lean", "<init>", "()V"⟩, prog_5_method_1_code, 1, (Option.none : Option Jvm.ClassFile.FieldType), 1, 1, 20)]
def ax_Mi_3 : List (ax_MI) := [(⟨"BlackSun$Lean", "measure", "(LBlackSun$Book;II)J"⟩, prog_5_method_4_code, 5, (Option.some Jvm.ClassFile.FieldType.long), 3, 0, 0), (⟨"BlackSun$Lean", "addPlace", "(LBlackSun$Book;III)V"⟩, prog_5_method_3_code, 11, (Option.none : Option Jvm.ClassFile.FieldType), 5, 1, 24), (⟨"BlackSun$Lean", "gather", "(LBlackSun$Book;III)V"⟩, prog_5_method_2_code, 7, (Option.none : Option Jvm.ClassFile.FieldType), 5, 2, 54), (⟨"BlackSun", "leans", "(IIII)J"⟩, prog_1_method_24_code, 6, (Option.some Jvm.ClassFile.FieldType.long), 5, 3, 80), (⟨"BlackSun", "areTwoIslands", "(II)Z"⟩, prog_1_method_51_code, 2, (Option.some Jvm.ClassFile.FieldType.boolean), 2, 2, 42), (⟨"BlackSun$Fit", "solveIsland", "(LBlackSun$Book;I)Z"⟩, prog_3_method_15_code, 4, (Option.some Jvm.ClassFile.FieldType.boolean), 3, 3, 100), (⟨"BlackSun$Fit", "solvedImages", "()J"⟩, prog_3_method_16_code, 1, (Option.some Jvm.ClassFile.FieldType.long), 1, 0, 0), (⟨"BlackSun", "joined", "(IIII)I"⟩, prog_1_method_25_code, 10, (Option.some Jvm.ClassFile.FieldType.int), 5, 5, 136), (⟨"BlackSun", "quarrel", "(IIIII)I"⟩, prog_1_method_26_code, 8, (Option.some Jvm.ClassFile.FieldType.int), 6, 5, 136), (⟨"BlackSun$Book", "putSaid", "(II)I"⟩, prog_2_method_5_code, 3, (Option.some Jvm.ClassFile.FieldType.int), 3, 0, 0), (⟨"BlackSun", "say", "(II)I"⟩, prog_1_method_27_code, 3, (Option.some Jvm.ClassFile.FieldType.int), 3, 2, 43), (⟨"BlackSun", "could", "(IIZ)I"⟩, prog_1_method_28_code, 6, (Option.some Jvm.ClassFile.FieldType.int), 4, 6, 159), (⟨"BlackSun$Book", "putField", "(II)I"⟩, prog_2_method_6_code, 3, (Option.some Jvm.ClassFile.FieldType.int), 3, 0, 0), (⟨"BlackSun", "field", "(II)I"⟩, prog_1_method_29_code, 3, (Option.some Jvm.ClassFile.FieldType.int), 3, 1, 22), (⟨"BlackSun$Book", "minutesOf", "(I)I"⟩, prog_2_method_15_code, 4, (Option.some Jvm.ClassFile.FieldType.int), 2, 0, 0), (⟨"BlackSun$Stars", "lightSquared", "(I)I"⟩, prog_10_method_6_code, 4, (Option.some Jvm.ClassFile.FieldType.int), 2, 1, 25), (⟨"BlackSun$Book", "worthOf", "(I)I"⟩, prog_2_method_16_code, 5, (Option.some Jvm.ClassFile.FieldType.int), 2, 2, 48), (⟨"BlackSun$Book", "bestFields", "(I)I"⟩, prog_2_method_14_code, 8, (Option.some Jvm.ClassFile.FieldType.int), 2, 3, 72), (⟨"BlackSun", "planned", "(II)I"⟩, prog_1_method_30_code, 4, (Option.some Jvm.ClassFile.FieldType.int), 3, 4, 99), (⟨"BlackSun$Fit", "makeLawful", "(LBlackSun$Book;I)V"⟩, prog_3_method_26_code, 4, (Option.none : Option Jvm.ClassFile.FieldType), 3, 2, 48), (⟨"BlackSun$Fit", "drawSlip", "(I)I"⟩, prog_3_method_28_code, 3, (Option.some Jvm.ClassFile.FieldType.int), 2, 0, 0), (⟨"BlackSun$Fit", "drawWorld", "(LBlackSun$Book;I)V"⟩, prog_3_method_27_code, 9, (Option.none : Option Jvm.ClassFile.FieldType), 3, 1, 22), (⟨"BlackSun$Fit", "rightWorlds", "(LBlackSun$Book;IIIII)I"⟩, prog_3_method_25_code, 9, (Option.some Jvm.ClassFile.FieldType.int), 7, 3, 100), (⟨"BlackSun", "right", "(IIIIII)I"⟩, prog_1_method_31_code, 8, (Option.some Jvm.ClassFile.FieldType.int), 7, 5, 136), (⟨"BlackSun$Fit", "farthest", "(Z)I"⟩, prog_3_method_24_code, 5, (Option.some Jvm.ClassFile.FieldType.int), 2, 4, 121), (⟨"BlackSun", "span", "(III)I"⟩, prog_1_method_32_code, 5, (Option.some Jvm.ClassFile.FieldType.int), 4, 5, 145), (⟨"BlackSun", "named", "(IIIII)I"⟩, prog_1_method_33_code, 10, (Option.some Jvm.ClassFile.FieldType.int), 6, 5, 153), (⟨"BlackSun", "glass", "(IIII)Z"⟩, prog_1_method_34_code, 5, (Option.some Jvm.ClassFile.FieldType.boolean), 5, 2, 42), (⟨"BlackSun$Book", "warm", "(III)V"⟩, prog_2_method_10_code, 6, (Option.none : Option Jvm.ClassFile.FieldType), 4, 0, 0), (⟨"BlackSun$Book", "standing", "(II)I"⟩, prog_2_method_11_code, 5, (Option.some Jvm.ClassFile.FieldType.int), 3, 1, 25), (⟨"BlackSun", "stands", "(IIII)I"⟩, prog_1_method_35_code, 5, (Option.some Jvm.ClassFile.FieldType.int), 5, 2, 49), (⟨"BlackSun$Book", "squaresOff", "(II)J"⟩, prog_2_method_12_code, 10, (Option.some Jvm.ClassFile.FieldType.long), 3, 2, 49), (⟨"BlackSun", "off", "(III)J"⟩, prog_1_method_36_code, 4, (Option.some Jvm.ClassFile.FieldType.long), 4, 3, 78), (⟨"BlackSun$Book", "likeliestHeat", "(III)I"⟩, prog_2_method_13_code, 10, (Option.some Jvm.ClassFile.FieldType.int), 4, 3, 78), (⟨"BlackSun", "heat", "(III)I"⟩, prog_1_method_37_code, 4, (Option.some Jvm.ClassFile.FieldType.int), 4, 4, 107), (⟨"BlackSun$Moves", "<init>", "()V"⟩, prog_7_method_1_code, 1, (Option.none : Option Jvm.ClassFile.FieldType), 1, 1, 20), (⟨"BlackSun$Moves", "isBefore", "(LBlackSun$Images;I)Z"⟩, prog_7_method_4_code, 3, (Option.some Jvm.ClassFile.FieldType.boolean), 3, 0, 0), (⟨"BlackSun$Moves", "add", "(LBlackSun$Images;II)V"⟩, prog_7_method_3_code, 7, (Option.none : Option Jvm.ClassFile.FieldType), 4, 1, 22), (⟨"BlackSun$Moves", "gather", "(LBlackSun$Images;III)V"⟩, prog_7_method_2_code, 7, (Option.none : Option Jvm.ClassFile.FieldType), 5, 2, 48), (⟨"BlackSun$Moves", "told", "(I)I"⟩, prog_7_method_5_code, 2, (Option.some Jvm.ClassFile.FieldType.int), 2, 0, 0)]
def ax_Mi_4 : List (ax_MI) := [(⟨"BlackSun", "again", "(IIII)I"⟩, prog_1_method_38_code, 6, (Option.some Jvm.ClassFile.FieldType.int), 5, 3, 74), (⟨"BlackSun$Stars", "copyFrom", "(LBlackSun$Stars;)V"⟩, prog_10_method_7_code, 2, (Option.none : Option Jvm.ClassFile.FieldType), 2, 1, 26), (⟨"BlackSun$Plates", "copyFrom", "(LBlackSun$Plates;)V"⟩, prog_8_method_4_code, 2, (Option.none : Option Jvm.ClassFile.FieldType), 2, 1, 26), (⟨"BlackSun$Images", "copyFrom", "(LBlackSun$Images;)V"⟩, prog_4_method_8_code, 2, (Option.none : Option Jvm.ClassFile.FieldType), 2, 1, 26), (⟨"BlackSun$Book", "copyFrom", "(LBlackSun$Book;)V"⟩, prog_2_method_17_code, 3, (Option.none : Option Jvm.ClassFile.FieldType), 2, 2, 47), (⟨"BlackSun", "mark", "(I)I"⟩, prog_1_method_39_code, 3, (Option.some Jvm.ClassFile.FieldType.int), 2, 3, 69), (⟨"BlackSun", "back", "(I)I"⟩, prog_1_method_40_code, 3, (Option.some Jvm.ClassFile.FieldType.int), 2, 3, 69), (⟨"BlackSun", "count", "(I)I"⟩, prog_1_method_41_code, 2, (Option.some Jvm.ClassFile.FieldType.int), 2, 0, 0), (⟨"BlackSunModel", "<init>", "()V"⟩, prog_13_method_1_code, 2, (Option.none : Option Jvm.ClassFile.FieldType), 1, 1, 20), (⟨"BlackSunModel", "in", "(JJJ)Z"⟩, prog_13_method_3_code, 6, (Option.some Jvm.ClassFile.FieldType.boolean), 3, 0, 0), (⟨"BlackSunModel", "isWeek", "(I)Z"⟩, prog_13_method_4_code, 1, (Option.some Jvm.ClassFile.FieldType.boolean), 1, 1, 25), (⟨"BlackSunModel", "clock", "(I)Z"⟩, prog_13_method_5_code, 2, (Option.some Jvm.ClassFile.FieldType.boolean), 2, 1, 25), (⟨"BlackSunModel", "isStar", "(I)Z"⟩, prog_13_method_6_code, 2, (Option.some Jvm.ClassFile.FieldType.boolean), 2, 1, 25), (⟨"BlackSunModel", "isPlate", "(I)Z"⟩, prog_13_method_7_code, 2, (Option.some Jvm.ClassFile.FieldType.boolean), 2, 1, 25), (⟨"BlackSunModel", "isHand", "(I)Z"⟩, prog_13_method_8_code, 1, (Option.some Jvm.ClassFile.FieldType.boolean), 1, 1, 25), (⟨"BlackSunModel", "far", "(I)I"⟩, prog_13_method_9_code, 2, (Option.some Jvm.ClassFile.FieldType.int), 2, 0, 0), (⟨"BlackSunModel", "star", "(III)I"⟩, prog_13_method_10_code, 4, (Option.some Jvm.ClassFile.FieldType.int), 4, 1, 25), (⟨"BlackSunModel", "stars", "(II)I"⟩, prog_13_method_11_code, 3, (Option.some Jvm.ClassFile.FieldType.int), 3, 2, 46), (⟨"BlackSunModel", "plate", "(III)I"⟩, prog_13_method_12_code, 4, (Option.some Jvm.ClassFile.FieldType.int), 4, 1, 25), (⟨"BlackSunModel", "image", "(IIIII)I"⟩, prog_13_method_13_code, 6, (Option.some Jvm.ClassFile.FieldType.int), 6, 2, 46), (⟨"BlackSunModel", "counting", "(IIII)I"⟩, prog_13_method_14_code, 7, (Option.some Jvm.ClassFile.FieldType.int), 5, 0, 0), (⟨"BlackSunModel", "counts", "(II)Z"⟩, prog_13_method_15_code, 3, (Option.some Jvm.ClassFile.FieldType.boolean), 3, 1, 26), (⟨"BlackSunModel", "images", "(IIIII)I"⟩, prog_13_method_16_code, 7, (Option.some Jvm.ClassFile.FieldType.int), 6, 2, 46), (⟨"BlackSunModel", "given", "(III)I"⟩, prog_13_method_17_code, 6, (Option.some Jvm.ClassFile.FieldType.int), 4, 1, 21), (⟨"BlackSunModel", "gives", "(III)I"⟩, prog_13_method_18_code, 4, (Option.some Jvm.ClassFile.FieldType.int), 4, 2, 46), (⟨"BlackSunModel", "put", "(I)V"⟩, prog_13_method_20_code, 3, (Option.none : Option Jvm.ClassFile.FieldType), 2, 0, 0), (⟨"BlackSunModel", "feed", "(IIIII)I"⟩, prog_13_method_19_code, 6, (Option.some Jvm.ClassFile.FieldType.int), 6, 1, 22), (⟨"BlackSunModel", "end", "(I)I"⟩, prog_13_method_21_code, 2, (Option.some Jvm.ClassFile.FieldType.int), 2, 0, 0), (⟨"BlackSunModel", "termName", "(I)Ljava/lang/String;"⟩, prog_13_method_22_code, 1, (Option.some (Jvm.ClassFile.FieldType.object "java/lang/String")), 1, 0, 0), (⟨"BlackSunModel", "wordOf", "(I)Ljava/lang/String;"⟩, prog_13_method_23_code, 1, (Option.some (Jvm.ClassFile.FieldType.object "java/lang/String")), 1, 0, 0), (⟨"BlackSunModel", "fails", "(II)V"⟩, prog_13_method_24_code, 3, (Option.none : Option Jvm.ClassFile.FieldType), 3, 0, 0), (⟨"BlackSunModel", "sign", "()I"⟩, prog_13_method_25_code, 1, (Option.some Jvm.ClassFile.FieldType.int), 1, 0, 0), (⟨"BlackSunModel", "blanks", "()V"⟩, prog_13_method_26_code, 1, (Option.none : Option Jvm.ClassFile.FieldType), 1, 1, 20), (⟨"BlackSunModel", "isDigit", "()Z"⟩, prog_13_method_27_code, 1, (Option.some Jvm.ClassFile.FieldType.boolean), 1, 1, 25), (⟨"BlackSunModel", "stands", "(Ljava/lang/String;)Z"⟩, prog_13_method_28_code, 5, (Option.some Jvm.ClassFile.FieldType.boolean), 2, 4, 85), (⟨"BlackSunModel", "takes", "(Ljava/lang/String;)Z"⟩, prog_13_method_29_code, 3, (Option.some Jvm.ClassFile.FieldType.boolean), 2, 5, 109), (⟨"BlackSunModel", "entry", "(II)V"⟩, prog_13_method_30_code, 3, (Option.none : Option Jvm.ClassFile.FieldType), 3, 0, 0), (⟨"BlackSunModel", "isCounted", "(I)V"⟩, prog_13_method_31_code, 2, (Option.none : Option Jvm.ClassFile.FieldType), 2, 1, 22), (⟨"BlackSunModel", "digits", "(I)I"⟩, prog_13_method_32_code, 4, (Option.some Jvm.ClassFile.FieldType.int), 2, 2, 45), (⟨"BlackSunModel", "value", "()V"⟩, prog_13_method_33_code, 3, (Option.none : Option Jvm.ClassFile.FieldType), 1, 5, 109)]
def ax_Mi_5 : List (ax_MI) := [(⟨"BlackSunModel", "sum", "()V"⟩, prog_13_method_34_code, 2, (Option.none : Option Jvm.ClassFile.FieldType), 1, 6, 131), (⟨"BlackSunModel", "compared", "()V"⟩, prog_13_method_35_code, 3, (Option.none : Option Jvm.ClassFile.FieldType), 1, 7, 152), (⟨"BlackSunModel", "top", "()I"⟩, prog_13_method_36_code, 1, (Option.some Jvm.ClassFile.FieldType.int), 1, 0, 0), (⟨"BlackSunModel", "opens", "(I)V"⟩, prog_13_method_37_code, 2, (Option.none : Option Jvm.ClassFile.FieldType), 2, 1, 22), (⟨"BlackSunModel", "answers", "(I)V"⟩, prog_13_method_38_code, 2, (Option.none : Option Jvm.ClassFile.FieldType), 2, 1, 22), (⟨"BlackSunModel", "fact", "()Z"⟩, prog_13_method_39_code, 1, (Option.some Jvm.ClassFile.FieldType.boolean), 1, 8, 174), (⟨"BlackSunModel", "test", "()V"⟩, prog_13_method_40_code, 5, (Option.none : Option Jvm.ClassFile.FieldType), 1, 9, 194), (⟨"BlackSunModel", "term", "(Z)I"⟩, prog_13_method_41_code, 3, (Option.some Jvm.ClassFile.FieldType.int), 2, 5, 109), (⟨"BlackSunModel", "names", "(II)V"⟩, prog_13_method_42_code, 3, (Option.none : Option Jvm.ClassFile.FieldType), 3, 0, 0), (⟨"BlackSunModel", "clause", "(I)V"⟩, prog_13_method_43_code, 11, (Option.none : Option Jvm.ClassFile.FieldType), 2, 10, 218), (⟨"BlackSunModel", "way", "()I"⟩, prog_13_method_44_code, 3, (Option.some Jvm.ClassFile.FieldType.int), 1, 11, 248), (⟨"BlackSunModel", "isWay", "(I)Z"⟩, prog_13_method_45_code, 2, (Option.some Jvm.ClassFile.FieldType.boolean), 2, 1, 25), (⟨"BlackSunModel", "isTerm", "(I)Z"⟩, prog_13_method_46_code, 1, (Option.some Jvm.ClassFile.FieldType.boolean), 1, 1, 25), (⟨"BlackSunModel", "ways", "(II)I"⟩, prog_13_method_47_code, 3, (Option.some Jvm.ClassFile.FieldType.int), 3, 2, 46), (⟨"BlackSunModel", "truth", "(Z)J"⟩, prog_13_method_48_code, 1, (Option.some Jvm.ClassFile.FieldType.long), 1, 0, 0), (⟨"BlackSunModel", "both", "(IJJ)J"⟩, prog_13_method_49_code, 5, (Option.some Jvm.ClassFile.FieldType.long), 3, 1, 20), (⟨"BlackSunModel", "isTrue", "(III)Z"⟩, prog_13_method_50_code, 8, (Option.some Jvm.ClassFile.FieldType.boolean), 4, 2, 44), (⟨"BlackSunModel", "isLeft", "(II)Z"⟩, prog_13_method_51_code, 7, (Option.some Jvm.ClassFile.FieldType.boolean), 3, 3, 71), (⟨"BlackSunModel", "isByHand", "(II)Z"⟩, prog_13_method_52_code, 3, (Option.some Jvm.ClassFile.FieldType.boolean), 3, 0, 0), (⟨"BlackSunModel", "takesAll", "(II)V"⟩, prog_13_method_53_code, 4, (Option.none : Option Jvm.ClassFile.FieldType), 3, 4, 97), (⟨"BlackSunModel", "takes", "(III)I"⟩, prog_13_method_54_code, 6, (Option.some Jvm.ClassFile.FieldType.int), 4, 5, 120), (⟨"BlackSunModel", "floorOf", "(JJ)J"⟩, prog_13_method_55_code, 6, (Option.some Jvm.ClassFile.FieldType.long), 2, 0, 0), (⟨"BlackSunModel", "checks", "(III)Z"⟩, prog_13_method_56_code, 13, (Option.some Jvm.ClassFile.FieldType.boolean), 4, 2, 48), (⟨"BlackSunModel", "begins", "(IIZI)Z"⟩, prog_13_method_57_code, 8, (Option.some Jvm.ClassFile.FieldType.boolean), 5, 3, 80), (⟨"BlackSunModel", "measures", "()V"⟩, prog_13_method_58_code, 3, (Option.none : Option Jvm.ClassFile.FieldType), 1, 0, 0), (⟨"BlackSunModel", "givenOn", "(III)J"⟩, prog_13_method_59_code, 4, (Option.some Jvm.ClassFile.FieldType.long), 4, 2, 46), (⟨"BlackSunModel", "left", "(II)J"⟩, prog_13_method_60_code, 6, (Option.some Jvm.ClassFile.FieldType.long), 3, 3, 69), (⟨"BlackSunModel", "rows", "(II)V"⟩, prog_13_method_61_code, 10, (Option.none : Option Jvm.ClassFile.FieldType), 3, 4, 94), (⟨"BlackSunModel", "sumAt", "(II)J"⟩, prog_13_method_62_code, 3, (Option.some Jvm.ClassFile.FieldType.long), 3, 0, 0), (⟨"BlackSunModel", "factor", "(II)J"⟩, prog_13_method_63_code, 3, (Option.some Jvm.ClassFile.FieldType.long), 3, 1, 22), (⟨"BlackSunModel", "adds", "(JJJ)V"⟩, prog_13_method_64_code, 19, (Option.none : Option Jvm.ClassFile.FieldType), 4, 0, 0), (⟨"BlackSunModel", "solves", "()Z"⟩, prog_13_method_65_code, 12, (Option.some Jvm.ClassFile.FieldType.boolean), 1, 2, 44), (⟨"BlackSunModel", "empties", "()V"⟩, prog_13_method_66_code, 3, (Option.none : Option Jvm.ClassFile.FieldType), 1, 0, 0), (⟨"BlackSunModel", "fit", "()Z"⟩, prog_13_method_67_code, 2, (Option.some Jvm.ClassFile.FieldType.boolean), 1, 5, 123), (⟨"BlackSunModel", "missed", "()J"⟩, prog_13_method_68_code, 9, (Option.some Jvm.ClassFile.FieldType.long), 1, 4, 94), (⟨"BlackSunModel", "isAnswered", "(II)Z"⟩, prog_13_method_69_code, 3, (Option.some Jvm.ClassFile.FieldType.boolean), 3, 6, 144), (⟨"BlackSunModel", "answerIn", "(III)I"⟩, prog_13_method_70_code, 4, (Option.some Jvm.ClassFile.FieldType.int), 4, 7, 166), (⟨"BlackSunModel", "answer", "(III)I"⟩, prog_13_method_71_code, 4, (Option.some Jvm.ClassFile.FieldType.int), 4, 8, 189), (⟨"BlackSunModel", "miss", "(II)J"⟩, prog_13_method_72_code, 3, (Option.some Jvm.ClassFile.FieldType.long), 3, 7, 166), (⟨"BlackSunModel", "each", "(IIII)I"⟩, prog_13_method_73_code, 6, (Option.some Jvm.ClassFile.FieldType.int), 5, 6, 144)]
def ax_Mi_6 : List (ax_MI) := [(⟨"BlackSunModel", "bits", "(I)I"⟩, prog_13_method_74_code, 3, (Option.some Jvm.ClassFile.FieldType.int), 1, 0, 0), (⟨"BlackSunModel", "ruled", "(IIIII)I"⟩, prog_13_method_75_code, 18, (Option.some Jvm.ClassFile.FieldType.int), 6, 6, 144), (⟨"BlackSunModel", "three", "(IIIII)I"⟩, prog_13_method_76_code, 13, (Option.some Jvm.ClassFile.FieldType.int), 6, 6, 144), (⟨"BlackSunModel", "divisor", "(JJ)J"⟩, prog_13_method_77_code, 10, (Option.some Jvm.ClassFile.FieldType.long), 2, 0, 0), (⟨"BlackSunModel", "known", "(II)V"⟩, prog_13_method_78_code, 4, (Option.none : Option Jvm.ClassFile.FieldType), 3, 0, 0), (⟨"BlackSunModel", "mixes", "()V"⟩, prog_13_method_79_code, 13, (Option.none : Option Jvm.ClassFile.FieldType), 1, 2, 46), (⟨"BlackSunModel", "mixed", "(III)J"⟩, prog_13_method_80_code, 4, (Option.some Jvm.ClassFile.FieldType.long), 4, 3, 78), (⟨"BlackSunModel", "parter", "(II)I"⟩, prog_13_method_81_code, 9, (Option.some Jvm.ClassFile.FieldType.int), 3, 3, 78), (⟨"BlackSunModel", "usable", "(III)I"⟩, prog_13_method_82_code, 8, (Option.some Jvm.ClassFile.FieldType.int), 4, 2, 46), (⟨"BlackSunModel", "tell", "(II)Z"⟩, prog_13_method_83_code, 3, (Option.some Jvm.ClassFile.FieldType.boolean), 3, 2, 45), (⟨"BlackSunModel", "isKnowing", "(II)Z"⟩, prog_13_method_84_code, 3, (Option.some Jvm.ClassFile.FieldType.boolean), 3, 0, 0), (⟨"BlackSunModel", "knows", "(II)I"⟩, prog_13_method_85_code, 3, (Option.some Jvm.ClassFile.FieldType.int), 3, 2, 45), (⟨"BlackSunModel", "toldBy", "(II)I"⟩, prog_13_method_86_code, 3, (Option.some Jvm.ClassFile.FieldType.int), 3, 0, 0), (⟨"BlackSunModel", "leans", "(IIII)J"⟩, prog_13_method_87_code, 15, (Option.some Jvm.ClassFile.FieldType.long), 5, 2, 48), (⟨"BlackSunModel", "alone", "(III)Z"⟩, prog_13_method_88_code, 5, (Option.some Jvm.ClassFile.FieldType.boolean), 4, 6, 144), (⟨"BlackSunModel", "areIslands", "(IIII)Z"⟩, prog_13_method_89_code, 5, (Option.some Jvm.ClassFile.FieldType.boolean), 5, 2, 46), (⟨"BlackSunModel", "joined", "(IIII)I"⟩, prog_13_method_90_code, 8, (Option.some Jvm.ClassFile.FieldType.int), 5, 7, 168), (⟨"BlackSunModel", "quarrel", "(IIIII)I"⟩, prog_13_method_91_code, 8, (Option.some Jvm.ClassFile.FieldType.int), 6, 7, 168), (⟨"BlackSunModel", "say", "(II)I"⟩, prog_13_method_92_code, 3, (Option.some Jvm.ClassFile.FieldType.int), 3, 2, 46), (⟨"BlackSunModel", "could", "(IIZ)I"⟩, prog_13_method_93_code, 5, (Option.some Jvm.ClassFile.FieldType.int), 4, 8, 189), (⟨"BlackSunModel", "field", "(II)I"⟩, prog_13_method_94_code, 3, (Option.some Jvm.ClassFile.FieldType.int), 3, 1, 25), (⟨"BlackSunModel", "planned", "(II)I"⟩, prog_13_method_95_code, 13, (Option.some Jvm.ClassFile.FieldType.int), 3, 2, 46), (⟨"BlackSunModel", "slipOf", "(I)I"⟩, prog_13_method_96_code, 2, (Option.some Jvm.ClassFile.FieldType.int), 2, 0, 0), (⟨"BlackSunModel", "right", "(IIIIII)I"⟩, prog_13_method_97_code, 13, (Option.some Jvm.ClassFile.FieldType.int), 7, 6, 144), (⟨"BlackSunModel", "span", "(III)I"⟩, prog_13_method_98_code, 8, (Option.some Jvm.ClassFile.FieldType.int), 4, 8, 189), (⟨"BlackSunModel", "named", "(IIIII)I"⟩, prog_13_method_99_code, 9, (Option.some Jvm.ClassFile.FieldType.int), 6, 7, 176), (⟨"BlackSunModel", "glass", "(IIII)Z"⟩, prog_13_method_100_code, 5, (Option.some Jvm.ClassFile.FieldType.boolean), 5, 2, 45), (⟨"BlackSunModel", "standing", "(IIIII)I"⟩, prog_13_method_101_code, 10, (Option.some Jvm.ClassFile.FieldType.int), 6, 2, 46), (⟨"BlackSunModel", "stands", "(IIII)I"⟩, prog_13_method_102_code, 5, (Option.some Jvm.ClassFile.FieldType.int), 5, 3, 75), (⟨"BlackSunModel", "offBy", "(IIII)J"⟩, prog_13_method_103_code, 12, (Option.some Jvm.ClassFile.FieldType.long), 5, 3, 75), (⟨"BlackSunModel", "off", "(III)J"⟩, prog_13_method_104_code, 4, (Option.some Jvm.ClassFile.FieldType.long), 4, 4, 106), (⟨"BlackSunModel", "heat", "(III)I"⟩, prog_13_method_105_code, 10, (Option.some Jvm.ClassFile.FieldType.int), 4, 4, 106), (⟨"BlackSunModel", "again", "(IIII)I"⟩, prog_13_method_106_code, 17, (Option.some Jvm.ClassFile.FieldType.int), 5, 2, 45), (⟨"BlackSunModel", "carry", "([I)V"⟩, prog_13_method_107_code, 3, (Option.none : Option Jvm.ClassFile.FieldType), 2, 0, 0), (⟨"BlackSunModel", "carries", "(I)V"⟩, prog_13_method_108_code, 2, (Option.none : Option Jvm.ClassFile.FieldType), 2, 1, 22), (⟨"BlackSunModel", "mark", "(I)I"⟩, prog_13_method_109_code, 2, (Option.some Jvm.ClassFile.FieldType.int), 2, 2, 43), (⟨"BlackSunModel", "back", "(I)I"⟩, prog_13_method_110_code, 2, (Option.some Jvm.ClassFile.FieldType.int), 2, 2, 43), (⟨"BlackSunModel", "count", "(I)I"⟩, prog_13_method_111_code, 2, (Option.some Jvm.ClassFile.FieldType.int), 2, 0, 0), (⟨"BlackSunLaw", "law", "([I)Z"⟩, code, 4, (some .boolean), 1, 12, 270)]
def ax_Mi_l : List (ax_MI) := ax_Mi_0 ++ (ax_Mi_1 ++ (ax_Mi_2 ++ (ax_Mi_3 ++ (ax_Mi_4 ++ (ax_Mi_5 ++ (ax_Mi_6))))))
def ax_M (N : Nat) : ax_MI := ax_Mi_l.getD N (⟨"", "", ""⟩, ⟨#[]⟩, 0, none, 0, 0, 0)
def ax_Na_0 : List (Nat) := [1, 2, 1, 1, 1, 1, 1, 1, 1, 1, 2, 3, 4, 4, 2, 2, 3, 1, 4, 4, 2, 1, 3, 5, 7, 6, 1, 1, 3, 6, 1, 4, 4, 2, 6, 2, 1, 1, 2, 3, 1, 2, 2, 2, 2, 3, 3, 2, 1, 1, 2, 2, 2, 1, 1, 2, 2, 1, 5, 1, 1, 2, 3, 2, 2, 3, 3, 4, 4, 4, 4, 2, 4, 5, 5, 4, 2, 1, 2, 2, 2, 4, 1, 1, 4, 4, 1, 3, 2, 2, 5, 2, 3, 1, 1, 4, 6, 1, 3, 7]
def ax_Na_1 : List (Nat) := [6, 3, 4, 4, 1, 1, 2, 3, 4, 4, 3, 3, 3, 4, 4, 2, 3, 3, 3, 1, 3, 5, 5, 5, 2, 3, 1, 5, 6, 3, 3, 4, 3, 3, 2, 2, 2, 2, 3, 3, 2, 3, 7, 7, 2, 4, 6, 5, 4, 3, 5, 3, 4, 4, 4, 1, 3, 4, 5, 2, 5, 2, 2, 2, 2, 2, 2, 2, 1, 3, 1, 2, 2, 2, 1, 2, 4, 3, 4, 6, 5, 3, 6, 4, 4, 2, 6, 2, 1, 1, 3, 1, 1, 1, 2, 2, 3, 2, 2, 1]
def ax_Na_2 : List (Nat) := [1, 1, 1, 2, 2, 1, 1, 2, 3, 2, 1, 2, 1, 3, 1, 3, 4, 3, 3, 3, 4, 2, 4, 5, 1, 4, 3, 3, 3, 3, 4, 1, 1, 1, 1, 3, 4, 4, 3, 5, 1, 6, 6, 2, 3, 1, 4, 3, 4, 3, 3, 3, 3, 5, 4, 5, 5, 6, 3, 4, 3, 3, 2, 7, 4, 6, 5, 6, 5, 5, 4, 4, 5, 2, 2, 2, 2, 2, 1]
def ax_Na_l : List (Nat) := ax_Na_0 ++ (ax_Na_1 ++ (ax_Na_2))
def ax_nn (N : Nat) : Nat := ax_Na_l.getD N 0
end
section
/-! THE METHODS AS FUNCTIONS: by number, each over those of smaller numbers -/
abbrev ax_T4 : Type := (List Value → ax_H → Option ax_H) × (List Value → ax_H → Option (Int32 × ax_H)) × (List Value → ax_H → Option (Int64 × ax_H)) × (List Value → ax_H → Option (Nat × ax_H))
def ax_none4 : ax_T4 := (fun _ _ => none, fun _ _ => none, fun _ _ => none, fun _ _ => none)
/-- String.length, String.charAt of a constant -/
def ax_text (x : Nat) : String := ((ax_strs.getD (x - 1) ("", 0, "")).2.2)
def ax_strlen (av : List Value) (h : ax_H) : Option (Int32 × ax_H) := match av with
  | [.ref x] => if 1 ≤ x ∧ x ≤ 34 then some (nI (ax_text x).length, h) else none
  | _ => none
def ax_strat (av : List Value) (h : ax_H) : Option (Int32 × ax_H) := match av with
  | [.ref x, .int i] => if 1 ≤ x ∧ x ≤ 34 ∧ ¬ i < 0 ∧ i.toNatClampNeg < (ax_text x).length then some (nI (((ax_text x).toList.map Char.toNat).getD i.toNatClampNeg 0), h) else none
  | _ => none
noncomputable def ax_sem (E : ax_Env) (N : Nat) : ax_T4 :=
  if N = 0 then (fun _ _ => none, ax_strlen, fun _ _ => none, fun _ _ => none)
  else if N = 1 then (fun _ _ => none, ax_strat, fun _ _ => none, fun _ _ => none)
  else (fun av h => if (lg_sl av).length ≤ (ax_M N).2.2.1 then ax_S ax_ρV E ax_nn (ax_rows N) (ax_rows N) (lv_args 0 av) [] h else none,
    fun av h => if (lg_sl av).length ≤ (ax_M N).2.2.1 then ax_S ax_ρI E ax_nn (ax_rows N) (ax_rows N) (lv_args 0 av) [] h else none,
    fun av h => if (lg_sl av).length ≤ (ax_M N).2.2.1 then ax_S ax_ρL E ax_nn (ax_rows N) (ax_rows N) (lv_args 0 av) [] h else none,
    fun av h => if (lg_sl av).length ≤ (ax_M N).2.2.1 then ax_S ax_ρR E ax_nn (ax_rows N) (ax_rows N) (lv_args 0 av) [] h else none)
def ax_env (f : Nat → ax_T4) (N : Nat) : ax_Env := (fun j av h => if j < N then (f j).1 av h else none, fun j av h => if j < N then (f j).2.1 av h else none, fun j av h => if j < N then (f j).2.2.1 av h else none, fun j av h => if j < N then (f j).2.2.2 av h else none)
noncomputable def ax_EE (N : Nat) : ax_T4 := ax_sem (ax_env (fun j => if h : j < N then ax_EE j else ax_none4) N) N
termination_by N
theorem ax_env_eq (N : Nat) : ax_env (fun j => if h : j < N then ax_EE j else ax_none4) N = ax_env ax_EE N := by
  unfold ax_env
  congr 1
  · funext j av h
    by_cases hj : j < N <;> simp [hj]
  · congr 1
    · funext j av h
      by_cases hj : j < N <;> simp [hj]
    · congr 1
      · funext j av h
        by_cases hj : j < N <;> simp [hj]
      · funext j av h
        by_cases hj : j < N <;> simp [hj]
theorem ax_EE_eq (N : Nat) : ax_EE N = ax_sem (ax_env ax_EE N) N := by
  rw [ax_EE, ax_env_eq]
theorem ax_entI {N : Nat} {C : List ax_E} {av : List Value} {h : ax_H} (hN : 2 ≤ N) (hC : ax_rows N = C) (hl : (lg_sl av).length ≤ (ax_M N).2.2.1) : (ax_EE N).2.1 av h = ax_in1 (ax_S ax_ρI (ax_env ax_EE N) ax_nn C) ax_ρI (ax_env ax_EE N) ax_nn C 4000 C (lv_args 0 av) [] h := by
  rw [← ax_S_eq, ax_EE_eq N, ax_sem, if_neg (by omega), if_neg (by omega), ← hC]
  show (if _ then _ else _) = _
  rw [if_pos hl]
theorem ax_entL {N : Nat} {C : List ax_E} {av : List Value} {h : ax_H} (hN : 2 ≤ N) (hC : ax_rows N = C) (hl : (lg_sl av).length ≤ (ax_M N).2.2.1) : (ax_EE N).2.2.1 av h = ax_in1 (ax_S ax_ρL (ax_env ax_EE N) ax_nn C) ax_ρL (ax_env ax_EE N) ax_nn C 4000 C (lv_args 0 av) [] h := by
  rw [← ax_S_eq, ax_EE_eq N, ax_sem, if_neg (by omega), if_neg (by omega), ← hC]
  show (if _ then _ else _) = _
  rw [if_pos hl]
theorem ax_entR {N : Nat} {C : List ax_E} {av : List Value} {h : ax_H} (hN : 2 ≤ N) (hC : ax_rows N = C) (hl : (lg_sl av).length ≤ (ax_M N).2.2.1) : (ax_EE N).2.2.2 av h = ax_in1 (ax_S ax_ρR (ax_env ax_EE N) ax_nn C) ax_ρR (ax_env ax_EE N) ax_nn C 4000 C (lv_args 0 av) [] h := by
  rw [← ax_S_eq, ax_EE_eq N, ax_sem, if_neg (by omega), if_neg (by omega), ← hC]
  show (if _ then _ else _) = _
  rw [if_pos hl]
theorem ax_entV {N : Nat} {C : List ax_E} {av : List Value} {h : ax_H} (hN : 2 ≤ N) (hC : ax_rows N = C) (hl : (lg_sl av).length ≤ (ax_M N).2.2.1) : (ax_EE N).1 av h = ax_in1 (ax_S ax_ρV (ax_env ax_EE N) ax_nn C) ax_ρV (ax_env ax_EE N) ax_nn C 4000 C (lv_args 0 av) [] h := by
  rw [← ax_S_eq, ax_EE_eq N, ax_sem, if_neg (by omega), if_neg (by omega), ← hC]
  show (if _ then _ else _) = _
  rw [if_pos hl]
end
section
/-! String.length and String.charAt of constants, as the JDK's code -/
abbrev ax_by (X : ax_X) (B : Nat × Nat × (Nat → Int32)) (U : State) : Prop := va_T .byte B.1 B.2.1 (fun k => .int (B.2.2 k)) (fun q => xB X ≤ q) U (xH X)
def ax_Pd (X : ax_X) (B : Nat × Nat × (Nat → Int32)) (As : List Value) (h : ax_H) : Array Value → State → Prop := fun v U => v = As.toArray ∧ ax_Rep X h U.heap ∧ ax_K X U ∧ ax_by X B U
theorem ax_Pd.blind {X : ax_X} {B : Nat × Nat × (Nat → Int32)} {As : List Value} {h : ax_H} : FrameBlind (ax_Pd X B As h) := fun a U g mk q => ⟨q.1, q.2.1, ax_K.same (u := U) (U := U.calling g mk a) rfl q.2.2.1, q.2.2.2⟩
abbrev ax_Md (l : Launch) (X : ax_X) (B : Nat × Nat × (Nat → Int32)) (y : MethodName) (bytes : ByteArray) (maxL : Nat) (ret : Option FieldType) (fr lo : Nat) (As : List Value) (h : ax_H) (o : Option Value) : Prop :=
  Met l y (Cond.code y bytes maxL ret :: ax_G) { frames := fr, cells := 0, slots := 0, locals := lo } (ax_Pd X B As h) (ax_Qc X o h) 0 0 (fun q => xB X ≤ q)
section AXD
variable {X : ax_X} {B : Nat × Nat × (Nat → Int32)} {h : ax_H} {y : MethodName} {bytes : ByteArray} {maxL fr lo : Nat} {ret : Option FieldType} {As : List Value} {o : Option Value}
theorem ax_sm (hy : plainFor y = true) (hsl : (lg_sl As).length ≤ maxL)
    (body : ∀ (p : Program) (l : Launch) (e : Env) (s : State) (m : MethodId) (below : List Frame) (meth : Method) (c : Code) (lsr : Array Slot), p.tables.exec = Jvm.exec → c.code = bytes → c.maxLocals = lsr.size → meth.sig.returnType = ret → meth.locks = false → (∀ w ∈ ax_G, w.before As.toArray s = true) → s.vm.findClass y.cls = some m.cls → ax_K X s → ax_by X B s → ax_Rep X h s.heap → lv_has lsr maxL (lv_args 0 As) →
      W p l e { frames := fr, cells := 0, slots := 0, locals := lo } s m As.toArray below meth c s.heap [] 0 0 (MQ below (ax_Qc X o h) As.toArray s 0 0 (fun q => xB X ≤ q)) (F0 m 0 lsr [])) (l : Launch) : ax_Md l X B y bytes maxL ret fr lo As h o := by
  refine va_MetF (cc := bytes) (maxL := maxL) (ret := ret) hy rfl ?_
  intro p e s m args below meth c s₁ BB hml hv
  obtain ⟨rfl, hRep, hK, hB⟩ := hv
  have hts0 := atoms_spec (ws := Cond.code y bytes maxL ret :: ax_G) BB.pre
  have hl := lv_entry As (n := maxL) hsl
  rw [lg_entry_eq]
  generalize (lg_sl As ++ List.replicate (maxL - (lg_sl As).length) Slot.unset).toArray = lsr at hl ⊢
  exact body p l e s m below meth c lsr BB.exec BB.bytes (by rw [hml]; exact hl.1.symm) BB.returns BB.notSynchronized (fun w hw => hts0 w (List.mem_cons_of_mem _ hw)) (findClass_of_methodNamed BB.named) hK hB hRep hl
variable {p : Program} {l : Launch} {e : Env} {R : Room} {s : State} {m : MethodId} {args : Array Value} {below : List Frame} {meth : Method} {c : Code} {Q : State → Prop} {cc : ByteArray}
variable {pc : Nat} {lsr : Array Slot} {rest : List Value} {H : Heap} {locs : List Loc} {cells slots : Nat} {own : String} {idx n : Nat}
theorem ax_Gwd (hts : ∀ w ∈ ax_G, w.before args s = true) (hM : Cond.code y bytes maxL ret ∈ ax_G) : ∀ w ∈ (Cond.code y bytes maxL ret :: ax_G), ∀ (a' : Array Value) (U : State), s.WarmedH U.vm → w.before a' U = true := by
  refine pay_in hts (fun w hw => ?_)
  rcases List.mem_cons.mp hw with rfl | hw
  · exact ⟨hM, Or.inl rfl⟩
  · exact ax_G_good w hw
theorem ax_preD (hK : ax_K X s) (hB : ax_by X B s) (hR : ax_Rep X h H) : ∀ U : State, U.heap = H → s.WarmedH U.vm → ax_Pd X B As h As.toArray U := fun U hU hW => ⟨rfl, by rw [hU]; exact hR, ax_K.warm hW hK, va_T.moved hW.alike hB⟩
/-- what a method of the JDK must be -/
def ax_Yok (y : MethodName) (bytes : ByteArray) (maxL : Nat) (ret : Option FieldType) (n : Nat) : Prop :=
  Cond.code y bytes maxL ret ∈ ax_G ∧ Cond.initialized y.cls ∈ ax_G ∧ (y.cls ≠ "java/lang/invoke/MethodHandle" ∧ y.cls ≠ "java/lang/invoke/VarHandle") ∧ (parseMethodDescriptor y.desc).map (fun d => d.parameters.length) = some n
theorem ax_dS (hexec : p.tables.exec = Jvm.exec) (hb : c.code = cc) (hml : c.maxLocals = lsr.size) (hts : ∀ w ∈ ax_G, w.before args s = true) (hown : s.vm.findClass own = some m.cls) (hK : ax_K X s) (hB : ax_by X B s) (hR : ax_Rep X h H) (hM : ax_Yok y bytes maxL ret n) (hI : Cond.static y ∈ ax_G) (hlink : Cond.methodLink own idx y ∈ ax_G) (hfr : fr + 1 ≤ R.frames) (hlc : 8 + (maxL + 11) + lo ≤ R.locals) (hav : As.length = n)
    (hrest : (rest.map fun v => v.category).sum ≤ 8) (hMet : ax_Md l X B y bytes maxL ret fr lo As h o) (hc1 : cells ≤ R.cells) (hc2 : slots ≤ R.slots) (hlo : ∀ l ∈ locs, xB X ≤ l.base) (hdg : decode cc pc = .ok (.invokestatic idx, 3))
    (kk : ∀ (H1 : Heap) (locs1 : List Loc), ax_Rep X h H1 → (∀ l ∈ locs1, xB X ≤ l.base) → W p l e R s m args below meth c H1 locs1 cells slots Q (F0 m (pc + 3) lsr ((o.map (ax_v X)).toList ++ rest))) : W p l e R s m args below meth c H locs cells slots Q (F0 m pc lsr (As.reverse ++ rest)) := by
  have hsig : ∀ sig, parseMethodDescriptor y.desc = some sig → n = sig.parameters.length := fun sig h => by have := hM.2.2.2; rw [h] at this; exact (Option.some.inj this).symm
  have hps : PreS s H (ax_Pd X B As h) As := ⟨ax_Pd.blind, ax_preD hK hB hR⟩
  exact ax_after (va_runS (cc := cc) (nL := lsr.size) (Ts := ax_G) (own := own) (bytes := bytes) (maxL := maxL) (ret := ret) (n := n) (As := As) (rest := rest) ⟨hexec, hb, hml, hown, hts⟩ hMet ⟨⟨rfl, rfl, hfr, hlc, ax_Gwd hts hM.1, List.mem_cons_self, hts _ hM.1, hts _ hM.2.1, hM.2.2.1, hsig, hts _ hlink⟩, hts _ hI⟩ hps rfl hav rfl rfl (by show 2 * 0 + _ ≤ 8; omega) hdg ⟨hc1, hc2⟩) hlo kk
theorem ax_dV (hexec : p.tables.exec = Jvm.exec) (hb : c.code = cc) (hml : c.maxLocals = lsr.size) (hts : ∀ w ∈ ax_G, w.before args s = true) (hown : s.vm.findClass own = some m.cls) (hK : ax_K X s) (hB : ax_by X B s) (hR : ax_Rep X h H) (hM : ax_Yok y bytes maxL ret n) (hI : Cond.instanceMethod y ∈ ax_G) (hse : Cond.selects y.cls y y ∈ ax_G) (hlink : Cond.methodLink own idx y ∈ ax_G) (hfr : fr + 1 ≤ R.frames) (hlc : 8 + (maxL + 11) + lo ≤ R.locals) (hav : As.length = n) {a : Nat}
    (hcell : ∃ cellB : Cell, H[a]? = some cellB ∧ cellB.vm.isStatics = false ∧ s.vm.findClass y.cls = some cellB.cls)
    (hrest : (rest.map fun v => v.category).sum ≤ 8) (hMet : ax_Md l X B y bytes maxL ret fr lo (.ref a :: As) h o) (hc1 : cells ≤ R.cells) (hc2 : slots ≤ R.slots) (hlo : ∀ l ∈ locs, xB X ≤ l.base) (hdg : decode cc pc = .ok (.invokevirtual idx, 3))
    (kk : ∀ (H1 : Heap) (locs1 : List Loc), ax_Rep X h H1 → (∀ l ∈ locs1, xB X ≤ l.base) → W p l e R s m args below meth c H1 locs1 cells slots Q (F0 m (pc + 3) lsr ((o.map (ax_v X)).toList ++ rest))) : W p l e R s m args below meth c H locs cells slots Q (F0 m pc lsr (As.reverse ++ .ref a :: rest)) := by
  have hsig : ∀ sig, parseMethodDescriptor y.desc = some sig → n = sig.parameters.length := fun sig h => by have := hM.2.2.2; rw [h] at this; exact (Option.some.inj this).symm
  have hpv : PreV s H y.cls a (ax_Pd X B (.ref a :: As) h) As := ⟨ax_Pd.blind, hcell, fun U hU hW => ax_preD hK hB hR (As := .ref a :: As) U hU hW⟩
  exact ax_after (va_runV (cc := cc) (nL := lsr.size) (Ts := ax_G) (own := own) (C := y.cls) (bytes := bytes) (maxL := maxL) (ret := ret) (n := n) (As := As) (rest := rest) ⟨hexec, hb, hml, hown, hts⟩ hMet ⟨⟨rfl, rfl, hfr, hlc, ax_Gwd hts hM.1, List.mem_cons_self, hts _ hM.1, hts _ hM.2.1, hM.2.2.1, hsig, hts _ hlink⟩, hts _ hI, hts _ hse⟩ hpv rfl hav rfl rfl (by show 2 * 0 + _ ≤ 8; omega) hdg ⟨hc1, hc2⟩) hlo kk
theorem ax_vS (hR : ax_Rep X h s.heap) (hR1 : ax_Rep X h H) (hlo : ∀ l ∈ locs, xB X ≤ l.base) : va_S (fun q => xB X ≤ q) s.heap H locs := by
  refine ⟨by rw [hR.2.1, hR1.2.1]; exact Nat.le_refl _, fun q _ hq => ?_, hlo⟩
  have : q < xB X := Nat.not_le.mp hq
  rw [hR.2.2.2.1 q this, hR1.2.2.2.1 q this]
theorem ax_old (hR : ax_Rep X h H) : ∀ a : Nat, a < (xH X).size → ¬ xB X ≤ a → H[a]? = (xH X)[a]? := fun a _ hn => hR.2.2.2.1 a (Nat.not_le.mp hn)
end AXD
abbrev ys_coder : MethodName := ⟨"java/lang/String", "coder", "()B"⟩
abbrev ys_lat : MethodName := ⟨"java/lang/String", "isLatin1", "()Z"⟩
abbrev ys_len : MethodName := ⟨"java/lang/String", "length", "()I"⟩
abbrev ys_at : MethodName := ⟨"java/lang/String", "charAt", "(I)C"⟩
abbrev ys_lat1 : MethodName := ⟨"java/lang/StringLatin1", "charAt", "([BI)C"⟩
abbrev ys_chk : MethodName := ⟨"java/lang/String", "checkIndex", "(II)V"⟩
abbrev ys_pre : MethodName := ⟨"jdk/internal/util/Preconditions", "checkIndex", "(IILjava/util/function/BiFunction;)I"⟩
theorem ys_coder_ok : ax_Yok ys_coder prog_17_method_152_code 1 (some .byte) 0 := ⟨by decide +kernel, by decide +kernel, by decide, by decide +kernel⟩
theorem ys_lat_ok : ax_Yok ys_lat prog_17_method_154_code 1 (some .boolean) 0 := ⟨by decide +kernel, by decide +kernel, by decide, by decide +kernel⟩
theorem ys_lat1_ok : ax_Yok ys_lat1 prog_18_method_2_code 2 (some .char) 2 := ⟨by decide +kernel, by decide +kernel, by decide, by decide +kernel⟩
theorem ys_chk_ok : ax_Yok ys_chk prog_17_method_155_code 2 none 2 := ⟨by decide +kernel, by decide +kernel, by decide, by decide +kernel⟩
theorem ys_pre_ok : ax_Yok ys_pre prog_21_method_11_code 3 (some .int) 3 := ⟨by decide +kernel, by decide +kernel, by decide, by decide +kernel⟩
theorem yd_cod_0 : decode prog_17_method_152_code 0 = .ok (.getstatic 38, 3) := by decide +kernel
theorem yd_cod_3 : decode prog_17_method_152_code 3 = .ok (.ifCond .eq 10, 3) := by decide +kernel
theorem yd_cod_6 : decode prog_17_method_152_code 6 = .ok (.aload_n 0, 1) := by decide +kernel
theorem yd_cod_7 : decode prog_17_method_152_code 7 = .ok (.getfield 15, 3) := by decide +kernel
theorem yd_cod_10 : decode prog_17_method_152_code 10 = .ok (.goto 4, 3) := by decide +kernel
theorem yd_cod_14 : decode prog_17_method_152_code 14 = .ok (.ireturn, 1) := by decide +kernel
theorem yd_lat_0 : decode prog_17_method_154_code 0 = .ok (.getstatic 38, 3) := by decide +kernel
theorem yd_lat_3 : decode prog_17_method_154_code 3 = .ok (.ifCond .eq 14, 3) := by decide +kernel
theorem yd_lat_6 : decode prog_17_method_154_code 6 = .ok (.aload_n 0, 1) := by decide +kernel
theorem yd_lat_7 : decode prog_17_method_154_code 7 = .ok (.getfield 15, 3) := by decide +kernel
theorem yd_lat_10 : decode prog_17_method_154_code 10 = .ok (.ifCond .ne 7, 3) := by decide +kernel
theorem yd_lat_13 : decode prog_17_method_154_code 13 = .ok (.iconst 1, 1) := by decide +kernel
theorem yd_lat_14 : decode prog_17_method_154_code 14 = .ok (.goto 4, 3) := by decide +kernel
theorem yd_lat_18 : decode prog_17_method_154_code 18 = .ok (.ireturn, 1) := by decide +kernel
theorem yd_pre_0 : decode prog_21_method_11_code 0 = .ok (.iload_n 0, 1) := by decide +kernel
theorem yd_pre_1 : decode prog_21_method_11_code 1 = .ok (.ifCond .lt 8, 3) := by decide +kernel
theorem yd_pre_4 : decode prog_21_method_11_code 4 = .ok (.iload_n 0, 1) := by decide +kernel
theorem yd_pre_5 : decode prog_21_method_11_code 5 = .ok (.iload_n 1, 1) := by decide +kernel
theorem yd_pre_6 : decode prog_21_method_11_code 6 = .ok (.if_icmp .lt 10, 3) := by decide +kernel
theorem yd_pre_16 : decode prog_21_method_11_code 16 = .ok (.iload_n 0, 1) := by decide +kernel
theorem yd_pre_17 : decode prog_21_method_11_code 17 = .ok (.ireturn, 1) := by decide +kernel
theorem yd_chk_0 : decode prog_17_method_155_code 0 = .ok (.iload_n 0, 1) := by decide +kernel
theorem yd_chk_1 : decode prog_17_method_155_code 1 = .ok (.iload_n 1, 1) := by decide +kernel
theorem yd_chk_2 : decode prog_17_method_155_code 2 = .ok (.getstatic 1053, 3) := by decide +kernel
theorem yd_chk_5 : decode prog_17_method_155_code 5 = .ok (.invokestatic 1059, 3) := by decide +kernel
theorem yd_chk_8 : decode prog_17_method_155_code 8 = .ok (.pop, 1) := by decide +kernel
theorem yd_chk_9 : decode prog_17_method_155_code 9 = .ok (.return_, 1) := by decide +kernel
theorem yd_la1_0 : decode prog_18_method_2_code 0 = .ok (.iload_n 1, 1) := by decide +kernel
theorem yd_la1_1 : decode prog_18_method_2_code 1 = .ok (.aload_n 0, 1) := by decide +kernel
theorem yd_la1_2 : decode prog_18_method_2_code 2 = .ok (.arraylength, 1) := by decide +kernel
theorem yd_la1_3 : decode prog_18_method_2_code 3 = .ok (.invokestatic 9, 3) := by decide +kernel
theorem yd_la1_6 : decode prog_18_method_2_code 6 = .ok (.aload_n 0, 1) := by decide +kernel
theorem yd_la1_7 : decode prog_18_method_2_code 7 = .ok (.iload_n 1, 1) := by decide +kernel
theorem yd_la1_8 : decode prog_18_method_2_code 8 = .ok (.baload, 1) := by decide +kernel
theorem yd_la1_9 : decode prog_18_method_2_code 9 = .ok (.sipush 255, 3) := by decide +kernel
theorem yd_la1_12 : decode prog_18_method_2_code 12 = .ok (.iand, 1) := by decide +kernel
theorem yd_la1_13 : decode prog_18_method_2_code 13 = .ok (.i2c, 1) := by decide +kernel
theorem yd_la1_14 : decode prog_18_method_2_code 14 = .ok (.ireturn, 1) := by decide +kernel
theorem yd_len_0 : decode prog_17_method_54_code 0 = .ok (.aload_n 0, 1) := by decide +kernel
theorem yd_len_1 : decode prog_17_method_54_code 1 = .ok (.getfield 9, 3) := by decide +kernel
theorem yd_len_4 : decode prog_17_method_54_code 4 = .ok (.arraylength, 1) := by decide +kernel
theorem yd_len_5 : decode prog_17_method_54_code 5 = .ok (.aload_n 0, 1) := by decide +kernel
theorem yd_len_6 : decode prog_17_method_54_code 6 = .ok (.invokevirtual 335, 3) := by decide +kernel
theorem yd_len_9 : decode prog_17_method_54_code 9 = .ok (.ishr, 1) := by decide +kernel
theorem yd_len_10 : decode prog_17_method_54_code 10 = .ok (.ireturn, 1) := by decide +kernel
theorem yd_at_0 : decode prog_17_method_56_code 0 = .ok (.aload_n 0, 1) := by decide +kernel
theorem yd_at_1 : decode prog_17_method_56_code 1 = .ok (.invokevirtual 492, 3) := by decide +kernel
theorem yd_at_4 : decode prog_17_method_56_code 4 = .ok (.ifCond .eq 12, 3) := by decide +kernel
theorem yd_at_7 : decode prog_17_method_56_code 7 = .ok (.aload_n 0, 1) := by decide +kernel
theorem yd_at_8 : decode prog_17_method_56_code 8 = .ok (.getfield 9, 3) := by decide +kernel
theorem yd_at_11 : decode prog_17_method_56_code 11 = .ok (.iload_n 1, 1) := by decide +kernel
theorem yd_at_12 : decode prog_17_method_56_code 12 = .ok (.invokestatic 495, 3) := by decide +kernel
theorem yd_at_15 : decode prog_17_method_56_code 15 = .ok (.ireturn, 1) := by decide +kernel
theorem ys_ws : Cond.fieldLink "java/lang/String" 38 "java/lang/String" "COMPACT_STRINGS" "Z" ∈ ax_G ∧ Cond.fieldLink "java/lang/String" 9 "java/lang/String" "value" "[B" ∈ ax_G ∧ Cond.fieldLink "java/lang/String" 15 "java/lang/String" "coder" "B" ∈ ax_G ∧ Cond.fieldLink "java/lang/String" 1053 "jdk/internal/util/Preconditions" "SIOOBE_FORMATTER" "Ljava/util/function/BiFunction;" ∈ ax_G := ⟨by decide +kernel, by decide +kernel, by decide +kernel, by decide +kernel⟩
theorem ys_wl : Cond.methodLink "java/lang/String" 335 ys_coder ∈ ax_G ∧ Cond.methodLink "java/lang/String" 492 ys_lat ∈ ax_G ∧ Cond.methodLink "java/lang/String" 495 ys_lat1 ∈ ax_G ∧ Cond.methodLink "java/lang/StringLatin1" 9 ys_chk ∈ ax_G ∧ Cond.methodLink "java/lang/String" 1059 ys_pre ∈ ax_G := ⟨by decide +kernel, by decide +kernel, by decide +kernel, by decide +kernel, by decide +kernel⟩
theorem ys_wi : Cond.instanceMethod ys_coder ∈ ax_G ∧ Cond.selects "java/lang/String" ys_coder ys_coder ∈ ax_G ∧ Cond.instanceMethod ys_lat ∈ ax_G ∧ Cond.selects "java/lang/String" ys_lat ys_lat ∈ ax_G ∧ Cond.static ys_lat1 ∈ ax_G ∧ Cond.static ys_chk ∈ ax_G ∧ Cond.static ys_pre ∈ ax_G := ⟨by decide +kernel, by decide +kernel, by decide +kernel, by decide +kernel, by decide +kernel, by decide +kernel, by decide +kernel⟩
section AXD2
variable {X : ax_X} {B : Nat × Nat × (Nat → Int32)} {h : ax_H}
/-- constant number i, seen in the heap -/
theorem ax_strH {U : State} {H : Heap} (hR : ax_Rep X h H) {i : Nat} {tx : String} (hs : ax_str X U i tx) : ∃ v : Nat, va_O "java/lang/String" (xA X (i + 1)) (fun q => xB X ≤ q) U H ∧ va_OF "java/lang/String" "coder" "B" (.int 0) (xA X (i + 1)) (fun q => xB X ≤ q) U H ∧ va_OF "java/lang/String" "value" "[B" (.ref v) (xA X (i + 1)) (fun q => xB X ≤ q) U H ∧ va_T .byte v tx.length (fun j => .int (nI ((tx.toList.map Char.toNat).getD j 0))) (fun q => xB X ≤ q) U H := by
  obtain ⟨v, h1, h2, h3, h4⟩ := hs
  exact ⟨v, h1.kept (ax_old hR), h2.kept (ax_old hR), h3.kept (ax_old hR), h4.kept (ax_old hR)⟩
theorem ym_coder {i : Nat} {q : String × Nat × String} (hi : ax_strs[i]? = some q) (l : Launch) : ax_Md l X B ys_coder prog_17_method_152_code 1 (some .byte) 0 0 [.ref (xA X (i + 1))] h (some (.int 0)) := by
  refine ax_sm (by decide +kernel) (by exact Nat.le_refl 1) ?_ l
  intro p l e s m below meth c lsr hx hb hml hr hlk hts hown hK hB hR hl
  obtain ⟨v, h1, h2, h3, h4⟩ := ax_strH hR (hK.2.2.1 i q hi).2
  have hZ := hK.2.2.2.2.2.2.2.2.1.kept (ax_old hR)
  have hS := ax_vS (locs := []) hR hR (fun _ q => by cases q)
  refine va_gets hx hb hZ hS hown (hts _ ys_ws.1) (fun _ q => q) yd_cod_0 ?_
  refine lv_if_eq hx hb (tgt := 13) yd_cod_3 rfl (fun q => absurd q (by decide)) (fun _ => ?_)
  refine lv_aload_n hx hb yd_cod_6 rfl (lv_at hl 0 rfl) ?_
  refine vk_getf hx hb h2 hS hown (hts _ ys_ws.2.2.1) (fun _ q => q) yd_cod_7 ?_
  refine lv_goto hx hb (tgt := 14) yd_cod_10 rfl ?_
  exact W.zret (v := 0) (ty := .byte) hx hb hr rfl (fun t ht hW => ⟨rfl, by rw [ht]; exact hR⟩) (fun _ q => by cases q) yd_cod_14
theorem ym_lat {i : Nat} {q : String × Nat × String} (hi : ax_strs[i]? = some q) (l : Launch) : ax_Md l X B ys_lat prog_17_method_154_code 1 (some .boolean) 0 0 [.ref (xA X (i + 1))] h (some (.int 1)) := by
  refine ax_sm (by decide +kernel) (by exact Nat.le_refl 1) ?_ l
  intro p l e s m below meth c lsr hx hb hml hr hlk hts hown hK hB hR hl
  obtain ⟨v, h1, h2, h3, h4⟩ := ax_strH hR (hK.2.2.1 i q hi).2
  have hZ := hK.2.2.2.2.2.2.2.2.1.kept (ax_old hR)
  have hS := ax_vS (locs := []) hR hR (fun _ q => by cases q)
  refine va_gets hx hb hZ hS hown (hts _ ys_ws.1) (fun _ q => q) yd_lat_0 ?_
  refine lv_if_eq hx hb (tgt := 17) yd_lat_3 rfl (fun q => absurd q (by decide)) (fun _ => ?_)
  refine lv_aload_n hx hb yd_lat_6 rfl (lv_at hl 0 rfl) ?_
  refine vk_getf hx hb h2 hS hown (hts _ ys_ws.2.2.1) (fun _ q => q) yd_lat_7 ?_
  refine lv_if_ne hx hb (tgt := 17) yd_lat_10 rfl (fun q => absurd rfl q) (fun _ => ?_)
  refine lv_iconst hx hb (v := 1) yd_lat_13 (by decide) ?_
  refine lv_goto hx hb (tgt := 18) yd_lat_14 rfl ?_
  exact W.zret (v := 1) (ty := .boolean) hx hb hr rfl (fun t ht hW => ⟨rfl, by rw [ht]; exact hR⟩) (fun _ q => by cases q) yd_lat_18
theorem ym_pre {a b : Int32} {z : Value} (hz : z.category = 1) (h0 : ¬ a < 0) (h1 : a < b) (l : Launch) : ax_Md l X B ys_pre prog_21_method_11_code 3 (some .int) 0 0 [.int a, .int b, z] h (some (.int a)) := by
  refine ax_sm (by decide +kernel) (by cases z <;> first | exact Nat.le_refl 3 | (cases hz)) ?_ l
  intro p l e s m below meth c lsr hx hb hml hr hlk hts hown hK hB hR hl
  refine lv_iload_n hx hb yd_pre_0 rfl (lv_at hl 0 rfl) ?_
  refine lv_if_lt hx hb (tgt := 9) yd_pre_1 rfl (fun q => absurd q h0) (fun _ => ?_)
  refine lv_iload_n hx hb yd_pre_4 rfl (lv_at hl 0 rfl) ?_
  refine lv_iload_n hx hb yd_pre_5 rfl (lv_at hl 1 rfl) ?_
  refine lv_icmp_lt hx hb (tgt := 16) yd_pre_6 rfl (fun _ => ?_) (fun q => absurd h1 q)
  refine lv_iload_n hx hb yd_pre_16 rfl (lv_at hl 0 rfl) ?_
  exact W.iret (v := a) hx hb hr (fun t ht hW => ⟨rfl, by rw [ht]; exact hR⟩) (fun _ q => by cases q) yd_pre_17
theorem ym_chk {a b : Int32} (h0 : ¬ a < 0) (h1 : a < b) (l : Launch) : ax_Md l X B ys_chk prog_17_method_155_code 2 none 1 22 [.int a, .int b] h none := by
  refine ax_sm (by decide +kernel) (by exact Nat.le_refl 2) ?_ l
  intro p l e s m below meth c lsr hx hb hml hr hlk hts hown hK hB hR hl
  have hS := ax_vS (locs := []) hR hR (fun _ q => by cases q)
  refine lv_iload_n hx hb yd_chk_0 rfl (lv_at hl 0 rfl) ?_
  refine lv_iload_n hx hb yd_chk_1 rfl (lv_at hl 1 rfl) ?_
  have key : ∀ z : Value, z.category = 1 → va_Z "jdk/internal/util/Preconditions" "SIOOBE_FORMATTER" "Ljava/util/function/BiFunction;" z (fun q => xB X ≤ q) s s.heap → W p l e { frames := 1, cells := 0, slots := 0, locals := 22 } s m [Value.int a, Value.int b].toArray below meth c s.heap [] 0 0 (MQ below (ax_Qc X none h) [Value.int a, Value.int b].toArray s 0 0 (fun q => xB X ≤ q)) (F0 m (0 + 1 + 1) lsr [.int b, .int a]) := by
    intro z hz hZ
    refine va_gets hx hb hZ hS hown (hts _ ys_ws.2.2.2) (fun _ q => q) yd_chk_2 ?_
    refine ax_dS (As := [.int a, .int b, z]) (rest := []) hx hb hml hts hown hK hB hR ys_pre_ok ys_wi.2.2.2.2.2.2 ys_wl.2.2.2.2 (by decide) (by decide) rfl (by decide) (ym_pre hz h0 h1 l) (by decide) (by decide) (fun _ q => by cases q) yd_chk_5 ?_
    intro H1 locs1 hR1 hlo1
    refine lv_pop hx hb yd_chk_8 rfl ?_
    exact W.vret hx hb hr (fun t ht hW => ⟨rfl, by rw [ht]; exact hR1⟩) hlo1 yd_chk_9
  have hZ := hK.2.2.2.2.2.2.2.2.2.kept (ax_old hR)
  rcases hZ with hZ | ⟨t, hZ⟩
  · exact key .null rfl hZ
  · exact key (.ref t) rfl hZ
theorem ym_lat1 {j : Int32} {r : Int32} (hN : B.2.1 < 2 ^ 31) (h0 : ¬ j < 0) (h1 : j.toNatClampNeg < B.2.1) (hr1 : ((B.2.2 j.toNatClampNeg &&& 255).toUInt32 % 65536).toInt32 = r) (hr2 : narrow .char (.int r) = .int r) (l : Launch) : ax_Md l X B ys_lat1 prog_18_method_2_code 2 (some .char) 2 43 [.ref B.1, .int j] h (some (.int r)) := by
  refine ax_sm (by decide +kernel) (by exact Nat.le_refl 2) ?_ l
  intro p l e s m below meth c lsr hx hb hml hr hlk hts hown hK hB hR hl
  have hS := ax_vS (locs := []) hR hR (fun _ q => by cases q)
  have hTs := va_T.kept hB (ax_old hR)
  refine lv_iload_n hx hb yd_la1_0 rfl (lv_at hl 1 rfl) ?_
  refine lv_aload_n hx hb yd_la1_1 rfl (lv_at hl 0 rfl) ?_
  refine va_tlen hx hb hTs hS (v := Int32.ofNat B.2.1) rfl yd_la1_2 ?_
  have hlt : j < Int32.ofNat B.2.1 := Int32.lt_iff_toInt_lt.mpr (by rw [ax_nnI h0, Int32.toInt_ofNat_of_lt hN]; omega)
  refine ax_dS (As := [.int j, .int (Int32.ofNat B.2.1)]) (rest := []) hx hb hml hts hown hK hB hR ys_chk_ok ys_wi.2.2.2.2.2.1 ys_wl.2.2.2.1 (by decide) (by decide) rfl (by decide) (ym_chk h0 hlt l) (by decide) (by decide) (fun _ q => by cases q) yd_la1_3 ?_
  intro H1 locs1 hR1 hlo1
  have hS1 := ax_vS hR hR1 hlo1
  refine lv_aload_n hx hb yd_la1_6 rfl (lv_at hl 0 rfl) ?_
  refine lv_iload_n hx hb yd_la1_7 rfl (lv_at hl 1 rfl) ?_
  refine va_tb hx hb hTs hS1 (ax_nin h0 h1 rfl) (v := .int (B.2.2 j.toNatClampNeg)) rfl yd_la1_8 ?_
  refine lv_sipush hx hb (v := 255) yd_la1_9 (by decide) ?_
  refine lv_iand hx hb yd_la1_12 ?_
  refine lv_i2c hx hb (v := r) yd_la1_13 hr1 ?_
  exact W.zret (v := r) (ty := .char) hx hb hr hr2 (fun t ht hW => ⟨rfl, by rw [ht]; exact hR1⟩) hlo1 yd_la1_14
/-- String.length -/
theorem ym_len {x : Nat} (hx1 : 1 ≤ x) (hx2 : x ≤ 34) (l : Launch) : Met l ys_len (Cond.code ys_len prog_17_method_54_code 1 (some .int) :: ax_G) { frames := 3, cells := 0, slots := 0, locals := 64 } (ax_Pc X [.ref x] h) (ax_Qc X (some (.int (nI (ax_text x).length))) h) 0 0 (fun q => xB X ≤ q) := by
  refine va_MetF (cc := prog_17_method_54_code) (maxL := 1) (ret := some .int) (by decide +kernel) rfl ?_
  intro p e s m args below meth c s₁ BB hml hv
  obtain ⟨rfl, hR, hK⟩ := hv
  have hx := BB.exec
  have hb := BB.bytes
  have hr := BB.returns
  have hlocks := BB.notSynchronized
  have hts0 := atoms_spec (ws := Cond.code ys_len prog_17_method_54_code 1 (some .int) :: ax_G) BB.pre
  have hts : ∀ w ∈ ax_G, w.before ([Value.ref x].map (ax_v X)).toArray s = true := fun w hw => hts0 w (List.mem_cons_of_mem _ hw)
  have hown := findClass_of_methodNamed BB.named
  have hl := lv_entry ([Value.ref x].map (ax_v X)) (n := 1) (by rw [ax_lgsl]; exact Nat.le_refl 1)
  rw [lg_entry_eq]
  generalize (lg_sl ([Value.ref x].map (ax_v X)) ++ List.replicate (1 - (lg_sl ([Value.ref x].map (ax_v X))).length) Slot.unset).toArray = lsr at hl ⊢
  have hlen : x - 1 < ax_strs.length := by
    have : ax_strs.length = 34 := rfl
    omega
  have hi := List.getElem?_eq_getElem hlen
  have hxe : x - 1 + 1 = x := by omega
  have hax : ax_v X (.ref x) = .ref (xA X (x - 1 + 1)) := by rw [hxe, ax_v_ref (by omega), ax_r, if_pos (by omega)]
  have htx : ax_text x = (ax_strs[x - 1]'hlen).2.2 := by unfold ax_text; rw [List.getD_eq_getElem?_getD, hi]; rfl
  have hstr := (hK.2.2.1 (x - 1) _ hi).2
  obtain ⟨v, h1, h2, h3, h4⟩ := hstr
  have hT := h4
  replace h1 := h1.kept (ax_old hR)
  replace h3 := h3.kept (ax_old hR)
  replace h4 := h4.kept (ax_old hR)
  have hS := ax_vS (locs := []) hR hR (fun _ q => by cases q)
  have hl0 : lsr[0]? = some (.val (.ref (xA X (x - 1 + 1)))) := by rw [← hax]; exact lv_at hl 0 rfl
  refine lv_aload_n hx hb yd_len_0 rfl hl0 ?_
  refine vk_getf hx hb h3 hS hown (hts _ ys_ws.2.1) (fun _ q => q) yd_len_1 ?_
  refine va_tlen hx hb h4 hS (v := Int32.ofNat (ax_strs[x - 1]'hlen).2.2.length) rfl yd_len_4 ?_
  refine lv_aload_n hx hb yd_len_5 rfl hl0 ?_
  obtain ⟨cell, g1, g2, g3, g4⟩ := h1
  refine ax_dV (As := []) (rest := [.int (Int32.ofNat (ax_strs[x - 1]'hlen).2.2.length)]) (B := (v, (ax_strs[x - 1]'hlen).2.2.length, fun k => nI (((ax_strs[x - 1]'hlen).2.2.toList.map Char.toNat).getD k 0))) hx hb (by rw [hml]; exact hl.1.symm) hts hown hK hT hR ys_coder_ok ys_wi.1 ys_wi.2.1 ys_wl.1 (show 0 + 1 ≤ 3 by decide) (show 8 + (1 + 11) + 0 ≤ 64 by decide) rfl ⟨cell, g1, g2, g3⟩ (show (1 : Nat) ≤ 8 by decide) (ym_coder (B := (v, (ax_strs[x - 1]'hlen).2.2.length, fun k => nI (((ax_strs[x - 1]'hlen).2.2.toList.map Char.toNat).getD k 0))) hi l) (Nat.le_refl 0) (Nat.le_refl 0) (fun _ q => by cases q) yd_len_6 ?_
  intro H1 locs1 hR1 hlo1
  refine lv_ishr hx hb yd_len_9 ?_
  have e0 : ∀ z : Int32, z >>> ((0 : Int32) &&& 31) = z := fun z => by simp
  rw [e0, htx]
  exact W.iret (v := nI (ax_strs[x - 1]'hlen).2.2.length) hx hb hr (fun t ht hW => ⟨rfl, by rw [ht]; exact hR1⟩) hlo1 yd_len_10
theorem ax_chr : ∀ i, i < 34 → ∀ j, j < (ax_strs.getD i ("", 0, "")).2.2.length → ((nI (((ax_strs.getD i ("", 0, "")).2.2.toList.map Char.toNat).getD j 0) &&& 255).toUInt32 % 65536).toInt32 = nI (((ax_strs.getD i ("", 0, "")).2.2.toList.map Char.toNat).getD j 0) ∧ narrow .char (.int (nI (((ax_strs.getD i ("", 0, "")).2.2.toList.map Char.toNat).getD j 0))) = .int (nI (((ax_strs.getD i ("", 0, "")).2.2.toList.map Char.toNat).getD j 0)) := by decide +kernel
theorem ax_tlen : ∀ i, i < 34 → (ax_strs.getD i ("", 0, "")).2.2.length < 2 ^ 31 := by decide +kernel
/-- String.charAt -/
theorem ym_at {x : Nat} {j : Int32} (hx1 : 1 ≤ x) (hx2 : x ≤ 34) (h0 : ¬ j < 0) (hj : j.toNatClampNeg < (ax_text x).length) (l : Launch) : Met l ys_at (Cond.code ys_at prog_17_method_56_code 2 (some .char) :: ax_G) { frames := 3, cells := 0, slots := 0, locals := 64 } (ax_Pc X [.ref x, .int j] h) (ax_Qc X (some (.int (nI (((ax_text x).toList.map Char.toNat).getD j.toNatClampNeg 0)))) h) 0 0 (fun q => xB X ≤ q) := by
  refine va_MetF (cc := prog_17_method_56_code) (maxL := 2) (ret := some .char) (by decide +kernel) rfl ?_
  intro p e s m args below meth c s₁ BB hml hv
  obtain ⟨rfl, hR, hK⟩ := hv
  have hx := BB.exec
  have hb := BB.bytes
  have hr := BB.returns
  have hlocks := BB.notSynchronized
  have hts0 := atoms_spec (ws := Cond.code ys_at prog_17_method_56_code 2 (some .char) :: ax_G) BB.pre
  have hts : ∀ w ∈ ax_G, w.before ([Value.ref x, .int j].map (ax_v X)).toArray s = true := fun w hw => hts0 w (List.mem_cons_of_mem _ hw)
  have hown := findClass_of_methodNamed BB.named
  have hl := lv_entry ([Value.ref x, .int j].map (ax_v X)) (n := 2) (by rw [ax_lgsl]; exact Nat.le_refl 2)
  rw [lg_entry_eq]
  generalize (lg_sl ([Value.ref x, .int j].map (ax_v X)) ++ List.replicate (2 - (lg_sl ([Value.ref x, .int j].map (ax_v X))).length) Slot.unset).toArray = lsr at hl ⊢
  have hlen : x - 1 < ax_strs.length := by
    have : ax_strs.length = 34 := rfl
    omega
  have hi := List.getElem?_eq_getElem hlen
  have hxe : x - 1 + 1 = x := by omega
  have hax : ax_v X (.ref x) = .ref (xA X (x - 1 + 1)) := by rw [hxe, ax_v_ref (by omega), ax_r, if_pos (by omega)]
  have hgd : ax_strs.getD (x - 1) ("", 0, "") = ax_strs[x - 1]'hlen := by rw [List.getD_eq_getElem?_getD, hi]; rfl
  have htx : ax_text x = (ax_strs[x - 1]'hlen).2.2 := by unfold ax_text; rw [hgd]
  have hstr := (hK.2.2.1 (x - 1) _ hi).2
  obtain ⟨v, h1, h2, h3, h4⟩ := hstr
  have hT := h4
  replace h1 := h1.kept (ax_old hR)
  replace h3 := h3.kept (ax_old hR)
  have hS := ax_vS (locs := []) hR hR (fun _ q => by cases q)
  have hl0 : lsr[0]? = some (.val (.ref (xA X (x - 1 + 1)))) := by
    have : lsr[0]? = some (.val (ax_v X (.ref x))) := lv_at hl 0 rfl
    rw [this, hax]
  have hl1 : lsr[1]? = some (.val (.int j)) := by
    have : (1, Value.int j) ∈ lv_args 0 ([Value.ref x, .int j].map (ax_v X)) := by
      rw [List.map_cons, hax]
      exact List.mem_cons_of_mem _ List.mem_cons_self
    exact hl.2.2 _ this
  have hc1 := ax_chr (x - 1) (by omega) j.toNatClampNeg (by rw [hgd, ← htx]; exact hj)
  have hc2 := ax_tlen (x - 1) (by omega)
  rw [hgd] at hc1 hc2
  rw [htx] at hj ⊢
  refine lv_aload_n hx hb yd_at_0 rfl hl0 ?_
  obtain ⟨cell, g1, g2, g3, g4⟩ := h1
  refine ax_dV (As := []) (rest := []) (B := (v, (ax_strs[x - 1]'hlen).2.2.length, fun k => nI (((ax_strs[x - 1]'hlen).2.2.toList.map Char.toNat).getD k 0))) hx hb (by rw [hml]; exact hl.1.symm) hts hown hK hT hR ys_lat_ok ys_wi.2.2.1 ys_wi.2.2.2.1 ys_wl.2.1 (show 0 + 1 ≤ 3 by decide) (show 8 + (1 + 11) + 0 ≤ 64 by decide) rfl ⟨cell, g1, g2, g3⟩ (by decide) (ym_lat (B := (v, (ax_strs[x - 1]'hlen).2.2.length, fun k => nI (((ax_strs[x - 1]'hlen).2.2.toList.map Char.toNat).getD k 0))) hi l) (Nat.le_refl 0) (Nat.le_refl 0) (fun _ q => by cases q) yd_at_1 ?_
  intro H1 locs1 hR1 hlo1
  have hS1 := ax_vS hR hR1 hlo1
  refine lv_if_eq hx hb (tgt := 16) yd_at_4 rfl (fun q => absurd q (by decide)) (fun _ => ?_)
  refine lv_aload_n hx hb yd_at_7 rfl hl0 ?_
  refine vk_getf hx hb h3 hS1 hown (hts _ ys_ws.2.1) (fun _ q => q) yd_at_8 ?_
  refine lv_iload_n hx hb yd_at_11 rfl hl1 ?_
  refine ax_dS (As := [.ref v, .int j]) (rest := []) (B := (v, (ax_strs[x - 1]'hlen).2.2.length, fun k => nI (((ax_strs[x - 1]'hlen).2.2.toList.map Char.toNat).getD k 0))) hx hb (by rw [hml]; exact hl.1.symm) hts hown hK hT hR1 ys_lat1_ok ys_wi.2.2.2.2.1 ys_wl.2.2.1 (show 2 + 1 ≤ 3 by decide) (show 8 + (2 + 11) + 43 ≤ 64 by decide) rfl (by decide) (ym_lat1 (B := (v, (ax_strs[x - 1]'hlen).2.2.length, fun k => nI (((ax_strs[x - 1]'hlen).2.2.toList.map Char.toNat).getD k 0))) (r := nI (((ax_strs[x - 1]'hlen).2.2.toList.map Char.toNat).getD j.toNatClampNeg 0)) hc2 h0 hj hc1.1 hc1.2 l) (Nat.le_refl 0) (Nat.le_refl 0) hlo1 yd_at_12 ?_
  intro H2 locs2 hR2 hlo2
  exact W.zret (v := nI (((ax_strs[x - 1]'hlen).2.2.toList.map Char.toNat).getD j.toNatClampNeg 0)) (ty := .char) hx hb hr hc1.2 (fun t ht hW => ⟨rfl, by rw [ht]; exact hR2⟩) hlo2 yd_at_15
end AXD2
theorem ax_M_0 : ax_M 0 = (ys_len, prog_17_method_54_code, 1, some .int, (ax_M 0).2.2.2.2.1, 3, 64) := rfl
theorem ax_M_1 : ax_M 1 = (ys_at, prog_17_method_56_code, 2, some .char, (ax_M 1).2.2.2.2.1, 3, 64) := rfl
theorem ax_strlen_ok {av : List Value} {h h' : ax_H} {r : Int32} (hs : ax_strlen av h = some (r, h')) : ax_Imp ax_M 0 av h (some (.int r)) h' := by
  unfold ax_strlen at hs
  split at hs
  · rename_i x
    split at hs
    · rename_i hx
      cases hs
      refine ⟨Nat.le_refl _, Nat.le_refl _, fun l X => ?_⟩
      rw [Nat.sub_self, Nat.sub_self]
      rw [ax_M_0]
      exact ym_len hx.1 hx.2 l
    · cases hs
  · cases hs
theorem ax_strat_ok {av : List Value} {h h' : ax_H} {r : Int32} (hs : ax_strat av h = some (r, h')) : ax_Imp ax_M 1 av h (some (.int r)) h' := by
  unfold ax_strat at hs
  split at hs
  · rename_i x i
    split at hs
    · rename_i hx
      cases hs
      refine ⟨Nat.le_refl _, Nat.le_refl _, fun l X => ?_⟩
      rw [Nat.sub_self, Nat.sub_self]
      rw [ax_M_1]
      exact ym_at hx.1 hx.2.1 hx.2.2.1 hx.2.2.2 l
    · cases hs
  · cases hs
end
