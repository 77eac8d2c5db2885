-- ===== PART A: goes FIRST, ahead of the names: the tables' words, and 'selects' of the private methods out of them =====
/-- a private method of a class that the tables say can be made, by its rows of tables_1 -/
def lw_okq (q : MethodName × Nat) : Prop := (q.1.cls ≠ "java/lang/invoke/MethodHandle" ∧ q.1.cls ≠ "java/lang/invoke/VarHandle") ∧ Cond.instantiable q.1.cls q.2 ∈ tables_1 ∧ Cond.privateMethod q.1 ∈ tables_1 ∧ Cond.instanceMethod q.1 ∈ tables_1
theorem lw_p0 : lw_okq (⟨"BlackMill$MillText", "clause", "(LBlackMill$Tape;)V"⟩, 6) := ⟨⟨by decide +kernel, by decide +kernel⟩, List.mem_of_getElem? (i := 58) (by decide +kernel), List.mem_of_getElem? (i := 352) (by decide +kernel), List.mem_of_getElem? (i := 353) (by decide +kernel)⟩
theorem lw_p1 : lw_okq (⟨"BlackMill$MillText", "isWhole", "()Z"⟩, 6) := ⟨⟨by decide +kernel, by decide +kernel⟩, List.mem_of_getElem? (i := 58) (by decide +kernel), List.mem_of_getElem? (i := 465) (by decide +kernel), List.mem_of_getElem? (i := 466) (by decide +kernel)⟩
theorem lw_p2 : lw_okq (⟨"BlackMill$LawText", "clause", "(LBlackMill$Tape;)V"⟩, 2) := ⟨⟨by decide +kernel, by decide +kernel⟩, List.mem_of_getElem? (i := 88) (by decide +kernel), List.mem_of_getElem? (i := 478) (by decide +kernel), List.mem_of_getElem? (i := 479) (by decide +kernel)⟩
theorem lw_p3 : lw_okq (⟨"BlackMill$LawText", "sum", "(LBlackMill$Tape;I)V"⟩, 2) := ⟨⟨by decide +kernel, by decide +kernel⟩, List.mem_of_getElem? (i := 88) (by decide +kernel), List.mem_of_getElem? (i := 488) (by decide +kernel), List.mem_of_getElem? (i := 489) (by decide +kernel)⟩
theorem lw_p4 : lw_okq (⟨"BlackMill$LawText", "term", "(LBlackMill$Tape;I)V"⟩, 2) := ⟨⟨by decide +kernel, by decide +kernel⟩, List.mem_of_getElem? (i := 88) (by decide +kernel), List.mem_of_getElem? (i := 492) (by decide +kernel), List.mem_of_getElem? (i := 493) (by decide +kernel)⟩
theorem lw_p5 : lw_okq (⟨"BlackMill$LawText", "atom", "(LBlackMill$Tape;I)V"⟩, 2) := ⟨⟨by decide +kernel, by decide +kernel⟩, List.mem_of_getElem? (i := 88) (by decide +kernel), List.mem_of_getElem? (i := 496) (by decide +kernel), List.mem_of_getElem? (i := 497) (by decide +kernel)⟩
theorem lw_p6 : lw_okq (⟨"BlackMill$LawText", "write", "(I)V"⟩, 2) := ⟨⟨by decide +kernel, by decide +kernel⟩, List.mem_of_getElem? (i := 88) (by decide +kernel), List.mem_of_getElem? (i := 504) (by decide +kernel), List.mem_of_getElem? (i := 505) (by decide +kernel)⟩
theorem lw_p7 : lw_okq (⟨"BlackMill$LawText", "condition", "(LBlackMill$Tape;IZ)V"⟩, 2) := ⟨⟨by decide +kernel, by decide +kernel⟩, List.mem_of_getElem? (i := 88) (by decide +kernel), List.mem_of_getElem? (i := 517) (by decide +kernel), List.mem_of_getElem? (i := 518) (by decide +kernel)⟩
theorem lw_p8 : lw_okq (⟨"BlackMill$LawText", "truth", "(LBlackMill$Tape;IZ)V"⟩, 2) := ⟨⟨by decide +kernel, by decide +kernel⟩, List.mem_of_getElem? (i := 88) (by decide +kernel), List.mem_of_getElem? (i := 521) (by decide +kernel), List.mem_of_getElem? (i := 522) (by decide +kernel)⟩
theorem lw_p9 : lw_okq (⟨"BlackMill$LawText", "unit", "(LBlackMill$Tape;IZ)V"⟩, 2) := ⟨⟨by decide +kernel, by decide +kernel⟩, List.mem_of_getElem? (i := 88) (by decide +kernel), List.mem_of_getElem? (i := 525) (by decide +kernel), List.mem_of_getElem? (i := 526) (by decide +kernel)⟩
theorem lw_p10 : lw_okq (⟨"BlackMill$LawText", "nested", "(LBlackMill$Tape;II)V"⟩, 2) := ⟨⟨by decide +kernel, by decide +kernel⟩, List.mem_of_getElem? (i := 88) (by decide +kernel), List.mem_of_getElem? (i := 529) (by decide +kernel), List.mem_of_getElem? (i := 530) (by decide +kernel)⟩
theorem lw_p11 : lw_okq (⟨"BlackMill", "found", "()V"⟩, 17) := ⟨⟨by decide +kernel, by decide +kernel⟩, List.mem_of_getElem? (i := 25) (by decide +kernel), List.mem_of_getElem? (i := 539) (by decide +kernel), List.mem_of_getElem? (i := 540) (by decide +kernel)⟩
theorem lw_p12 : lw_okq (⟨"BlackMill$Roads", "shorten", "(III)V"⟩, 3) := ⟨⟨by decide +kernel, by decide +kernel⟩, List.mem_of_getElem? (i := 213) (by decide +kernel), List.mem_of_getElem? (i := 561) (by decide +kernel), List.mem_of_getElem? (i := 562) (by decide +kernel)⟩
theorem lw_p13 : lw_okq (⟨"BlackMill", "isTold", "()Z"⟩, 17) := ⟨⟨by decide +kernel, by decide +kernel⟩, List.mem_of_getElem? (i := 25) (by decide +kernel), List.mem_of_getElem? (i := 584) (by decide +kernel), List.mem_of_getElem? (i := 585) (by decide +kernel)⟩
theorem lw_p14 : lw_okq (⟨"BlackMill", "refuse", "(II)I"⟩, 17) := ⟨⟨by decide +kernel, by decide +kernel⟩, List.mem_of_getElem? (i := 25) (by decide +kernel), List.mem_of_getElem? (i := 614) (by decide +kernel), List.mem_of_getElem? (i := 615) (by decide +kernel)⟩
theorem lw_p15 : lw_okq (⟨"BlackMill", "passYear", "()V"⟩, 17) := ⟨⟨by decide +kernel, by decide +kernel⟩, List.mem_of_getElem? (i := 25) (by decide +kernel), List.mem_of_getElem? (i := 669) (by decide +kernel), List.mem_of_getElem? (i := 670) (by decide +kernel)⟩
def lw_privs_1 : List (MethodName × Nat) := [(⟨"BlackMill$MillText", "clause", "(LBlackMill$Tape;)V"⟩, 6), (⟨"BlackMill$MillText", "isWhole", "()Z"⟩, 6), (⟨"BlackMill$LawText", "clause", "(LBlackMill$Tape;)V"⟩, 2), (⟨"BlackMill$LawText", "sum", "(LBlackMill$Tape;I)V"⟩, 2), (⟨"BlackMill$LawText", "term", "(LBlackMill$Tape;I)V"⟩, 2), (⟨"BlackMill$LawText", "atom", "(LBlackMill$Tape;I)V"⟩, 2), (⟨"BlackMill$LawText", "write", "(I)V"⟩, 2), (⟨"BlackMill$LawText", "condition", "(LBlackMill$Tape;IZ)V"⟩, 2), (⟨"BlackMill$LawText", "truth", "(LBlackMill$Tape;IZ)V"⟩, 2), (⟨"BlackMill$LawText", "unit", "(LBlackMill$Tape;IZ)V"⟩, 2), (⟨"BlackMill$LawText", "nested", "(LBlackMill$Tape;II)V"⟩, 2), (⟨"BlackMill", "found", "()V"⟩, 17), (⟨"BlackMill$Roads", "shorten", "(III)V"⟩, 3), (⟨"BlackMill", "isTold", "()Z"⟩, 17), (⟨"BlackMill", "refuse", "(II)I"⟩, 17), (⟨"BlackMill", "passYear", "()V"⟩, 17)]
theorem lw_r1 : ∀ q ∈ lw_privs_1, lw_okq q := List.forall_mem_cons.mpr ⟨lw_p0, List.forall_mem_cons.mpr ⟨lw_p1, List.forall_mem_cons.mpr ⟨lw_p2, List.forall_mem_cons.mpr ⟨lw_p3, List.forall_mem_cons.mpr ⟨lw_p4, List.forall_mem_cons.mpr ⟨lw_p5, List.forall_mem_cons.mpr ⟨lw_p6, List.forall_mem_cons.mpr ⟨lw_p7, List.forall_mem_cons.mpr ⟨lw_p8, List.forall_mem_cons.mpr ⟨lw_p9, List.forall_mem_cons.mpr ⟨lw_p10, List.forall_mem_cons.mpr ⟨lw_p11, List.forall_mem_cons.mpr ⟨lw_p12, List.forall_mem_cons.mpr ⟨lw_p13, List.forall_mem_cons.mpr ⟨lw_p14, List.forall_mem_cons.mpr ⟨lw_p15, fun _ h => absurd h List.not_mem_nil⟩⟩⟩⟩⟩⟩⟩⟩⟩⟩⟩⟩⟩⟩⟩⟩
theorem lw_p16 : lw_okq (⟨"BlackMill$Laws", "worth", "()I"⟩, 7) := ⟨⟨by decide +kernel, by decide +kernel⟩, List.mem_of_getElem? (i := 103) (by decide +kernel), List.mem_of_getElem? (i := 690) (by decide +kernel), List.mem_of_getElem? (i := 691) (by decide +kernel)⟩
theorem lw_p17 : lw_okq (⟨"BlackMill$Laws", "pop", "()I"⟩, 7) := ⟨⟨by decide +kernel, by decide +kernel⟩, List.mem_of_getElem? (i := 103) (by decide +kernel), List.mem_of_getElem? (i := 695) (by decide +kernel), List.mem_of_getElem? (i := 696) (by decide +kernel)⟩
theorem lw_p18 : lw_okq (⟨"BlackMill$Laws", "work", "(I)V"⟩, 7) := ⟨⟨by decide +kernel, by decide +kernel⟩, List.mem_of_getElem? (i := 103) (by decide +kernel), List.mem_of_getElem? (i := 699) (by decide +kernel), List.mem_of_getElem? (i := 700) (by decide +kernel)⟩
theorem lw_p19 : lw_okq (⟨"BlackMill$Laws", "push", "(I)V"⟩, 7) := ⟨⟨by decide +kernel, by decide +kernel⟩, List.mem_of_getElem? (i := 103) (by decide +kernel), List.mem_of_getElem? (i := 703) (by decide +kernel), List.mem_of_getElem? (i := 704) (by decide +kernel)⟩
theorem lw_p20 : lw_okq (⟨"BlackMill$House", "grow", "(II)V"⟩, 5) := ⟨⟨by decide +kernel, by decide +kernel⟩, List.mem_of_getElem? (i := 133) (by decide +kernel), List.mem_of_getElem? (i := 721) (by decide +kernel), List.mem_of_getElem? (i := 722) (by decide +kernel)⟩
theorem lw_p21 : lw_okq (⟨"BlackMill$House", "artOf", "(I)I"⟩, 5) := ⟨⟨by decide +kernel, by decide +kernel⟩, List.mem_of_getElem? (i := 133) (by decide +kernel), List.mem_of_getElem? (i := 735) (by decide +kernel), List.mem_of_getElem? (i := 736) (by decide +kernel)⟩
theorem lw_p22 : lw_okq (⟨"BlackMill", "showByDraws", "(J)J"⟩, 17) := ⟨⟨by decide +kernel, by decide +kernel⟩, List.mem_of_getElem? (i := 25) (by decide +kernel), List.mem_of_getElem? (i := 752) (by decide +kernel), List.mem_of_getElem? (i := 753) (by decide +kernel)⟩
theorem lw_p23 : lw_okq (⟨"BlackMill", "comeByDraws", "(J)J"⟩, 17) := ⟨⟨by decide +kernel, by decide +kernel⟩, List.mem_of_getElem? (i := 25) (by decide +kernel), List.mem_of_getElem? (i := 764) (by decide +kernel), List.mem_of_getElem? (i := 765) (by decide +kernel)⟩
theorem lw_p24 : lw_okq (⟨"BlackMill", "logLength", "()I"⟩, 17) := ⟨⟨by decide +kernel, by decide +kernel⟩, List.mem_of_getElem? (i := 25) (by decide +kernel), List.mem_of_getElem? (i := 785) (by decide +kernel), List.mem_of_getElem? (i := 786) (by decide +kernel)⟩
theorem lw_p25 : lw_okq (⟨"BlackMill$Trail", "stepAt", "(I)LBlackMill$House;"⟩, 3) := ⟨⟨by decide +kernel, by decide +kernel⟩, List.mem_of_getElem? (i := 192) (by decide +kernel), List.mem_of_getElem? (i := 838) (by decide +kernel), List.mem_of_getElem? (i := 839) (by decide +kernel)⟩
theorem lw_p26 : lw_okq (⟨"BlackMill$Trail", "tread", "(IIIILBlackMill$Laws;)V"⟩, 3) := ⟨⟨by decide +kernel, by decide +kernel⟩, List.mem_of_getElem? (i := 192) (by decide +kernel), List.mem_of_getElem? (i := 843) (by decide +kernel), List.mem_of_getElem? (i := 844) (by decide +kernel)⟩
theorem lw_p27 : lw_okq (⟨"BlackMill$House", "differsFromAll", "(II)Z"⟩, 5) := ⟨⟨by decide +kernel, by decide +kernel⟩, List.mem_of_getElem? (i := 133) (by decide +kernel), List.mem_of_getElem? (i := 877) (by decide +kernel), List.mem_of_getElem? (i := 878) (by decide +kernel)⟩
theorem lw_p28 : lw_okq (⟨"BlackMill", "asksForSpies", "(I)Z"⟩, 17) := ⟨⟨by decide +kernel, by decide +kernel⟩, List.mem_of_getElem? (i := 25) (by decide +kernel), List.mem_of_getElem? (i := 931) (by decide +kernel), List.mem_of_getElem? (i := 932) (by decide +kernel)⟩
theorem lw_p29 : lw_okq (⟨"BlackMill$Clues", "fits", "(II)Z"⟩, 7) := ⟨⟨by decide +kernel, by decide +kernel⟩, List.mem_of_getElem? (i := 231) (by decide +kernel), List.mem_of_getElem? (i := 939) (by decide +kernel), List.mem_of_getElem? (i := 940) (by decide +kernel)⟩
theorem lw_p30 : lw_okq (⟨"BlackMill$Clues", "fits", "(I)Z"⟩, 7) := ⟨⟨by decide +kernel, by decide +kernel⟩, List.mem_of_getElem? (i := 231) (by decide +kernel), List.mem_of_getElem? (i := 944) (by decide +kernel), List.mem_of_getElem? (i := 945) (by decide +kernel)⟩
theorem lw_p31 : lw_okq (⟨"BlackMill$Clues", "couldDig", "(LBlackMill$House;I)Z"⟩, 7) := ⟨⟨by decide +kernel, by decide +kernel⟩, List.mem_of_getElem? (i := 231) (by decide +kernel), List.mem_of_getElem? (i := 984) (by decide +kernel), List.mem_of_getElem? (i := 985) (by decide +kernel)⟩
def lw_privs_2 : List (MethodName × Nat) := [(⟨"BlackMill$Laws", "worth", "()I"⟩, 7), (⟨"BlackMill$Laws", "pop", "()I"⟩, 7), (⟨"BlackMill$Laws", "work", "(I)V"⟩, 7), (⟨"BlackMill$Laws", "push", "(I)V"⟩, 7), (⟨"BlackMill$House", "grow", "(II)V"⟩, 5), (⟨"BlackMill$House", "artOf", "(I)I"⟩, 5), (⟨"BlackMill", "showByDraws", "(J)J"⟩, 17), (⟨"BlackMill", "comeByDraws", "(J)J"⟩, 17), (⟨"BlackMill", "logLength", "()I"⟩, 17), (⟨"BlackMill$Trail", "stepAt", "(I)LBlackMill$House;"⟩, 3), (⟨"BlackMill$Trail", "tread", "(IIIILBlackMill$Laws;)V"⟩, 3), (⟨"BlackMill$House", "differsFromAll", "(II)Z"⟩, 5), (⟨"BlackMill", "asksForSpies", "(I)Z"⟩, 17), (⟨"BlackMill$Clues", "fits", "(II)Z"⟩, 7), (⟨"BlackMill$Clues", "fits", "(I)Z"⟩, 7), (⟨"BlackMill$Clues", "couldDig", "(LBlackMill$House;I)Z"⟩, 7)]
theorem lw_r2 : ∀ q ∈ lw_privs_2, lw_okq q := List.forall_mem_cons.mpr ⟨lw_p16, List.forall_mem_cons.mpr ⟨lw_p17, List.forall_mem_cons.mpr ⟨lw_p18, List.forall_mem_cons.mpr ⟨lw_p19, List.forall_mem_cons.mpr ⟨lw_p20, List.forall_mem_cons.mpr ⟨lw_p21, List.forall_mem_cons.mpr ⟨lw_p22, List.forall_mem_cons.mpr ⟨lw_p23, List.forall_mem_cons.mpr ⟨lw_p24, List.forall_mem_cons.mpr ⟨lw_p25, List.forall_mem_cons.mpr ⟨lw_p26, List.forall_mem_cons.mpr ⟨lw_p27, List.forall_mem_cons.mpr ⟨lw_p28, List.forall_mem_cons.mpr ⟨lw_p29, List.forall_mem_cons.mpr ⟨lw_p30, List.forall_mem_cons.mpr ⟨lw_p31, fun _ h => absurd h List.not_mem_nil⟩⟩⟩⟩⟩⟩⟩⟩⟩⟩⟩⟩⟩⟩⟩⟩
theorem lw_p32 : lw_okq (⟨"BlackMill", "canPlay", "(II)Z"⟩, 17) := ⟨⟨by decide +kernel, by decide +kernel⟩, List.mem_of_getElem? (i := 25) (by decide +kernel), List.mem_of_getElem? (i := 1023) (by decide +kernel), List.mem_of_getElem? (i := 1024) (by decide +kernel)⟩
theorem lw_p33 : lw_okq (⟨"BlackMill", "played", "(IIIII)I"⟩, 17) := ⟨⟨by decide +kernel, by decide +kernel⟩, List.mem_of_getElem? (i := 25) (by decide +kernel), List.mem_of_getElem? (i := 1027) (by decide +kernel), List.mem_of_getElem? (i := 1028) (by decide +kernel)⟩
theorem lw_p34 : lw_okq (⟨"BlackMill", "isRest", "(IIII)Z"⟩, 17) := ⟨⟨by decide +kernel, by decide +kernel⟩, List.mem_of_getElem? (i := 25) (by decide +kernel), List.mem_of_getElem? (i := 1035) (by decide +kernel), List.mem_of_getElem? (i := 1036) (by decide +kernel)⟩
theorem lw_p35 : lw_okq (⟨"java/lang/Throwable", "fillInStackTrace", "(I)Ljava/lang/Throwable;"⟩, 6) := ⟨⟨by decide +kernel, by decide +kernel⟩, List.mem_of_getElem? (i := 1107) (by decide +kernel), List.mem_of_getElem? (i := 1105) (by decide +kernel), List.mem_of_getElem? (i := 1106) (by decide +kernel)⟩
theorem lw_p36 : lw_okq (⟨"BlackMillModel", "readMill", "()I"⟩, 46) := ⟨⟨by decide +kernel, by decide +kernel⟩, List.mem_of_getElem? (i := 1137) (by decide +kernel), List.mem_of_getElem? (i := 1301) (by decide +kernel), List.mem_of_getElem? (i := 1302) (by decide +kernel)⟩
theorem lw_p37 : lw_okq (⟨"BlackMillModel", "look", "()I"⟩, 46) := ⟨⟨by decide +kernel, by decide +kernel⟩, List.mem_of_getElem? (i := 1137) (by decide +kernel), List.mem_of_getElem? (i := 1308) (by decide +kernel), List.mem_of_getElem? (i := 1309) (by decide +kernel)⟩
theorem lw_p38 : lw_okq (⟨"BlackMillModel", "here", "()I"⟩, 46) := ⟨⟨by decide +kernel, by decide +kernel⟩, List.mem_of_getElem? (i := 1137) (by decide +kernel), List.mem_of_getElem? (i := 1312) (by decide +kernel), List.mem_of_getElem? (i := 1313) (by decide +kernel)⟩
theorem lw_p39 : lw_okq (⟨"BlackMillModel", "items", "(I[III)V"⟩, 46) := ⟨⟨by decide +kernel, by decide +kernel⟩, List.mem_of_getElem? (i := 1137) (by decide +kernel), List.mem_of_getElem? (i := 1316) (by decide +kernel), List.mem_of_getElem? (i := 1317) (by decide +kernel)⟩
theorem lw_p40 : lw_okq (⟨"BlackMillModel", "number", "(II)I"⟩, 46) := ⟨⟨by decide +kernel, by decide +kernel⟩, List.mem_of_getElem? (i := 1137) (by decide +kernel), List.mem_of_getElem? (i := 1332) (by decide +kernel), List.mem_of_getElem? (i := 1333) (by decide +kernel)⟩
theorem lw_p41 : lw_okq (⟨"BlackMillModel", "bad", "()V"⟩, 46) := ⟨⟨by decide +kernel, by decide +kernel⟩, List.mem_of_getElem? (i := 1137) (by decide +kernel), List.mem_of_getElem? (i := 1339) (by decide +kernel), List.mem_of_getElem? (i := 1340) (by decide +kernel)⟩
theorem lw_p42 : lw_okq (⟨"BlackMillModel", "isWhole", "()Z"⟩, 46) := ⟨⟨by decide +kernel, by decide +kernel⟩, List.mem_of_getElem? (i := 1137) (by decide +kernel), List.mem_of_getElem? (i := 1346) (by decide +kernel), List.mem_of_getElem? (i := 1347) (by decide +kernel)⟩
theorem lw_p43 : lw_okq (⟨"BlackMillModel", "readLaw", "(I)I"⟩, 46) := ⟨⟨by decide +kernel, by decide +kernel⟩, List.mem_of_getElem? (i := 1137) (by decide +kernel), List.mem_of_getElem? (i := 1350) (by decide +kernel), List.mem_of_getElem? (i := 1351) (by decide +kernel)⟩
theorem lw_p44 : lw_okq (⟨"BlackMillModel", "open", "(I)V"⟩, 46) := ⟨⟨by decide +kernel, by decide +kernel⟩, List.mem_of_getElem? (i := 1137) (by decide +kernel), List.mem_of_getElem? (i := 1354) (by decide +kernel), List.mem_of_getElem? (i := 1355) (by decide +kernel)⟩
theorem lw_p45 : lw_okq (⟨"BlackMillModel", "clause", "()V"⟩, 46) := ⟨⟨by decide +kernel, by decide +kernel⟩, List.mem_of_getElem? (i := 1137) (by decide +kernel), List.mem_of_getElem? (i := 1358) (by decide +kernel), List.mem_of_getElem? (i := 1359) (by decide +kernel)⟩
theorem lw_p46 : lw_okq (⟨"BlackMillModel", "condition", "()V"⟩, 46) := ⟨⟨by decide +kernel, by decide +kernel⟩, List.mem_of_getElem? (i := 1137) (by decide +kernel), List.mem_of_getElem? (i := 1362) (by decide +kernel), List.mem_of_getElem? (i := 1363) (by decide +kernel)⟩
theorem lw_p47 : lw_okq (⟨"BlackMillModel", "unit", "()V"⟩, 46) := ⟨⟨by decide +kernel, by decide +kernel⟩, List.mem_of_getElem? (i := 1137) (by decide +kernel), List.mem_of_getElem? (i := 1366) (by decide +kernel), List.mem_of_getElem? (i := 1367) (by decide +kernel)⟩
def lw_privs_3 : List (MethodName × Nat) := [(⟨"BlackMill", "canPlay", "(II)Z"⟩, 17), (⟨"BlackMill", "played", "(IIIII)I"⟩, 17), (⟨"BlackMill", "isRest", "(IIII)Z"⟩, 17), (⟨"java/lang/Throwable", "fillInStackTrace", "(I)Ljava/lang/Throwable;"⟩, 6), (⟨"BlackMillModel", "readMill", "()I"⟩, 46), (⟨"BlackMillModel", "look", "()I"⟩, 46), (⟨"BlackMillModel", "here", "()I"⟩, 46), (⟨"BlackMillModel", "items", "(I[III)V"⟩, 46), (⟨"BlackMillModel", "number", "(II)I"⟩, 46), (⟨"BlackMillModel", "bad", "()V"⟩, 46), (⟨"BlackMillModel", "isWhole", "()Z"⟩, 46), (⟨"BlackMillModel", "readLaw", "(I)I"⟩, 46), (⟨"BlackMillModel", "open", "(I)V"⟩, 46), (⟨"BlackMillModel", "clause", "()V"⟩, 46), (⟨"BlackMillModel", "condition", "()V"⟩, 46), (⟨"BlackMillModel", "unit", "()V"⟩, 46)]
theorem lw_r3 : ∀ q ∈ lw_privs_3, lw_okq q := List.forall_mem_cons.mpr ⟨lw_p32, List.forall_mem_cons.mpr ⟨lw_p33, List.forall_mem_cons.mpr ⟨lw_p34, List.forall_mem_cons.mpr ⟨lw_p35, List.forall_mem_cons.mpr ⟨lw_p36, List.forall_mem_cons.mpr ⟨lw_p37, List.forall_mem_cons.mpr ⟨lw_p38, List.forall_mem_cons.mpr ⟨lw_p39, List.forall_mem_cons.mpr ⟨lw_p40, List.forall_mem_cons.mpr ⟨lw_p41, List.forall_mem_cons.mpr ⟨lw_p42, List.forall_mem_cons.mpr ⟨lw_p43, List.forall_mem_cons.mpr ⟨lw_p44, List.forall_mem_cons.mpr ⟨lw_p45, List.forall_mem_cons.mpr ⟨lw_p46, List.forall_mem_cons.mpr ⟨lw_p47, fun _ h => absurd h List.not_mem_nil⟩⟩⟩⟩⟩⟩⟩⟩⟩⟩⟩⟩⟩⟩⟩⟩
theorem lw_p48 : lw_okq (⟨"BlackMillModel", "opens", "()V"⟩, 46) := ⟨⟨by decide +kernel, by decide +kernel⟩, List.mem_of_getElem? (i := 1137) (by decide +kernel), List.mem_of_getElem? (i := 1370) (by decide +kernel), List.mem_of_getElem? (i := 1371) (by decide +kernel)⟩
theorem lw_p49 : lw_okq (⟨"BlackMillModel", "put", "(II)V"⟩, 46) := ⟨⟨by decide +kernel, by decide +kernel⟩, List.mem_of_getElem? (i := 1137) (by decide +kernel), List.mem_of_getElem? (i := 1374) (by decide +kernel), List.mem_of_getElem? (i := 1375) (by decide +kernel)⟩
theorem lw_p50 : lw_okq (⟨"BlackMillModel", "closes", "(I)V"⟩, 46) := ⟨⟨by decide +kernel, by decide +kernel⟩, List.mem_of_getElem? (i := 1137) (by decide +kernel), List.mem_of_getElem? (i := 1378) (by decide +kernel), List.mem_of_getElem? (i := 1379) (by decide +kernel)⟩
theorem lw_p51 : lw_okq (⟨"BlackMillModel", "sum", "()V"⟩, 46) := ⟨⟨by decide +kernel, by decide +kernel⟩, List.mem_of_getElem? (i := 1137) (by decide +kernel), List.mem_of_getElem? (i := 1382) (by decide +kernel), List.mem_of_getElem? (i := 1383) (by decide +kernel)⟩
theorem lw_p52 : lw_okq (⟨"BlackMillModel", "term", "()V"⟩, 46) := ⟨⟨by decide +kernel, by decide +kernel⟩, List.mem_of_getElem? (i := 1137) (by decide +kernel), List.mem_of_getElem? (i := 1386) (by decide +kernel), List.mem_of_getElem? (i := 1387) (by decide +kernel)⟩
theorem lw_p53 : lw_okq (⟨"BlackMillModel", "atom", "()V"⟩, 46) := ⟨⟨by decide +kernel, by decide +kernel⟩, List.mem_of_getElem? (i := 1137) (by decide +kernel), List.mem_of_getElem? (i := 1390) (by decide +kernel), List.mem_of_getElem? (i := 1391) (by decide +kernel)⟩
theorem lw_p54 : lw_okq (⟨"BlackMillModel", "plainNumber", "()I"⟩, 46) := ⟨⟨by decide +kernel, by decide +kernel⟩, List.mem_of_getElem? (i := 1137) (by decide +kernel), List.mem_of_getElem? (i := 1394) (by decide +kernel), List.mem_of_getElem? (i := 1395) (by decide +kernel)⟩
theorem lw_p55 : lw_okq (⟨"BlackMillModel", "compare", "()V"⟩, 46) := ⟨⟨by decide +kernel, by decide +kernel⟩, List.mem_of_getElem? (i := 1137) (by decide +kernel), List.mem_of_getElem? (i := 1401) (by decide +kernel), List.mem_of_getElem? (i := 1402) (by decide +kernel)⟩
theorem lw_p56 : lw_okq (⟨"BlackMillModel", "goOnAnd", "()V"⟩, 46) := ⟨⟨by decide +kernel, by decide +kernel⟩, List.mem_of_getElem? (i := 1137) (by decide +kernel), List.mem_of_getElem? (i := 1408) (by decide +kernel), List.mem_of_getElem? (i := 1409) (by decide +kernel)⟩
theorem lw_p57 : lw_okq (⟨"BlackMillModel", "goOnOr", "()V"⟩, 46) := ⟨⟨by decide +kernel, by decide +kernel⟩, List.mem_of_getElem? (i := 1137) (by decide +kernel), List.mem_of_getElem? (i := 1412) (by decide +kernel), List.mem_of_getElem? (i := 1413) (by decide +kernel)⟩
theorem lw_p58 : lw_okq (⟨"BlackMillModel", "atEnd", "()I"⟩, 46) := ⟨⟨by decide +kernel, by decide +kernel⟩, List.mem_of_getElem? (i := 1137) (by decide +kernel), List.mem_of_getElem? (i := 1416) (by decide +kernel), List.mem_of_getElem? (i := 1417) (by decide +kernel)⟩
theorem lw_p59 : lw_okq (⟨"BlackMillModel", "takeMill", "()I"⟩, 46) := ⟨⟨by decide +kernel, by decide +kernel⟩, List.mem_of_getElem? (i := 1137) (by decide +kernel), List.mem_of_getElem? (i := 1424) (by decide +kernel), List.mem_of_getElem? (i := 1425) (by decide +kernel)⟩
theorem lw_p60 : lw_okq (⟨"BlackMillModel", "lay", "(III)V"⟩, 46) := ⟨⟨by decide +kernel, by decide +kernel⟩, List.mem_of_getElem? (i := 1137) (by decide +kernel), List.mem_of_getElem? (i := 1428) (by decide +kernel), List.mem_of_getElem? (i := 1429) (by decide +kernel)⟩
theorem lw_p61 : lw_okq (⟨"BlackMillModel", "of", "(II)I"⟩, 46) := ⟨⟨by decide +kernel, by decide +kernel⟩, List.mem_of_getElem? (i := 1137) (by decide +kernel), List.mem_of_getElem? (i := 1432) (by decide +kernel), List.mem_of_getElem? (i := 1433) (by decide +kernel)⟩
theorem lw_p62 : lw_okq (⟨"BlackMillModel", "isLad", "(I)Z"⟩, 46) := ⟨⟨by decide +kernel, by decide +kernel⟩, List.mem_of_getElem? (i := 1137) (by decide +kernel), List.mem_of_getElem? (i := 1444) (by decide +kernel), List.mem_of_getElem? (i := 1445) (by decide +kernel)⟩
theorem lw_p63 : lw_okq (⟨"BlackMillModel", "fear", "(I)I"⟩, 46) := ⟨⟨by decide +kernel, by decide +kernel⟩, List.mem_of_getElem? (i := 1137) (by decide +kernel), List.mem_of_getElem? (i := 1448) (by decide +kernel), List.mem_of_getElem? (i := 1449) (by decide +kernel)⟩
def lw_privs_4 : List (MethodName × Nat) := [(⟨"BlackMillModel", "opens", "()V"⟩, 46), (⟨"BlackMillModel", "put", "(II)V"⟩, 46), (⟨"BlackMillModel", "closes", "(I)V"⟩, 46), (⟨"BlackMillModel", "sum", "()V"⟩, 46), (⟨"BlackMillModel", "term", "()V"⟩, 46), (⟨"BlackMillModel", "atom", "()V"⟩, 46), (⟨"BlackMillModel", "plainNumber", "()I"⟩, 46), (⟨"BlackMillModel", "compare", "()V"⟩, 46), (⟨"BlackMillModel", "goOnAnd", "()V"⟩, 46), (⟨"BlackMillModel", "goOnOr", "()V"⟩, 46), (⟨"BlackMillModel", "atEnd", "()I"⟩, 46), (⟨"BlackMillModel", "takeMill", "()I"⟩, 46), (⟨"BlackMillModel", "lay", "(III)V"⟩, 46), (⟨"BlackMillModel", "of", "(II)I"⟩, 46), (⟨"BlackMillModel", "isLad", "(I)Z"⟩, 46), (⟨"BlackMillModel", "fear", "(I)I"⟩, 46)]
theorem lw_r4 : ∀ q ∈ lw_privs_4, lw_okq q := List.forall_mem_cons.mpr ⟨lw_p48, List.forall_mem_cons.mpr ⟨lw_p49, List.forall_mem_cons.mpr ⟨lw_p50, List.forall_mem_cons.mpr ⟨lw_p51, List.forall_mem_cons.mpr ⟨lw_p52, List.forall_mem_cons.mpr ⟨lw_p53, List.forall_mem_cons.mpr ⟨lw_p54, List.forall_mem_cons.mpr ⟨lw_p55, List.forall_mem_cons.mpr ⟨lw_p56, List.forall_mem_cons.mpr ⟨lw_p57, List.forall_mem_cons.mpr ⟨lw_p58, List.forall_mem_cons.mpr ⟨lw_p59, List.forall_mem_cons.mpr ⟨lw_p60, List.forall_mem_cons.mpr ⟨lw_p61, List.forall_mem_cons.mpr ⟨lw_p62, List.forall_mem_cons.mpr ⟨lw_p63, fun _ h => absurd h List.not_mem_nil⟩⟩⟩⟩⟩⟩⟩⟩⟩⟩⟩⟩⟩⟩⟩⟩
theorem lw_p64 : lw_okq (⟨"BlackMillModel", "fearBy", "(II)I"⟩, 46) := ⟨⟨by decide +kernel, by decide +kernel⟩, List.mem_of_getElem? (i := 1137) (by decide +kernel), List.mem_of_getElem? (i := 1452) (by decide +kernel), List.mem_of_getElem? (i := 1453) (by decide +kernel)⟩
theorem lw_p65 : lw_okq (⟨"BlackMillModel", "signs", "(I)I"⟩, 46) := ⟨⟨by decide +kernel, by decide +kernel⟩, List.mem_of_getElem? (i := 1137) (by decide +kernel), List.mem_of_getElem? (i := 1456) (by decide +kernel), List.mem_of_getElem? (i := 1457) (by decide +kernel)⟩
theorem lw_p66 : lw_okq (⟨"BlackMillModel", "lives", "(I)Z"⟩, 46) := ⟨⟨by decide +kernel, by decide +kernel⟩, List.mem_of_getElem? (i := 1137) (by decide +kernel), List.mem_of_getElem? (i := 1460) (by decide +kernel), List.mem_of_getElem? (i := 1461) (by decide +kernel)⟩
theorem lw_p67 : lw_okq (⟨"BlackMillModel", "friendsOf", "(I)I"⟩, 46) := ⟨⟨by decide +kernel, by decide +kernel⟩, List.mem_of_getElem? (i := 1137) (by decide +kernel), List.mem_of_getElem? (i := 1464) (by decide +kernel), List.mem_of_getElem? (i := 1465) (by decide +kernel)⟩
theorem lw_p68 : lw_okq (⟨"BlackMillModel", "living", "()I"⟩, 46) := ⟨⟨by decide +kernel, by decide +kernel⟩, List.mem_of_getElem? (i := 1137) (by decide +kernel), List.mem_of_getElem? (i := 1468) (by decide +kernel), List.mem_of_getElem? (i := 1469) (by decide +kernel)⟩
theorem lw_p69 : lw_okq (⟨"BlackMillModel", "isRefused", "(I)Z"⟩, 46) := ⟨⟨by decide +kernel, by decide +kernel⟩, List.mem_of_getElem? (i := 1137) (by decide +kernel), List.mem_of_getElem? (i := 1484) (by decide +kernel), List.mem_of_getElem? (i := 1485) (by decide +kernel)⟩
theorem lw_p70 : lw_okq (⟨"BlackMillModel", "keep", "()V"⟩, 46) := ⟨⟨by decide +kernel, by decide +kernel⟩, List.mem_of_getElem? (i := 1137) (by decide +kernel), List.mem_of_getElem? (i := 1489) (by decide +kernel), List.mem_of_getElem? (i := 1490) (by decide +kernel)⟩
theorem lw_p71 : lw_okq (⟨"BlackMillModel", "manyLive", "()I"⟩, 46) := ⟨⟨by decide +kernel, by decide +kernel⟩, List.mem_of_getElem? (i := 1137) (by decide +kernel), List.mem_of_getElem? (i := 1501) (by decide +kernel), List.mem_of_getElem? (i := 1502) (by decide +kernel)⟩
theorem lw_p72 : lw_okq (⟨"BlackMillModel", "comeNow", "(I)V"⟩, 46) := ⟨⟨by decide +kernel, by decide +kernel⟩, List.mem_of_getElem? (i := 1137) (by decide +kernel), List.mem_of_getElem? (i := 1510) (by decide +kernel), List.mem_of_getElem? (i := 1511) (by decide +kernel)⟩
theorem lw_p73 : lw_okq (⟨"BlackMillModel", "passYear", "()V"⟩, 46) := ⟨⟨by decide +kernel, by decide +kernel⟩, List.mem_of_getElem? (i := 1137) (by decide +kernel), List.mem_of_getElem? (i := 1518) (by decide +kernel), List.mem_of_getElem? (i := 1519) (by decide +kernel)⟩
theorem lw_p74 : lw_okq (⟨"BlackMillModel", "live", "()I"⟩, 46) := ⟨⟨by decide +kernel, by decide +kernel⟩, List.mem_of_getElem? (i := 1137) (by decide +kernel), List.mem_of_getElem? (i := 1522) (by decide +kernel), List.mem_of_getElem? (i := 1523) (by decide +kernel)⟩
theorem lw_p75 : lw_okq (⟨"BlackMillModel", "learnsBy", "(III)I"⟩, 46) := ⟨⟨by decide +kernel, by decide +kernel⟩, List.mem_of_getElem? (i := 1137) (by decide +kernel), List.mem_of_getElem? (i := 1526) (by decide +kernel), List.mem_of_getElem? (i := 1527) (by decide +kernel)⟩
theorem lw_p76 : lw_okq (⟨"BlackMillModel", "worthOf", "(I)I"⟩, 46) := ⟨⟨by decide +kernel, by decide +kernel⟩, List.mem_of_getElem? (i := 1137) (by decide +kernel), List.mem_of_getElem? (i := 1530) (by decide +kernel), List.mem_of_getElem? (i := 1531) (by decide +kernel)⟩
theorem lw_p77 : lw_okq (⟨"BlackMillModel", "workOut", "(III)I"⟩, 46) := ⟨⟨by decide +kernel, by decide +kernel⟩, List.mem_of_getElem? (i := 1137) (by decide +kernel), List.mem_of_getElem? (i := 1534) (by decide +kernel), List.mem_of_getElem? (i := 1535) (by decide +kernel)⟩
theorem lw_p78 : lw_okq (⟨"BlackMillModel", "chosenNow", "()I"⟩, 46) := ⟨⟨by decide +kernel, by decide +kernel⟩, List.mem_of_getElem? (i := 1137) (by decide +kernel), List.mem_of_getElem? (i := 1550) (by decide +kernel), List.mem_of_getElem? (i := 1551) (by decide +kernel)⟩
theorem lw_p79 : lw_okq (⟨"BlackMillModel", "artOf", "(I)I"⟩, 46) := ⟨⟨by decide +kernel, by decide +kernel⟩, List.mem_of_getElem? (i := 1137) (by decide +kernel), List.mem_of_getElem? (i := 1554) (by decide +kernel), List.mem_of_getElem? (i := 1555) (by decide +kernel)⟩
def lw_privs_5 : List (MethodName × Nat) := [(⟨"BlackMillModel", "fearBy", "(II)I"⟩, 46), (⟨"BlackMillModel", "signs", "(I)I"⟩, 46), (⟨"BlackMillModel", "lives", "(I)Z"⟩, 46), (⟨"BlackMillModel", "friendsOf", "(I)I"⟩, 46), (⟨"BlackMillModel", "living", "()I"⟩, 46), (⟨"BlackMillModel", "isRefused", "(I)Z"⟩, 46), (⟨"BlackMillModel", "keep", "()V"⟩, 46), (⟨"BlackMillModel", "manyLive", "()I"⟩, 46), (⟨"BlackMillModel", "comeNow", "(I)V"⟩, 46), (⟨"BlackMillModel", "passYear", "()V"⟩, 46), (⟨"BlackMillModel", "live", "()I"⟩, 46), (⟨"BlackMillModel", "learnsBy", "(III)I"⟩, 46), (⟨"BlackMillModel", "worthOf", "(I)I"⟩, 46), (⟨"BlackMillModel", "workOut", "(III)I"⟩, 46), (⟨"BlackMillModel", "chosenNow", "()I"⟩, 46), (⟨"BlackMillModel", "artOf", "(I)I"⟩, 46)]
theorem lw_r5 : ∀ q ∈ lw_privs_5, lw_okq q := List.forall_mem_cons.mpr ⟨lw_p64, List.forall_mem_cons.mpr ⟨lw_p65, List.forall_mem_cons.mpr ⟨lw_p66, List.forall_mem_cons.mpr ⟨lw_p67, List.forall_mem_cons.mpr ⟨lw_p68, List.forall_mem_cons.mpr ⟨lw_p69, List.forall_mem_cons.mpr ⟨lw_p70, List.forall_mem_cons.mpr ⟨lw_p71, List.forall_mem_cons.mpr ⟨lw_p72, List.forall_mem_cons.mpr ⟨lw_p73, List.forall_mem_cons.mpr ⟨lw_p74, List.forall_mem_cons.mpr ⟨lw_p75, List.forall_mem_cons.mpr ⟨lw_p76, List.forall_mem_cons.mpr ⟨lw_p77, List.forall_mem_cons.mpr ⟨lw_p78, List.forall_mem_cons.mpr ⟨lw_p79, fun _ h => absurd h List.not_mem_nil⟩⟩⟩⟩⟩⟩⟩⟩⟩⟩⟩⟩⟩⟩⟩⟩
theorem lw_p80 : lw_okq (⟨"BlackMillModel", "drawLads", "()V"⟩, 46) := ⟨⟨by decide +kernel, by decide +kernel⟩, List.mem_of_getElem? (i := 1137) (by decide +kernel), List.mem_of_getElem? (i := 1566) (by decide +kernel), List.mem_of_getElem? (i := 1567) (by decide +kernel)⟩
theorem lw_p81 : lw_okq (⟨"BlackMillModel", "draw", "(I)I"⟩, 46) := ⟨⟨by decide +kernel, by decide +kernel⟩, List.mem_of_getElem? (i := 1137) (by decide +kernel), List.mem_of_getElem? (i := 1570) (by decide +kernel), List.mem_of_getElem? (i := 1571) (by decide +kernel)⟩
theorem lw_p82 : lw_okq (⟨"BlackMillModel", "tryPath", "(IIII)V"⟩, 46) := ⟨⟨by decide +kernel, by decide +kernel⟩, List.mem_of_getElem? (i := 1137) (by decide +kernel), List.mem_of_getElem? (i := 1596) (by decide +kernel), List.mem_of_getElem? (i := 1597) (by decide +kernel)⟩
theorem lw_p83 : lw_okq (⟨"BlackMillModel", "putAside", "(I)V"⟩, 46) := ⟨⟨by decide +kernel, by decide +kernel⟩, List.mem_of_getElem? (i := 1137) (by decide +kernel), List.mem_of_getElem? (i := 1600) (by decide +kernel), List.mem_of_getElem? (i := 1601) (by decide +kernel)⟩
theorem lw_p84 : lw_okq (⟨"BlackMillModel", "takeBack", "(I)V"⟩, 46) := ⟨⟨by decide +kernel, by decide +kernel⟩, List.mem_of_getElem? (i := 1137) (by decide +kernel), List.mem_of_getElem? (i := 1604) (by decide +kernel), List.mem_of_getElem? (i := 1605) (by decide +kernel)⟩
theorem lw_p85 : lw_okq (⟨"BlackMillModel", "areSpies", "(I)Z"⟩, 46) := ⟨⟨by decide +kernel, by decide +kernel⟩, List.mem_of_getElem? (i := 1137) (by decide +kernel), List.mem_of_getElem? (i := 1636) (by decide +kernel), List.mem_of_getElem? (i := 1637) (by decide +kernel)⟩
theorem lw_p86 : lw_okq (⟨"BlackMillModel", "isSpies", "(II)Z"⟩, 46) := ⟨⟨by decide +kernel, by decide +kernel⟩, List.mem_of_getElem? (i := 1137) (by decide +kernel), List.mem_of_getElem? (i := 1640) (by decide +kernel), List.mem_of_getElem? (i := 1641) (by decide +kernel)⟩
theorem lw_p87 : lw_okq (⟨"BlackMillModel", "layHours", "()V"⟩, 46) := ⟨⟨by decide +kernel, by decide +kernel⟩, List.mem_of_getElem? (i := 1137) (by decide +kernel), List.mem_of_getElem? (i := 1658) (by decide +kernel), List.mem_of_getElem? (i := 1659) (by decide +kernel)⟩
theorem lw_p88 : lw_okq (⟨"BlackMillModel", "pivots", "(III)I"⟩, 46) := ⟨⟨by decide +kernel, by decide +kernel⟩, List.mem_of_getElem? (i := 1137) (by decide +kernel), List.mem_of_getElem? (i := 1675) (by decide +kernel), List.mem_of_getElem? (i := 1676) (by decide +kernel)⟩
theorem lw_p89 : lw_okq (⟨"BlackMillModel", "areTwo", "(II)Z"⟩, 46) := ⟨⟨by decide +kernel, by decide +kernel⟩, List.mem_of_getElem? (i := 1137) (by decide +kernel), List.mem_of_getElem? (i := 1686) (by decide +kernel), List.mem_of_getElem? (i := 1687) (by decide +kernel)⟩
theorem lw_p90 : lw_okq (⟨"BlackMillModel", "gameOf", "(IIII)I"⟩, 46) := ⟨⟨by decide +kernel, by decide +kernel⟩, List.mem_of_getElem? (i := 1137) (by decide +kernel), List.mem_of_getElem? (i := 1690) (by decide +kernel), List.mem_of_getElem? (i := 1691) (by decide +kernel)⟩
theorem lw_p91 : lw_okq (⟨"BlackMillModel", "mostOf", "(I)I"⟩, 46) := ⟨⟨by decide +kernel, by decide +kernel⟩, List.mem_of_getElem? (i := 1137) (by decide +kernel), List.mem_of_getElem? (i := 1715) (by decide +kernel), List.mem_of_getElem? (i := 1716) (by decide +kernel)⟩
def lw_privs_6 : List (MethodName × Nat) := [(⟨"BlackMillModel", "drawLads", "()V"⟩, 46), (⟨"BlackMillModel", "draw", "(I)I"⟩, 46), (⟨"BlackMillModel", "tryPath", "(IIII)V"⟩, 46), (⟨"BlackMillModel", "putAside", "(I)V"⟩, 46), (⟨"BlackMillModel", "takeBack", "(I)V"⟩, 46), (⟨"BlackMillModel", "areSpies", "(I)Z"⟩, 46), (⟨"BlackMillModel", "isSpies", "(II)Z"⟩, 46), (⟨"BlackMillModel", "layHours", "()V"⟩, 46), (⟨"BlackMillModel", "pivots", "(III)I"⟩, 46), (⟨"BlackMillModel", "areTwo", "(II)Z"⟩, 46), (⟨"BlackMillModel", "gameOf", "(IIII)I"⟩, 46), (⟨"BlackMillModel", "mostOf", "(I)I"⟩, 46)]
theorem lw_r6 : ∀ q ∈ lw_privs_6, lw_okq q := List.forall_mem_cons.mpr ⟨lw_p80, List.forall_mem_cons.mpr ⟨lw_p81, List.forall_mem_cons.mpr ⟨lw_p82, List.forall_mem_cons.mpr ⟨lw_p83, List.forall_mem_cons.mpr ⟨lw_p84, List.forall_mem_cons.mpr ⟨lw_p85, List.forall_mem_cons.mpr ⟨lw_p86, List.forall_mem_cons.mpr ⟨lw_p87, List.forall_mem_cons.mpr ⟨lw_p88, List.forall_mem_cons.mpr ⟨lw_p89, List.forall_mem_cons.mpr ⟨lw_p90, List.forall_mem_cons.mpr ⟨lw_p91, fun _ h => absurd h List.not_mem_nil⟩⟩⟩⟩⟩⟩⟩⟩⟩⟩⟩⟩
def lw_privs : List (MethodName × Nat) := lw_privs_1 ++ (lw_privs_2 ++ (lw_privs_3 ++ (lw_privs_4 ++ (lw_privs_5 ++ (lw_privs_6)))))
def lw_tbl : List Cond := k2_sels lw_privs ++ tables_1
theorem lw_privs_ok : ∀ q ∈ lw_privs, lw_okq q := by
  show ∀ q ∈ lw_privs_1 ++ (lw_privs_2 ++ (lw_privs_3 ++ (lw_privs_4 ++ (lw_privs_5 ++ (lw_privs_6))))), lw_okq q
  exact List.forall_mem_append.mpr ⟨lw_r1, List.forall_mem_append.mpr ⟨lw_r2, List.forall_mem_append.mpr ⟨lw_r3, List.forall_mem_append.mpr ⟨lw_r4, List.forall_mem_append.mpr ⟨lw_r5, lw_r6⟩⟩⟩⟩⟩
def RX0 : String := "BlackMill$Acts"
def TX0 : u_T := fun k => match k with
  | 0 => ("BlackMill$Acts", "cells", "[I", true)
  | 1 => ("BlackMill$Acts", "yearsThen", "[I", true)
  | 2 => ("BlackMill$Acts", "next", "I", false)
  | _ => ("BlackMill$Acts", "many", "I", false)
def tyX0 : Nat → FieldType := fun k => match k with
  | 0 => .array .int
  | 1 => .array .int
  | 2 => .int
  | _ => .int
abbrev wsX00 : List Cond := u_ws RX0 TX0 4
theorem nmX0 : ∀ a, a < 4 → ∀ b, b < 4 → a ≠ b → (TX0 a).2.1 ≠ (TX0 b).2.1 := by decide +kernel
theorem tyX0_ok : ∀ k, k < 4 → parseFieldDescriptor (TX0 k).2.2.1 = some (tyX0 k) := by decide +kernel
abbrev cX0_init : ByteArray := prog_2_method_1_code
def yX0_init : MethodName := ⟨RX0, "<init>", "()V"⟩
abbrev cX0_forget : ByteArray := prog_2_method_2_code
def yX0_forget : MethodName := ⟨RX0, "forget", "()V"⟩
abbrev cX0_keep : ByteArray := prog_2_method_3_code
def yX0_keep : MethodName := ⟨RX0, "keep", "(LBlackMill$House;)V"⟩
abbrev cX0_takeBack : ByteArray := prog_2_method_4_code
def yX0_takeBack : MethodName := ⟨RX0, "takeBack", "(LBlackMill$House;)V"⟩
def RX1 : String := "BlackMill$Clues"
def TX1 : u_T := fun k => match k with
  | 0 => ("BlackMill$Clues", "knowing", "[I", true)
  | 1 => ("BlackMill$Clues", "gotOut", "[Z", true)
  | 2 => ("BlackMill$Clues", "sorts", "[I", true)
  | 3 => ("BlackMill$Clues", "bounds", "[I", true)
  | 4 => ("BlackMill$Clues", "reached", "[Z", true)
  | 5 => ("BlackMill$Clues", "secrets", "I", false)
  | _ => ("BlackMill$Clues", "graves", "I", false)
def tyX1 : Nat → FieldType := fun k => match k with
  | 0 => .array .int
  | 1 => .array .boolean
  | 2 => .array .int
  | 3 => .array .int
  | 4 => .array .boolean
  | 5 => .int
  | _ => .int
abbrev wsX10 : List Cond := u_ws RX1 TX1 7
theorem nmX1 : ∀ a, a < 7 → ∀ b, b < 7 → a ≠ b → (TX1 a).2.1 ≠ (TX1 b).2.1 := by decide +kernel
theorem tyX1_ok : ∀ k, k < 7 → parseFieldDescriptor (TX1 k).2.2.1 = some (tyX1 k) := by decide +kernel
abbrev cX1_init : ByteArray := prog_3_method_1_code
def yX1_init : MethodName := ⟨RX1, "<init>", "()V"⟩
abbrev cX1_forget : ByteArray := prog_3_method_2_code
def yX1_forget : MethodName := ⟨RX1, "forget", "()V"⟩
abbrev cX1_addSecret : ByteArray := prog_3_method_3_code
def yX1_addSecret : MethodName := ⟨RX1, "addSecret", "(IZ)I"⟩
abbrev cX1_fits : ByteArray := prog_3_method_4_code
def yX1_fits : MethodName := ⟨RX1, "fits", "(I)Z"⟩
abbrev cX1_fits_ : ByteArray := prog_3_method_5_code
def yX1_fits_ : MethodName := ⟨RX1, "fits", "(II)Z"⟩
abbrev cX1_manyFitting : ByteArray := prog_3_method_6_code
def yX1_manyFitting : MethodName := ⟨RX1, "manyFitting", "(II)I"⟩
abbrev cX1_manyFittingWith : ByteArray := prog_3_method_7_code
def yX1_manyFittingWith : MethodName := ⟨RX1, "manyFittingWith", "(III)I"⟩
abbrev cX1_fitting : ByteArray := prog_3_method_8_code
def yX1_fitting : MethodName := ⟨RX1, "fitting", "(III)I"⟩
abbrev cX1_addGrave : ByteArray := prog_3_method_9_code
def yX1_addGrave : MethodName := ⟨RX1, "addGrave", "(IIZ)I"⟩
abbrev cX1_diggers : ByteArray := prog_3_method_10_code
def yX1_diggers : MethodName := ⟨RX1, "diggers", "(LBlackMill$House;)I"⟩
abbrev cX1_couldDig : ByteArray := prog_3_method_11_code
def yX1_couldDig : MethodName := ⟨RX1, "couldDig", "(LBlackMill$House;I)Z"⟩
def RX2 : String := "BlackMill$House"
def TX2 : u_T := fun k => match k with
  | 0 => ("BlackMill$House", "cells", "[I", true)
  | 1 => ("BlackMill$House", "lads", "I", false)
  | 2 => ("BlackMill$House", "year", "I", false)
  | 3 => ("BlackMill$House", "lesson", "I", false)
  | _ => ("BlackMill$House", "ageing", "I", false)
def tyX2 : Nat → FieldType := fun k => match k with
  | 0 => .array .int
  | 1 => .int
  | 2 => .int
  | 3 => .int
  | _ => .int
abbrev wsX20 : List Cond := u_ws RX2 TX2 5
theorem nmX2 : ∀ a, a < 5 → ∀ b, b < 5 → a ≠ b → (TX2 a).2.1 ≠ (TX2 b).2.1 := by decide +kernel
theorem tyX2_ok : ∀ k, k < 5 → parseFieldDescriptor (TX2 k).2.2.1 = some (tyX2 k) := by decide +kernel
abbrev cX2_init : ByteArray := prog_4_method_1_code
def yX2_init : MethodName := ⟨RX2, "<init>", "()V"⟩
abbrev cX2_settle : ByteArray := prog_4_method_2_code
def yX2_settle : MethodName := ⟨RX2, "settle", "(LBlackMill$MillText;)V"⟩
abbrev cX2_copy : ByteArray := prog_4_method_3_code
def yX2_copy : MethodName := ⟨RX2, "copy", "(LBlackMill$House;)V"⟩
abbrev cX2_get : ByteArray := prog_4_method_4_code
def yX2_get : MethodName := ⟨RX2, "get", "(II)I"⟩
abbrev cX2_set : ByteArray := prog_4_method_5_code
def yX2_set : MethodName := ⟨RX2, "set", "(III)V"⟩
abbrev cX2_has : ByteArray := prog_4_method_6_code
def yX2_has : MethodName := ⟨RX2, "has", "(I)Z"⟩
abbrev cX2_lives : ByteArray := prog_4_method_7_code
def yX2_lives : MethodName := ⟨RX2, "lives", "(I)Z"⟩
abbrev cX2_living : ByteArray := prog_4_method_8_code
def yX2_living : MethodName := ⟨RX2, "living", "()I"⟩
abbrev cX2_manyLive : ByteArray := prog_4_method_9_code
def yX2_manyLive : MethodName := ⟨RX2, "manyLive", "()I"⟩
abbrev cX2_warned : ByteArray := prog_4_method_10_code
def yX2_warned : MethodName := ⟨RX2, "warned", "()I"⟩
abbrev cX2_artOfAll : ByteArray := prog_4_method_11_code
def yX2_artOfAll : MethodName := ⟨RX2, "artOfAll", "()I"⟩
abbrev cX2_artOf : ByteArray := prog_4_method_12_code
def yX2_artOf : MethodName := ⟨RX2, "artOf", "(I)I"⟩
abbrev cX2_welcome : ByteArray := prog_4_method_13_code
def yX2_welcome : MethodName := ⟨RX2, "welcome", "(I)V"⟩
abbrev cX2_pass : ByteArray := prog_4_method_14_code
def yX2_pass : MethodName := ⟨RX2, "pass", "(LBlackMill$Laws;)I"⟩
abbrev cX2_grow : ByteArray := prog_4_method_15_code
def yX2_grow : MethodName := ⟨RX2, "grow", "(II)V"⟩
abbrev cX2_fear : ByteArray := prog_4_method_16_code
def yX2_fear : MethodName := ⟨RX2, "fear", "(I)I"⟩
abbrev cX2_mostFeared : ByteArray := prog_4_method_17_code
def yX2_mostFeared : MethodName := ⟨RX2, "mostFeared", "(I)I"⟩
abbrev cX2_rankedByFear : ByteArray := prog_4_method_18_code
def yX2_rankedByFear : MethodName := ⟨RX2, "rankedByFear", "()I"⟩
abbrev cX2_lotsOfAll : ByteArray := prog_4_method_19_code
def yX2_lotsOfAll : MethodName := ⟨RX2, "lotsOfAll", "()I"⟩
abbrev cX2_mostOf : ByteArray := prog_4_method_20_code
def yX2_mostOf : MethodName := ⟨RX2, "mostOf", "(I)I"⟩
abbrev cX2_befriending : ByteArray := prog_4_method_21_code
def yX2_befriending : MethodName := ⟨RX2, "befriending", "(I)I"⟩
abbrev cX2_signs : ByteArray := prog_4_method_22_code
def yX2_signs : MethodName := ⟨RX2, "signs", "(I)I"⟩
abbrev cX2_tellingSigns : ByteArray := prog_4_method_23_code
def yX2_tellingSigns : MethodName := ⟨RX2, "tellingSigns", "(I)I"⟩
abbrev cX2_differsFromAll : ByteArray := prog_4_method_24_code
def yX2_differsFromAll : MethodName := ⟨RX2, "differsFromAll", "(II)Z"⟩
abbrev cX2_areTwins : ByteArray := prog_4_method_25_code
def yX2_areTwins : MethodName := ⟨RX2, "areTwins", "(II)Z"⟩
abbrev cX2_stepsBetween : ByteArray := prog_4_method_26_code
def yX2_stepsBetween : MethodName := ⟨RX2, "stepsBetween", "(II)I"⟩
abbrev cX2_trusted : ByteArray := prog_4_method_27_code
def yX2_trusted : MethodName := ⟨RX2, "trusted", "(I)I"⟩
abbrev cX2_fewestWith : ByteArray := prog_4_method_28_code
def yX2_fewestWith : MethodName := ⟨RX2, "fewestWith", "(I)I"⟩
abbrev cX2_turningOrders : ByteArray := prog_4_method_29_code
def yX2_turningOrders : MethodName := ⟨RX2, "turningOrders", "(II)I"⟩
def RX3 : String := "BlackMill$LawText"
def TX3 : u_T := fun k => match k with
  | 0 => ("BlackMill$LawText", "code", "[I", true)
  | _ => ("BlackMill$LawText", "length", "I", false)
def tyX3 : Nat → FieldType := fun k => match k with
  | 0 => .array .int
  | _ => .int
abbrev wsX30 : List Cond := u_ws RX3 TX3 2
theorem nmX3 : ∀ a, a < 2 → ∀ b, b < 2 → a ≠ b → (TX3 a).2.1 ≠ (TX3 b).2.1 := by decide +kernel
theorem tyX3_ok : ∀ k, k < 2 → parseFieldDescriptor (TX3 k).2.2.1 = some (tyX3 k) := by decide +kernel
abbrev cX3_init : ByteArray := prog_5_method_1_code
def yX3_init : MethodName := ⟨RX3, "<init>", "()V"⟩
abbrev cX3_read : ByteArray := prog_5_method_2_code
def yX3_read : MethodName := ⟨RX3, "read", "(LBlackMill$Tape;)I"⟩
abbrev cX3_write : ByteArray := prog_5_method_3_code
def yX3_write : MethodName := ⟨RX3, "write", "(I)V"⟩
abbrev cX3_clause : ByteArray := prog_5_method_4_code
def yX3_clause : MethodName := ⟨RX3, "clause", "(LBlackMill$Tape;)V"⟩
abbrev cX3_condition : ByteArray := prog_5_method_5_code
def yX3_condition : MethodName := ⟨RX3, "condition", "(LBlackMill$Tape;IZ)V"⟩
abbrev cX3_truth : ByteArray := prog_5_method_6_code
def yX3_truth : MethodName := ⟨RX3, "truth", "(LBlackMill$Tape;IZ)V"⟩
abbrev cX3_unit : ByteArray := prog_5_method_7_code
def yX3_unit : MethodName := ⟨RX3, "unit", "(LBlackMill$Tape;IZ)V"⟩
abbrev cX3_nested : ByteArray := prog_5_method_8_code
def yX3_nested : MethodName := ⟨RX3, "nested", "(LBlackMill$Tape;II)V"⟩
abbrev cX3_isRelation : ByteArray := prog_5_method_9_code
def yX3_isRelation : MethodName := ⟨RX3, "isRelation", "(I)Z"⟩
abbrev cX3_mayNest : ByteArray := prog_5_method_10_code
def yX3_mayNest : MethodName := ⟨RX3, "mayNest", "(LBlackMill$Tape;I)Z"⟩
abbrev cX3_sum : ByteArray := prog_5_method_11_code
def yX3_sum : MethodName := ⟨RX3, "sum", "(LBlackMill$Tape;I)V"⟩
abbrev cX3_term : ByteArray := prog_5_method_12_code
def yX3_term : MethodName := ⟨RX3, "term", "(LBlackMill$Tape;I)V"⟩
abbrev cX3_atom : ByteArray := prog_5_method_13_code
def yX3_atom : MethodName := ⟨RX3, "atom", "(LBlackMill$Tape;I)V"⟩
def RX4 : String := "BlackMill$Laws"
def TX4 : u_T := fun k => match k with
  | 0 => ("BlackMill$Laws", "codes", "[I", true)
  | 1 => ("BlackMill$Laws", "lengths", "[I", true)
  | 2 => ("BlackMill$Laws", "letters", "[I", true)
  | 3 => ("BlackMill$Laws", "stack", "[I", true)
  | 4 => ("BlackMill$Laws", "top", "I", false)
  | 5 => ("BlackMill$Laws", "many", "I", false)
  | _ => ("BlackMill$Laws", "holding", "I", false)
def tyX4 : Nat → FieldType := fun k => match k with
  | 0 => .array .int
  | 1 => .array .int
  | 2 => .array .int
  | 3 => .array .int
  | 4 => .int
  | 5 => .int
  | _ => .int
abbrev wsX40 : List Cond := u_ws RX4 TX4 7
theorem nmX4 : ∀ a, a < 7 → ∀ b, b < 7 → a ≠ b → (TX4 a).2.1 ≠ (TX4 b).2.1 := by decide +kernel
theorem tyX4_ok : ∀ k, k < 7 → parseFieldDescriptor (TX4 k).2.2.1 = some (tyX4 k) := by decide +kernel
abbrev cX4_init : ByteArray := prog_6_method_1_code
def yX4_init : MethodName := ⟨RX4, "<init>", "()V"⟩
abbrev cX4_add : ByteArray := prog_6_method_2_code
def yX4_add : MethodName := ⟨RX4, "add", "([II)I"⟩
abbrev cX4_lessonOf : ByteArray := prog_6_method_3_code
def yX4_lessonOf : MethodName := ⟨RX4, "lessonOf", "(LBlackMill$House;II)I"⟩
abbrev cX4_worth : ByteArray := prog_6_method_4_code
def yX4_worth : MethodName := ⟨RX4, "worth", "()I"⟩
abbrev cX4_work : ByteArray := prog_6_method_5_code
def yX4_work : MethodName := ⟨RX4, "work", "(I)V"⟩
abbrev cX4_result : ByteArray := prog_6_method_6_code
def yX4_result : MethodName := ⟨RX4, "result", "(IJJ)J"⟩
abbrev cX4_held : ByteArray := prog_6_method_7_code
def yX4_held : MethodName := ⟨RX4, "held", "(J)I"⟩
abbrev cX4_push : ByteArray := prog_6_method_8_code
def yX4_push : MethodName := ⟨RX4, "push", "(I)V"⟩
abbrev cX4_pop : ByteArray := prog_6_method_9_code
def yX4_pop : MethodName := ⟨RX4, "pop", "()I"⟩
def RX5 : String := "BlackMill$Ledger"
def TX5 : u_T := fun k => match k with
  | _ => ("BlackMill$Ledger", "rows", "[I", true)
def tyX5 : Nat → FieldType := fun k => match k with
  | _ => .array .int
abbrev wsX50 : List Cond := u_ws RX5 TX5 1
theorem nmX5 : ∀ a, a < 1 → ∀ b, b < 1 → a ≠ b → (TX5 a).2.1 ≠ (TX5 b).2.1 := by decide +kernel
theorem tyX5_ok : ∀ k, k < 1 → parseFieldDescriptor (TX5 k).2.2.1 = some (tyX5 k) := by decide +kernel
abbrev cX5_init : ByteArray := prog_7_method_1_code
def yX5_init : MethodName := ⟨RX5, "<init>", "()V"⟩
abbrev cX5_write : ByteArray := prog_7_method_2_code
def yX5_write : MethodName := ⟨RX5, "write", "(IIII)V"⟩
abbrev cX5_read : ByteArray := prog_7_method_3_code
def yX5_read : MethodName := ⟨RX5, "read", "(II)I"⟩
abbrev cX5_copy : ByteArray := prog_7_method_4_code
def yX5_copy : MethodName := ⟨RX5, "copy", "(LBlackMill$Ledger;)V"⟩
def RX6 : String := "BlackMill$MillText"
def TX6 : u_T := fun k => match k with
  | 0 => ("BlackMill$MillText", "master", "[I", true)
  | 1 => ("BlackMill$MillText", "lads", "[I", true)
  | 2 => ("BlackMill$MillText", "ways", "[I", true)
  | 3 => ("BlackMill$MillText", "mastered", "Z", false)
  | 4 => ("BlackMill$MillText", "manyLads", "I", false)
  | _ => ("BlackMill$MillText", "manyWays", "I", false)
def tyX6 : Nat → FieldType := fun k => match k with
  | 0 => .array .int
  | 1 => .array .int
  | 2 => .array .int
  | 3 => .boolean
  | 4 => .int
  | _ => .int
abbrev wsX60 : List Cond := u_ws RX6 TX6 6
theorem nmX6 : ∀ a, a < 6 → ∀ b, b < 6 → a ≠ b → (TX6 a).2.1 ≠ (TX6 b).2.1 := by decide +kernel
theorem tyX6_ok : ∀ k, k < 6 → parseFieldDescriptor (TX6 k).2.2.1 = some (tyX6 k) := by decide +kernel
abbrev cX6_init : ByteArray := prog_8_method_1_code
def yX6_init : MethodName := ⟨RX6, "<init>", "()V"⟩
abbrev cX6_read : ByteArray := prog_8_method_2_code
def yX6_read : MethodName := ⟨RX6, "read", "(LBlackMill$Tape;)I"⟩
abbrev cX6_clause : ByteArray := prog_8_method_3_code
def yX6_clause : MethodName := ⟨RX6, "clause", "(LBlackMill$Tape;)V"⟩
abbrev cX6_items : ByteArray := prog_8_method_4_code
def yX6_items : MethodName := ⟨RX6, "items", "(LBlackMill$Tape;Ljava/lang/String;[I[I[II)V"⟩
abbrev cX6_isWhole : ByteArray := prog_8_method_5_code
def yX6_isWhole : MethodName := ⟨RX6, "isWhole", "()Z"⟩
abbrev cX6_item : ByteArray := prog_8_method_6_code
def yX6_item : MethodName := ⟨RX6, "item", "(II)I"⟩
def RX7 : String := "BlackMill$Roads"
def TX7 : u_T := fun k => match k with
  | 0 => ("BlackMill$Roads", "cells", "[I", true)
  | 1 => ("BlackMill$Roads", "hours", "[I", true)
  | _ => ("BlackMill$Roads", "many", "I", false)
def tyX7 : Nat → FieldType := fun k => match k with
  | 0 => .array .int
  | 1 => .array .int
  | _ => .int
abbrev wsX70 : List Cond := u_ws RX7 TX7 3
theorem nmX7 : ∀ a, a < 3 → ∀ b, b < 3 → a ≠ b → (TX7 a).2.1 ≠ (TX7 b).2.1 := by decide +kernel
theorem tyX7_ok : ∀ k, k < 3 → parseFieldDescriptor (TX7 k).2.2.1 = some (tyX7 k) := by decide +kernel
abbrev cX7_init : ByteArray := prog_9_method_1_code
def yX7_init : MethodName := ⟨RX7, "<init>", "()V"⟩
abbrev cX7_build : ByteArray := prog_9_method_2_code
def yX7_build : MethodName := ⟨RX7, "build", "(LBlackMill$MillText;)V"⟩
abbrev cX7_shorten : ByteArray := prog_9_method_3_code
def yX7_shorten : MethodName := ⟨RX7, "shorten", "(III)V"⟩
abbrev cX7_hoursTo : ByteArray := prog_9_method_4_code
def yX7_hoursTo : MethodName := ⟨RX7, "hoursTo", "(I)I"⟩
def RX8 : String := "BlackMill$Tape"
def TX8 : u_T := fun k => match k with
  | 0 => ("BlackMill$Tape", "bytes", "[I", true)
  | 1 => ("BlackMill$Tape", "length", "I", false)
  | 2 => ("BlackMill$Tape", "place", "I", false)
  | _ => ("BlackMill$Tape", "bad", "I", false)
def tyX8 : Nat → FieldType := fun k => match k with
  | 0 => .array .int
  | 1 => .int
  | 2 => .int
  | _ => .int
abbrev wsX80 : List Cond := u_ws RX8 TX8 4
theorem nmX8 : ∀ a, a < 4 → ∀ b, b < 4 → a ≠ b → (TX8 a).2.1 ≠ (TX8 b).2.1 := by decide +kernel
theorem tyX8_ok : ∀ k, k < 4 → parseFieldDescriptor (TX8 k).2.2.1 = some (tyX8 k) := by decide +kernel
abbrev cX8_init : ByteArray := prog_10_method_1_code
def yX8_init : MethodName := ⟨RX8, "<init>", "()V"⟩
abbrev cX8_addWord : ByteArray := prog_10_method_2_code
def yX8_addWord : MethodName := ⟨RX8, "addWord", "(I)V"⟩
abbrev cX8_begin : ByteArray := prog_10_method_3_code
def yX8_begin : MethodName := ⟨RX8, "begin", "()V"⟩
abbrev cX8_sign : ByteArray := prog_10_method_4_code
def yX8_sign : MethodName := ⟨RX8, "sign", "()I"⟩
abbrev cX8_step : ByteArray := prog_10_method_5_code
def yX8_step : MethodName := ⟨RX8, "step", "()V"⟩
abbrev cX8_failAt : ByteArray := prog_10_method_6_code
def yX8_failAt : MethodName := ⟨RX8, "failAt", "(I)V"⟩
abbrev cX8_fail : ByteArray := prog_10_method_7_code
def yX8_fail : MethodName := ⟨RX8, "fail", "()V"⟩
abbrev cX8_want : ByteArray := prog_10_method_8_code
def yX8_want : MethodName := ⟨RX8, "want", "(I)V"⟩
abbrev cX8_wantOver : ByteArray := prog_10_method_9_code
def yX8_wantOver : MethodName := ⟨RX8, "wantOver", "()V"⟩
abbrev cX8_number : ByteArray := prog_10_method_10_code
def yX8_number : MethodName := ⟨RX8, "number", "(I)I"⟩
def RX9 : String := "BlackMill$Trail"
def TX9 : u_T := fun k => match k with
  | 0 => ("BlackMill$Trail", "steps", "[LBlackMill$House;", true)
  | 1 => ("BlackMill$Trail", "bestRow", "I", false)
  | _ => ("BlackMill$Trail", "mostArt", "I", false)
def tyX9 : Nat → FieldType := fun k => match k with
  | 0 => .array (.object "BlackMill$House")
  | 1 => .int
  | _ => .int
abbrev wsX90 : List Cond := u_ws RX9 TX9 3
theorem nmX9 : ∀ a, a < 3 → ∀ b, b < 3 → a ≠ b → (TX9 a).2.1 ≠ (TX9 b).2.1 := by decide +kernel
theorem tyX9_ok : ∀ k, k < 3 → parseFieldDescriptor (TX9 k).2.2.1 = some (tyX9 k) := by decide +kernel
abbrev cX9_init : ByteArray := prog_11_method_1_code
def yX9_init : MethodName := ⟨RX9, "<init>", "()V"⟩
abbrev cX9_search : ByteArray := prog_11_method_2_code
def yX9_search : MethodName := ⟨RX9, "search", "(LBlackMill$House;IILBlackMill$Laws;)V"⟩
abbrev cX9_stepAt : ByteArray := prog_11_method_3_code
def yX9_stepAt : MethodName := ⟨RX9, "stepAt", "(I)LBlackMill$House;"⟩
abbrev cX9_tread : ByteArray := prog_11_method_4_code
def yX9_tread : MethodName := ⟨RX9, "tread", "(IIIILBlackMill$Laws;)V"⟩
def RX10 : String := "BlackMill"
def TX10 : u_T := fun k => match k with
  | 0 => ("BlackMill", "tape", "LBlackMill$Tape;", true)
  | 1 => ("BlackMill", "millText", "LBlackMill$MillText;", true)
  | 2 => ("BlackMill", "lawText", "LBlackMill$LawText;", true)
  | 3 => ("BlackMill", "laws", "LBlackMill$Laws;", true)
  | 4 => ("BlackMill", "master", "[I", true)
  | 5 => ("BlackMill", "house", "LBlackMill$House;", true)
  | 6 => ("BlackMill", "trial", "LBlackMill$House;", true)
  | 7 => ("BlackMill", "keptHouse", "LBlackMill$House;", true)
  | 8 => ("BlackMill", "ledger", "LBlackMill$Ledger;", true)
  | 9 => ("BlackMill", "keptLedger", "LBlackMill$Ledger;", true)
  | 10 => ("BlackMill", "acts", "LBlackMill$Acts;", true)
  | 11 => ("BlackMill", "trail", "LBlackMill$Trail;", true)
  | 12 => ("BlackMill", "roads", "LBlackMill$Roads;", true)
  | 13 => ("BlackMill", "clues", "LBlackMill$Clues;", true)
  | 14 => ("BlackMill", "refused", "[I", true)
  | 15 => ("BlackMill", "boldness", "I", false)
  | _ => ("BlackMill", "imaged", "Z", false)
def tyX10 : Nat → FieldType := fun k => match k with
  | 0 => .object "BlackMill$Tape"
  | 1 => .object "BlackMill$MillText"
  | 2 => .object "BlackMill$LawText"
  | 3 => .object "BlackMill$Laws"
  | 4 => .array .int
  | 5 => .object "BlackMill$House"
  | 6 => .object "BlackMill$House"
  | 7 => .object "BlackMill$House"
  | 8 => .object "BlackMill$Ledger"
  | 9 => .object "BlackMill$Ledger"
  | 10 => .object "BlackMill$Acts"
  | 11 => .object "BlackMill$Trail"
  | 12 => .object "BlackMill$Roads"
  | 13 => .object "BlackMill$Clues"
  | 14 => .array .int
  | 15 => .int
  | _ => .boolean
abbrev wsX100 : List Cond := u_ws RX10 TX10 17
theorem nmX10 : ∀ a, a < 17 → ∀ b, b < 17 → a ≠ b → (TX10 a).2.1 ≠ (TX10 b).2.1 := by decide +kernel
theorem tyX10_ok : ∀ k, k < 17 → parseFieldDescriptor (TX10 k).2.2.1 = some (tyX10 k) := by decide +kernel
abbrev cX10_init : ByteArray := prog_1_method_1_code
def yX10_init : MethodName := ⟨RX10, "<init>", "()V"⟩
abbrev cX10_feed : ByteArray := prog_1_method_2_code
def yX10_feed : MethodName := ⟨RX10, "feed", "(IIIII)I"⟩
abbrev cX10_end : ByteArray := prog_1_method_3_code
def yX10_end : MethodName := ⟨RX10, "end", "(I)Z"⟩
abbrev cX10_fault : ByteArray := prog_1_method_4_code
def yX10_fault : MethodName := ⟨RX10, "fault", "(I)I"⟩
abbrev cX10_text : ByteArray := prog_1_method_5_code
def yX10_text : MethodName := ⟨RX10, "text", "(I)I"⟩
abbrev cX10_found : ByteArray := prog_1_method_6_code
def yX10_found : MethodName := ⟨RX10, "found", "()V"⟩
abbrev cX10_isTold : ByteArray := prog_1_method_7_code
def yX10_isTold : MethodName := ⟨RX10, "isTold", "()Z"⟩
abbrev cX10_master : ByteArray := prog_1_method_8_code
def yX10_master : MethodName := ⟨RX10, "master", "(I)I"⟩
abbrev cX10_lad : ByteArray := prog_1_method_9_code
def yX10_lad : MethodName := ⟨RX10, "lad", "(II)I"⟩
abbrev cX10_way : ByteArray := prog_1_method_10_code
def yX10_way : MethodName := ⟨RX10, "way", "(II)I"⟩
abbrev cX10_law : ByteArray := prog_1_method_11_code
def yX10_law : MethodName := ⟨RX10, "law", "(I)Z"⟩
abbrev cX10_show : ByteArray := prog_1_method_12_code
def yX10_show : MethodName := ⟨RX10, "show", "(II)I"⟩
abbrev cX10_warn : ByteArray := prog_1_method_13_code
def yX10_warn : MethodName := ⟨RX10, "warn", "(I)I"⟩
abbrev cX10_leave : ByteArray := prog_1_method_14_code
def yX10_leave : MethodName := ⟨RX10, "leave", "(I)I"⟩
abbrev cX10_come : ByteArray := prog_1_method_15_code
def yX10_come : MethodName := ⟨RX10, "come", "(I)I"⟩
abbrev cX10_years : ByteArray := prog_1_method_16_code
def yX10_years : MethodName := ⟨RX10, "years", "(I)I"⟩
abbrev cX10_passYear : ByteArray := prog_1_method_17_code
def yX10_passYear : MethodName := ⟨RX10, "passYear", "()V"⟩
abbrev cX10_refuse : ByteArray := prog_1_method_18_code
def yX10_refuse : MethodName := ⟨RX10, "refuse", "(II)I"⟩
abbrev cX10_bold : ByteArray := prog_1_method_19_code
def yX10_bold : MethodName := ⟨RX10, "bold", "(I)Z"⟩
abbrev cX10_winters : ByteArray := prog_1_method_20_code
def yX10_winters : MethodName := ⟨RX10, "winters", "(IJ)I"⟩
abbrev cX10_showByDraws : ByteArray := prog_1_method_21_code
def yX10_showByDraws : MethodName := ⟨RX10, "showByDraws", "(J)J"⟩
abbrev cX10_comeByDraws : ByteArray := prog_1_method_22_code
def yX10_comeByDraws : MethodName := ⟨RX10, "comeByDraws", "(J)J"⟩
abbrev cX10_stepped : ByteArray := prog_1_method_23_code
def yX10_stepped : MethodName := ⟨RX10, "stepped", "(J)J"⟩
abbrev cX10_drawn : ByteArray := prog_1_method_24_code
def yX10_drawn : MethodName := ⟨RX10, "drawn", "(JI)I"⟩
abbrev cX10_status : ByteArray := prog_1_method_25_code
def yX10_status : MethodName := ⟨RX10, "status", "(I)I"⟩
abbrev cX10_undo : ByteArray := prog_1_method_26_code
def yX10_undo : MethodName := ⟨RX10, "undo", "()I"⟩
abbrev cX10_log : ByteArray := prog_1_method_27_code
def yX10_log : MethodName := ⟨RX10, "log", "(II)I"⟩
abbrev cX10_logLength : ByteArray := prog_1_method_28_code
def yX10_logLength : MethodName := ⟨RX10, "logLength", "()I"⟩
abbrev cX10_image : ByteArray := prog_1_method_29_code
def yX10_image : MethodName := ⟨RX10, "image", "()I"⟩
abbrev cX10_back : ByteArray := prog_1_method_30_code
def yX10_back : MethodName := ⟨RX10, "back", "()I"⟩
abbrev cX10_chosen : ByteArray := prog_1_method_31_code
def yX10_chosen : MethodName := ⟨RX10, "chosen", "()I"⟩
abbrev cX10_order : ByteArray := prog_1_method_32_code
def yX10_order : MethodName := ⟨RX10, "order", "()I"⟩
abbrev cX10_safe : ByteArray := prog_1_method_33_code
def yX10_safe : MethodName := ⟨RX10, "safe", "(I)I"⟩
abbrev cX10_path : ByteArray := prog_1_method_34_code
def yX10_path : MethodName := ⟨RX10, "path", "(III)I"⟩
abbrev cX10_holds : ByteArray := prog_1_method_35_code
def yX10_holds : MethodName := ⟨RX10, "holds", "(I)I"⟩
abbrev cX10_odds : ByteArray := prog_1_method_36_code
def yX10_odds : MethodName := ⟨RX10, "odds", "(II)I"⟩
abbrev cX10_learns : ByteArray := prog_1_method_37_code
def yX10_learns : MethodName := ⟨RX10, "learns", "(I)I"⟩
abbrev cX10_tells : ByteArray := prog_1_method_38_code
def yX10_tells : MethodName := ⟨RX10, "tells", "(I)I"⟩
abbrev cX10_twins : ByteArray := prog_1_method_39_code
def yX10_twins : MethodName := ⟨RX10, "twins", "(I)I"⟩
abbrev cX10_chain : ByteArray := prog_1_method_40_code
def yX10_chain : MethodName := ⟨RX10, "chain", "(II)I"⟩
abbrev cX10_trusts : ByteArray := prog_1_method_41_code
def yX10_trusts : MethodName := ⟨RX10, "trusts", "(I)I"⟩
abbrev cX10_friends : ByteArray := prog_1_method_42_code
def yX10_friends : MethodName := ⟨RX10, "friends", "(I)I"⟩
abbrev cX10_out : ByteArray := prog_1_method_43_code
def yX10_out : MethodName := ⟨RX10, "out", "(IZ)I"⟩
abbrev cX10_asksForSpies : ByteArray := prog_1_method_44_code
def yX10_asksForSpies : MethodName := ⟨RX10, "asksForSpies", "(I)Z"⟩
abbrev cX10_spies : ByteArray := prog_1_method_45_code
def yX10_spies : MethodName := ⟨RX10, "spies", "(II)I"⟩
abbrev cX10_clear : ByteArray := prog_1_method_46_code
def yX10_clear : MethodName := ⟨RX10, "clear", "(I)I"⟩
abbrev cX10_best : ByteArray := prog_1_method_47_code
def yX10_best : MethodName := ⟨RX10, "best", "(I)I"⟩
abbrev cX10_grave : ByteArray := prog_1_method_48_code
def yX10_grave : MethodName := ⟨RX10, "grave", "(IIZ)I"⟩
abbrev cX10_dug : ByteArray := prog_1_method_49_code
def yX10_dug : MethodName := ⟨RX10, "dug", "()I"⟩
abbrev cX10_flight : ByteArray := prog_1_method_50_code
def yX10_flight : MethodName := ⟨RX10, "flight", "(I)I"⟩
abbrev cX10_reach : ByteArray := prog_1_method_51_code
def yX10_reach : MethodName := ⟨RX10, "reach", "()I"⟩
abbrev cX10_dare : ByteArray := prog_1_method_52_code
def yX10_dare : MethodName := ⟨RX10, "dare", "()I"⟩
abbrev cX10_shares : ByteArray := prog_1_method_53_code
def yX10_shares : MethodName := ⟨RX10, "shares", "(I)I"⟩
abbrev cX10_canPlay : ByteArray := prog_1_method_54_code
def yX10_canPlay : MethodName := ⟨RX10, "canPlay", "(II)Z"⟩
abbrev cX10_game : ByteArray := prog_1_method_55_code
def yX10_game : MethodName := ⟨RX10, "game", "(IIIII)I"⟩
abbrev cX10_played : ByteArray := prog_1_method_56_code
def yX10_played : MethodName := ⟨RX10, "played", "(IIIII)I"⟩
abbrev cX10_rests : ByteArray := prog_1_method_57_code
def yX10_rests : MethodName := ⟨RX10, "rests", "(III)I"⟩
abbrev cX10_isRest : ByteArray := prog_1_method_58_code
def yX10_isRest : MethodName := ⟨RX10, "isRest", "(IIII)Z"⟩
abbrev cX10_ablest : ByteArray := prog_1_method_59_code
def yX10_ablest : MethodName := ⟨RX10, "ablest", "()I"⟩
abbrev cX10_oldest : ByteArray := prog_1_method_60_code
def yX10_oldest : MethodName := ⟨RX10, "oldest", "()I"⟩
abbrev cX10_hides : ByteArray := prog_1_method_61_code
def yX10_hides : MethodName := ⟨RX10, "hides", "(I)I"⟩
abbrev cX10_count : ByteArray := prog_1_method_62_code
def yX10_count : MethodName := ⟨RX10, "count", "(I)I"⟩
abbrev cX10_at : ByteArray := prog_1_method_63_code
def yX10_at : MethodName := ⟨RX10, "at", "([II)I"⟩
abbrev cX10_put : ByteArray := prog_1_method_64_code
def yX10_put : MethodName := ⟨RX10, "put", "([III)V"⟩
abbrev cX10_move : ByteArray := prog_1_method_65_code
def yX10_move : MethodName := ⟨RX10, "move", "([II[III)V"⟩
abbrev cX10_within : ByteArray := prog_1_method_66_code
def yX10_within : MethodName := ⟨RX10, "within", "(III)I"⟩
abbrev cX10_filled : ByteArray := prog_1_method_67_code
def yX10_filled : MethodName := ⟨RX10, "filled", "(I)I"⟩
abbrev cX10_placeIn : ByteArray := prog_1_method_68_code
def yX10_placeIn : MethodName := ⟨RX10, "placeIn", "(Ljava/lang/String;I)I"⟩
abbrev cX10_isDigit : ByteArray := prog_1_method_69_code
def yX10_isDigit : MethodName := ⟨RX10, "isDigit", "(I)Z"⟩
def RX11 : String := "BlackMillModel"
def TX11 : u_T := fun k => match k with
  | 0 => ("BlackMillModel", "thrown", "I", false)
  | 1 => ("BlackMillModel", "tape", "[I", true)
  | 2 => ("BlackMillModel", "size", "I", false)
  | 3 => ("BlackMillModel", "at", "I", false)
  | 4 => ("BlackMillModel", "wrong", "I", false)
  | 5 => ("BlackMillModel", "deep", "I", false)
  | 6 => ("BlackMillModel", "code", "[I", true)
  | 7 => ("BlackMillModel", "value", "[I", true)
  | 8 => ("BlackMillModel", "codes", "[I", true)
  | 9 => ("BlackMillModel", "clauses", "[I", true)
  | 10 => ("BlackMillModel", "testFrom", "[I", true)
  | 11 => ("BlackMillModel", "sumFrom", "[I", true)
  | 12 => ("BlackMillModel", "sumTo", "[I", true)
  | 13 => ("BlackMillModel", "laws", "I", false)
  | 14 => ("BlackMillModel", "text", "I", false)
  | 15 => ("BlackMillModel", "letters", "[I", true)
  | 16 => ("BlackMillModel", "stack", "[I", true)
  | 17 => ("BlackMillModel", "readMaster", "[I", true)
  | 18 => ("BlackMillModel", "readLad", "[I", true)
  | 19 => ("BlackMillModel", "readWay", "[I", true)
  | 20 => ("BlackMillModel", "readLads", "I", false)
  | 21 => ("BlackMillModel", "readWays", "I", false)
  | 22 => ("BlackMillModel", "master", "[I", true)
  | 23 => ("BlackMillModel", "way", "[I", true)
  | 24 => ("BlackMillModel", "lads", "I", false)
  | 25 => ("BlackMillModel", "ways", "I", false)
  | 26 => ("BlackMillModel", "now", "[I", true)
  | 27 => ("BlackMillModel", "refused", "[I", true)
  | 28 => ("BlackMillModel", "holding", "I", false)
  | 29 => ("BlackMillModel", "daring", "I", false)
  | 30 => ("BlackMillModel", "kept", "[I", true)
  | 31 => ("BlackMillModel", "acts", "I", false)
  | 32 => ("BlackMillModel", "draws", "J", false)
  | 33 => ("BlackMillModel", "aside", "[I", true)
  | 34 => ("BlackMillModel", "pathRow", "I", false)
  | 35 => ("BlackMillModel", "pathArt", "I", false)
  | 36 => ("BlackMillModel", "outWho", "[I", true)
  | 37 => ("BlackMillModel", "outIs", "[Z", true)
  | 38 => ("BlackMillModel", "outs", "I", false)
  | 39 => ("BlackMillModel", "hoursTo", "[I", true)
  | 40 => ("BlackMillModel", "graveSort", "[I", true)
  | 41 => ("BlackMillModel", "graveFrom", "[I", true)
  | 42 => ("BlackMillModel", "graveIs", "[Z", true)
  | 43 => ("BlackMillModel", "graves", "I", false)
  | 44 => ("BlackMillModel", "image", "[I", true)
  | _ => ("BlackMillModel", "hasImage", "Z", false)
def tyX11 : Nat → FieldType := fun k => match k with
  | 0 => .int
  | 1 => .array .int
  | 2 => .int
  | 3 => .int
  | 4 => .int
  | 5 => .int
  | 6 => .array .int
  | 7 => .array .int
  | 8 => .array .int
  | 9 => .array .int
  | 10 => .array .int
  | 11 => .array .int
  | 12 => .array .int
  | 13 => .int
  | 14 => .int
  | 15 => .array .int
  | 16 => .array .int
  | 17 => .array .int
  | 18 => .array .int
  | 19 => .array .int
  | 20 => .int
  | 21 => .int
  | 22 => .array .int
  | 23 => .array .int
  | 24 => .int
  | 25 => .int
  | 26 => .array .int
  | 27 => .array .int
  | 28 => .int
  | 29 => .int
  | 30 => .array .int
  | 31 => .int
  | 32 => .long
  | 33 => .array .int
  | 34 => .int
  | 35 => .int
  | 36 => .array .int
  | 37 => .array .boolean
  | 38 => .int
  | 39 => .array .int
  | 40 => .array .int
  | 41 => .array .int
  | 42 => .array .boolean
  | 43 => .int
  | 44 => .array .int
  | _ => .boolean
abbrev wsX110 : List Cond := u_ws RX11 TX11 46
theorem nmX11 : ∀ a, a < 46 → ∀ b, b < 46 → a ≠ b → (TX11 a).2.1 ≠ (TX11 b).2.1 := by decide +kernel
theorem tyX11_ok : ∀ k, k < 46 → parseFieldDescriptor (TX11 k).2.2.1 = some (tyX11 k) := by decide +kernel
abbrev cX11_in : ByteArray := prog_13_method_1_code
def yX11_in : MethodName := ⟨RX11, "in", "(III)Z"⟩
abbrev cX11_has : ByteArray := prog_13_method_2_code
def yX11_has : MethodName := ⟨RX11, "has", "(II)Z"⟩
abbrev cX11_init : ByteArray := prog_13_method_3_code
def yX11_init : MethodName := ⟨RX11, "<init>", "()V"⟩
abbrev cX11_thrown : ByteArray := prog_13_method_4_code
def yX11_thrown : MethodName := ⟨RX11, "thrown", "()I"⟩
abbrev cX11_byteOf : ByteArray := prog_13_method_5_code
def yX11_byteOf : MethodName := ⟨RX11, "byteOf", "(IIIIII)I"⟩
abbrev cX11_feed : ByteArray := prog_13_method_6_code
def yX11_feed : MethodName := ⟨RX11, "feed", "(IIIII)I"⟩
abbrev cX11_end : ByteArray := prog_13_method_7_code
def yX11_end : MethodName := ⟨RX11, "end", "(I)Z"⟩
abbrev cX11_here : ByteArray := prog_13_method_8_code
def yX11_here : MethodName := ⟨RX11, "here", "()I"⟩
abbrev cX11_look : ByteArray := prog_13_method_9_code
def yX11_look : MethodName := ⟨RX11, "look", "()I"⟩
abbrev cX11_bad : ByteArray := prog_13_method_10_code
def yX11_bad : MethodName := ⟨RX11, "bad", "()V"⟩
abbrev cX11_isDigit : ByteArray := prog_13_method_11_code
def yX11_isDigit : MethodName := ⟨RX11, "isDigit", "(I)Z"⟩
abbrev cX11_put : ByteArray := prog_13_method_12_code
def yX11_put : MethodName := ⟨RX11, "put", "(II)V"⟩
abbrev cX11_letterOf : ByteArray := prog_13_method_13_code
def yX11_letterOf : MethodName := ⟨RX11, "letterOf", "(I)I"⟩
abbrev cX11_opens : ByteArray := prog_13_method_14_code
def yX11_opens : MethodName := ⟨RX11, "opens", "()V"⟩
abbrev cX11_closes : ByteArray := prog_13_method_15_code
def yX11_closes : MethodName := ⟨RX11, "closes", "(I)V"⟩
abbrev cX11_plainNumber : ByteArray := prog_13_method_16_code
def yX11_plainNumber : MethodName := ⟨RX11, "plainNumber", "()I"⟩
abbrev cX11_atom : ByteArray := prog_13_method_17_code
def yX11_atom : MethodName := ⟨RX11, "atom", "()V"⟩
abbrev cX11_term : ByteArray := prog_13_method_18_code
def yX11_term : MethodName := ⟨RX11, "term", "()V"⟩
abbrev cX11_sum : ByteArray := prog_13_method_19_code
def yX11_sum : MethodName := ⟨RX11, "sum", "()V"⟩
abbrev cX11_isSign : ByteArray := prog_13_method_20_code
def yX11_isSign : MethodName := ⟨RX11, "isSign", "(I)Z"⟩
abbrev cX11_compare : ByteArray := prog_13_method_21_code
def yX11_compare : MethodName := ⟨RX11, "compare", "()V"⟩
abbrev cX11_unit : ByteArray := prog_13_method_22_code
def yX11_unit : MethodName := ⟨RX11, "unit", "()V"⟩
abbrev cX11_goOnAnd : ByteArray := prog_13_method_23_code
def yX11_goOnAnd : MethodName := ⟨RX11, "goOnAnd", "()V"⟩
abbrev cX11_goOnOr : ByteArray := prog_13_method_24_code
def yX11_goOnOr : MethodName := ⟨RX11, "goOnOr", "()V"⟩
abbrev cX11_condition : ByteArray := prog_13_method_25_code
def yX11_condition : MethodName := ⟨RX11, "condition", "()V"⟩
abbrev cX11_clause : ByteArray := prog_13_method_26_code
def yX11_clause : MethodName := ⟨RX11, "clause", "()V"⟩
abbrev cX11_open : ByteArray := prog_13_method_27_code
def yX11_open : MethodName := ⟨RX11, "open", "(I)V"⟩
abbrev cX11_atEnd : ByteArray := prog_13_method_28_code
def yX11_atEnd : MethodName := ⟨RX11, "atEnd", "()I"⟩
abbrev cX11_readLaw : ByteArray := prog_13_method_29_code
def yX11_readLaw : MethodName := ⟨RX11, "readLaw", "(I)I"⟩
abbrev cX11_bounded : ByteArray := prog_13_method_30_code
def yX11_bounded : MethodName := ⟨RX11, "bounded", "(J)I"⟩
abbrev cX11_worked : ByteArray := prog_13_method_31_code
def yX11_worked : MethodName := ⟨RX11, "worked", "(IJJ)I"⟩
abbrev cX11_workOut : ByteArray := prog_13_method_32_code
def yX11_workOut : MethodName := ⟨RX11, "workOut", "(III)I"⟩
abbrev cX11_worthOf : ByteArray := prog_13_method_33_code
def yX11_worthOf : MethodName := ⟨RX11, "worthOf", "(I)I"⟩
abbrev cX11_number : ByteArray := prog_13_method_34_code
def yX11_number : MethodName := ⟨RX11, "number", "(II)I"⟩
abbrev cX11_itemOf : ByteArray := prog_13_method_35_code
def yX11_itemOf : MethodName := ⟨RX11, "itemOf", "(II)I"⟩
abbrev cX11_lowest : ByteArray := prog_13_method_36_code
def yX11_lowest : MethodName := ⟨RX11, "lowest", "(II)I"⟩
abbrev cX11_highest : ByteArray := prog_13_method_37_code
def yX11_highest : MethodName := ⟨RX11, "highest", "(II)I"⟩
abbrev cX11_usual : ByteArray := prog_13_method_38_code
def yX11_usual : MethodName := ⟨RX11, "usual", "(II)I"⟩
abbrev cX11_items : ByteArray := prog_13_method_39_code
def yX11_items : MethodName := ⟨RX11, "items", "(I[III)V"⟩
abbrev cX11_isWhole : ByteArray := prog_13_method_40_code
def yX11_isWhole : MethodName := ⟨RX11, "isWhole", "()Z"⟩
abbrev cX11_readMill : ByteArray := prog_13_method_41_code
def yX11_readMill : MethodName := ⟨RX11, "readMill", "()I"⟩
abbrev cX11_fault : ByteArray := prog_13_method_42_code
def yX11_fault : MethodName := ⟨RX11, "fault", "(I)I"⟩
abbrev cX11_takeMill : ByteArray := prog_13_method_43_code
def yX11_takeMill : MethodName := ⟨RX11, "takeMill", "()I"⟩
abbrev cX11_text : ByteArray := prog_13_method_44_code
def yX11_text : MethodName := ⟨RX11, "text", "(I)I"⟩
abbrev cX11_of : ByteArray := prog_13_method_45_code
def yX11_of : MethodName := ⟨RX11, "of", "(II)I"⟩
abbrev cX11_lay : ByteArray := prog_13_method_46_code
def yX11_lay : MethodName := ⟨RX11, "lay", "(III)V"⟩
abbrev cX11_isLad : ByteArray := prog_13_method_47_code
def yX11_isLad : MethodName := ⟨RX11, "isLad", "(I)Z"⟩
abbrev cX11_lives : ByteArray := prog_13_method_48_code
def yX11_lives : MethodName := ⟨RX11, "lives", "(I)Z"⟩
abbrev cX11_living : ByteArray := prog_13_method_49_code
def yX11_living : MethodName := ⟨RX11, "living", "()I"⟩
abbrev cX11_manyLive : ByteArray := prog_13_method_50_code
def yX11_manyLive : MethodName := ⟨RX11, "manyLive", "()I"⟩
abbrev cX11_fearBy : ByteArray := prog_13_method_51_code
def yX11_fearBy : MethodName := ⟨RX11, "fearBy", "(II)I"⟩
abbrev cX11_fear : ByteArray := prog_13_method_52_code
def yX11_fear : MethodName := ⟨RX11, "fear", "(I)I"⟩
abbrev cX11_chosenNow : ByteArray := prog_13_method_53_code
def yX11_chosenNow : MethodName := ⟨RX11, "chosenNow", "()I"⟩
abbrev cX11_signs : ByteArray := prog_13_method_54_code
def yX11_signs : MethodName := ⟨RX11, "signs", "(I)I"⟩
abbrev cX11_friendsOf : ByteArray := prog_13_method_55_code
def yX11_friendsOf : MethodName := ⟨RX11, "friendsOf", "(I)I"⟩
abbrev cX11_master : ByteArray := prog_13_method_56_code
def yX11_master : MethodName := ⟨RX11, "master", "(I)I"⟩
abbrev cX11_lad : ByteArray := prog_13_method_57_code
def yX11_lad : MethodName := ⟨RX11, "lad", "(II)I"⟩
abbrev cX11_way : ByteArray := prog_13_method_58_code
def yX11_way : MethodName := ⟨RX11, "way", "(II)I"⟩
abbrev cX11_law : ByteArray := prog_13_method_59_code
def yX11_law : MethodName := ⟨RX11, "law", "(I)Z"⟩
abbrev cX11_learnsBy : ByteArray := prog_13_method_60_code
def yX11_learnsBy : MethodName := ⟨RX11, "learnsBy", "(III)I"⟩
abbrev cX11_live : ByteArray := prog_13_method_61_code
def yX11_live : MethodName := ⟨RX11, "live", "()I"⟩
abbrev cX11_artOf : ByteArray := prog_13_method_62_code
def yX11_artOf : MethodName := ⟨RX11, "artOf", "(I)I"⟩
abbrev cX11_passYear : ByteArray := prog_13_method_63_code
def yX11_passYear : MethodName := ⟨RX11, "passYear", "()V"⟩
abbrev cX11_keep : ByteArray := prog_13_method_64_code
def yX11_keep : MethodName := ⟨RX11, "keep", "()V"⟩
abbrev cX11_isRefused : ByteArray := prog_13_method_65_code
def yX11_isRefused : MethodName := ⟨RX11, "isRefused", "(I)Z"⟩
abbrev cX11_show : ByteArray := prog_13_method_66_code
def yX11_show : MethodName := ⟨RX11, "show", "(II)I"⟩
abbrev cX11_warn : ByteArray := prog_13_method_67_code
def yX11_warn : MethodName := ⟨RX11, "warn", "(I)I"⟩
abbrev cX11_leave : ByteArray := prog_13_method_68_code
def yX11_leave : MethodName := ⟨RX11, "leave", "(I)I"⟩
abbrev cX11_comeNow : ByteArray := prog_13_method_69_code
def yX11_comeNow : MethodName := ⟨RX11, "comeNow", "(I)V"⟩
abbrev cX11_come : ByteArray := prog_13_method_70_code
def yX11_come : MethodName := ⟨RX11, "come", "(I)I"⟩
abbrev cX11_years : ByteArray := prog_13_method_71_code
def yX11_years : MethodName := ⟨RX11, "years", "(I)I"⟩
abbrev cX11_bold : ByteArray := prog_13_method_72_code
def yX11_bold : MethodName := ⟨RX11, "bold", "(I)Z"⟩
abbrev cX11_draw : ByteArray := prog_13_method_73_code
def yX11_draw : MethodName := ⟨RX11, "draw", "(I)I"⟩
abbrev cX11_drawLads : ByteArray := prog_13_method_74_code
def yX11_drawLads : MethodName := ⟨RX11, "drawLads", "()V"⟩
abbrev cX11_winters : ByteArray := prog_13_method_75_code
def yX11_winters : MethodName := ⟨RX11, "winters", "(IJ)I"⟩
abbrev cX11_status : ByteArray := prog_13_method_76_code
def yX11_status : MethodName := ⟨RX11, "status", "(I)I"⟩
abbrev cX11_undo : ByteArray := prog_13_method_77_code
def yX11_undo : MethodName := ⟨RX11, "undo", "()I"⟩
abbrev cX11_log : ByteArray := prog_13_method_78_code
def yX11_log : MethodName := ⟨RX11, "log", "(II)I"⟩
abbrev cX11_chosen : ByteArray := prog_13_method_79_code
def yX11_chosen : MethodName := ⟨RX11, "chosen", "()I"⟩
abbrev cX11_putAside : ByteArray := prog_13_method_80_code
def yX11_putAside : MethodName := ⟨RX11, "putAside", "(I)V"⟩
abbrev cX11_takeBack : ByteArray := prog_13_method_81_code
def yX11_takeBack : MethodName := ⟨RX11, "takeBack", "(I)V"⟩
abbrev cX11_tryPath : ByteArray := prog_13_method_82_code
def yX11_tryPath : MethodName := ⟨RX11, "tryPath", "(IIII)V"⟩
abbrev cX11_path : ByteArray := prog_13_method_83_code
def yX11_path : MethodName := ⟨RX11, "path", "(III)I"⟩
abbrev cX11_holds : ByteArray := prog_13_method_84_code
def yX11_holds : MethodName := ⟨RX11, "holds", "(I)I"⟩
abbrev cX11_tells : ByteArray := prog_13_method_85_code
def yX11_tells : MethodName := ⟨RX11, "tells", "(I)I"⟩
abbrev cX11_twins : ByteArray := prog_13_method_86_code
def yX11_twins : MethodName := ⟨RX11, "twins", "(I)I"⟩
abbrev cX11_chain : ByteArray := prog_13_method_87_code
def yX11_chain : MethodName := ⟨RX11, "chain", "(II)I"⟩
abbrev cX11_trusts : ByteArray := prog_13_method_88_code
def yX11_trusts : MethodName := ⟨RX11, "trusts", "(I)I"⟩
abbrev cX11_out : ByteArray := prog_13_method_89_code
def yX11_out : MethodName := ⟨RX11, "out", "(IZ)I"⟩
abbrev cX11_isSpies : ByteArray := prog_13_method_90_code
def yX11_isSpies : MethodName := ⟨RX11, "isSpies", "(II)Z"⟩
abbrev cX11_areSpies : ByteArray := prog_13_method_91_code
def yX11_areSpies : MethodName := ⟨RX11, "areSpies", "(I)Z"⟩
abbrev cX11_spies : ByteArray := prog_13_method_92_code
def yX11_spies : MethodName := ⟨RX11, "spies", "(II)I"⟩
abbrev cX11_clear : ByteArray := prog_13_method_93_code
def yX11_clear : MethodName := ⟨RX11, "clear", "(I)I"⟩
abbrev cX11_best : ByteArray := prog_13_method_94_code
def yX11_best : MethodName := ⟨RX11, "best", "(I)I"⟩
abbrev cX11_layHours : ByteArray := prog_13_method_95_code
def yX11_layHours : MethodName := ⟨RX11, "layHours", "()V"⟩
abbrev cX11_flight : ByteArray := prog_13_method_96_code
def yX11_flight : MethodName := ⟨RX11, "flight", "(I)I"⟩
abbrev cX11_reach : ByteArray := prog_13_method_97_code
def yX11_reach : MethodName := ⟨RX11, "reach", "()I"⟩
abbrev cX11_dare : ByteArray := prog_13_method_98_code
def yX11_dare : MethodName := ⟨RX11, "dare", "()I"⟩
abbrev cX11_pivots : ByteArray := prog_13_method_99_code
def yX11_pivots : MethodName := ⟨RX11, "pivots", "(III)I"⟩
abbrev cX11_ordersOf : ByteArray := prog_13_method_100_code
def yX11_ordersOf : MethodName := ⟨RX11, "ordersOf", "(I)I"⟩
abbrev cX11_shares : ByteArray := prog_13_method_101_code
def yX11_shares : MethodName := ⟨RX11, "shares", "(I)I"⟩
abbrev cX11_gameOf : ByteArray := prog_13_method_102_code
def yX11_gameOf : MethodName := ⟨RX11, "gameOf", "(IIII)I"⟩
abbrev cX11_areTwo : ByteArray := prog_13_method_103_code
def yX11_areTwo : MethodName := ⟨RX11, "areTwo", "(II)Z"⟩
abbrev cX11_game : ByteArray := prog_13_method_104_code
def yX11_game : MethodName := ⟨RX11, "game", "(IIIII)I"⟩
abbrev cX11_rests : ByteArray := prog_13_method_105_code
def yX11_rests : MethodName := ⟨RX11, "rests", "(III)I"⟩
abbrev cX11_grave : ByteArray := prog_13_method_106_code
def yX11_grave : MethodName := ⟨RX11, "grave", "(IIZ)I"⟩
abbrev cX11_dug : ByteArray := prog_13_method_107_code
def yX11_dug : MethodName := ⟨RX11, "dug", "()I"⟩
abbrev cX11_odds : ByteArray := prog_13_method_108_code
def yX11_odds : MethodName := ⟨RX11, "odds", "(II)I"⟩
abbrev cX11_mostOf : ByteArray := prog_13_method_109_code
def yX11_mostOf : MethodName := ⟨RX11, "mostOf", "(I)I"⟩
abbrev cX11_ablest : ByteArray := prog_13_method_110_code
def yX11_ablest : MethodName := ⟨RX11, "ablest", "()I"⟩
abbrev cX11_hides : ByteArray := prog_13_method_111_code
def yX11_hides : MethodName := ⟨RX11, "hides", "(I)I"⟩
abbrev cX11_order : ByteArray := prog_13_method_112_code
def yX11_order : MethodName := ⟨RX11, "order", "()I"⟩
abbrev cX11_safe : ByteArray := prog_13_method_113_code
def yX11_safe : MethodName := ⟨RX11, "safe", "(I)I"⟩
abbrev cX11_friends : ByteArray := prog_13_method_114_code
def yX11_friends : MethodName := ⟨RX11, "friends", "(I)I"⟩
abbrev cX11_oldest : ByteArray := prog_13_method_115_code
def yX11_oldest : MethodName := ⟨RX11, "oldest", "()I"⟩
abbrev cX11_learns : ByteArray := prog_13_method_116_code
def yX11_learns : MethodName := ⟨RX11, "learns", "(I)I"⟩
abbrev cX11_image : ByteArray := prog_13_method_117_code
def yX11_image : MethodName := ⟨RX11, "image", "()I"⟩
abbrev cX11_back : ByteArray := prog_13_method_118_code
def yX11_back : MethodName := ⟨RX11, "back", "()I"⟩
abbrev cX11_count : ByteArray := prog_13_method_119_code
def yX11_count : MethodName := ⟨RX11, "count", "(I)I"⟩
def RJx145de : String := "java/io/Serializable"
def TJx145de : u_T := fun k => match k with
  | _ => ("", "", "", false)
def tyJx145de : Nat → FieldType := fun k => match k with
  | _ => .int
abbrev wsJx145de0 : List Cond := u_ws RJx145de TJx145de 0
theorem nmJx145de : ∀ a, a < 0 → ∀ b, b < 0 → a ≠ b → (TJx145de a).2.1 ≠ (TJx145de b).2.1 := by decide +kernel
theorem tyJx145de_ok : ∀ k, k < 0 → parseFieldDescriptor (TJx145de k).2.2.1 = some (tyJx145de k) := by decide +kernel
def RJx9f9b0 : String := "java/lang/CharSequence"
def TJx9f9b0 : u_T := fun k => match k with
  | _ => ("", "", "", false)
def tyJx9f9b0 : Nat → FieldType := fun k => match k with
  | _ => .int
abbrev wsJx9f9b00 : List Cond := u_ws RJx9f9b0 TJx9f9b0 0
theorem nmJx9f9b0 : ∀ a, a < 0 → ∀ b, b < 0 → a ≠ b → (TJx9f9b0 a).2.1 ≠ (TJx9f9b0 b).2.1 := by decide +kernel
theorem tyJx9f9b0_ok : ∀ k, k < 0 → parseFieldDescriptor (TJx9f9b0 k).2.2.1 = some (tyJx9f9b0 k) := by decide +kernel
def RJxb160c : String := "java/lang/Comparable"
def TJxb160c : u_T := fun k => match k with
  | _ => ("", "", "", false)
def tyJxb160c : Nat → FieldType := fun k => match k with
  | _ => .int
abbrev wsJxb160c0 : List Cond := u_ws RJxb160c TJxb160c 0
theorem nmJxb160c : ∀ a, a < 0 → ∀ b, b < 0 → a ≠ b → (TJxb160c a).2.1 ≠ (TJxb160c b).2.1 := by decide +kernel
theorem tyJxb160c_ok : ∀ k, k < 0 → parseFieldDescriptor (TJxb160c k).2.2.1 = some (tyJxb160c k) := by decide +kernel
def RJ6 : String := "java/lang/Integer"
def TJ6 : u_T := fun k => match k with
  | _ => ("", "", "", false)
def tyJ6 : Nat → FieldType := fun k => match k with
  | _ => .int
abbrev wsJ60 : List Cond := u_ws RJ6 TJ6 0
theorem nmJ6 : ∀ a, a < 0 → ∀ b, b < 0 → a ≠ b → (TJ6 a).2.1 ≠ (TJ6 b).2.1 := by decide +kernel
theorem tyJ6_ok : ∀ k, k < 0 → parseFieldDescriptor (TJ6 k).2.2.1 = some (tyJ6 k) := by decide +kernel
abbrev cJ6_bitCount_0f7a4 : ByteArray := prog_18_method_49_code
def yJ6_bitCount_0f7a4 : MethodName := ⟨RJ6, "bitCount", "(I)I"⟩
def RJ9 : String := "java/lang/Math"
def TJ9 : u_T := fun k => match k with
  | _ => ("", "", "", false)
def tyJ9 : Nat → FieldType := fun k => match k with
  | _ => .int
abbrev wsJ90 : List Cond := u_ws RJ9 TJ9 0
theorem nmJ9 : ∀ a, a < 0 → ∀ b, b < 0 → a ≠ b → (TJ9 a).2.1 ≠ (TJ9 b).2.1 := by decide +kernel
theorem tyJ9_ok : ∀ k, k < 0 → parseFieldDescriptor (TJ9 k).2.2.1 = some (tyJ9 k) := by decide +kernel
abbrev cJ9_abs_0f7a4 : ByteArray := prog_19_method_59_code
def yJ9_abs_0f7a4 : MethodName := ⟨RJ9, "abs", "(I)I"⟩
abbrev cJ9_max_7cf53 : ByteArray := prog_19_method_65_code
def yJ9_max_7cf53 : MethodName := ⟨RJ9, "max", "(II)I"⟩
abbrev cJ9_max_f86c9 : ByteArray := prog_19_method_66_code
def yJ9_max_f86c9 : MethodName := ⟨RJ9, "max", "(JJ)J"⟩
abbrev cJ9_min_7cf53 : ByteArray := prog_19_method_69_code
def yJ9_min_7cf53 : MethodName := ⟨RJ9, "min", "(II)I"⟩
abbrev cJ9_min_f86c9 : ByteArray := prog_19_method_70_code
def yJ9_min_f86c9 : MethodName := ⟨RJ9, "min", "(JJ)J"⟩
def RJ0 : String := "java/lang/String"
def TJ0 : u_T := fun k => match k with
  | _ => ("", "", "", false)
def tyJ0 : Nat → FieldType := fun k => match k with
  | _ => .int
abbrev wsJ00 : List Cond := u_ws RJ0 TJ0 0
theorem nmJ0 : ∀ a, a < 0 → ∀ b, b < 0 → a ≠ b → (TJ0 a).2.1 ≠ (TJ0 b).2.1 := by decide +kernel
theorem tyJ0_ok : ∀ k, k < 0 → parseFieldDescriptor (TJ0 k).2.2.1 = some (tyJ0 k) := by decide +kernel
abbrev cJ0_length_8abf5 : ByteArray := prog_21_method_54_code
def yJ0_length_8abf5 : MethodName := ⟨RJ0, "length", "()I"⟩
abbrev cJ0_charAt_5068e : ByteArray := prog_21_method_56_code
def yJ0_charAt_5068e : MethodName := ⟨RJ0, "charAt", "(I)C"⟩
abbrev cJ0_coder_7d493 : ByteArray := prog_21_method_152_code
def yJ0_coder_7d493 : MethodName := ⟨RJ0, "coder", "()B"⟩
abbrev cJ0_isLatin1_aae02 : ByteArray := prog_21_method_154_code
def yJ0_isLatin1_aae02 : MethodName := ⟨RJ0, "isLatin1", "()Z"⟩
abbrev cJ0_checkIndex_df160 : ByteArray := prog_21_method_155_code
def yJ0_checkIndex_df160 : MethodName := ⟨RJ0, "checkIndex", "(II)V"⟩
def RJ1 : String := "java/lang/StringLatin1"
def TJ1 : u_T := fun k => match k with
  | _ => ("", "", "", false)
def tyJ1 : Nat → FieldType := fun k => match k with
  | _ => .int
abbrev wsJ10 : List Cond := u_ws RJ1 TJ1 0
theorem nmJ1 : ∀ a, a < 0 → ∀ b, b < 0 → a ≠ b → (TJ1 a).2.1 ≠ (TJ1 b).2.1 := by decide +kernel
theorem tyJ1_ok : ∀ k, k < 0 → parseFieldDescriptor (TJ1 k).2.2.1 = some (tyJ1 k) := by decide +kernel
abbrev cJ1_charAt_3b067 : ByteArray := prog_22_method_2_code
def yJ1_charAt_3b067 : MethodName := ⟨RJ1, "charAt", "([BI)C"⟩
def RJ2 : String := "java/lang/StringUTF16"
def TJ2 : u_T := fun k => match k with
  | _ => ("", "", "", false)
def tyJ2 : Nat → FieldType := fun k => match k with
  | _ => .int
abbrev wsJ20 : List Cond := u_ws RJ2 TJ2 0
theorem nmJ2 : ∀ a, a < 0 → ∀ b, b < 0 → a ≠ b → (TJ2 a).2.1 ≠ (TJ2 b).2.1 := by decide +kernel
theorem tyJ2_ok : ∀ k, k < 0 → parseFieldDescriptor (TJ2 k).2.2.1 = some (tyJ2 k) := by decide +kernel
abbrev cJ2_getChar_3b067 : ByteArray := prog_23_method_5_code
def yJ2_getChar_3b067 : MethodName := ⟨RJ2, "getChar", "([BI)C"⟩
abbrev cJ2_length_9d52b : ByteArray := prog_23_method_6_code
def yJ2_length_9d52b : MethodName := ⟨RJ2, "length", "([B)I"⟩
abbrev cJ2_charAt_3b067 : ByteArray := prog_23_method_83_code
def yJ2_charAt_3b067 : MethodName := ⟨RJ2, "charAt", "([BI)C"⟩
abbrev cJ2_checkIndex_2214a : ByteArray := prog_23_method_91_code
def yJ2_checkIndex_2214a : MethodName := ⟨RJ2, "checkIndex", "(I[B)V"⟩
def RJ10 : String := "java/lang/System"
def TJ10 : u_T := fun k => match k with
  | _ => ("", "", "", false)
def tyJ10 : Nat → FieldType := fun k => match k with
  | _ => .int
abbrev wsJ100 : List Cond := u_ws RJ10 TJ10 0
theorem nmJ10 : ∀ a, a < 0 → ∀ b, b < 0 → a ≠ b → (TJ10 a).2.1 ≠ (TJ10 b).2.1 := by decide +kernel
theorem tyJ10_ok : ∀ k, k < 0 → parseFieldDescriptor (TJ10 k).2.2.1 = some (tyJ10 k) := by decide +kernel
def RJxfd54e : String := "java/lang/constant/Constable"
def TJxfd54e : u_T := fun k => match k with
  | _ => ("", "", "", false)
def tyJxfd54e : Nat → FieldType := fun k => match k with
  | _ => .int
abbrev wsJxfd54e0 : List Cond := u_ws RJxfd54e TJxfd54e 0
theorem nmJxfd54e : ∀ a, a < 0 → ∀ b, b < 0 → a ≠ b → (TJxfd54e a).2.1 ≠ (TJxfd54e b).2.1 := by decide +kernel
theorem tyJxfd54e_ok : ∀ k, k < 0 → parseFieldDescriptor (TJxfd54e k).2.2.1 = some (tyJxfd54e k) := by decide +kernel
def RJx3cf43 : String := "java/lang/constant/ConstantDesc"
def TJx3cf43 : u_T := fun k => match k with
  | _ => ("", "", "", false)
def tyJx3cf43 : Nat → FieldType := fun k => match k with
  | _ => .int
abbrev wsJx3cf430 : List Cond := u_ws RJx3cf43 TJx3cf43 0
theorem nmJx3cf43 : ∀ a, a < 0 → ∀ b, b < 0 → a ≠ b → (TJx3cf43 a).2.1 ≠ (TJx3cf43 b).2.1 := by decide +kernel
theorem tyJx3cf43_ok : ∀ k, k < 0 → parseFieldDescriptor (TJx3cf43 k).2.2.1 = some (tyJx3cf43 k) := by decide +kernel
def RJ3 : String := "jdk/internal/util/Preconditions"
def TJ3 : u_T := fun k => match k with
  | _ => ("", "", "", false)
def tyJ3 : Nat → FieldType := fun k => match k with
  | _ => .int
abbrev wsJ30 : List Cond := u_ws RJ3 TJ3 0
theorem nmJ3 : ∀ a, a < 0 → ∀ b, b < 0 → a ≠ b → (TJ3 a).2.1 ≠ (TJ3 b).2.1 := by decide +kernel
theorem tyJ3_ok : ∀ k, k < 0 → parseFieldDescriptor (TJ3 k).2.2.1 = some (tyJ3 k) := by decide +kernel
abbrev cJ3_checkIndex_8e157 : ByteArray := prog_29_method_11_code
def yJ3_checkIndex_8e157 : MethodName := ⟨RJ3, "checkIndex", "(IILjava/util/function/BiFunction;)I"⟩
def RL : String := "BlackMillLaw"
abbrev cL_lad : ByteArray := method_3_code
def yL_lad : MethodName := ⟨RL, "lad", "(LBlackMill;II[J)I"⟩
abbrev cL_law : ByteArray := code
def yL_law : MethodName := ⟨RL, "law", "([I)Z"⟩
abbrev vwCl : List vw_C := [(RX0, TX0, 4), (RX1, TX1, 7), (RX2, TX2, 5), (RX3, TX3, 2), (RX4, TX4, 7), (RX5, TX5, 1), (RX6, TX6, 6), (RX7, TX7, 3), (RX8, TX8, 4), (RX9, TX9, 3), (RX10, TX10, 17), (RX11, TX11, 46)]
