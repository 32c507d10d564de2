-- ===== PART A: goes FIRST, ahead of the names: the tables' words, and 'selects' of the private methods out of them =====
/-- a private method of a class that the tables say can be made, by its rows of tables_1 -/
def lw_okq (q : MethodName × Nat) : Prop := (q.1.cls ≠ "java/lang/invoke/MethodHandle" ∧ q.1.cls ≠ "java/lang/invoke/VarHandle") ∧ Cond.instantiable q.1.cls q.2 ∈ tables_1 ∧ Cond.privateMethod q.1 ∈ tables_1 ∧ Cond.instanceMethod q.1 ∈ tables_1
theorem lw_p0 : lw_okq (⟨"RowPruner$Txns", "setNoted", "(IJ)V"⟩, 6) := ⟨⟨by decide +kernel, by decide +kernel⟩, List.mem_of_getElem? (i := 189) (by decide +kernel), List.mem_of_getElem? (i := 202) (by decide +kernel), List.mem_of_getElem? (i := 203) (by decide +kernel)⟩
theorem lw_p1 : lw_okq (⟨"RowPruner", "refuse", "(I)I"⟩, 7) := ⟨⟨by decide +kernel, by decide +kernel⟩, List.mem_of_getElem? (i := 19) (by decide +kernel), List.mem_of_getElem? (i := 374) (by decide +kernel), List.mem_of_getElem? (i := 375) (by decide +kernel)⟩
theorem lw_p2 : lw_okq (⟨"RowPruner$Text", "readKind", "(I)Z"⟩, 17) := ⟨⟨by decide +kernel, by decide +kernel⟩, List.mem_of_getElem? (i := 27) (by decide +kernel), List.mem_of_getElem? (i := 448) (by decide +kernel), List.mem_of_getElem? (i := 449) (by decide +kernel)⟩
theorem lw_p3 : lw_okq (⟨"RowPruner$Text", "readToken", "()V"⟩, 17) := ⟨⟨by decide +kernel, by decide +kernel⟩, List.mem_of_getElem? (i := 27) (by decide +kernel), List.mem_of_getElem? (i := 452) (by decide +kernel), List.mem_of_getElem? (i := 453) (by decide +kernel)⟩
theorem lw_p4 : lw_okq (⟨"RowPruner$Text", "byteAt", "(I)I"⟩, 17) := ⟨⟨by decide +kernel, by decide +kernel⟩, List.mem_of_getElem? (i := 27) (by decide +kernel), List.mem_of_getElem? (i := 456) (by decide +kernel), List.mem_of_getElem? (i := 457) (by decide +kernel)⟩
theorem lw_p5 : lw_okq (⟨"RowPruner$Text", "passAll", "(II)V"⟩, 17) := ⟨⟨by decide +kernel, by decide +kernel⟩, List.mem_of_getElem? (i := 27) (by decide +kernel), List.mem_of_getElem? (i := 466) (by decide +kernel), List.mem_of_getElem? (i := 467) (by decide +kernel)⟩
theorem lw_p6 : lw_okq (⟨"RowPruner$Text", "numberRead", "()I"⟩, 17) := ⟨⟨by decide +kernel, by decide +kernel⟩, List.mem_of_getElem? (i := 27) (by decide +kernel), List.mem_of_getElem? (i := 470) (by decide +kernel), List.mem_of_getElem? (i := 471) (by decide +kernel)⟩
theorem lw_p7 : lw_okq (⟨"RowPruner$Text", "isGood", "(I)Z"⟩, 17) := ⟨⟨by decide +kernel, by decide +kernel⟩, List.mem_of_getElem? (i := 27) (by decide +kernel), List.mem_of_getElem? (i := 474) (by decide +kernel), List.mem_of_getElem? (i := 475) (by decide +kernel)⟩
theorem lw_p8 : lw_okq (⟨"RowPruner$Text", "wordRead", "()I"⟩, 17) := ⟨⟨by decide +kernel, by decide +kernel⟩, List.mem_of_getElem? (i := 27) (by decide +kernel), List.mem_of_getElem? (i := 482) (by decide +kernel), List.mem_of_getElem? (i := 483) (by decide +kernel)⟩
theorem lw_p9 : lw_okq (⟨"RowPruner$Text", "isSpelled", "(Ljava/lang/String;)Z"⟩, 17) := ⟨⟨by decide +kernel, by decide +kernel⟩, List.mem_of_getElem? (i := 27) (by decide +kernel), List.mem_of_getElem? (i := 503) (by decide +kernel), List.mem_of_getElem? (i := 504) (by decide +kernel)⟩
theorem lw_p10 : lw_okq (⟨"RowPruner$Text", "isTooLate", "()Z"⟩, 17) := ⟨⟨by decide +kernel, by decide +kernel⟩, List.mem_of_getElem? (i := 27) (by decide +kernel), List.mem_of_getElem? (i := 555) (by decide +kernel), List.mem_of_getElem? (i := 556) (by decide +kernel)⟩
theorem lw_p11 : lw_okq (⟨"RowPruner$Text", "noteWord", "()V"⟩, 17) := ⟨⟨by decide +kernel, by decide +kernel⟩, List.mem_of_getElem? (i := 27) (by decide +kernel), List.mem_of_getElem? (i := 559) (by decide +kernel), List.mem_of_getElem? (i := 560) (by decide +kernel)⟩
theorem lw_p12 : lw_okq (⟨"RowPruner$Text", "readNumbers", "()Z"⟩, 17) := ⟨⟨by decide +kernel, by decide +kernel⟩, List.mem_of_getElem? (i := 27) (by decide +kernel), List.mem_of_getElem? (i := 563) (by decide +kernel), List.mem_of_getElem? (i := 564) (by decide +kernel)⟩
theorem lw_p13 : lw_okq (⟨"RowPruner$Text", "canBe", "(I)Z"⟩, 17) := ⟨⟨by decide +kernel, by decide +kernel⟩, List.mem_of_getElem? (i := 27) (by decide +kernel), List.mem_of_getElem? (i := 570) (by decide +kernel), List.mem_of_getElem? (i := 571) (by decide +kernel)⟩
theorem lw_p14 : lw_okq (⟨"RowPruner", "perform", "()V"⟩, 7) := ⟨⟨by decide +kernel, by decide +kernel⟩, List.mem_of_getElem? (i := 19) (by decide +kernel), List.mem_of_getElem? (i := 574) (by decide +kernel), List.mem_of_getElem? (i := 575) (by decide +kernel)⟩
theorem lw_p15 : lw_okq (⟨"RowPruner", "addFirstRow", "(III)V"⟩, 7) := ⟨⟨by decide +kernel, by decide +kernel⟩, List.mem_of_getElem? (i := 19) (by decide +kernel), List.mem_of_getElem? (i := 582) (by decide +kernel), List.mem_of_getElem? (i := 583) (by decide +kernel)⟩
def lw_privs_1 : List (MethodName × Nat) := [(⟨"RowPruner$Txns", "setNoted", "(IJ)V"⟩, 6), (⟨"RowPruner", "refuse", "(I)I"⟩, 7), (⟨"RowPruner$Text", "readKind", "(I)Z"⟩, 17), (⟨"RowPruner$Text", "readToken", "()V"⟩, 17), (⟨"RowPruner$Text", "byteAt", "(I)I"⟩, 17), (⟨"RowPruner$Text", "passAll", "(II)V"⟩, 17), (⟨"RowPruner$Text", "numberRead", "()I"⟩, 17), (⟨"RowPruner$Text", "isGood", "(I)Z"⟩, 17), (⟨"RowPruner$Text", "wordRead", "()I"⟩, 17), (⟨"RowPruner$Text", "isSpelled", "(Ljava/lang/String;)Z"⟩, 17), (⟨"RowPruner$Text", "isTooLate", "()Z"⟩, 17), (⟨"RowPruner$Text", "noteWord", "()V"⟩, 17), (⟨"RowPruner$Text", "readNumbers", "()Z"⟩, 17), (⟨"RowPruner$Text", "canBe", "(I)Z"⟩, 17), (⟨"RowPruner", "perform", "()V"⟩, 7), (⟨"RowPruner", "addFirstRow", "(III)V"⟩, 7)]
theorem lw_r1 : ∀ q ∈ lw_privs_1, lw_okq q := List.forall_mem_cons.mpr ⟨lw_p0, List.forall_mem_cons.mpr ⟨lw_p1, List.forall_mem_cons.mpr ⟨lw_p2, List.forall_mem_cons.mpr ⟨lw_p3, List.forall_mem_cons.mpr ⟨lw_p4, List.forall_mem_cons.mpr ⟨lw_p5, List.forall_mem_cons.mpr ⟨lw_p6, List.forall_mem_cons.mpr ⟨lw_p7, List.forall_mem_cons.mpr ⟨lw_p8, List.forall_mem_cons.mpr ⟨lw_p9, List.forall_mem_cons.mpr ⟨lw_p10, List.forall_mem_cons.mpr ⟨lw_p11, List.forall_mem_cons.mpr ⟨lw_p12, List.forall_mem_cons.mpr ⟨lw_p13, List.forall_mem_cons.mpr ⟨lw_p14, List.forall_mem_cons.mpr ⟨lw_p15, fun _ h => absurd h List.not_mem_nil⟩⟩⟩⟩⟩⟩⟩⟩⟩⟩⟩⟩⟩⟩⟩⟩
theorem lw_p16 : lw_okq (⟨"RowPruner$Index", "isBehind", "(III)Z"⟩, 4) := ⟨⟨by decide +kernel, by decide +kernel⟩, List.mem_of_getElem? (i := 229) (by decide +kernel), List.mem_of_getElem? (i := 636) (by decide +kernel), List.mem_of_getElem? (i := 637) (by decide +kernel)⟩
theorem lw_p17 : lw_okq (⟨"RowPruner$Index", "move", "(II)V"⟩, 4) := ⟨⟨by decide +kernel, by decide +kernel⟩, List.mem_of_getElem? (i := 229) (by decide +kernel), List.mem_of_getElem? (i := 641) (by decide +kernel), List.mem_of_getElem? (i := 642) (by decide +kernel)⟩
theorem lw_p18 : lw_okq (⟨"RowPruner", "answer", "(I)I"⟩, 7) := ⟨⟨by decide +kernel, by decide +kernel⟩, List.mem_of_getElem? (i := 19) (by decide +kernel), List.mem_of_getElem? (i := 667) (by decide +kernel), List.mem_of_getElem? (i := 668) (by decide +kernel)⟩
theorem lw_p19 : lw_okq (⟨"RowPruner", "asFree", "(I)I"⟩, 7) := ⟨⟨by decide +kernel, by decide +kernel⟩, List.mem_of_getElem? (i := 19) (by decide +kernel), List.mem_of_getElem? (i := 683) (by decide +kernel), List.mem_of_getElem? (i := 684) (by decide +kernel)⟩
theorem lw_p20 : lw_okq (⟨"RowPruner", "asOpen", "(I)I"⟩, 7) := ⟨⟨by decide +kernel, by decide +kernel⟩, List.mem_of_getElem? (i := 19) (by decide +kernel), List.mem_of_getElem? (i := 687) (by decide +kernel), List.mem_of_getElem? (i := 688) (by decide +kernel)⟩
theorem lw_p21 : lw_okq (⟨"RowPruner", "asChanger", "(II)I"⟩, 7) := ⟨⟨by decide +kernel, by decide +kernel⟩, List.mem_of_getElem? (i := 19) (by decide +kernel), List.mem_of_getElem? (i := 700) (by decide +kernel), List.mem_of_getElem? (i := 701) (by decide +kernel)⟩
theorem lw_p22 : lw_okq (⟨"RowPruner", "asReader", "(II)I"⟩, 7) := ⟨⟨by decide +kernel, by decide +kernel⟩, List.mem_of_getElem? (i := 19) (by decide +kernel), List.mem_of_getElem? (i := 704) (by decide +kernel), List.mem_of_getElem? (i := 705) (by decide +kernel)⟩
theorem lw_p23 : lw_okq (⟨"RowPruner$Store", "pruneSlot", "(I)I"⟩, 9) := ⟨⟨by decide +kernel, by decide +kernel⟩, List.mem_of_getElem? (i := 92) (by decide +kernel), List.mem_of_getElem? (i := 739) (by decide +kernel), List.mem_of_getElem? (i := 740) (by decide +kernel)⟩
theorem lw_p24 : lw_okq (⟨"RowPruner$Store", "clearStubs", "()I"⟩, 9) := ⟨⟨by decide +kernel, by decide +kernel⟩, List.mem_of_getElem? (i := 92) (by decide +kernel), List.mem_of_getElem? (i := 808) (by decide +kernel), List.mem_of_getElem? (i := 809) (by decide +kernel)⟩
theorem lw_p25 : lw_okq (⟨"RowPruner$Store", "tellPass", "(I)V"⟩, 9) := ⟨⟨by decide +kernel, by decide +kernel⟩, List.mem_of_getElem? (i := 92) (by decide +kernel), List.mem_of_getElem? (i := 820) (by decide +kernel), List.mem_of_getElem? (i := 821) (by decide +kernel)⟩
theorem lw_p26 : lw_okq (⟨"RowPruner$Store", "freezeOld", "()V"⟩, 9) := ⟨⟨by decide +kernel, by decide +kernel⟩, List.mem_of_getElem? (i := 92) (by decide +kernel), List.mem_of_getElem? (i := 828) (by decide +kernel), List.mem_of_getElem? (i := 829) (by decide +kernel)⟩
theorem lw_p27 : lw_okq (⟨"RowPruner$Store", "isClearNow", "(I)Z"⟩, 9) := ⟨⟨by decide +kernel, by decide +kernel⟩, List.mem_of_getElem? (i := 92) (by decide +kernel), List.mem_of_getElem? (i := 832) (by decide +kernel), List.mem_of_getElem? (i := 833) (by decide +kernel)⟩
theorem lw_p28 : lw_okq (⟨"RowPruner$Store", "isForAll", "(LRowPruner$Slot;)Z"⟩, 9) := ⟨⟨by decide +kernel, by decide +kernel⟩, List.mem_of_getElem? (i := 92) (by decide +kernel), List.mem_of_getElem? (i := 836) (by decide +kernel), List.mem_of_getElem? (i := 837) (by decide +kernel)⟩
theorem lw_p29 : lw_okq (⟨"RowPruner$Store", "isUnended", "(LRowPruner$Slot;)Z"⟩, 9) := ⟨⟨by decide +kernel, by decide +kernel⟩, List.mem_of_getElem? (i := 92) (by decide +kernel), List.mem_of_getElem? (i := 840) (by decide +kernel), List.mem_of_getElem? (i := 841) (by decide +kernel)⟩
theorem lw_p30 : lw_okq (⟨"RowPruner$Store", "goThrough", "(III)V"⟩, 9) := ⟨⟨by decide +kernel, by decide +kernel⟩, List.mem_of_getElem? (i := 92) (by decide +kernel), List.mem_of_getElem? (i := 865) (by decide +kernel), List.mem_of_getElem? (i := 866) (by decide +kernel)⟩
theorem lw_p31 : lw_okq (⟨"RowPruner$Store", "lastingBehind", "(II)I"⟩, 9) := ⟨⟨by decide +kernel, by decide +kernel⟩, List.mem_of_getElem? (i := 92) (by decide +kernel), List.mem_of_getElem? (i := 891) (by decide +kernel), List.mem_of_getElem? (i := 892) (by decide +kernel)⟩
def lw_privs_2 : List (MethodName × Nat) := [(⟨"RowPruner$Index", "isBehind", "(III)Z"⟩, 4), (⟨"RowPruner$Index", "move", "(II)V"⟩, 4), (⟨"RowPruner", "answer", "(I)I"⟩, 7), (⟨"RowPruner", "asFree", "(I)I"⟩, 7), (⟨"RowPruner", "asOpen", "(I)I"⟩, 7), (⟨"RowPruner", "asChanger", "(II)I"⟩, 7), (⟨"RowPruner", "asReader", "(II)I"⟩, 7), (⟨"RowPruner$Store", "pruneSlot", "(I)I"⟩, 9), (⟨"RowPruner$Store", "clearStubs", "()I"⟩, 9), (⟨"RowPruner$Store", "tellPass", "(I)V"⟩, 9), (⟨"RowPruner$Store", "freezeOld", "()V"⟩, 9), (⟨"RowPruner$Store", "isClearNow", "(I)Z"⟩, 9), (⟨"RowPruner$Store", "isForAll", "(LRowPruner$Slot;)Z"⟩, 9), (⟨"RowPruner$Store", "isUnended", "(LRowPruner$Slot;)Z"⟩, 9), (⟨"RowPruner$Store", "goThrough", "(III)V"⟩, 9), (⟨"RowPruner$Store", "lastingBehind", "(II)I"⟩, 9)]
theorem lw_r2 : ∀ q ∈ lw_privs_2, lw_okq q := List.forall_mem_cons.mpr ⟨lw_p16, List.forall_mem_cons.mpr ⟨lw_p17, List.forall_mem_cons.mpr ⟨lw_p18, List.forall_mem_cons.mpr ⟨lw_p19, List.forall_mem_cons.mpr ⟨lw_p20, List.forall_mem_cons.mpr ⟨lw_p21, List.forall_mem_cons.mpr ⟨lw_p22, List.forall_mem_cons.mpr ⟨lw_p23, List.forall_mem_cons.mpr ⟨lw_p24, List.forall_mem_cons.mpr ⟨lw_p25, List.forall_mem_cons.mpr ⟨lw_p26, List.forall_mem_cons.mpr ⟨lw_p27, List.forall_mem_cons.mpr ⟨lw_p28, List.forall_mem_cons.mpr ⟨lw_p29, List.forall_mem_cons.mpr ⟨lw_p30, List.forall_mem_cons.mpr ⟨lw_p31, fun _ h => absurd h List.not_mem_nil⟩⟩⟩⟩⟩⟩⟩⟩⟩⟩⟩⟩⟩⟩⟩⟩
theorem lw_p32 : lw_okq (⟨"RowPruner$Store", "isLasting", "(LRowPruner$Slot;)Z"⟩, 9) := ⟨⟨by decide +kernel, by decide +kernel⟩, List.mem_of_getElem? (i := 92) (by decide +kernel), List.mem_of_getElem? (i := 895) (by decide +kernel), List.mem_of_getElem? (i := 896) (by decide +kernel)⟩
theorem lw_p33 : lw_okq (⟨"RowPruner$Store", "isAhead", "(IILRowPruner$Slot;)Z"⟩, 9) := ⟨⟨by decide +kernel, by decide +kernel⟩, List.mem_of_getElem? (i := 92) (by decide +kernel), List.mem_of_getElem? (i := 899) (by decide +kernel), List.mem_of_getElem? (i := 900) (by decide +kernel)⟩
theorem lw_p34 : lw_okq (⟨"RowPruner$Store", "layDown", "(LRowPruner$Slot;I)V"⟩, 9) := ⟨⟨by decide +kernel, by decide +kernel⟩, List.mem_of_getElem? (i := 92) (by decide +kernel), List.mem_of_getElem? (i := 903) (by decide +kernel), List.mem_of_getElem? (i := 904) (by decide +kernel)⟩
theorem lw_p35 : lw_okq (⟨"RowPruner$Store", "isCounted", "(LRowPruner$Slot;I)Z"⟩, 9) := ⟨⟨by decide +kernel, by decide +kernel⟩, List.mem_of_getElem? (i := 92) (by decide +kernel), List.mem_of_getElem? (i := 926) (by decide +kernel), List.mem_of_getElem? (i := 927) (by decide +kernel)⟩
theorem lw_p36 : lw_okq (⟨"RowPruner$Store", "isDying", "(LRowPruner$Slot;)Z"⟩, 9) := ⟨⟨by decide +kernel, by decide +kernel⟩, List.mem_of_getElem? (i := 92) (by decide +kernel), List.mem_of_getElem? (i := 930) (by decide +kernel), List.mem_of_getElem? (i := 931) (by decide +kernel)⟩
theorem lw_p37 : lw_okq (⟨"RowPruner$Store", "madeAhead", "(II)I"⟩, 9) := ⟨⟨by decide +kernel, by decide +kernel⟩, List.mem_of_getElem? (i := 92) (by decide +kernel), List.mem_of_getElem? (i := 1040) (by decide +kernel), List.mem_of_getElem? (i := 1041) (by decide +kernel)⟩
theorem lw_p38 : lw_okq (⟨"RowPruner", "openEnder", "(II)I"⟩, 7) := ⟨⟨by decide +kernel, by decide +kernel⟩, List.mem_of_getElem? (i := 19) (by decide +kernel), List.mem_of_getElem? (i := 1066) (by decide +kernel), List.mem_of_getElem? (i := 1067) (by decide +kernel)⟩
theorem lw_p39 : lw_okq (⟨"RowPruner", "countGained", "(I)I"⟩, 7) := ⟨⟨by decide +kernel, by decide +kernel⟩, List.mem_of_getElem? (i := 19) (by decide +kernel), List.mem_of_getElem? (i := 1148) (by decide +kernel), List.mem_of_getElem? (i := 1149) (by decide +kernel)⟩
theorem lw_p40 : lw_okq (⟨"RowPrunerModel", "clears", "()V"⟩, 29) := ⟨⟨by decide +kernel, by decide +kernel⟩, List.mem_of_getElem? (i := 1173) (by decide +kernel), List.mem_of_getElem? (i := 1193) (by decide +kernel), List.mem_of_getElem? (i := 1194) (by decide +kernel)⟩
theorem lw_p41 : lw_okq (⟨"RowPrunerModel", "lays", "(I)V"⟩, 29) := ⟨⟨by decide +kernel, by decide +kernel⟩, List.mem_of_getElem? (i := 1173) (by decide +kernel), List.mem_of_getElem? (i := 1293) (by decide +kernel), List.mem_of_getElem? (i := 1294) (by decide +kernel)⟩
theorem lw_p42 : lw_okq (⟨"RowPrunerModel", "is", "(I)Z"⟩, 29) := ⟨⟨by decide +kernel, by decide +kernel⟩, List.mem_of_getElem? (i := 1173) (by decide +kernel), List.mem_of_getElem? (i := 1304) (by decide +kernel), List.mem_of_getElem? (i := 1305) (by decide +kernel)⟩
theorem lw_p43 : lw_okq (⟨"RowPrunerModel", "reads", "()V"⟩, 29) := ⟨⟨by decide +kernel, by decide +kernel⟩, List.mem_of_getElem? (i := 1173) (by decide +kernel), List.mem_of_getElem? (i := 1311) (by decide +kernel), List.mem_of_getElem? (i := 1312) (by decide +kernel)⟩
theorem lw_p44 : lw_okq (⟨"RowPrunerModel", "isOf", "(III)Z"⟩, 29) := ⟨⟨by decide +kernel, by decide +kernel⟩, List.mem_of_getElem? (i := 1173) (by decide +kernel), List.mem_of_getElem? (i := 1315) (by decide +kernel), List.mem_of_getElem? (i := 1316) (by decide +kernel)⟩
theorem lw_p45 : lw_okq (⟨"RowPrunerModel", "readsLine", "()V"⟩, 29) := ⟨⟨by decide +kernel, by decide +kernel⟩, List.mem_of_getElem? (i := 1173) (by decide +kernel), List.mem_of_getElem? (i := 1321) (by decide +kernel), List.mem_of_getElem? (i := 1322) (by decide +kernel)⟩
theorem lw_p46 : lw_okq (⟨"RowPrunerModel", "key", "()I"⟩, 29) := ⟨⟨by decide +kernel, by decide +kernel⟩, List.mem_of_getElem? (i := 1173) (by decide +kernel), List.mem_of_getElem? (i := 1325) (by decide +kernel), List.mem_of_getElem? (i := 1326) (by decide +kernel)⟩
theorem lw_p47 : lw_okq (⟨"RowPrunerModel", "must", "(ZII)V"⟩, 29) := ⟨⟨by decide +kernel, by decide +kernel⟩, List.mem_of_getElem? (i := 1173) (by decide +kernel), List.mem_of_getElem? (i := 1329) (by decide +kernel), List.mem_of_getElem? (i := 1330) (by decide +kernel)⟩
def lw_privs_3 : List (MethodName × Nat) := [(⟨"RowPruner$Store", "isLasting", "(LRowPruner$Slot;)Z"⟩, 9), (⟨"RowPruner$Store", "isAhead", "(IILRowPruner$Slot;)Z"⟩, 9), (⟨"RowPruner$Store", "layDown", "(LRowPruner$Slot;I)V"⟩, 9), (⟨"RowPruner$Store", "isCounted", "(LRowPruner$Slot;I)Z"⟩, 9), (⟨"RowPruner$Store", "isDying", "(LRowPruner$Slot;)Z"⟩, 9), (⟨"RowPruner$Store", "madeAhead", "(II)I"⟩, 9), (⟨"RowPruner", "openEnder", "(II)I"⟩, 7), (⟨"RowPruner", "countGained", "(I)I"⟩, 7), (⟨"RowPrunerModel", "clears", "()V"⟩, 29), (⟨"RowPrunerModel", "lays", "(I)V"⟩, 29), (⟨"RowPrunerModel", "is", "(I)Z"⟩, 29), (⟨"RowPrunerModel", "reads", "()V"⟩, 29), (⟨"RowPrunerModel", "isOf", "(III)Z"⟩, 29), (⟨"RowPrunerModel", "readsLine", "()V"⟩, 29), (⟨"RowPrunerModel", "key", "()I"⟩, 29), (⟨"RowPrunerModel", "must", "(ZII)V"⟩, 29)]
theorem lw_r3 : ∀ q ∈ lw_privs_3, lw_okq q := List.forall_mem_cons.mpr ⟨lw_p32, List.forall_mem_cons.mpr ⟨lw_p33, List.forall_mem_cons.mpr ⟨lw_p34, List.forall_mem_cons.mpr ⟨lw_p35, List.forall_mem_cons.mpr ⟨lw_p36, List.forall_mem_cons.mpr ⟨lw_p37, List.forall_mem_cons.mpr ⟨lw_p38, List.forall_mem_cons.mpr ⟨lw_p39, List.forall_mem_cons.mpr ⟨lw_p40, List.forall_mem_cons.mpr ⟨lw_p41, List.forall_mem_cons.mpr ⟨lw_p42, List.forall_mem_cons.mpr ⟨lw_p43, List.forall_mem_cons.mpr ⟨lw_p44, List.forall_mem_cons.mpr ⟨lw_p45, List.forall_mem_cons.mpr ⟨lw_p46, List.forall_mem_cons.mpr ⟨lw_p47, fun _ h => absurd h List.not_mem_nil⟩⟩⟩⟩⟩⟩⟩⟩⟩⟩⟩⟩⟩⟩⟩⟩
theorem lw_p48 : lw_okq (⟨"RowPrunerModel", "takesNumbers", "(I)V"⟩, 29) := ⟨⟨by decide +kernel, by decide +kernel⟩, List.mem_of_getElem? (i := 1173) (by decide +kernel), List.mem_of_getElem? (i := 1333) (by decide +kernel), List.mem_of_getElem? (i := 1334) (by decide +kernel)⟩
theorem lw_p49 : lw_okq (⟨"RowPrunerModel", "firstPlace", "(I)I"⟩, 29) := ⟨⟨by decide +kernel, by decide +kernel⟩, List.mem_of_getElem? (i := 1173) (by decide +kernel), List.mem_of_getElem? (i := 1337) (by decide +kernel), List.mem_of_getElem? (i := 1338) (by decide +kernel)⟩
theorem lw_p50 : lw_okq (⟨"RowPrunerModel", "placeIn", "(II)I"⟩, 29) := ⟨⟨by decide +kernel, by decide +kernel⟩, List.mem_of_getElem? (i := 1173) (by decide +kernel), List.mem_of_getElem? (i := 1341) (by decide +kernel), List.mem_of_getElem? (i := 1342) (by decide +kernel)⟩
theorem lw_p51 : lw_okq (⟨"RowPrunerModel", "freeIn", "(I)I"⟩, 29) := ⟨⟨by decide +kernel, by decide +kernel⟩, List.mem_of_getElem? (i := 1173) (by decide +kernel), List.mem_of_getElem? (i := 1345) (by decide +kernel), List.mem_of_getElem? (i := 1346) (by decide +kernel)⟩
theorem lw_p52 : lw_okq (⟨"RowPrunerModel", "isFull", "(I)Z"⟩, 29) := ⟨⟨by decide +kernel, by decide +kernel⟩, List.mem_of_getElem? (i := 1173) (by decide +kernel), List.mem_of_getElem? (i := 1349) (by decide +kernel), List.mem_of_getElem? (i := 1350) (by decide +kernel)⟩
theorem lw_p53 : lw_okq (⟨"RowPrunerModel", "of", "(II)I"⟩, 29) := ⟨⟨by decide +kernel, by decide +kernel⟩, List.mem_of_getElem? (i := 1173) (by decide +kernel), List.mem_of_getElem? (i := 1353) (by decide +kernel), List.mem_of_getElem? (i := 1354) (by decide +kernel)⟩
theorem lw_p54 : lw_okq (⟨"RowPrunerModel", "inserts", "(IIII)I"⟩, 29) := ⟨⟨by decide +kernel, by decide +kernel⟩, List.mem_of_getElem? (i := 1173) (by decide +kernel), List.mem_of_getElem? (i := 1357) (by decide +kernel), List.mem_of_getElem? (i := 1358) (by decide +kernel)⟩
theorem lw_p55 : lw_okq (⟨"RowPrunerModel", "fills", "(IIIIIIZ)V"⟩, 29) := ⟨⟨by decide +kernel, by decide +kernel⟩, List.mem_of_getElem? (i := 1173) (by decide +kernel), List.mem_of_getElem? (i := 1361) (by decide +kernel), List.mem_of_getElem? (i := 1362) (by decide +kernel)⟩
theorem lw_p56 : lw_okq (⟨"RowPrunerModel", "sets", "(III)V"⟩, 29) := ⟨⟨by decide +kernel, by decide +kernel⟩, List.mem_of_getElem? (i := 1173) (by decide +kernel), List.mem_of_getElem? (i := 1365) (by decide +kernel), List.mem_of_getElem? (i := 1366) (by decide +kernel)⟩
theorem lw_p57 : lw_okq (⟨"RowPrunerModel", "enters", "(II)V"⟩, 29) := ⟨⟨by decide +kernel, by decide +kernel⟩, List.mem_of_getElem? (i := 1173) (by decide +kernel), List.mem_of_getElem? (i := 1369) (by decide +kernel), List.mem_of_getElem? (i := 1370) (by decide +kernel)⟩
theorem lw_p58 : lw_okq (⟨"RowPrunerModel", "entryOf", "(II)I"⟩, 29) := ⟨⟨by decide +kernel, by decide +kernel⟩, List.mem_of_getElem? (i := 1173) (by decide +kernel), List.mem_of_getElem? (i := 1373) (by decide +kernel), List.mem_of_getElem? (i := 1374) (by decide +kernel)⟩
theorem lw_p59 : lw_okq (⟨"RowPrunerModel", "leadsTo", "(I)I"⟩, 29) := ⟨⟨by decide +kernel, by decide +kernel⟩, List.mem_of_getElem? (i := 1173) (by decide +kernel), List.mem_of_getElem? (i := 1377) (by decide +kernel), List.mem_of_getElem? (i := 1378) (by decide +kernel)⟩
theorem lw_p60 : lw_okq (⟨"RowPrunerModel", "doesAct", "(I)I"⟩, 29) := ⟨⟨by decide +kernel, by decide +kernel⟩, List.mem_of_getElem? (i := 1173) (by decide +kernel), List.mem_of_getElem? (i := 1381) (by decide +kernel), List.mem_of_getElem? (i := 1382) (by decide +kernel)⟩
theorem lw_p61 : lw_okq (⟨"RowPrunerModel", "beginNow", "()I"⟩, 29) := ⟨⟨by decide +kernel, by decide +kernel⟩, List.mem_of_getElem? (i := 1173) (by decide +kernel), List.mem_of_getElem? (i := 1385) (by decide +kernel), List.mem_of_getElem? (i := 1386) (by decide +kernel)⟩
theorem lw_p62 : lw_okq (⟨"RowPrunerModel", "refuse", "(I)I"⟩, 29) := ⟨⟨by decide +kernel, by decide +kernel⟩, List.mem_of_getElem? (i := 1173) (by decide +kernel), List.mem_of_getElem? (i := 1389) (by decide +kernel), List.mem_of_getElem? (i := 1390) (by decide +kernel)⟩
theorem lw_p63 : lw_okq (⟨"RowPrunerModel", "isOpen", "(I)Z"⟩, 29) := ⟨⟨by decide +kernel, by decide +kernel⟩, List.mem_of_getElem? (i := 1173) (by decide +kernel), List.mem_of_getElem? (i := 1393) (by decide +kernel), List.mem_of_getElem? (i := 1394) (by decide +kernel)⟩
def lw_privs_4 : List (MethodName × Nat) := [(⟨"RowPrunerModel", "takesNumbers", "(I)V"⟩, 29), (⟨"RowPrunerModel", "firstPlace", "(I)I"⟩, 29), (⟨"RowPrunerModel", "placeIn", "(II)I"⟩, 29), (⟨"RowPrunerModel", "freeIn", "(I)I"⟩, 29), (⟨"RowPrunerModel", "isFull", "(I)Z"⟩, 29), (⟨"RowPrunerModel", "of", "(II)I"⟩, 29), (⟨"RowPrunerModel", "inserts", "(IIII)I"⟩, 29), (⟨"RowPrunerModel", "fills", "(IIIIIIZ)V"⟩, 29), (⟨"RowPrunerModel", "sets", "(III)V"⟩, 29), (⟨"RowPrunerModel", "enters", "(II)V"⟩, 29), (⟨"RowPrunerModel", "entryOf", "(II)I"⟩, 29), (⟨"RowPrunerModel", "leadsTo", "(I)I"⟩, 29), (⟨"RowPrunerModel", "doesAct", "(I)I"⟩, 29), (⟨"RowPrunerModel", "beginNow", "()I"⟩, 29), (⟨"RowPrunerModel", "refuse", "(I)I"⟩, 29), (⟨"RowPrunerModel", "isOpen", "(I)Z"⟩, 29)]
theorem lw_r4 : ∀ q ∈ lw_privs_4, lw_okq q := List.forall_mem_cons.mpr ⟨lw_p48, List.forall_mem_cons.mpr ⟨lw_p49, List.forall_mem_cons.mpr ⟨lw_p50, List.forall_mem_cons.mpr ⟨lw_p51, List.forall_mem_cons.mpr ⟨lw_p52, List.forall_mem_cons.mpr ⟨lw_p53, List.forall_mem_cons.mpr ⟨lw_p54, List.forall_mem_cons.mpr ⟨lw_p55, List.forall_mem_cons.mpr ⟨lw_p56, List.forall_mem_cons.mpr ⟨lw_p57, List.forall_mem_cons.mpr ⟨lw_p58, List.forall_mem_cons.mpr ⟨lw_p59, List.forall_mem_cons.mpr ⟨lw_p60, List.forall_mem_cons.mpr ⟨lw_p61, List.forall_mem_cons.mpr ⟨lw_p62, List.forall_mem_cons.mpr ⟨lw_p63, fun _ h => absurd h List.not_mem_nil⟩⟩⟩⟩⟩⟩⟩⟩⟩⟩⟩⟩⟩⟩⟩⟩
theorem lw_p64 : lw_okq (⟨"RowPrunerModel", "stateOf", "(I)I"⟩, 29) := ⟨⟨by decide +kernel, by decide +kernel⟩, List.mem_of_getElem? (i := 1173) (by decide +kernel), List.mem_of_getElem? (i := 1397) (by decide +kernel), List.mem_of_getElem? (i := 1398) (by decide +kernel)⟩
theorem lw_p65 : lw_okq (⟨"RowPrunerModel", "insertNow", "(IIII)I"⟩, 29) := ⟨⟨by decide +kernel, by decide +kernel⟩, List.mem_of_getElem? (i := 1173) (by decide +kernel), List.mem_of_getElem? (i := 1401) (by decide +kernel), List.mem_of_getElem? (i := 1402) (by decide +kernel)⟩
theorem lw_p66 : lw_okq (⟨"RowPrunerModel", "isValue", "(III)Z"⟩, 29) := ⟨⟨by decide +kernel, by decide +kernel⟩, List.mem_of_getElem? (i := 1173) (by decide +kernel), List.mem_of_getElem? (i := 1405) (by decide +kernel), List.mem_of_getElem? (i := 1406) (by decide +kernel)⟩
theorem lw_p67 : lw_okq (⟨"RowPrunerModel", "isTxn", "(I)Z"⟩, 29) := ⟨⟨by decide +kernel, by decide +kernel⟩, List.mem_of_getElem? (i := 1173) (by decide +kernel), List.mem_of_getElem? (i := 1409) (by decide +kernel), List.mem_of_getElem? (i := 1410) (by decide +kernel)⟩
theorem lw_p68 : lw_okq (⟨"RowPrunerModel", "isWaiting", "(I)Z"⟩, 29) := ⟨⟨by decide +kernel, by decide +kernel⟩, List.mem_of_getElem? (i := 1173) (by decide +kernel), List.mem_of_getElem? (i := 1413) (by decide +kernel), List.mem_of_getElem? (i := 1414) (by decide +kernel)⟩
theorem lw_p69 : lw_okq (⟨"RowPrunerModel", "updateNow", "(IIIII)I"⟩, 29) := ⟨⟨by decide +kernel, by decide +kernel⟩, List.mem_of_getElem? (i := 1173) (by decide +kernel), List.mem_of_getElem? (i := 1417) (by decide +kernel), List.mem_of_getElem? (i := 1418) (by decide +kernel)⟩
theorem lw_p70 : lw_okq (⟨"RowPrunerModel", "touched", "(II)I"⟩, 29) := ⟨⟨by decide +kernel, by decide +kernel⟩, List.mem_of_getElem? (i := 1173) (by decide +kernel), List.mem_of_getElem? (i := 1421) (by decide +kernel), List.mem_of_getElem? (i := 1422) (by decide +kernel)⟩
theorem lw_p71 : lw_okq (⟨"RowPrunerModel", "isRow", "(I)Z"⟩, 29) := ⟨⟨by decide +kernel, by decide +kernel⟩, List.mem_of_getElem? (i := 1173) (by decide +kernel), List.mem_of_getElem? (i := 1425) (by decide +kernel), List.mem_of_getElem? (i := 1426) (by decide +kernel)⟩
theorem lw_p72 : lw_okq (⟨"RowPrunerModel", "seenOf", "(II)I"⟩, 29) := ⟨⟨by decide +kernel, by decide +kernel⟩, List.mem_of_getElem? (i := 1173) (by decide +kernel), List.mem_of_getElem? (i := 1429) (by decide +kernel), List.mem_of_getElem? (i := 1430) (by decide +kernel)⟩
theorem lw_p73 : lw_okq (⟨"RowPrunerModel", "isVersion", "(I)Z"⟩, 29) := ⟨⟨by decide +kernel, by decide +kernel⟩, List.mem_of_getElem? (i := 1173) (by decide +kernel), List.mem_of_getElem? (i := 1433) (by decide +kernel), List.mem_of_getElem? (i := 1434) (by decide +kernel)⟩
theorem lw_p74 : lw_okq (⟨"RowPrunerModel", "isSlot", "(I)Z"⟩, 29) := ⟨⟨by decide +kernel, by decide +kernel⟩, List.mem_of_getElem? (i := 1173) (by decide +kernel), List.mem_of_getElem? (i := 1437) (by decide +kernel), List.mem_of_getElem? (i := 1438) (by decide +kernel)⟩
theorem lw_p75 : lw_okq (⟨"RowPrunerModel", "isSeen", "(II)Z"⟩, 29) := ⟨⟨by decide +kernel, by decide +kernel⟩, List.mem_of_getElem? (i := 1173) (by decide +kernel), List.mem_of_getElem? (i := 1441) (by decide +kernel), List.mem_of_getElem? (i := 1442) (by decide +kernel)⟩
theorem lw_p76 : lw_okq (⟨"RowPrunerModel", "isKnown", "(II)Z"⟩, 29) := ⟨⟨by decide +kernel, by decide +kernel⟩, List.mem_of_getElem? (i := 1173) (by decide +kernel), List.mem_of_getElem? (i := 1445) (by decide +kernel), List.mem_of_getElem? (i := 1446) (by decide +kernel)⟩
theorem lw_p77 : lw_okq (⟨"RowPrunerModel", "noted", "(II)Z"⟩, 29) := ⟨⟨by decide +kernel, by decide +kernel⟩, List.mem_of_getElem? (i := 1173) (by decide +kernel), List.mem_of_getElem? (i := 1449) (by decide +kernel), List.mem_of_getElem? (i := 1450) (by decide +kernel)⟩
theorem lw_p78 : lw_okq (⟨"RowPrunerModel", "noTouch", "(II)I"⟩, 29) := ⟨⟨by decide +kernel, by decide +kernel⟩, List.mem_of_getElem? (i := 1173) (by decide +kernel), List.mem_of_getElem? (i := 1453) (by decide +kernel), List.mem_of_getElem? (i := 1454) (by decide +kernel)⟩
theorem lw_p79 : lw_okq (⟨"RowPrunerModel", "enderOf", "(I)I"⟩, 29) := ⟨⟨by decide +kernel, by decide +kernel⟩, List.mem_of_getElem? (i := 1173) (by decide +kernel), List.mem_of_getElem? (i := 1457) (by decide +kernel), List.mem_of_getElem? (i := 1458) (by decide +kernel)⟩
def lw_privs_5 : List (MethodName × Nat) := [(⟨"RowPrunerModel", "stateOf", "(I)I"⟩, 29), (⟨"RowPrunerModel", "insertNow", "(IIII)I"⟩, 29), (⟨"RowPrunerModel", "isValue", "(III)Z"⟩, 29), (⟨"RowPrunerModel", "isTxn", "(I)Z"⟩, 29), (⟨"RowPrunerModel", "isWaiting", "(I)Z"⟩, 29), (⟨"RowPrunerModel", "updateNow", "(IIIII)I"⟩, 29), (⟨"RowPrunerModel", "touched", "(II)I"⟩, 29), (⟨"RowPrunerModel", "isRow", "(I)Z"⟩, 29), (⟨"RowPrunerModel", "seenOf", "(II)I"⟩, 29), (⟨"RowPrunerModel", "isVersion", "(I)Z"⟩, 29), (⟨"RowPrunerModel", "isSlot", "(I)Z"⟩, 29), (⟨"RowPrunerModel", "isSeen", "(II)Z"⟩, 29), (⟨"RowPrunerModel", "isKnown", "(II)Z"⟩, 29), (⟨"RowPrunerModel", "noted", "(II)Z"⟩, 29), (⟨"RowPrunerModel", "noTouch", "(II)I"⟩, 29), (⟨"RowPrunerModel", "enderOf", "(I)I"⟩, 29)]
theorem lw_r5 : ∀ q ∈ lw_privs_5, lw_okq q := List.forall_mem_cons.mpr ⟨lw_p64, List.forall_mem_cons.mpr ⟨lw_p65, List.forall_mem_cons.mpr ⟨lw_p66, List.forall_mem_cons.mpr ⟨lw_p67, List.forall_mem_cons.mpr ⟨lw_p68, List.forall_mem_cons.mpr ⟨lw_p69, List.forall_mem_cons.mpr ⟨lw_p70, List.forall_mem_cons.mpr ⟨lw_p71, List.forall_mem_cons.mpr ⟨lw_p72, List.forall_mem_cons.mpr ⟨lw_p73, List.forall_mem_cons.mpr ⟨lw_p74, List.forall_mem_cons.mpr ⟨lw_p75, List.forall_mem_cons.mpr ⟨lw_p76, List.forall_mem_cons.mpr ⟨lw_p77, List.forall_mem_cons.mpr ⟨lw_p78, List.forall_mem_cons.mpr ⟨lw_p79, fun _ h => absurd h List.not_mem_nil⟩⟩⟩⟩⟩⟩⟩⟩⟩⟩⟩⟩⟩⟩⟩⟩
theorem lw_p80 : lw_okq (⟨"RowPrunerModel", "prunes", "(I)I"⟩, 29) := ⟨⟨by decide +kernel, by decide +kernel⟩, List.mem_of_getElem? (i := 1173) (by decide +kernel), List.mem_of_getElem? (i := 1461) (by decide +kernel), List.mem_of_getElem? (i := 1462) (by decide +kernel)⟩
theorem lw_p81 : lw_okq (⟨"RowPrunerModel", "horizon", "()I"⟩, 29) := ⟨⟨by decide +kernel, by decide +kernel⟩, List.mem_of_getElem? (i := 1173) (by decide +kernel), List.mem_of_getElem? (i := 1465) (by decide +kernel), List.mem_of_getElem? (i := 1466) (by decide +kernel)⟩
theorem lw_p82 : lw_okq (⟨"RowPrunerModel", "horizonBut", "(I)I"⟩, 29) := ⟨⟨by decide +kernel, by decide +kernel⟩, List.mem_of_getElem? (i := 1173) (by decide +kernel), List.mem_of_getElem? (i := 1469) (by decide +kernel), List.mem_of_getElem? (i := 1470) (by decide +kernel)⟩
theorem lw_p83 : lw_okq (⟨"RowPrunerModel", "lowOf", "(I)I"⟩, 29) := ⟨⟨by decide +kernel, by decide +kernel⟩, List.mem_of_getElem? (i := 1173) (by decide +kernel), List.mem_of_getElem? (i := 1473) (by decide +kernel), List.mem_of_getElem? (i := 1474) (by decide +kernel)⟩
theorem lw_p84 : lw_okq (⟨"RowPrunerModel", "cuts", "(II)I"⟩, 29) := ⟨⟨by decide +kernel, by decide +kernel⟩, List.mem_of_getElem? (i := 1173) (by decide +kernel), List.mem_of_getElem? (i := 1477) (by decide +kernel), List.mem_of_getElem? (i := 1478) (by decide +kernel)⟩
theorem lw_p85 : lw_okq (⟨"RowPrunerModel", "chainOf", "(I)I"⟩, 29) := ⟨⟨by decide +kernel, by decide +kernel⟩, List.mem_of_getElem? (i := 1173) (by decide +kernel), List.mem_of_getElem? (i := 1481) (by decide +kernel), List.mem_of_getElem? (i := 1482) (by decide +kernel)⟩
theorem lw_p86 : lw_okq (⟨"RowPrunerModel", "isDead", "(II)Z"⟩, 29) := ⟨⟨by decide +kernel, by decide +kernel⟩, List.mem_of_getElem? (i := 1173) (by decide +kernel), List.mem_of_getElem? (i := 1485) (by decide +kernel), List.mem_of_getElem? (i := 1486) (by decide +kernel)⟩
theorem lw_p87 : lw_okq (⟨"RowPrunerModel", "chainNext", "(I)I"⟩, 29) := ⟨⟨by decide +kernel, by decide +kernel⟩, List.mem_of_getElem? (i := 1173) (by decide +kernel), List.mem_of_getElem? (i := 1489) (by decide +kernel), List.mem_of_getElem? (i := 1490) (by decide +kernel)⟩
theorem lw_p88 : lw_okq (⟨"RowPrunerModel", "goes", "(I)V"⟩, 29) := ⟨⟨by decide +kernel, by decide +kernel⟩, List.mem_of_getElem? (i := 1173) (by decide +kernel), List.mem_of_getElem? (i := 1493) (by decide +kernel), List.mem_of_getElem? (i := 1494) (by decide +kernel)⟩
theorem lw_p89 : lw_okq (⟨"RowPrunerModel", "tellsOf", "(II)V"⟩, 29) := ⟨⟨by decide +kernel, by decide +kernel⟩, List.mem_of_getElem? (i := 1173) (by decide +kernel), List.mem_of_getElem? (i := 1497) (by decide +kernel), List.mem_of_getElem? (i := 1498) (by decide +kernel)⟩
theorem lw_p90 : lw_okq (⟨"RowPrunerModel", "endsAt", "(IIII)V"⟩, 29) := ⟨⟨by decide +kernel, by decide +kernel⟩, List.mem_of_getElem? (i := 1173) (by decide +kernel), List.mem_of_getElem? (i := 1501) (by decide +kernel), List.mem_of_getElem? (i := 1502) (by decide +kernel)⟩
theorem lw_p91 : lw_okq (⟨"RowPrunerModel", "deleteNow", "(II)I"⟩, 29) := ⟨⟨by decide +kernel, by decide +kernel⟩, List.mem_of_getElem? (i := 1173) (by decide +kernel), List.mem_of_getElem? (i := 1505) (by decide +kernel), List.mem_of_getElem? (i := 1506) (by decide +kernel)⟩
theorem lw_p92 : lw_okq (⟨"RowPrunerModel", "versionsOf", "(I)I"⟩, 29) := ⟨⟨by decide +kernel, by decide +kernel⟩, List.mem_of_getElem? (i := 1173) (by decide +kernel), List.mem_of_getElem? (i := 1509) (by decide +kernel), List.mem_of_getElem? (i := 1510) (by decide +kernel)⟩
theorem lw_p93 : lw_okq (⟨"RowPrunerModel", "closeNow", "(II)I"⟩, 29) := ⟨⟨by decide +kernel, by decide +kernel⟩, List.mem_of_getElem? (i := 1173) (by decide +kernel), List.mem_of_getElem? (i := 1513) (by decide +kernel), List.mem_of_getElem? (i := 1514) (by decide +kernel)⟩
theorem lw_p94 : lw_okq (⟨"RowPrunerModel", "pruneNow", "(I)I"⟩, 29) := ⟨⟨by decide +kernel, by decide +kernel⟩, List.mem_of_getElem? (i := 1173) (by decide +kernel), List.mem_of_getElem? (i := 1517) (by decide +kernel), List.mem_of_getElem? (i := 1518) (by decide +kernel)⟩
theorem lw_p95 : lw_okq (⟨"RowPrunerModel", "vacuums", "()I"⟩, 29) := ⟨⟨by decide +kernel, by decide +kernel⟩, List.mem_of_getElem? (i := 1173) (by decide +kernel), List.mem_of_getElem? (i := 1521) (by decide +kernel), List.mem_of_getElem? (i := 1522) (by decide +kernel)⟩
def lw_privs_6 : List (MethodName × Nat) := [(⟨"RowPrunerModel", "prunes", "(I)I"⟩, 29), (⟨"RowPrunerModel", "horizon", "()I"⟩, 29), (⟨"RowPrunerModel", "horizonBut", "(I)I"⟩, 29), (⟨"RowPrunerModel", "lowOf", "(I)I"⟩, 29), (⟨"RowPrunerModel", "cuts", "(II)I"⟩, 29), (⟨"RowPrunerModel", "chainOf", "(I)I"⟩, 29), (⟨"RowPrunerModel", "isDead", "(II)Z"⟩, 29), (⟨"RowPrunerModel", "chainNext", "(I)I"⟩, 29), (⟨"RowPrunerModel", "goes", "(I)V"⟩, 29), (⟨"RowPrunerModel", "tellsOf", "(II)V"⟩, 29), (⟨"RowPrunerModel", "endsAt", "(IIII)V"⟩, 29), (⟨"RowPrunerModel", "deleteNow", "(II)I"⟩, 29), (⟨"RowPrunerModel", "versionsOf", "(I)I"⟩, 29), (⟨"RowPrunerModel", "closeNow", "(II)I"⟩, 29), (⟨"RowPrunerModel", "pruneNow", "(I)I"⟩, 29), (⟨"RowPrunerModel", "vacuums", "()I"⟩, 29)]
theorem lw_r6 : ∀ q ∈ lw_privs_6, lw_okq q := List.forall_mem_cons.mpr ⟨lw_p80, List.forall_mem_cons.mpr ⟨lw_p81, List.forall_mem_cons.mpr ⟨lw_p82, List.forall_mem_cons.mpr ⟨lw_p83, List.forall_mem_cons.mpr ⟨lw_p84, List.forall_mem_cons.mpr ⟨lw_p85, List.forall_mem_cons.mpr ⟨lw_p86, List.forall_mem_cons.mpr ⟨lw_p87, List.forall_mem_cons.mpr ⟨lw_p88, List.forall_mem_cons.mpr ⟨lw_p89, List.forall_mem_cons.mpr ⟨lw_p90, List.forall_mem_cons.mpr ⟨lw_p91, List.forall_mem_cons.mpr ⟨lw_p92, List.forall_mem_cons.mpr ⟨lw_p93, List.forall_mem_cons.mpr ⟨lw_p94, List.forall_mem_cons.mpr ⟨lw_p95, fun _ h => absurd h List.not_mem_nil⟩⟩⟩⟩⟩⟩⟩⟩⟩⟩⟩⟩⟩⟩⟩⟩
theorem lw_p96 : lw_okq (⟨"RowPrunerModel", "passes", "()V"⟩, 29) := ⟨⟨by decide +kernel, by decide +kernel⟩, List.mem_of_getElem? (i := 1173) (by decide +kernel), List.mem_of_getElem? (i := 1525) (by decide +kernel), List.mem_of_getElem? (i := 1526) (by decide +kernel)⟩
theorem lw_p97 : lw_okq (⟨"RowPrunerModel", "takesOut", "(II)I"⟩, 29) := ⟨⟨by decide +kernel, by decide +kernel⟩, List.mem_of_getElem? (i := 1173) (by decide +kernel), List.mem_of_getElem? (i := 1529) (by decide +kernel), List.mem_of_getElem? (i := 1530) (by decide +kernel)⟩
theorem lw_p98 : lw_okq (⟨"RowPrunerModel", "freezes", "(I)V"⟩, 29) := ⟨⟨by decide +kernel, by decide +kernel⟩, List.mem_of_getElem? (i := 1173) (by decide +kernel), List.mem_of_getElem? (i := 1533) (by decide +kernel), List.mem_of_getElem? (i := 1534) (by decide +kernel)⟩
theorem lw_p99 : lw_okq (⟨"RowPrunerModel", "isClear", "(II)Z"⟩, 29) := ⟨⟨by decide +kernel, by decide +kernel⟩, List.mem_of_getElem? (i := 1173) (by decide +kernel), List.mem_of_getElem? (i := 1537) (by decide +kernel), List.mem_of_getElem? (i := 1538) (by decide +kernel)⟩
theorem lw_p100 : lw_okq (⟨"RowPrunerModel", "lookNow", "(II)I"⟩, 29) := ⟨⟨by decide +kernel, by decide +kernel⟩, List.mem_of_getElem? (i := 1173) (by decide +kernel), List.mem_of_getElem? (i := 1541) (by decide +kernel), List.mem_of_getElem? (i := 1542) (by decide +kernel)⟩
theorem lw_p101 : lw_okq (⟨"RowPrunerModel", "looks", "(II)I"⟩, 29) := ⟨⟨by decide +kernel, by decide +kernel⟩, List.mem_of_getElem? (i := 1173) (by decide +kernel), List.mem_of_getElem? (i := 1545) (by decide +kernel), List.mem_of_getElem? (i := 1546) (by decide +kernel)⟩
theorem lw_p102 : lw_okq (⟨"RowPrunerModel", "looksAt", "(IIII)V"⟩, 29) := ⟨⟨by decide +kernel, by decide +kernel⟩, List.mem_of_getElem? (i := 1173) (by decide +kernel), List.mem_of_getElem? (i := 1549) (by decide +kernel), List.mem_of_getElem? (i := 1550) (by decide +kernel)⟩
theorem lw_p103 : lw_okq (⟨"RowPrunerModel", "finds", "(II)V"⟩, 29) := ⟨⟨by decide +kernel, by decide +kernel⟩, List.mem_of_getElem? (i := 1173) (by decide +kernel), List.mem_of_getElem? (i := 1553) (by decide +kernel), List.mem_of_getElem? (i := 1554) (by decide +kernel)⟩
theorem lw_p104 : lw_okq (⟨"RowPrunerModel", "repackNow", "()I"⟩, 29) := ⟨⟨by decide +kernel, by decide +kernel⟩, List.mem_of_getElem? (i := 1173) (by decide +kernel), List.mem_of_getElem? (i := 1557) (by decide +kernel), List.mem_of_getElem? (i := 1558) (by decide +kernel)⟩
theorem lw_p105 : lw_okq (⟨"RowPrunerModel", "isAnyOpen", "()Z"⟩, 29) := ⟨⟨by decide +kernel, by decide +kernel⟩, List.mem_of_getElem? (i := 1173) (by decide +kernel), List.mem_of_getElem? (i := 1561) (by decide +kernel), List.mem_of_getElem? (i := 1562) (by decide +kernel)⟩
theorem lw_p106 : lw_okq (⟨"RowPrunerModel", "staying", "()I"⟩, 29) := ⟨⟨by decide +kernel, by decide +kernel⟩, List.mem_of_getElem? (i := 1173) (by decide +kernel), List.mem_of_getElem? (i := 1565) (by decide +kernel), List.mem_of_getElem? (i := 1566) (by decide +kernel)⟩
theorem lw_p107 : lw_okq (⟨"RowPrunerModel", "lives", "(I)Z"⟩, 29) := ⟨⟨by decide +kernel, by decide +kernel⟩, List.mem_of_getElem? (i := 1173) (by decide +kernel), List.mem_of_getElem? (i := 1569) (by decide +kernel), List.mem_of_getElem? (i := 1570) (by decide +kernel)⟩
theorem lw_p108 : lw_okq (⟨"RowPrunerModel", "isAhead", "(II)Z"⟩, 29) := ⟨⟨by decide +kernel, by decide +kernel⟩, List.mem_of_getElem? (i := 1173) (by decide +kernel), List.mem_of_getElem? (i := 1573) (by decide +kernel), List.mem_of_getElem? (i := 1574) (by decide +kernel)⟩
theorem lw_p109 : lw_okq (⟨"RowPrunerModel", "oldOf", "(II)I"⟩, 29) := ⟨⟨by decide +kernel, by decide +kernel⟩, List.mem_of_getElem? (i := 1173) (by decide +kernel), List.mem_of_getElem? (i := 1577) (by decide +kernel), List.mem_of_getElem? (i := 1578) (by decide +kernel)⟩
theorem lw_p110 : lw_okq (⟨"RowPrunerModel", "openMany", "()I"⟩, 29) := ⟨⟨by decide +kernel, by decide +kernel⟩, List.mem_of_getElem? (i := 1173) (by decide +kernel), List.mem_of_getElem? (i := 1589) (by decide +kernel), List.mem_of_getElem? (i := 1590) (by decide +kernel)⟩
theorem lw_p111 : lw_okq (⟨"RowPrunerModel", "waitMany", "()I"⟩, 29) := ⟨⟨by decide +kernel, by decide +kernel⟩, List.mem_of_getElem? (i := 1173) (by decide +kernel), List.mem_of_getElem? (i := 1593) (by decide +kernel), List.mem_of_getElem? (i := 1594) (by decide +kernel)⟩
def lw_privs_7 : List (MethodName × Nat) := [(⟨"RowPrunerModel", "passes", "()V"⟩, 29), (⟨"RowPrunerModel", "takesOut", "(II)I"⟩, 29), (⟨"RowPrunerModel", "freezes", "(I)V"⟩, 29), (⟨"RowPrunerModel", "isClear", "(II)Z"⟩, 29), (⟨"RowPrunerModel", "lookNow", "(II)I"⟩, 29), (⟨"RowPrunerModel", "looks", "(II)I"⟩, 29), (⟨"RowPrunerModel", "looksAt", "(IIII)V"⟩, 29), (⟨"RowPrunerModel", "finds", "(II)V"⟩, 29), (⟨"RowPrunerModel", "repackNow", "()I"⟩, 29), (⟨"RowPrunerModel", "isAnyOpen", "()Z"⟩, 29), (⟨"RowPrunerModel", "staying", "()I"⟩, 29), (⟨"RowPrunerModel", "lives", "(I)Z"⟩, 29), (⟨"RowPrunerModel", "isAhead", "(II)Z"⟩, 29), (⟨"RowPrunerModel", "oldOf", "(II)I"⟩, 29), (⟨"RowPrunerModel", "openMany", "()I"⟩, 29), (⟨"RowPrunerModel", "waitMany", "()I"⟩, 29)]
theorem lw_r7 : ∀ q ∈ lw_privs_7, lw_okq q := List.forall_mem_cons.mpr ⟨lw_p96, List.forall_mem_cons.mpr ⟨lw_p97, List.forall_mem_cons.mpr ⟨lw_p98, List.forall_mem_cons.mpr ⟨lw_p99, List.forall_mem_cons.mpr ⟨lw_p100, List.forall_mem_cons.mpr ⟨lw_p101, List.forall_mem_cons.mpr ⟨lw_p102, List.forall_mem_cons.mpr ⟨lw_p103, List.forall_mem_cons.mpr ⟨lw_p104, List.forall_mem_cons.mpr ⟨lw_p105, List.forall_mem_cons.mpr ⟨lw_p106, List.forall_mem_cons.mpr ⟨lw_p107, List.forall_mem_cons.mpr ⟨lw_p108, List.forall_mem_cons.mpr ⟨lw_p109, List.forall_mem_cons.mpr ⟨lw_p110, List.forall_mem_cons.mpr ⟨lw_p111, fun _ h => absurd h List.not_mem_nil⟩⟩⟩⟩⟩⟩⟩⟩⟩⟩⟩⟩⟩⟩⟩⟩
theorem lw_p112 : lw_okq (⟨"RowPrunerModel", "manyOf", "(I)I"⟩, 29) := ⟨⟨by decide +kernel, by decide +kernel⟩, List.mem_of_getElem? (i := 1173) (by decide +kernel), List.mem_of_getElem? (i := 1597) (by decide +kernel), List.mem_of_getElem? (i := 1598) (by decide +kernel)⟩
theorem lw_p113 : lw_okq (⟨"RowPrunerModel", "isDying", "(I)Z"⟩, 29) := ⟨⟨by decide +kernel, by decide +kernel⟩, List.mem_of_getElem? (i := 1173) (by decide +kernel), List.mem_of_getElem? (i := 1601) (by decide +kernel), List.mem_of_getElem? (i := 1602) (by decide +kernel)⟩
theorem lw_p114 : lw_okq (⟨"RowPrunerModel", "deadUnits", "(III)I"⟩, 29) := ⟨⟨by decide +kernel, by decide +kernel⟩, List.mem_of_getElem? (i := 1173) (by decide +kernel), List.mem_of_getElem? (i := 1616) (by decide +kernel), List.mem_of_getElem? (i := 1617) (by decide +kernel)⟩
theorem lw_p115 : lw_okq (⟨"RowPrunerModel", "unusedIn", "(I)I"⟩, 29) := ⟨⟨by decide +kernel, by decide +kernel⟩, List.mem_of_getElem? (i := 1173) (by decide +kernel), List.mem_of_getElem? (i := 1620) (by decide +kernel), List.mem_of_getElem? (i := 1621) (by decide +kernel)⟩
theorem lw_p116 : lw_okq (⟨"RowPrunerModel", "asksSlot", "(ZII)Z"⟩, 29) := ⟨⟨by decide +kernel, by decide +kernel⟩, List.mem_of_getElem? (i := 1173) (by decide +kernel), List.mem_of_getElem? (i := 1628) (by decide +kernel), List.mem_of_getElem? (i := 1629) (by decide +kernel)⟩
theorem lw_p117 : lw_okq (⟨"RowPrunerModel", "entriesTo", "(I)I"⟩, 29) := ⟨⟨by decide +kernel, by decide +kernel⟩, List.mem_of_getElem? (i := 1173) (by decide +kernel), List.mem_of_getElem? (i := 1632) (by decide +kernel), List.mem_of_getElem? (i := 1633) (by decide +kernel)⟩
theorem lw_p118 : lw_okq (⟨"RowPrunerModel", "chainMany", "(I)I"⟩, 29) := ⟨⟨by decide +kernel, by decide +kernel⟩, List.mem_of_getElem? (i := 1173) (by decide +kernel), List.mem_of_getElem? (i := 1636) (by decide +kernel), List.mem_of_getElem? (i := 1637) (by decide +kernel)⟩
theorem lw_p119 : lw_okq (⟨"RowPrunerModel", "notedMany", "(I)I"⟩, 29) := ⟨⟨by decide +kernel, by decide +kernel⟩, List.mem_of_getElem? (i := 1173) (by decide +kernel), List.mem_of_getElem? (i := 1652) (by decide +kernel), List.mem_of_getElem? (i := 1653) (by decide +kernel)⟩
theorem lw_p120 : lw_okq (⟨"RowPrunerModel", "madeAs", "(II)I"⟩, 29) := ⟨⟨by decide +kernel, by decide +kernel⟩, List.mem_of_getElem? (i := 1173) (by decide +kernel), List.mem_of_getElem? (i := 1672) (by decide +kernel), List.mem_of_getElem? (i := 1673) (by decide +kernel)⟩
theorem lw_p121 : lw_okq (⟨"RowPrunerModel", "asksOpen", "(I)Z"⟩, 29) := ⟨⟨by decide +kernel, by decide +kernel⟩, List.mem_of_getElem? (i := 1173) (by decide +kernel), List.mem_of_getElem? (i := 1740) (by decide +kernel), List.mem_of_getElem? (i := 1741) (by decide +kernel)⟩
theorem lw_p122 : lw_okq (⟨"RowPrunerModel", "enderFor", "(II)I"⟩, 29) := ⟨⟨by decide +kernel, by decide +kernel⟩, List.mem_of_getElem? (i := 1173) (by decide +kernel), List.mem_of_getElem? (i := 1748) (by decide +kernel), List.mem_of_getElem? (i := 1749) (by decide +kernel)⟩
theorem lw_p123 : lw_okq (⟨"RowPrunerModel", "ringOf", "(II)I"⟩, 29) := ⟨⟨by decide +kernel, by decide +kernel⟩, List.mem_of_getElem? (i := 1173) (by decide +kernel), List.mem_of_getElem? (i := 1752) (by decide +kernel), List.mem_of_getElem? (i := 1753) (by decide +kernel)⟩
theorem lw_p124 : lw_okq (⟨"RowPrunerModel", "allDead", "()I"⟩, 29) := ⟨⟨by decide +kernel, by decide +kernel⟩, List.mem_of_getElem? (i := 1173) (by decide +kernel), List.mem_of_getElem? (i := 1772) (by decide +kernel), List.mem_of_getElem? (i := 1773) (by decide +kernel)⟩
theorem lw_p125 : lw_okq (⟨"RowPrunerModel", "allFree", "()I"⟩, 29) := ⟨⟨by decide +kernel, by decide +kernel⟩, List.mem_of_getElem? (i := 1173) (by decide +kernel), List.mem_of_getElem? (i := 1780) (by decide +kernel), List.mem_of_getElem? (i := 1781) (by decide +kernel)⟩
def lw_privs_8 : List (MethodName × Nat) := [(⟨"RowPrunerModel", "manyOf", "(I)I"⟩, 29), (⟨"RowPrunerModel", "isDying", "(I)Z"⟩, 29), (⟨"RowPrunerModel", "deadUnits", "(III)I"⟩, 29), (⟨"RowPrunerModel", "unusedIn", "(I)I"⟩, 29), (⟨"RowPrunerModel", "asksSlot", "(ZII)Z"⟩, 29), (⟨"RowPrunerModel", "entriesTo", "(I)I"⟩, 29), (⟨"RowPrunerModel", "chainMany", "(I)I"⟩, 29), (⟨"RowPrunerModel", "notedMany", "(I)I"⟩, 29), (⟨"RowPrunerModel", "madeAs", "(II)I"⟩, 29), (⟨"RowPrunerModel", "asksOpen", "(I)Z"⟩, 29), (⟨"RowPrunerModel", "enderFor", "(II)I"⟩, 29), (⟨"RowPrunerModel", "ringOf", "(II)I"⟩, 29), (⟨"RowPrunerModel", "allDead", "()I"⟩, 29), (⟨"RowPrunerModel", "allFree", "()I"⟩, 29)]
theorem lw_r8 : ∀ q ∈ lw_privs_8, lw_okq q := List.forall_mem_cons.mpr ⟨lw_p112, List.forall_mem_cons.mpr ⟨lw_p113, List.forall_mem_cons.mpr ⟨lw_p114, List.forall_mem_cons.mpr ⟨lw_p115, List.forall_mem_cons.mpr ⟨lw_p116, List.forall_mem_cons.mpr ⟨lw_p117, List.forall_mem_cons.mpr ⟨lw_p118, List.forall_mem_cons.mpr ⟨lw_p119, List.forall_mem_cons.mpr ⟨lw_p120, List.forall_mem_cons.mpr ⟨lw_p121, List.forall_mem_cons.mpr ⟨lw_p122, List.forall_mem_cons.mpr ⟨lw_p123, List.forall_mem_cons.mpr ⟨lw_p124, List.forall_mem_cons.mpr ⟨lw_p125, fun _ h => absurd h List.not_mem_nil⟩⟩⟩⟩⟩⟩⟩⟩⟩⟩⟩⟩⟩⟩
def lw_privs : List (MethodName × Nat) := lw_privs_1 ++ (lw_privs_2 ++ (lw_privs_3 ++ (lw_privs_4 ++ (lw_privs_5 ++ (lw_privs_6 ++ (lw_privs_7 ++ (lw_privs_8)))))))
def lw_tbl : List Cond := k2_sels lw_privs ++ tables_1
theorem lw_privs_ok : ∀ q ∈ lw_privs, lw_okq q := by
  show ∀ q ∈ lw_privs_1 ++ (lw_privs_2 ++ (lw_privs_3 ++ (lw_privs_4 ++ (lw_privs_5 ++ (lw_privs_6 ++ (lw_privs_7 ++ (lw_privs_8))))))), lw_okq q
  exact List.forall_mem_append.mpr ⟨lw_r1, List.forall_mem_append.mpr ⟨lw_r2, List.forall_mem_append.mpr ⟨lw_r3, List.forall_mem_append.mpr ⟨lw_r4, List.forall_mem_append.mpr ⟨lw_r5, List.forall_mem_append.mpr ⟨lw_r6, List.forall_mem_append.mpr ⟨lw_r7, lw_r8⟩⟩⟩⟩⟩⟩⟩
def RX0 : String := "RowPruner$Found"
def TX0 : u_T := fun k => match k with
  | 0 => ("RowPruner$Found", "rows", "[I", true)
  | 1 => ("RowPruner$Found", "values", "[I", true)
  | 2 => ("RowPruner$Found", "places", "[I", true)
  | 3 => ("RowPruner$Found", "aheads", "[I", true)
  | _ => ("RowPruner$Found", "length", "I", false)
def tyX0 : Nat → FieldType := fun k => match k with
  | 0 => .array .int
  | 1 => .array .int
  | 2 => .array .int
  | 3 => .array .int
  | _ => .int
abbrev wsX00 : List Cond := u_ws RX0 TX0 5
theorem nmX0 : ∀ a, a < 5 → ∀ b, b < 5 → a ≠ b → (TX0 a).2.1 ≠ (TX0 b).2.1 := by decide +kernel
theorem tyX0_ok : ∀ k, k < 5 → parseFieldDescriptor (TX0 k).2.2.1 = some (tyX0 k) := by decide +kernel
abbrev cX0_init : ByteArray := prog_2_method_1_code
def yX0_init : MethodName := ⟨RX0, "<init>", "()V"⟩
abbrev cX0_copyFrom : ByteArray := prog_2_method_2_code
def yX0_copyFrom : MethodName := ⟨RX0, "copyFrom", "(LRowPruner$Found;)V"⟩
abbrev cX0_add : ByteArray := prog_2_method_3_code
def yX0_add : MethodName := ⟨RX0, "add", "(IIII)V"⟩
abbrev cX0_told : ByteArray := prog_2_method_4_code
def yX0_told : MethodName := ⟨RX0, "told", "(II)I"⟩
def RX1 : String := "RowPruner$Index"
def TX1 : u_T := fun k => match k with
  | 0 => ("RowPruner$Index", "keys", "[I", true)
  | 1 => ("RowPruner$Index", "places", "[I", true)
  | 2 => ("RowPruner$Index", "killed", "[I", true)
  | _ => ("RowPruner$Index", "length", "I", false)
def tyX1 : Nat → FieldType := fun k => match k with
  | 0 => .array .int
  | 1 => .array .int
  | 2 => .array .int
  | _ => .int
abbrev wsX10 : List Cond := u_ws RX1 TX1 4
theorem nmX1 : ∀ a, a < 4 → ∀ b, b < 4 → a ≠ b → (TX1 a).2.1 ≠ (TX1 b).2.1 := by decide +kernel
theorem tyX1_ok : ∀ k, k < 4 → parseFieldDescriptor (TX1 k).2.2.1 = some (tyX1 k) := by decide +kernel
abbrev cX1_init : ByteArray := prog_3_method_1_code
def yX1_init : MethodName := ⟨RX1, "<init>", "()V"⟩
abbrev cX1_copyFrom : ByteArray := prog_3_method_2_code
def yX1_copyFrom : MethodName := ⟨RX1, "copyFrom", "(LRowPruner$Index;)V"⟩
abbrev cX1_keyAt : ByteArray := prog_3_method_3_code
def yX1_keyAt : MethodName := ⟨RX1, "keyAt", "(I)I"⟩
abbrev cX1_placeAt : ByteArray := prog_3_method_4_code
def yX1_placeAt : MethodName := ⟨RX1, "placeAt", "(I)I"⟩
abbrev cX1_isKilled : ByteArray := prog_3_method_5_code
def yX1_isKilled : MethodName := ⟨RX1, "isKilled", "(I)Z"⟩
abbrev cX1_kill : ByteArray := prog_3_method_6_code
def yX1_kill : MethodName := ⟨RX1, "kill", "(I)V"⟩
abbrev cX1_move : ByteArray := prog_3_method_7_code
def yX1_move : MethodName := ⟨RX1, "move", "(II)V"⟩
abbrev cX1_isBehind : ByteArray := prog_3_method_8_code
def yX1_isBehind : MethodName := ⟨RX1, "isBehind", "(III)Z"⟩
abbrev cX1_add : ByteArray := prog_3_method_9_code
def yX1_add : MethodName := ⟨RX1, "add", "(II)V"⟩
abbrev cX1_dropAllTo : ByteArray := prog_3_method_10_code
def yX1_dropAllTo : MethodName := ⟨RX1, "dropAllTo", "(I)I"⟩
abbrev cX1_howManyLeadTo : ByteArray := prog_3_method_11_code
def yX1_howManyLeadTo : MethodName := ⟨RX1, "howManyLeadTo", "(I)I"⟩
def RX2 : String := "RowPruner$Log"
def TX2 : u_T := fun k => match k with
  | 0 => ("RowPruner$Log", "kinds", "[I", true)
  | 1 => ("RowPruner$Log", "numbers", "[I", true)
  | 2 => ("RowPruner$Log", "counted", "[I", true)
  | _ => ("RowPruner$Log", "length", "I", false)
def tyX2 : Nat → FieldType := fun k => match k with
  | 0 => .array .int
  | 1 => .array .int
  | 2 => .array .int
  | _ => .int
abbrev wsX20 : List Cond := u_ws RX2 TX2 4
theorem nmX2 : ∀ a, a < 4 → ∀ b, b < 4 → a ≠ b → (TX2 a).2.1 ≠ (TX2 b).2.1 := by decide +kernel
theorem tyX2_ok : ∀ k, k < 4 → parseFieldDescriptor (TX2 k).2.2.1 = some (tyX2 k) := by decide +kernel
abbrev cX2_init : ByteArray := prog_4_method_1_code
def yX2_init : MethodName := ⟨RX2, "<init>", "()V"⟩
abbrev cX2_copyFrom : ByteArray := prog_4_method_2_code
def yX2_copyFrom : MethodName := ⟨RX2, "copyFrom", "(LRowPruner$Log;)V"⟩
abbrev cX2_makeAnew : ByteArray := prog_4_method_3_code
def yX2_makeAnew : MethodName := ⟨RX2, "makeAnew", "()V"⟩
abbrev cX2_tell : ByteArray := prog_4_method_4_code
def yX2_tell : MethodName := ⟨RX2, "tell", "(II)V"⟩
abbrev cX2_kindAt : ByteArray := prog_4_method_5_code
def yX2_kindAt : MethodName := ⟨RX2, "kindAt", "(I)I"⟩
abbrev cX2_numberAt : ByteArray := prog_4_method_6_code
def yX2_numberAt : MethodName := ⟨RX2, "numberAt", "(I)I"⟩
abbrev cX2_count : ByteArray := prog_4_method_7_code
def yX2_count : MethodName := ⟨RX2, "count", "(II)V"⟩
abbrev cX2_countOf : ByteArray := prog_4_method_8_code
def yX2_countOf : MethodName := ⟨RX2, "countOf", "(I)I"⟩
def RX3 : String := "RowPruner$Pages"
def TX3 : u_T := fun k => match k with
  | 0 => ("RowPruner$Pages", "slots", "[LRowPruner$Slot;", true)
  | 1 => ("RowPruner$Pages", "nowhere", "LRowPruner$Slot;", true)
  | 2 => ("RowPruner$Pages", "lengths", "[I", true)
  | 3 => ("RowPruner$Pages", "clear", "[I", true)
  | _ => ("RowPruner$Pages", "units", "I", false)
def tyX3 : Nat → FieldType := fun k => match k with
  | 0 => .array (.object "RowPruner$Slot")
  | 1 => .object "RowPruner$Slot"
  | 2 => .array .int
  | 3 => .array .int
  | _ => .int
abbrev wsX30 : List Cond := u_ws RX3 TX3 5
theorem nmX3 : ∀ a, a < 5 → ∀ b, b < 5 → a ≠ b → (TX3 a).2.1 ≠ (TX3 b).2.1 := by decide +kernel
theorem tyX3_ok : ∀ k, k < 5 → parseFieldDescriptor (TX3 k).2.2.1 = some (tyX3 k) := by decide +kernel
abbrev cX3_init : ByteArray := prog_5_method_1_code
def yX3_init : MethodName := ⟨RX3, "<init>", "()V"⟩
abbrev cX3_copyFrom : ByteArray := prog_5_method_2_code
def yX3_copyFrom : MethodName := ⟨RX3, "copyFrom", "(LRowPruner$Pages;)V"⟩
abbrev cX3_strip : ByteArray := prog_5_method_3_code
def yX3_strip : MethodName := ⟨RX3, "strip", "()V"⟩
abbrev cX3_at : ByteArray := prog_5_method_4_code
def yX3_at : MethodName := ⟨RX3, "at", "(I)LRowPruner$Slot;"⟩
abbrev cX3_lengthOf : ByteArray := prog_5_method_5_code
def yX3_lengthOf : MethodName := ⟨RX3, "lengthOf", "(I)I"⟩
abbrev cX3_hasSlot : ByteArray := prog_5_method_6_code
def yX3_hasSlot : MethodName := ⟨RX3, "hasSlot", "(II)Z"⟩
abbrev cX3_isClear : ByteArray := prog_5_method_7_code
def yX3_isClear : MethodName := ⟨RX3, "isClear", "(I)Z"⟩
abbrev cX3_setClear : ByteArray := prog_5_method_8_code
def yX3_setClear : MethodName := ⟨RX3, "setClear", "(IZ)V"⟩
abbrev cX3_freeOf : ByteArray := prog_5_method_9_code
def yX3_freeOf : MethodName := ⟨RX3, "freeOf", "(I)I"⟩
abbrev cX3_freeInAll : ByteArray := prog_5_method_10_code
def yX3_freeInAll : MethodName := ⟨RX3, "freeInAll", "()I"⟩
abbrev cX3_unusedOf : ByteArray := prog_5_method_11_code
def yX3_unusedOf : MethodName := ⟨RX3, "unusedOf", "(I)I"⟩
abbrev cX3_slotsThatAre : ByteArray := prog_5_method_12_code
def yX3_slotsThatAre : MethodName := ⟨RX3, "slotsThatAre", "(I)I"⟩
abbrev cX3_howManyHaveSlots : ByteArray := prog_5_method_13_code
def yX3_howManyHaveSlots : MethodName := ⟨RX3, "howManyHaveSlots", "()I"⟩
abbrev cX3_placeIn : ByteArray := prog_5_method_14_code
def yX3_placeIn : MethodName := ⟨RX3, "placeIn", "(II)I"⟩
abbrev cX3_firstPlace : ByteArray := prog_5_method_15_code
def yX3_firstPlace : MethodName := ⟨RX3, "firstPlace", "(I)I"⟩
abbrev cX3_take : ByteArray := prog_5_method_16_code
def yX3_take : MethodName := ⟨RX3, "take", "(I)Z"⟩
abbrev cX3_dropUnusedBehind : ByteArray := prog_5_method_17_code
def yX3_dropUnusedBehind : MethodName := ⟨RX3, "dropUnusedBehind", "(I)V"⟩
def RX4 : String := "RowPruner$Slot"
def TX4 : u_T := fun k => match k with
  | 0 => ("RowPruner$Slot", "kind", "I", false)
  | 1 => ("RowPruner$Slot", "turned", "I", false)
  | 2 => ("RowPruner$Slot", "row", "I", false)
  | 3 => ("RowPruner$Slot", "key", "I", false)
  | 4 => ("RowPruner$Slot", "value", "I", false)
  | 5 => ("RowPruner$Slot", "size", "I", false)
  | 6 => ("RowPruner$Slot", "maker", "I", false)
  | 7 => ("RowPruner$Slot", "ender", "I", false)
  | 8 => ("RowPruner$Slot", "next", "I", false)
  | 9 => ("RowPruner$Slot", "made", "I", false)
  | 10 => ("RowPruner$Slot", "light", "Z", false)
  | _ => ("RowPruner$Slot", "frozen", "Z", false)
def tyX4 : Nat → FieldType := fun k => match k with
  | 0 => .int
  | 1 => .int
  | 2 => .int
  | 3 => .int
  | 4 => .int
  | 5 => .int
  | 6 => .int
  | 7 => .int
  | 8 => .int
  | 9 => .int
  | 10 => .boolean
  | _ => .boolean
abbrev wsX40 : List Cond := u_ws RX4 TX4 12
theorem nmX4 : ∀ a, a < 12 → ∀ b, b < 12 → a ≠ b → (TX4 a).2.1 ≠ (TX4 b).2.1 := by decide +kernel
theorem tyX4_ok : ∀ k, k < 12 → parseFieldDescriptor (TX4 k).2.2.1 = some (tyX4 k) := by decide +kernel
abbrev cX4_init : ByteArray := prog_6_method_1_code
def yX4_init : MethodName := ⟨RX4, "<init>", "()V"⟩
abbrev cX4_empty : ByteArray := prog_6_method_2_code
def yX4_empty : MethodName := ⟨RX4, "empty", "(I)V"⟩
abbrev cX4_copyFrom : ByteArray := prog_6_method_3_code
def yX4_copyFrom : MethodName := ⟨RX4, "copyFrom", "(LRowPruner$Slot;)V"⟩
abbrev cX4_isOf : ByteArray := prog_6_method_4_code
def yX4_isOf : MethodName := ⟨RX4, "isOf", "(I)Z"⟩
abbrev cX4_stamp : ByteArray := prog_6_method_5_code
def yX4_stamp : MethodName := ⟨RX4, "stamp", "(I)I"⟩
def RX5 : String := "RowPruner$Store"
def TX5 : u_T := fun k => match k with
  | 0 => ("RowPruner$Store", "pages", "LRowPruner$Pages;", true)
  | 1 => ("RowPruner$Store", "txns", "LRowPruner$Txns;", true)
  | 2 => ("RowPruner$Store", "index", "LRowPruner$Index;", true)
  | 3 => ("RowPruner$Store", "log", "LRowPruner$Log;", true)
  | 4 => ("RowPruner$Store", "found", "LRowPruner$Found;", true)
  | 5 => ("RowPruner$Store", "batch", "I", false)
  | 6 => ("RowPruner$Store", "age", "I", false)
  | 7 => ("RowPruner$Store", "rows", "I", false)
  | _ => ("RowPruner$Store", "made", "I", false)
def tyX5 : Nat → FieldType := fun k => match k with
  | 0 => .object "RowPruner$Pages"
  | 1 => .object "RowPruner$Txns"
  | 2 => .object "RowPruner$Index"
  | 3 => .object "RowPruner$Log"
  | 4 => .object "RowPruner$Found"
  | 5 => .int
  | 6 => .int
  | 7 => .int
  | _ => .int
abbrev wsX50 : List Cond := u_ws RX5 TX5 9
theorem nmX5 : ∀ a, a < 9 → ∀ b, b < 9 → a ≠ b → (TX5 a).2.1 ≠ (TX5 b).2.1 := by decide +kernel
theorem tyX5_ok : ∀ k, k < 9 → parseFieldDescriptor (TX5 k).2.2.1 = some (tyX5 k) := by decide +kernel
abbrev cX5_init : ByteArray := prog_7_method_1_code
def yX5_init : MethodName := ⟨RX5, "<init>", "()V"⟩
abbrev cX5_copyFrom : ByteArray := prog_7_method_2_code
def yX5_copyFrom : MethodName := ⟨RX5, "copyFrom", "(LRowPruner$Store;)V"⟩
abbrev cX5_makeAnew : ByteArray := prog_7_method_3_code
def yX5_makeAnew : MethodName := ⟨RX5, "makeAnew", "()V"⟩
abbrev cX5_hasRow : ByteArray := prog_7_method_4_code
def yX5_hasRow : MethodName := ⟨RX5, "hasRow", "(I)Z"⟩
abbrev cX5_isDead : ByteArray := prog_7_method_5_code
def yX5_isDead : MethodName := ⟨RX5, "isDead", "(LRowPruner$Slot;)Z"⟩
abbrev cX5_isDying : ByteArray := prog_7_method_6_code
def yX5_isDying : MethodName := ⟨RX5, "isDying", "(LRowPruner$Slot;)Z"⟩
abbrev cX5_isSuch : ByteArray := prog_7_method_7_code
def yX5_isSuch : MethodName := ⟨RX5, "isSuch", "(LRowPruner$Slot;I)Z"⟩
abbrev cX5_versionsThatAre : ByteArray := prog_7_method_8_code
def yX5_versionsThatAre : MethodName := ⟨RX5, "versionsThatAre", "(I)I"⟩
abbrev cX5_isCounted : ByteArray := prog_7_method_9_code
def yX5_isCounted : MethodName := ⟨RX5, "isCounted", "(LRowPruner$Slot;I)Z"⟩
abbrev cX5_versionsOf : ByteArray := prog_7_method_10_code
def yX5_versionsOf : MethodName := ⟨RX5, "versionsOf", "(I)I"⟩
abbrev cX5_placeMade : ByteArray := prog_7_method_11_code
def yX5_placeMade : MethodName := ⟨RX5, "placeMade", "(II)I"⟩
abbrev cX5_madeAhead : ByteArray := prog_7_method_12_code
def yX5_madeAhead : MethodName := ⟨RX5, "madeAhead", "(II)I"⟩
abbrev cX5_deadUnitsOf : ByteArray := prog_7_method_13_code
def yX5_deadUnitsOf : MethodName := ⟨RX5, "deadUnitsOf", "(I)I"⟩
abbrev cX5_deadUnits : ByteArray := prog_7_method_14_code
def yX5_deadUnits : MethodName := ⟨RX5, "deadUnits", "()I"⟩
abbrev cX5_isSeen : ByteArray := prog_7_method_15_code
def yX5_isSeen : MethodName := ⟨RX5, "isSeen", "(ILRowPruner$Slot;)Z"⟩
abbrev cX5_seenPlace : ByteArray := prog_7_method_16_code
def yX5_seenPlace : MethodName := ⟨RX5, "seenPlace", "(II)I"⟩
abbrev cX5_chainFirst : ByteArray := prog_7_method_17_code
def yX5_chainFirst : MethodName := ⟨RX5, "chainFirst", "(I)I"⟩
abbrev cX5_chainNext : ByteArray := prog_7_method_18_code
def yX5_chainNext : MethodName := ⟨RX5, "chainNext", "(I)I"⟩
abbrev cX5_chainLength : ByteArray := prog_7_method_19_code
def yX5_chainLength : MethodName := ⟨RX5, "chainLength", "(I)I"⟩
abbrev cX5_addRow : ByteArray := prog_7_method_20_code
def yX5_addRow : MethodName := ⟨RX5, "addRow", "(IIIII)I"⟩
abbrev cX5_addVersion : ByteArray := prog_7_method_21_code
def yX5_addVersion : MethodName := ⟨RX5, "addVersion", "(IIIIIIZ)V"⟩
abbrev cX5_endVersion : ByteArray := prog_7_method_22_code
def yX5_endVersion : MethodName := ⟨RX5, "endVersion", "(III)V"⟩
abbrev cX5_placeBehind : ByteArray := prog_7_method_23_code
def yX5_placeBehind : MethodName := ⟨RX5, "placeBehind", "(II)I"⟩
abbrev cX5_prunePage : ByteArray := prog_7_method_24_code
def yX5_prunePage : MethodName := ⟨RX5, "prunePage", "(I)I"⟩
abbrev cX5_pruneSlot : ByteArray := prog_7_method_25_code
def yX5_pruneSlot : MethodName := ⟨RX5, "pruneSlot", "(I)I"⟩
abbrev cX5_vacuumAll : ByteArray := prog_7_method_26_code
def yX5_vacuumAll : MethodName := ⟨RX5, "vacuumAll", "()I"⟩
abbrev cX5_clearStubs : ByteArray := prog_7_method_27_code
def yX5_clearStubs : MethodName := ⟨RX5, "clearStubs", "()I"⟩
abbrev cX5_tellPass : ByteArray := prog_7_method_28_code
def yX5_tellPass : MethodName := ⟨RX5, "tellPass", "(I)V"⟩
abbrev cX5_freezeOld : ByteArray := prog_7_method_29_code
def yX5_freezeOld : MethodName := ⟨RX5, "freezeOld", "()V"⟩
abbrev cX5_isClearNow : ByteArray := prog_7_method_30_code
def yX5_isClearNow : MethodName := ⟨RX5, "isClearNow", "(I)Z"⟩
abbrev cX5_isForAll : ByteArray := prog_7_method_31_code
def yX5_isForAll : MethodName := ⟨RX5, "isForAll", "(LRowPruner$Slot;)Z"⟩
abbrev cX5_isUnended : ByteArray := prog_7_method_32_code
def yX5_isUnended : MethodName := ⟨RX5, "isUnended", "(LRowPruner$Slot;)Z"⟩
abbrev cX5_lookFor : ByteArray := prog_7_method_33_code
def yX5_lookFor : MethodName := ⟨RX5, "lookFor", "(II)I"⟩
abbrev cX5_goThrough : ByteArray := prog_7_method_34_code
def yX5_goThrough : MethodName := ⟨RX5, "goThrough", "(III)V"⟩
abbrev cX5_readsFor : ByteArray := prog_7_method_35_code
def yX5_readsFor : MethodName := ⟨RX5, "readsFor", "(I)I"⟩
abbrev cX5_layAnew : ByteArray := prog_7_method_36_code
def yX5_layAnew : MethodName := ⟨RX5, "layAnew", "(LRowPruner$Store;)Z"⟩
abbrev cX5_layDown : ByteArray := prog_7_method_37_code
def yX5_layDown : MethodName := ⟨RX5, "layDown", "(LRowPruner$Slot;I)V"⟩
abbrev cX5_lastingBehind : ByteArray := prog_7_method_38_code
def yX5_lastingBehind : MethodName := ⟨RX5, "lastingBehind", "(II)I"⟩
abbrev cX5_isLasting : ByteArray := prog_7_method_39_code
def yX5_isLasting : MethodName := ⟨RX5, "isLasting", "(LRowPruner$Slot;)Z"⟩
abbrev cX5_isAhead : ByteArray := prog_7_method_40_code
def yX5_isAhead : MethodName := ⟨RX5, "isAhead", "(IILRowPruner$Slot;)Z"⟩
def RX6 : String := "RowPruner$Text"
def TX6 : u_T := fun k => match k with
  | 0 => ("RowPruner$Text", "tape", "[I", true)
  | 1 => ("RowPruner$Text", "taped", "I", false)
  | 2 => ("RowPruner$Text", "length", "I", false)
  | 3 => ("RowPruner$Text", "at", "I", false)
  | 4 => ("RowPruner$Text", "token", "I", false)
  | 5 => ("RowPruner$Text", "tokenPlace", "I", false)
  | 6 => ("RowPruner$Text", "number", "I", false)
  | 7 => ("RowPruner$Text", "word", "I", false)
  | 8 => ("RowPruner$Text", "wordPlace", "I", false)
  | 9 => ("RowPruner$Text", "numbers", "[I", true)
  | 10 => ("RowPruner$Text", "lineOpen", "Z", false)
  | 11 => ("RowPruner$Text", "toldOnce", "I", false)
  | 12 => ("RowPruner$Text", "rowsBegun", "Z", false)
  | 13 => ("RowPruner$Text", "actsBegun", "Z", false)
  | 14 => ("RowPruner$Text", "loaded", "Z", false)
  | 15 => ("RowPruner$Text", "fault", "I", false)
  | _ => ("RowPruner$Text", "faultPlace", "I", false)
def tyX6 : Nat → FieldType := fun k => match k with
  | 0 => .array .int
  | 1 => .int
  | 2 => .int
  | 3 => .int
  | 4 => .int
  | 5 => .int
  | 6 => .int
  | 7 => .int
  | 8 => .int
  | 9 => .array .int
  | 10 => .boolean
  | 11 => .int
  | 12 => .boolean
  | 13 => .boolean
  | 14 => .boolean
  | 15 => .int
  | _ => .int
abbrev wsX60 : List Cond := u_ws RX6 TX6 17
theorem nmX6 : ∀ a, a < 17 → ∀ b, b < 17 → a ≠ b → (TX6 a).2.1 ≠ (TX6 b).2.1 := by decide +kernel
theorem tyX6_ok : ∀ k, k < 17 → parseFieldDescriptor (TX6 k).2.2.1 = some (tyX6 k) := by decide +kernel
abbrev cX6_init : ByteArray := prog_8_method_1_code
def yX6_init : MethodName := ⟨RX6, "<init>", "()V"⟩
abbrev cX6_hasRoomFor : ByteArray := prog_8_method_2_code
def yX6_hasRoomFor : MethodName := ⟨RX6, "hasRoomFor", "(I)Z"⟩
abbrev cX6_takeInt : ByteArray := prog_8_method_3_code
def yX6_takeInt : MethodName := ⟨RX6, "takeInt", "(I)V"⟩
abbrev cX6_open : ByteArray := prog_8_method_4_code
def yX6_open : MethodName := ⟨RX6, "open", "(I)V"⟩
abbrev cX6_blame : ByteArray := prog_8_method_5_code
def yX6_blame : MethodName := ⟨RX6, "blame", "(II)V"⟩
abbrev cX6_told : ByteArray := prog_8_method_6_code
def yX6_told : MethodName := ⟨RX6, "told", "(I)I"⟩
abbrev cX6_readLine : ByteArray := prog_8_method_7_code
def yX6_readLine : MethodName := ⟨RX6, "readLine", "()Z"⟩
abbrev cX6_isTooLate : ByteArray := prog_8_method_8_code
def yX6_isTooLate : MethodName := ⟨RX6, "isTooLate", "()Z"⟩
abbrev cX6_noteWord : ByteArray := prog_8_method_9_code
def yX6_noteWord : MethodName := ⟨RX6, "noteWord", "()V"⟩
abbrev cX6_readNumbers : ByteArray := prog_8_method_10_code
def yX6_readNumbers : MethodName := ⟨RX6, "readNumbers", "()Z"⟩
abbrev cX6_canBe : ByteArray := prog_8_method_11_code
def yX6_canBe : MethodName := ⟨RX6, "canBe", "(I)Z"⟩
abbrev cX6_readKind : ByteArray := prog_8_method_12_code
def yX6_readKind : MethodName := ⟨RX6, "readKind", "(I)Z"⟩
abbrev cX6_isGood : ByteArray := prog_8_method_13_code
def yX6_isGood : MethodName := ⟨RX6, "isGood", "(I)Z"⟩
abbrev cX6_byteAt : ByteArray := prog_8_method_14_code
def yX6_byteAt : MethodName := ⟨RX6, "byteAt", "(I)I"⟩
abbrev cX6_readToken : ByteArray := prog_8_method_15_code
def yX6_readToken : MethodName := ⟨RX6, "readToken", "()V"⟩
abbrev cX6_passAll : ByteArray := prog_8_method_16_code
def yX6_passAll : MethodName := ⟨RX6, "passAll", "(II)V"⟩
abbrev cX6_numberRead : ByteArray := prog_8_method_17_code
def yX6_numberRead : MethodName := ⟨RX6, "numberRead", "()I"⟩
abbrev cX6_wordRead : ByteArray := prog_8_method_18_code
def yX6_wordRead : MethodName := ⟨RX6, "wordRead", "()I"⟩
abbrev cX6_isSpelled : ByteArray := prog_8_method_19_code
def yX6_isSpelled : MethodName := ⟨RX6, "isSpelled", "(Ljava/lang/String;)Z"⟩
abbrev cX6_numbersOf : ByteArray := prog_8_method_20_code
def yX6_numbersOf : MethodName := ⟨RX6, "numbersOf", "(I)I"⟩
abbrev cX6_spelling : ByteArray := prog_8_method_21_code
def yX6_spelling : MethodName := ⟨RX6, "spelling", "(I)Ljava/lang/String;"⟩
def RX7 : String := "RowPruner$Txns"
def TX7 : u_T := fun k => match k with
  | 0 => ("RowPruner$Txns", "states", "[I", true)
  | 1 => ("RowPruner$Txns", "lows", "[I", true)
  | 2 => ("RowPruner$Txns", "waits", "[I", true)
  | 3 => ("RowPruner$Txns", "noted", "[J", true)
  | 4 => ("RowPruner$Txns", "next", "I", false)
  | _ => ("RowPruner$Txns", "horizon", "I", false)
def tyX7 : Nat → FieldType := fun k => match k with
  | 0 => .array .int
  | 1 => .array .int
  | 2 => .array .int
  | 3 => .array .long
  | 4 => .int
  | _ => .int
abbrev wsX70 : List Cond := u_ws RX7 TX7 6
theorem nmX7 : ∀ a, a < 6 → ∀ b, b < 6 → a ≠ b → (TX7 a).2.1 ≠ (TX7 b).2.1 := by decide +kernel
theorem tyX7_ok : ∀ k, k < 6 → parseFieldDescriptor (TX7 k).2.2.1 = some (tyX7 k) := by decide +kernel
abbrev cX7_init : ByteArray := prog_9_method_1_code
def yX7_init : MethodName := ⟨RX7, "<init>", "()V"⟩
abbrev cX7_makeAnew : ByteArray := prog_9_method_2_code
def yX7_makeAnew : MethodName := ⟨RX7, "makeAnew", "()V"⟩
abbrev cX7_copyFrom : ByteArray := prog_9_method_3_code
def yX7_copyFrom : MethodName := ⟨RX7, "copyFrom", "(LRowPruner$Txns;)V"⟩
abbrev cX7_has : ByteArray := prog_9_method_4_code
def yX7_has : MethodName := ⟨RX7, "has", "(I)Z"⟩
abbrev cX7_stateOf : ByteArray := prog_9_method_5_code
def yX7_stateOf : MethodName := ⟨RX7, "stateOf", "(I)I"⟩
abbrev cX7_lowOf : ByteArray := prog_9_method_6_code
def yX7_lowOf : MethodName := ⟨RX7, "lowOf", "(I)I"⟩
abbrev cX7_waitsFor : ByteArray := prog_9_method_7_code
def yX7_waitsFor : MethodName := ⟨RX7, "waitsFor", "(I)I"⟩
abbrev cX7_howManyNoted : ByteArray := prog_9_method_8_code
def yX7_howManyNoted : MethodName := ⟨RX7, "howManyNoted", "(I)I"⟩
abbrev cX7_setNoted : ByteArray := prog_9_method_9_code
def yX7_setNoted : MethodName := ⟨RX7, "setNoted", "(IJ)V"⟩
abbrev cX7_isKnown : ByteArray := prog_9_method_10_code
def yX7_isKnown : MethodName := ⟨RX7, "isKnown", "(II)Z"⟩
abbrev cX7_open : ByteArray := prog_9_method_11_code
def yX7_open : MethodName := ⟨RX7, "open", "()I"⟩
abbrev cX7_end : ByteArray := prog_9_method_12_code
def yX7_end : MethodName := ⟨RX7, "end", "(II)V"⟩
abbrev cX7_endAll : ByteArray := prog_9_method_13_code
def yX7_endAll : MethodName := ⟨RX7, "endAll", "()V"⟩
abbrev cX7_horizonBut : ByteArray := prog_9_method_14_code
def yX7_horizonBut : MethodName := ⟨RX7, "horizonBut", "(I)I"⟩
abbrev cX7_firstAtHorizon : ByteArray := prog_9_method_15_code
def yX7_firstAtHorizon : MethodName := ⟨RX7, "firstAtHorizon", "()I"⟩
abbrev cX7_howManyOpen : ByteArray := prog_9_method_16_code
def yX7_howManyOpen : MethodName := ⟨RX7, "howManyOpen", "()I"⟩
abbrev cX7_howManyWait : ByteArray := prog_9_method_17_code
def yX7_howManyWait : MethodName := ⟨RX7, "howManyWait", "()I"⟩
abbrev cX7_letWait : ByteArray := prog_9_method_18_code
def yX7_letWait : MethodName := ⟨RX7, "letWait", "(II)V"⟩
abbrev cX7_ringLength : ByteArray := prog_9_method_19_code
def yX7_ringLength : MethodName := ⟨RX7, "ringLength", "(II)I"⟩
abbrev cX7_howManyWaitFor : ByteArray := prog_9_method_20_code
def yX7_howManyWaitFor : MethodName := ⟨RX7, "howManyWaitFor", "(I)I"⟩
def RX8 : String := "RowPruner"
def TX8 : u_T := fun k => match k with
  | 0 => ("RowPruner", "text", "LRowPruner$Text;", true)
  | 1 => ("RowPruner", "now", "LRowPruner$Store;", true)
  | 2 => ("RowPruner", "spare", "LRowPruner$Store;", true)
  | 3 => ("RowPruner", "before", "LRowPruner$Store;", true)
  | 4 => ("RowPruner", "marks", "[LRowPruner$Store;", true)
  | 5 => ("RowPruner", "marked", "I", false)
  | _ => ("RowPruner", "status", "I", false)
def tyX8 : Nat → FieldType := fun k => match k with
  | 0 => .object "RowPruner$Text"
  | 1 => .object "RowPruner$Store"
  | 2 => .object "RowPruner$Store"
  | 3 => .object "RowPruner$Store"
  | 4 => .array (.object "RowPruner$Store")
  | 5 => .int
  | _ => .int
abbrev wsX80 : List Cond := u_ws RX8 TX8 7
theorem nmX8 : ∀ a, a < 7 → ∀ b, b < 7 → a ≠ b → (TX8 a).2.1 ≠ (TX8 b).2.1 := by decide +kernel
theorem tyX8_ok : ∀ k, k < 7 → parseFieldDescriptor (TX8 k).2.2.1 = some (tyX8 k) := by decide +kernel
abbrev cX8_init : ByteArray := prog_1_method_1_code
def yX8_init : MethodName := ⟨RX8, "<init>", "()V"⟩
abbrev cX8_status : ByteArray := prog_1_method_2_code
def yX8_status : MethodName := ⟨RX8, "status", "()I"⟩
abbrev cX8_feed : ByteArray := prog_1_method_3_code
def yX8_feed : MethodName := ⟨RX8, "feed", "(IIIII)I"⟩
abbrev cX8_load : ByteArray := prog_1_method_4_code
def yX8_load : MethodName := ⟨RX8, "load", "(I)I"⟩
abbrev cX8_fault : ByteArray := prog_1_method_5_code
def yX8_fault : MethodName := ⟨RX8, "fault", "(I)I"⟩
abbrev cX8_many : ByteArray := prog_1_method_6_code
def yX8_many : MethodName := ⟨RX8, "many", "(I)I"⟩
abbrev cX8_counts : ByteArray := prog_1_method_7_code
def yX8_counts : MethodName := ⟨RX8, "counts", "(I)I"⟩
abbrev cX8_page : ByteArray := prog_1_method_8_code
def yX8_page : MethodName := ⟨RX8, "page", "(II)I"⟩
abbrev cX8_slot : ByteArray := prog_1_method_9_code
def yX8_slot : MethodName := ⟨RX8, "slot", "(III)I"⟩
abbrev cX8_version : ByteArray := prog_1_method_10_code
def yX8_version : MethodName := ⟨RX8, "version", "(III)I"⟩
abbrev cX8_entry : ByteArray := prog_1_method_11_code
def yX8_entry : MethodName := ⟨RX8, "entry", "(II)I"⟩
abbrev cX8_txn : ByteArray := prog_1_method_12_code
def yX8_txn : MethodName := ⟨RX8, "txn", "(II)I"⟩
abbrev cX8_knows : ByteArray := prog_1_method_13_code
def yX8_knows : MethodName := ⟨RX8, "knows", "(II)I"⟩
abbrev cX8_sees : ByteArray := prog_1_method_14_code
def yX8_sees : MethodName := ⟨RX8, "sees", "(III)I"⟩
abbrev cX8_versions : ByteArray := prog_1_method_15_code
def yX8_versions : MethodName := ⟨RX8, "versions", "(I)I"⟩
abbrev cX8_trail : ByteArray := prog_1_method_16_code
def yX8_trail : MethodName := ⟨RX8, "trail", "(III)I"⟩
abbrev cX8_event : ByteArray := prog_1_method_17_code
def yX8_event : MethodName := ⟨RX8, "event", "(II)I"⟩
abbrev cX8_begin : ByteArray := prog_1_method_18_code
def yX8_begin : MethodName := ⟨RX8, "begin", "()I"⟩
abbrev cX8_commit : ByteArray := prog_1_method_19_code
def yX8_commit : MethodName := ⟨RX8, "commit", "(I)I"⟩
abbrev cX8_abort : ByteArray := prog_1_method_20_code
def yX8_abort : MethodName := ⟨RX8, "abort", "(I)I"⟩
abbrev cX8_insert : ByteArray := prog_1_method_21_code
def yX8_insert : MethodName := ⟨RX8, "insert", "(IIII)I"⟩
abbrev cX8_update : ByteArray := prog_1_method_22_code
def yX8_update : MethodName := ⟨RX8, "update", "(IIIII)I"⟩
abbrev cX8_delete : ByteArray := prog_1_method_23_code
def yX8_delete : MethodName := ⟨RX8, "delete", "(II)I"⟩
abbrev cX8_await : ByteArray := prog_1_method_24_code
def yX8_await : MethodName := ⟨RX8, "await", "(II)I"⟩
abbrev cX8_prune : ByteArray := prog_1_method_25_code
def yX8_prune : MethodName := ⟨RX8, "prune", "(I)I"⟩
abbrev cX8_vacuum : ByteArray := prog_1_method_26_code
def yX8_vacuum : MethodName := ⟨RX8, "vacuum", "()I"⟩
abbrev cX8_look : ByteArray := prog_1_method_27_code
def yX8_look : MethodName := ⟨RX8, "look", "(II)I"⟩
abbrev cX8_found : ByteArray := prog_1_method_28_code
def yX8_found : MethodName := ⟨RX8, "found", "(II)I"⟩
abbrev cX8_repack : ByteArray := prog_1_method_29_code
def yX8_repack : MethodName := ⟨RX8, "repack", "()I"⟩
abbrev cX8_set : ByteArray := prog_1_method_30_code
def yX8_set : MethodName := ⟨RX8, "set", "(II)I"⟩
abbrev cX8_mark : ByteArray := prog_1_method_31_code
def yX8_mark : MethodName := ⟨RX8, "mark", "()I"⟩
abbrev cX8_back : ByteArray := prog_1_method_32_code
def yX8_back : MethodName := ⟨RX8, "back", "()I"⟩
abbrev cX8_without : ByteArray := prog_1_method_33_code
def yX8_without : MethodName := ⟨RX8, "without", "(I)I"⟩
abbrev cX8_ring : ByteArray := prog_1_method_34_code
def yX8_ring : MethodName := ⟨RX8, "ring", "(II)I"⟩
abbrev cX8_blocks : ByteArray := prog_1_method_35_code
def yX8_blocks : MethodName := ⟨RX8, "blocks", "(I)I"⟩
abbrev cX8_holder : ByteArray := prog_1_method_36_code
def yX8_holder : MethodName := ⟨RX8, "holder", "()I"⟩
abbrev cX8_holds : ByteArray := prog_1_method_37_code
def yX8_holds : MethodName := ⟨RX8, "holds", "(I)I"⟩
abbrev cX8_gains : ByteArray := prog_1_method_38_code
def yX8_gains : MethodName := ⟨RX8, "gains", "(I)I"⟩
abbrev cX8_best : ByteArray := prog_1_method_39_code
def yX8_best : MethodName := ⟨RX8, "best", "()I"⟩
abbrev cX8_reads : ByteArray := prog_1_method_40_code
def yX8_reads : MethodName := ⟨RX8, "reads", "(II)I"⟩
abbrev cX8_most : ByteArray := prog_1_method_41_code
def yX8_most : MethodName := ⟨RX8, "most", "(I)I"⟩
abbrev cX8_answer : ByteArray := prog_1_method_42_code
def yX8_answer : MethodName := ⟨RX8, "answer", "(I)I"⟩
abbrev cX8_refuse : ByteArray := prog_1_method_43_code
def yX8_refuse : MethodName := ⟨RX8, "refuse", "(I)I"⟩
abbrev cX8_asOpen : ByteArray := prog_1_method_44_code
def yX8_asOpen : MethodName := ⟨RX8, "asOpen", "(I)I"⟩
abbrev cX8_asFree : ByteArray := prog_1_method_45_code
def yX8_asFree : MethodName := ⟨RX8, "asFree", "(I)I"⟩
abbrev cX8_asReader : ByteArray := prog_1_method_46_code
def yX8_asReader : MethodName := ⟨RX8, "asReader", "(II)I"⟩
abbrev cX8_asChanger : ByteArray := prog_1_method_47_code
def yX8_asChanger : MethodName := ⟨RX8, "asChanger", "(II)I"⟩
abbrev cX8_openEnder : ByteArray := prog_1_method_48_code
def yX8_openEnder : MethodName := ⟨RX8, "openEnder", "(II)I"⟩
abbrev cX8_countGained : ByteArray := prog_1_method_49_code
def yX8_countGained : MethodName := ⟨RX8, "countGained", "(I)I"⟩
abbrev cX8_perform : ByteArray := prog_1_method_50_code
def yX8_perform : MethodName := ⟨RX8, "perform", "()V"⟩
abbrev cX8_addFirstRow : ByteArray := prog_1_method_51_code
def yX8_addFirstRow : MethodName := ⟨RX8, "addFirstRow", "(III)V"⟩
abbrev cX8_isWithin : ByteArray := prog_1_method_52_code
def yX8_isWithin : MethodName := ⟨RX8, "isWithin", "(III)Z"⟩
abbrev cX8_isPage : ByteArray := prog_1_method_53_code
def yX8_isPage : MethodName := ⟨RX8, "isPage", "(I)Z"⟩
abbrev cX8_isVersion : ByteArray := prog_1_method_54_code
def yX8_isVersion : MethodName := ⟨RX8, "isVersion", "(III)Z"⟩
abbrev cX8_pageOf : ByteArray := prog_1_method_55_code
def yX8_pageOf : MethodName := ⟨RX8, "pageOf", "(I)I"⟩
abbrev cX8_slotOf : ByteArray := prog_1_method_56_code
def yX8_slotOf : MethodName := ⟨RX8, "slotOf", "(I)I"⟩
abbrev cX8_pick : ByteArray := prog_1_method_57_code
def yX8_pick : MethodName := ⟨RX8, "pick", "([II)I"⟩
abbrev cX8_put : ByteArray := prog_1_method_58_code
def yX8_put : MethodName := ⟨RX8, "put", "([III)V"⟩
abbrev cX8_copy : ByteArray := prog_1_method_59_code
def yX8_copy : MethodName := ⟨RX8, "copy", "([I[I)V"⟩
def RX9 : String := "RowPrunerModel"
def TX9 : u_T := fun k => match k with
  | 0 => ("RowPrunerModel", "c", "[I", true)
  | 1 => ("RowPrunerModel", "aside", "[I", true)
  | 2 => ("RowPrunerModel", "paper", "[I", true)
  | 3 => ("RowPrunerModel", "whole", "[I", true)
  | 4 => ("RowPrunerModel", "marks", "[I", true)
  | 5 => ("RowPrunerModel", "markMany", "I", false)
  | 6 => ("RowPrunerModel", "status", "I", false)
  | 7 => ("RowPrunerModel", "thrown", "I", false)
  | 8 => ("RowPrunerModel", "stubs", "[I", true)
  | 9 => ("RowPrunerModel", "stubMany", "I", false)
  | 10 => ("RowPrunerModel", "stays", "[I", true)
  | 11 => ("RowPrunerModel", "tape", "[B", true)
  | 12 => ("RowPrunerModel", "taped", "I", false)
  | 13 => ("RowPrunerModel", "faultKind", "I", false)
  | 14 => ("RowPrunerModel", "faultAt", "I", false)
  | 15 => ("RowPrunerModel", "wrong", "I", false)
  | 16 => ("RowPrunerModel", "wrongAt", "I", false)
  | 17 => ("RowPrunerModel", "at", "I", false)
  | 18 => ("RowPrunerModel", "next", "I", false)
  | 19 => ("RowPrunerModel", "sort", "I", false)
  | 20 => ("RowPrunerModel", "number", "I", false)
  | 21 => ("RowPrunerModel", "end", "I", false)
  | 22 => ("RowPrunerModel", "word", "J", false)
  | 23 => ("RowPrunerModel", "words", "[J", true)
  | 24 => ("RowPrunerModel", "takes", "[I", true)
  | 25 => ("RowPrunerModel", "told", "[I", true)
  | 26 => ("RowPrunerModel", "toldOnce", "I", false)
  | 27 => ("RowPrunerModel", "hasRow", "Z", false)
  | _ => ("RowPrunerModel", "hasAct", "Z", false)
def tyX9 : Nat → FieldType := fun k => match k with
  | 0 => .array .int
  | 1 => .array .int
  | 2 => .array .int
  | 3 => .array .int
  | 4 => .array .int
  | 5 => .int
  | 6 => .int
  | 7 => .int
  | 8 => .array .int
  | 9 => .int
  | 10 => .array .int
  | 11 => .array .byte
  | 12 => .int
  | 13 => .int
  | 14 => .int
  | 15 => .int
  | 16 => .int
  | 17 => .int
  | 18 => .int
  | 19 => .int
  | 20 => .int
  | 21 => .int
  | 22 => .long
  | 23 => .array .long
  | 24 => .array .int
  | 25 => .array .int
  | 26 => .int
  | 27 => .boolean
  | _ => .boolean
abbrev wsX90 : List Cond := u_ws RX9 TX9 29
theorem nmX9 : ∀ a, a < 29 → ∀ b, b < 29 → a ≠ b → (TX9 a).2.1 ≠ (TX9 b).2.1 := by decide +kernel
theorem tyX9_ok : ∀ k, k < 29 → parseFieldDescriptor (TX9 k).2.2.1 = some (tyX9 k) := by decide +kernel
abbrev cX9_init : ByteArray := prog_11_method_1_code
def yX9_init : MethodName := ⟨RX9, "<init>", "()V"⟩
abbrev cX9_status : ByteArray := prog_11_method_3_code
def yX9_status : MethodName := ⟨RX9, "status", "()I"⟩
abbrev cX9_refuse : ByteArray := prog_11_method_4_code
def yX9_refuse : MethodName := ⟨RX9, "refuse", "(I)I"⟩
abbrev cX9_is : ByteArray := prog_11_method_5_code
def yX9_is : MethodName := ⟨RX9, "is", "(I)Z"⟩
abbrev cX9_isIn : ByteArray := prog_11_method_6_code
def yX9_isIn : MethodName := ⟨RX9, "isIn", "(III)Z"⟩
abbrev cX9_clears : ByteArray := prog_11_method_7_code
def yX9_clears : MethodName := ⟨RX9, "clears", "()V"⟩
abbrev cX9_copy : ByteArray := prog_11_method_8_code
def yX9_copy : MethodName := ⟨RX9, "copy", "([I[I)V"⟩
abbrev cX9_of : ByteArray := prog_11_method_9_code
def yX9_of : MethodName := ⟨RX9, "of", "(II)I"⟩
abbrev cX9_sets : ByteArray := prog_11_method_10_code
def yX9_sets : MethodName := ⟨RX9, "sets", "(III)V"⟩
abbrev cX9_isFull : ByteArray := prog_11_method_11_code
def yX9_isFull : MethodName := ⟨RX9, "isFull", "(I)Z"⟩
abbrev cX9_isSlot : ByteArray := prog_11_method_12_code
def yX9_isSlot : MethodName := ⟨RX9, "isSlot", "(I)Z"⟩
abbrev cX9_isVersion : ByteArray := prog_11_method_13_code
def yX9_isVersion : MethodName := ⟨RX9, "isVersion", "(I)Z"⟩
abbrev cX9_freeIn : ByteArray := prog_11_method_14_code
def yX9_freeIn : MethodName := ⟨RX9, "freeIn", "(I)I"⟩
abbrev cX9_placeIn : ByteArray := prog_11_method_15_code
def yX9_placeIn : MethodName := ⟨RX9, "placeIn", "(II)I"⟩
abbrev cX9_firstPlace : ByteArray := prog_11_method_16_code
def yX9_firstPlace : MethodName := ⟨RX9, "firstPlace", "(I)I"⟩
abbrev cX9_fills : ByteArray := prog_11_method_17_code
def yX9_fills : MethodName := ⟨RX9, "fills", "(IIIIIIZ)V"⟩
abbrev cX9_stateOf : ByteArray := prog_11_method_18_code
def yX9_stateOf : MethodName := ⟨RX9, "stateOf", "(I)I"⟩
abbrev cX9_isOpen : ByteArray := prog_11_method_19_code
def yX9_isOpen : MethodName := ⟨RX9, "isOpen", "(I)Z"⟩
abbrev cX9_isTxn : ByteArray := prog_11_method_20_code
def yX9_isTxn : MethodName := ⟨RX9, "isTxn", "(I)Z"⟩
abbrev cX9_noted : ByteArray := prog_11_method_21_code
def yX9_noted : MethodName := ⟨RX9, "noted", "(II)Z"⟩
abbrev cX9_isKnown : ByteArray := prog_11_method_22_code
def yX9_isKnown : MethodName := ⟨RX9, "isKnown", "(II)Z"⟩
abbrev cX9_isWaiting : ByteArray := prog_11_method_23_code
def yX9_isWaiting : MethodName := ⟨RX9, "isWaiting", "(I)Z"⟩
abbrev cX9_isSeen : ByteArray := prog_11_method_24_code
def yX9_isSeen : MethodName := ⟨RX9, "isSeen", "(II)Z"⟩
abbrev cX9_lowOf : ByteArray := prog_11_method_25_code
def yX9_lowOf : MethodName := ⟨RX9, "lowOf", "(I)I"⟩
abbrev cX9_horizonBut : ByteArray := prog_11_method_26_code
def yX9_horizonBut : MethodName := ⟨RX9, "horizonBut", "(I)I"⟩
abbrev cX9_horizon : ByteArray := prog_11_method_27_code
def yX9_horizon : MethodName := ⟨RX9, "horizon", "()I"⟩
abbrev cX9_enderOf : ByteArray := prog_11_method_28_code
def yX9_enderOf : MethodName := ⟨RX9, "enderOf", "(I)I"⟩
abbrev cX9_isDead : ByteArray := prog_11_method_29_code
def yX9_isDead : MethodName := ⟨RX9, "isDead", "(II)Z"⟩
abbrev cX9_isDying : ByteArray := prog_11_method_30_code
def yX9_isDying : MethodName := ⟨RX9, "isDying", "(I)Z"⟩
abbrev cX9_chainOf : ByteArray := prog_11_method_31_code
def yX9_chainOf : MethodName := ⟨RX9, "chainOf", "(I)I"⟩
abbrev cX9_chainNext : ByteArray := prog_11_method_32_code
def yX9_chainNext : MethodName := ⟨RX9, "chainNext", "(I)I"⟩
abbrev cX9_chainMany : ByteArray := prog_11_method_33_code
def yX9_chainMany : MethodName := ⟨RX9, "chainMany", "(I)I"⟩
abbrev cX9_tellsOf : ByteArray := prog_11_method_34_code
def yX9_tellsOf : MethodName := ⟨RX9, "tellsOf", "(II)V"⟩
abbrev cX9_goes : ByteArray := prog_11_method_35_code
def yX9_goes : MethodName := ⟨RX9, "goes", "(I)V"⟩
abbrev cX9_cuts : ByteArray := prog_11_method_36_code
def yX9_cuts : MethodName := ⟨RX9, "cuts", "(II)I"⟩
abbrev cX9_prunes : ByteArray := prog_11_method_37_code
def yX9_prunes : MethodName := ⟨RX9, "prunes", "(I)I"⟩
abbrev cX9_entryOf : ByteArray := prog_11_method_38_code
def yX9_entryOf : MethodName := ⟨RX9, "entryOf", "(II)I"⟩
abbrev cX9_leadsTo : ByteArray := prog_11_method_39_code
def yX9_leadsTo : MethodName := ⟨RX9, "leadsTo", "(I)I"⟩
abbrev cX9_enters : ByteArray := prog_11_method_40_code
def yX9_enters : MethodName := ⟨RX9, "enters", "(II)V"⟩
abbrev cX9_entriesTo : ByteArray := prog_11_method_41_code
def yX9_entriesTo : MethodName := ⟨RX9, "entriesTo", "(I)I"⟩
abbrev cX9_takesOut : ByteArray := prog_11_method_42_code
def yX9_takesOut : MethodName := ⟨RX9, "takesOut", "(II)I"⟩
abbrev cX9_passes : ByteArray := prog_11_method_43_code
def yX9_passes : MethodName := ⟨RX9, "passes", "()V"⟩
abbrev cX9_freezes : ByteArray := prog_11_method_44_code
def yX9_freezes : MethodName := ⟨RX9, "freezes", "(I)V"⟩
abbrev cX9_isClear : ByteArray := prog_11_method_45_code
def yX9_isClear : MethodName := ⟨RX9, "isClear", "(II)Z"⟩
abbrev cX9_vacuums : ByteArray := prog_11_method_46_code
def yX9_vacuums : MethodName := ⟨RX9, "vacuums", "()I"⟩
abbrev cX9_seenOf : ByteArray := prog_11_method_47_code
def yX9_seenOf : MethodName := ⟨RX9, "seenOf", "(II)I"⟩
abbrev cX9_inserts : ByteArray := prog_11_method_48_code
def yX9_inserts : MethodName := ⟨RX9, "inserts", "(IIII)I"⟩
abbrev cX9_endsAt : ByteArray := prog_11_method_49_code
def yX9_endsAt : MethodName := ⟨RX9, "endsAt", "(IIII)V"⟩
abbrev cX9_noTouch : ByteArray := prog_11_method_50_code
def yX9_noTouch : MethodName := ⟨RX9, "noTouch", "(II)I"⟩
abbrev cX9_isValue : ByteArray := prog_11_method_51_code
def yX9_isValue : MethodName := ⟨RX9, "isValue", "(III)Z"⟩
abbrev cX9_insertNow : ByteArray := prog_11_method_52_code
def yX9_insertNow : MethodName := ⟨RX9, "insertNow", "(IIII)I"⟩
abbrev cX9_isRow : ByteArray := prog_11_method_53_code
def yX9_isRow : MethodName := ⟨RX9, "isRow", "(I)Z"⟩
abbrev cX9_touched : ByteArray := prog_11_method_54_code
def yX9_touched : MethodName := ⟨RX9, "touched", "(II)I"⟩
abbrev cX9_updateNow : ByteArray := prog_11_method_55_code
def yX9_updateNow : MethodName := ⟨RX9, "updateNow", "(IIIII)I"⟩
abbrev cX9_versionsOf : ByteArray := prog_11_method_56_code
def yX9_versionsOf : MethodName := ⟨RX9, "versionsOf", "(I)I"⟩
abbrev cX9_deleteNow : ByteArray := prog_11_method_57_code
def yX9_deleteNow : MethodName := ⟨RX9, "deleteNow", "(II)I"⟩
abbrev cX9_beginNow : ByteArray := prog_11_method_58_code
def yX9_beginNow : MethodName := ⟨RX9, "beginNow", "()I"⟩
abbrev cX9_closeNow : ByteArray := prog_11_method_59_code
def yX9_closeNow : MethodName := ⟨RX9, "closeNow", "(II)I"⟩
abbrev cX9_pruneNow : ByteArray := prog_11_method_60_code
def yX9_pruneNow : MethodName := ⟨RX9, "pruneNow", "(I)I"⟩
abbrev cX9_lookNow : ByteArray := prog_11_method_61_code
def yX9_lookNow : MethodName := ⟨RX9, "lookNow", "(II)I"⟩
abbrev cX9_looks : ByteArray := prog_11_method_62_code
def yX9_looks : MethodName := ⟨RX9, "looks", "(II)I"⟩
abbrev cX9_looksAt : ByteArray := prog_11_method_63_code
def yX9_looksAt : MethodName := ⟨RX9, "looksAt", "(IIII)V"⟩
abbrev cX9_finds : ByteArray := prog_11_method_64_code
def yX9_finds : MethodName := ⟨RX9, "finds", "(II)V"⟩
abbrev cX9_isAnyOpen : ByteArray := prog_11_method_65_code
def yX9_isAnyOpen : MethodName := ⟨RX9, "isAnyOpen", "()Z"⟩
abbrev cX9_lives : ByteArray := prog_11_method_66_code
def yX9_lives : MethodName := ⟨RX9, "lives", "(I)Z"⟩
abbrev cX9_oldOf : ByteArray := prog_11_method_67_code
def yX9_oldOf : MethodName := ⟨RX9, "oldOf", "(II)I"⟩
abbrev cX9_isAhead : ByteArray := prog_11_method_68_code
def yX9_isAhead : MethodName := ⟨RX9, "isAhead", "(II)Z"⟩
abbrev cX9_staying : ByteArray := prog_11_method_69_code
def yX9_staying : MethodName := ⟨RX9, "staying", "()I"⟩
abbrev cX9_repackNow : ByteArray := prog_11_method_70_code
def yX9_repackNow : MethodName := ⟨RX9, "repackNow", "()I"⟩
abbrev cX9_lays : ByteArray := prog_11_method_71_code
def yX9_lays : MethodName := ⟨RX9, "lays", "(I)V"⟩
abbrev cX9_feed : ByteArray := prog_11_method_72_code
def yX9_feed : MethodName := ⟨RX9, "feed", "(IIIII)I"⟩
abbrev cX9_isOf : ByteArray := prog_11_method_73_code
def yX9_isOf : MethodName := ⟨RX9, "isOf", "(III)Z"⟩
abbrev cX9_reads : ByteArray := prog_11_method_74_code
def yX9_reads : MethodName := ⟨RX9, "reads", "()V"⟩
abbrev cX9_must : ByteArray := prog_11_method_75_code
def yX9_must : MethodName := ⟨RX9, "must", "(ZII)V"⟩
abbrev cX9_key : ByteArray := prog_11_method_76_code
def yX9_key : MethodName := ⟨RX9, "key", "()I"⟩
abbrev cX9_takesNumbers : ByteArray := prog_11_method_77_code
def yX9_takesNumbers : MethodName := ⟨RX9, "takesNumbers", "(I)V"⟩
abbrev cX9_doesAct : ByteArray := prog_11_method_78_code
def yX9_doesAct : MethodName := ⟨RX9, "doesAct", "(I)I"⟩
abbrev cX9_readsLine : ByteArray := prog_11_method_79_code
def yX9_readsLine : MethodName := ⟨RX9, "readsLine", "()V"⟩
abbrev cX9_load : ByteArray := prog_11_method_80_code
def yX9_load : MethodName := ⟨RX9, "load", "(I)I"⟩
abbrev cX9_fault : ByteArray := prog_11_method_81_code
def yX9_fault : MethodName := ⟨RX9, "fault", "(I)I"⟩
abbrev cX9_manyOf : ByteArray := prog_11_method_82_code
def yX9_manyOf : MethodName := ⟨RX9, "manyOf", "(I)I"⟩
abbrev cX9_waitMany : ByteArray := prog_11_method_83_code
def yX9_waitMany : MethodName := ⟨RX9, "waitMany", "()I"⟩
abbrev cX9_openMany : ByteArray := prog_11_method_84_code
def yX9_openMany : MethodName := ⟨RX9, "openMany", "()I"⟩
abbrev cX9_many : ByteArray := prog_11_method_85_code
def yX9_many : MethodName := ⟨RX9, "many", "(I)I"⟩
abbrev cX9_counts : ByteArray := prog_11_method_86_code
def yX9_counts : MethodName := ⟨RX9, "counts", "(I)I"⟩
abbrev cX9_isPage : ByteArray := prog_11_method_87_code
def yX9_isPage : MethodName := ⟨RX9, "isPage", "(I)Z"⟩
abbrev cX9_deadUnits : ByteArray := prog_11_method_88_code
def yX9_deadUnits : MethodName := ⟨RX9, "deadUnits", "(III)I"⟩
abbrev cX9_unusedIn : ByteArray := prog_11_method_89_code
def yX9_unusedIn : MethodName := ⟨RX9, "unusedIn", "(I)I"⟩
abbrev cX9_page : ByteArray := prog_11_method_90_code
def yX9_page : MethodName := ⟨RX9, "page", "(II)I"⟩
abbrev cX9_asksSlot : ByteArray := prog_11_method_91_code
def yX9_asksSlot : MethodName := ⟨RX9, "asksSlot", "(ZII)Z"⟩
abbrev cX9_slot : ByteArray := prog_11_method_92_code
def yX9_slot : MethodName := ⟨RX9, "slot", "(III)I"⟩
abbrev cX9_version : ByteArray := prog_11_method_93_code
def yX9_version : MethodName := ⟨RX9, "version", "(III)I"⟩
abbrev cX9_entry : ByteArray := prog_11_method_94_code
def yX9_entry : MethodName := ⟨RX9, "entry", "(II)I"⟩
abbrev cX9_notedMany : ByteArray := prog_11_method_95_code
def yX9_notedMany : MethodName := ⟨RX9, "notedMany", "(I)I"⟩
abbrev cX9_txn : ByteArray := prog_11_method_96_code
def yX9_txn : MethodName := ⟨RX9, "txn", "(II)I"⟩
abbrev cX9_knows : ByteArray := prog_11_method_97_code
def yX9_knows : MethodName := ⟨RX9, "knows", "(II)I"⟩
abbrev cX9_sees : ByteArray := prog_11_method_98_code
def yX9_sees : MethodName := ⟨RX9, "sees", "(III)I"⟩
abbrev cX9_versions : ByteArray := prog_11_method_99_code
def yX9_versions : MethodName := ⟨RX9, "versions", "(I)I"⟩
abbrev cX9_madeAs : ByteArray := prog_11_method_100_code
def yX9_madeAs : MethodName := ⟨RX9, "madeAs", "(II)I"⟩
abbrev cX9_trail : ByteArray := prog_11_method_101_code
def yX9_trail : MethodName := ⟨RX9, "trail", "(III)I"⟩
abbrev cX9_event : ByteArray := prog_11_method_102_code
def yX9_event : MethodName := ⟨RX9, "event", "(II)I"⟩
abbrev cX9_begin : ByteArray := prog_11_method_103_code
def yX9_begin : MethodName := ⟨RX9, "begin", "()I"⟩
abbrev cX9_commit : ByteArray := prog_11_method_104_code
def yX9_commit : MethodName := ⟨RX9, "commit", "(I)I"⟩
abbrev cX9_abort : ByteArray := prog_11_method_105_code
def yX9_abort : MethodName := ⟨RX9, "abort", "(I)I"⟩
abbrev cX9_insert : ByteArray := prog_11_method_106_code
def yX9_insert : MethodName := ⟨RX9, "insert", "(IIII)I"⟩
abbrev cX9_update : ByteArray := prog_11_method_107_code
def yX9_update : MethodName := ⟨RX9, "update", "(IIIII)I"⟩
abbrev cX9_delete : ByteArray := prog_11_method_108_code
def yX9_delete : MethodName := ⟨RX9, "delete", "(II)I"⟩
abbrev cX9_prune : ByteArray := prog_11_method_109_code
def yX9_prune : MethodName := ⟨RX9, "prune", "(I)I"⟩
abbrev cX9_vacuum : ByteArray := prog_11_method_110_code
def yX9_vacuum : MethodName := ⟨RX9, "vacuum", "()I"⟩
abbrev cX9_look : ByteArray := prog_11_method_111_code
def yX9_look : MethodName := ⟨RX9, "look", "(II)I"⟩
abbrev cX9_found : ByteArray := prog_11_method_112_code
def yX9_found : MethodName := ⟨RX9, "found", "(II)I"⟩
abbrev cX9_repack : ByteArray := prog_11_method_113_code
def yX9_repack : MethodName := ⟨RX9, "repack", "()I"⟩
abbrev cX9_set : ByteArray := prog_11_method_114_code
def yX9_set : MethodName := ⟨RX9, "set", "(II)I"⟩
abbrev cX9_mark : ByteArray := prog_11_method_115_code
def yX9_mark : MethodName := ⟨RX9, "mark", "()I"⟩
abbrev cX9_back : ByteArray := prog_11_method_116_code
def yX9_back : MethodName := ⟨RX9, "back", "()I"⟩
abbrev cX9_asksOpen : ByteArray := prog_11_method_117_code
def yX9_asksOpen : MethodName := ⟨RX9, "asksOpen", "(I)Z"⟩
abbrev cX9_without : ByteArray := prog_11_method_118_code
def yX9_without : MethodName := ⟨RX9, "without", "(I)I"⟩
abbrev cX9_enderFor : ByteArray := prog_11_method_119_code
def yX9_enderFor : MethodName := ⟨RX9, "enderFor", "(II)I"⟩
abbrev cX9_ringOf : ByteArray := prog_11_method_120_code
def yX9_ringOf : MethodName := ⟨RX9, "ringOf", "(II)I"⟩
abbrev cX9_await : ByteArray := prog_11_method_121_code
def yX9_await : MethodName := ⟨RX9, "await", "(II)I"⟩
abbrev cX9_ring : ByteArray := prog_11_method_122_code
def yX9_ring : MethodName := ⟨RX9, "ring", "(II)I"⟩
abbrev cX9_blocks : ByteArray := prog_11_method_123_code
def yX9_blocks : MethodName := ⟨RX9, "blocks", "(I)I"⟩
abbrev cX9_holder : ByteArray := prog_11_method_124_code
def yX9_holder : MethodName := ⟨RX9, "holder", "()I"⟩
abbrev cX9_allDead : ByteArray := prog_11_method_125_code
def yX9_allDead : MethodName := ⟨RX9, "allDead", "()I"⟩
abbrev cX9_holds : ByteArray := prog_11_method_126_code
def yX9_holds : MethodName := ⟨RX9, "holds", "(I)I"⟩
abbrev cX9_allFree : ByteArray := prog_11_method_127_code
def yX9_allFree : MethodName := ⟨RX9, "allFree", "()I"⟩
abbrev cX9_gains : ByteArray := prog_11_method_128_code
def yX9_gains : MethodName := ⟨RX9, "gains", "(I)I"⟩
abbrev cX9_best : ByteArray := prog_11_method_129_code
def yX9_best : MethodName := ⟨RX9, "best", "()I"⟩
abbrev cX9_reads_ : ByteArray := prog_11_method_130_code
def yX9_reads_ : MethodName := ⟨RX9, "reads", "(II)I"⟩
abbrev cX9_most : ByteArray := prog_11_method_131_code
def yX9_most : MethodName := ⟨RX9, "most", "(I)I"⟩
def RJ13 : String := "java/lang/Long"
abbrev cJ13_bitCount_95d88 : ByteArray := prog_12_method_50_code
def yJ13_bitCount_95d88 : MethodName := ⟨RJ13, "bitCount", "(J)I"⟩
def RJ9 : String := "java/lang/Math"
abbrev cJ9_min_7cf53 : ByteArray := prog_13_method_69_code
def yJ9_min_7cf53 : MethodName := ⟨RJ9, "min", "(II)I"⟩
def RJ0 : String := "java/lang/String"
abbrev cJ0_length_8abf5 : ByteArray := prog_14_method_54_code
def yJ0_length_8abf5 : MethodName := ⟨RJ0, "length", "()I"⟩
abbrev cJ0_charAt_5068e : ByteArray := prog_14_method_56_code
def yJ0_charAt_5068e : MethodName := ⟨RJ0, "charAt", "(I)C"⟩
abbrev cJ0_coder_7d493 : ByteArray := prog_14_method_152_code
def yJ0_coder_7d493 : MethodName := ⟨RJ0, "coder", "()B"⟩
abbrev cJ0_isLatin1_aae02 : ByteArray := prog_14_method_154_code
def yJ0_isLatin1_aae02 : MethodName := ⟨RJ0, "isLatin1", "()Z"⟩
abbrev cJ0_checkIndex_df160 : ByteArray := prog_14_method_155_code
def yJ0_checkIndex_df160 : MethodName := ⟨RJ0, "checkIndex", "(II)V"⟩
def RJ1 : String := "java/lang/StringLatin1"
abbrev cJ1_charAt_3b067 : ByteArray := prog_15_method_2_code
def yJ1_charAt_3b067 : MethodName := ⟨RJ1, "charAt", "([BI)C"⟩
def RJ2 : String := "java/lang/StringUTF16"
abbrev cJ2_getChar_3b067 : ByteArray := prog_16_method_5_code
def yJ2_getChar_3b067 : MethodName := ⟨RJ2, "getChar", "([BI)C"⟩
abbrev cJ2_length_9d52b : ByteArray := prog_16_method_6_code
def yJ2_length_9d52b : MethodName := ⟨RJ2, "length", "([B)I"⟩
abbrev cJ2_charAt_3b067 : ByteArray := prog_16_method_83_code
def yJ2_charAt_3b067 : MethodName := ⟨RJ2, "charAt", "([BI)C"⟩
abbrev cJ2_checkIndex_2214a : ByteArray := prog_16_method_91_code
def yJ2_checkIndex_2214a : MethodName := ⟨RJ2, "checkIndex", "(I[B)V"⟩
def RJ10 : String := "java/lang/System"
def RJ3 : String := "jdk/internal/util/Preconditions"
abbrev cJ3_checkIndex_8e157 : ByteArray := prog_18_method_11_code
def yJ3_checkIndex_8e157 : MethodName := ⟨RJ3, "checkIndex", "(IILjava/util/function/BiFunction;)I"⟩
abbrev vwCl : List vw_C := [(RX0, TX0, 5), (RX1, TX1, 4), (RX2, TX2, 4), (RX3, TX3, 5), (RX4, TX4, 12), (RX5, TX5, 9), (RX6, TX6, 17), (RX7, TX7, 6), (RX8, TX8, 7), (RX9, TX9, 29)]
