section
-- ===== PART A: goes FIRST, ahead of the names: the tables' words, and 'selects' of the private methods out of them =====
/-- a private method of a class that the tables say can be made, by its rows of tables_1 -/
def lw_okq (q : MethodName × Nat) : Prop := (q.1.cls ≠ "java/lang/invoke/MethodHandle" ∧ q.1.cls ≠ "java/lang/invoke/VarHandle") ∧ Cond.instantiable q.1.cls q.2 ∈ tables_1 ∧ Cond.privateMethod q.1 ∈ tables_1 ∧ Cond.instanceMethod q.1 ∈ tables_1
theorem lw_p0 : lw_okq (⟨"EarTrumpets", "found", "(I)I"⟩, 9) := ⟨⟨by decide +kernel, by decide +kernel⟩, List.mem_of_getElem? (i := 14) (by decide +kernel), List.mem_of_getElem? (i := 175) (by decide +kernel), List.mem_of_getElem? (i := 176) (by decide +kernel)⟩
theorem lw_p1 : lw_okq (⟨"EarTrumpets", "unfound", "(I)I"⟩, 9) := ⟨⟨by decide +kernel, by decide +kernel⟩, List.mem_of_getElem? (i := 14) (by decide +kernel), List.mem_of_getElem? (i := 184) (by decide +kernel), List.mem_of_getElem? (i := 185) (by decide +kernel)⟩
theorem lw_p2 : lw_okq (⟨"EarTrumpets$Tape", "readLaw", "(LEarTrumpets$Net;)Z"⟩, 5) := ⟨⟨by decide +kernel, by decide +kernel⟩, List.mem_of_getElem? (i := 43) (by decide +kernel), List.mem_of_getElem? (i := 240) (by decide +kernel), List.mem_of_getElem? (i := 241) (by decide +kernel)⟩
theorem lw_p3 : lw_okq (⟨"EarTrumpets$Tape", "passes", "(I)Z"⟩, 5) := ⟨⟨by decide +kernel, by decide +kernel⟩, List.mem_of_getElem? (i := 43) (by decide +kernel), List.mem_of_getElem? (i := 244) (by decide +kernel), List.mem_of_getElem? (i := 245) (by decide +kernel)⟩
theorem lw_p4 : lw_okq (⟨"EarTrumpets$Tape", "refuse", "(II)Z"⟩, 5) := ⟨⟨by decide +kernel, by decide +kernel⟩, List.mem_of_getElem? (i := 43) (by decide +kernel), List.mem_of_getElem? (i := 248) (by decide +kernel), List.mem_of_getElem? (i := 249) (by decide +kernel)⟩
theorem lw_p5 : lw_okq (⟨"EarTrumpets$Tape", "number", "(III)I"⟩, 5) := ⟨⟨by decide +kernel, by decide +kernel⟩, List.mem_of_getElem? (i := 43) (by decide +kernel), List.mem_of_getElem? (i := 252) (by decide +kernel), List.mem_of_getElem? (i := 253) (by decide +kernel)⟩
theorem lw_p6 : lw_okq (⟨"EarTrumpets$Tape", "readPipe", "(LEarTrumpets$Net;)Z"⟩, 5) := ⟨⟨by decide +kernel, by decide +kernel⟩, List.mem_of_getElem? (i := 43) (by decide +kernel), List.mem_of_getElem? (i := 256) (by decide +kernel), List.mem_of_getElem? (i := 257) (by decide +kernel)⟩
theorem lw_p7 : lw_okq (⟨"EarTrumpets$Net", "moveOn", "(I)I"⟩, 2) := ⟨⟨by decide +kernel, by decide +kernel⟩, List.mem_of_getElem? (i := 68) (by decide +kernel), List.mem_of_getElem? (i := 315) (by decide +kernel), List.mem_of_getElem? (i := 316) (by decide +kernel)⟩
theorem lw_p8 : lw_okq (⟨"EarTrumpets$Net", "comesOut", "(II)I"⟩, 2) := ⟨⟨by decide +kernel, by decide +kernel⟩, List.mem_of_getElem? (i := 68) (by decide +kernel), List.mem_of_getElem? (i := 319) (by decide +kernel), List.mem_of_getElem? (i := 320) (by decide +kernel)⟩
theorem lw_p9 : lw_okq (⟨"EarTrumpets$Net", "hearOut", "()I"⟩, 2) := ⟨⟨by decide +kernel, by decide +kernel⟩, List.mem_of_getElem? (i := 68) (by decide +kernel), List.mem_of_getElem? (i := 336) (by decide +kernel), List.mem_of_getElem? (i := 337) (by decide +kernel)⟩
theorem lw_p10 : lw_okq (⟨"EarTrumpets", "seen", "()LEarTrumpets$Foresight;"⟩, 9) := ⟨⟨by decide +kernel, by decide +kernel⟩, List.mem_of_getElem? (i := 14) (by decide +kernel), List.mem_of_getElem? (i := 408) (by decide +kernel), List.mem_of_getElem? (i := 409) (by decide +kernel)⟩
theorem lw_p11 : lw_okq (⟨"EarTrumpets$Foresight", "begin", "()V"⟩, 2) := ⟨⟨by decide +kernel, by decide +kernel⟩, List.mem_of_getElem? (i := 104) (by decide +kernel), List.mem_of_getElem? (i := 416) (by decide +kernel), List.mem_of_getElem? (i := 417) (by decide +kernel)⟩
theorem lw_p12 : lw_okq (⟨"EarTrumpets$Foresight", "firstOnTrial", "(II)I"⟩, 2) := ⟨⟨by decide +kernel, by decide +kernel⟩, List.mem_of_getElem? (i := 104) (by decide +kernel), List.mem_of_getElem? (i := 430) (by decide +kernel), List.mem_of_getElem? (i := 431) (by decide +kernel)⟩
theorem lw_p13 : lw_okq (⟨"EarTrumpets$Foresight", "hearsWhenTurned", "(IIII)Z"⟩, 2) := ⟨⟨by decide +kernel, by decide +kernel⟩, List.mem_of_getElem? (i := 104) (by decide +kernel), List.mem_of_getElem? (i := 473) (by decide +kernel), List.mem_of_getElem? (i := 474) (by decide +kernel)⟩
theorem lw_p14 : lw_okq (⟨"EarTrumpets$Foresight", "hearsWord", "(III)Z"⟩, 2) := ⟨⟨by decide +kernel, by decide +kernel⟩, List.mem_of_getElem? (i := 104) (by decide +kernel), List.mem_of_getElem? (i := 503) (by decide +kernel), List.mem_of_getElem? (i := 504) (by decide +kernel)⟩
theorem lw_p15 : lw_okq (⟨"EarTrumpets$Foresight", "wordHeard", "(I)I"⟩, 2) := ⟨⟨by decide +kernel, by decide +kernel⟩, List.mem_of_getElem? (i := 104) (by decide +kernel), List.mem_of_getElem? (i := 507) (by decide +kernel), List.mem_of_getElem? (i := 508) (by decide +kernel)⟩
def lw_privs_1 : List (MethodName × Nat) := [(⟨"EarTrumpets", "found", "(I)I"⟩, 9), (⟨"EarTrumpets", "unfound", "(I)I"⟩, 9), (⟨"EarTrumpets$Tape", "readLaw", "(LEarTrumpets$Net;)Z"⟩, 5), (⟨"EarTrumpets$Tape", "passes", "(I)Z"⟩, 5), (⟨"EarTrumpets$Tape", "refuse", "(II)Z"⟩, 5), (⟨"EarTrumpets$Tape", "number", "(III)I"⟩, 5), (⟨"EarTrumpets$Tape", "readPipe", "(LEarTrumpets$Net;)Z"⟩, 5), (⟨"EarTrumpets$Net", "moveOn", "(I)I"⟩, 2), (⟨"EarTrumpets$Net", "comesOut", "(II)I"⟩, 2), (⟨"EarTrumpets$Net", "hearOut", "()I"⟩, 2), (⟨"EarTrumpets", "seen", "()LEarTrumpets$Foresight;"⟩, 9), (⟨"EarTrumpets$Foresight", "begin", "()V"⟩, 2), (⟨"EarTrumpets$Foresight", "firstOnTrial", "(II)I"⟩, 2), (⟨"EarTrumpets$Foresight", "hearsWhenTurned", "(IIII)Z"⟩, 2), (⟨"EarTrumpets$Foresight", "hearsWord", "(III)Z"⟩, 2), (⟨"EarTrumpets$Foresight", "wordHeard", "(I)I"⟩, 2)]
theorem lw_r1 : ∀ q ∈ lw_privs_1, lw_okq q := List.forall_mem_cons.mpr ⟨lw_p0, List.forall_mem_cons.mpr ⟨lw_p1, List.forall_mem_cons.mpr ⟨lw_p2, List.forall_mem_cons.mpr ⟨lw_p3, List.forall_mem_cons.mpr ⟨lw_p4, List.forall_mem_cons.mpr ⟨lw_p5, List.forall_mem_cons.mpr ⟨lw_p6, List.forall_mem_cons.mpr ⟨lw_p7, List.forall_mem_cons.mpr ⟨lw_p8, List.forall_mem_cons.mpr ⟨lw_p9, List.forall_mem_cons.mpr ⟨lw_p10, List.forall_mem_cons.mpr ⟨lw_p11, List.forall_mem_cons.mpr ⟨lw_p12, List.forall_mem_cons.mpr ⟨lw_p13, List.forall_mem_cons.mpr ⟨lw_p14, List.forall_mem_cons.mpr ⟨lw_p15, fun _ h => absurd h List.not_mem_nil⟩⟩⟩⟩⟩⟩⟩⟩⟩⟩⟩⟩⟩⟩⟩⟩
theorem lw_p16 : lw_okq (⟨"EarTrumpets$Foresight", "nextTo", "(I)I"⟩, 2) := ⟨⟨by decide +kernel, by decide +kernel⟩, List.mem_of_getElem? (i := 104) (by decide +kernel), List.mem_of_getElem? (i := 529) (by decide +kernel), List.mem_of_getElem? (i := 530) (by decide +kernel)⟩
theorem lw_p17 : lw_okq (⟨"EarTrumpets$Foresight", "suppose", "(III)V"⟩, 2) := ⟨⟨by decide +kernel, by decide +kernel⟩, List.mem_of_getElem? (i := 104) (by decide +kernel), List.mem_of_getElem? (i := 542) (by decide +kernel), List.mem_of_getElem? (i := 543) (by decide +kernel)⟩
theorem lw_p18 : lw_okq (⟨"EarTrumpets$Foresight", "isHeardAsTold", "(I[III)Z"⟩, 2) := ⟨⟨by decide +kernel, by decide +kernel⟩, List.mem_of_getElem? (i := 104) (by decide +kernel), List.mem_of_getElem? (i := 546) (by decide +kernel), List.mem_of_getElem? (i := 547) (by decide +kernel)⟩
theorem lw_p19 : lw_okq (⟨"EarTrumpets$Foresight", "emptyPipes", "()I"⟩, 2) := ⟨⟨by decide +kernel, by decide +kernel⟩, List.mem_of_getElem? (i := 104) (by decide +kernel), List.mem_of_getElem? (i := 566) (by decide +kernel), List.mem_of_getElem? (i := 567) (by decide +kernel)⟩
theorem lw_p20 : lw_okq (⟨"EarTrumpets$Foresight", "hearsWithShut", "(III)Z"⟩, 2) := ⟨⟨by decide +kernel, by decide +kernel⟩, List.mem_of_getElem? (i := 104) (by decide +kernel), List.mem_of_getElem? (i := 583) (by decide +kernel), List.mem_of_getElem? (i := 584) (by decide +kernel)⟩
theorem lw_p21 : lw_okq (⟨"EarTrumpets$Bodies", "sizeOf", "(LEarTrumpets$Net;II)I"⟩, 2) := ⟨⟨by decide +kernel, by decide +kernel⟩, List.mem_of_getElem? (i := 120) (by decide +kernel), List.mem_of_getElem? (i := 633) (by decide +kernel), List.mem_of_getElem? (i := 634) (by decide +kernel)⟩
theorem lw_p22 : lw_okq (⟨"EarTrumpets$Bodies", "give", "(ILEarTrumpets$Net;II)I"⟩, 2) := ⟨⟨by decide +kernel, by decide +kernel⟩, List.mem_of_getElem? (i := 120) (by decide +kernel), List.mem_of_getElem? (i := 639) (by decide +kernel), List.mem_of_getElem? (i := 640) (by decide +kernel)⟩
theorem lw_p23 : lw_okq (⟨"EarTrumpets$Bodies", "leave", "(I)V"⟩, 2) := ⟨⟨by decide +kernel, by decide +kernel⟩, List.mem_of_getElem? (i := 120) (by decide +kernel), List.mem_of_getElem? (i := 643) (by decide +kernel), List.mem_of_getElem? (i := 644) (by decide +kernel)⟩
theorem lw_p24 : lw_okq (⟨"EarTrumpets$Bodies", "markOf", "(LEarTrumpets$Net;II)I"⟩, 2) := ⟨⟨by decide +kernel, by decide +kernel⟩, List.mem_of_getElem? (i := 120) (by decide +kernel), List.mem_of_getElem? (i := 647) (by decide +kernel), List.mem_of_getElem? (i := 648) (by decide +kernel)⟩
theorem lw_p25 : lw_okq (⟨"EarTrumpetsModel", "finding", "(I)I"⟩, 24) := ⟨⟨by decide +kernel, by decide +kernel⟩, List.mem_of_getElem? (i := 670) (by decide +kernel), List.mem_of_getElem? (i := 763) (by decide +kernel), List.mem_of_getElem? (i := 764) (by decide +kernel)⟩
theorem lw_p26 : lw_okq (⟨"EarTrumpetsModel", "begin", "()V"⟩, 24) := ⟨⟨by decide +kernel, by decide +kernel⟩, List.mem_of_getElem? (i := 670) (by decide +kernel), List.mem_of_getElem? (i := 794) (by decide +kernel), List.mem_of_getElem? (i := 795) (by decide +kernel)⟩
theorem lw_p27 : lw_okq (⟨"EarTrumpetsModel", "nextToken", "()V"⟩, 24) := ⟨⟨by decide +kernel, by decide +kernel⟩, List.mem_of_getElem? (i := 670) (by decide +kernel), List.mem_of_getElem? (i := 798) (by decide +kernel), List.mem_of_getElem? (i := 799) (by decide +kernel)⟩
theorem lw_p28 : lw_okq (⟨"EarTrumpetsModel", "isLetter", "(I)Z"⟩, 24) := ⟨⟨by decide +kernel, by decide +kernel⟩, List.mem_of_getElem? (i := 670) (by decide +kernel), List.mem_of_getElem? (i := 807) (by decide +kernel), List.mem_of_getElem? (i := 808) (by decide +kernel)⟩
theorem lw_p29 : lw_okq (⟨"EarTrumpetsModel", "must", "(Z)V"⟩, 24) := ⟨⟨by decide +kernel, by decide +kernel⟩, List.mem_of_getElem? (i := 670) (by decide +kernel), List.mem_of_getElem? (i := 811) (by decide +kernel), List.mem_of_getElem? (i := 812) (by decide +kernel)⟩
theorem lw_p30 : lw_okq (⟨"EarTrumpetsModel", "bad", "(I)V"⟩, 24) := ⟨⟨by decide +kernel, by decide +kernel⟩, List.mem_of_getElem? (i := 670) (by decide +kernel), List.mem_of_getElem? (i := 815) (by decide +kernel), List.mem_of_getElem? (i := 816) (by decide +kernel)⟩
theorem lw_p31 : lw_okq (⟨"EarTrumpetsModel", "number", "(II)I"⟩, 24) := ⟨⟨by decide +kernel, by decide +kernel⟩, List.mem_of_getElem? (i := 670) (by decide +kernel), List.mem_of_getElem? (i := 819) (by decide +kernel), List.mem_of_getElem? (i := 820) (by decide +kernel)⟩
def lw_privs_2 : List (MethodName × Nat) := [(⟨"EarTrumpets$Foresight", "nextTo", "(I)I"⟩, 2), (⟨"EarTrumpets$Foresight", "suppose", "(III)V"⟩, 2), (⟨"EarTrumpets$Foresight", "isHeardAsTold", "(I[III)Z"⟩, 2), (⟨"EarTrumpets$Foresight", "emptyPipes", "()I"⟩, 2), (⟨"EarTrumpets$Foresight", "hearsWithShut", "(III)Z"⟩, 2), (⟨"EarTrumpets$Bodies", "sizeOf", "(LEarTrumpets$Net;II)I"⟩, 2), (⟨"EarTrumpets$Bodies", "give", "(ILEarTrumpets$Net;II)I"⟩, 2), (⟨"EarTrumpets$Bodies", "leave", "(I)V"⟩, 2), (⟨"EarTrumpets$Bodies", "markOf", "(LEarTrumpets$Net;II)I"⟩, 2), (⟨"EarTrumpetsModel", "finding", "(I)I"⟩, 24), (⟨"EarTrumpetsModel", "begin", "()V"⟩, 24), (⟨"EarTrumpetsModel", "nextToken", "()V"⟩, 24), (⟨"EarTrumpetsModel", "isLetter", "(I)Z"⟩, 24), (⟨"EarTrumpetsModel", "must", "(Z)V"⟩, 24), (⟨"EarTrumpetsModel", "bad", "(I)V"⟩, 24), (⟨"EarTrumpetsModel", "number", "(II)I"⟩, 24)]
theorem lw_r2 : ∀ q ∈ lw_privs_2, lw_okq q := List.forall_mem_cons.mpr ⟨lw_p16, List.forall_mem_cons.mpr ⟨lw_p17, List.forall_mem_cons.mpr ⟨lw_p18, List.forall_mem_cons.mpr ⟨lw_p19, List.forall_mem_cons.mpr ⟨lw_p20, List.forall_mem_cons.mpr ⟨lw_p21, List.forall_mem_cons.mpr ⟨lw_p22, List.forall_mem_cons.mpr ⟨lw_p23, List.forall_mem_cons.mpr ⟨lw_p24, List.forall_mem_cons.mpr ⟨lw_p25, List.forall_mem_cons.mpr ⟨lw_p26, List.forall_mem_cons.mpr ⟨lw_p27, List.forall_mem_cons.mpr ⟨lw_p28, List.forall_mem_cons.mpr ⟨lw_p29, List.forall_mem_cons.mpr ⟨lw_p30, List.forall_mem_cons.mpr ⟨lw_p31, fun _ h => absurd h List.not_mem_nil⟩⟩⟩⟩⟩⟩⟩⟩⟩⟩⟩⟩⟩⟩⟩⟩
theorem lw_p32 : lw_okq (⟨"EarTrumpetsModel", "mustSign", "(I)V"⟩, 24) := ⟨⟨by decide +kernel, by decide +kernel⟩, List.mem_of_getElem? (i := 670) (by decide +kernel), List.mem_of_getElem? (i := 823) (by decide +kernel), List.mem_of_getElem? (i := 824) (by decide +kernel)⟩
theorem lw_p33 : lw_okq (⟨"EarTrumpetsModel", "isSort", "()Z"⟩, 24) := ⟨⟨by decide +kernel, by decide +kernel⟩, List.mem_of_getElem? (i := 670) (by decide +kernel), List.mem_of_getElem? (i := 827) (by decide +kernel), List.mem_of_getElem? (i := 828) (by decide +kernel)⟩
theorem lw_p34 : lw_okq (⟨"EarTrumpetsModel", "readPipe", "()V"⟩, 24) := ⟨⟨by decide +kernel, by decide +kernel⟩, List.mem_of_getElem? (i := 670) (by decide +kernel), List.mem_of_getElem? (i := 834) (by decide +kernel), List.mem_of_getElem? (i := 835) (by decide +kernel)⟩
theorem lw_p35 : lw_okq (⟨"EarTrumpetsModel", "failed", "()Z"⟩, 24) := ⟨⟨by decide +kernel, by decide +kernel⟩, List.mem_of_getElem? (i := 670) (by decide +kernel), List.mem_of_getElem? (i := 838) (by decide +kernel), List.mem_of_getElem? (i := 839) (by decide +kernel)⟩
theorem lw_p36 : lw_okq (⟨"EarTrumpetsModel", "isThere", "()Z"⟩, 24) := ⟨⟨by decide +kernel, by decide +kernel⟩, List.mem_of_getElem? (i := 670) (by decide +kernel), List.mem_of_getElem? (i := 847) (by decide +kernel), List.mem_of_getElem? (i := 848) (by decide +kernel)⟩
theorem lw_p37 : lw_okq (⟨"EarTrumpetsModel", "keep", "()V"⟩, 24) := ⟨⟨by decide +kernel, by decide +kernel⟩, List.mem_of_getElem? (i := 670) (by decide +kernel), List.mem_of_getElem? (i := 853) (by decide +kernel), List.mem_of_getElem? (i := 854) (by decide +kernel)⟩
theorem lw_p38 : lw_okq (⟨"EarTrumpetsModel", "breath", "([I)I"⟩, 24) := ⟨⟨by decide +kernel, by decide +kernel⟩, List.mem_of_getElem? (i := 670) (by decide +kernel), List.mem_of_getElem? (i := 857) (by decide +kernel), List.mem_of_getElem? (i := 858) (by decide +kernel)⟩
theorem lw_p39 : lw_okq (⟨"EarTrumpetsModel", "isHorn", "(I)Z"⟩, 24) := ⟨⟨by decide +kernel, by decide +kernel⟩, List.mem_of_getElem? (i := 670) (by decide +kernel), List.mem_of_getElem? (i := 874) (by decide +kernel), List.mem_of_getElem? (i := 875) (by decide +kernel)⟩
theorem lw_p40 : lw_okq (⟨"EarTrumpetsModel", "isPipe", "(I)Z"⟩, 24) := ⟨⟨by decide +kernel, by decide +kernel⟩, List.mem_of_getElem? (i := 670) (by decide +kernel), List.mem_of_getElem? (i := 887) (by decide +kernel), List.mem_of_getElem? (i := 888) (by decide +kernel)⟩
theorem lw_p41 : lw_okq (⟨"EarTrumpetsModel", "layThen", "()V"⟩, 24) := ⟨⟨by decide +kernel, by decide +kernel⟩, List.mem_of_getElem? (i := 670) (by decide +kernel), List.mem_of_getElem? (i := 930) (by decide +kernel), List.mem_of_getElem? (i := 931) (by decide +kernel)⟩
theorem lw_p42 : lw_okq (⟨"EarTrumpetsModel", "hearersIn", "(I)I"⟩, 24) := ⟨⟨by decide +kernel, by decide +kernel⟩, List.mem_of_getElem? (i := 670) (by decide +kernel), List.mem_of_getElem? (i := 934) (by decide +kernel), List.mem_of_getElem? (i := 935) (by decide +kernel)⟩
theorem lw_p43 : lw_okq (⟨"EarTrumpetsModel", "firstBy", "(I)I"⟩, 24) := ⟨⟨by decide +kernel, by decide +kernel⟩, List.mem_of_getElem? (i := 670) (by decide +kernel), List.mem_of_getElem? (i := 942) (by decide +kernel), List.mem_of_getElem? (i := 943) (by decide +kernel)⟩
theorem lw_p44 : lw_okq (⟨"EarTrumpetsModel", "areHorns", "(I)Z"⟩, 24) := ⟨⟨by decide +kernel, by decide +kernel⟩, List.mem_of_getElem? (i := 670) (by decide +kernel), List.mem_of_getElem? (i := 958) (by decide +kernel), List.mem_of_getElem? (i := 959) (by decide +kernel)⟩
theorem lw_p45 : lw_okq (⟨"EarTrumpetsModel", "rowFound", "(III)I"⟩, 24) := ⟨⟨by decide +kernel, by decide +kernel⟩, List.mem_of_getElem? (i := 670) (by decide +kernel), List.mem_of_getElem? (i := 991) (by decide +kernel), List.mem_of_getElem? (i := 992) (by decide +kernel)⟩
theorem lw_p46 : lw_okq (⟨"EarTrumpetsModel", "hearsSo", "(III)Z"⟩, 24) := ⟨⟨by decide +kernel, by decide +kernel⟩, List.mem_of_getElem? (i := 670) (by decide +kernel), List.mem_of_getElem? (i := 995) (by decide +kernel), List.mem_of_getElem? (i := 996) (by decide +kernel)⟩
theorem lw_p47 : lw_okq (⟨"EarTrumpetsModel", "sizeOf", "(I)I"⟩, 24) := ⟨⟨by decide +kernel, by decide +kernel⟩, List.mem_of_getElem? (i := 670) (by decide +kernel), List.mem_of_getElem? (i := 1044) (by decide +kernel), List.mem_of_getElem? (i := 1045) (by decide +kernel)⟩
def lw_privs_3 : List (MethodName × Nat) := [(⟨"EarTrumpetsModel", "mustSign", "(I)V"⟩, 24), (⟨"EarTrumpetsModel", "isSort", "()Z"⟩, 24), (⟨"EarTrumpetsModel", "readPipe", "()V"⟩, 24), (⟨"EarTrumpetsModel", "failed", "()Z"⟩, 24), (⟨"EarTrumpetsModel", "isThere", "()Z"⟩, 24), (⟨"EarTrumpetsModel", "keep", "()V"⟩, 24), (⟨"EarTrumpetsModel", "breath", "([I)I"⟩, 24), (⟨"EarTrumpetsModel", "isHorn", "(I)Z"⟩, 24), (⟨"EarTrumpetsModel", "isPipe", "(I)Z"⟩, 24), (⟨"EarTrumpetsModel", "layThen", "()V"⟩, 24), (⟨"EarTrumpetsModel", "hearersIn", "(I)I"⟩, 24), (⟨"EarTrumpetsModel", "firstBy", "(I)I"⟩, 24), (⟨"EarTrumpetsModel", "areHorns", "(I)Z"⟩, 24), (⟨"EarTrumpetsModel", "rowFound", "(III)I"⟩, 24), (⟨"EarTrumpetsModel", "hearsSo", "(III)Z"⟩, 24), (⟨"EarTrumpetsModel", "sizeOf", "(I)I"⟩, 24)]
theorem lw_r3 : ∀ q ∈ lw_privs_3, lw_okq q := List.forall_mem_cons.mpr ⟨lw_p32, List.forall_mem_cons.mpr ⟨lw_p33, List.forall_mem_cons.mpr ⟨lw_p34, List.forall_mem_cons.mpr ⟨lw_p35, List.forall_mem_cons.mpr ⟨lw_p36, List.forall_mem_cons.mpr ⟨lw_p37, List.forall_mem_cons.mpr ⟨lw_p38, List.forall_mem_cons.mpr ⟨lw_p39, List.forall_mem_cons.mpr ⟨lw_p40, List.forall_mem_cons.mpr ⟨lw_p41, List.forall_mem_cons.mpr ⟨lw_p42, List.forall_mem_cons.mpr ⟨lw_p43, List.forall_mem_cons.mpr ⟨lw_p44, List.forall_mem_cons.mpr ⟨lw_p45, List.forall_mem_cons.mpr ⟨lw_p46, List.forall_mem_cons.mpr ⟨lw_p47, fun _ h => absurd h List.not_mem_nil⟩⟩⟩⟩⟩⟩⟩⟩⟩⟩⟩⟩⟩⟩⟩⟩
theorem lw_p48 : lw_okq (⟨"EarTrumpetsModel", "leakySize", "(I)I"⟩, 24) := ⟨⟨by decide +kernel, by decide +kernel⟩, List.mem_of_getElem? (i := 670) (by decide +kernel), List.mem_of_getElem? (i := 1048) (by decide +kernel), List.mem_of_getElem? (i := 1049) (by decide +kernel)⟩
theorem lw_p49 : lw_okq (⟨"EarTrumpetsModel", "began", "(I)V"⟩, 24) := ⟨⟨by decide +kernel, by decide +kernel⟩, List.mem_of_getElem? (i := 670) (by decide +kernel), List.mem_of_getElem? (i := 1052) (by decide +kernel), List.mem_of_getElem? (i := 1053) (by decide +kernel)⟩
theorem lw_p50 : lw_okq (⟨"EarTrumpetsModel", "plainSize", "(I)I"⟩, 24) := ⟨⟨by decide +kernel, by decide +kernel⟩, List.mem_of_getElem? (i := 670) (by decide +kernel), List.mem_of_getElem? (i := 1056) (by decide +kernel), List.mem_of_getElem? (i := 1057) (by decide +kernel)⟩
theorem lw_p51 : lw_okq (⟨"EarTrumpetsModel", "markOf", "(I)I"⟩, 24) := ⟨⟨by decide +kernel, by decide +kernel⟩, List.mem_of_getElem? (i := 670) (by decide +kernel), List.mem_of_getElem? (i := 1060) (by decide +kernel), List.mem_of_getElem? (i := 1061) (by decide +kernel)⟩
def lw_privs_4 : List (MethodName × Nat) := [(⟨"EarTrumpetsModel", "leakySize", "(I)I"⟩, 24), (⟨"EarTrumpetsModel", "began", "(I)V"⟩, 24), (⟨"EarTrumpetsModel", "plainSize", "(I)I"⟩, 24), (⟨"EarTrumpetsModel", "markOf", "(I)I"⟩, 24)]
theorem lw_r4 : ∀ q ∈ lw_privs_4, lw_okq q := List.forall_mem_cons.mpr ⟨lw_p48, List.forall_mem_cons.mpr ⟨lw_p49, List.forall_mem_cons.mpr ⟨lw_p50, List.forall_mem_cons.mpr ⟨lw_p51, fun _ h => absurd h List.not_mem_nil⟩⟩⟩⟩
def lw_privs : List (MethodName × Nat) := lw_privs_1 ++ (lw_privs_2 ++ (lw_privs_3 ++ (lw_privs_4)))
def lw_tbl : List Cond := k2_sels lw_privs ++ tables_1
theorem lw_privs_ok : ∀ q ∈ lw_privs, lw_okq q := by
  show ∀ q ∈ lw_privs_1 ++ (lw_privs_2 ++ (lw_privs_3 ++ (lw_privs_4))), lw_okq q
  exact List.forall_mem_append.mpr ⟨lw_r1, List.forall_mem_append.mpr ⟨lw_r2, List.forall_mem_append.mpr ⟨lw_r3, lw_r4⟩⟩⟩
-- ===== end of PART A; then your names; then what follows =====
/-! ===== BEGIN words of one list among another's, by their places ===== -/
theorem goodIn_r {big : List Cond} (ws : List Cond) (ps : List Nat) (hp : ws = ps.filterMap (fun i => big[i]?)) (h : ws.all goodWord = true) : GoodIn big ws := by
  intro w hw
  have h1 := List.all_eq_true.mp h w hw
  rw [hp] at hw
  obtain ⟨i, -, hi⟩ := List.mem_filterMap.mp hw
  have hm : w ∈ big := by first | exact List.mem_of_getElem? hi | exact List.getElem?_mem hi
  exact ⟨hm, good_of_word h1⟩
theorem goodIn_app {big a b : List Cond} (ha : GoodIn big a) (hb : GoodIn big b) : GoodIn big (a ++ b) := fun w h => (List.mem_append.mp h).elim (ha w) (hb w)
theorem goodIn_ca {big a b : List Cond} {c : Cond} (ha : GoodIn big (c :: a)) (hb : GoodIn big b) : GoodIn big (c :: (a ++ b)) := fun w h => (List.mem_cons.mp h).elim (fun e => ha w (List.mem_cons.mpr (Or.inl e))) (fun h => (List.mem_append.mp h).elim (fun h => ha w (List.mem_cons.mpr (Or.inr h))) (hb w))
theorem goodIn_sub {big ws : List Cond} (hm : ∀ w ∈ ws, w ∈ big) (h : ws.all goodWord = true) : GoodIn big ws := fun w hw => ⟨hm w hw, good_of_word (List.all_eq_true.mp h w hw)⟩
/-! ===== END ===== -/

/-! ===== BEGIN new T[n][m]: the outer array a place, the inner ones among the pooled ===== -/
/-- f, but v at every address of l -/
def vr_up {α : Type} (f : Nat → α) (l : List Nat) (v : α) : Nat → α := fun a => if a ∈ l then v else f a
theorem vr_up_in {α : Type} {f : Nat → α} {l : List Nat} {v : α} {a : Nat} (h : a ∈ l) : vr_up f l v a = v := if_pos h
theorem vr_up_ne {α : Type} {f : Nat → α} {l : List Nat} {v : α} {a : Nat} (h : a ∉ l) : vr_up f l v a = f a := if_neg h
theorem vr_rows {L l : List Nat} {f : Nat → va_E} {e : va_E} (h : ∀ a, a ∈ l → a ∉ L) : va_pl L f ++ l.map (fun a => (a, e)) = va_pl (L ++ l) (vr_up f l e) := by
  unfold va_pl
  rw [List.map_append]
  congr 1
  · apply List.map_congr_left
    intro a ha
    rw [vr_up_ne (fun q => h a q ha)]
  · apply List.map_congr_left
    intro a ha
    rw [vr_up_in ha]
theorem vr_lay {X rows : va_W} {x : Nat × va_E} {pl : va_W} {D : va_G} {cl : List vw_C} {H : Heap} (hP : va_P D cl (((X ++ pl) ++ [x]) ++ rows) H) : va_P D cl ((X ++ [x]) ++ (pl ++ rows)) H := by
  rw [List.append_assoc (X ++ pl)] at hP
  have h := va_P.swap hP
  rw [← List.append_assoc X] at h
  have h2 := va_P.swap h
  rw [List.append_assoc (X ++ [x])] at h2
  exact h2
theorem vr_layD {X rows : va_W} {x : Nat × va_E} {pl : va_W} {A : Nat → Prop} (hD : va_D A (((X ++ pl) ++ [x]) ++ rows)) : va_D A ((X ++ [x]) ++ (pl ++ rows)) := by
  rw [List.append_assoc (X ++ pl)] at hD
  have h := va_D.swap hD
  rw [← List.append_assoc X] at h
  have h2 := va_D.swap h
  rw [List.append_assoc (X ++ [x])] at h2
  exact h2
theorem vr_outer (c : ClassId) (N h0 : Nat) : ∀ i : Nat, Jvm.Free.Multi.outerC c N h0 i = arrV c N (fun j => va_rf (if j < i then some (h0 + 1 + j) else none))
  | 0 => by
    show ({ cls := c, slots := Array.replicate N .null, vm := .none } : Cell) = _
    rw [arrV_new]
    refine congrArg (arrV c N) (funext fun j => ?_)
    simp [va_rf]
  | i + 1 => by
    show (Jvm.Free.Multi.outerC c N h0 i).setSlot i (.ref (h0 + 1 + i)) = _
    rw [vr_outer c N h0 i, arrV_store]
    refine congrArg (arrV c N) (funext fun j => ?_)
    by_cases e : j = i
    · subst e
      simp [updV, va_rf]
    · by_cases h : j < i
      · simp [updV, e, h, Nat.lt_succ_of_lt h]
      · simp [updV, e, h, show ¬ j < i + 1 by omega]
def va_AOA (ty : FieldType) (U : State) : Prop := (Cond.arrayOver (.array ty)).before #[] U = true
theorem va_AOA.use {ty : FieldType} {A : Array Value} {U : State} (h : va_AOA ty U) : (Cond.arrayOver (.array ty)).before A U = true := h
section VGM
variable {p : Program} {l : Launch} {e : Env} {R : Room} {s : State} {m : MethodId} {args : Array Value} {below : List Frame} {meth : Method} {c : Code} {H : Heap} {locs : List Loc} {cells slots : Nat} {Q : State → Prop}
variable {cc : ByteArray} {pc : Nat} {ls : Array Slot} {rest : List Value} {D : va_G} {cl : List vw_C} {A : Nat → Prop} {a : Nat} {tys : List (ClassId × FieldType)} {ws : va_W} {H0 : Heap}
theorem va_mna {X : va_W} {L : List Nat} {f : Nat → va_E} {cc : ByteArray} (hexec : p.tables.exec = Jvm.exec) (hb : c.code = cc) {own : String} {index : Nat} {ty : FieldType} {cy : ClassId} (hown : s.vm.findClass own = some m.cls) (hclink : (Cond.classLink own index ("[" ++ (FieldType.array ty).toString)).before args s = true) (hover : va_AOA ty s) (harr : (Cond.arrayClass ty).before args s = true) (hcy : s.vm.findClass (FieldType.array ty).toString = some cy)
    (hK : va_K D cl tys s) (hP : va_P D cl (X ++ va_pl L f) H) (hD : va_D A (X ++ va_pl L f)) (hS : va_S A H0 H locs) (hA : ∀ q, H0.size ≤ q → A q) {n k : Int32} {N' K' : Nat} {z : vp_A} (hn : ¬ n < 0) (hk : ¬ k < 0) (hN : n.toNatClampNeg = N') (hM : k.toNatClampNeg = K')
    (hb1 : N' * 4 ≤ 536870912) (hb2 : K' * componentBytes ty ≤ 536870912) (hb3 : K' ≤ 536870912) (hdf : fits ty (defaultValue ty) = true) (hdd : (defaultValue ty).isDefault = true) (hcells : cells + (1 + N') ≤ R.cells) (hslots : slots + (N' + N' * K') ≤ R.slots) (hz : ∀ c : ClassId, Jvm.Free.Multi.innerC c K' (defaultValue ty) = vp_cell c z) (hdg : decode cc pc = .ok (.multianewarray index 2, 4))
    (kk : ∀ (q : Nat) (r : Nat → Nat) (cA : ClassId) (H1 : Heap), (∀ i j : Nat, i < N' → j < N' → r i = r j → i = j) → (∀ i : Nat, i < N' → r i ∉ L) → va_K D cl (tys ++ [(cA, .array ty)]) s →
      va_P D cl ((X ++ [(q, .inl (cA, N', .inr (.inr (.inr (.inr (fun i => if i < N' then some (r i) else none))))))]) ++ va_pl (L ++ (List.range N').map r) (vr_up f ((List.range N').map r) (.inl (cy, z)))) H1 → va_D A ((X ++ [(q, .inl (cA, N', .inr (.inr (.inr (.inr (fun i => if i < N' then some (r i) else none))))))]) ++ va_pl (L ++ (List.range N').map r) (vr_up f ((List.range N').map r) (.inl (cy, z)))) → va_S A H0 H1 locs →
      W p l e R s m args below meth c H1 locs (cells + 1 + N') (slots + N' + N' * K') Q (F0 m (pc + 4) ls (.ref q :: rest))) : W p l e R s m args below meth c H locs cells slots Q (F0 m pc ls (.int k :: .int n :: rest)) := by
  subst hN
  subst hM
  intro T hT Xs
  obtain ⟨vm₁, cA, comp, -, fA, fC, hO, -, X', step⟩ := Xs.multianewarray2F hexec hown hclink (va_AOA.use hover) harr (g := F0 m pc ls (.int k :: .int n :: rest)) rfl (by rw [hb]; exact hdg) rfl hn hk hb1 hb2 hb3 hdf hdd hcells hslots
  have ec : some cy = some comp := hcy.symm.trans fC
  cases ec
  generalize hF : Jvm.Free.Multi.fill (T.setVm vm₁) cA cy n.toNatClampNeg k.toNatClampNeg (defaultValue ty) n.toNatClampNeg = F at X' step
  have hTh : (T.setVm vm₁).heap = H := hT
  obtain ⟨f1, f2, -, -⟩ := Jvm.Free.Multi.fill_facts (T.setVm vm₁) cA cy n.toNatClampNeg k.toNatClampNeg (defaultValue ty) n.toNatClampNeg
  rw [hF, hTh] at f1 f2
  have hold : ∀ x : Nat, x < H.size → F.heap[x]? = H[x]? := fun x hx => by
    have := Jvm.Free.Multi.fill_old (T.setVm vm₁) cA cy n.toNatClampNeg k.toNatClampNeg (defaultValue ty) (a := x) (by rw [hTh]; exact hx) n.toNatClampNeg
    rw [hF, hTh] at this
    exact this
  have hrow : ∀ j : Nat, j < n.toNatClampNeg → F.heap[H.size + 1 + j]? = some (vp_cell cy z) := fun j hj => by
    have := Jvm.Free.Multi.fill_inner (T.setVm vm₁) cA cy n.toNatClampNeg k.toNatClampNeg (defaultValue ty) n.toNatClampNeg j hj
    rw [hF, hTh, hz] at this
    exact this
  have hout : Jvm.Free.Multi.outerC cA n.toNatClampNeg H.size n.toNatClampNeg = vp_cell cA (n.toNatClampNeg, .inr (.inr (.inr (.inr (fun i => if i < n.toNatClampNeg then some (H.size + 1 + i) else none))))) := by
    rw [vp_cell_q]
    exact vr_outer cA n.toNatClampNeg H.size n.toNatClampNeg
  rw [hout] at f2
  have hlt : ∀ a, a ∈ L → a < H.size := fun a ha => by
    obtain ⟨k9, hk9⟩ := va_pl_get (X := X) (f := f) ha
    exact (hP k9 _ hk9).lt
  have hnl : ∀ i : Nat, i < n.toNatClampNeg → H.size + 1 + i ∉ L := fun i _ h => by
    have := hlt _ h
    omega
  have hnm : ∀ a, a ∈ (List.range n.toNatClampNeg).map (fun i => H.size + 1 + i) → a ∉ L := fun a ha h => by
    obtain ⟨i, -, rfl⟩ := List.mem_map.mp ha
    have := hlt _ h
    omega
  have hP0 : va_P D cl (X ++ va_pl L f) F.heap := hP.kept (fun k9 x hx => hold x.1 ((hP k9 x hx).lt))
  have hP1 : va_P D cl ((X ++ va_pl L f) ++ [(H.size, .inl (cA, n.toNatClampNeg, .inr (.inr (.inr (.inr (fun i => if i < n.toNatClampNeg then some (H.size + 1 + i) else none))))))]) F.heap := hP0.app (fun k9 x hx => by
    have h0 : k9 < 1 := (List.getElem?_eq_some_iff.mp hx).1
    rw [show k9 = 0 by omega] at hx
    cases hx
    exact f2)
  have hP2 : va_P D cl (((X ++ va_pl L f) ++ [(H.size, .inl (cA, n.toNatClampNeg, .inr (.inr (.inr (.inr (fun i => if i < n.toNatClampNeg then some (H.size + 1 + i) else none))))))]) ++ ((List.range n.toNatClampNeg).map (fun i => H.size + 1 + i)).map (fun a => (a, .inl (cy, z)))) F.heap := hP1.app (fun k9 x hx => by
    obtain ⟨a, ha, rfl⟩ := List.mem_map.mp (List.mem_of_getElem? hx)
    obtain ⟨i, hi, rfl⟩ := List.mem_map.mp ha
    exact hrow i (List.mem_range.mp hi))
  have hD2 : va_D A (((X ++ va_pl L f) ++ [(H.size, .inl (cA, n.toNatClampNeg, .inr (.inr (.inr (.inr (fun i => if i < n.toNatClampNeg then some (H.size + 1 + i) else none))))))]) ++ ((List.range n.toNatClampNeg).map (fun i => H.size + 1 + i)).map (fun a => (a, .inl (cy, z)))) := by
    have hD1 := hD.push (e := .inl (cA, n.toNatClampNeg, .inr (.inr (.inr (.inr (fun i => if i < n.toNatClampNeg then some (H.size + 1 + i) else none)))))) hP rfl (hA _ hS.1)
    generalize hW1 : (X ++ va_pl L f) ++ [(H.size, .inl (cA, n.toNatClampNeg, .inr (.inr (.inr (.inr (fun i => if i < n.toNatClampNeg then some (H.size + 1 + i) else none))))))] = W1 at hD1 hP1 ⊢
    have hle : ∀ (k9 : Nat) (x : Nat × va_E), W1[k9]? = some x → x.1 ≤ H.size := fun k9 x hx => by
      rw [← hW1] at hx
      by_cases hl : k9 < (X ++ va_pl L f).length
      · rw [List.getElem?_append_left hl] at hx
        exact Nat.le_of_lt ((hP k9 x hx).lt)
      · rw [List.getElem?_append_right (by omega)] at hx
        have h0 : k9 - (X ++ va_pl L f).length < 1 := (List.getElem?_eq_some_iff.mp hx).1
        rw [show k9 - (X ++ va_pl L f).length = 0 by omega] at hx
        cases hx
        exact Nat.le_refl _
    have hr : ∀ (k9 : Nat) (x : Nat × va_E), (((List.range n.toNatClampNeg).map (fun i => H.size + 1 + i)).map (fun a => ((a, .inl (cy, z)) : Nat × va_E)))[k9]? = some x → x.1 = H.size + 1 + k9 := fun k9 x hx => by
      rw [List.getElem?_map, List.getElem?_map] at hx
      by_cases h9 : k9 < n.toNatClampNeg
      · rw [List.getElem?_range h9] at hx
        cases hx
        rfl
      · have hn0 : (List.range n.toNatClampNeg)[k9]? = none := List.getElem?_eq_none (by rw [List.length_range]; omega)
        rw [hn0] at hx
        cases hx
    refine ⟨fun i j x y hi hj hxy => ?_, fun k9 x hx => ?_⟩
    · by_cases h1 : i < W1.length <;> by_cases h2 : j < W1.length
      · rw [List.getElem?_append_left h1] at hi
        rw [List.getElem?_append_left h2] at hj
        exact hD1.1 i j x y hi hj hxy
      · rw [List.getElem?_append_left h1] at hi
        rw [List.getElem?_append_right (by omega)] at hj
        have := hle _ _ hi
        have := hr _ _ hj
        omega
      · rw [List.getElem?_append_right (by omega)] at hi
        rw [List.getElem?_append_left h2] at hj
        have := hle _ _ hj
        have := hr _ _ hi
        omega
      · rw [List.getElem?_append_right (by omega)] at hi hj
        have := hr _ _ hi
        have := hr _ _ hj
        omega
    · by_cases h1 : k9 < W1.length
      · rw [List.getElem?_append_left h1] at hx
        exact hD1.2 k9 x hx
      · rw [List.getElem?_append_right (by omega)] at hx
        have := hr _ _ hx
        exact hA _ (by have := hS.1; omega)
  have hAr : ArrOfT s cA (.array ty) := fun N9 z9 => by
    obtain ⟨-, k9, hk9, cm9, hkk9⟩ := (hO 0 0 0).1
    exact ⟨(fun q hq => by cases hq), k9, hk9, cm9, hkk9⟩
  have hK2 : va_K D cl (tys ++ [(cA, .array ty)]) s := ⟨hK.1, fun k9 x hx => by
    by_cases hl : k9 < tys.length
    · rw [List.getElem?_append_left hl] at hx
      exact hK.2 k9 x hx
    · rw [List.getElem?_append_right (by omega)] at hx
      have h0 : k9 - tys.length < 1 := (List.getElem?_eq_some_iff.mp hx).1
      rw [show k9 - tys.length = 0 by omega] at hx
      cases hx
      exact ⟨hAr, fA⟩⟩
  obtain ⟨t, a1, b1⟩ := kk H.size (fun i => H.size + 1 + i) cA F.heap (fun i j _ _ h => by have h9 : H.size + 1 + i = H.size + 1 + j := h; omega) hnl hK2 (by rw [← vr_rows hnm]; exact vr_lay hP2) (by rw [← vr_rows hnm]; exact vr_layD hD2) ⟨by rw [f1]; have := hS.1; omega, fun x h1 h2 => (hold x (Nat.lt_of_lt_of_le h1 hS.1)).trans (hS.2.1 x h1 h2), hS.2.2⟩ F rfl X'
  refine ⟨t, step t ?_, b1⟩
  have e : T.heap.size = H.size := by rw [hT]
  rw [e]
  exact a1
end VGM
/-! ===== END ===== -/

/-! ===== BEGIN printed: names, fields, word lists, decode rows ===== -/
def RX0 : String := "EarTrumpets$Acts"
def TX0 : u_T := fun k => match k with
  | 0 => ("EarTrumpets$Acts", "before", "[[I", true)
  | 1 => ("EarTrumpets$Acts", "next", "I", false)
  | _ => ("EarTrumpets$Acts", "kept", "I", false)
def tyX0 : Nat → FieldType := fun k => match k with
  | 0 => .array (.array .int)
  | 1 => .int
  | _ => .int
abbrev wsX00 : List Cond := u_ws RX0 TX0 3
theorem nmX0 : ∀ a, a < 3 → ∀ b, b < 3 → a ≠ b → (TX0 a).2.1 ≠ (TX0 b).2.1 := by decide +kernel
theorem tyX0_ok : ∀ k, k < 3 → parseFieldDescriptor (TX0 k).2.2.1 = some (tyX0 k) := by decide +kernel
abbrev cX0_init : ByteArray := prog_2_method_1_code
def yX0_init : MethodName := ⟨RX0, "<init>", "()V"⟩
abbrev cX0_keep : ByteArray := prog_2_method_2_code
def yX0_keep : MethodName := ⟨RX0, "keep", "([I)V"⟩
abbrev cX0_latest : ByteArray := prog_2_method_3_code
def yX0_latest : MethodName := ⟨RX0, "latest", "()[I"⟩
abbrev cX0_forget : ByteArray := prog_2_method_4_code
def yX0_forget : MethodName := ⟨RX0, "forget", "()V"⟩
def RX1 : String := "EarTrumpets$Bodies"
def TX1 : u_T := fun k => match k with
  | 0 => ("EarTrumpets$Bodies", "steps", "[I", true)
  | _ => ("EarTrumpets$Bodies", "begun", "I", false)
def tyX1 : Nat → FieldType := fun k => match k with
  | 0 => .array .int
  | _ => .int
abbrev wsX10 : List Cond := u_ws RX1 TX1 2
theorem nmX1 : ∀ a, a < 2 → ∀ b, b < 2 → a ≠ b → (TX1 a).2.1 ≠ (TX1 b).2.1 := by decide +kernel
theorem tyX1_ok : ∀ k, k < 2 → parseFieldDescriptor (TX1 k).2.2.1 = some (tyX1 k) := by decide +kernel
abbrev cX1_init : ByteArray := prog_3_method_1_code
def yX1_init : MethodName := ⟨RX1, "<init>", "()V"⟩
abbrev cX1_answer : ByteArray := prog_3_method_2_code
def yX1_answer : MethodName := ⟨RX1, "answer", "(LEarTrumpets$Net;II)I"⟩
abbrev cX1_sizeOf : ByteArray := prog_3_method_3_code
def yX1_sizeOf : MethodName := ⟨RX1, "sizeOf", "(LEarTrumpets$Net;II)I"⟩
abbrev cX1_markOf : ByteArray := prog_3_method_4_code
def yX1_markOf : MethodName := ⟨RX1, "markOf", "(LEarTrumpets$Net;II)I"⟩
abbrev cX1_give : ByteArray := prog_3_method_5_code
def yX1_give : MethodName := ⟨RX1, "give", "(ILEarTrumpets$Net;II)I"⟩
abbrev cX1_leave : ByteArray := prog_3_method_6_code
def yX1_leave : MethodName := ⟨RX1, "leave", "(I)V"⟩
def RX2 : String := "EarTrumpets$Foresight"
def TX2 : u_T := fun k => match k with
  | 0 => ("EarTrumpets$Foresight", "now", "LEarTrumpets$Net;", true)
  | _ => ("EarTrumpets$Foresight", "trial", "LEarTrumpets$Net;", true)
def tyX2 : Nat → FieldType := fun k => match k with
  | 0 => .object "EarTrumpets$Net"
  | _ => .object "EarTrumpets$Net"
abbrev wsX20 : List Cond := u_ws RX2 TX2 2
theorem nmX2 : ∀ a, a < 2 → ∀ b, b < 2 → a ≠ b → (TX2 a).2.1 ≠ (TX2 b).2.1 := by decide +kernel
theorem tyX2_ok : ∀ k, k < 2 → parseFieldDescriptor (TX2 k).2.2.1 = some (tyX2 k) := by decide +kernel
abbrev cX2_init : ByteArray := prog_4_method_1_code
def yX2_init : MethodName := ⟨RX2, "<init>", "()V"⟩
abbrev cX2_begin : ByteArray := prog_4_method_2_code
def yX2_begin : MethodName := ⟨RX2, "begin", "()V"⟩
abbrev cX2_firstOnTrial : ByteArray := prog_4_method_3_code
def yX2_firstOnTrial : MethodName := ⟨RX2, "firstOnTrial", "(II)I"⟩
abbrev cX2_soundHeard : ByteArray := prog_4_method_4_code
def yX2_soundHeard : MethodName := ⟨RX2, "soundHeard", "(II)I"⟩
abbrev cX2_firstHearing : ByteArray := prog_4_method_5_code
def yX2_firstHearing : MethodName := ⟨RX2, "firstHearing", "(II)I"⟩
abbrev cX2_hornsThatHear : ByteArray := prog_4_method_6_code
def yX2_hornsThatHear : MethodName := ⟨RX2, "hornsThatHear", "(I)I"⟩
abbrev cX2_breathsToSilence : ByteArray := prog_4_method_7_code
def yX2_breathsToSilence : MethodName := ⟨RX2, "breathsToSilence", "(I)I"⟩
abbrev cX2_fewestTurned : ByteArray := prog_4_method_8_code
def yX2_fewestTurned : MethodName := ⟨RX2, "fewestTurned", "(IIIIZ)I"⟩
abbrev cX2_hearsWhenTurned : ByteArray := prog_4_method_9_code
def yX2_hearsWhenTurned : MethodName := ⟨RX2, "hearsWhenTurned", "(IIII)Z"⟩
abbrev cX2_leastLoudness : ByteArray := prog_4_method_10_code
def yX2_leastLoudness : MethodName := ⟨RX2, "leastLoudness", "(III)I"⟩
abbrev cX2_wordsToSay : ByteArray := prog_4_method_11_code
def yX2_wordsToSay : MethodName := ⟨RX2, "wordsToSay", "(IIII)I"⟩
abbrev cX2_hearsWord : ByteArray := prog_4_method_12_code
def yX2_hearsWord : MethodName := ⟨RX2, "hearsWord", "(III)Z"⟩
abbrev cX2_wordHeard : ByteArray := prog_4_method_13_code
def yX2_wordHeard : MethodName := ⟨RX2, "wordHeard", "(I)I"⟩
abbrev cX2_breathsRound : ByteArray := prog_4_method_14_code
def yX2_breathsRound : MethodName := ⟨RX2, "breathsRound", "(II)I"⟩
abbrev cX2_fewestPipes : ByteArray := prog_4_method_15_code
def yX2_fewestPipes : MethodName := ⟨RX2, "fewestPipes", "(II)I"⟩
abbrev cX2_nextTo : ByteArray := prog_4_method_16_code
def yX2_nextTo : MethodName := ⟨RX2, "nextTo", "(I)I"⟩
abbrev cX2_whatFits : ByteArray := prog_4_method_17_code
def yX2_whatFits : MethodName := ⟨RX2, "whatFits", "(III[III)I"⟩
abbrev cX2_suppose : ByteArray := prog_4_method_18_code
def yX2_suppose : MethodName := ⟨RX2, "suppose", "(III)V"⟩
abbrev cX2_isHeardAsTold : ByteArray := prog_4_method_19_code
def yX2_isHeardAsTold : MethodName := ⟨RX2, "isHeardAsTold", "(I[III)Z"⟩
abbrev cX2_hornsSpokenAt : ByteArray := prog_4_method_20_code
def yX2_hornsSpokenAt : MethodName := ⟨RX2, "hornsSpokenAt", "(II[III)I"⟩
abbrev cX2_coldPipes : ByteArray := prog_4_method_21_code
def yX2_coldPipes : MethodName := ⟨RX2, "coldPipes", "(I)I"⟩
abbrev cX2_emptyPipes : ByteArray := prog_4_method_22_code
def yX2_emptyPipes : MethodName := ⟨RX2, "emptyPipes", "()I"⟩
abbrev cX2_likelihood : ByteArray := prog_4_method_23_code
def yX2_likelihood : MethodName := ⟨RX2, "likelihood", "(IIIZ)J"⟩
abbrev cX2_hearsWithShut : ByteArray := prog_4_method_24_code
def yX2_hearsWithShut : MethodName := ⟨RX2, "hearsWithShut", "(III)Z"⟩
abbrev cX2_power : ByteArray := prog_4_method_25_code
def yX2_power : MethodName := ⟨RX2, "power", "(II)J"⟩
abbrev cX2_commonDivisor : ByteArray := prog_4_method_26_code
def yX2_commonDivisor : MethodName := ⟨RX2, "commonDivisor", "(JJ)J"⟩
abbrev cX2_sitting : ByteArray := prog_4_method_27_code
def yX2_sitting : MethodName := ⟨RX2, "sitting", "(IIZ)I"⟩
def RX3 : String := "EarTrumpets$Kinds"
def TX3 : u_T := fun k => match k with
  | _ => ("", "", "", false)
def tyX3 : Nat → FieldType := fun k => match k with
  | _ => .int
abbrev wsX30 : List Cond := u_ws RX3 TX3 0
theorem nmX3 : ∀ a, a < 0 → ∀ b, b < 0 → a ≠ b → (TX3 a).2.1 ≠ (TX3 b).2.1 := by decide +kernel
theorem tyX3_ok : ∀ k, k < 0 → parseFieldDescriptor (TX3 k).2.2.1 = some (tyX3 k) := by decide +kernel
abbrev cX3_isOne : ByteArray := prog_5_method_2_code
def yX3_isOne : MethodName := ⟨RX3, "isOne", "(II)Z"⟩
abbrev cX3_ofLetter : ByteArray := prog_5_method_3_code
def yX3_ofLetter : MethodName := ⟨RX3, "ofLetter", "(I)I"⟩
def RX4 : String := "EarTrumpets$Net"
def TX4 : u_T := fun k => match k with
  | 0 => ("EarTrumpets$Net", "cells", "[I", true)
  | _ => ("EarTrumpets$Net", "out", "[I", true)
def tyX4 : Nat → FieldType := fun k => match k with
  | 0 => .array .int
  | _ => .array .int
abbrev wsX40 : List Cond := u_ws RX4 TX4 2
theorem nmX4 : ∀ a, a < 2 → ∀ b, b < 2 → a ≠ b → (TX4 a).2.1 ≠ (TX4 b).2.1 := by decide +kernel
theorem tyX4_ok : ∀ k, k < 2 → parseFieldDescriptor (TX4 k).2.2.1 = some (tyX4 k) := by decide +kernel
abbrev cX4_init : ByteArray := prog_6_method_1_code
def yX4_init : MethodName := ⟨RX4, "<init>", "()V"⟩
abbrev cX4_wordOf : ByteArray := prog_6_method_2_code
def yX4_wordOf : MethodName := ⟨RX4, "wordOf", "(I)I"⟩
abbrev cX4_loudnessOf : ByteArray := prog_6_method_3_code
def yX4_loudnessOf : MethodName := ⟨RX4, "loudnessOf", "(I)I"⟩
abbrev cX4_soundOf : ByteArray := prog_6_method_4_code
def yX4_soundOf : MethodName := ⟨RX4, "soundOf", "(II)I"⟩
abbrev cX4_take : ByteArray := prog_6_method_5_code
def yX4_take : MethodName := ⟨RX4, "take", "([I)V"⟩
abbrev cX4_clear : ByteArray := prog_6_method_6_code
def yX4_clear : MethodName := ⟨RX4, "clear", "()V"⟩
abbrev cX4_stands : ByteArray := prog_6_method_7_code
def yX4_stands : MethodName := ⟨RX4, "stands", "()Z"⟩
abbrev cX4_isHorn : ByteArray := prog_6_method_8_code
def yX4_isHorn : MethodName := ⟨RX4, "isHorn", "(I)Z"⟩
abbrev cX4_isPipe : ByteArray := prog_6_method_9_code
def yX4_isPipe : MethodName := ⟨RX4, "isPipe", "(I)Z"⟩
abbrev cX4_isOpen : ByteArray := prog_6_method_10_code
def yX4_isOpen : MethodName := ⟨RX4, "isOpen", "(I)Z"⟩
abbrev cX4_allHorns : ByteArray := prog_6_method_11_code
def yX4_allHorns : MethodName := ⟨RX4, "allHorns", "()I"⟩
abbrev cX4_allPipes : ByteArray := prog_6_method_12_code
def yX4_allPipes : MethodName := ⟨RX4, "allPipes", "()I"⟩
abbrev cX4_pipesWith : ByteArray := prog_6_method_13_code
def yX4_pipesWith : MethodName := ⟨RX4, "pipesWith", "(II)I"⟩
abbrev cX4_soundsIn : ByteArray := prog_6_method_14_code
def yX4_soundsIn : MethodName := ⟨RX4, "soundsIn", "(I)I"⟩
abbrev cX4_soundsInAll : ByteArray := prog_6_method_15_code
def yX4_soundsInAll : MethodName := ⟨RX4, "soundsInAll", "()I"⟩
abbrev cX4_isSilent : ByteArray := prog_6_method_16_code
def yX4_isSilent : MethodName := ⟨RX4, "isSilent", "()Z"⟩
abbrev cX4_silence : ByteArray := prog_6_method_17_code
def yX4_silence : MethodName := ⟨RX4, "silence", "()V"⟩
abbrev cX4_letIn : ByteArray := prog_6_method_18_code
def yX4_letIn : MethodName := ⟨RX4, "letIn", "(III)I"⟩
abbrev cX4_passBreath : ByteArray := prog_6_method_19_code
def yX4_passBreath : MethodName := ⟨RX4, "passBreath", "()I"⟩
abbrev cX4_hearOut : ByteArray := prog_6_method_20_code
def yX4_hearOut : MethodName := ⟨RX4, "hearOut", "()I"⟩
abbrev cX4_moveOn : ByteArray := prog_6_method_21_code
def yX4_moveOn : MethodName := ⟨RX4, "moveOn", "(I)I"⟩
abbrev cX4_comesOut : ByteArray := prog_6_method_22_code
def yX4_comesOut : MethodName := ⟨RX4, "comesOut", "(II)I"⟩
def RX5 : String := "EarTrumpets$Rows"
def TX5 : u_T := fun k => match k with
  | 0 => ("EarTrumpets$Rows", "items", "[[I", true)
  | 1 => ("EarTrumpets$Rows", "lanes", "[I", true)
  | _ => ("EarTrumpets$Rows", "sizes", "[I", true)
def tyX5 : Nat → FieldType := fun k => match k with
  | 0 => .array (.array .int)
  | 1 => .array .int
  | _ => .array .int
abbrev wsX50 : List Cond := u_ws RX5 TX5 3
theorem nmX5 : ∀ a, a < 3 → ∀ b, b < 3 → a ≠ b → (TX5 a).2.1 ≠ (TX5 b).2.1 := by decide +kernel
theorem tyX5_ok : ∀ k, k < 3 → parseFieldDescriptor (TX5 k).2.2.1 = some (tyX5 k) := by decide +kernel
abbrev cX5_init : ByteArray := prog_7_method_1_code
def yX5_init : MethodName := ⟨RX5, "<init>", "()V"⟩
abbrev cX5_isRow : ByteArray := prog_7_method_2_code
def yX5_isRow : MethodName := ⟨RX5, "isRow", "(I)Z"⟩
abbrev cX5_isMissing : ByteArray := prog_7_method_3_code
def yX5_isMissing : MethodName := ⟨RX5, "isMissing", "(I)Z"⟩
abbrev cX5_lay : ByteArray := prog_7_method_4_code
def yX5_lay : MethodName := ⟨RX5, "lay", "(III)V"⟩
abbrev cX5_hasStretch : ByteArray := prog_7_method_5_code
def yX5_hasStretch : MethodName := ⟨RX5, "hasStretch", "(III)Z"⟩
abbrev cX5_put : ByteArray := prog_7_method_6_code
def yX5_put : MethodName := ⟨RX5, "put", "(III)I"⟩
abbrev cX5_takeAway : ByteArray := prog_7_method_7_code
def yX5_takeAway : MethodName := ⟨RX5, "takeAway", "(I)I"⟩
abbrev cX5_howMany : ByteArray := prog_7_method_8_code
def yX5_howMany : MethodName := ⟨RX5, "howMany", "()I"⟩
def RX6 : String := "EarTrumpets$Tape"
def TX6 : u_T := fun k => match k with
  | 0 => ("EarTrumpets$Tape", "bytes", "[I", true)
  | 1 => ("EarTrumpets$Tape", "size", "I", false)
  | 2 => ("EarTrumpets$Tape", "fault", "I", false)
  | 3 => ("EarTrumpets$Tape", "place", "I", false)
  | _ => ("EarTrumpets$Tape", "at", "I", false)
def tyX6 : Nat → FieldType := fun k => match k with
  | 0 => .array .int
  | 1 => .int
  | 2 => .int
  | 3 => .int
  | _ => .int
abbrev wsX60 : List Cond := u_ws RX6 TX6 5
theorem nmX6 : ∀ a, a < 5 → ∀ b, b < 5 → a ≠ b → (TX6 a).2.1 ≠ (TX6 b).2.1 := by decide +kernel
theorem tyX6_ok : ∀ k, k < 5 → parseFieldDescriptor (TX6 k).2.2.1 = some (tyX6 k) := by decide +kernel
abbrev cX6_init : ByteArray := prog_8_method_1_code
def yX6_init : MethodName := ⟨RX6, "<init>", "()V"⟩
abbrev cX6_append : ByteArray := prog_8_method_2_code
def yX6_append : MethodName := ⟨RX6, "append", "(I)Z"⟩
abbrev cX6_readInto : ByteArray := prog_8_method_3_code
def yX6_readInto : MethodName := ⟨RX6, "readInto", "(LEarTrumpets$Net;)Z"⟩
abbrev cX6_readLaw : ByteArray := prog_8_method_4_code
def yX6_readLaw : MethodName := ⟨RX6, "readLaw", "(LEarTrumpets$Net;)Z"⟩
abbrev cX6_readPipe : ByteArray := prog_8_method_5_code
def yX6_readPipe : MethodName := ⟨RX6, "readPipe", "(LEarTrumpets$Net;)Z"⟩
abbrev cX6_passes : ByteArray := prog_8_method_6_code
def yX6_passes : MethodName := ⟨RX6, "passes", "(I)Z"⟩
abbrev cX6_number : ByteArray := prog_8_method_7_code
def yX6_number : MethodName := ⟨RX6, "number", "(III)I"⟩
abbrev cX6_refuse : ByteArray := prog_8_method_8_code
def yX6_refuse : MethodName := ⟨RX6, "refuse", "(II)Z"⟩
def RX7 : String := "EarTrumpets"
def TX7 : u_T := fun k => match k with
  | 0 => ("EarTrumpets", "rows", "LEarTrumpets$Rows;", true)
  | 1 => ("EarTrumpets", "tape", "LEarTrumpets$Tape;", true)
  | 2 => ("EarTrumpets", "net", "LEarTrumpets$Net;", true)
  | 3 => ("EarTrumpets", "draft", "LEarTrumpets$Net;", true)
  | 4 => ("EarTrumpets", "acts", "LEarTrumpets$Acts;", true)
  | 5 => ("EarTrumpets", "foresight", "LEarTrumpets$Foresight;", true)
  | 6 => ("EarTrumpets", "bodies", "LEarTrumpets$Bodies;", true)
  | 7 => ("EarTrumpets", "images", "[[I", true)
  | _ => ("EarTrumpets", "finding", "I", false)
def tyX7 : Nat → FieldType := fun k => match k with
  | 0 => .object "EarTrumpets$Rows"
  | 1 => .object "EarTrumpets$Tape"
  | 2 => .object "EarTrumpets$Net"
  | 3 => .object "EarTrumpets$Net"
  | 4 => .object "EarTrumpets$Acts"
  | 5 => .object "EarTrumpets$Foresight"
  | 6 => .object "EarTrumpets$Bodies"
  | 7 => .array (.array .int)
  | _ => .int
abbrev wsX70 : List Cond := u_ws RX7 TX7 9
theorem nmX7 : ∀ a, a < 9 → ∀ b, b < 9 → a ≠ b → (TX7 a).2.1 ≠ (TX7 b).2.1 := by decide +kernel
theorem tyX7_ok : ∀ k, k < 9 → parseFieldDescriptor (TX7 k).2.2.1 = some (tyX7 k) := by decide +kernel
abbrev cX7_init : ByteArray := prog_1_method_1_code
def yX7_init : MethodName := ⟨RX7, "<init>", "()V"⟩
abbrev cX7_row : ByteArray := prog_1_method_2_code
def yX7_row : MethodName := ⟨RX7, "row", "(III)I"⟩
abbrev cX7_set : ByteArray := prog_1_method_3_code
def yX7_set : MethodName := ⟨RX7, "set", "(III)I"⟩
abbrev cX7_copy : ByteArray := prog_1_method_4_code
def yX7_copy : MethodName := ⟨RX7, "copy", "(IIIII)I"⟩
abbrev cX7_drop : ByteArray := prog_1_method_5_code
def yX7_drop : MethodName := ⟨RX7, "drop", "(I)I"⟩
abbrev cX7_feed : ByteArray := prog_1_method_6_code
def yX7_feed : MethodName := ⟨RX7, "feed", "(I)I"⟩
abbrev cX7_house : ByteArray := prog_1_method_7_code
def yX7_house : MethodName := ⟨RX7, "house", "()I"⟩
abbrev cX7_fault : ByteArray := prog_1_method_8_code
def yX7_fault : MethodName := ⟨RX7, "fault", "()I"⟩
abbrev cX7_undo : ByteArray := prog_1_method_9_code
def yX7_undo : MethodName := ⟨RX7, "undo", "()I"⟩
abbrev cX7_breathe : ByteArray := prog_1_method_10_code
def yX7_breathe : MethodName := ⟨RX7, "breathe", "(I)I"⟩
abbrev cX7_speak : ByteArray := prog_1_method_11_code
def yX7_speak : MethodName := ⟨RX7, "speak", "(III)I"⟩
abbrev cX7_tap : ByteArray := prog_1_method_12_code
def yX7_tap : MethodName := ⟨RX7, "tap", "(II)I"⟩
abbrev cX7_dent : ByteArray := prog_1_method_13_code
def yX7_dent : MethodName := ⟨RX7, "dent", "(II)I"⟩
abbrev cX7_hush : ByteArray := prog_1_method_14_code
def yX7_hush : MethodName := ⟨RX7, "hush", "()I"⟩
abbrev cX7_pipe : ByteArray := prog_1_method_15_code
def yX7_pipe : MethodName := ⟨RX7, "pipe", "(II)I"⟩
abbrev cX7_inside : ByteArray := prog_1_method_16_code
def yX7_inside : MethodName := ⟨RX7, "inside", "(II)I"⟩
abbrev cX7_horn : ByteArray := prog_1_method_17_code
def yX7_horn : MethodName := ⟨RX7, "horn", "(II)I"⟩
abbrev cX7_ahead : ByteArray := prog_1_method_18_code
def yX7_ahead : MethodName := ⟨RX7, "ahead", "(III)I"⟩
abbrev cX7_first : ByteArray := prog_1_method_19_code
def yX7_first : MethodName := ⟨RX7, "first", "(I)I"⟩
abbrev cX7_hearers : ByteArray := prog_1_method_20_code
def yX7_hearers : MethodName := ⟨RX7, "hearers", "(I)I"⟩
abbrev cX7_quiet : ByteArray := prog_1_method_21_code
def yX7_quiet : MethodName := ⟨RX7, "quiet", "()I"⟩
abbrev cX7_shuts : ByteArray := prog_1_method_22_code
def yX7_shuts : MethodName := ⟨RX7, "shuts", "(IIII)I"⟩
abbrev cX7_opens : ByteArray := prog_1_method_23_code
def yX7_opens : MethodName := ⟨RX7, "opens", "(IIII)I"⟩
abbrev cX7_loud : ByteArray := prog_1_method_24_code
def yX7_loud : MethodName := ⟨RX7, "loud", "(III)I"⟩
abbrev cX7_say : ByteArray := prog_1_method_25_code
def yX7_say : MethodName := ⟨RX7, "say", "(IIII)I"⟩
abbrev cX7_round : ByteArray := prog_1_method_26_code
def yX7_round : MethodName := ⟨RX7, "round", "(I)I"⟩
abbrev cX7_way : ByteArray := prog_1_method_27_code
def yX7_way : MethodName := ⟨RX7, "way", "(II)I"⟩
abbrev cX7_who : ByteArray := prog_1_method_28_code
def yX7_who : MethodName := ⟨RX7, "who", "(IIIIII)I"⟩
abbrev cX7_spoke : ByteArray := prog_1_method_29_code
def yX7_spoke : MethodName := ⟨RX7, "spoke", "(IIIII)I"⟩
abbrev cX7_cold : ByteArray := prog_1_method_30_code
def yX7_cold : MethodName := ⟨RX7, "cold", "(I)I"⟩
abbrev cX7_stuck : ByteArray := prog_1_method_31_code
def yX7_stuck : MethodName := ⟨RX7, "stuck", "(IIII)J"⟩
abbrev cX7_drawn : ByteArray := prog_1_method_32_code
def yX7_drawn : MethodName := ⟨RX7, "drawn", "(III)I"⟩
abbrev cX7_image : ByteArray := prog_1_method_33_code
def yX7_image : MethodName := ⟨RX7, "image", "(I)I"⟩
abbrev cX7_restore : ByteArray := prog_1_method_34_code
def yX7_restore : MethodName := ⟨RX7, "restore", "(I)I"⟩
abbrev cX7_kind : ByteArray := prog_1_method_35_code
def yX7_kind : MethodName := ⟨RX7, "kind", "(I)I"⟩
abbrev cX7_as : ByteArray := prog_1_method_36_code
def yX7_as : MethodName := ⟨RX7, "as", "(II)I"⟩
abbrev cX7_ask : ByteArray := prog_1_method_37_code
def yX7_ask : MethodName := ⟨RX7, "ask", "(II)I"⟩
abbrev cX7_trace : ByteArray := prog_1_method_38_code
def yX7_trace : MethodName := ⟨RX7, "trace", "(I)I"⟩
abbrev cX7_count : ByteArray := prog_1_method_39_code
def yX7_count : MethodName := ⟨RX7, "count", "(I)I"⟩
abbrev cX7_status : ByteArray := prog_1_method_40_code
def yX7_status : MethodName := ⟨RX7, "status", "()I"⟩
abbrev cX7_found : ByteArray := prog_1_method_41_code
def yX7_found : MethodName := ⟨RX7, "found", "(I)I"⟩
abbrev cX7_unfound : ByteArray := prog_1_method_42_code
def yX7_unfound : MethodName := ⟨RX7, "unfound", "(I)I"⟩
abbrev cX7_seen : ByteArray := prog_1_method_43_code
def yX7_seen : MethodName := ⟨RX7, "seen", "()LEarTrumpets$Foresight;"⟩
abbrev cX7_isWithin : ByteArray := prog_1_method_44_code
def yX7_isWithin : MethodName := ⟨RX7, "isWithin", "(III)Z"⟩
abbrev cX7_wordOrNone : ByteArray := prog_1_method_45_code
def yX7_wordOrNone : MethodName := ⟨RX7, "wordOrNone", "(I)I"⟩
abbrev cX7_sizeOrSet : ByteArray := prog_1_method_46_code
def yX7_sizeOrSet : MethodName := ⟨RX7, "sizeOrSet", "(II)I"⟩
def RX8 : String := "EarTrumpetsModel"
def TX8 : u_T := fun k => match k with
  | 0 => ("EarTrumpetsModel", "thrown", "I", false)
  | 1 => ("EarTrumpetsModel", "status", "I", false)
  | 2 => ("EarTrumpetsModel", "lane", "[I", true)
  | 3 => ("EarTrumpetsModel", "many", "[I", true)
  | 4 => ("EarTrumpetsModel", "item", "[I", true)
  | 5 => ("EarTrumpetsModel", "house", "[I", true)
  | 6 => ("EarTrumpetsModel", "fresh", "[I", true)
  | 7 => ("EarTrumpetsModel", "then", "[I", true)
  | 8 => ("EarTrumpetsModel", "was", "[I", true)
  | 9 => ("EarTrumpetsModel", "acts", "I", false)
  | 10 => ("EarTrumpetsModel", "tape", "[I", true)
  | 11 => ("EarTrumpetsModel", "taped", "I", false)
  | 12 => ("EarTrumpetsModel", "cursor", "I", false)
  | 13 => ("EarTrumpetsModel", "start", "I", false)
  | 14 => ("EarTrumpetsModel", "token", "I", false)
  | 15 => ("EarTrumpetsModel", "value", "I", false)
  | 16 => ("EarTrumpetsModel", "fault", "I", false)
  | 17 => ("EarTrumpetsModel", "faultAt", "I", false)
  | 18 => ("EarTrumpetsModel", "latest", "I", false)
  | 19 => ("EarTrumpetsModel", "hears", "[I", true)
  | 20 => ("EarTrumpetsModel", "isKept", "[Z", true)
  | 21 => ("EarTrumpetsModel", "kept", "[I", true)
  | 22 => ("EarTrumpetsModel", "trace", "[I", true)
  | _ => ("EarTrumpetsModel", "traced", "I", false)
def tyX8 : Nat → FieldType := fun k => match k with
  | 0 => .int
  | 1 => .int
  | 2 => .array .int
  | 3 => .array .int
  | 4 => .array .int
  | 5 => .array .int
  | 6 => .array .int
  | 7 => .array .int
  | 8 => .array .int
  | 9 => .int
  | 10 => .array .int
  | 11 => .int
  | 12 => .int
  | 13 => .int
  | 14 => .int
  | 15 => .int
  | 16 => .int
  | 17 => .int
  | 18 => .int
  | 19 => .array .int
  | 20 => .array .boolean
  | 21 => .array .int
  | 22 => .array .int
  | _ => .int
abbrev wsX80 : List Cond := u_ws RX8 TX8 24
theorem nmX8 : ∀ a, a < 24 → ∀ b, b < 24 → a ≠ b → (TX8 a).2.1 ≠ (TX8 b).2.1 := by decide +kernel
theorem tyX8_ok : ∀ k, k < 24 → parseFieldDescriptor (TX8 k).2.2.1 = some (tyX8 k) := by decide +kernel
abbrev cX8_init : ByteArray := prog_10_method_1_code
def yX8_init : MethodName := ⟨RX8, "<init>", "()V"⟩
abbrev cX8_in : ByteArray := prog_10_method_3_code
def yX8_in : MethodName := ⟨RX8, "in", "(JJJ)Z"⟩
abbrev cX8_finding : ByteArray := prog_10_method_4_code
def yX8_finding : MethodName := ⟨RX8, "finding", "(I)I"⟩
abbrev cX8_isRow : ByteArray := prog_10_method_5_code
def yX8_isRow : MethodName := ⟨RX8, "isRow", "(I)Z"⟩
abbrev cX8_row : ByteArray := prog_10_method_6_code
def yX8_row : MethodName := ⟨RX8, "row", "(III)I"⟩
abbrev cX8_set : ByteArray := prog_10_method_7_code
def yX8_set : MethodName := ⟨RX8, "set", "(III)I"⟩
abbrev cX8_copy : ByteArray := prog_10_method_8_code
def yX8_copy : MethodName := ⟨RX8, "copy", "(IIIII)I"⟩
abbrev cX8_drop : ByteArray := prog_10_method_9_code
def yX8_drop : MethodName := ⟨RX8, "drop", "(I)I"⟩
abbrev cX8_feed : ByteArray := prog_10_method_10_code
def yX8_feed : MethodName := ⟨RX8, "feed", "(I)I"⟩
abbrev cX8_bad : ByteArray := prog_10_method_11_code
def yX8_bad : MethodName := ⟨RX8, "bad", "(I)V"⟩
abbrev cX8_nextToken : ByteArray := prog_10_method_12_code
def yX8_nextToken : MethodName := ⟨RX8, "nextToken", "()V"⟩
abbrev cX8_must : ByteArray := prog_10_method_13_code
def yX8_must : MethodName := ⟨RX8, "must", "(Z)V"⟩
abbrev cX8_isLetter : ByteArray := prog_10_method_14_code
def yX8_isLetter : MethodName := ⟨RX8, "isLetter", "(I)Z"⟩
abbrev cX8_number : ByteArray := prog_10_method_15_code
def yX8_number : MethodName := ⟨RX8, "number", "(II)I"⟩
abbrev cX8_mustSign : ByteArray := prog_10_method_16_code
def yX8_mustSign : MethodName := ⟨RX8, "mustSign", "(I)V"⟩
abbrev cX8_begin : ByteArray := prog_10_method_17_code
def yX8_begin : MethodName := ⟨RX8, "begin", "()V"⟩
abbrev cX8_failed : ByteArray := prog_10_method_18_code
def yX8_failed : MethodName := ⟨RX8, "failed", "()Z"⟩
abbrev cX8_fault : ByteArray := prog_10_method_19_code
def yX8_fault : MethodName := ⟨RX8, "fault", "()I"⟩
abbrev cX8_kindBy : ByteArray := prog_10_method_20_code
def yX8_kindBy : MethodName := ⟨RX8, "kindBy", "(I)I"⟩
abbrev cX8_isSort : ByteArray := prog_10_method_21_code
def yX8_isSort : MethodName := ⟨RX8, "isSort", "()Z"⟩
abbrev cX8_readPipe : ByteArray := prog_10_method_22_code
def yX8_readPipe : MethodName := ⟨RX8, "readPipe", "()V"⟩
abbrev cX8_house : ByteArray := prog_10_method_23_code
def yX8_house : MethodName := ⟨RX8, "house", "()I"⟩
abbrev cX8_isThere : ByteArray := prog_10_method_24_code
def yX8_isThere : MethodName := ⟨RX8, "isThere", "()Z"⟩
abbrev cX8_isPipe : ByteArray := prog_10_method_25_code
def yX8_isPipe : MethodName := ⟨RX8, "isPipe", "(I)Z"⟩
abbrev cX8_isHorn : ByteArray := prog_10_method_26_code
def yX8_isHorn : MethodName := ⟨RX8, "isHorn", "(I)Z"⟩
abbrev cX8_areHorns : ByteArray := prog_10_method_27_code
def yX8_areHorns : MethodName := ⟨RX8, "areHorns", "(I)Z"⟩
abbrev cX8_bits : ByteArray := prog_10_method_28_code
def yX8_bits : MethodName := ⟨RX8, "bits", "(I)I"⟩
abbrev cX8_has : ByteArray := prog_10_method_29_code
def yX8_has : MethodName := ⟨RX8, "has", "(II)Z"⟩
abbrev cX8_of : ByteArray := prog_10_method_30_code
def yX8_of : MethodName := ⟨RX8, "of", "([III)I"⟩
abbrev cX8_out : ByteArray := prog_10_method_31_code
def yX8_out : MethodName := ⟨RX8, "out", "([II)I"⟩
abbrev cX8_breath : ByteArray := prog_10_method_32_code
def yX8_breath : MethodName := ⟨RX8, "breath", "([I)I"⟩
abbrev cX8_speech : ByteArray := prog_10_method_33_code
def yX8_speech : MethodName := ⟨RX8, "speech", "([IIII)I"⟩
abbrev cX8_soundsIn : ByteArray := prog_10_method_34_code
def yX8_soundsIn : MethodName := ⟨RX8, "soundsIn", "([II)I"⟩
abbrev cX8_sounds : ByteArray := prog_10_method_35_code
def yX8_sounds : MethodName := ⟨RX8, "sounds", "([I)I"⟩
abbrev cX8_silence : ByteArray := prog_10_method_36_code
def yX8_silence : MethodName := ⟨RX8, "silence", "([I)I"⟩
abbrev cX8_layThen : ByteArray := prog_10_method_37_code
def yX8_layThen : MethodName := ⟨RX8, "layThen", "()V"⟩
abbrev cX8_hearersIn : ByteArray := prog_10_method_38_code
def yX8_hearersIn : MethodName := ⟨RX8, "hearersIn", "(I)I"⟩
abbrev cX8_keep : ByteArray := prog_10_method_39_code
def yX8_keep : MethodName := ⟨RX8, "keep", "()V"⟩
abbrev cX8_breathe : ByteArray := prog_10_method_40_code
def yX8_breathe : MethodName := ⟨RX8, "breathe", "(I)I"⟩
abbrev cX8_speak : ByteArray := prog_10_method_41_code
def yX8_speak : MethodName := ⟨RX8, "speak", "(III)I"⟩
abbrev cX8_tap : ByteArray := prog_10_method_42_code
def yX8_tap : MethodName := ⟨RX8, "tap", "(II)I"⟩
abbrev cX8_dent : ByteArray := prog_10_method_43_code
def yX8_dent : MethodName := ⟨RX8, "dent", "(II)I"⟩
abbrev cX8_hush : ByteArray := prog_10_method_44_code
def yX8_hush : MethodName := ⟨RX8, "hush", "()I"⟩
abbrev cX8_undo : ByteArray := prog_10_method_45_code
def yX8_undo : MethodName := ⟨RX8, "undo", "()I"⟩
abbrev cX8_pipe : ByteArray := prog_10_method_46_code
def yX8_pipe : MethodName := ⟨RX8, "pipe", "(II)I"⟩
abbrev cX8_inside : ByteArray := prog_10_method_47_code
def yX8_inside : MethodName := ⟨RX8, "inside", "(II)I"⟩
abbrev cX8_horn : ByteArray := prog_10_method_48_code
def yX8_horn : MethodName := ⟨RX8, "horn", "(II)I"⟩
abbrev cX8_ahead : ByteArray := prog_10_method_49_code
def yX8_ahead : MethodName := ⟨RX8, "ahead", "(III)I"⟩
abbrev cX8_firstBy : ByteArray := prog_10_method_50_code
def yX8_firstBy : MethodName := ⟨RX8, "firstBy", "(I)I"⟩
abbrev cX8_first : ByteArray := prog_10_method_51_code
def yX8_first : MethodName := ⟨RX8, "first", "(I)I"⟩
abbrev cX8_hearers : ByteArray := prog_10_method_52_code
def yX8_hearers : MethodName := ⟨RX8, "hearers", "(I)I"⟩
abbrev cX8_quiet : ByteArray := prog_10_method_53_code
def yX8_quiet : MethodName := ⟨RX8, "quiet", "()I"⟩
abbrev cX8_shuts : ByteArray := prog_10_method_54_code
def yX8_shuts : MethodName := ⟨RX8, "shuts", "(IIII)I"⟩
abbrev cX8_opens : ByteArray := prog_10_method_55_code
def yX8_opens : MethodName := ⟨RX8, "opens", "(IIII)I"⟩
abbrev cX8_loud : ByteArray := prog_10_method_56_code
def yX8_loud : MethodName := ⟨RX8, "loud", "(III)I"⟩
abbrev cX8_say : ByteArray := prog_10_method_57_code
def yX8_say : MethodName := ⟨RX8, "say", "(IIII)I"⟩
abbrev cX8_round : ByteArray := prog_10_method_58_code
def yX8_round : MethodName := ⟨RX8, "round", "(I)I"⟩
abbrev cX8_way : ByteArray := prog_10_method_59_code
def yX8_way : MethodName := ⟨RX8, "way", "(II)I"⟩
abbrev cX8_hearsSo : ByteArray := prog_10_method_60_code
def yX8_hearsSo : MethodName := ⟨RX8, "hearsSo", "(III)Z"⟩
abbrev cX8_rowFound : ByteArray := prog_10_method_61_code
def yX8_rowFound : MethodName := ⟨RX8, "rowFound", "(III)I"⟩
abbrev cX8_who : ByteArray := prog_10_method_62_code
def yX8_who : MethodName := ⟨RX8, "who", "(IIIIII)I"⟩
abbrev cX8_spoke : ByteArray := prog_10_method_63_code
def yX8_spoke : MethodName := ⟨RX8, "spoke", "(IIIII)I"⟩
abbrev cX8_cold : ByteArray := prog_10_method_64_code
def yX8_cold : MethodName := ⟨RX8, "cold", "(I)I"⟩
abbrev cX8_stuck : ByteArray := prog_10_method_65_code
def yX8_stuck : MethodName := ⟨RX8, "stuck", "(IIII)J"⟩
abbrev cX8_drawn : ByteArray := prog_10_method_66_code
def yX8_drawn : MethodName := ⟨RX8, "drawn", "(III)I"⟩
abbrev cX8_image : ByteArray := prog_10_method_67_code
def yX8_image : MethodName := ⟨RX8, "image", "(I)I"⟩
abbrev cX8_restore : ByteArray := prog_10_method_68_code
def yX8_restore : MethodName := ⟨RX8, "restore", "(I)I"⟩
abbrev cX8_isOf : ByteArray := prog_10_method_69_code
def yX8_isOf : MethodName := ⟨RX8, "isOf", "(II)Z"⟩
abbrev cX8_kind : ByteArray := prog_10_method_70_code
def yX8_kind : MethodName := ⟨RX8, "kind", "(I)I"⟩
abbrev cX8_as : ByteArray := prog_10_method_71_code
def yX8_as : MethodName := ⟨RX8, "as", "(II)I"⟩
abbrev cX8_began : ByteArray := prog_10_method_72_code
def yX8_began : MethodName := ⟨RX8, "began", "(I)V"⟩
abbrev cX8_plainSize : ByteArray := prog_10_method_73_code
def yX8_plainSize : MethodName := ⟨RX8, "plainSize", "(I)I"⟩
abbrev cX8_leakySize : ByteArray := prog_10_method_74_code
def yX8_leakySize : MethodName := ⟨RX8, "leakySize", "(I)I"⟩
abbrev cX8_markOf : ByteArray := prog_10_method_75_code
def yX8_markOf : MethodName := ⟨RX8, "markOf", "(I)I"⟩
abbrev cX8_sizeOf : ByteArray := prog_10_method_76_code
def yX8_sizeOf : MethodName := ⟨RX8, "sizeOf", "(I)I"⟩
abbrev cX8_ask : ByteArray := prog_10_method_77_code
def yX8_ask : MethodName := ⟨RX8, "ask", "(II)I"⟩
abbrev cX8_trace : ByteArray := prog_10_method_78_code
def yX8_trace : MethodName := ⟨RX8, "trace", "(I)I"⟩
abbrev cX8_count : ByteArray := prog_10_method_79_code
def yX8_count : MethodName := ⟨RX8, "count", "(I)I"⟩
abbrev cX8_status : ByteArray := prog_10_method_80_code
def yX8_status : MethodName := ⟨RX8, "status", "()I"⟩
def RJ6 : String := "java/lang/Integer"
def TJ6 : u_T := fun k => match k with
  | _ => ("", "", "", false)
def tyJ6 : Nat → FieldType := fun k => match k with
  | _ => .int
abbrev wsJ60 : List Cond := u_ws RJ6 TJ6 0
theorem nmJ6 : ∀ a, a < 0 → ∀ b, b < 0 → a ≠ b → (TJ6 a).2.1 ≠ (TJ6 b).2.1 := by decide +kernel
theorem tyJ6_ok : ∀ k, k < 0 → parseFieldDescriptor (TJ6 k).2.2.1 = some (tyJ6 k) := by decide +kernel
abbrev cJ6_bitCount_0f7a4 : ByteArray := prog_11_method_49_code
def yJ6_bitCount_0f7a4 : MethodName := ⟨RJ6, "bitCount", "(I)I"⟩
def RJ9 : String := "java/lang/Math"
def TJ9 : u_T := fun k => match k with
  | _ => ("", "", "", false)
def tyJ9 : Nat → FieldType := fun k => match k with
  | _ => .int
abbrev wsJ90 : List Cond := u_ws RJ9 TJ9 0
theorem nmJ9 : ∀ a, a < 0 → ∀ b, b < 0 → a ≠ b → (TJ9 a).2.1 ≠ (TJ9 b).2.1 := by decide +kernel
theorem tyJ9_ok : ∀ k, k < 0 → parseFieldDescriptor (TJ9 k).2.2.1 = some (tyJ9 k) := by decide +kernel
abbrev cJ9_max_7cf53 : ByteArray := prog_12_method_65_code
def yJ9_max_7cf53 : MethodName := ⟨RJ9, "max", "(II)I"⟩
abbrev cJ9_min_7cf53 : ByteArray := prog_12_method_69_code
def yJ9_min_7cf53 : MethodName := ⟨RJ9, "min", "(II)I"⟩
def RJ10 : String := "java/lang/System"
def TJ10 : u_T := fun k => match k with
  | _ => ("", "", "", false)
def tyJ10 : Nat → FieldType := fun k => match k with
  | _ => .int
abbrev wsJ100 : List Cond := u_ws RJ10 TJ10 0
theorem nmJ10 : ∀ a, a < 0 → ∀ b, b < 0 → a ≠ b → (TJ10 a).2.1 ≠ (TJ10 b).2.1 := by decide +kernel
theorem tyJ10_ok : ∀ k, k < 0 → parseFieldDescriptor (TJ10 k).2.2.1 = some (tyJ10 k) := by decide +kernel
def RL : String := "EarTrumpetsLaw"
abbrev cL_law : ByteArray := code
def yL_law : MethodName := ⟨RL, "law", "([I)Z"⟩
abbrev vwCl : List vw_C := [(RX0, TX0, 3), (RX1, TX1, 2), (RX2, TX2, 2), (RX4, TX4, 2), (RX5, TX5, 3), (RX6, TX6, 5), (RX7, TX7, 9), (RX8, TX8, 24)]
end
section
/-! the words that keep: one list for every method -/
def gT : List Cond := lw_tbl.filter goodWord
theorem gT_mk {w : Cond} (h : w ∈ lw_tbl) (g : goodWord w = true) : w ∈ gT := List.mem_filter.mpr ⟨h, g⟩
theorem gT_lw {w : Cond} (h : w ∈ gT) : w ∈ lw_tbl := (List.mem_filter.mp h).1
theorem gT_gd {w : Cond} (h : w ∈ gT) : goodWord w = true := (List.mem_filter.mp h).2
theorem gT_good {ws : List Cond} (h : ∀ w ∈ ws, w ∈ gT) : GoodIn gT ws := fun w hw => ⟨h w hw, good_of_word (gT_gd (h w hw))⟩
theorem gT_s {w : Cond} (i : Nat) (h : (k2_sels lw_privs)[i]? = some w) : w ∈ lw_tbl := List.mem_append_left _ (List.mem_of_getElem? h)
theorem gT_1 {w : Cond} (i : Nat) (h : tables_1_1[i]? = some w) : w ∈ lw_tbl := List.mem_append_right _ (List.mem_append_left _ (List.mem_of_getElem? h))
theorem gT_2 {w : Cond} (i : Nat) (h : tables_1_2[i]? = some w) : w ∈ lw_tbl := List.mem_append_right _ (List.mem_append_right _ (List.mem_append_left _ (List.mem_of_getElem? h)))
theorem gT_3 {w : Cond} (i : Nat) (h : tables_1_3[i]? = some w) : w ∈ lw_tbl := List.mem_append_right _ (List.mem_append_right _ (List.mem_append_right _ (List.mem_append_left _ (List.mem_of_getElem? h))))
theorem gT_4 {w : Cond} (i : Nat) (h : tables_1_4[i]? = some w) : w ∈ lw_tbl := List.mem_append_right _ (List.mem_append_right _ (List.mem_append_right _ (List.mem_append_right _ (List.mem_append_left _ (List.mem_of_getElem? h)))))
theorem gT_5 {w : Cond} (i : Nat) (h : tables_1_5[i]? = some w) : w ∈ lw_tbl := List.mem_append_right _ (List.mem_append_right _ (List.mem_append_right _ (List.mem_append_right _ (List.mem_append_right _ (List.mem_of_getElem? h)))))
/-! the pure state: what the arrays hold, by their roles; what the int fields hold -/
abbrev St : Type := (Nat → Nat → Int32) × (Nat → Int32)
abbrev Gx : Type := va_G × (ClassId × ClassId × ClassId) × (Nat → Nat) × (Nat → Nat)
def gI (G : Gx) : ClassId := G.2.1.1
def gZ (G : Gx) : ClassId := G.2.1.2.1
def gA (G : Gx) : ClassId := G.2.1.2.2
def ga (G : Gx) (k : Nat) : Nat := G.2.2.1 k
def gs (G : Gx) (k : Nat) : Nat := G.2.2.2 k
def alen (k : Nat) : Nat := match k with
  | 5 => 6 | 8 => 6 | 11 => 6 | 14 => 6 | 20 => 8 | 21 => 8 | 22 => 120 | 24 => 16 | 26 => 8 | 27 => 8 | 28 => 320 | 32 => 1920 | 33 => 120 | 34 => 6 | 36 => 160 | 37 => 16
  | 38 => 40 | 39 => 40 | 40 => 40 | 41 => 40 | 42 => 40 | 43 => 40 | 44 => 40 | 45 => 40 | _ => 80
def refs (G : Gx) (b n : Nat) : Nat → Option Nat := fun i => if i < n then some (ga G (b + i)) else none
def cellOf (G : Gx) (σ : St) (k : Nat) : va_E := match k with
  | 0 => .inr (6, [.ref (ga G 1), .ref (ga G 2), .ref (ga G 3), .ref (ga G 6), .ref (ga G 15), .ref (ga G 16), .ref (ga G 17), .ref (ga G 18), .int (σ.2 0)])
  | 1 => .inr (4, [.ref (ga G 19), .ref (ga G 20), .ref (ga G 21)])
  | 2 => .inr (5, [.ref (ga G 22), .int (σ.2 1), .int (σ.2 2), .int (σ.2 3), .int (σ.2 4)])
  | 3 => .inr (3, [.ref (ga G 4), .ref (ga G 5)])
  | 6 => .inr (3, [.ref (ga G 7), .ref (ga G 8)])
  | 9 => .inr (3, [.ref (ga G 10), .ref (ga G 11)])
  | 12 => .inr (3, [.ref (ga G 13), .ref (ga G 14)])
  | 15 => .inr (0, [.ref (ga G 23), .int (σ.2 5), .int (σ.2 6)])
  | 16 => .inr (2, [.ref (ga G 9), .ref (ga G 12)])
  | 17 => .inr (1, [.ref (ga G 24), .int (σ.2 7)])
  | 18 => .inl (gA G, 2, .inr (.inr (.inr (.inr (refs G 70 2)))))
  | 19 => .inl (gA G, 8, .inr (.inr (.inr (.inr (refs G 38 8)))))
  | 23 => .inl (gA G, 24, .inr (.inr (.inr (.inr (refs G 46 24)))))
  | 25 => .inr (7, [.int (σ.2 8), .int (σ.2 9), .ref (ga G 26), .ref (ga G 27), .ref (ga G 28), .ref (ga G 29), .ref (ga G 30), .ref (ga G 31), .ref (ga G 32), .int (σ.2 10), .ref (ga G 33), .int (σ.2 11), .int (σ.2 12), .int (σ.2 13), .int (σ.2 14), .int (σ.2 15), .int (σ.2 16), .int (σ.2 17), .int (σ.2 18), .ref (ga G 34), .ref (ga G 35), .ref (ga G 36), .ref (ga G 37), .int (σ.2 19)])
  | 35 => .inl (gZ G, 2, .inl (σ.1 35))
  | k => .inl (gI G, alen k, .inl (σ.1 k))
def wld (G : Gx) (σ : St) : va_W := (List.range 72).map (fun k => (ga G k, cellOf G σ k))
def tysG (G : Gx) : List (ClassId × FieldType) := [(gI G, .int), (gZ G, .boolean), (gA G, .array .int)]
theorem wld_at {G : Gx} {σ : St} {k : Nat} (h : k < 72) : (wld G σ)[k]? = some (ga G k, cellOf G σ k) := by
  unfold wld
  rw [List.getElem?_map, List.getElem?_range h]
  rfl
theorem wld_in {G : Gx} {σ : St} {k : Nat} {q : Nat × va_E} (h : (wld G σ)[k]? = some q) : k < 72 ∧ q = (ga G k, cellOf G σ k) := by
  have hl : k < 72 := by
    have h1 := (List.getElem?_eq_some_iff.mp h).1
    simpa [wld] using h1
  rw [wld_at hl] at h
  exact ⟨hl, (Option.some.inj h).symm⟩
theorem wld_set {G : Gx} {σ τ : St} {k : Nat} {e : va_E} (h1 : cellOf G τ k = e) (h2 : ∀ j, j ≠ k → cellOf G τ j = cellOf G σ j) : (wld G σ).set k (ga G k, e) = wld G τ := by
  apply List.ext_getElem?
  intro j
  rw [List.getElem?_set]
  by_cases hj : k = j
  · subst hj
    by_cases hk : k < 72
    · rw [if_pos rfl, if_pos (by simpa [wld] using hk), wld_at hk, h1]
    · rw [if_pos rfl, if_neg (by simpa [wld] using hk), List.getElem?_eq_none (by simpa [wld] using hk)]
  · rw [if_neg hj]
    by_cases hk : j < 72
    · rw [wld_at hk, wld_at hk, h2 j (fun e => hj e.symm)]
    · rw [List.getElem?_eq_none (by simpa [wld] using hk), List.getElem?_eq_none (by simpa [wld] using hk)]
/-- an int array of n places at role k -/
def isArr (k n : Nat) : Prop := k < 72 ∧ ∀ (G : Gx) (σ : St), cellOf G σ k = .inl (gI G, n, .inl (σ.1 k))
/-- an object of kind ci at role q -/
def isObj (q ci : Nat) : Prop := q < 72 ∧ ∀ (G : Gx) (σ : St), ∃ fs, cellOf G σ q = .inr (ci, fs)
/-- a Net at role r, its cells and out behind it -/
def isNet (r : Nat) : Prop := r = 3 ∨ r = 6 ∨ r = 9 ∨ r = 12
theorem isNet.cell {r : Nat} (h : isNet r) (G : Gx) (σ : St) : cellOf G σ r = .inr (3, [.ref (ga G (r + 1)), .ref (ga G (r + 2))]) := by
  rcases h with rfl | rfl | rfl | rfl <;> rfl
theorem isNet.lt {r : Nat} (h : isNet r) : r < 72 := by rcases h with rfl | rfl | rfl | rfl <;> decide
theorem isNet.obj {r : Nat} (h : isNet r) : isObj r 3 := ⟨h.lt, fun G σ => ⟨_, h.cell G σ⟩⟩
theorem isNet.cells {r : Nat} (h : isNet r) : isArr (r + 1) 80 := by
  rcases h with rfl | rfl | rfl | rfl <;> exact ⟨by decide, fun _ _ => rfl⟩
theorem isNet.out {r : Nat} (h : isNet r) : isArr (r + 2) 6 := by
  rcases h with rfl | rfl | rfl | rfl <;> exact ⟨by decide, fun _ _ => rfl⟩
theorem isArr.items {i : Nat} (h : i < 8) : isArr (38 + i) 40 := by
  match i, h with
  | 0, _ => exact ⟨by decide, fun _ _ => rfl⟩
  | 1, _ => exact ⟨by decide, fun _ _ => rfl⟩
  | 2, _ => exact ⟨by decide, fun _ _ => rfl⟩
  | 3, _ => exact ⟨by decide, fun _ _ => rfl⟩
  | 4, _ => exact ⟨by decide, fun _ _ => rfl⟩
  | 5, _ => exact ⟨by decide, fun _ _ => rfl⟩
  | 6, _ => exact ⟨by decide, fun _ _ => rfl⟩
  | 7, _ => exact ⟨by decide, fun _ _ => rfl⟩
theorem cell_hi {k : Nat} (h : 46 ≤ k) (G : Gx) (σ : St) : cellOf G σ k = .inl (gI G, 80, .inl (σ.1 k)) := by
  obtain ⟨j, rfl⟩ := Nat.exists_eq_add_of_le h
  rw [Nat.add_comm]
  rfl
theorem isArr.hi {k : Nat} (h : 46 ≤ k) (h2 : k < 72) : isArr k 80 := ⟨h2, fun G σ => cell_hi h G σ⟩
def setA (σ : St) (k i : Nat) (v : Int32) : St := (fun j => if j = k then upd (σ.1 k) i v else σ.1 j, σ.2)
def setR (σ : St) (k : Nat) (f : Nat → Int32) : St := (fun j => if j = k then f else σ.1 j, σ.2)
def setF (σ : St) (k : Nat) (v : Int32) : St := (σ.1, fun j => if j = k then v else σ.2 j)
theorem cell_setR {G : Gx} {σ : St} {k j : Nat} {f : Nat → Int32} (h : j ≠ k) : cellOf G (setR σ k f) j = cellOf G σ j := by
  have e : (setR σ k f).1 j = σ.1 j := if_neg h
  unfold cellOf
  split <;> first | rfl | (rw [e]) | (simp only [e])
theorem isArr_setR {k n : Nat} (h : isArr k n) {G : Gx} {σ : St} {f : Nat → Int32} : cellOf G (setR σ k f) k = .inl (gI G, n, .inl f) := by
  rw [h.2]
  have e : (setR σ k f).1 k = f := if_pos rfl
  rw [e]
theorem setA_R (σ : St) (k i : Nat) (v : Int32) : setA σ k i v = setR σ k (upd (σ.1 k) i v) := rfl
/-! the fixed things of a frame -/
abbrev Cx : Type := Program × Launch × Env × Room × State × MethodId × Array Value × List Frame × Method × Code × Nat × Nat × (State → Prop) × (Nat → Prop)
abbrev xp (X : Cx) : Program := X.1
abbrev xl (X : Cx) : Launch := X.2.1
abbrev xe (X : Cx) : Env := X.2.2.1
abbrev xR (X : Cx) : Room := X.2.2.2.1
abbrev xs (X : Cx) : State := X.2.2.2.2.1
abbrev xm (X : Cx) : MethodId := X.2.2.2.2.2.1
abbrev xa (X : Cx) : Array Value := X.2.2.2.2.2.2.1
abbrev xb (X : Cx) : List Frame := X.2.2.2.2.2.2.2.1
abbrev xt (X : Cx) : Method := X.2.2.2.2.2.2.2.2.1
abbrev xc (X : Cx) : Code := X.2.2.2.2.2.2.2.2.2.1
abbrev xk (X : Cx) : Nat := X.2.2.2.2.2.2.2.2.2.2.1
abbrev xn (X : Cx) : Nat := X.2.2.2.2.2.2.2.2.2.2.2.1
abbrev xQ (X : Cx) : State → Prop := X.2.2.2.2.2.2.2.2.2.2.2.2.1
abbrev xA (X : Cx) : Nat → Prop := X.2.2.2.2.2.2.2.2.2.2.2.2.2
def GOK (G : Gx) : Prop := ∀ i j, i < 72 → j < 72 → ga G i = ga G j → i = j
/-- the static arrays' names, and what they hold -/
def stN (k : Nat) : String × String := match k with
  | 0 => ("EarTrumpets$Kinds", "ABOVE")
  | 1 => ("EarTrumpets$Kinds", "LETTERS")
  | 2 => ("EarTrumpets$Bodies", "SIZE_BODY")
  | _ => ("EarTrumpets$Bodies", "MARK_BODY")
def stV (k i : Nat) : Int32 := match k with
  | 0 => ([0, 0, 1, 1, 0, 4] : List Int32).getD i 0
  | 1 => ([0, 98, 100, 110, 108, 111] : List Int32).getD i 0
  | 2 => ([10, 11, 12, 11, 13, 14] : List Int32).getD i 0
  | _ => ([20, 21, 24, 22, 23, 23] : List Int32).getD i 0
def Stc (G : Gx) (A : Nat → Prop) (U : State) (H : Heap) : Prop := ∀ k, k < 4 → va_Z (stN k).1 (stN k).2 "[I" (.ref (gs G k)) A U H ∧ va_T .int (gs G k) 6 (fun i => .int (stV k i)) A U H
theorem Stc.moved {G : Gx} {A : Nat → Prop} {u U : State} {H : Heap} (hvm : u.vm.Alike U.vm) (h : Stc G A u H) : Stc G A U H := fun k hk => ⟨(h k hk).1.moved hvm, (h k hk).2.moved hvm⟩
theorem Stc.kept {G : Gx} {A : Nat → Prop} {U : State} {H H1 : Heap} (h : Stc G A U H) (hq : ∀ a : Nat, a < H.size → ¬ A a → H1[a]? = H[a]?) : Stc G A U H1 := fun k hk => ⟨(h k hk).1.kept hq, (h k hk).2.kept hq⟩
theorem Stc.narrow {G : Gx} {A B : Nat → Prop} {U : State} {H : Heap} (h : Stc G A U H) (hAB : ∀ q, B q → A q) : Stc G B U H := fun k hk => ⟨(h k hk).1.narrow hAB, (h k hk).2.narrow hAB⟩
def Fx (G : Gx) (X : Cx) (cc : ByteArray) (nL : Nat) (own : String) (d : Nat) : Prop :=
  (xp X).tables.exec = Jvm.exec ∧ (xc X).code = cc ∧ (xc X).maxLocals = nL ∧ (xs X).vm.findClass own = some (xm X).cls ∧ (∀ w ∈ gT, w.before (xa X) (xs X) = true) ∧ va_K G.1 vwCl (tysG G) (xs X) ∧ GOK G ∧ (∀ k, k < 72 → xA X (ga G k)) ∧ (∀ q, (xs X).heap.size ≤ q → xA X q) ∧ Stc G (xA X) (xs X) (xs X).heap ∧ (d ≤ (xR X).frames ∧ 60 * d ≤ (xR X).locals) ∧ (xk X ≤ (xR X).cells ∧ xn X ≤ (xR X).slots)
theorem Fx.ex {G : Gx} {X : Cx} {cc : ByteArray} {nL d : Nat} {own : String} (F : Fx G X cc nL own d) : (xp X).tables.exec = Jvm.exec := F.1
theorem Fx.bt {G : Gx} {X : Cx} {cc : ByteArray} {nL d : Nat} {own : String} (F : Fx G X cc nL own d) : (xc X).code = cc := F.2.1
theorem Fx.ml {G : Gx} {X : Cx} {cc : ByteArray} {nL d : Nat} {own : String} (F : Fx G X cc nL own d) : (xc X).maxLocals = nL := F.2.2.1
theorem Fx.ow {G : Gx} {X : Cx} {cc : ByteArray} {nL d : Nat} {own : String} (F : Fx G X cc nL own d) : (xs X).vm.findClass own = some (xm X).cls := F.2.2.2.1
theorem Fx.ts {G : Gx} {X : Cx} {cc : ByteArray} {nL d : Nat} {own : String} (F : Fx G X cc nL own d) : ∀ w ∈ gT, w.before (xa X) (xs X) = true := F.2.2.2.2.1
theorem Fx.K {G : Gx} {X : Cx} {cc : ByteArray} {nL d : Nat} {own : String} (F : Fx G X cc nL own d) : va_K G.1 vwCl (tysG G) (xs X) := F.2.2.2.2.2.1
theorem Fx.gk {G : Gx} {X : Cx} {cc : ByteArray} {nL d : Nat} {own : String} (F : Fx G X cc nL own d) : GOK G := F.2.2.2.2.2.2.1
theorem Fx.inA {G : Gx} {X : Cx} {cc : ByteArray} {nL d : Nat} {own : String} (F : Fx G X cc nL own d) : ∀ k, k < 72 → xA X (ga G k) := F.2.2.2.2.2.2.2.1
theorem Fx.up {G : Gx} {X : Cx} {cc : ByteArray} {nL d : Nat} {own : String} (F : Fx G X cc nL own d) : ∀ q, (xs X).heap.size ≤ q → xA X q := F.2.2.2.2.2.2.2.2.1
theorem Fx.sc {G : Gx} {X : Cx} {cc : ByteArray} {nL d : Nat} {own : String} (F : Fx G X cc nL own d) : Stc G (xA X) (xs X) (xs X).heap := F.2.2.2.2.2.2.2.2.2.1
theorem Fx.rm {G : Gx} {X : Cx} {cc : ByteArray} {nL d : Nat} {own : String} (F : Fx G X cc nL own d) : d ≤ (xR X).frames ∧ 60 * d ≤ (xR X).locals := F.2.2.2.2.2.2.2.2.2.2.1
theorem Fx.cs {G : Gx} {X : Cx} {cc : ByteArray} {nL d : Nat} {own : String} (F : Fx G X cc nL own d) : xk X ≤ (xR X).cells ∧ xn X ≤ (xR X).slots := F.2.2.2.2.2.2.2.2.2.2.2
theorem Fx.D {G : Gx} {X : Cx} {cc : ByteArray} {nL d : Nat} {own : String} (F : Fx G X cc nL own d) (σ : St) : va_D (xA X) (wld G σ) := by
  refine ⟨fun i j p q hi hj e => ?_, fun k q hk => ?_⟩
  · obtain ⟨h1, rfl⟩ := wld_in hi
    obtain ⟨h2, rfl⟩ := wld_in hj
    exact F.gk i j h1 h2 e
  · obtain ⟨h1, rfl⟩ := wld_in hk
    exact F.inA k h1
/-- from this place on the machine comes to its end -/
def Wx (G : Gx) (X : Cx) (nL : Nat) (σ : St) (pc : Nat) (lv : List (Nat × Value)) (st : List Value) : Prop :=
  ∀ (H : Heap) (locs : List Loc) (ls : Array Slot), va_P G.1 vwCl (wld G σ) H → va_S (xA X) (xs X).heap H locs → lv_has ls nL lv → W (xp X) (xl X) (xe X) (xR X) (xs X) (xm X) (xa X) (xb X) (xt X) (xc X) H locs (xk X) (xn X) (xQ X) (F0 (xm X) pc ls st)
/-- the rest of the method does what the program says, if it says anything -/
def Sim (G : Gx) (X : Cx) (nL : Nat) {ρ : Type} (o : ρ) (P : Option ρ) (σ : St) (pc : Nat) (lv : List (Nat × Value)) (st : List Value) : Prop := P = some o → Wx G X nL σ pc lv st
end
section
abbrev ix (x : Int32) (n : Nat) : Prop := ¬ (x < 0 ∨ n ≤ x.toNatClampNeg)
theorem s_iconst {G : Gx} {X : Cx} {cc : ByteArray} {nL d : Nat} {own : String} {ρ : Type} {o : ρ} {P : Option ρ} {σ : St} {pc : Nat} {lv : List (Nat × Value)} {st : List Value} (F : Fx G X cc nL own d) {n : Int} (v : Int32) (hd : decode cc pc = .ok (.iconst n, 1)) (hv : Int32.ofInt n = v) (k : Sim G X nL o P σ (pc + 1) lv (.int v :: st)) : Sim G X nL o P σ pc lv st := fun h H locs ls hP hS hl => lv_iconst F.ex F.bt hd hv (k h H locs ls hP hS hl)
theorem s_bipush {G : Gx} {X : Cx} {cc : ByteArray} {nL d : Nat} {own : String} {ρ : Type} {o : ρ} {P : Option ρ} {σ : St} {pc : Nat} {lv : List (Nat × Value)} {st : List Value} (F : Fx G X cc nL own d) {n : Int} (v : Int32) (hd : decode cc pc = .ok (.bipush n, 2)) (hv : (Int8.ofInt n).toInt32 = v) (k : Sim G X nL o P σ (pc + 2) lv (.int v :: st)) : Sim G X nL o P σ pc lv st := fun h H locs ls hP hS hl => lv_bipush F.ex F.bt hd hv (k h H locs ls hP hS hl)
theorem s_sipush {G : Gx} {X : Cx} {cc : ByteArray} {nL d : Nat} {own : String} {ρ : Type} {o : ρ} {P : Option ρ} {σ : St} {pc : Nat} {lv : List (Nat × Value)} {st : List Value} (F : Fx G X cc nL own d) {n : Int} (v : Int32) (hd : decode cc pc = .ok (.sipush n, 3)) (hv : (Int16.ofInt n).toInt32 = v) (k : Sim G X nL o P σ (pc + 3) lv (.int v :: st)) : Sim G X nL o P σ pc lv st := fun h H locs ls hP hS hl => lv_sipush F.ex F.bt hd hv (k h H locs ls hP hS hl)
theorem s_lconst {G : Gx} {X : Cx} {cc : ByteArray} {nL d : Nat} {own : String} {ρ : Type} {o : ρ} {P : Option ρ} {σ : St} {pc : Nat} {lv : List (Nat × Value)} {st : List Value} (F : Fx G X cc nL own d) {n : Fin 2} (v : Int64) (hd : decode cc pc = .ok (.lconst n, 1)) (hv : Int64.ofNat (n : Nat) = v) (k : Sim G X nL o P σ (pc + 1) lv (.long v :: st)) : Sim G X nL o P σ pc lv st := fun h H locs ls hP hS hl => lv_lconst F.ex F.bt hd hv (k h H locs ls hP hS hl)
theorem s_ldc {G : Gx} {X : Cx} {cc : ByteArray} {nL d : Nat} {own : String} {ρ : Type} {o : ρ} {P : Option ρ} {σ : St} {pc : Nat} {lv : List (Nat × Value)} {st : List Value} (F : Fx G X cc nL own d) {i : Nat} {v : Int32} (hd : decode cc pc = .ok (.ldc i, 2)) (hw : Cond.constant own i v ∈ gT) (k : Sim G X nL o P σ (pc + 2) lv (.int v :: st)) : Sim G X nL o P σ pc lv st := fun h H locs ls hP hS hl => lv_ldc F.ex F.bt F.ow (F.ts _ hw) hd (k h H locs ls hP hS hl)
theorem s_ldcw {G : Gx} {X : Cx} {cc : ByteArray} {nL d : Nat} {own : String} {ρ : Type} {o : ρ} {P : Option ρ} {σ : St} {pc : Nat} {lv : List (Nat × Value)} {st : List Value} (F : Fx G X cc nL own d) {i : Nat} {v : Int32} (hd : decode cc pc = .ok (.ldc_w i, 3)) (hw : Cond.constant own i v ∈ gT) (k : Sim G X nL o P σ (pc + 3) lv (.int v :: st)) : Sim G X nL o P σ pc lv st := fun h H locs ls hP hS hl => lv_ldcw F.ex F.bt F.ow (F.ts _ hw) hd (k h H locs ls hP hS hl)
theorem s_ldc2 {G : Gx} {X : Cx} {cc : ByteArray} {nL d : Nat} {own : String} {ρ : Type} {o : ρ} {P : Option ρ} {σ : St} {pc : Nat} {lv : List (Nat × Value)} {st : List Value} (F : Fx G X cc nL own d) {i : Nat} {v : Int64} (hd : decode cc pc = .ok (.ldc2_w i, 3)) (hw : Cond.constantLong own i v ∈ gT) (k : Sim G X nL o P σ (pc + 3) lv (.long v :: st)) : Sim G X nL o P σ pc lv st := fun h H locs ls hP hS hl => lv_ldc2 F.ex F.bt F.ow (F.ts _ hw) hd (k h H locs ls hP hS hl)
theorem s_iload_n {G : Gx} {X : Cx} {cc : ByteArray} {nL d : Nat} {own : String} {ρ : Type} {o : ρ} {P : Option ρ} {σ : St} {pc : Nat} {lv : List (Nat × Value)} {st : List Value} (F : Fx G X cc nL own d) {k4 : Fin 4} {i : Nat} {x : Int32} (q : Nat) (hd : decode cc pc = .ok (.iload_n k4, 1)) (hi : (k4 : Nat) = i) (hq : lv[q]? = some (i, .int x)) (k : Sim G X nL o P σ (pc + 1) lv (.int x :: st)) : Sim G X nL o P σ pc lv st := fun h H locs ls hP hS hl => lv_iload_n F.ex F.bt hd hi (lv_at hl q hq) (k h H locs ls hP hS hl)
theorem s_iload {G : Gx} {X : Cx} {cc : ByteArray} {nL d : Nat} {own : String} {ρ : Type} {o : ρ} {P : Option ρ} {σ : St} {pc : Nat} {lv : List (Nat × Value)} {st : List Value} (F : Fx G X cc nL own d) {i : Nat} {x : Int32} (q : Nat) (hd : decode cc pc = .ok (.iload i, 2)) (hq : lv[q]? = some (i, .int x)) (k : Sim G X nL o P σ (pc + 2) lv (.int x :: st)) : Sim G X nL o P σ pc lv st := fun h H locs ls hP hS hl => lv_iload F.ex F.bt hd (lv_at hl q hq) (k h H locs ls hP hS hl)
theorem s_lload_n {G : Gx} {X : Cx} {cc : ByteArray} {nL d : Nat} {own : String} {ρ : Type} {o : ρ} {P : Option ρ} {σ : St} {pc : Nat} {lv : List (Nat × Value)} {st : List Value} (F : Fx G X cc nL own d) {k4 : Fin 4} {i : Nat} {x : Int64} (q : Nat) (hd : decode cc pc = .ok (.lload_n k4, 1)) (hi : (k4 : Nat) = i) (hq : lv[q]? = some (i, .long x)) (k : Sim G X nL o P σ (pc + 1) lv (.long x :: st)) : Sim G X nL o P σ pc lv st := fun h H locs ls hP hS hl => lv_lload_n F.ex F.bt hd hi (lv_at hl q hq) (k h H locs ls hP hS hl)
theorem s_lload {G : Gx} {X : Cx} {cc : ByteArray} {nL d : Nat} {own : String} {ρ : Type} {o : ρ} {P : Option ρ} {σ : St} {pc : Nat} {lv : List (Nat × Value)} {st : List Value} (F : Fx G X cc nL own d) {i : Nat} {x : Int64} (q : Nat) (hd : decode cc pc = .ok (.lload i, 2)) (hq : lv[q]? = some (i, .long x)) (k : Sim G X nL o P σ (pc + 2) lv (.long x :: st)) : Sim G X nL o P σ pc lv st := fun h H locs ls hP hS hl => lv_lload F.ex F.bt hd (lv_at hl q hq) (k h H locs ls hP hS hl)
theorem s_aload_n {G : Gx} {X : Cx} {cc : ByteArray} {nL d : Nat} {own : String} {ρ : Type} {o : ρ} {P : Option ρ} {σ : St} {pc : Nat} {lv : List (Nat × Value)} {st : List Value} (F : Fx G X cc nL own d) {k4 : Fin 4} {i : Nat} {x : Nat} (q : Nat) (hd : decode cc pc = .ok (.aload_n k4, 1)) (hi : (k4 : Nat) = i) (hq : lv[q]? = some (i, .ref x)) (k : Sim G X nL o P σ (pc + 1) lv (.ref x :: st)) : Sim G X nL o P σ pc lv st := fun h H locs ls hP hS hl => lv_aload_n F.ex F.bt hd hi (lv_at hl q hq) (k h H locs ls hP hS hl)
theorem s_aload {G : Gx} {X : Cx} {cc : ByteArray} {nL d : Nat} {own : String} {ρ : Type} {o : ρ} {P : Option ρ} {σ : St} {pc : Nat} {lv : List (Nat × Value)} {st : List Value} (F : Fx G X cc nL own d) {i : Nat} {x : Nat} (q : Nat) (hd : decode cc pc = .ok (.aload i, 2)) (hq : lv[q]? = some (i, .ref x)) (k : Sim G X nL o P σ (pc + 2) lv (.ref x :: st)) : Sim G X nL o P σ pc lv st := fun h H locs ls hP hS hl => lv_aload F.ex F.bt hd (lv_at hl q hq) (k h H locs ls hP hS hl)
theorem s_istore_n {G : Gx} {X : Cx} {cc : ByteArray} {nL d : Nat} {own : String} {ρ : Type} {o : ρ} {P : Option ρ} {σ : St} {pc : Nat} {lv : List (Nat × Value)} {st : List Value} (F : Fx G X cc nL own d) {k4 : Fin 4} {i : Nat} {x : Int32} (lv' : List (Nat × Value)) (hd : decode cc pc = .ok (.istore_n k4, 1)) (hi : (k4 : Nat) = i) (hn : i < nL) (hf : (i, Value.int x) :: lv.filter (fun q => !(q.1 == i) && !(q.1 + 1 == i && q.2.category == 2)) = lv') (k : Sim G X nL o P σ (pc + 1) lv' st) : Sim G X nL o P σ pc lv (.int x :: st) := fun h H locs ls hP hS hl => lv_istore_n F.ex F.bt hd hi hl hn hf (fun ls hl => k h H locs ls hP hS hl)
theorem s_istore {G : Gx} {X : Cx} {cc : ByteArray} {nL d : Nat} {own : String} {ρ : Type} {o : ρ} {P : Option ρ} {σ : St} {pc : Nat} {lv : List (Nat × Value)} {st : List Value} (F : Fx G X cc nL own d) {i : Nat} {x : Int32} (lv' : List (Nat × Value)) (hd : decode cc pc = .ok (.istore i, 2)) (hn : i < nL) (hf : (i, Value.int x) :: lv.filter (fun q => !(q.1 == i) && !(q.1 + 1 == i && q.2.category == 2)) = lv') (k : Sim G X nL o P σ (pc + 2) lv' st) : Sim G X nL o P σ pc lv (.int x :: st) := fun h H locs ls hP hS hl => lv_istore F.ex F.bt hd hl hn hf (fun ls hl => k h H locs ls hP hS hl)
theorem s_astore_n {G : Gx} {X : Cx} {cc : ByteArray} {nL d : Nat} {own : String} {ρ : Type} {o : ρ} {P : Option ρ} {σ : St} {pc : Nat} {lv : List (Nat × Value)} {st : List Value} (F : Fx G X cc nL own d) {k4 : Fin 4} {i : Nat} {x : Nat} (lv' : List (Nat × Value)) (hd : decode cc pc = .ok (.astore_n k4, 1)) (hi : (k4 : Nat) = i) (hn : i < nL) (hf : (i, Value.ref x) :: lv.filter (fun q => !(q.1 == i) && !(q.1 + 1 == i && q.2.category == 2)) = lv') (k : Sim G X nL o P σ (pc + 1) lv' st) : Sim G X nL o P σ pc lv (.ref x :: st) := fun h H locs ls hP hS hl => lv_astore_n F.ex F.bt hd hi hl hn hf (fun ls hl => k h H locs ls hP hS hl)
theorem s_lstore_n {G : Gx} {X : Cx} {cc : ByteArray} {nL d : Nat} {own : String} {ρ : Type} {o : ρ} {P : Option ρ} {σ : St} {pc : Nat} {lv : List (Nat × Value)} {st : List Value} (F : Fx G X cc nL own d) {k4 : Fin 4} {i : Nat} {x : Int64} (lv' : List (Nat × Value)) (hd : decode cc pc = .ok (.lstore_n k4, 1)) (hi : (k4 : Nat) = i) (hn : i + 1 < nL) (hf : (i, Value.long x) :: lv.filter (fun q => !(q.1 == i) && (!(q.1 == i + 1) && !(q.1 + 1 == i && q.2.category == 2))) = lv') (k : Sim G X nL o P σ (pc + 1) lv' st) : Sim G X nL o P σ pc lv (.long x :: st) := fun h H locs ls hP hS hl => lv_lstore_n F.ex F.bt hd hi hl hn hf (fun ls hl => k h H locs ls hP hS hl)
theorem s_lstore {G : Gx} {X : Cx} {cc : ByteArray} {nL d : Nat} {own : String} {ρ : Type} {o : ρ} {P : Option ρ} {σ : St} {pc : Nat} {lv : List (Nat × Value)} {st : List Value} (F : Fx G X cc nL own d) {i : Nat} {x : Int64} (lv' : List (Nat × Value)) (hd : decode cc pc = .ok (.lstore i, 2)) (hn : i + 1 < nL) (hf : (i, Value.long x) :: lv.filter (fun q => !(q.1 == i) && (!(q.1 == i + 1) && !(q.1 + 1 == i && q.2.category == 2))) = lv') (k : Sim G X nL o P σ (pc + 2) lv' st) : Sim G X nL o P σ pc lv (.long x :: st) := fun h H locs ls hP hS hl => lv_lstore F.ex F.bt hd hl hn hf (fun ls hl => k h H locs ls hP hS hl)
theorem s_iinc {G : Gx} {X : Cx} {cc : ByteArray} {nL d : Nat} {own : String} {ρ : Type} {o : ρ} {P : Option ρ} {σ : St} {pc : Nat} {lv : List (Nat × Value)} {st : List Value} (F : Fx G X cc nL own d) {i : Nat} {n : Int} {x v : Int32} (q : Nat) (lv' : List (Nat × Value)) (hd : decode cc pc = .ok (.iinc i n, 3)) (hq : lv[q]? = some (i, .int x)) (hv : x + Int32.ofInt n = v) (hn : i < nL) (hf : (i, Value.int v) :: lv.filter (fun q => !(q.1 == i) && !(q.1 + 1 == i && q.2.category == 2)) = lv') (k : Sim G X nL o P σ (pc + 3) lv' st) : Sim G X nL o P σ pc lv st := fun h H locs ls hP hS hl => lv_iinc F.ex F.bt hd hl hq hv hn hf (fun ls hl => k h H locs ls hP hS hl)
theorem s_iadd {G : Gx} {X : Cx} {cc : ByteArray} {nL d : Nat} {own : String} {ρ : Type} {o : ρ} {P : Option ρ} {σ : St} {pc : Nat} {lv : List (Nat × Value)} {st : List Value} (F : Fx G X cc nL own d) {x y : Int32} (hd : decode cc pc = .ok (.iadd, 1)) (k : Sim G X nL o P σ (pc + 1) lv (.int (x + y) :: st)) : Sim G X nL o P σ pc lv (.int y :: .int x :: st) := fun h H locs ls hP hS hl => lv_iadd F.ex F.bt hd (k h H locs ls hP hS hl)
theorem s_isub {G : Gx} {X : Cx} {cc : ByteArray} {nL d : Nat} {own : String} {ρ : Type} {o : ρ} {P : Option ρ} {σ : St} {pc : Nat} {lv : List (Nat × Value)} {st : List Value} (F : Fx G X cc nL own d) {x y : Int32} (hd : decode cc pc = .ok (.isub, 1)) (k : Sim G X nL o P σ (pc + 1) lv (.int (x - y) :: st)) : Sim G X nL o P σ pc lv (.int y :: .int x :: st) := fun h H locs ls hP hS hl => lv_isub F.ex F.bt hd (k h H locs ls hP hS hl)
theorem s_imul {G : Gx} {X : Cx} {cc : ByteArray} {nL d : Nat} {own : String} {ρ : Type} {o : ρ} {P : Option ρ} {σ : St} {pc : Nat} {lv : List (Nat × Value)} {st : List Value} (F : Fx G X cc nL own d) {x y : Int32} (hd : decode cc pc = .ok (.imul, 1)) (k : Sim G X nL o P σ (pc + 1) lv (.int (x * y) :: st)) : Sim G X nL o P σ pc lv (.int y :: .int x :: st) := fun h H locs ls hP hS hl => lv_imul F.ex F.bt hd (k h H locs ls hP hS hl)
theorem s_iand {G : Gx} {X : Cx} {cc : ByteArray} {nL d : Nat} {own : String} {ρ : Type} {o : ρ} {P : Option ρ} {σ : St} {pc : Nat} {lv : List (Nat × Value)} {st : List Value} (F : Fx G X cc nL own d) {x y : Int32} (hd : decode cc pc = .ok (.iand, 1)) (k : Sim G X nL o P σ (pc + 1) lv (.int (x &&& y) :: st)) : Sim G X nL o P σ pc lv (.int y :: .int x :: st) := fun h H locs ls hP hS hl => lv_iand F.ex F.bt hd (k h H locs ls hP hS hl)
theorem s_ior {G : Gx} {X : Cx} {cc : ByteArray} {nL d : Nat} {own : String} {ρ : Type} {o : ρ} {P : Option ρ} {σ : St} {pc : Nat} {lv : List (Nat × Value)} {st : List Value} (F : Fx G X cc nL own d) {x y : Int32} (hd : decode cc pc = .ok (.ior, 1)) (k : Sim G X nL o P σ (pc + 1) lv (.int (x ||| y) :: st)) : Sim G X nL o P σ pc lv (.int y :: .int x :: st) := fun h H locs ls hP hS hl => lv_ior F.ex F.bt hd (k h H locs ls hP hS hl)
theorem s_ixor {G : Gx} {X : Cx} {cc : ByteArray} {nL d : Nat} {own : String} {ρ : Type} {o : ρ} {P : Option ρ} {σ : St} {pc : Nat} {lv : List (Nat × Value)} {st : List Value} (F : Fx G X cc nL own d) {x y : Int32} (hd : decode cc pc = .ok (.ixor, 1)) (k : Sim G X nL o P σ (pc + 1) lv (.int (x ^^^ y) :: st)) : Sim G X nL o P σ pc lv (.int y :: .int x :: st) := fun h H locs ls hP hS hl => lv_ixor F.ex F.bt hd (k h H locs ls hP hS hl)
theorem s_ishl {G : Gx} {X : Cx} {cc : ByteArray} {nL d : Nat} {own : String} {ρ : Type} {o : ρ} {P : Option ρ} {σ : St} {pc : Nat} {lv : List (Nat × Value)} {st : List Value} (F : Fx G X cc nL own d) {x y : Int32} (hd : decode cc pc = .ok (.ishl, 1)) (k : Sim G X nL o P σ (pc + 1) lv (.int (x <<< (y &&& 31)) :: st)) : Sim G X nL o P σ pc lv (.int y :: .int x :: st) := fun h H locs ls hP hS hl => lv_ishl F.ex F.bt hd (k h H locs ls hP hS hl)
theorem s_ishr {G : Gx} {X : Cx} {cc : ByteArray} {nL d : Nat} {own : String} {ρ : Type} {o : ρ} {P : Option ρ} {σ : St} {pc : Nat} {lv : List (Nat × Value)} {st : List Value} (F : Fx G X cc nL own d) {x y : Int32} (hd : decode cc pc = .ok (.ishr, 1)) (k : Sim G X nL o P σ (pc + 1) lv (.int (x >>> (y &&& 31)) :: st)) : Sim G X nL o P σ pc lv (.int y :: .int x :: st) := fun h H locs ls hP hS hl => lv_ishr F.ex F.bt hd (k h H locs ls hP hS hl)
theorem s_iushr {G : Gx} {X : Cx} {cc : ByteArray} {nL d : Nat} {own : String} {ρ : Type} {o : ρ} {P : Option ρ} {σ : St} {pc : Nat} {lv : List (Nat × Value)} {st : List Value} (F : Fx G X cc nL own d) {x y : Int32} (hd : decode cc pc = .ok (.iushr, 1)) (k : Sim G X nL o P σ (pc + 1) lv (.int ((x.toUInt32 >>> (y.toUInt32 &&& Int32.toUInt32 31)).toInt32) :: st)) : Sim G X nL o P σ pc lv (.int y :: .int x :: st) := fun h H locs ls hP hS hl => lv_iushr F.ex F.bt hd rfl (k h H locs ls hP hS hl)
theorem s_ladd {G : Gx} {X : Cx} {cc : ByteArray} {nL d : Nat} {own : String} {ρ : Type} {o : ρ} {P : Option ρ} {σ : St} {pc : Nat} {lv : List (Nat × Value)} {st : List Value} (F : Fx G X cc nL own d) {x y : Int64} (hd : decode cc pc = .ok (.ladd, 1)) (k : Sim G X nL o P σ (pc + 1) lv (.long (x + y) :: st)) : Sim G X nL o P σ pc lv (.long y :: .long x :: st) := fun h H locs ls hP hS hl => lv_ladd F.ex F.bt hd (k h H locs ls hP hS hl)
theorem s_lsub {G : Gx} {X : Cx} {cc : ByteArray} {nL d : Nat} {own : String} {ρ : Type} {o : ρ} {P : Option ρ} {σ : St} {pc : Nat} {lv : List (Nat × Value)} {st : List Value} (F : Fx G X cc nL own d) {x y : Int64} (hd : decode cc pc = .ok (.lsub, 1)) (k : Sim G X nL o P σ (pc + 1) lv (.long (x - y) :: st)) : Sim G X nL o P σ pc lv (.long y :: .long x :: st) := fun h H locs ls hP hS hl => lv_lsub F.ex F.bt hd (k h H locs ls hP hS hl)
theorem s_lmul {G : Gx} {X : Cx} {cc : ByteArray} {nL d : Nat} {own : String} {ρ : Type} {o : ρ} {P : Option ρ} {σ : St} {pc : Nat} {lv : List (Nat × Value)} {st : List Value} (F : Fx G X cc nL own d) {x y : Int64} (hd : decode cc pc = .ok (.lmul, 1)) (k : Sim G X nL o P σ (pc + 1) lv (.long (x * y) :: st)) : Sim G X nL o P σ pc lv (.long y :: .long x :: st) := fun h H locs ls hP hS hl => lv_lmul F.ex F.bt hd (k h H locs ls hP hS hl)
theorem s_idivc {G : Gx} {X : Cx} {cc : ByteArray} {nL d : Nat} {own : String} {ρ : Type} {o : ρ} {P : Option ρ} {σ : St} {pc : Nat} {lv : List (Nat × Value)} {st : List Value} (F : Fx G X cc nL own d) {x y : Int32} (hd : decode cc pc = .ok (.idiv, 1)) (hy : ¬ y = 0) (k : Sim G X nL o P σ (pc + 1) lv (.int (x / y) :: st)) : Sim G X nL o P σ pc lv (.int y :: .int x :: st) := fun h H locs ls hP hS hl => lv_idiv F.ex F.bt hd hy (k h H locs ls hP hS hl)
theorem s_iremc {G : Gx} {X : Cx} {cc : ByteArray} {nL d : Nat} {own : String} {ρ : Type} {o : ρ} {P : Option ρ} {σ : St} {pc : Nat} {lv : List (Nat × Value)} {st : List Value} (F : Fx G X cc nL own d) {x y : Int32} (hd : decode cc pc = .ok (.irem, 1)) (hy : ¬ y = 0) (k : Sim G X nL o P σ (pc + 1) lv (.int (x - x / y * y) :: st)) : Sim G X nL o P σ pc lv (.int y :: .int x :: st) := fun h H locs ls hP hS hl => lv_irem F.ex F.bt hd hy (k h H locs ls hP hS hl)
theorem s_ldivc {G : Gx} {X : Cx} {cc : ByteArray} {nL d : Nat} {own : String} {ρ : Type} {o : ρ} {P : Option ρ} {σ : St} {pc : Nat} {lv : List (Nat × Value)} {st : List Value} (F : Fx G X cc nL own d) {x y : Int64} (hd : decode cc pc = .ok (.ldiv, 1)) (hy : ¬ y = 0) (k : Sim G X nL o P σ (pc + 1) lv (.long (x / y) :: st)) : Sim G X nL o P σ pc lv (.long y :: .long x :: st) := fun h H locs ls hP hS hl => lv_ldiv F.ex F.bt hd hy (k h H locs ls hP hS hl)
theorem s_lremc {G : Gx} {X : Cx} {cc : ByteArray} {nL d : Nat} {own : String} {ρ : Type} {o : ρ} {P : Option ρ} {σ : St} {pc : Nat} {lv : List (Nat × Value)} {st : List Value} (F : Fx G X cc nL own d) {x y : Int64} (hd : decode cc pc = .ok (.lrem, 1)) (hy : ¬ y = 0) (k : Sim G X nL o P σ (pc + 1) lv (.long (x - x / y * y) :: st)) : Sim G X nL o P σ pc lv (.long y :: .long x :: st) := fun h H locs ls hP hS hl => lv_lrem F.ex F.bt hd hy (k h H locs ls hP hS hl)
theorem s_ineg {G : Gx} {X : Cx} {cc : ByteArray} {nL d : Nat} {own : String} {ρ : Type} {o : ρ} {P : Option ρ} {σ : St} {pc : Nat} {lv : List (Nat × Value)} {st : List Value} (F : Fx G X cc nL own d) {x : Int32} (hd : decode cc pc = .ok (.ineg, 1)) (k : Sim G X nL o P σ (pc + 1) lv (.int (-x) :: st)) : Sim G X nL o P σ pc lv (.int x :: st) := fun h H locs ls hP hS hl => lv_ineg F.ex F.bt hd (k h H locs ls hP hS hl)
theorem s_i2l {G : Gx} {X : Cx} {cc : ByteArray} {nL d : Nat} {own : String} {ρ : Type} {o : ρ} {P : Option ρ} {σ : St} {pc : Nat} {lv : List (Nat × Value)} {st : List Value} (F : Fx G X cc nL own d) {x : Int32} (hd : decode cc pc = .ok (.i2l, 1)) (k : Sim G X nL o P σ (pc + 1) lv (.long (x.toInt64) :: st)) : Sim G X nL o P σ pc lv (.int x :: st) := fun h H locs ls hP hS hl => lv_i2l F.ex F.bt hd rfl (k h H locs ls hP hS hl)
theorem s_l2i {G : Gx} {X : Cx} {cc : ByteArray} {nL d : Nat} {own : String} {ρ : Type} {o : ρ} {P : Option ρ} {σ : St} {pc : Nat} {lv : List (Nat × Value)} {st : List Value} (F : Fx G X cc nL own d) {x : Int64} (hd : decode cc pc = .ok (.l2i, 1)) (k : Sim G X nL o P σ (pc + 1) lv (.int (x.toInt32) :: st)) : Sim G X nL o P σ pc lv (.long x :: st) := fun h H locs ls hP hS hl => lv_l2i F.ex F.bt hd rfl (k h H locs ls hP hS hl)
theorem s_i2b {G : Gx} {X : Cx} {cc : ByteArray} {nL d : Nat} {own : String} {ρ : Type} {o : ρ} {P : Option ρ} {σ : St} {pc : Nat} {lv : List (Nat × Value)} {st : List Value} (F : Fx G X cc nL own d) {x : Int32} (hd : decode cc pc = .ok (.i2b, 1)) (k : Sim G X nL o P σ (pc + 1) lv (.int (x.toInt8.toInt32) :: st)) : Sim G X nL o P σ pc lv (.int x :: st) := fun h H locs ls hP hS hl => lv_i2b F.ex F.bt hd rfl (k h H locs ls hP hS hl)
theorem s_i2s {G : Gx} {X : Cx} {cc : ByteArray} {nL d : Nat} {own : String} {ρ : Type} {o : ρ} {P : Option ρ} {σ : St} {pc : Nat} {lv : List (Nat × Value)} {st : List Value} (F : Fx G X cc nL own d) {x : Int32} (hd : decode cc pc = .ok (.i2s, 1)) (k : Sim G X nL o P σ (pc + 1) lv (.int (x.toInt16.toInt32) :: st)) : Sim G X nL o P σ pc lv (.int x :: st) := fun h H locs ls hP hS hl => lv_i2s F.ex F.bt hd rfl (k h H locs ls hP hS hl)
theorem s_lcmp {G : Gx} {X : Cx} {cc : ByteArray} {nL d : Nat} {own : String} {ρ : Type} {o : ρ} {P : Option ρ} {σ : St} {pc : Nat} {lv : List (Nat × Value)} {st : List Value} (F : Fx G X cc nL own d) {x y : Int64} (hd : decode cc pc = .ok (.lcmp, 1)) (k : Sim G X nL o P σ (pc + 1) lv (.int (lg_cmp x y) :: st)) : Sim G X nL o P σ pc lv (.long y :: .long x :: st) := fun h H locs ls hP hS hl => W.lcmp F.ex F.bt hd (k h H locs ls hP hS hl)
theorem s_dup {G : Gx} {X : Cx} {cc : ByteArray} {nL d : Nat} {own : String} {ρ : Type} {o : ρ} {P : Option ρ} {σ : St} {pc : Nat} {lv : List (Nat × Value)} {st : List Value} (F : Fx G X cc nL own d) {v : Value} (hd : decode cc pc = .ok (.dup, 1)) (hc : v.category = 1) (k : Sim G X nL o P σ (pc + 1) lv (v :: v :: st)) : Sim G X nL o P σ pc lv (v :: st) := fun h H locs ls hP hS hl => lv_dup F.ex F.bt hd hc (k h H locs ls hP hS hl)
theorem s_pop {G : Gx} {X : Cx} {cc : ByteArray} {nL d : Nat} {own : String} {ρ : Type} {o : ρ} {P : Option ρ} {σ : St} {pc : Nat} {lv : List (Nat × Value)} {st : List Value} (F : Fx G X cc nL own d) {v : Value} (hd : decode cc pc = .ok (.pop, 1)) (hc : v.category = 1) (k : Sim G X nL o P σ (pc + 1) lv st) : Sim G X nL o P σ pc lv (v :: st) := fun h H locs ls hP hS hl => lv_pop F.ex F.bt hd hc (k h H locs ls hP hS hl)
theorem s_dup2 {G : Gx} {X : Cx} {cc : ByteArray} {nL d : Nat} {own : String} {ρ : Type} {o : ρ} {P : Option ρ} {σ : St} {pc : Nat} {lv : List (Nat × Value)} {st : List Value} (F : Fx G X cc nL own d) {v w : Value} (hd : decode cc pc = .ok (.dup2, 1)) (hc : v.category = 1) (hc2 : w.category = 1) (k : Sim G X nL o P σ (pc + 1) lv (v :: w :: v :: w :: st)) : Sim G X nL o P σ pc lv (v :: w :: st) := fun h H locs ls hP hS hl => lv_dup2_11 F.ex F.bt hd hc hc2 (k h H locs ls hP hS hl)
theorem s_if_eq {G : Gx} {X : Cx} {cc : ByteArray} {nL d : Nat} {own : String} {ρ : Type} {o : ρ} {P : Option ρ} {σ : St} {pc : Nat} {lv : List (Nat × Value)} {st : List Value} (F : Fx G X cc nL own d) {x : Int32} {P2 : Option ρ} {off : Int} (tgt : Nat) (hd : decode cc pc = .ok (.ifCond .eq off, 3)) (ht : (pc : Int) + off = (tgt : Int)) (kt : x = 0 → Sim G X nL o P σ tgt lv st) (kf : ¬ x = 0 → Sim G X nL o P2 σ (pc + 3) lv st) : Sim G X nL o (if x = 0 then P else P2) σ pc lv (.int x :: st) := fun h H locs ls hP hS hl => lv_if_eq F.ex F.bt hd ht (fun q => kt q (by rw [if_pos q] at h; exact h) H locs ls hP hS hl) (fun q => kf q (by rw [if_neg q] at h; exact h) H locs ls hP hS hl)
theorem s_icmp_eq {G : Gx} {X : Cx} {cc : ByteArray} {nL d : Nat} {own : String} {ρ : Type} {o : ρ} {P : Option ρ} {σ : St} {pc : Nat} {lv : List (Nat × Value)} {st : List Value} (F : Fx G X cc nL own d) {x y : Int32} {P2 : Option ρ} {off : Int} (tgt : Nat) (hd : decode cc pc = .ok (.if_icmp .eq off, 3)) (ht : (pc : Int) + off = (tgt : Int)) (kt : x = y → Sim G X nL o P σ tgt lv st) (kf : ¬ x = y → Sim G X nL o P2 σ (pc + 3) lv st) : Sim G X nL o (if x = y then P else P2) σ pc lv (.int y :: .int x :: st) := fun h H locs ls hP hS hl => lv_icmp_eq F.ex F.bt hd ht (fun q => kt q (by rw [if_pos q] at h; exact h) H locs ls hP hS hl) (fun q => kf q (by rw [if_neg q] at h; exact h) H locs ls hP hS hl)
theorem s_if_ne {G : Gx} {X : Cx} {cc : ByteArray} {nL d : Nat} {own : String} {ρ : Type} {o : ρ} {P : Option ρ} {σ : St} {pc : Nat} {lv : List (Nat × Value)} {st : List Value} (F : Fx G X cc nL own d) {x : Int32} {P2 : Option ρ} {off : Int} (tgt : Nat) (hd : decode cc pc = .ok (.ifCond .ne off, 3)) (ht : (pc : Int) + off = (tgt : Int)) (kt : ¬ x = 0 → Sim G X nL o P2 σ tgt lv st) (kf : x = 0 → Sim G X nL o P σ (pc + 3) lv st) : Sim G X nL o (if x = 0 then P else P2) σ pc lv (.int x :: st) := fun h H locs ls hP hS hl => lv_if_ne F.ex F.bt hd ht (fun q => kt q (by rw [if_neg q] at h; exact h) H locs ls hP hS hl) (fun q => kf q (by rw [if_pos q] at h; exact h) H locs ls hP hS hl)
theorem s_icmp_ne {G : Gx} {X : Cx} {cc : ByteArray} {nL d : Nat} {own : String} {ρ : Type} {o : ρ} {P : Option ρ} {σ : St} {pc : Nat} {lv : List (Nat × Value)} {st : List Value} (F : Fx G X cc nL own d) {x y : Int32} {P2 : Option ρ} {off : Int} (tgt : Nat) (hd : decode cc pc = .ok (.if_icmp .ne off, 3)) (ht : (pc : Int) + off = (tgt : Int)) (kt : ¬ x = y → Sim G X nL o P2 σ tgt lv st) (kf : x = y → Sim G X nL o P σ (pc + 3) lv st) : Sim G X nL o (if x = y then P else P2) σ pc lv (.int y :: .int x :: st) := fun h H locs ls hP hS hl => lv_icmp_ne F.ex F.bt hd ht (fun q => kt q (by rw [if_neg q] at h; exact h) H locs ls hP hS hl) (fun q => kf q (by rw [if_pos q] at h; exact h) H locs ls hP hS hl)
theorem s_if_lt {G : Gx} {X : Cx} {cc : ByteArray} {nL d : Nat} {own : String} {ρ : Type} {o : ρ} {P : Option ρ} {σ : St} {pc : Nat} {lv : List (Nat × Value)} {st : List Value} (F : Fx G X cc nL own d) {x : Int32} {P2 : Option ρ} {off : Int} (tgt : Nat) (hd : decode cc pc = .ok (.ifCond .lt off, 3)) (ht : (pc : Int) + off = (tgt : Int)) (kt : x < 0 → Sim G X nL o P σ tgt lv st) (kf : ¬ x < 0 → Sim G X nL o P2 σ (pc + 3) lv st) : Sim G X nL o (if x < 0 then P else P2) σ pc lv (.int x :: st) := fun h H locs ls hP hS hl => lv_if_lt F.ex F.bt hd ht (fun q => kt q (by rw [if_pos q] at h; exact h) H locs ls hP hS hl) (fun q => kf q (by rw [if_neg q] at h; exact h) H locs ls hP hS hl)
theorem s_icmp_lt {G : Gx} {X : Cx} {cc : ByteArray} {nL d : Nat} {own : String} {ρ : Type} {o : ρ} {P : Option ρ} {σ : St} {pc : Nat} {lv : List (Nat × Value)} {st : List Value} (F : Fx G X cc nL own d) {x y : Int32} {P2 : Option ρ} {off : Int} (tgt : Nat) (hd : decode cc pc = .ok (.if_icmp .lt off, 3)) (ht : (pc : Int) + off = (tgt : Int)) (kt : x < y → Sim G X nL o P σ tgt lv st) (kf : ¬ x < y → Sim G X nL o P2 σ (pc + 3) lv st) : Sim G X nL o (if x < y then P else P2) σ pc lv (.int y :: .int x :: st) := fun h H locs ls hP hS hl => lv_icmp_lt F.ex F.bt hd ht (fun q => kt q (by rw [if_pos q] at h; exact h) H locs ls hP hS hl) (fun q => kf q (by rw [if_neg q] at h; exact h) H locs ls hP hS hl)
theorem s_if_ge {G : Gx} {X : Cx} {cc : ByteArray} {nL d : Nat} {own : String} {ρ : Type} {o : ρ} {P : Option ρ} {σ : St} {pc : Nat} {lv : List (Nat × Value)} {st : List Value} (F : Fx G X cc nL own d) {x : Int32} {P2 : Option ρ} {off : Int} (tgt : Nat) (hd : decode cc pc = .ok (.ifCond .ge off, 3)) (ht : (pc : Int) + off = (tgt : Int)) (kt : 0 ≤ x → Sim G X nL o P σ tgt lv st) (kf : ¬ 0 ≤ x → Sim G X nL o P2 σ (pc + 3) lv st) : Sim G X nL o (if 0 ≤ x then P else P2) σ pc lv (.int x :: st) := fun h H locs ls hP hS hl => lv_if_ge F.ex F.bt hd ht (fun q => kt q (by rw [if_pos q] at h; exact h) H locs ls hP hS hl) (fun q => kf q (by rw [if_neg q] at h; exact h) H locs ls hP hS hl)
theorem s_icmp_ge {G : Gx} {X : Cx} {cc : ByteArray} {nL d : Nat} {own : String} {ρ : Type} {o : ρ} {P : Option ρ} {σ : St} {pc : Nat} {lv : List (Nat × Value)} {st : List Value} (F : Fx G X cc nL own d) {x y : Int32} {P2 : Option ρ} {off : Int} (tgt : Nat) (hd : decode cc pc = .ok (.if_icmp .ge off, 3)) (ht : (pc : Int) + off = (tgt : Int)) (kt : y ≤ x → Sim G X nL o P σ tgt lv st) (kf : ¬ y ≤ x → Sim G X nL o P2 σ (pc + 3) lv st) : Sim G X nL o (if y ≤ x then P else P2) σ pc lv (.int y :: .int x :: st) := fun h H locs ls hP hS hl => lv_icmp_ge F.ex F.bt hd ht (fun q => kt q (by rw [if_pos q] at h; exact h) H locs ls hP hS hl) (fun q => kf q (by rw [if_neg q] at h; exact h) H locs ls hP hS hl)
theorem s_if_gt {G : Gx} {X : Cx} {cc : ByteArray} {nL d : Nat} {own : String} {ρ : Type} {o : ρ} {P : Option ρ} {σ : St} {pc : Nat} {lv : List (Nat × Value)} {st : List Value} (F : Fx G X cc nL own d) {x : Int32} {P2 : Option ρ} {off : Int} (tgt : Nat) (hd : decode cc pc = .ok (.ifCond .gt off, 3)) (ht : (pc : Int) + off = (tgt : Int)) (kt : 0 < x → Sim G X nL o P σ tgt lv st) (kf : ¬ 0 < x → Sim G X nL o P2 σ (pc + 3) lv st) : Sim G X nL o (if 0 < x then P else P2) σ pc lv (.int x :: st) := fun h H locs ls hP hS hl => lv_if_gt F.ex F.bt hd ht (fun q => kt q (by rw [if_pos q] at h; exact h) H locs ls hP hS hl) (fun q => kf q (by rw [if_neg q] at h; exact h) H locs ls hP hS hl)
theorem s_icmp_gt {G : Gx} {X : Cx} {cc : ByteArray} {nL d : Nat} {own : String} {ρ : Type} {o : ρ} {P : Option ρ} {σ : St} {pc : Nat} {lv : List (Nat × Value)} {st : List Value} (F : Fx G X cc nL own d) {x y : Int32} {P2 : Option ρ} {off : Int} (tgt : Nat) (hd : decode cc pc = .ok (.if_icmp .gt off, 3)) (ht : (pc : Int) + off = (tgt : Int)) (kt : y < x → Sim G X nL o P σ tgt lv st) (kf : ¬ y < x → Sim G X nL o P2 σ (pc + 3) lv st) : Sim G X nL o (if y < x then P else P2) σ pc lv (.int y :: .int x :: st) := fun h H locs ls hP hS hl => lv_icmp_gt F.ex F.bt hd ht (fun q => kt q (by rw [if_pos q] at h; exact h) H locs ls hP hS hl) (fun q => kf q (by rw [if_neg q] at h; exact h) H locs ls hP hS hl)
theorem s_if_le {G : Gx} {X : Cx} {cc : ByteArray} {nL d : Nat} {own : String} {ρ : Type} {o : ρ} {P : Option ρ} {σ : St} {pc : Nat} {lv : List (Nat × Value)} {st : List Value} (F : Fx G X cc nL own d) {x : Int32} {P2 : Option ρ} {off : Int} (tgt : Nat) (hd : decode cc pc = .ok (.ifCond .le off, 3)) (ht : (pc : Int) + off = (tgt : Int)) (kt : x ≤ 0 → Sim G X nL o P σ tgt lv st) (kf : ¬ x ≤ 0 → Sim G X nL o P2 σ (pc + 3) lv st) : Sim G X nL o (if x ≤ 0 then P else P2) σ pc lv (.int x :: st) := fun h H locs ls hP hS hl => lv_if_le F.ex F.bt hd ht (fun q => kt q (by rw [if_pos q] at h; exact h) H locs ls hP hS hl) (fun q => kf q (by rw [if_neg q] at h; exact h) H locs ls hP hS hl)
theorem s_icmp_le {G : Gx} {X : Cx} {cc : ByteArray} {nL d : Nat} {own : String} {ρ : Type} {o : ρ} {P : Option ρ} {σ : St} {pc : Nat} {lv : List (Nat × Value)} {st : List Value} (F : Fx G X cc nL own d) {x y : Int32} {P2 : Option ρ} {off : Int} (tgt : Nat) (hd : decode cc pc = .ok (.if_icmp .le off, 3)) (ht : (pc : Int) + off = (tgt : Int)) (kt : x ≤ y → Sim G X nL o P σ tgt lv st) (kf : ¬ x ≤ y → Sim G X nL o P2 σ (pc + 3) lv st) : Sim G X nL o (if x ≤ y then P else P2) σ pc lv (.int y :: .int x :: st) := fun h H locs ls hP hS hl => lv_icmp_le F.ex F.bt hd ht (fun q => kt q (by rw [if_pos q] at h; exact h) H locs ls hP hS hl) (fun q => kf q (by rw [if_neg q] at h; exact h) H locs ls hP hS hl)
theorem s_goto {G : Gx} {X : Cx} {cc : ByteArray} {nL d : Nat} {own : String} {ρ : Type} {o : ρ} {P : Option ρ} {σ : St} {pc : Nat} {lv : List (Nat × Value)} {st : List Value} (F : Fx G X cc nL own d) {off : Int} (tgt : Nat) (hd : decode cc pc = .ok (.goto off, 3)) (ht : (pc : Int) + off = (tgt : Int)) (k : Sim G X nL o P σ tgt lv st) : Sim G X nL o P σ pc lv st := fun h H locs ls hP hS hl => lv_goto F.ex F.bt hd ht (k h H locs ls hP hS hl)
theorem s_ite {G : Gx} {X : Cx} {nL : Nat} {ρ : Type} {o : ρ} {P P2 : Option ρ} {σ : St} {pc : Nat} {lv : List (Nat × Value)} {st : List Value} {c : Prop} [Decidable c] (kt : c → Sim G X nL o P σ pc lv st) (kf : ¬ c → Sim G X nL o P2 σ pc lv st) : Sim G X nL o (if c then P else P2) σ pc lv st := fun h => by
  by_cases q : c
  · exact kt q (by rw [if_pos q] at h; exact h)
  · exact kf q (by rw [if_neg q] at h; exact h)
/-- a test without which the program says nothing -/
theorem s_grd {G : Gx} {X : Cx} {nL : Nat} {ρ : Type} {o : ρ} {P : Option ρ} {σ : St} {pc : Nat} {lv : List (Nat × Value)} {st : List Value} {c : Prop} [Decidable c] (kt : c → Sim G X nL o P σ pc lv st) : Sim G X nL o (if c then P else none) σ pc lv st := s_ite kt (fun _ h => by cases h)
theorem s_none {G : Gx} {X : Cx} {nL : Nat} {ρ : Type} {o : ρ} {σ : St} {pc : Nat} {lv : List (Nat × Value)} {st : List Value} : Sim G X nL o none σ pc lv st := fun h => by cases h
theorem s_lv {G : Gx} {X : Cx} {nL : Nat} {ρ : Type} {o : ρ} {P : Option ρ} {σ : St} {pc : Nat} {lv : List (Nat × Value)} {st : List Value} (lv' : List (Nat × Value)) (ks : List Nat) (hk : lv_pick lv ks = lv') (k : Sim G X nL o P σ pc lv' st) : Sim G X nL o P σ pc lv st := fun h H locs ls hP hS hl => k h H locs ls hP hS (lv_sub hl ks hk)
theorem s_tin {G : Gx} {X : Cx} {cc : ByteArray} {nL d : Nat} {own : String} {ρ : Type} {o : ρ} {P : Option ρ} {σ : St} {pc : Nat} {lv : List (Nat × Value)} {st : List Value} (F : Fx G X cc nL own d) {dflt lo hi : Int} {offs : Array Int} {len : Nat} {x : Int32} {off : Int} (tgt : Nat) (hd : decode cc pc = .ok (.tableswitch dflt lo hi offs, len)) (v : Int32) (hx : x = v) (h1 : ¬ v.toInt < lo) (h2 : ¬ hi < v.toInt) (ho : offs[(v.toInt - lo).toNat]? = some off) (ht : (pc : Int) + off = (tgt : Int)) (k : Sim G X nL o P σ tgt lv st) : Sim G X nL o P σ pc lv (.int x :: st) := by
  subst hx
  exact fun h H locs ls hP hS hl => lv_tableIn F.ex F.bt hd h1 h2 ho ht (k h H locs ls hP hS hl)
theorem s_tout {G : Gx} {X : Cx} {cc : ByteArray} {nL d : Nat} {own : String} {ρ : Type} {o : ρ} {P : Option ρ} {σ : St} {pc : Nat} {lv : List (Nat × Value)} {st : List Value} (F : Fx G X cc nL own d) {dflt lo hi : Int} {offs : Array Int} {len : Nat} {x : Int32} (tgt : Nat) (hd : decode cc pc = .ok (.tableswitch dflt lo hi offs, len)) (hx : x.toInt < lo ∨ hi < x.toInt) (ht : (pc : Int) + dflt = (tgt : Int)) (k : Sim G X nL o P σ tgt lv st) : Sim G X nL o P σ pc lv (.int x :: st) := fun h H locs ls hP hS hl => lv_tableOut F.ex F.bt hd hx ht (k h H locs ls hP hS hl)
theorem ne_toInt {x v : Int32} (h : ¬ x = v) : x.toInt ≠ v.toInt := fun e => h (Int32.toInt_inj.mp e)
theorem s_get {G : Gx} {X : Cx} {cc : ByteArray} {nL d : Nat} {own : String} {ρ : Type} {o : ρ} {P : Option ρ} {σ : St} {pc : Nat} {lv : List (Nat × Value)} {st : List Value} (F : Fx G X cc nL own d) {ref C : String} {T : u_T} {N ci i : Nat} (q k : Nat) {fs : List Value} {v : Value} (hd : decode cc pc = .ok (.getfield i, 3)) (hw : Cond.fieldLink own i ref (T k).2.1 (T k).2.2.1 ∈ gT) (hin : ∀ w ∈ u_ws C T N, w ∈ gT) (hq : q < 72) (he : cellOf G σ q = .inr (ci, fs)) (hc : vwCl[ci]? = some (C, T, N)) (hk : k < N) (hr : (T k).1 = ref) (hv : fs[k]? = some v) (kk : Sim G X nL o P σ (pc + 3) lv (v :: st)) : Sim G X nL o P σ pc lv (.ref (ga G q) :: st) := fun h H locs ls hP hS hl => va_get F.ex F.bt F.ts hin F.ow F.K hP q (by rw [wld_at hq, he]) hc k hk (F.ts _ hw) (fun x hx => by rw [← hr]; exact hx) hv hd (kk h H locs ls hP hS hl)
theorem s_put {G : Gx} {X : Cx} {cc : ByteArray} {nL d : Nat} {own : String} {ρ : Type} {o : ρ} {P : Option ρ} {σ : St} {pc : Nat} {lv : List (Nat × Value)} {st : List Value} (F : Fx G X cc nL own d) {ref C : String} {T : u_T} {N ci i : Nat} (q k : Nat) {fs : List Value} {v : Int32} (τ : St) (hd : decode cc pc = .ok (.putfield i, 3)) (hw : Cond.fieldLink own i ref (T k).2.1 (T k).2.2.1 ∈ gT) (hin : ∀ w ∈ u_ws C T N, w ∈ gT) (ty0 : Nat → FieldType) (hty : ∀ k, k < N → parseFieldDescriptor (T k).2.2.1 = some (ty0 k)) (hnm : ∀ a, a < N → ∀ b, b < N → a ≠ b → (T a).2.1 ≠ (T b).2.1) (hq : q < 72) (he : cellOf G σ q = .inr (ci, fs)) (hc : vwCl[ci]? = some (C, T, N)) (hk : k < N) (hr : (T k).1 = ref) (hfin : (T k).2.2.2 = false) (hpd : parseFieldDescriptor (T k).2.2.1 = some .int) (hl0 : k < fs.length) (h1 : cellOf G τ q = .inr (ci, fs.set k (.int v))) (h2 : ∀ j, j ≠ q → cellOf G τ j = cellOf G σ j) (kk : Sim G X nL o P τ (pc + 3) lv st) : Sim G X nL o P σ pc lv (.int v :: .ref (ga G q) :: st) := fun h H locs ls hP hS hl => va_put F.ex F.bt F.ts hin ty0 hty hnm F.ow F.K hP (F.D σ) hS q (by rw [wld_at hq, he]) hc k hk (F.ts _ hw) (fun x hx => by rw [← hr]; exact hx) hfin hpd rfl rfl hl0 hd (fun H1 locs1 hP1 _ hS1 => kk h H1 locs1 ls (by rw [wld_set h1 h2] at hP1; exact hP1) hS1 hl)
theorem s_iald {G : Gx} {X : Cx} {cc : ByteArray} {nL d : Nat} {own : String} {ρ : Type} {o : ρ} {P : Option ρ} {σ : St} {pc : Nat} {lv : List (Nat × Value)} {st : List Value} (F : Fx G X cc nL own d) {k n : Nat} {x : Int32} (ha : isArr k n) (hd : decode cc pc = .ok (.iaload, 1)) (kk : ix x n → Sim G X nL o P σ (pc + 1) lv (.int (σ.1 k x.toNatClampNeg) :: st)) : Sim G X nL o (if ix x n then P else none) σ pc lv (.int x :: .ref (ga G k) :: st) := s_grd (fun q => fun h H locs ls hP hS hl => va_iald F.ex F.bt F.K hP k 0 (by rw [wld_at ha.1, ha.2]) rfl q hd (kk q h H locs ls hP hS hl))
theorem s_iast {G : Gx} {X : Cx} {cc : ByteArray} {nL d : Nat} {own : String} {ρ : Type} {o : ρ} {P : Option ρ} {σ : St} {pc : Nat} {lv : List (Nat × Value)} {st : List Value} (F : Fx G X cc nL own d) {k n : Nat} {x v : Int32} (ha : isArr k n) (hd : decode cc pc = .ok (.iastore, 1)) (kk : ix x n → Sim G X nL o P (setA σ k x.toNatClampNeg v) (pc + 1) lv st) : Sim G X nL o (if ix x n then P else none) σ pc lv (.int v :: .int x :: .ref (ga G k) :: st) := s_grd (fun q => fun h H locs ls hP hS hl => va_iast F.ex F.bt F.K hP (F.D σ) hS k 0 (by rw [wld_at ha.1, ha.2]) rfl q hd (fun H1 locs1 hP1 _ hS1 => kk q h H1 locs1 ls (by rw [wld_set (τ := setA σ k x.toNatClampNeg v) (isArr_setR ha) (fun j hj => cell_setR hj)] at hP1; exact hP1) hS1 hl))
theorem s_zald {G : Gx} {X : Cx} {cc : ByteArray} {nL d : Nat} {own : String} {ρ : Type} {o : ρ} {P : Option ρ} {σ : St} {pc : Nat} {lv : List (Nat × Value)} {st : List Value} (F : Fx G X cc nL own d) {x : Int32} (hd : decode cc pc = .ok (.baload, 1)) (kk : ix x 2 → Sim G X nL o P σ (pc + 1) lv (.int (σ.1 35 x.toNatClampNeg) :: st)) : Sim G X nL o (if ix x 2 then P else none) σ pc lv (.int x :: .ref (ga G 35) :: st) := s_grd (fun q => fun h H locs ls hP hS hl => va_zald F.ex F.bt F.K hP 35 1 (by rw [wld_at (by decide)]; rfl) rfl q hd (kk q h H locs ls hP hS hl))
/-- the narrowing of a boolean's store -/
def nb (v : Int32) : Int32 := vp_nar .boolean v
theorem s_zast {G : Gx} {X : Cx} {cc : ByteArray} {nL d : Nat} {own : String} {ρ : Type} {o : ρ} {P : Option ρ} {σ : St} {pc : Nat} {lv : List (Nat × Value)} {st : List Value} (F : Fx G X cc nL own d) {x v : Int32} (hd : decode cc pc = .ok (.bastore, 1)) (kk : ix x 2 → Sim G X nL o P (setA σ 35 x.toNatClampNeg (nb v)) (pc + 1) lv st) : Sim G X nL o (if ix x 2 then P else none) σ pc lv (.int v :: .int x :: .ref (ga G 35) :: st) := s_grd (fun q => fun h H locs ls hP hS hl => va_zast F.ex F.bt F.K hP (F.D σ) hS 35 1 (by rw [wld_at (by decide)]; rfl) rfl q hd (fun H1 locs1 hP1 _ hS1 => kk q h H1 locs1 ls (by rw [wld_set (τ := setA σ 35 x.toNatClampNeg (nb v)) (show cellOf G (setA σ 35 x.toNatClampNeg (nb v)) 35 = .inl (gZ G, 2, .inl (upd (σ.1 35) x.toNatClampNeg (vp_nar .boolean v))) from rfl) (fun j hj => cell_setR hj)] at hP1; exact hP1) hS1 hl))
theorem s_aald {G : Gx} {X : Cx} {cc : ByteArray} {nL d : Nat} {own : String} {ρ : Type} {o : ρ} {P : Option ρ} {σ : St} {pc : Nat} {lv : List (Nat × Value)} {st : List Value} (F : Fx G X cc nL own d) {k b n : Nat} {x : Int32} (hk : k < 72) (ha : cellOf G σ k = .inl (gA G, n, .inr (.inr (.inr (.inr (refs G b n)))))) (hd : decode cc pc = .ok (.aaload, 1)) (kk : ix x n → Sim G X nL o P σ (pc + 1) lv (.ref (ga G (b + x.toNatClampNeg)) :: st)) : Sim G X nL o (if ix x n then P else none) σ pc lv (.int x :: .ref (ga G k) :: st) := s_grd (fun q => fun h H locs ls hP hS hl => by
  have hlt : x.toNatClampNeg < n := Nat.not_le.mp fun z => q (Or.inr z)
  have ha' : (wld G σ)[k]? = some (ga G k, .inl (gA G, n, .inr (.inr (.inr (.inr (refs G b n)))))) := by rw [wld_at hk, ha]
  have hv : va_rf (refs G b n x.toNatClampNeg) = .ref (ga G (b + x.toNatClampNeg)) := by
    unfold refs
    rw [if_pos hlt]
    rfl
  exact W.aald (v := .ref (ga G (b + x.toNatClampNeg))) (ty := .array .int) F.ex F.bt (hP k _ ha') ((F.K.2 2 _ rfl).1 n (fun j => va_rf (refs G b n j))) rfl (fun z => by cases z) (by show ¬ (x < 0 ∨ (arrV _ _ _).slots.size ≤ _); rw [arrV_size]; exact q) (by show (arrV _ _ _).slots[_]? = _; rw [arrV_read _ _ hlt, hv]) rfl rfl hd (kk q h H locs ls hP hS hl))
theorem s_alen {G : Gx} {X : Cx} {cc : ByteArray} {nL d : Nat} {own : String} {ρ : Type} {o : ρ} {P : Option ρ} {σ : St} {pc : Nat} {lv : List (Nat × Value)} {st : List Value} (F : Fx G X cc nL own d) {k n : Nat} (v : Int32) (ha : isArr k n) (hd : decode cc pc = .ok (.arraylength, 1)) (hv : Int32.ofNat n = v) (kk : Sim G X nL o P σ (pc + 1) lv (.int v :: st)) : Sim G X nL o P σ pc lv (.ref (ga G k) :: st) := fun h H locs ls hP hS hl => va_alen F.ex F.bt F.K hP k 0 (by rw [wld_at ha.1, ha.2]) (ty := .int) rfl hv hd (kk h H locs ls hP hS hl)
theorem s_gets {G : Gx} {X : Cx} {cc : ByteArray} {nL d : Nat} {own : String} {ρ : Type} {o : ρ} {P : Option ρ} {σ : St} {pc : Nat} {lv : List (Nat × Value)} {st : List Value} (F : Fx G X cc nL own d) {i : Nat} (k : Nat) (hk : k < 4) (hd : decode cc pc = .ok (.getstatic i, 3)) (hw : Cond.fieldLink own i (stN k).1 (stN k).2 "[I" ∈ gT) (kk : Sim G X nL o P σ (pc + 3) lv (.ref (gs G k) :: st)) : Sim G X nL o P σ pc lv st := fun h H locs ls hP hS hl => va_gets F.ex F.bt (F.sc k hk).1 hS F.ow (F.ts _ hw) (fun x hx => hx) hd (kk h H locs ls hP hS hl)
theorem s_tald {G : Gx} {X : Cx} {cc : ByteArray} {nL d : Nat} {own : String} {ρ : Type} {o : ρ} {P : Option ρ} {σ : St} {pc : Nat} {lv : List (Nat × Value)} {st : List Value} (F : Fx G X cc nL own d) {k : Nat} {x : Int32} (hk : k < 4) (hd : decode cc pc = .ok (.iaload, 1)) (kk : ix x 6 → Sim G X nL o P σ (pc + 1) lv (.int (stV k x.toNatClampNeg) :: st)) : Sim G X nL o (if ix x 6 then P else none) σ pc lv (.int x :: .ref (gs G k) :: st) := s_grd (fun q => fun h H locs ls hP hS hl => va_ti F.ex F.bt (F.sc k hk).2 hS q rfl hd (kk q h H locs ls hP hS hl))
/-- what arraycopy asks -/
def cpok (sp dp n : Int32) (a b : Nat) : Prop := ¬ sp < 0 ∧ ¬ dp < 0 ∧ ¬ n < 0 ∧ sp.toNatClampNeg + n.toNatClampNeg ≤ a ∧ dp.toNatClampNeg + n.toNatClampNeg ≤ b
def cpyA (σ : St) (k sp j dp n : Nat) : St := setR σ j (va_cpy (σ.1 k) (σ.1 j) sp dp n)
theorem s_copy {G : Gx} {X : Cx} {cc : ByteArray} {nL d : Nat} {own : String} {ρ : Type} {o : ρ} {P : Option ρ} {σ : St} {pc : Nat} {lv : List (Nat × Value)} {st : List Value} (F : Fx G X cc nL own d) {i : Nat} {k j a b : Nat} {sp dp n : Int32} (ha : isArr k a) (hb : isArr j b) (hd : decode cc pc = .ok (.invokestatic i, 3)) (hd1 : 1 ≤ d) (hr : (st.map fun v => v.category).sum ≤ 8) (hw : ∀ w ∈ [Cond.methodLink own i arraycopyName, .native arraycopyName, .static arraycopyName, .initialized "java/lang/System"], w ∈ gT) (kk : (¬ sp < 0 ∧ ¬ dp < 0 ∧ ¬ n < 0 ∧ sp.toNatClampNeg + n.toNatClampNeg ≤ a ∧ dp.toNatClampNeg + n.toNatClampNeg ≤ b) → Sim G X nL o P (cpyA σ k sp.toNatClampNeg j dp.toNatClampNeg n.toNatClampNeg) (pc + 3) lv st) : Sim G X nL o (if (¬ sp < 0 ∧ ¬ dp < 0 ∧ ¬ n < 0 ∧ sp.toNatClampNeg + n.toNatClampNeg ≤ a ∧ dp.toNatClampNeg + n.toNatClampNeg ≤ b) then P else none) σ pc lv (.int n :: .int dp :: .ref (ga G j) :: .int sp :: .ref (ga G k) :: st) := s_grd (fun q => fun h H locs ls hP hS hl => by
  have hrm := F.rm
  have hN : nativeFrameWords "java/lang/System" "arraycopy" 5 + 11 ≤ 52 := by decide +kernel
  refine va_copyi F.ex F.bt (F.ml.trans hl.1.symm) F.ow (F.ts _ (hw _ (by simp))) (F.ts _ (hw _ (by simp))) (F.ts _ (hw _ (by simp))) (F.ts _ (hw _ (by simp))) F.K hP (F.D σ) hS k j 0 0 (ty := .int) (by rw [wld_at ha.1, ha.2]) (by rw [wld_at hb.1, hb.2]) rfl rfl rfl q.1 q.2.1 q.2.2.1 q.2.2.2.1 q.2.2.2.2 (fun _ _ => rfl) (by omega) (by omega) hd (fun H1 locs1 hP1 _ hS1 => ?_)
  rw [wld_set (τ := cpyA σ k sp.toNatClampNeg j dp.toNatClampNeg n.toNatClampNeg) (isArr_setR hb) (fun j hj => cell_setR hj)] at hP1
  exact kk q h H1 locs1 ls hP1 hS1 hl)
theorem s_min {G : Gx} {X : Cx} {cc : ByteArray} {nL d : Nat} {own : String} {ρ : Type} {o : ρ} {P : Option ρ} {σ : St} {pc : Nat} {lv : List (Nat × Value)} {st : List Value} (F : Fx G X cc nL own d) {i : Nat} {x y : Int32} (hd : decode cc pc = .ok (.invokestatic i, 3)) (hd1 : 1 ≤ d) (hr : (st.map fun v => v.category).sum ≤ 8) (hw : ∀ w ∈ [Cond.methodLink own i Lib.Math.min.name, .static Lib.Math.min.name, .initialized "java/lang/Math", .code Lib.Math.min.name Lib.Math.min.code 2 (some .int)], w ∈ gT) (kk : Sim G X nL o P σ (pc + 3) lv (.int (if y < x then y else x) :: st)) : Sim G X nL o P σ pc lv (.int y :: .int x :: st) := fun h H locs ls hP hS hl => by
  have hrm := F.rm
  have hcs := F.cs
  exact va_mmin F.ex F.bt (F.ml.trans hl.1.symm) F.ow (F.ts _ (hw _ (by simp))) (F.ts _ (hw _ (by simp))) (F.ts _ (hw _ (by simp))) (F.ts _ (hw _ (by simp))) (by omega) (by omega) hcs.1 hcs.2 hd (kk h H locs ls hP hS hl)
theorem s_max {G : Gx} {X : Cx} {cc : ByteArray} {nL d : Nat} {own : String} {ρ : Type} {o : ρ} {P : Option ρ} {σ : St} {pc : Nat} {lv : List (Nat × Value)} {st : List Value} (F : Fx G X cc nL own d) {i : Nat} {x y : Int32} (hd : decode cc pc = .ok (.invokestatic i, 3)) (hd1 : 1 ≤ d) (hr : (st.map fun v => v.category).sum ≤ 8) (hw : ∀ w ∈ [Cond.methodLink own i Lib.Math.max.name, .static Lib.Math.max.name, .initialized "java/lang/Math", .code Lib.Math.max.name Lib.Math.max.code 2 (some .int)], w ∈ gT) (kk : Sim G X nL o P σ (pc + 3) lv (.int (if x < y then y else x) :: st)) : Sim G X nL o P σ pc lv (.int y :: .int x :: st) := fun h H locs ls hP hS hl => by
  have hrm := F.rm
  have hcs := F.cs
  exact va_mmax F.ex F.bt (F.ml.trans hl.1.symm) F.ow (F.ts _ (hw _ (by simp))) (F.ts _ (hw _ (by simp))) (F.ts _ (hw _ (by simp))) (F.ts _ (hw _ (by simp))) (by omega) (by omega) hcs.1 hcs.2 hd (kk h H locs ls hP hS hl)
end
section
/-! contracts, and how they are used -/
def rmL (d : Nat) : Room := { frames := d, cells := 0, slots := 0, locals := 60 * d }
def Az (G : Gx) (sz : Nat) : Nat → Prop := fun q => (∃ k, k < 72 ∧ q = ga G k) ∨ sz ≤ q
def cPre (G : Gx) (σ : St) (sz : Nat) (U : State) : Prop := U.heap.size = sz ∧ va_P G.1 vwCl (wld G σ) U.heap ∧ va_K G.1 vwCl (tysG G) U ∧ Stc G (Az G sz) U U.heap ∧ GOK G
def cPost (G : Gx) (τ : St) (v : Option Value) (sz : Nat) : Array Value → State → Outcome → State → Prop := fun _ st oc t => (oc = .returned v ∧ va_P G.1 vwCl (wld G τ) t.heap) ∧ va_F (Az G sz) st t
/-- called with av in a room that holds σ, the method returns v and leaves τ -/
def Con (G : Gx) (l : Launch) (y : MethodName) (cc : ByteArray) (nL : Nat) (rt : Option FieldType) (d : Nat) (av : List Value) (σ : St) (v : Option Value) (τ : St) : Prop :=
  ∀ sz, Met l y (.code y cc nL rt :: gT) (rmL d) (va_Pc av (cPre G σ sz)) (cPost G τ v sz) 0 0 (Az G sz)
def Ret (G : Gx) (X : Cx) (cc : ByteArray) (nL : Nat) (rt : Option FieldType) (v : Option Value) (τ : St) : Prop :=
  ∀ (H : Heap) (locs : List Loc), va_P G.1 vwCl (wld G τ) H → va_S (xA X) (xs X).heap H locs → (∃ sz, xA X = Az G sz ∧ xQ X = MQ (xb X) (cPost G τ v sz) (xa X) (xs X) (xk X) (xn X) (xA X)) ∧ (xp X).tables.exec = Jvm.exec ∧ (xc X).code = cc ∧ (xt X).sig.returnType = rt ∧ (xt X).locks = false
theorem Con.of {G : Gx} {l : Launch} {y : MethodName} {cc : ByteArray} {nL : Nat} {rt : Option FieldType} {d : Nat} {av : List Value} {σ : St} {v : Option Value} {τ : St} (hy : plainName y.cls = true) (hlen : (lg_sl av).length ≤ nL) (lv : List (Nat × Value)) (hlv : lv_args 0 av = lv)
    (body : ∀ X : Cx, Fx G X cc nL y.cls d → Ret G X cc nL rt v τ → Wx G X nL σ 0 lv []) : Con G l y cc nL rt d av σ v τ := by
  intro sz
  refine Met.ofW (cc := cc) (maxL := nL) (ret := rt) hy rfl ?_
  intro p e s m args below meth c s₁ B hml hv
  obtain ⟨rfl, hsz, hP, hK, hSt, hG⟩ := hv
  have hts := atoms_spec (ws := .code y cc nL rt :: gT) B.pre
  have hown : s.vm.findClass y.cls = some m.cls := findClass_of_methodNamed B.named
  subst hsz
  have hl := lv_entry av (n := nL) hlen
  rw [lg_entry_eq]
  generalize (lg_sl av ++ List.replicate (nL - (lg_sl av).length) Slot.unset).toArray = ls at hl ⊢
  rw [hlv] at hl
  exact body (p, l, e, rmL d, s, m, av.toArray, below, meth, c, 0, 0, MQ below (cPost G τ v s.heap.size) av.toArray s 0 0 (Az G s.heap.size), Az G s.heap.size)
    ⟨B.exec, B.bytes, hml, hown, fun w hw => hts w (List.mem_cons_of_mem _ hw), hK, hG, fun k hk => Or.inl ⟨k, hk, rfl⟩, fun q hq => Or.inr hq, hSt, ⟨Nat.le_refl _, Nat.le_refl _⟩, ⟨Nat.le_refl _, Nat.le_refl _⟩⟩
    (fun H locs _ _ => ⟨⟨s.heap.size, rfl, rfl⟩, B.exec, B.bytes, B.returns, B.notSynchronized⟩) s.heap [] ls hP va_S.rf hl
section RETS
variable {G : Gx} {X : Cx} {cc : ByteArray} {nL : Nat} {pc : Nat} {lv : List (Nat × Value)} {σ : St}
theorem s_iret {o : Int32 × St} (R : Ret G X cc nL (some .int) (some (.int o.1)) o.2) (hd : decode cc pc = .ok (.ireturn, 1)) {r : Int32} : Sim G X nL o (some (r, σ)) σ pc lv [.int r] := fun h H locs ls hP hS hl => by
  cases h
  obtain ⟨⟨sz, hA, hQ⟩, hx, hb, hr, hk⟩ := R H locs hP hS
  rw [hQ]
  exact W.iret hx hb hr (fun t ht hW => ⟨⟨rfl, by rw [ht]; exact hP⟩, by rw [← hA]; exact hS.F ht⟩) hS.2.2 hd hk
theorem s_zret {o : Int32 × St} (R : Ret G X cc nL (some .boolean) (some (.int o.1)) o.2) (hd : decode cc pc = .ok (.ireturn, 1)) {r : Int32} (hn : narrow .boolean (.int r) = .int r) : Sim G X nL o (some (r, σ)) σ pc lv [.int r] := fun h H locs ls hP hS hl => by
  cases h
  obtain ⟨⟨sz, hA, hQ⟩, hx, hb, hr, hk⟩ := R H locs hP hS
  rw [hQ]
  exact W.zret hx hb hr hn (fun t ht hW => ⟨⟨rfl, by rw [ht]; exact hP⟩, by rw [← hA]; exact hS.F ht⟩) hS.2.2 hd hk
theorem s_zretg {o : Int32 × St} (R : Ret G X cc nL (some .boolean) (some (.int o.1)) o.2) (hd : decode cc pc = .ok (.ireturn, 1)) {r : Int32} : Sim G X nL o (if (r = 0 ∨ r = 1) then some (r, σ) else none) σ pc lv [.int r] :=
  s_grd (fun q => s_zret R hd (by rcases q with rfl | rfl <;> rfl))
theorem s_lret {o : Int64 × St} (R : Ret G X cc nL (some .long) (some (.long o.1)) o.2) (hd : decode cc pc = .ok (.lreturn, 1)) {r : Int64} : Sim G X nL o (some (r, σ)) σ pc lv [.long r] := fun h H locs ls hP hS hl => by
  cases h
  obtain ⟨⟨sz, hA, hQ⟩, hx, hb, hr, hk⟩ := R H locs hP hS
  rw [hQ]
  exact W.lret hx hb hr (fun t ht hW => ⟨⟨rfl, by rw [ht]; exact hP⟩, by rw [← hA]; exact hS.F ht⟩) hS.2.2 hd hk
theorem s_vret {o : St} (R : Ret G X cc nL none none o) (hd : decode cc pc = .ok (.return_, 1)) : Sim G X nL o (some σ) σ pc lv [] := fun h H locs ls hP hS hl => by
  cases h
  obtain ⟨⟨sz, hA, hQ⟩, hx, hb, hr, hk⟩ := R H locs hP hS
  rw [hQ]
  exact W.vret hx hb hr (fun t ht hW => ⟨⟨rfl, by rw [ht]; exact hP⟩, by rw [← hA]; exact hS.F ht⟩) hS.2.2 hd hk
theorem s_aret {o : Nat × St} {rt : FieldType} (R : Ret G X cc nL (some rt) (some (.ref (ga G o.1))) o.2) (hrt : (∃ n, rt = .object n) ∨ ∃ t, rt = .array t) (hd : decode cc pc = .ok (.areturn, 1)) {r : Nat} : Sim G X nL o (some (r, σ)) σ pc lv [.ref (ga G r)] := fun h H locs ls hP hS hl => by
  cases h
  obtain ⟨⟨sz, hA, hQ⟩, hx, hb, hr, hk⟩ := R H locs hP hS
  rw [hQ]
  exact W.aret hx hb hr hrt (Or.inr ⟨_, rfl⟩) (fun t ht hW => ⟨⟨rfl, by rw [ht]; exact hP⟩, by rw [← hA]; exact hS.F ht⟩) hS.2.2 hd hk
end RETS
theorem cPre_blind {G : Gx} {σ : St} {sz : Nat} {av : List Value} : FrameBlind (va_Pc av (cPre G σ sz)) := fun a U g mk q => by
  obtain ⟨q0, q1, qP, qK, qS, qG⟩ := q
  exact ⟨q0, q1, qP, va_K.moved (u := U) (U := U.calling g mk a) (Vm.Alike.refl U.vm) qK, Stc.moved (u := U) (U := U.calling g mk a) (Vm.Alike.refl U.vm) qS, qG⟩
section CALLS
variable {G : Gx} {X : Cx} {cc : ByteArray} {nL d : Nat} {own : String} {ρ : Type} {o : ρ} {σ : St} {pc : Nat} {lv : List (Nat × Value)} {st stk : List Value}
theorem Fx.Az (F : Fx G X cc nL own d) {H : Heap} {locs : List Loc} (hS : va_S (xA X) (xs X).heap H locs) : ∀ q, Az G H.size q → xA X q := fun q h => by
  rcases h with ⟨k, hk, rfl⟩ | h
  · exact F.inA k hk
  · exact F.up q (Nat.le_trans hS.1 h)
theorem Fx.pre (F : Fx G X cc nL own d) {H : Heap} {locs : List Loc} (hP : va_P G.1 vwCl (wld G σ) H) (hS : va_S (xA X) (xs X).heap H locs) {av : List Value} : ∀ U : State, U.heap = H → (xs X).WarmedH U.vm → va_Pc av (cPre G σ H.size) av.toArray U := fun U hU hW =>
  ⟨rfl, by rw [hU], by rw [hU]; exact hP, va_K.moved hW.alike F.K, by rw [hU]; exact Stc.moved hW.alike ((F.sc.kept hS.2.1).narrow (F.Az hS)), F.gk⟩
/-- behind a call: its answer v, the room τ -/
theorem wx_after (F : Fx G X cc nL own d) {H : Heap} {locs : List Loc} {ls : Array Slot} (hS : va_S (xA X) (xs X).heap H locs) (hl : lv_has ls nL lv) {v : Option Value} {τ : St} {a : Array Value}
    (hr : va_Run (xp X) (xl X) (xe X) (xR X) (xs X) (xm X) (xa X) (xb X) (xt X) (xc X) H locs (xk X) (xn X) 0 0 (F0 (xm X) pc ls stk) st (cPost G τ v H.size a) (Az G H.size))
    (k : Wx G X nL τ (pc + 3) lv (v.toList ++ st)) : W (xp X) (xl X) (xe X) (xR X) (xs X) (xm X) (xa X) (xb X) (xt X) (xc X) H locs (xk X) (xn X) (xQ X) (F0 (xm X) pc ls stk) := by
  intro T hT XX
  obtain ⟨v', st₀, t, T', L, h0, X', hL, e1, e2, ⟨⟨hv, hp⟩, hz, hk⟩, step⟩ := hr T hT XX
  cases hv
  rw [h0] at hz hk
  obtain ⟨t2, a1, b1⟩ := k T'.heap (locs ++ L) ls (by rw [e1]; exact hp) ⟨Nat.le_trans hS.1 (by rw [e1]; exact hz), fun q h1 h2 => by rw [e1, hk q (Nat.lt_of_lt_of_le h1 hS.1) (fun z => h2 (F.Az hS q z))]; exact hS.2.1 q h1 h2, fun q hq => by
      rcases List.mem_append.mp hq with h | h
      · exact hS.2.2 q h
      · exact F.Az hS _ (hL q h)⟩ hl T' rfl X'
  exact ⟨t2, step t2 a1, b1⟩
/-- what is asked of a callee's name -/
def nmOK (y : MethodName) (n : Nat) : Prop := y.cls ≠ "java/lang/invoke/MethodHandle" ∧ y.cls ≠ "java/lang/invoke/VarHandle" ∧ (parseMethodDescriptor y.desc).map (fun d => d.parameters.length) = some n
def wV (own : String) (i : Nat) (y : MethodName) (cy : ByteArray) (mL : Nat) (rt : Option FieldType) : List Cond := [.methodLink own i y, .instanceMethod y, .selects y.cls y y, .initialized y.cls, .code y cy mL rt]
def wS (own : String) (i : Nat) (y : MethodName) (cy : ByteArray) (mL : Nat) (rt : Option FieldType) : List Cond := [.methodLink own i y, .static y, .initialized y.cls, .code y cy mL rt]
theorem callB_gT (F : Fx G X cc nL own d) {y : MethodName} {cy : ByteArray} {mL : Nat} {rt : Option FieldType} {i n d' : Nat} (hl : Cond.methodLink own i y ∈ gT) (hini : Cond.initialized y.cls ∈ gT) (hcd : Cond.code y cy mL rt ∈ gT) (hn : nmOK y n) (hdd : d' < d) (hmL : mL ≤ 41) : CallB (xR X) (xs X) (xa X) own i y cy mL rt (.code y cy mL rt :: gT) (rmL d') 0 0 n := by
  have hrm := F.rm
  refine callB_of n F.ts (gT_good (fun w hw => ?_)) rfl rfl rfl (F.ts _ hini) (F.ts _ hl) hn ⟨?_, ?_⟩
  · rcases List.mem_cons.mp hw with rfl | h
    · exact hcd
    · exact h
  · show d' + 1 ≤ _
    omega
  · show 8 + (mL + 11) + 60 * d' ≤ _
    omega
theorem wx_V (F : Fx G X cc nL own d) {y : MethodName} {cy : ByteArray} {mL : Nat} {rt : Option FieldType} {i n d' q ci : Nat} {T : u_T} {N : Nat} {As : List Value} {v : Option Value} {τ : St} (hd : decode cc pc = .ok (.invokevirtual i, 3)) (hM : Con G (xl X) y cy mL rt d' (.ref (ga G q) :: As) σ v τ) (hw : ∀ w ∈ wV own i y cy mL rt, w ∈ gT) (hn : nmOK y n) (hdd : d' < d) (hmL : mL ≤ 41) (hq : isObj q ci) (hci : vwCl[ci]? = some (y.cls, T, N)) (hAn : As.length = n) (hstk : stk = As.reverse ++ .ref (ga G q) :: st) (hrs : (st.map fun v => v.category).sum ≤ 8)
    (k : Wx G X nL τ (pc + 3) lv (v.toList ++ st)) : Wx G X nL σ pc lv stk := fun H locs ls hP hS hl => by
  obtain ⟨fs, he⟩ := hq.2 G σ
  exact wx_after F hS hl (va_runV (As := As) (rest := st) ⟨F.ex, F.bt, F.ml, F.ow, F.ts⟩ (hM H.size) ⟨callB_gT F (hw _ (by simp [wV])) (hw _ (by simp [wV])) (hw _ (by simp [wV])) hn hdd hmL, F.ts _ (hw _ (by simp [wV])), F.ts _ (hw _ (by simp [wV]))⟩ ⟨cPre_blind, va_recv F.K hP hci (by rw [wld_at hq.1, he]), F.pre hP hS⟩ rfl hAn hl.1 hstk (lv_room hrs) hd ⟨F.cs.1, F.cs.2⟩) k
theorem wx_S (F : Fx G X cc nL own d) {y : MethodName} {cy : ByteArray} {mL : Nat} {rt : Option FieldType} {i n d' : Nat} {As : List Value} {v : Option Value} {τ : St} (hd : decode cc pc = .ok (.invokestatic i, 3)) (hM : Con G (xl X) y cy mL rt d' As σ v τ) (hw : ∀ w ∈ wS own i y cy mL rt, w ∈ gT) (hn : nmOK y n) (hdd : d' < d) (hmL : mL ≤ 41) (hAn : As.length = n) (hstk : stk = As.reverse ++ st) (hrs : (st.map fun v => v.category).sum ≤ 8)
    (k : Wx G X nL τ (pc + 3) lv (v.toList ++ st)) : Wx G X nL σ pc lv stk := fun H locs ls hP hS hl => by
  exact wx_after F hS hl (va_runS (As := As) (rest := st) ⟨F.ex, F.bt, F.ml, F.ow, F.ts⟩ (hM H.size) ⟨callB_gT F (hw _ (by simp [wS])) (hw _ (by simp [wS])) (hw _ (by simp [wS])) hn hdd hmL, F.ts _ (hw _ (by simp [wS]))⟩ ⟨cPre_blind, F.pre hP hS⟩ rfl hAn hl.1 hstk (lv_room hrs) hd ⟨F.cs.1, F.cs.2⟩) k
/-! calls in a program: 'P1.bind K', the answers typed -/
theorem bind_of {α β : Type} {P1 : Option α} {K : α → Option β} {b : β} (h : P1.bind K = some b) : ∃ a, P1 = some a ∧ K a = some b := by
  cases P1 with
  | none => cases h
  | some a => exact ⟨a, rfl, h⟩
theorem s_Vi (F : Fx G X cc nL own d) {y : MethodName} {cy : ByteArray} {mL : Nat} {rt : Option FieldType} {i n d' q ci : Nat} {T : u_T} {N : Nat} (As : List Value) {P1 : Option (Int32 × St)} {K : Int32 × St → Option ρ} (hd : decode cc pc = .ok (.invokevirtual i, 3)) (hM : ∀ z, P1 = some z → Con G (xl X) y cy mL rt d' (.ref (ga G q) :: As) σ (some (.int z.1)) z.2) (hw : ∀ w ∈ wV own i y cy mL rt, w ∈ gT) (hn : nmOK y n) (hdd : d' < d) (hmL : mL ≤ 41) (hq : isObj q ci) (hci : vwCl[ci]? = some (y.cls, T, N)) (hAn : As.length = n) (hstk : stk = As.reverse ++ .ref (ga G q) :: st) (hrs : (st.map fun v => v.category).sum ≤ 8)
    (k : ∀ z, Sim G X nL o (K z) z.2 (pc + 3) lv (.int z.1 :: st)) : Sim G X nL o (P1.bind K) σ pc lv stk := fun h => by
  obtain ⟨z, h1, h2⟩ := bind_of h
  exact wx_V F hd (hM z h1) hw hn hdd hmL hq hci hAn hstk hrs (k z h2)
theorem s_Vl (F : Fx G X cc nL own d) {y : MethodName} {cy : ByteArray} {mL : Nat} {rt : Option FieldType} {i n d' q ci : Nat} {T : u_T} {N : Nat} (As : List Value) {P1 : Option (Int64 × St)} {K : Int64 × St → Option ρ} (hd : decode cc pc = .ok (.invokevirtual i, 3)) (hM : ∀ z, P1 = some z → Con G (xl X) y cy mL rt d' (.ref (ga G q) :: As) σ (some (.long z.1)) z.2) (hw : ∀ w ∈ wV own i y cy mL rt, w ∈ gT) (hn : nmOK y n) (hdd : d' < d) (hmL : mL ≤ 41) (hq : isObj q ci) (hci : vwCl[ci]? = some (y.cls, T, N)) (hAn : As.length = n) (hstk : stk = As.reverse ++ .ref (ga G q) :: st) (hrs : (st.map fun v => v.category).sum ≤ 8)
    (k : ∀ z, Sim G X nL o (K z) z.2 (pc + 3) lv (.long z.1 :: st)) : Sim G X nL o (P1.bind K) σ pc lv stk := fun h => by
  obtain ⟨z, h1, h2⟩ := bind_of h
  exact wx_V F hd (hM z h1) hw hn hdd hmL hq hci hAn hstk hrs (k z h2)
theorem s_Va (F : Fx G X cc nL own d) {y : MethodName} {cy : ByteArray} {mL : Nat} {rt : Option FieldType} {i n d' q ci : Nat} {T : u_T} {N : Nat} (As : List Value) {P1 : Option (Nat × St)} {K : Nat × St → Option ρ} (hd : decode cc pc = .ok (.invokevirtual i, 3)) (hM : ∀ z, P1 = some z → Con G (xl X) y cy mL rt d' (.ref (ga G q) :: As) σ (some (.ref (ga G z.1))) z.2) (hw : ∀ w ∈ wV own i y cy mL rt, w ∈ gT) (hn : nmOK y n) (hdd : d' < d) (hmL : mL ≤ 41) (hq : isObj q ci) (hci : vwCl[ci]? = some (y.cls, T, N)) (hAn : As.length = n) (hstk : stk = As.reverse ++ .ref (ga G q) :: st) (hrs : (st.map fun v => v.category).sum ≤ 8)
    (k : ∀ z, Sim G X nL o (K z) z.2 (pc + 3) lv (.ref (ga G z.1) :: st)) : Sim G X nL o (P1.bind K) σ pc lv stk := fun h => by
  obtain ⟨z, h1, h2⟩ := bind_of h
  exact wx_V F hd (hM z h1) hw hn hdd hmL hq hci hAn hstk hrs (k z h2)
theorem s_Vv (F : Fx G X cc nL own d) {y : MethodName} {cy : ByteArray} {mL : Nat} {rt : Option FieldType} {i n d' q ci : Nat} {T : u_T} {N : Nat} (As : List Value) {P1 : Option St} {K : St → Option ρ} (hd : decode cc pc = .ok (.invokevirtual i, 3)) (hM : ∀ z, P1 = some z → Con G (xl X) y cy mL rt d' (.ref (ga G q) :: As) σ none z) (hw : ∀ w ∈ wV own i y cy mL rt, w ∈ gT) (hn : nmOK y n) (hdd : d' < d) (hmL : mL ≤ 41) (hq : isObj q ci) (hci : vwCl[ci]? = some (y.cls, T, N)) (hAn : As.length = n) (hstk : stk = As.reverse ++ .ref (ga G q) :: st) (hrs : (st.map fun v => v.category).sum ≤ 8)
    (k : ∀ z, Sim G X nL o (K z) z (pc + 3) lv st) : Sim G X nL o (P1.bind K) σ pc lv stk := fun h => by
  obtain ⟨z, h1, h2⟩ := bind_of h
  exact wx_V F hd (hM z h1) hw hn hdd hmL hq hci hAn hstk hrs (k z h2)
theorem s_Si (F : Fx G X cc nL own d) {y : MethodName} {cy : ByteArray} {mL : Nat} {rt : Option FieldType} {i n d' : Nat} (As : List Value) {P1 : Option (Int32 × St)} {K : Int32 × St → Option ρ} (hd : decode cc pc = .ok (.invokestatic i, 3)) (hM : ∀ z, P1 = some z → Con G (xl X) y cy mL rt d' As σ (some (.int z.1)) z.2) (hw : ∀ w ∈ wS own i y cy mL rt, w ∈ gT) (hn : nmOK y n) (hdd : d' < d) (hmL : mL ≤ 41) (hAn : As.length = n) (hstk : stk = As.reverse ++ st) (hrs : (st.map fun v => v.category).sum ≤ 8)
    (k : ∀ z, Sim G X nL o (K z) z.2 (pc + 3) lv (.int z.1 :: st)) : Sim G X nL o (P1.bind K) σ pc lv stk := fun h => by
  obtain ⟨z, h1, h2⟩ := bind_of h
  exact wx_S F hd (hM z h1) hw hn hdd hmL hAn hstk hrs (k z h2)
theorem s_Sl (F : Fx G X cc nL own d) {y : MethodName} {cy : ByteArray} {mL : Nat} {rt : Option FieldType} {i n d' : Nat} (As : List Value) {P1 : Option (Int64 × St)} {K : Int64 × St → Option ρ} (hd : decode cc pc = .ok (.invokestatic i, 3)) (hM : ∀ z, P1 = some z → Con G (xl X) y cy mL rt d' As σ (some (.long z.1)) z.2) (hw : ∀ w ∈ wS own i y cy mL rt, w ∈ gT) (hn : nmOK y n) (hdd : d' < d) (hmL : mL ≤ 41) (hAn : As.length = n) (hstk : stk = As.reverse ++ st) (hrs : (st.map fun v => v.category).sum ≤ 8)
    (k : ∀ z, Sim G X nL o (K z) z.2 (pc + 3) lv (.long z.1 :: st)) : Sim G X nL o (P1.bind K) σ pc lv stk := fun h => by
  obtain ⟨z, h1, h2⟩ := bind_of h
  exact wx_S F hd (hM z h1) hw hn hdd hmL hAn hstk hrs (k z h2)
end CALLS
end
section
theorem zz_last : True := trivial
end
