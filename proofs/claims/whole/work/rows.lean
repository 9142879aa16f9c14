section
-- ===== PART A: goes FIRST, ahead of the names: the tables' words, and 'selects' of the private methods out of them =====
/-- a private method of a class that the tables say can be made, by its rows of tables_1 -/
def lw_okq (q : MethodName × Nat) : Prop := (q.1.cls ≠ "java/lang/invoke/MethodHandle" ∧ q.1.cls ≠ "java/lang/invoke/VarHandle") ∧ Cond.instantiable q.1.cls q.2 ∈ tables_1 ∧ Cond.privateMethod q.1 ∈ tables_1 ∧ Cond.instanceMethod q.1 ∈ tables_1
theorem lw_p0 : lw_okq (⟨"PinionBench$Bench", "isUndercut", "(I)Z"⟩, 5) := ⟨⟨by decide +kernel, by decide +kernel⟩, List.mem_of_getElem? (i := 19) (by decide +kernel), List.mem_of_getElem? (i := 216) (by decide +kernel), List.mem_of_getElem? (i := 217) (by decide +kernel)⟩
theorem lw_p1 : lw_okq (⟨"PinionBench$Bench", "isRing", "(I)Z"⟩, 5) := ⟨⟨by decide +kernel, by decide +kernel⟩, List.mem_of_getElem? (i := 19) (by decide +kernel), List.mem_of_getElem? (i := 220) (by decide +kernel), List.mem_of_getElem? (i := 221) (by decide +kernel)⟩
theorem lw_p2 : lw_okq (⟨"PinionBench$Bench", "keepsLimit", "(II)Z"⟩, 5) := ⟨⟨by decide +kernel, by decide +kernel⟩, List.mem_of_getElem? (i := 19) (by decide +kernel), List.mem_of_getElem? (i := 224) (by decide +kernel), List.mem_of_getElem? (i := 225) (by decide +kernel)⟩
theorem lw_p3 : lw_okq (⟨"PinionBench$Bench", "square", "()I"⟩, 5) := ⟨⟨by decide +kernel, by decide +kernel⟩, List.mem_of_getElem? (i := 19) (by decide +kernel), List.mem_of_getElem? (i := 228) (by decide +kernel), List.mem_of_getElem? (i := 229) (by decide +kernel)⟩
theorem lw_p4 : lw_okq (⟨"PinionBench$Bench", "isPointed", "(I)Z"⟩, 5) := ⟨⟨by decide +kernel, by decide +kernel⟩, List.mem_of_getElem? (i := 19) (by decide +kernel), List.mem_of_getElem? (i := 232) (by decide +kernel), List.mem_of_getElem? (i := 233) (by decide +kernel)⟩
theorem lw_p5 : lw_okq (⟨"PinionBench$Bench", "leastShift", "(I)I"⟩, 5) := ⟨⟨by decide +kernel, by decide +kernel⟩, List.mem_of_getElem? (i := 19) (by decide +kernel), List.mem_of_getElem? (i := 236) (by decide +kernel), List.mem_of_getElem? (i := 237) (by decide +kernel)⟩
theorem lw_p6 : lw_okq (⟨"PinionBench$Bench", "pairsWith", "(I)I"⟩, 5) := ⟨⟨by decide +kernel, by decide +kernel⟩, List.mem_of_getElem? (i := 19) (by decide +kernel), List.mem_of_getElem? (i := 240) (by decide +kernel), List.mem_of_getElem? (i := 241) (by decide +kernel)⟩
theorem lw_p7 : lw_okq (⟨"PinionBench$Bench", "arm", "(I)I"⟩, 5) := ⟨⟨by decide +kernel, by decide +kernel⟩, List.mem_of_getElem? (i := 19) (by decide +kernel), List.mem_of_getElem? (i := 279) (by decide +kernel), List.mem_of_getElem? (i := 280) (by decide +kernel)⟩
theorem lw_p8 : lw_okq (⟨"PinionBench$Bench", "cosine", "()J"⟩, 5) := ⟨⟨by decide +kernel, by decide +kernel⟩, List.mem_of_getElem? (i := 19) (by decide +kernel), List.mem_of_getElem? (i := 318) (by decide +kernel), List.mem_of_getElem? (i := 319) (by decide +kernel)⟩
theorem lw_p9 : lw_okq (⟨"PinionBench$Bench", "path", "(II)J"⟩, 5) := ⟨⟨by decide +kernel, by decide +kernel⟩, List.mem_of_getElem? (i := 19) (by decide +kernel), List.mem_of_getElem? (i := 326) (by decide +kernel), List.mem_of_getElem? (i := 327) (by decide +kernel)⟩
theorem lw_p10 : lw_okq (⟨"PinionBench$Bench", "reach", "(I)J"⟩, 5) := ⟨⟨by decide +kernel, by decide +kernel⟩, List.mem_of_getElem? (i := 19) (by decide +kernel), List.mem_of_getElem? (i := 330) (by decide +kernel), List.mem_of_getElem? (i := 331) (by decide +kernel)⟩
theorem lw_p11 : lw_okq (⟨"PinionBench$Bench", "is", "(II)Z"⟩, 5) := ⟨⟨by decide +kernel, by decide +kernel⟩, List.mem_of_getElem? (i := 19) (by decide +kernel), List.mem_of_getElem? (i := 362) (by decide +kernel), List.mem_of_getElem? (i := 363) (by decide +kernel)⟩
theorem lw_p12 : lw_okq (⟨"PinionBench$Bench", "isFirstOfItsTeeth", "(I)Z"⟩, 5) := ⟨⟨by decide +kernel, by decide +kernel⟩, List.mem_of_getElem? (i := 19) (by decide +kernel), List.mem_of_getElem? (i := 366) (by decide +kernel), List.mem_of_getElem? (i := 367) (by decide +kernel)⟩
theorem lw_p13 : lw_okq (⟨"PinionBench$Search", "isNear", "(II)Z"⟩, 7) := ⟨⟨by decide +kernel, by decide +kernel⟩, List.mem_of_getElem? (i := 97) (by decide +kernel), List.mem_of_getElem? (i := 480) (by decide +kernel), List.mem_of_getElem? (i := 481) (by decide +kernel)⟩
theorem lw_p14 : lw_okq (⟨"PinionBench$Search", "miss", "(II)I"⟩, 7) := ⟨⟨by decide +kernel, by decide +kernel⟩, List.mem_of_getElem? (i := 97) (by decide +kernel), List.mem_of_getElem? (i := 484) (by decide +kernel), List.mem_of_getElem? (i := 485) (by decide +kernel)⟩
theorem lw_p15 : lw_okq (⟨"PinionBench$Search", "take", "(II)V"⟩, 7) := ⟨⟨by decide +kernel, by decide +kernel⟩, List.mem_of_getElem? (i := 97) (by decide +kernel), List.mem_of_getElem? (i := 491) (by decide +kernel), List.mem_of_getElem? (i := 492) (by decide +kernel)⟩
def lw_privs_1 : List (MethodName × Nat) := [(⟨"PinionBench$Bench", "isUndercut", "(I)Z"⟩, 5), (⟨"PinionBench$Bench", "isRing", "(I)Z"⟩, 5), (⟨"PinionBench$Bench", "keepsLimit", "(II)Z"⟩, 5), (⟨"PinionBench$Bench", "square", "()I"⟩, 5), (⟨"PinionBench$Bench", "isPointed", "(I)Z"⟩, 5), (⟨"PinionBench$Bench", "leastShift", "(I)I"⟩, 5), (⟨"PinionBench$Bench", "pairsWith", "(I)I"⟩, 5), (⟨"PinionBench$Bench", "arm", "(I)I"⟩, 5), (⟨"PinionBench$Bench", "cosine", "()J"⟩, 5), (⟨"PinionBench$Bench", "path", "(II)J"⟩, 5), (⟨"PinionBench$Bench", "reach", "(I)J"⟩, 5), (⟨"PinionBench$Bench", "is", "(II)Z"⟩, 5), (⟨"PinionBench$Bench", "isFirstOfItsTeeth", "(I)Z"⟩, 5), (⟨"PinionBench$Search", "isNear", "(II)Z"⟩, 7), (⟨"PinionBench$Search", "miss", "(II)I"⟩, 7), (⟨"PinionBench$Search", "take", "(II)V"⟩, 7)]
theorem lw_r1 : ∀ q ∈ lw_privs_1, lw_okq q := List.forall_mem_cons.mpr ⟨lw_p0, List.forall_mem_cons.mpr ⟨lw_p1, List.forall_mem_cons.mpr ⟨lw_p2, List.forall_mem_cons.mpr ⟨lw_p3, List.forall_mem_cons.mpr ⟨lw_p4, List.forall_mem_cons.mpr ⟨lw_p5, List.forall_mem_cons.mpr ⟨lw_p6, List.forall_mem_cons.mpr ⟨lw_p7, List.forall_mem_cons.mpr ⟨lw_p8, List.forall_mem_cons.mpr ⟨lw_p9, List.forall_mem_cons.mpr ⟨lw_p10, List.forall_mem_cons.mpr ⟨lw_p11, List.forall_mem_cons.mpr ⟨lw_p12, List.forall_mem_cons.mpr ⟨lw_p13, List.forall_mem_cons.mpr ⟨lw_p14, List.forall_mem_cons.mpr ⟨lw_p15, fun _ h => absurd h List.not_mem_nil⟩⟩⟩⟩⟩⟩⟩⟩⟩⟩⟩⟩⟩⟩⟩⟩
theorem lw_p16 : lw_okq (⟨"PinionBench$Search", "isBetter", "(II)Z"⟩, 7) := ⟨⟨by decide +kernel, by decide +kernel⟩, List.mem_of_getElem? (i := 97) (by decide +kernel), List.mem_of_getElem? (i := 495) (by decide +kernel), List.mem_of_getElem? (i := 496) (by decide +kernel)⟩
theorem lw_p17 : lw_okq (⟨"PinionBench$Text", "parseAct", "()Z"⟩, 6) := ⟨⟨by decide +kernel, by decide +kernel⟩, List.mem_of_getElem? (i := 55) (by decide +kernel), List.mem_of_getElem? (i := 526) (by decide +kernel), List.mem_of_getElem? (i := 527) (by decide +kernel)⟩
theorem lw_p18 : lw_okq (⟨"PinionBench$Text", "next", "()I"⟩, 6) := ⟨⟨by decide +kernel, by decide +kernel⟩, List.mem_of_getElem? (i := 55) (by decide +kernel), List.mem_of_getElem? (i := 530) (by decide +kernel), List.mem_of_getElem? (i := 531) (by decide +kernel)⟩
theorem lw_p19 : lw_okq (⟨"PinionBench$Text", "skip", "(I)Z"⟩, 6) := ⟨⟨by decide +kernel, by decide +kernel⟩, List.mem_of_getElem? (i := 55) (by decide +kernel), List.mem_of_getElem? (i := 539) (by decide +kernel), List.mem_of_getElem? (i := 540) (by decide +kernel)⟩
theorem lw_p20 : lw_okq (⟨"PinionBench$Text", "parseNumber", "(Z)Z"⟩, 6) := ⟨⟨by decide +kernel, by decide +kernel⟩, List.mem_of_getElem? (i := 55) (by decide +kernel), List.mem_of_getElem? (i := 543) (by decide +kernel), List.mem_of_getElem? (i := 544) (by decide +kernel)⟩
theorem lw_p21 : lw_okq (⟨"PinionBench", "doActs", "()I"⟩, 7) := ⟨⟨by decide +kernel, by decide +kernel⟩, List.mem_of_getElem? (i := 11) (by decide +kernel), List.mem_of_getElem? (i := 554) (by decide +kernel), List.mem_of_getElem? (i := 555) (by decide +kernel)⟩
theorem lw_p22 : lw_okq (⟨"PinionBench", "rowAt", "(I)LPinionBench$Row;"⟩, 7) := ⟨⟨by decide +kernel, by decide +kernel⟩, List.mem_of_getElem? (i := 11) (by decide +kernel), List.mem_of_getElem? (i := 599) (by decide +kernel), List.mem_of_getElem? (i := 600) (by decide +kernel)⟩
theorem lw_p23 : lw_okq (⟨"PinionBenchModel", "isWheel", "(I)Z"⟩, 20) := ⟨⟨by decide +kernel, by decide +kernel⟩, List.mem_of_getElem? (i := 683) (by decide +kernel), List.mem_of_getElem? (i := 765) (by decide +kernel), List.mem_of_getElem? (i := 766) (by decide +kernel)⟩
theorem lw_p24 : lw_okq (⟨"PinionBenchModel", "becomes", "(II)I"⟩, 20) := ⟨⟨by decide +kernel, by decide +kernel⟩, List.mem_of_getElem? (i := 683) (by decide +kernel), List.mem_of_getElem? (i := 771) (by decide +kernel), List.mem_of_getElem? (i := 772) (by decide +kernel)⟩
theorem lw_p25 : lw_okq (⟨"PinionBenchModel", "teeth", "(I)I"⟩, 20) := ⟨⟨by decide +kernel, by decide +kernel⟩, List.mem_of_getElem? (i := 683) (by decide +kernel), List.mem_of_getElem? (i := 784) (by decide +kernel), List.mem_of_getElem? (i := 785) (by decide +kernel)⟩
theorem lw_p26 : lw_okq (⟨"PinionBenchModel", "isUndercut", "(I)Z"⟩, 20) := ⟨⟨by decide +kernel, by decide +kernel⟩, List.mem_of_getElem? (i := 683) (by decide +kernel), List.mem_of_getElem? (i := 788) (by decide +kernel), List.mem_of_getElem? (i := 789) (by decide +kernel)⟩
theorem lw_p27 : lw_okq (⟨"PinionBenchModel", "isRing", "(I)Z"⟩, 20) := ⟨⟨by decide +kernel, by decide +kernel⟩, List.mem_of_getElem? (i := 683) (by decide +kernel), List.mem_of_getElem? (i := 792) (by decide +kernel), List.mem_of_getElem? (i := 793) (by decide +kernel)⟩
theorem lw_p28 : lw_okq (⟨"PinionBenchModel", "isCut", "(II)Z"⟩, 20) := ⟨⟨by decide +kernel, by decide +kernel⟩, List.mem_of_getElem? (i := 683) (by decide +kernel), List.mem_of_getElem? (i := 796) (by decide +kernel), List.mem_of_getElem? (i := 797) (by decide +kernel)⟩
theorem lw_p29 : lw_okq (⟨"PinionBenchModel", "square", "()I"⟩, 20) := ⟨⟨by decide +kernel, by decide +kernel⟩, List.mem_of_getElem? (i := 683) (by decide +kernel), List.mem_of_getElem? (i := 800) (by decide +kernel), List.mem_of_getElem? (i := 801) (by decide +kernel)⟩
theorem lw_p30 : lw_okq (⟨"PinionBenchModel", "isPointed", "(I)Z"⟩, 20) := ⟨⟨by decide +kernel, by decide +kernel⟩, List.mem_of_getElem? (i := 683) (by decide +kernel), List.mem_of_getElem? (i := 804) (by decide +kernel), List.mem_of_getElem? (i := 805) (by decide +kernel)⟩
theorem lw_p31 : lw_okq (⟨"PinionBenchModel", "leastShift", "(I)I"⟩, 20) := ⟨⟨by decide +kernel, by decide +kernel⟩, List.mem_of_getElem? (i := 683) (by decide +kernel), List.mem_of_getElem? (i := 808) (by decide +kernel), List.mem_of_getElem? (i := 809) (by decide +kernel)⟩
def lw_privs_2 : List (MethodName × Nat) := [(⟨"PinionBench$Search", "isBetter", "(II)Z"⟩, 7), (⟨"PinionBench$Text", "parseAct", "()Z"⟩, 6), (⟨"PinionBench$Text", "next", "()I"⟩, 6), (⟨"PinionBench$Text", "skip", "(I)Z"⟩, 6), (⟨"PinionBench$Text", "parseNumber", "(Z)Z"⟩, 6), (⟨"PinionBench", "doActs", "()I"⟩, 7), (⟨"PinionBench", "rowAt", "(I)LPinionBench$Row;"⟩, 7), (⟨"PinionBenchModel", "isWheel", "(I)Z"⟩, 20), (⟨"PinionBenchModel", "becomes", "(II)I"⟩, 20), (⟨"PinionBenchModel", "teeth", "(I)I"⟩, 20), (⟨"PinionBenchModel", "isUndercut", "(I)Z"⟩, 20), (⟨"PinionBenchModel", "isRing", "(I)Z"⟩, 20), (⟨"PinionBenchModel", "isCut", "(II)Z"⟩, 20), (⟨"PinionBenchModel", "square", "()I"⟩, 20), (⟨"PinionBenchModel", "isPointed", "(I)Z"⟩, 20), (⟨"PinionBenchModel", "leastShift", "(I)I"⟩, 20)]
theorem lw_r2 : ∀ q ∈ lw_privs_2, lw_okq q := List.forall_mem_cons.mpr ⟨lw_p16, List.forall_mem_cons.mpr ⟨lw_p17, List.forall_mem_cons.mpr ⟨lw_p18, List.forall_mem_cons.mpr ⟨lw_p19, List.forall_mem_cons.mpr ⟨lw_p20, List.forall_mem_cons.mpr ⟨lw_p21, List.forall_mem_cons.mpr ⟨lw_p22, List.forall_mem_cons.mpr ⟨lw_p23, List.forall_mem_cons.mpr ⟨lw_p24, List.forall_mem_cons.mpr ⟨lw_p25, List.forall_mem_cons.mpr ⟨lw_p26, List.forall_mem_cons.mpr ⟨lw_p27, List.forall_mem_cons.mpr ⟨lw_p28, List.forall_mem_cons.mpr ⟨lw_p29, List.forall_mem_cons.mpr ⟨lw_p30, List.forall_mem_cons.mpr ⟨lw_p31, fun _ h => absurd h List.not_mem_nil⟩⟩⟩⟩⟩⟩⟩⟩⟩⟩⟩⟩⟩⟩⟩⟩
theorem lw_p32 : lw_okq (⟨"PinionBenchModel", "pairsWith", "(I)I"⟩, 20) := ⟨⟨by decide +kernel, by decide +kernel⟩, List.mem_of_getElem? (i := 683) (by decide +kernel), List.mem_of_getElem? (i := 812) (by decide +kernel), List.mem_of_getElem? (i := 813) (by decide +kernel)⟩
theorem lw_p33 : lw_okq (⟨"PinionBenchModel", "isFirst", "(I)Z"⟩, 20) := ⟨⟨by decide +kernel, by decide +kernel⟩, List.mem_of_getElem? (i := 683) (by decide +kernel), List.mem_of_getElem? (i := 825) (by decide +kernel), List.mem_of_getElem? (i := 826) (by decide +kernel)⟩
theorem lw_p34 : lw_okq (⟨"PinionBenchModel", "isPair", "(II)Z"⟩, 20) := ⟨⟨by decide +kernel, by decide +kernel⟩, List.mem_of_getElem? (i := 683) (by decide +kernel), List.mem_of_getElem? (i := 833) (by decide +kernel), List.mem_of_getElem? (i := 834) (by decide +kernel)⟩
theorem lw_p35 : lw_okq (⟨"PinionBenchModel", "clashes", "(II)Z"⟩, 20) := ⟨⟨by decide +kernel, by decide +kernel⟩, List.mem_of_getElem? (i := 683) (by decide +kernel), List.mem_of_getElem? (i := 838) (by decide +kernel), List.mem_of_getElem? (i := 839) (by decide +kernel)⟩
theorem lw_p36 : lw_okq (⟨"PinionBenchModel", "size", "(I)I"⟩, 20) := ⟨⟨by decide +kernel, by decide +kernel⟩, List.mem_of_getElem? (i := 683) (by decide +kernel), List.mem_of_getElem? (i := 842) (by decide +kernel), List.mem_of_getElem? (i := 843) (by decide +kernel)⟩
theorem lw_p37 : lw_okq (⟨"PinionBenchModel", "hundredths", "(II)I"⟩, 20) := ⟨⟨by decide +kernel, by decide +kernel⟩, List.mem_of_getElem? (i := 683) (by decide +kernel), List.mem_of_getElem? (i := 847) (by decide +kernel), List.mem_of_getElem? (i := 848) (by decide +kernel)⟩
theorem lw_p38 : lw_okq (⟨"PinionBenchModel", "lays", "(JJ)V"⟩, 20) := ⟨⟨by decide +kernel, by decide +kernel⟩, List.mem_of_getElem? (i := 683) (by decide +kernel), List.mem_of_getElem? (i := 851) (by decide +kernel), List.mem_of_getElem? (i := 852) (by decide +kernel)⟩
theorem lw_p39 : lw_okq (⟨"PinionBenchModel", "part", "(I)J"⟩, 20) := ⟨⟨by decide +kernel, by decide +kernel⟩, List.mem_of_getElem? (i := 683) (by decide +kernel), List.mem_of_getElem? (i := 855) (by decide +kernel), List.mem_of_getElem? (i := 856) (by decide +kernel)⟩
theorem lw_p40 : lw_okq (⟨"PinionBenchModel", "sign", "(II)I"⟩, 20) := ⟨⟨by decide +kernel, by decide +kernel⟩, List.mem_of_getElem? (i := 683) (by decide +kernel), List.mem_of_getElem? (i := 863) (by decide +kernel), List.mem_of_getElem? (i := 864) (by decide +kernel)⟩
theorem lw_p41 : lw_okq (⟨"PinionBenchModel", "reach", "(I)J"⟩, 20) := ⟨⟨by decide +kernel, by decide +kernel⟩, List.mem_of_getElem? (i := 683) (by decide +kernel), List.mem_of_getElem? (i := 876) (by decide +kernel), List.mem_of_getElem? (i := 877) (by decide +kernel)⟩
theorem lw_p42 : lw_okq (⟨"PinionBenchModel", "puts", "(III)I"⟩, 20) := ⟨⟨by decide +kernel, by decide +kernel⟩, List.mem_of_getElem? (i := 683) (by decide +kernel), List.mem_of_getElem? (i := 920) (by decide +kernel), List.mem_of_getElem? (i := 921) (by decide +kernel)⟩
theorem lw_p43 : lw_okq (⟨"PinionBenchModel", "searches", "(IIIIII)V"⟩, 20) := ⟨⟨by decide +kernel, by decide +kernel⟩, List.mem_of_getElem? (i := 683) (by decide +kernel), List.mem_of_getElem? (i := 938) (by decide +kernel), List.mem_of_getElem? (i := 939) (by decide +kernel)⟩
theorem lw_p44 : lw_okq (⟨"PinionBenchModel", "isBetter", "(IIIII)Z"⟩, 20) := ⟨⟨by decide +kernel, by decide +kernel⟩, List.mem_of_getElem? (i := 683) (by decide +kernel), List.mem_of_getElem? (i := 946) (by decide +kernel), List.mem_of_getElem? (i := 947) (by decide +kernel)⟩
theorem lw_p45 : lw_okq (⟨"PinionBenchModel", "act", "(I)V"⟩, 20) := ⟨⟨by decide +kernel, by decide +kernel⟩, List.mem_of_getElem? (i := 683) (by decide +kernel), List.mem_of_getElem? (i := 963) (by decide +kernel), List.mem_of_getElem? (i := 964) (by decide +kernel)⟩
theorem lw_p46 : lw_okq (⟨"PinionBenchModel", "here", "()I"⟩, 20) := ⟨⟨by decide +kernel, by decide +kernel⟩, List.mem_of_getElem? (i := 683) (by decide +kernel), List.mem_of_getElem? (i := 967) (by decide +kernel), List.mem_of_getElem? (i := 968) (by decide +kernel)⟩
theorem lw_p47 : lw_okq (⟨"PinionBenchModel", "takes", "(I)V"⟩, 20) := ⟨⟨by decide +kernel, by decide +kernel⟩, List.mem_of_getElem? (i := 683) (by decide +kernel), List.mem_of_getElem? (i := 971) (by decide +kernel), List.mem_of_getElem? (i := 972) (by decide +kernel)⟩
def lw_privs_3 : List (MethodName × Nat) := [(⟨"PinionBenchModel", "pairsWith", "(I)I"⟩, 20), (⟨"PinionBenchModel", "isFirst", "(I)Z"⟩, 20), (⟨"PinionBenchModel", "isPair", "(II)Z"⟩, 20), (⟨"PinionBenchModel", "clashes", "(II)Z"⟩, 20), (⟨"PinionBenchModel", "size", "(I)I"⟩, 20), (⟨"PinionBenchModel", "hundredths", "(II)I"⟩, 20), (⟨"PinionBenchModel", "lays", "(JJ)V"⟩, 20), (⟨"PinionBenchModel", "part", "(I)J"⟩, 20), (⟨"PinionBenchModel", "sign", "(II)I"⟩, 20), (⟨"PinionBenchModel", "reach", "(I)J"⟩, 20), (⟨"PinionBenchModel", "puts", "(III)I"⟩, 20), (⟨"PinionBenchModel", "searches", "(IIIIII)V"⟩, 20), (⟨"PinionBenchModel", "isBetter", "(IIIII)Z"⟩, 20), (⟨"PinionBenchModel", "act", "(I)V"⟩, 20), (⟨"PinionBenchModel", "here", "()I"⟩, 20), (⟨"PinionBenchModel", "takes", "(I)V"⟩, 20)]
theorem lw_r3 : ∀ q ∈ lw_privs_3, lw_okq q := List.forall_mem_cons.mpr ⟨lw_p32, List.forall_mem_cons.mpr ⟨lw_p33, List.forall_mem_cons.mpr ⟨lw_p34, List.forall_mem_cons.mpr ⟨lw_p35, List.forall_mem_cons.mpr ⟨lw_p36, List.forall_mem_cons.mpr ⟨lw_p37, List.forall_mem_cons.mpr ⟨lw_p38, List.forall_mem_cons.mpr ⟨lw_p39, List.forall_mem_cons.mpr ⟨lw_p40, List.forall_mem_cons.mpr ⟨lw_p41, List.forall_mem_cons.mpr ⟨lw_p42, List.forall_mem_cons.mpr ⟨lw_p43, List.forall_mem_cons.mpr ⟨lw_p44, List.forall_mem_cons.mpr ⟨lw_p45, List.forall_mem_cons.mpr ⟨lw_p46, List.forall_mem_cons.mpr ⟨lw_p47, fun _ h => absurd h List.not_mem_nil⟩⟩⟩⟩⟩⟩⟩⟩⟩⟩⟩⟩⟩⟩⟩⟩
theorem lw_p48 : lw_okq (⟨"PinionBenchModel", "number", "(Z)I"⟩, 20) := ⟨⟨by decide +kernel, by decide +kernel⟩, List.mem_of_getElem? (i := 683) (by decide +kernel), List.mem_of_getElem? (i := 975) (by decide +kernel), List.mem_of_getElem? (i := 976) (by decide +kernel)⟩
theorem lw_p49 : lw_okq (⟨"PinionBenchModel", "isFigure", "()Z"⟩, 20) := ⟨⟨by decide +kernel, by decide +kernel⟩, List.mem_of_getElem? (i := 683) (by decide +kernel), List.mem_of_getElem? (i := 979) (by decide +kernel), List.mem_of_getElem? (i := 980) (by decide +kernel)⟩
theorem lw_p50 : lw_okq (⟨"PinionBenchModel", "isDone", "(I)Z"⟩, 20) := ⟨⟨by decide +kernel, by decide +kernel⟩, List.mem_of_getElem? (i := 683) (by decide +kernel), List.mem_of_getElem? (i := 988) (by decide +kernel), List.mem_of_getElem? (i := 989) (by decide +kernel)⟩
def lw_privs_4 : List (MethodName × Nat) := [(⟨"PinionBenchModel", "number", "(Z)I"⟩, 20), (⟨"PinionBenchModel", "isFigure", "()Z"⟩, 20), (⟨"PinionBenchModel", "isDone", "(I)Z"⟩, 20)]
theorem lw_r4 : ∀ q ∈ lw_privs_4, lw_okq q := List.forall_mem_cons.mpr ⟨lw_p48, List.forall_mem_cons.mpr ⟨lw_p49, List.forall_mem_cons.mpr ⟨lw_p50, fun _ h => absurd h List.not_mem_nil⟩⟩⟩
def lw_privs : List (MethodName × Nat) := lw_privs_1 ++ (lw_privs_2 ++ (lw_privs_3 ++ (lw_privs_4)))
def lw_tbl : List Cond := k2_sels lw_privs ++ tables_1
theorem lw_privs_ok : ∀ q ∈ lw_privs, lw_okq q := by
  show ∀ q ∈ lw_privs_1 ++ (lw_privs_2 ++ (lw_privs_3 ++ (lw_privs_4))), lw_okq q
  exact List.forall_mem_append.mpr ⟨lw_r1, List.forall_mem_append.mpr ⟨lw_r2, List.forall_mem_append.mpr ⟨lw_r3, lw_r4⟩⟩⟩
-- ===== end of PART A; then your names; then what follows =====
end
section
/-! names, field tables, the words by their places, decode rows: by program out of the listing -/
def TB : List Cond := lw_tbl.filter goodWord
theorem tb_good : ∀ w ∈ TB, (w.onTables && w.keeps) = true ∨ ∃ ty, w = .arrayClass ty := fun w h => good_of_word (List.mem_filter.mp h).2
theorem tb_t {w : Cond} (i : Nat) (h : lw_tbl[i]? = some w) (g : goodWord w = true) : w ∈ TB := List.mem_filter.mpr ⟨List.mem_of_getElem? h, g⟩
def R_B : String := "PinionBench$Bench"
def R_N : String := "PinionBench$Ints"
def R_O : String := "PinionBench$Row"
def R_H : String := "PinionBench$Search"
def R_T : String := "PinionBench$Sets"
def R_X : String := "PinionBench$Text"
def R_P : String := "PinionBench"
def R_M : String := "PinionBenchModel"
def R_L : String := "PinionBenchLaw"
def F_B : u_T := fun k => match k with
  | 0 => ("PinionBench$Bench", "teeth", "LPinionBench$Ints;", true)
  | 1 => ("PinionBench$Bench", "shifts", "LPinionBench$Ints;", true)
  | 2 => ("PinionBench$Bench", "drivers", "LPinionBench$Ints;", true)
  | 3 => ("PinionBench$Bench", "driven", "LPinionBench$Ints;", true)
  | _ => ("PinionBench$Bench", "pressure", "I", false)
def t_B : Nat → FieldType := fun k => match k with
  | 0 => .object "PinionBench$Ints"
  | 1 => .object "PinionBench$Ints"
  | 2 => .object "PinionBench$Ints"
  | 3 => .object "PinionBench$Ints"
  | _ => .int
theorem n_B : ∀ a, a < 5 → ∀ b, b < 5 → a ≠ b → (F_B a).2.1 ≠ (F_B b).2.1 := by decide +kernel
theorem t_B_ok : ∀ k, k < 5 → parseFieldDescriptor (F_B k).2.2.1 = some (t_B k) := by decide +kernel
theorem i_B : ∀ w ∈ u_ws R_B F_B 5, w ∈ TB := List.forall_mem_map.mpr (fun k hk => by
  have hk := List.mem_range.mp hk
  match k, hk with
  | 0, _ => exact tb_t 94 (by decide +kernel) rfl
  | 1, _ => exact tb_t 96 (by decide +kernel) rfl
  | 2, _ => exact tb_t 98 (by decide +kernel) rfl
  | 3, _ => exact tb_t 100 (by decide +kernel) rfl
  | 4, _ => exact tb_t 102 (by decide +kernel) rfl
  | k + 5, hk => exact absurd hk (by omega))
def F_N : u_T := fun k => match k with
  | 0 => ("PinionBench$Ints", "numbers", "[I", true)
  | _ => ("PinionBench$Ints", "size", "I", false)
def t_N : Nat → FieldType := fun k => match k with
  | 0 => .array .int
  | _ => .int
theorem n_N : ∀ a, a < 2 → ∀ b, b < 2 → a ≠ b → (F_N a).2.1 ≠ (F_N b).2.1 := by decide +kernel
theorem t_N_ok : ∀ k, k < 2 → parseFieldDescriptor (F_N k).2.2.1 = some (t_N k) := by decide +kernel
theorem i_N : ∀ w ∈ u_ws R_N F_N 2, w ∈ TB := List.forall_mem_map.mpr (fun k hk => by
  have hk := List.mem_range.mp hk
  match k, hk with
  | 0, _ => exact tb_t 83 (by decide +kernel) rfl
  | 1, _ => exact tb_t 85 (by decide +kernel) rfl
  | k + 2, hk => exact absurd hk (by omega))
def F_O : u_T := fun k => match k with
  | 0 => ("PinionBench$Row", "places", "[J", true)
  | _ => ("PinionBench$Row", "size", "I", false)
def t_O : Nat → FieldType := fun k => match k with
  | 0 => .array .long
  | _ => .int
theorem n_O : ∀ a, a < 2 → ∀ b, b < 2 → a ≠ b → (F_O a).2.1 ≠ (F_O b).2.1 := by decide +kernel
theorem t_O_ok : ∀ k, k < 2 → parseFieldDescriptor (F_O k).2.2.1 = some (t_O k) := by decide +kernel
theorem i_O : ∀ w ∈ u_ws R_O F_O 2, w ∈ TB := List.forall_mem_map.mpr (fun k hk => by
  have hk := List.mem_range.mp hk
  match k, hk with
  | 0, _ => exact tb_t 141 (by decide +kernel) rfl
  | 1, _ => exact tb_t 143 (by decide +kernel) rfl
  | k + 2, hk => exact absurd hk (by omega))
def F_H : u_T := fun k => match k with
  | 0 => ("PinionBench$Search", "k", "I", false)
  | 1 => ("PinionBench$Search", "u", "I", false)
  | 2 => ("PinionBench$Search", "w", "I", false)
  | 3 => ("PinionBench$Search", "t", "I", false)
  | 4 => ("PinionBench$Search", "found", "I", false)
  | 5 => ("PinionBench$Search", "sun", "I", false)
  | _ => ("PinionBench$Search", "planet", "I", false)
def t_H : Nat → FieldType := fun k => match k with
  | 0 => .int
  | 1 => .int
  | 2 => .int
  | 3 => .int
  | 4 => .int
  | 5 => .int
  | _ => .int
theorem n_H : ∀ a, a < 7 → ∀ b, b < 7 → a ≠ b → (F_H a).2.1 ≠ (F_H b).2.1 := by decide +kernel
theorem t_H_ok : ∀ k, k < 7 → parseFieldDescriptor (F_H k).2.2.1 = some (t_H k) := by decide +kernel
theorem i_H : ∀ w ∈ u_ws R_H F_H 7, w ∈ TB := List.forall_mem_map.mpr (fun k hk => by
  have hk := List.mem_range.mp hk
  match k, hk with
  | 0, _ => exact tb_t 160 (by decide +kernel) rfl
  | 1, _ => exact tb_t 162 (by decide +kernel) rfl
  | 2, _ => exact tb_t 164 (by decide +kernel) rfl
  | 3, _ => exact tb_t 166 (by decide +kernel) rfl
  | 4, _ => exact tb_t 168 (by decide +kernel) rfl
  | 5, _ => exact tb_t 170 (by decide +kernel) rfl
  | 6, _ => exact tb_t 172 (by decide +kernel) rfl
  | k + 7, hk => exact absurd hk (by omega))
def F_X : u_T := fun k => match k with
  | 0 => ("PinionBench$Text", "bytes", "LPinionBench$Ints;", true)
  | 1 => ("PinionBench$Text", "letters", "LPinionBench$Ints;", true)
  | 2 => ("PinionBench$Text", "firsts", "LPinionBench$Ints;", true)
  | 3 => ("PinionBench$Text", "seconds", "LPinionBench$Ints;", true)
  | 4 => ("PinionBench$Text", "place", "I", false)
  | _ => ("PinionBench$Text", "number", "I", false)
def t_X : Nat → FieldType := fun k => match k with
  | 0 => .object "PinionBench$Ints"
  | 1 => .object "PinionBench$Ints"
  | 2 => .object "PinionBench$Ints"
  | 3 => .object "PinionBench$Ints"
  | 4 => .int
  | _ => .int
theorem n_X : ∀ a, a < 6 → ∀ b, b < 6 → a ≠ b → (F_X a).2.1 ≠ (F_X b).2.1 := by decide +kernel
theorem t_X_ok : ∀ k, k < 6 → parseFieldDescriptor (F_X k).2.2.1 = some (t_X k) := by decide +kernel
theorem i_X : ∀ w ∈ u_ws R_X F_X 6, w ∈ TB := List.forall_mem_map.mpr (fun k hk => by
  have hk := List.mem_range.mp hk
  match k, hk with
  | 0, _ => exact tb_t 119 (by decide +kernel) rfl
  | 1, _ => exact tb_t 121 (by decide +kernel) rfl
  | 2, _ => exact tb_t 123 (by decide +kernel) rfl
  | 3, _ => exact tb_t 125 (by decide +kernel) rfl
  | 4, _ => exact tb_t 127 (by decide +kernel) rfl
  | 5, _ => exact tb_t 129 (by decide +kernel) rfl
  | k + 6, hk => exact absurd hk (by omega))
def F_P : u_T := fun k => match k with
  | 0 => ("PinionBench", "now", "LPinionBench$Bench;", true)
  | 1 => ("PinionBench", "kept", "LPinionBench$Bench;", true)
  | 2 => ("PinionBench", "ahead", "LPinionBench$Bench;", true)
  | 3 => ("PinionBench", "isKept", "Z", false)
  | 4 => ("PinionBench", "tape", "LPinionBench$Text;", true)
  | 5 => ("PinionBench", "rows", "[LPinionBench$Row;", true)
  | _ => ("PinionBench", "search", "LPinionBench$Search;", true)
def t_P : Nat → FieldType := fun k => match k with
  | 0 => .object "PinionBench$Bench"
  | 1 => .object "PinionBench$Bench"
  | 2 => .object "PinionBench$Bench"
  | 3 => .boolean
  | 4 => .object "PinionBench$Text"
  | 5 => .array (.object "PinionBench$Row")
  | _ => .object "PinionBench$Search"
theorem n_P : ∀ a, a < 7 → ∀ b, b < 7 → a ≠ b → (F_P a).2.1 ≠ (F_P b).2.1 := by decide +kernel
theorem t_P_ok : ∀ k, k < 7 → parseFieldDescriptor (F_P k).2.2.1 = some (t_P k) := by decide +kernel
theorem i_P : ∀ w ∈ u_ws R_P F_P 7, w ∈ TB := List.forall_mem_map.mpr (fun k hk => by
  have hk := List.mem_range.mp hk
  match k, hk with
  | 0, _ => exact tb_t 182 (by decide +kernel) rfl
  | 1, _ => exact tb_t 184 (by decide +kernel) rfl
  | 2, _ => exact tb_t 186 (by decide +kernel) rfl
  | 3, _ => exact tb_t 188 (by decide +kernel) rfl
  | 4, _ => exact tb_t 190 (by decide +kernel) rfl
  | 5, _ => exact tb_t 192 (by decide +kernel) rfl
  | 6, _ => exact tb_t 194 (by decide +kernel) rfl
  | k + 7, hk => exact absurd hk (by omega))
def F_M : u_T := fun k => match k with
  | 0 => ("PinionBenchModel", "g", "[I", true)
  | 1 => ("PinionBenchModel", "kept", "[I", true)
  | 2 => ("PinionBenchModel", "ahead", "[I", true)
  | 3 => ("PinionBenchModel", "squares", "[I", true)
  | 4 => ("PinionBenchModel", "sines", "[I", true)
  | 5 => ("PinionBenchModel", "isKept", "Z", false)
  | 6 => ("PinionBenchModel", "above", "J", false)
  | 7 => ("PinionBenchModel", "below", "J", false)
  | 8 => ("PinionBenchModel", "searchedMany", "I", false)
  | 9 => ("PinionBenchModel", "bestSun", "I", false)
  | 10 => ("PinionBenchModel", "bestPlanet", "I", false)
  | 11 => ("PinionBenchModel", "tape", "[I", true)
  | 12 => ("PinionBenchModel", "letters", "[I", true)
  | 13 => ("PinionBenchModel", "firsts", "[I", true)
  | 14 => ("PinionBenchModel", "seconds", "[I", true)
  | 15 => ("PinionBenchModel", "fed", "I", false)
  | 16 => ("PinionBenchModel", "at", "I", false)
  | 17 => ("PinionBenchModel", "goes", "Z", false)
  | 18 => ("PinionBenchModel", "sizes", "[I", true)
  | _ => ("PinionBenchModel", "items", "[J", true)
def t_M : Nat → FieldType := fun k => match k with
  | 0 => .array .int
  | 1 => .array .int
  | 2 => .array .int
  | 3 => .array .int
  | 4 => .array .int
  | 5 => .boolean
  | 6 => .long
  | 7 => .long
  | 8 => .int
  | 9 => .int
  | 10 => .int
  | 11 => .array .int
  | 12 => .array .int
  | 13 => .array .int
  | 14 => .array .int
  | 15 => .int
  | 16 => .int
  | 17 => .boolean
  | 18 => .array .int
  | _ => .array .long
theorem n_M : ∀ a, a < 20 → ∀ b, b < 20 → a ≠ b → (F_M a).2.1 ≠ (F_M b).2.1 := by decide +kernel
theorem t_M_ok : ∀ k, k < 20 → parseFieldDescriptor (F_M k).2.2.1 = some (t_M k) := by decide +kernel
theorem i_M : ∀ w ∈ u_ws R_M F_M 20, w ∈ TB := List.forall_mem_map.mpr (fun k hk => by
  have hk := List.mem_range.mp hk
  match k, hk with
  | 0, _ => exact tb_t 759 (by decide +kernel) rfl
  | 1, _ => exact tb_t 761 (by decide +kernel) rfl
  | 2, _ => exact tb_t 763 (by decide +kernel) rfl
  | 3, _ => exact tb_t 765 (by decide +kernel) rfl
  | 4, _ => exact tb_t 767 (by decide +kernel) rfl
  | 5, _ => exact tb_t 769 (by decide +kernel) rfl
  | 6, _ => exact tb_t 771 (by decide +kernel) rfl
  | 7, _ => exact tb_t 773 (by decide +kernel) rfl
  | 8, _ => exact tb_t 775 (by decide +kernel) rfl
  | 9, _ => exact tb_t 777 (by decide +kernel) rfl
  | 10, _ => exact tb_t 779 (by decide +kernel) rfl
  | 11, _ => exact tb_t 781 (by decide +kernel) rfl
  | 12, _ => exact tb_t 783 (by decide +kernel) rfl
  | 13, _ => exact tb_t 785 (by decide +kernel) rfl
  | 14, _ => exact tb_t 787 (by decide +kernel) rfl
  | 15, _ => exact tb_t 789 (by decide +kernel) rfl
  | 16, _ => exact tb_t 791 (by decide +kernel) rfl
  | 17, _ => exact tb_t 793 (by decide +kernel) rfl
  | 18, _ => exact tb_t 795 (by decide +kernel) rfl
  | 19, _ => exact tb_t 797 (by decide +kernel) rfl
  | k + 20, hk => exact absurd hk (by omega))
abbrev vwCl : List vw_C := [(R_B, F_B, 5), (R_N, F_N, 2), (R_O, F_O, 2), (R_H, F_H, 7), (R_X, F_X, 6), (R_P, F_P, 7), (R_M, F_M, 20)]
abbrev b_B_init : ByteArray := prog_2_method_1_code
def y_B_init : MethodName := ⟨R_B, "<init>", "()V"⟩
abbrev b_B_become : ByteArray := prog_2_method_2_code
def y_B_become : MethodName := ⟨R_B, "become", "(LPinionBench$Bench;)V"⟩
abbrev b_B_size : ByteArray := prog_2_method_3_code
def y_B_size : MethodName := ⟨R_B, "size", "()I"⟩
abbrev b_B_hasWheel : ByteArray := prog_2_method_4_code
def y_B_hasWheel : MethodName := ⟨R_B, "hasWheel", "(I)Z"⟩
abbrev b_B_teethOf : ByteArray := prog_2_method_5_code
def y_B_teethOf : MethodName := ⟨R_B, "teethOf", "(I)I"⟩
abbrev b_B_pressureNow : ByteArray := prog_2_method_6_code
def y_B_pressureNow : MethodName := ⟨R_B, "pressureNow", "()I"⟩
abbrev b_B_pairsInTrain : ByteArray := prog_2_method_7_code
def y_B_pairsInTrain : MethodName := ⟨R_B, "pairsInTrain", "()I"⟩
abbrev b_B_addWheel : ByteArray := prog_2_method_8_code
def y_B_addWheel : MethodName := ⟨R_B, "addWheel", "(I)I"⟩
abbrev b_B_setShift : ByteArray := prog_2_method_9_code
def y_B_setShift : MethodName := ⟨R_B, "setShift", "(II)I"⟩
abbrev b_B_setPressure : ByteArray := prog_2_method_10_code
def y_B_setPressure : MethodName := ⟨R_B, "setPressure", "(I)I"⟩
abbrev b_B_addPair : ByteArray := prog_2_method_11_code
def y_B_addPair : MethodName := ⟨R_B, "addPair", "(II)I"⟩
abbrev b_B_emptyTrain : ByteArray := prog_2_method_12_code
def y_B_emptyTrain : MethodName := ⟨R_B, "emptyTrain", "()I"⟩
abbrev b_B_does : ByteArray := prog_2_method_13_code
def y_B_does : MethodName := ⟨R_B, "does", "(III)Z"⟩
abbrev b_B_told : ByteArray := prog_2_method_14_code
def y_B_told : MethodName := ⟨R_B, "told", "(II)I"⟩
abbrev b_B_square : ByteArray := prog_2_method_15_code
def y_B_square : MethodName := ⟨R_B, "square", "()I"⟩
abbrev b_B_isRing : ByteArray := prog_2_method_16_code
def y_B_isRing : MethodName := ⟨R_B, "isRing", "(I)Z"⟩
abbrev b_B_keepsLimit : ByteArray := prog_2_method_17_code
def y_B_keepsLimit : MethodName := ⟨R_B, "keepsLimit", "(II)Z"⟩
abbrev b_B_isUndercut : ByteArray := prog_2_method_18_code
def y_B_isUndercut : MethodName := ⟨R_B, "isUndercut", "(I)Z"⟩
abbrev b_B_isPointed : ByteArray := prog_2_method_19_code
def y_B_isPointed : MethodName := ⟨R_B, "isPointed", "(I)Z"⟩
abbrev b_B_leastShift : ByteArray := prog_2_method_20_code
def y_B_leastShift : MethodName := ⟨R_B, "leastShift", "(I)I"⟩
abbrev b_B_pairsWith : ByteArray := prog_2_method_21_code
def y_B_pairsWith : MethodName := ⟨R_B, "pairsWith", "(I)I"⟩
abbrev b_B_fewestTeeth : ByteArray := prog_2_method_22_code
def y_B_fewestTeeth : MethodName := ⟨R_B, "fewestTeeth", "(I)I"⟩
abbrev b_B_wheelsThatAre : ByteArray := prog_2_method_23_code
def y_B_wheelsThatAre : MethodName := ⟨R_B, "wheelsThatAre", "(I)I"⟩
abbrev b_B_is : ByteArray := prog_2_method_24_code
def y_B_is : MethodName := ⟨R_B, "is", "(II)Z"⟩
abbrev b_B_isFirstOfItsTeeth : ByteArray := prog_2_method_25_code
def y_B_isFirstOfItsTeeth : MethodName := ⟨R_B, "isFirstOfItsTeeth", "(I)Z"⟩
abbrev b_B_outwardTeeth : ByteArray := prog_2_method_26_code
def y_B_outwardTeeth : MethodName := ⟨R_B, "outwardTeeth", "()I"⟩
abbrev b_B_hasRing : ByteArray := prog_2_method_27_code
def y_B_hasRing : MethodName := ⟨R_B, "hasRing", "(II)Z"⟩
abbrev b_B_canPair : ByteArray := prog_2_method_28_code
def y_B_canPair : MethodName := ⟨R_B, "canPair", "(II)Z"⟩
abbrev b_B_clashes : ByteArray := prog_2_method_29_code
def y_B_clashes : MethodName := ⟨R_B, "clashes", "(II)Z"⟩
abbrev b_B_arm : ByteArray := prog_2_method_30_code
def y_B_arm : MethodName := ⟨R_B, "arm", "(I)I"⟩
abbrev b_B_hundredths : ByteArray := prog_2_method_31_code
def y_B_hundredths : MethodName := ⟨R_B, "hundredths", "(II)I"⟩
abbrev b_B_shiftAt : ByteArray := prog_2_method_32_code
def y_B_shiftAt : MethodName := ⟨R_B, "shiftAt", "(IIII)I"⟩
abbrev b_B_above : ByteArray := prog_2_method_33_code
def y_B_above : MethodName := ⟨R_B, "above", "(II)J"⟩
abbrev b_B_below : ByteArray := prog_2_method_34_code
def y_B_below : MethodName := ⟨R_B, "below", "(II)J"⟩
abbrev b_B_firstClash : ByteArray := prog_2_method_35_code
def y_B_firstClash : MethodName := ⟨R_B, "firstClash", "()I"⟩
abbrev b_B_trainRatio : ByteArray := prog_2_method_36_code
def y_B_trainRatio : MethodName := ⟨R_B, "trainRatio", "(I)J"⟩
abbrev b_B_hundredthsInTrain : ByteArray := prog_2_method_37_code
def y_B_hundredthsInTrain : MethodName := ⟨R_B, "hundredthsInTrain", "(I)I"⟩
abbrev b_B_nearestPair : ByteArray := prog_2_method_38_code
def y_B_nearestPair : MethodName := ⟨R_B, "nearestPair", "()I"⟩
abbrev b_B_cosine : ByteArray := prog_2_method_39_code
def y_B_cosine : MethodName := ⟨R_B, "cosine", "()J"⟩
abbrev b_B_reach : ByteArray := prog_2_method_40_code
def y_B_reach : MethodName := ⟨R_B, "reach", "(I)J"⟩
abbrev b_B_path : ByteArray := prog_2_method_41_code
def y_B_path : MethodName := ⟨R_B, "path", "(II)J"⟩
abbrev b_B_lowContact : ByteArray := prog_2_method_42_code
def y_B_lowContact : MethodName := ⟨R_B, "lowContact", "(II)J"⟩
abbrev b_B_highContact : ByteArray := prog_2_method_43_code
def y_B_highContact : MethodName := ⟨R_B, "highContact", "(II)J"⟩
abbrev b_N_init : ByteArray := prog_3_method_1_code
def y_N_init : MethodName := ⟨R_N, "<init>", "(I)V"⟩
abbrev b_N_size : ByteArray := prog_3_method_2_code
def y_N_size : MethodName := ⟨R_N, "size", "()I"⟩
abbrev b_N_isFull : ByteArray := prog_3_method_3_code
def y_N_isFull : MethodName := ⟨R_N, "isFull", "()Z"⟩
abbrev b_N_has : ByteArray := prog_3_method_4_code
def y_N_has : MethodName := ⟨R_N, "has", "(I)Z"⟩
abbrev b_N_at : ByteArray := prog_3_method_5_code
def y_N_at : MethodName := ⟨R_N, "at", "(I)I"⟩
abbrev b_N_set : ByteArray := prog_3_method_6_code
def y_N_set : MethodName := ⟨R_N, "set", "(II)V"⟩
abbrev b_N_add : ByteArray := prog_3_method_7_code
def y_N_add : MethodName := ⟨R_N, "add", "(I)V"⟩
abbrev b_N_empty : ByteArray := prog_3_method_8_code
def y_N_empty : MethodName := ⟨R_N, "empty", "()V"⟩
abbrev b_N_become : ByteArray := prog_3_method_9_code
def y_N_become : MethodName := ⟨R_N, "become", "(LPinionBench$Ints;)V"⟩
abbrev b_O_init : ByteArray := prog_4_method_1_code
def y_O_init : MethodName := ⟨R_O, "<init>", "()V"⟩
abbrev b_O_isMissing : ByteArray := prog_4_method_2_code
def y_O_isMissing : MethodName := ⟨R_O, "isMissing", "()Z"⟩
abbrev b_O_size : ByteArray := prog_4_method_3_code
def y_O_size : MethodName := ⟨R_O, "size", "()I"⟩
abbrev b_O_resize : ByteArray := prog_4_method_4_code
def y_O_resize : MethodName := ⟨R_O, "resize", "(I)Z"⟩
abbrev b_O_hasPlace : ByteArray := prog_4_method_5_code
def y_O_hasPlace : MethodName := ⟨R_O, "hasPlace", "(I)Z"⟩
abbrev b_O_at : ByteArray := prog_4_method_6_code
def y_O_at : MethodName := ⟨R_O, "at", "(I)J"⟩
abbrev b_O_set : ByteArray := prog_4_method_7_code
def y_O_set : MethodName := ⟨R_O, "set", "(IJ)Z"⟩
abbrev b_H_init : ByteArray := prog_5_method_1_code
def y_H_init : MethodName := ⟨R_H, "<init>", "()V"⟩
abbrev b_H_isAsked : ByteArray := prog_5_method_2_code
def y_H_isAsked : MethodName := ⟨R_H, "isAsked", "(IIII)Z"⟩
abbrev b_H_run : ByteArray := prog_5_method_3_code
def y_H_run : MethodName := ⟨R_H, "run", "(IIII)V"⟩
abbrev b_H_told : ByteArray := prog_5_method_4_code
def y_H_told : MethodName := ⟨R_H, "told", "(I)I"⟩
abbrev b_H_take : ByteArray := prog_5_method_5_code
def y_H_take : MethodName := ⟨R_H, "take", "(II)V"⟩
abbrev b_H_miss : ByteArray := prog_5_method_6_code
def y_H_miss : MethodName := ⟨R_H, "miss", "(II)I"⟩
abbrev b_H_isNear : ByteArray := prog_5_method_7_code
def y_H_isNear : MethodName := ⟨R_H, "isNear", "(II)Z"⟩
abbrev b_H_isBetter : ByteArray := prog_5_method_8_code
def y_H_isBetter : MethodName := ⟨R_H, "isBetter", "(II)Z"⟩
abbrev b_T_ring : ByteArray := prog_6_method_2_code
def y_T_ring : MethodName := ⟨R_T, "ring", "(II)I"⟩
abbrev b_T_divides : ByteArray := prog_6_method_3_code
def y_T_divides : MethodName := ⟨R_T, "divides", "(III)Z"⟩
abbrev b_T_touch : ByteArray := prog_6_method_4_code
def y_T_touch : MethodName := ⟨R_T, "touch", "(III)Z"⟩
abbrev b_T_canBe : ByteArray := prog_6_method_5_code
def y_T_canBe : MethodName := ⟨R_T, "canBe", "(III)Z"⟩
abbrev b_T_teethTogether : ByteArray := prog_6_method_6_code
def y_T_teethTogether : MethodName := ⟨R_T, "teethTogether", "(III)I"⟩
abbrev b_T_mostPlanets : ByteArray := prog_6_method_7_code
def y_T_mostPlanets : MethodName := ⟨R_T, "mostPlanets", "(II)I"⟩
abbrev b_T_sine : ByteArray := prog_6_method_8_code
def y_T_sine : MethodName := ⟨R_T, "sine", "(I)I"⟩
abbrev b_T_ratioPart : ByteArray := prog_6_method_9_code
def y_T_ratioPart : MethodName := ⟨R_T, "ratioPart", "(IIIII)J"⟩
abbrev b_T_weight : ByteArray := prog_6_method_10_code
def y_T_weight : MethodName := ⟨R_T, "weight", "(III)I"⟩
abbrev b_X_init : ByteArray := prog_7_method_1_code
def y_X_init : MethodName := ⟨R_X, "<init>", "()V"⟩
abbrev b_X_append : ByteArray := prog_7_method_2_code
def y_X_append : MethodName := ⟨R_X, "append", "(I)I"⟩
abbrev b_X_length : ByteArray := prog_7_method_3_code
def y_X_length : MethodName := ⟨R_X, "length", "()I"⟩
abbrev b_X_empty : ByteArray := prog_7_method_4_code
def y_X_empty : MethodName := ⟨R_X, "empty", "()V"⟩
abbrev b_X_acts : ByteArray := prog_7_method_5_code
def y_X_acts : MethodName := ⟨R_X, "acts", "()I"⟩
abbrev b_X_letterOf : ByteArray := prog_7_method_6_code
def y_X_letterOf : MethodName := ⟨R_X, "letterOf", "(I)I"⟩
abbrev b_X_firstOf : ByteArray := prog_7_method_7_code
def y_X_firstOf : MethodName := ⟨R_X, "firstOf", "(I)I"⟩
abbrev b_X_secondOf : ByteArray := prog_7_method_8_code
def y_X_secondOf : MethodName := ⟨R_X, "secondOf", "(I)I"⟩
abbrev b_X_parse : ByteArray := prog_7_method_9_code
def y_X_parse : MethodName := ⟨R_X, "parse", "()I"⟩
abbrev b_X_parseAct : ByteArray := prog_7_method_10_code
def y_X_parseAct : MethodName := ⟨R_X, "parseAct", "()Z"⟩
abbrev b_X_parseNumber : ByteArray := prog_7_method_11_code
def y_X_parseNumber : MethodName := ⟨R_X, "parseNumber", "(Z)Z"⟩
abbrev b_X_next : ByteArray := prog_7_method_12_code
def y_X_next : MethodName := ⟨R_X, "next", "()I"⟩
abbrev b_X_skip : ByteArray := prog_7_method_13_code
def y_X_skip : MethodName := ⟨R_X, "skip", "(I)Z"⟩
abbrev b_X_isLetter : ByteArray := prog_7_method_14_code
def y_X_isLetter : MethodName := ⟨R_X, "isLetter", "(I)Z"⟩
abbrev b_X_isFigure : ByteArray := prog_7_method_15_code
def y_X_isFigure : MethodName := ⟨R_X, "isFigure", "(I)Z"⟩
abbrev b_P_init : ByteArray := prog_1_method_1_code
def y_P_init : MethodName := ⟨R_P, "<init>", "()V"⟩
abbrev b_P_wheel : ByteArray := prog_1_method_2_code
def y_P_wheel : MethodName := ⟨R_P, "wheel", "(I)I"⟩
abbrev b_P_shift : ByteArray := prog_1_method_3_code
def y_P_shift : MethodName := ⟨R_P, "shift", "(II)I"⟩
abbrev b_P_pressure : ByteArray := prog_1_method_4_code
def y_P_pressure : MethodName := ⟨R_P, "pressure", "(I)I"⟩
abbrev b_P_of : ByteArray := prog_1_method_5_code
def y_P_of : MethodName := ⟨R_P, "of", "(II)I"⟩
abbrev b_P_fewest : ByteArray := prog_1_method_6_code
def y_P_fewest : MethodName := ⟨R_P, "fewest", "(I)I"⟩
abbrev b_P_distance : ByteArray := prog_1_method_7_code
def y_P_distance : MethodName := ⟨R_P, "distance", "(III)J"⟩
abbrev b_P_ratio : ByteArray := prog_1_method_8_code
def y_P_ratio : MethodName := ⟨R_P, "ratio", "(III)J"⟩
abbrev b_P_contact : ByteArray := prog_1_method_9_code
def y_P_contact : MethodName := ⟨R_P, "contact", "(III)J"⟩
abbrev b_P_shiftFor : ByteArray := prog_1_method_10_code
def y_P_shiftFor : MethodName := ⟨R_P, "shiftFor", "(IIII)I"⟩
abbrev b_P_wheels : ByteArray := prog_1_method_11_code
def y_P_wheels : MethodName := ⟨R_P, "wheels", "(I)I"⟩
abbrev b_P_pair : ByteArray := prog_1_method_12_code
def y_P_pair : MethodName := ⟨R_P, "pair", "(II)I"⟩
abbrev b_P_clear : ByteArray := prog_1_method_13_code
def y_P_clear : MethodName := ⟨R_P, "clear", "()I"⟩
abbrev b_P_train : ByteArray := prog_1_method_14_code
def y_P_train : MethodName := ⟨R_P, "train", "(I)J"⟩
abbrev b_P_faulty : ByteArray := prog_1_method_15_code
def y_P_faulty : MethodName := ⟨R_P, "faulty", "()I"⟩
abbrev b_P_closest : ByteArray := prog_1_method_16_code
def y_P_closest : MethodName := ⟨R_P, "closest", "(I)J"⟩
abbrev b_P_together : ByteArray := prog_1_method_17_code
def y_P_together : MethodName := ⟨R_P, "together", "(III)I"⟩
abbrev b_P_most : ByteArray := prog_1_method_18_code
def y_P_most : MethodName := ⟨R_P, "most", "(II)I"⟩
abbrev b_P_planets : ByteArray := prog_1_method_19_code
def y_P_planets : MethodName := ⟨R_P, "planets", "(IIIII)J"⟩
abbrev b_P_searched : ByteArray := prog_1_method_20_code
def y_P_searched : MethodName := ⟨R_P, "searched", "(IIIII)I"⟩
abbrev b_P_feed : ByteArray := prog_1_method_21_code
def y_P_feed : MethodName := ⟨R_P, "feed", "(I)I"⟩
abbrev b_P_read : ByteArray := prog_1_method_22_code
def y_P_read : MethodName := ⟨R_P, "read", "()I"⟩
abbrev b_P_doActs : ByteArray := prog_1_method_23_code
def y_P_doActs : MethodName := ⟨R_P, "doActs", "()I"⟩
abbrev b_P_row : ByteArray := prog_1_method_24_code
def y_P_row : MethodName := ⟨R_P, "row", "(II)I"⟩
abbrev b_P_put : ByteArray := prog_1_method_25_code
def y_P_put : MethodName := ⟨R_P, "put", "(IIJ)I"⟩
abbrev b_P_get : ByteArray := prog_1_method_26_code
def y_P_get : MethodName := ⟨R_P, "get", "(II)J"⟩
abbrev b_P_lay : ByteArray := prog_1_method_27_code
def y_P_lay : MethodName := ⟨R_P, "lay", "(I)I"⟩
abbrev b_P_judge : ByteArray := prog_1_method_28_code
def y_P_judge : MethodName := ⟨R_P, "judge", "(I)I"⟩
abbrev b_P_image : ByteArray := prog_1_method_29_code
def y_P_image : MethodName := ⟨R_P, "image", "()I"⟩
abbrev b_P_undo : ByteArray := prog_1_method_30_code
def y_P_undo : MethodName := ⟨R_P, "undo", "()I"⟩
abbrev b_P_count : ByteArray := prog_1_method_31_code
def y_P_count : MethodName := ⟨R_P, "count", "(I)I"⟩
abbrev b_P_rowAt : ByteArray := prog_1_method_32_code
def y_P_rowAt : MethodName := ⟨R_P, "rowAt", "(I)LPinionBench$Row;"⟩
abbrev b_P_isOutward : ByteArray := prog_1_method_33_code
def y_P_isOutward : MethodName := ⟨R_P, "isOutward", "(I)Z"⟩
abbrev b_P_isTeeth : ByteArray := prog_1_method_34_code
def y_P_isTeeth : MethodName := ⟨R_P, "isTeeth", "(I)Z"⟩
abbrev b_P_isShift : ByteArray := prog_1_method_35_code
def y_P_isShift : MethodName := ⟨R_P, "isShift", "(I)Z"⟩
abbrev b_P_isPart : ByteArray := prog_1_method_36_code
def y_P_isPart : MethodName := ⟨R_P, "isPart", "(I)Z"⟩
abbrev b_P_partOf : ByteArray := prog_1_method_37_code
def y_P_partOf : MethodName := ⟨R_P, "partOf", "(JJI)J"⟩
abbrev b_P_commonDivisor : ByteArray := prog_1_method_38_code
def y_P_commonDivisor : MethodName := ⟨R_P, "commonDivisor", "(JJ)J"⟩
abbrev b_P_root : ByteArray := prog_1_method_39_code
def y_P_root : MethodName := ⟨R_P, "root", "(J)J"⟩
abbrev b_M_init : ByteArray := prog_9_method_1_code
def y_M_init : MethodName := ⟨R_M, "<init>", "()V"⟩
abbrev b_M_in : ByteArray := prog_9_method_2_code
def y_M_in : MethodName := ⟨R_M, "in", "(JJJ)Z"⟩
abbrev b_M_copies : ByteArray := prog_9_method_3_code
def y_M_copies : MethodName := ⟨R_M, "copies", "([I[I)V"⟩
abbrev b_M_isWheel : ByteArray := prog_9_method_4_code
def y_M_isWheel : MethodName := ⟨R_M, "isWheel", "(I)Z"⟩
abbrev b_M_teeth : ByteArray := prog_9_method_5_code
def y_M_teeth : MethodName := ⟨R_M, "teeth", "(I)I"⟩
abbrev b_M_isRing : ByteArray := prog_9_method_6_code
def y_M_isRing : MethodName := ⟨R_M, "isRing", "(I)Z"⟩
abbrev b_M_size : ByteArray := prog_9_method_7_code
def y_M_size : MethodName := ⟨R_M, "size", "(I)I"⟩
abbrev b_M_becomes : ByteArray := prog_9_method_8_code
def y_M_becomes : MethodName := ⟨R_M, "becomes", "(II)I"⟩
abbrev b_M_wheel : ByteArray := prog_9_method_9_code
def y_M_wheel : MethodName := ⟨R_M, "wheel", "(I)I"⟩
abbrev b_M_shift : ByteArray := prog_9_method_10_code
def y_M_shift : MethodName := ⟨R_M, "shift", "(II)I"⟩
abbrev b_M_pressure : ByteArray := prog_9_method_11_code
def y_M_pressure : MethodName := ⟨R_M, "pressure", "(I)I"⟩
abbrev b_M_square : ByteArray := prog_9_method_12_code
def y_M_square : MethodName := ⟨R_M, "square", "()I"⟩
abbrev b_M_isCut : ByteArray := prog_9_method_13_code
def y_M_isCut : MethodName := ⟨R_M, "isCut", "(II)Z"⟩
abbrev b_M_isUndercut : ByteArray := prog_9_method_14_code
def y_M_isUndercut : MethodName := ⟨R_M, "isUndercut", "(I)Z"⟩
abbrev b_M_isPointed : ByteArray := prog_9_method_15_code
def y_M_isPointed : MethodName := ⟨R_M, "isPointed", "(I)Z"⟩
abbrev b_M_leastShift : ByteArray := prog_9_method_16_code
def y_M_leastShift : MethodName := ⟨R_M, "leastShift", "(I)I"⟩
abbrev b_M_pairsWith : ByteArray := prog_9_method_17_code
def y_M_pairsWith : MethodName := ⟨R_M, "pairsWith", "(I)I"⟩
abbrev b_M_of : ByteArray := prog_9_method_18_code
def y_M_of : MethodName := ⟨R_M, "of", "(II)I"⟩
abbrev b_M_fewest : ByteArray := prog_9_method_19_code
def y_M_fewest : MethodName := ⟨R_M, "fewest", "(I)I"⟩
abbrev b_M_isFirst : ByteArray := prog_9_method_20_code
def y_M_isFirst : MethodName := ⟨R_M, "isFirst", "(I)Z"⟩
abbrev b_M_wheels : ByteArray := prog_9_method_21_code
def y_M_wheels : MethodName := ⟨R_M, "wheels", "(I)I"⟩
abbrev b_M_isPair : ByteArray := prog_9_method_22_code
def y_M_isPair : MethodName := ⟨R_M, "isPair", "(II)Z"⟩
abbrev b_M_clashes : ByteArray := prog_9_method_23_code
def y_M_clashes : MethodName := ⟨R_M, "clashes", "(II)Z"⟩
abbrev b_M_hundredths : ByteArray := prog_9_method_24_code
def y_M_hundredths : MethodName := ⟨R_M, "hundredths", "(II)I"⟩
abbrev b_M_lays : ByteArray := prog_9_method_25_code
def y_M_lays : MethodName := ⟨R_M, "lays", "(JJ)V"⟩
abbrev b_M_part : ByteArray := prog_9_method_26_code
def y_M_part : MethodName := ⟨R_M, "part", "(I)J"⟩
abbrev b_M_distance : ByteArray := prog_9_method_27_code
def y_M_distance : MethodName := ⟨R_M, "distance", "(III)J"⟩
abbrev b_M_sign : ByteArray := prog_9_method_28_code
def y_M_sign : MethodName := ⟨R_M, "sign", "(II)I"⟩
abbrev b_M_ratio : ByteArray := prog_9_method_29_code
def y_M_ratio : MethodName := ⟨R_M, "ratio", "(III)J"⟩
abbrev b_M_root : ByteArray := prog_9_method_30_code
def y_M_root : MethodName := ⟨R_M, "root", "(J)J"⟩
abbrev b_M_reach : ByteArray := prog_9_method_31_code
def y_M_reach : MethodName := ⟨R_M, "reach", "(I)J"⟩
abbrev b_M_contact : ByteArray := prog_9_method_32_code
def y_M_contact : MethodName := ⟨R_M, "contact", "(III)J"⟩
abbrev b_M_shiftFor : ByteArray := prog_9_method_33_code
def y_M_shiftFor : MethodName := ⟨R_M, "shiftFor", "(IIII)I"⟩
abbrev b_M_pair : ByteArray := prog_9_method_34_code
def y_M_pair : MethodName := ⟨R_M, "pair", "(II)I"⟩
abbrev b_M_clear : ByteArray := prog_9_method_35_code
def y_M_clear : MethodName := ⟨R_M, "clear", "()I"⟩
abbrev b_M_faulty : ByteArray := prog_9_method_36_code
def y_M_faulty : MethodName := ⟨R_M, "faulty", "()I"⟩
abbrev b_M_train : ByteArray := prog_9_method_37_code
def y_M_train : MethodName := ⟨R_M, "train", "(I)J"⟩
abbrev b_M_closest : ByteArray := prog_9_method_38_code
def y_M_closest : MethodName := ⟨R_M, "closest", "(I)J"⟩
abbrev b_M_areSet : ByteArray := prog_9_method_39_code
def y_M_areSet : MethodName := ⟨R_M, "areSet", "(II)Z"⟩
abbrev b_M_puts : ByteArray := prog_9_method_40_code
def y_M_puts : MethodName := ⟨R_M, "puts", "(III)I"⟩
abbrev b_M_together : ByteArray := prog_9_method_41_code
def y_M_together : MethodName := ⟨R_M, "together", "(III)I"⟩
abbrev b_M_most : ByteArray := prog_9_method_42_code
def y_M_most : MethodName := ⟨R_M, "most", "(II)I"⟩
abbrev b_M_planets : ByteArray := prog_9_method_43_code
def y_M_planets : MethodName := ⟨R_M, "planets", "(IIIII)J"⟩
abbrev b_M_off : ByteArray := prog_9_method_44_code
def y_M_off : MethodName := ⟨R_M, "off", "(IIII)J"⟩
abbrev b_M_teethOf : ByteArray := prog_9_method_45_code
def y_M_teethOf : MethodName := ⟨R_M, "teethOf", "(III)I"⟩
abbrev b_M_searches : ByteArray := prog_9_method_46_code
def y_M_searches : MethodName := ⟨R_M, "searches", "(IIIIII)V"⟩
abbrev b_M_isBetter : ByteArray := prog_9_method_47_code
def y_M_isBetter : MethodName := ⟨R_M, "isBetter", "(IIIII)Z"⟩
abbrev b_M_searched : ByteArray := prog_9_method_48_code
def y_M_searched : MethodName := ⟨R_M, "searched", "(IIIII)I"⟩
abbrev b_M_feed : ByteArray := prog_9_method_49_code
def y_M_feed : MethodName := ⟨R_M, "feed", "(I)I"⟩
abbrev b_M_here : ByteArray := prog_9_method_50_code
def y_M_here : MethodName := ⟨R_M, "here", "()I"⟩
abbrev b_M_takes : ByteArray := prog_9_method_51_code
def y_M_takes : MethodName := ⟨R_M, "takes", "(I)V"⟩
abbrev b_M_isFigure : ByteArray := prog_9_method_52_code
def y_M_isFigure : MethodName := ⟨R_M, "isFigure", "()Z"⟩
abbrev b_M_number : ByteArray := prog_9_method_53_code
def y_M_number : MethodName := ⟨R_M, "number", "(Z)I"⟩
abbrev b_M_act : ByteArray := prog_9_method_54_code
def y_M_act : MethodName := ⟨R_M, "act", "(I)V"⟩
abbrev b_M_isDone : ByteArray := prog_9_method_55_code
def y_M_isDone : MethodName := ⟨R_M, "isDone", "(I)Z"⟩
abbrev b_M_read : ByteArray := prog_9_method_56_code
def y_M_read : MethodName := ⟨R_M, "read", "()I"⟩
abbrev b_M_isRow : ByteArray := prog_9_method_57_code
def y_M_isRow : MethodName := ⟨R_M, "isRow", "(I)Z"⟩
abbrev b_M_row : ByteArray := prog_9_method_58_code
def y_M_row : MethodName := ⟨R_M, "row", "(II)I"⟩
abbrev b_M_put : ByteArray := prog_9_method_59_code
def y_M_put : MethodName := ⟨R_M, "put", "(IIJ)I"⟩
abbrev b_M_get : ByteArray := prog_9_method_60_code
def y_M_get : MethodName := ⟨R_M, "get", "(II)J"⟩
abbrev b_M_lay : ByteArray := prog_9_method_61_code
def y_M_lay : MethodName := ⟨R_M, "lay", "(I)I"⟩
abbrev b_M_judge : ByteArray := prog_9_method_62_code
def y_M_judge : MethodName := ⟨R_M, "judge", "(I)I"⟩
abbrev b_M_image : ByteArray := prog_9_method_63_code
def y_M_image : MethodName := ⟨R_M, "image", "()I"⟩
abbrev b_M_undo : ByteArray := prog_9_method_64_code
def y_M_undo : MethodName := ⟨R_M, "undo", "()I"⟩
abbrev b_M_count : ByteArray := prog_9_method_65_code
def y_M_count : MethodName := ⟨R_M, "count", "(I)I"⟩
abbrev b_L_law : ByteArray := code
def y_L_law : MethodName := ⟨R_L, "law", "([I)Z"⟩
def MI (y : MethodName) (n : Nat) (cc : ByteArray) (maxL : Nat) (ret : Option FieldType) : Prop := (y.cls ≠ "java/lang/invoke/MethodHandle" ∧ y.cls ≠ "java/lang/invoke/VarHandle" ∧ (parseMethodDescriptor y.desc).map (fun d => d.parameters.length) = some n) ∧ Cond.initialized y.cls ∈ TB ∧ Cond.code y cc maxL ret ∈ TB
def MIv (y : MethodName) (n : Nat) (cc : ByteArray) (maxL : Nat) (ret : Option FieldType) : Prop := MI y n cc maxL ret ∧ Cond.instanceMethod y ∈ TB ∧ Cond.selects y.cls y y ∈ TB
def MIs (y : MethodName) (n : Nat) (cc : ByteArray) (maxL : Nat) (ret : Option FieldType) : Prop := MI y n cc maxL ret ∧ Cond.static y ∈ TB
theorem mi_B_init : MI y_B_init 0 b_B_init 1 none ∧ Cond.instanceMethod y_B_init ∈ TB := ⟨⟨⟨by decide +kernel, by decide +kernel, by decide +kernel⟩, tb_t 53 (by decide +kernel) rfl, tb_t 73 (by decide +kernel) rfl⟩, tb_t 72 (by decide +kernel) rfl⟩
theorem mi_B_become : MIv y_B_become 1 b_B_become 2 none := ⟨⟨⟨by decide +kernel, by decide +kernel, by decide +kernel⟩, tb_t 53 (by decide +kernel) rfl, tb_t 611 (by decide +kernel) rfl⟩, tb_t 609 (by decide +kernel) rfl, tb_t 610 (by decide +kernel) rfl⟩
theorem mi_B_size : MIv y_B_size 0 b_B_size 1 (some .int) := ⟨⟨⟨by decide +kernel, by decide +kernel, by decide +kernel⟩, tb_t 53 (by decide +kernel) rfl, tb_t 694 (by decide +kernel) rfl⟩, tb_t 692 (by decide +kernel) rfl, tb_t 693 (by decide +kernel) rfl⟩
theorem mi_B_hasWheel : MIv y_B_hasWheel 1 b_B_hasWheel 2 (some .boolean) := ⟨⟨⟨by decide +kernel, by decide +kernel, by decide +kernel⟩, tb_t 53 (by decide +kernel) rfl, tb_t 261 (by decide +kernel) rfl⟩, tb_t 259 (by decide +kernel) rfl, tb_t 260 (by decide +kernel) rfl⟩
theorem mi_B_teethOf : MIv y_B_teethOf 1 b_B_teethOf 2 (some .int) := ⟨⟨⟨by decide +kernel, by decide +kernel, by decide +kernel⟩, tb_t 53 (by decide +kernel) rfl, tb_t 701 (by decide +kernel) rfl⟩, tb_t 699 (by decide +kernel) rfl, tb_t 700 (by decide +kernel) rfl⟩
theorem mi_B_pressureNow : MIv y_B_pressureNow 0 b_B_pressureNow 1 (some .int) := ⟨⟨⟨by decide +kernel, by decide +kernel, by decide +kernel⟩, tb_t 53 (by decide +kernel) rfl, tb_t 725 (by decide +kernel) rfl⟩, tb_t 723 (by decide +kernel) rfl, tb_t 724 (by decide +kernel) rfl⟩
theorem mi_B_pairsInTrain : MIv y_B_pairsInTrain 0 b_B_pairsInTrain 1 (some .int) := ⟨⟨⟨by decide +kernel, by decide +kernel, by decide +kernel⟩, tb_t 53 (by decide +kernel) rfl, tb_t 448 (by decide +kernel) rfl⟩, tb_t 446 (by decide +kernel) rfl, tb_t 447 (by decide +kernel) rfl⟩
theorem mi_B_addWheel : MIv y_B_addWheel 1 b_B_addWheel 2 (some .int) := ⟨⟨⟨by decide +kernel, by decide +kernel, by decide +kernel⟩, tb_t 53 (by decide +kernel) rfl, tb_t 204 (by decide +kernel) rfl⟩, tb_t 202 (by decide +kernel) rfl, tb_t 203 (by decide +kernel) rfl⟩
theorem mi_B_setShift : MIv y_B_setShift 2 b_B_setShift 4 (some .int) := ⟨⟨⟨by decide +kernel, by decide +kernel, by decide +kernel⟩, tb_t 53 (by decide +kernel) rfl, tb_t 230 (by decide +kernel) rfl⟩, tb_t 228 (by decide +kernel) rfl, tb_t 229 (by decide +kernel) rfl⟩
theorem mi_B_setPressure : MIv y_B_setPressure 1 b_B_setPressure 3 (some .int) := ⟨⟨⟨by decide +kernel, by decide +kernel, by decide +kernel⟩, tb_t 53 (by decide +kernel) rfl, tb_t 253 (by decide +kernel) rfl⟩, tb_t 251 (by decide +kernel) rfl, tb_t 252 (by decide +kernel) rfl⟩
theorem mi_B_addPair : MIv y_B_addPair 2 b_B_addPair 3 (some .int) := ⟨⟨⟨by decide +kernel, by decide +kernel, by decide +kernel⟩, tb_t 53 (by decide +kernel) rfl, tb_t 427 (by decide +kernel) rfl⟩, tb_t 425 (by decide +kernel) rfl, tb_t 426 (by decide +kernel) rfl⟩
theorem mi_B_emptyTrain : MIv y_B_emptyTrain 0 b_B_emptyTrain 2 (some .int) := ⟨⟨⟨by decide +kernel, by decide +kernel, by decide +kernel⟩, tb_t 53 (by decide +kernel) rfl, tb_t 436 (by decide +kernel) rfl⟩, tb_t 434 (by decide +kernel) rfl, tb_t 435 (by decide +kernel) rfl⟩
theorem mi_B_does : MIv y_B_does 3 b_B_does 4 (some .boolean) := ⟨⟨⟨by decide +kernel, by decide +kernel, by decide +kernel⟩, tb_t 53 (by decide +kernel) rfl, tb_t 639 (by decide +kernel) rfl⟩, tb_t 637 (by decide +kernel) rfl, tb_t 638 (by decide +kernel) rfl⟩
theorem mi_B_told : MIv y_B_told 2 b_B_told 3 (some .int) := ⟨⟨⟨by decide +kernel, by decide +kernel, by decide +kernel⟩, tb_t 53 (by decide +kernel) rfl, tb_t 265 (by decide +kernel) rfl⟩, tb_t 263 (by decide +kernel) rfl, tb_t 264 (by decide +kernel) rfl⟩
theorem mi_B_square : MIv y_B_square 0 b_B_square 1 (some .int) := ⟨⟨⟨by decide +kernel, by decide +kernel, by decide +kernel⟩, tb_t 53 (by decide +kernel) rfl, tb_t 281 (by decide +kernel) rfl⟩, tb_t 280 (by decide +kernel) rfl, tb_t 3 (by decide +kernel) rfl⟩
theorem mi_B_isRing : MIv y_B_isRing 1 b_B_isRing 2 (some .boolean) := ⟨⟨⟨by decide +kernel, by decide +kernel, by decide +kernel⟩, tb_t 53 (by decide +kernel) rfl, tb_t 273 (by decide +kernel) rfl⟩, tb_t 272 (by decide +kernel) rfl, tb_t 1 (by decide +kernel) rfl⟩
theorem mi_B_keepsLimit : MIv y_B_keepsLimit 2 b_B_keepsLimit 3 (some .boolean) := ⟨⟨⟨by decide +kernel, by decide +kernel, by decide +kernel⟩, tb_t 53 (by decide +kernel) rfl, tb_t 277 (by decide +kernel) rfl⟩, tb_t 276 (by decide +kernel) rfl, tb_t 2 (by decide +kernel) rfl⟩
theorem mi_B_isUndercut : MIv y_B_isUndercut 1 b_B_isUndercut 2 (some .boolean) := ⟨⟨⟨by decide +kernel, by decide +kernel, by decide +kernel⟩, tb_t 53 (by decide +kernel) rfl, tb_t 269 (by decide +kernel) rfl⟩, tb_t 268 (by decide +kernel) rfl, tb_t 0 (by decide +kernel) rfl⟩
theorem mi_B_isPointed : MIv y_B_isPointed 1 b_B_isPointed 2 (some .boolean) := ⟨⟨⟨by decide +kernel, by decide +kernel, by decide +kernel⟩, tb_t 53 (by decide +kernel) rfl, tb_t 285 (by decide +kernel) rfl⟩, tb_t 284 (by decide +kernel) rfl, tb_t 4 (by decide +kernel) rfl⟩
theorem mi_B_leastShift : MIv y_B_leastShift 1 b_B_leastShift 3 (some .int) := ⟨⟨⟨by decide +kernel, by decide +kernel, by decide +kernel⟩, tb_t 53 (by decide +kernel) rfl, tb_t 289 (by decide +kernel) rfl⟩, tb_t 288 (by decide +kernel) rfl, tb_t 5 (by decide +kernel) rfl⟩
theorem mi_B_pairsWith : MIv y_B_pairsWith 1 b_B_pairsWith 4 (some .int) := ⟨⟨⟨by decide +kernel, by decide +kernel, by decide +kernel⟩, tb_t 53 (by decide +kernel) rfl, tb_t 293 (by decide +kernel) rfl⟩, tb_t 292 (by decide +kernel) rfl, tb_t 6 (by decide +kernel) rfl⟩
theorem mi_B_fewestTeeth : MIv y_B_fewestTeeth 1 b_B_fewestTeeth 3 (some .int) := ⟨⟨⟨by decide +kernel, by decide +kernel, by decide +kernel⟩, tb_t 53 (by decide +kernel) rfl, tb_t 302 (by decide +kernel) rfl⟩, tb_t 300 (by decide +kernel) rfl, tb_t 301 (by decide +kernel) rfl⟩
theorem mi_B_wheelsThatAre : MIv y_B_wheelsThatAre 1 b_B_wheelsThatAre 4 (some .int) := ⟨⟨⟨by decide +kernel, by decide +kernel, by decide +kernel⟩, tb_t 53 (by decide +kernel) rfl, tb_t 411 (by decide +kernel) rfl⟩, tb_t 409 (by decide +kernel) rfl, tb_t 410 (by decide +kernel) rfl⟩
theorem mi_B_is : MIv y_B_is 2 b_B_is 3 (some .boolean) := ⟨⟨⟨by decide +kernel, by decide +kernel, by decide +kernel⟩, tb_t 53 (by decide +kernel) rfl, tb_t 415 (by decide +kernel) rfl⟩, tb_t 414 (by decide +kernel) rfl, tb_t 11 (by decide +kernel) rfl⟩
theorem mi_B_isFirstOfItsTeeth : MIv y_B_isFirstOfItsTeeth 1 b_B_isFirstOfItsTeeth 3 (some .boolean) := ⟨⟨⟨by decide +kernel, by decide +kernel, by decide +kernel⟩, tb_t 53 (by decide +kernel) rfl, tb_t 419 (by decide +kernel) rfl⟩, tb_t 418 (by decide +kernel) rfl, tb_t 12 (by decide +kernel) rfl⟩
theorem mi_B_outwardTeeth : MIv y_B_outwardTeeth 0 b_B_outwardTeeth 3 (some .int) := ⟨⟨⟨by decide +kernel, by decide +kernel, by decide +kernel⟩, tb_t 53 (by decide +kernel) rfl, tb_t 729 (by decide +kernel) rfl⟩, tb_t 727 (by decide +kernel) rfl, tb_t 728 (by decide +kernel) rfl⟩
theorem mi_B_hasRing : MIv y_B_hasRing 2 b_B_hasRing 3 (some .boolean) := ⟨⟨⟨by decide +kernel, by decide +kernel, by decide +kernel⟩, tb_t 53 (by decide +kernel) rfl, tb_t 323 (by decide +kernel) rfl⟩, tb_t 321 (by decide +kernel) rfl, tb_t 322 (by decide +kernel) rfl⟩
theorem mi_B_canPair : MIv y_B_canPair 2 b_B_canPair 3 (some .boolean) := ⟨⟨⟨by decide +kernel, by decide +kernel, by decide +kernel⟩, tb_t 53 (by decide +kernel) rfl, tb_t 313 (by decide +kernel) rfl⟩, tb_t 311 (by decide +kernel) rfl, tb_t 312 (by decide +kernel) rfl⟩
theorem mi_B_clashes : MIv y_B_clashes 2 b_B_clashes 3 (some .boolean) := ⟨⟨⟨by decide +kernel, by decide +kernel, by decide +kernel⟩, tb_t 53 (by decide +kernel) rfl, tb_t 319 (by decide +kernel) rfl⟩, tb_t 317 (by decide +kernel) rfl, tb_t 318 (by decide +kernel) rfl⟩
theorem mi_B_arm : MIv y_B_arm 1 b_B_arm 2 (some .int) := ⟨⟨⟨by decide +kernel, by decide +kernel, by decide +kernel⟩, tb_t 53 (by decide +kernel) rfl, tb_t 332 (by decide +kernel) rfl⟩, tb_t 331 (by decide +kernel) rfl, tb_t 7 (by decide +kernel) rfl⟩
theorem mi_B_hundredths : MIv y_B_hundredths 2 b_B_hundredths 3 (some .int) := ⟨⟨⟨by decide +kernel, by decide +kernel, by decide +kernel⟩, tb_t 53 (by decide +kernel) rfl, tb_t 328 (by decide +kernel) rfl⟩, tb_t 326 (by decide +kernel) rfl, tb_t 327 (by decide +kernel) rfl⟩
theorem mi_B_shiftAt : MIv y_B_shiftAt 4 b_B_shiftAt 8 (some .int) := ⟨⟨⟨by decide +kernel, by decide +kernel, by decide +kernel⟩, tb_t 53 (by decide +kernel) rfl, tb_t 403 (by decide +kernel) rfl⟩, tb_t 401 (by decide +kernel) rfl, tb_t 402 (by decide +kernel) rfl⟩
theorem mi_B_above : MIv y_B_above 2 b_B_above 4 (some .long) := ⟨⟨⟨by decide +kernel, by decide +kernel, by decide +kernel⟩, tb_t 53 (by decide +kernel) rfl, tb_t 353 (by decide +kernel) rfl⟩, tb_t 351 (by decide +kernel) rfl, tb_t 352 (by decide +kernel) rfl⟩
theorem mi_B_below : MIv y_B_below 2 b_B_below 3 (some .long) := ⟨⟨⟨by decide +kernel, by decide +kernel, by decide +kernel⟩, tb_t 53 (by decide +kernel) rfl, tb_t 357 (by decide +kernel) rfl⟩, tb_t 355 (by decide +kernel) rfl, tb_t 356 (by decide +kernel) rfl⟩
theorem mi_B_firstClash : MIv y_B_firstClash 0 b_B_firstClash 2 (some .int) := ⟨⟨⟨by decide +kernel, by decide +kernel, by decide +kernel⟩, tb_t 53 (by decide +kernel) rfl, tb_t 452 (by decide +kernel) rfl⟩, tb_t 450 (by decide +kernel) rfl, tb_t 451 (by decide +kernel) rfl⟩
theorem mi_B_trainRatio : MIv y_B_trainRatio 1 b_B_trainRatio 7 (some .long) := ⟨⟨⟨by decide +kernel, by decide +kernel, by decide +kernel⟩, tb_t 53 (by decide +kernel) rfl, tb_t 457 (by decide +kernel) rfl⟩, tb_t 455 (by decide +kernel) rfl, tb_t 456 (by decide +kernel) rfl⟩
theorem mi_B_hundredthsInTrain : MIv y_B_hundredthsInTrain 1 b_B_hundredthsInTrain 2 (some .int) := ⟨⟨⟨by decide +kernel, by decide +kernel, by decide +kernel⟩, tb_t 53 (by decide +kernel) rfl, tb_t 476 (by decide +kernel) rfl⟩, tb_t 474 (by decide +kernel) rfl, tb_t 475 (by decide +kernel) rfl⟩
theorem mi_B_nearestPair : MIv y_B_nearestPair 0 b_B_nearestPair 3 (some .int) := ⟨⟨⟨by decide +kernel, by decide +kernel, by decide +kernel⟩, tb_t 53 (by decide +kernel) rfl, tb_t 472 (by decide +kernel) rfl⟩, tb_t 470 (by decide +kernel) rfl, tb_t 471 (by decide +kernel) rfl⟩
theorem mi_B_cosine : MIv y_B_cosine 0 b_B_cosine 1 (some .long) := ⟨⟨⟨by decide +kernel, by decide +kernel, by decide +kernel⟩, tb_t 53 (by decide +kernel) rfl, tb_t 371 (by decide +kernel) rfl⟩, tb_t 370 (by decide +kernel) rfl, tb_t 8 (by decide +kernel) rfl⟩
theorem mi_B_reach : MIv y_B_reach 1 b_B_reach 10 (some .long) := ⟨⟨⟨by decide +kernel, by decide +kernel, by decide +kernel⟩, tb_t 53 (by decide +kernel) rfl, tb_t 383 (by decide +kernel) rfl⟩, tb_t 382 (by decide +kernel) rfl, tb_t 10 (by decide +kernel) rfl⟩
theorem mi_B_path : MIv y_B_path 2 b_B_path 5 (some .long) := ⟨⟨⟨by decide +kernel, by decide +kernel, by decide +kernel⟩, tb_t 53 (by decide +kernel) rfl, tb_t 379 (by decide +kernel) rfl⟩, tb_t 378 (by decide +kernel) rfl, tb_t 9 (by decide +kernel) rfl⟩
theorem mi_B_lowContact : MIv y_B_lowContact 2 b_B_lowContact 7 (some .long) := ⟨⟨⟨by decide +kernel, by decide +kernel, by decide +kernel⟩, tb_t 53 (by decide +kernel) rfl, tb_t 366 (by decide +kernel) rfl⟩, tb_t 364 (by decide +kernel) rfl, tb_t 365 (by decide +kernel) rfl⟩
theorem mi_B_highContact : MIv y_B_highContact 2 b_B_highContact 7 (some .long) := ⟨⟨⟨by decide +kernel, by decide +kernel, by decide +kernel⟩, tb_t 53 (by decide +kernel) rfl, tb_t 393 (by decide +kernel) rfl⟩, tb_t 391 (by decide +kernel) rfl, tb_t 392 (by decide +kernel) rfl⟩
theorem mi_N_init : MI y_N_init 1 b_N_init 2 none ∧ Cond.instanceMethod y_N_init ∈ TB := ⟨⟨⟨by decide +kernel, by decide +kernel, by decide +kernel⟩, tb_t 54 (by decide +kernel) rfl, tb_t 79 (by decide +kernel) rfl⟩, tb_t 78 (by decide +kernel) rfl⟩
theorem mi_N_size : MIv y_N_size 0 b_N_size 1 (some .int) := ⟨⟨⟨by decide +kernel, by decide +kernel, by decide +kernel⟩, tb_t 54 (by decide +kernel) rfl, tb_t 222 (by decide +kernel) rfl⟩, tb_t 220 (by decide +kernel) rfl, tb_t 221 (by decide +kernel) rfl⟩
theorem mi_N_isFull : MIv y_N_isFull 0 b_N_isFull 1 (some .boolean) := ⟨⟨⟨by decide +kernel, by decide +kernel, by decide +kernel⟩, tb_t 54 (by decide +kernel) rfl, tb_t 214 (by decide +kernel) rfl⟩, tb_t 212 (by decide +kernel) rfl, tb_t 213 (by decide +kernel) rfl⟩
theorem mi_N_has : MIv y_N_has 1 b_N_has 2 (some .boolean) := ⟨⟨⟨by decide +kernel, by decide +kernel, by decide +kernel⟩, tb_t 54 (by decide +kernel) rfl, tb_t 234 (by decide +kernel) rfl⟩, tb_t 232 (by decide +kernel) rfl, tb_t 233 (by decide +kernel) rfl⟩
theorem mi_N_at : MIv y_N_at 1 b_N_at 2 (some .int) := ⟨⟨⟨by decide +kernel, by decide +kernel, by decide +kernel⟩, tb_t 54 (by decide +kernel) rfl, tb_t 241 (by decide +kernel) rfl⟩, tb_t 239 (by decide +kernel) rfl, tb_t 240 (by decide +kernel) rfl⟩
theorem mi_N_set : MIv y_N_set 2 b_N_set 3 none := ⟨⟨⟨by decide +kernel, by decide +kernel, by decide +kernel⟩, tb_t 54 (by decide +kernel) rfl, tb_t 245 (by decide +kernel) rfl⟩, tb_t 243 (by decide +kernel) rfl, tb_t 244 (by decide +kernel) rfl⟩
theorem mi_N_add : MIv y_N_add 1 b_N_add 2 none := ⟨⟨⟨by decide +kernel, by decide +kernel, by decide +kernel⟩, tb_t 54 (by decide +kernel) rfl, tb_t 218 (by decide +kernel) rfl⟩, tb_t 216 (by decide +kernel) rfl, tb_t 217 (by decide +kernel) rfl⟩
theorem mi_N_empty : MIv y_N_empty 0 b_N_empty 1 none := ⟨⟨⟨by decide +kernel, by decide +kernel, by decide +kernel⟩, tb_t 54 (by decide +kernel) rfl, tb_t 440 (by decide +kernel) rfl⟩, tb_t 438 (by decide +kernel) rfl, tb_t 439 (by decide +kernel) rfl⟩
theorem mi_N_become : MIv y_N_become 1 b_N_become 3 none := ⟨⟨⟨by decide +kernel, by decide +kernel, by decide +kernel⟩, tb_t 54 (by decide +kernel) rfl, tb_t 615 (by decide +kernel) rfl⟩, tb_t 613 (by decide +kernel) rfl, tb_t 614 (by decide +kernel) rfl⟩
theorem mi_O_init : MI y_O_init 0 b_O_init 1 none ∧ Cond.instanceMethod y_O_init ∈ TB := ⟨⟨⟨by decide +kernel, by decide +kernel, by decide +kernel⟩, tb_t 56 (by decide +kernel) rfl, tb_t 137 (by decide +kernel) rfl⟩, tb_t 136 (by decide +kernel) rfl⟩
theorem mi_O_isMissing : MIv y_O_isMissing 0 b_O_isMissing 1 (some .boolean) := ⟨⟨⟨by decide +kernel, by decide +kernel, by decide +kernel⟩, tb_t 56 (by decide +kernel) rfl, tb_t 664 (by decide +kernel) rfl⟩, tb_t 662 (by decide +kernel) rfl, tb_t 663 (by decide +kernel) rfl⟩
theorem mi_O_size : MIv y_O_size 0 b_O_size 1 (some .int) := ⟨⟨⟨by decide +kernel, by decide +kernel, by decide +kernel⟩, tb_t 56 (by decide +kernel) rfl, tb_t 690 (by decide +kernel) rfl⟩, tb_t 688 (by decide +kernel) rfl, tb_t 689 (by decide +kernel) rfl⟩
theorem mi_O_resize : MIv y_O_resize 1 b_O_resize 3 (some .boolean) := ⟨⟨⟨by decide +kernel, by decide +kernel, by decide +kernel⟩, tb_t 56 (by decide +kernel) rfl, tb_t 656 (by decide +kernel) rfl⟩, tb_t 654 (by decide +kernel) rfl, tb_t 655 (by decide +kernel) rfl⟩
theorem mi_O_hasPlace : MIv y_O_hasPlace 1 b_O_hasPlace 2 (some .boolean) := ⟨⟨⟨by decide +kernel, by decide +kernel, by decide +kernel⟩, tb_t 56 (by decide +kernel) rfl, tb_t 672 (by decide +kernel) rfl⟩, tb_t 670 (by decide +kernel) rfl, tb_t 671 (by decide +kernel) rfl⟩
theorem mi_O_at : MIv y_O_at 1 b_O_at 2 (some .long) := ⟨⟨⟨by decide +kernel, by decide +kernel, by decide +kernel⟩, tb_t 56 (by decide +kernel) rfl, tb_t 681 (by decide +kernel) rfl⟩, tb_t 679 (by decide +kernel) rfl, tb_t 680 (by decide +kernel) rfl⟩
theorem mi_O_set : MIv y_O_set 2 b_O_set 5 (some .boolean) := ⟨⟨⟨by decide +kernel, by decide +kernel, by decide +kernel⟩, tb_t 56 (by decide +kernel) rfl, tb_t 668 (by decide +kernel) rfl⟩, tb_t 666 (by decide +kernel) rfl, tb_t 667 (by decide +kernel) rfl⟩
theorem mi_H_init : MI y_H_init 0 b_H_init 1 none ∧ Cond.instanceMethod y_H_init ∈ TB := ⟨⟨⟨by decide +kernel, by decide +kernel, by decide +kernel⟩, tb_t 57 (by decide +kernel) rfl, tb_t 151 (by decide +kernel) rfl⟩, tb_t 150 (by decide +kernel) rfl⟩
theorem mi_H_isAsked : MIs y_H_isAsked 4 b_H_isAsked 10 (some .boolean) := ⟨⟨⟨by decide +kernel, by decide +kernel, by decide +kernel⟩, tb_t 57 (by decide +kernel) rfl, tb_t 525 (by decide +kernel) rfl⟩, tb_t 524 (by decide +kernel) rfl⟩
theorem mi_H_run : MIv y_H_run 4 b_H_run 9 none := ⟨⟨⟨by decide +kernel, by decide +kernel, by decide +kernel⟩, tb_t 57 (by decide +kernel) rfl, tb_t 529 (by decide +kernel) rfl⟩, tb_t 527 (by decide +kernel) rfl, tb_t 528 (by decide +kernel) rfl⟩
theorem mi_H_told : MIv y_H_told 1 b_H_told 2 (some .int) := ⟨⟨⟨by decide +kernel, by decide +kernel, by decide +kernel⟩, tb_t 57 (by decide +kernel) rfl, tb_t 555 (by decide +kernel) rfl⟩, tb_t 553 (by decide +kernel) rfl, tb_t 554 (by decide +kernel) rfl⟩
theorem mi_H_take : MIv y_H_take 2 b_H_take 3 none := ⟨⟨⟨by decide +kernel, by decide +kernel, by decide +kernel⟩, tb_t 57 (by decide +kernel) rfl, tb_t 544 (by decide +kernel) rfl⟩, tb_t 543 (by decide +kernel) rfl, tb_t 15 (by decide +kernel) rfl⟩
theorem mi_H_miss : MIv y_H_miss 2 b_H_miss 3 (some .int) := ⟨⟨⟨by decide +kernel, by decide +kernel, by decide +kernel⟩, tb_t 57 (by decide +kernel) rfl, tb_t 537 (by decide +kernel) rfl⟩, tb_t 536 (by decide +kernel) rfl, tb_t 14 (by decide +kernel) rfl⟩
theorem mi_H_isNear : MIv y_H_isNear 2 b_H_isNear 3 (some .boolean) := ⟨⟨⟨by decide +kernel, by decide +kernel, by decide +kernel⟩, tb_t 57 (by decide +kernel) rfl, tb_t 533 (by decide +kernel) rfl⟩, tb_t 532 (by decide +kernel) rfl, tb_t 13 (by decide +kernel) rfl⟩
theorem mi_H_isBetter : MIv y_H_isBetter 2 b_H_isBetter 7 (some .boolean) := ⟨⟨⟨by decide +kernel, by decide +kernel, by decide +kernel⟩, tb_t 57 (by decide +kernel) rfl, tb_t 548 (by decide +kernel) rfl⟩, tb_t 547 (by decide +kernel) rfl, tb_t 16 (by decide +kernel) rfl⟩
theorem mi_T_ring : MIs y_T_ring 2 b_T_ring 2 (some .int) := ⟨⟨⟨by decide +kernel, by decide +kernel, by decide +kernel⟩, tb_t 60 (by decide +kernel) rfl, tb_t 488 (by decide +kernel) rfl⟩, tb_t 487 (by decide +kernel) rfl⟩
theorem mi_T_divides : MIs y_T_divides 3 b_T_divides 3 (some .boolean) := ⟨⟨⟨by decide +kernel, by decide +kernel, by decide +kernel⟩, tb_t 60 (by decide +kernel) rfl, tb_t 485 (by decide +kernel) rfl⟩, tb_t 484 (by decide +kernel) rfl⟩
theorem mi_T_touch : MIs y_T_touch 3 b_T_touch 3 (some .boolean) := ⟨⟨⟨by decide +kernel, by decide +kernel, by decide +kernel⟩, tb_t 60 (by decide +kernel) rfl, tb_t 491 (by decide +kernel) rfl⟩, tb_t 490 (by decide +kernel) rfl⟩
theorem mi_T_canBe : MIs y_T_canBe 3 b_T_canBe 3 (some .boolean) := ⟨⟨⟨by decide +kernel, by decide +kernel, by decide +kernel⟩, tb_t 60 (by decide +kernel) rfl, tb_t 504 (by decide +kernel) rfl⟩, tb_t 503 (by decide +kernel) rfl⟩
theorem mi_T_teethTogether : MIs y_T_teethTogether 3 b_T_teethTogether 3 (some .int) := ⟨⟨⟨by decide +kernel, by decide +kernel, by decide +kernel⟩, tb_t 60 (by decide +kernel) rfl, tb_t 551 (by decide +kernel) rfl⟩, tb_t 550 (by decide +kernel) rfl⟩
theorem mi_T_mostPlanets : MIs y_T_mostPlanets 2 b_T_mostPlanets 3 (some .int) := ⟨⟨⟨by decide +kernel, by decide +kernel, by decide +kernel⟩, tb_t 60 (by decide +kernel) rfl, tb_t 501 (by decide +kernel) rfl⟩, tb_t 500 (by decide +kernel) rfl⟩
theorem mi_T_sine : MIs y_T_sine 1 b_T_sine 1 (some .int) := ⟨⟨⟨by decide +kernel, by decide +kernel, by decide +kernel⟩, tb_t 60 (by decide +kernel) rfl, tb_t 494 (by decide +kernel) rfl⟩, tb_t 493 (by decide +kernel) rfl⟩
theorem mi_T_ratioPart : MIs y_T_ratioPart 5 b_T_ratioPart 8 (some .long) := ⟨⟨⟨by decide +kernel, by decide +kernel, by decide +kernel⟩, tb_t 60 (by decide +kernel) rfl, tb_t 513 (by decide +kernel) rfl⟩, tb_t 512 (by decide +kernel) rfl⟩
theorem mi_T_weight : MIs y_T_weight 3 b_T_weight 3 (some .int) := ⟨⟨⟨by decide +kernel, by decide +kernel, by decide +kernel⟩, tb_t 60 (by decide +kernel) rfl, tb_t 516 (by decide +kernel) rfl⟩, tb_t 515 (by decide +kernel) rfl⟩
theorem mi_X_init : MI y_X_init 0 b_X_init 1 none ∧ Cond.instanceMethod y_X_init ∈ TB := ⟨⟨⟨by decide +kernel, by decide +kernel, by decide +kernel⟩, tb_t 55 (by decide +kernel) rfl, tb_t 109 (by decide +kernel) rfl⟩, tb_t 108 (by decide +kernel) rfl⟩
theorem mi_X_append : MIv y_X_append 1 b_X_append 2 (some .int) := ⟨⟨⟨by decide +kernel, by decide +kernel, by decide +kernel⟩, tb_t 55 (by decide +kernel) rfl, tb_t 563 (by decide +kernel) rfl⟩, tb_t 561 (by decide +kernel) rfl, tb_t 562 (by decide +kernel) rfl⟩
theorem mi_X_length : MIv y_X_length 0 b_X_length 1 (some .int) := ⟨⟨⟨by decide +kernel, by decide +kernel, by decide +kernel⟩, tb_t 55 (by decide +kernel) rfl, tb_t 721 (by decide +kernel) rfl⟩, tb_t 719 (by decide +kernel) rfl, tb_t 720 (by decide +kernel) rfl⟩
theorem mi_X_empty : MIv y_X_empty 0 b_X_empty 1 none := ⟨⟨⟨by decide +kernel, by decide +kernel, by decide +kernel⟩, tb_t 55 (by decide +kernel) rfl, tb_t 603 (by decide +kernel) rfl⟩, tb_t 601 (by decide +kernel) rfl, tb_t 602 (by decide +kernel) rfl⟩
theorem mi_X_acts : MIv y_X_acts 0 b_X_acts 1 (some .int) := ⟨⟨⟨by decide +kernel, by decide +kernel, by decide +kernel⟩, tb_t 55 (by decide +kernel) rfl, tb_t 623 (by decide +kernel) rfl⟩, tb_t 621 (by decide +kernel) rfl, tb_t 622 (by decide +kernel) rfl⟩
theorem mi_X_letterOf : MIv y_X_letterOf 1 b_X_letterOf 2 (some .int) := ⟨⟨⟨by decide +kernel, by decide +kernel, by decide +kernel⟩, tb_t 55 (by decide +kernel) rfl, tb_t 627 (by decide +kernel) rfl⟩, tb_t 625 (by decide +kernel) rfl, tb_t 626 (by decide +kernel) rfl⟩
theorem mi_X_firstOf : MIv y_X_firstOf 1 b_X_firstOf 2 (some .int) := ⟨⟨⟨by decide +kernel, by decide +kernel, by decide +kernel⟩, tb_t 55 (by decide +kernel) rfl, tb_t 631 (by decide +kernel) rfl⟩, tb_t 629 (by decide +kernel) rfl, tb_t 630 (by decide +kernel) rfl⟩
theorem mi_X_secondOf : MIv y_X_secondOf 1 b_X_secondOf 2 (some .int) := ⟨⟨⟨by decide +kernel, by decide +kernel, by decide +kernel⟩, tb_t 55 (by decide +kernel) rfl, tb_t 635 (by decide +kernel) rfl⟩, tb_t 633 (by decide +kernel) rfl, tb_t 634 (by decide +kernel) rfl⟩
theorem mi_X_parse : MIv y_X_parse 0 b_X_parse 2 (some .int) := ⟨⟨⟨by decide +kernel, by decide +kernel, by decide +kernel⟩, tb_t 55 (by decide +kernel) rfl, tb_t 574 (by decide +kernel) rfl⟩, tb_t 572 (by decide +kernel) rfl, tb_t 573 (by decide +kernel) rfl⟩
theorem mi_X_parseAct : MIv y_X_parseAct 0 b_X_parseAct 4 (some .boolean) := ⟨⟨⟨by decide +kernel, by decide +kernel, by decide +kernel⟩, tb_t 55 (by decide +kernel) rfl, tb_t 579 (by decide +kernel) rfl⟩, tb_t 578 (by decide +kernel) rfl, tb_t 17 (by decide +kernel) rfl⟩
theorem mi_X_parseNumber : MIv y_X_parseNumber 1 b_X_parseNumber 5 (some .boolean) := ⟨⟨⟨by decide +kernel, by decide +kernel, by decide +kernel⟩, tb_t 55 (by decide +kernel) rfl, tb_t 596 (by decide +kernel) rfl⟩, tb_t 595 (by decide +kernel) rfl, tb_t 20 (by decide +kernel) rfl⟩
theorem mi_X_next : MIv y_X_next 0 b_X_next 1 (some .int) := ⟨⟨⟨by decide +kernel, by decide +kernel, by decide +kernel⟩, tb_t 55 (by decide +kernel) rfl, tb_t 583 (by decide +kernel) rfl⟩, tb_t 582 (by decide +kernel) rfl, tb_t 18 (by decide +kernel) rfl⟩
theorem mi_X_skip : MIv y_X_skip 1 b_X_skip 3 (some .boolean) := ⟨⟨⟨by decide +kernel, by decide +kernel, by decide +kernel⟩, tb_t 55 (by decide +kernel) rfl, tb_t 592 (by decide +kernel) rfl⟩, tb_t 591 (by decide +kernel) rfl, tb_t 19 (by decide +kernel) rfl⟩
theorem mi_X_isLetter : MIs y_X_isLetter 1 b_X_isLetter 1 (some .boolean) := ⟨⟨⟨by decide +kernel, by decide +kernel, by decide +kernel⟩, tb_t 55 (by decide +kernel) rfl, tb_t 588 (by decide +kernel) rfl⟩, tb_t 587 (by decide +kernel) rfl⟩
theorem mi_X_isFigure : MIs y_X_isFigure 1 b_X_isFigure 1 (some .boolean) := ⟨⟨⟨by decide +kernel, by decide +kernel, by decide +kernel⟩, tb_t 55 (by decide +kernel) rfl, tb_t 599 (by decide +kernel) rfl⟩, tb_t 598 (by decide +kernel) rfl⟩
theorem mi_P_init : MI y_P_init 0 b_P_init 1 none ∧ Cond.instanceMethod y_P_init ∈ TB := ⟨⟨⟨by decide +kernel, by decide +kernel, by decide +kernel⟩, tb_t 52 (by decide +kernel) rfl, tb_t 65 (by decide +kernel) rfl⟩, tb_t 64 (by decide +kernel) rfl⟩
theorem mi_P_wheel : MIv y_P_wheel 1 b_P_wheel 2 (some .int) := ⟨⟨⟨by decide +kernel, by decide +kernel, by decide +kernel⟩, tb_t 52 (by decide +kernel) rfl, tb_t 200 (by decide +kernel) rfl⟩, tb_t 198 (by decide +kernel) rfl, tb_t 199 (by decide +kernel) rfl⟩
theorem mi_P_shift : MIv y_P_shift 2 b_P_shift 3 (some .int) := ⟨⟨⟨by decide +kernel, by decide +kernel, by decide +kernel⟩, tb_t 52 (by decide +kernel) rfl, tb_t 226 (by decide +kernel) rfl⟩, tb_t 224 (by decide +kernel) rfl, tb_t 225 (by decide +kernel) rfl⟩
theorem mi_P_pressure : MIv y_P_pressure 1 b_P_pressure 2 (some .int) := ⟨⟨⟨by decide +kernel, by decide +kernel, by decide +kernel⟩, tb_t 52 (by decide +kernel) rfl, tb_t 249 (by decide +kernel) rfl⟩, tb_t 247 (by decide +kernel) rfl, tb_t 248 (by decide +kernel) rfl⟩
theorem mi_P_of : MIv y_P_of 2 b_P_of 3 (some .int) := ⟨⟨⟨by decide +kernel, by decide +kernel, by decide +kernel⟩, tb_t 52 (by decide +kernel) rfl, tb_t 257 (by decide +kernel) rfl⟩, tb_t 255 (by decide +kernel) rfl, tb_t 256 (by decide +kernel) rfl⟩
theorem mi_P_fewest : MIv y_P_fewest 1 b_P_fewest 2 (some .int) := ⟨⟨⟨by decide +kernel, by decide +kernel, by decide +kernel⟩, tb_t 52 (by decide +kernel) rfl, tb_t 297 (by decide +kernel) rfl⟩, tb_t 295 (by decide +kernel) rfl, tb_t 296 (by decide +kernel) rfl⟩
theorem mi_P_distance : MIv y_P_distance 3 b_P_distance 4 (some .long) := ⟨⟨⟨by decide +kernel, by decide +kernel, by decide +kernel⟩, tb_t 52 (by decide +kernel) rfl, tb_t 306 (by decide +kernel) rfl⟩, tb_t 304 (by decide +kernel) rfl, tb_t 305 (by decide +kernel) rfl⟩
theorem mi_P_ratio : MIv y_P_ratio 3 b_P_ratio 4 (some .long) := ⟨⟨⟨by decide +kernel, by decide +kernel, by decide +kernel⟩, tb_t 52 (by decide +kernel) rfl, tb_t 349 (by decide +kernel) rfl⟩, tb_t 347 (by decide +kernel) rfl, tb_t 348 (by decide +kernel) rfl⟩
theorem mi_P_contact : MIv y_P_contact 3 b_P_contact 4 (some .long) := ⟨⟨⟨by decide +kernel, by decide +kernel, by decide +kernel⟩, tb_t 52 (by decide +kernel) rfl, tb_t 361 (by decide +kernel) rfl⟩, tb_t 359 (by decide +kernel) rfl, tb_t 360 (by decide +kernel) rfl⟩
theorem mi_P_shiftFor : MIv y_P_shiftFor 4 b_P_shiftFor 5 (some .int) := ⟨⟨⟨by decide +kernel, by decide +kernel, by decide +kernel⟩, tb_t 52 (by decide +kernel) rfl, tb_t 399 (by decide +kernel) rfl⟩, tb_t 397 (by decide +kernel) rfl, tb_t 398 (by decide +kernel) rfl⟩
theorem mi_P_wheels : MIv y_P_wheels 1 b_P_wheels 2 (some .int) := ⟨⟨⟨by decide +kernel, by decide +kernel, by decide +kernel⟩, tb_t 52 (by decide +kernel) rfl, tb_t 407 (by decide +kernel) rfl⟩, tb_t 405 (by decide +kernel) rfl, tb_t 406 (by decide +kernel) rfl⟩
theorem mi_P_pair : MIv y_P_pair 2 b_P_pair 3 (some .int) := ⟨⟨⟨by decide +kernel, by decide +kernel, by decide +kernel⟩, tb_t 52 (by decide +kernel) rfl, tb_t 423 (by decide +kernel) rfl⟩, tb_t 421 (by decide +kernel) rfl, tb_t 422 (by decide +kernel) rfl⟩
theorem mi_P_clear : MIv y_P_clear 0 b_P_clear 1 (some .int) := ⟨⟨⟨by decide +kernel, by decide +kernel, by decide +kernel⟩, tb_t 52 (by decide +kernel) rfl, tb_t 432 (by decide +kernel) rfl⟩, tb_t 430 (by decide +kernel) rfl, tb_t 431 (by decide +kernel) rfl⟩
theorem mi_P_train : MIv y_P_train 1 b_P_train 2 (some .long) := ⟨⟨⟨by decide +kernel, by decide +kernel, by decide +kernel⟩, tb_t 52 (by decide +kernel) rfl, tb_t 444 (by decide +kernel) rfl⟩, tb_t 442 (by decide +kernel) rfl, tb_t 443 (by decide +kernel) rfl⟩
theorem mi_P_faulty : MIv y_P_faulty 0 b_P_faulty 1 (some .int) := ⟨⟨⟨by decide +kernel, by decide +kernel, by decide +kernel⟩, tb_t 52 (by decide +kernel) rfl, tb_t 464 (by decide +kernel) rfl⟩, tb_t 462 (by decide +kernel) rfl, tb_t 463 (by decide +kernel) rfl⟩
theorem mi_P_closest : MIv y_P_closest 1 b_P_closest 3 (some .long) := ⟨⟨⟨by decide +kernel, by decide +kernel, by decide +kernel⟩, tb_t 52 (by decide +kernel) rfl, tb_t 468 (by decide +kernel) rfl⟩, tb_t 466 (by decide +kernel) rfl, tb_t 467 (by decide +kernel) rfl⟩
theorem mi_P_together : MIv y_P_together 3 b_P_together 6 (some .int) := ⟨⟨⟨by decide +kernel, by decide +kernel, by decide +kernel⟩, tb_t 52 (by decide +kernel) rfl, tb_t 482 (by decide +kernel) rfl⟩, tb_t 480 (by decide +kernel) rfl, tb_t 481 (by decide +kernel) rfl⟩
theorem mi_P_most : MIv y_P_most 2 b_P_most 3 (some .int) := ⟨⟨⟨by decide +kernel, by decide +kernel, by decide +kernel⟩, tb_t 52 (by decide +kernel) rfl, tb_t 498 (by decide +kernel) rfl⟩, tb_t 496 (by decide +kernel) rfl, tb_t 497 (by decide +kernel) rfl⟩
theorem mi_P_planets : MIv y_P_planets 5 b_P_planets 8 (some .long) := ⟨⟨⟨by decide +kernel, by decide +kernel, by decide +kernel⟩, tb_t 52 (by decide +kernel) rfl, tb_t 510 (by decide +kernel) rfl⟩, tb_t 508 (by decide +kernel) rfl, tb_t 509 (by decide +kernel) rfl⟩
theorem mi_P_searched : MIv y_P_searched 5 b_P_searched 6 (some .int) := ⟨⟨⟨by decide +kernel, by decide +kernel, by decide +kernel⟩, tb_t 52 (by decide +kernel) rfl, tb_t 522 (by decide +kernel) rfl⟩, tb_t 520 (by decide +kernel) rfl, tb_t 521 (by decide +kernel) rfl⟩
theorem mi_P_feed : MIv y_P_feed 1 b_P_feed 2 (some .int) := ⟨⟨⟨by decide +kernel, by decide +kernel, by decide +kernel⟩, tb_t 52 (by decide +kernel) rfl, tb_t 559 (by decide +kernel) rfl⟩, tb_t 557 (by decide +kernel) rfl, tb_t 558 (by decide +kernel) rfl⟩
theorem mi_P_read : MIv y_P_read 0 b_P_read 2 (some .int) := ⟨⟨⟨by decide +kernel, by decide +kernel, by decide +kernel⟩, tb_t 52 (by decide +kernel) rfl, tb_t 570 (by decide +kernel) rfl⟩, tb_t 568 (by decide +kernel) rfl, tb_t 569 (by decide +kernel) rfl⟩
theorem mi_P_doActs : MIv y_P_doActs 0 b_P_doActs 2 (some .int) := ⟨⟨⟨by decide +kernel, by decide +kernel, by decide +kernel⟩, tb_t 52 (by decide +kernel) rfl, tb_t 607 (by decide +kernel) rfl⟩, tb_t 606 (by decide +kernel) rfl, tb_t 21 (by decide +kernel) rfl⟩
theorem mi_P_row : MIv y_P_row 2 b_P_row 4 (some .int) := ⟨⟨⟨by decide +kernel, by decide +kernel, by decide +kernel⟩, tb_t 52 (by decide +kernel) rfl, tb_t 648 (by decide +kernel) rfl⟩, tb_t 646 (by decide +kernel) rfl, tb_t 647 (by decide +kernel) rfl⟩
theorem mi_P_put : MIv y_P_put 3 b_P_put 6 (some .int) := ⟨⟨⟨by decide +kernel, by decide +kernel, by decide +kernel⟩, tb_t 52 (by decide +kernel) rfl, tb_t 660 (by decide +kernel) rfl⟩, tb_t 658 (by decide +kernel) rfl, tb_t 659 (by decide +kernel) rfl⟩
theorem mi_P_get : MIv y_P_get 2 b_P_get 4 (some .long) := ⟨⟨⟨by decide +kernel, by decide +kernel, by decide +kernel⟩, tb_t 52 (by decide +kernel) rfl, tb_t 676 (by decide +kernel) rfl⟩, tb_t 674 (by decide +kernel) rfl, tb_t 675 (by decide +kernel) rfl⟩
theorem mi_P_lay : MIv y_P_lay 1 b_P_lay 5 (some .int) := ⟨⟨⟨by decide +kernel, by decide +kernel, by decide +kernel⟩, tb_t 52 (by decide +kernel) rfl, tb_t 686 (by decide +kernel) rfl⟩, tb_t 684 (by decide +kernel) rfl, tb_t 685 (by decide +kernel) rfl⟩
theorem mi_P_judge : MIv y_P_judge 1 b_P_judge 4 (some .int) := ⟨⟨⟨by decide +kernel, by decide +kernel, by decide +kernel⟩, tb_t 52 (by decide +kernel) rfl, tb_t 705 (by decide +kernel) rfl⟩, tb_t 703 (by decide +kernel) rfl, tb_t 704 (by decide +kernel) rfl⟩
theorem mi_P_image : MIv y_P_image 0 b_P_image 1 (some .int) := ⟨⟨⟨by decide +kernel, by decide +kernel, by decide +kernel⟩, tb_t 52 (by decide +kernel) rfl, tb_t 709 (by decide +kernel) rfl⟩, tb_t 707 (by decide +kernel) rfl, tb_t 708 (by decide +kernel) rfl⟩
theorem mi_P_undo : MIv y_P_undo 0 b_P_undo 1 (some .int) := ⟨⟨⟨by decide +kernel, by decide +kernel, by decide +kernel⟩, tb_t 52 (by decide +kernel) rfl, tb_t 713 (by decide +kernel) rfl⟩, tb_t 711 (by decide +kernel) rfl, tb_t 712 (by decide +kernel) rfl⟩
theorem mi_P_count : MIv y_P_count 1 b_P_count 2 (some .int) := ⟨⟨⟨by decide +kernel, by decide +kernel, by decide +kernel⟩, tb_t 52 (by decide +kernel) rfl, tb_t 717 (by decide +kernel) rfl⟩, tb_t 715 (by decide +kernel) rfl, tb_t 716 (by decide +kernel) rfl⟩
theorem mi_P_rowAt : MIv y_P_rowAt 1 b_P_rowAt 2 (some (.object "PinionBench$Row")) := ⟨⟨⟨by decide +kernel, by decide +kernel, by decide +kernel⟩, tb_t 52 (by decide +kernel) rfl, tb_t 652 (by decide +kernel) rfl⟩, tb_t 651 (by decide +kernel) rfl, tb_t 22 (by decide +kernel) rfl⟩
theorem mi_P_isOutward : MIs y_P_isOutward 1 b_P_isOutward 1 (some .boolean) := ⟨⟨⟨by decide +kernel, by decide +kernel, by decide +kernel⟩, tb_t 52 (by decide +kernel) rfl, tb_t 210 (by decide +kernel) rfl⟩, tb_t 209 (by decide +kernel) rfl⟩
theorem mi_P_isTeeth : MIs y_P_isTeeth 1 b_P_isTeeth 1 (some .boolean) := ⟨⟨⟨by decide +kernel, by decide +kernel, by decide +kernel⟩, tb_t 52 (by decide +kernel) rfl, tb_t 207 (by decide +kernel) rfl⟩, tb_t 206 (by decide +kernel) rfl⟩
theorem mi_P_isShift : MIs y_P_isShift 1 b_P_isShift 1 (some .boolean) := ⟨⟨⟨by decide +kernel, by decide +kernel, by decide +kernel⟩, tb_t 52 (by decide +kernel) rfl, tb_t 237 (by decide +kernel) rfl⟩, tb_t 236 (by decide +kernel) rfl⟩
theorem mi_P_isPart : MIs y_P_isPart 1 b_P_isPart 1 (some .boolean) := ⟨⟨⟨by decide +kernel, by decide +kernel, by decide +kernel⟩, tb_t 52 (by decide +kernel) rfl, tb_t 309 (by decide +kernel) rfl⟩, tb_t 308 (by decide +kernel) rfl⟩
theorem mi_P_partOf : MIs y_P_partOf 3 b_P_partOf 9 (some .long) := ⟨⟨⟨by decide +kernel, by decide +kernel, by decide +kernel⟩, tb_t 52 (by decide +kernel) rfl, tb_t 339 (by decide +kernel) rfl⟩, tb_t 338 (by decide +kernel) rfl⟩
theorem mi_P_commonDivisor : MIs y_P_commonDivisor 2 b_P_commonDivisor 11 (some .long) := ⟨⟨⟨by decide +kernel, by decide +kernel, by decide +kernel⟩, tb_t 52 (by decide +kernel) rfl, tb_t 345 (by decide +kernel) rfl⟩, tb_t 344 (by decide +kernel) rfl⟩
theorem mi_P_root : MIs y_P_root 1 b_P_root 7 (some .long) := ⟨⟨⟨by decide +kernel, by decide +kernel, by decide +kernel⟩, tb_t 52 (by decide +kernel) rfl, tb_t 375 (by decide +kernel) rfl⟩, tb_t 374 (by decide +kernel) rfl⟩
theorem mi_M_init : MI y_M_init 0 b_M_init 1 none ∧ Cond.instanceMethod y_M_init ∈ TB := ⟨⟨⟨by decide +kernel, by decide +kernel, by decide +kernel⟩, tb_t 58 (by decide +kernel) rfl, tb_t 737 (by decide +kernel) rfl⟩, tb_t 736 (by decide +kernel) rfl⟩
theorem mi_M_in : MIs y_M_in 3 b_M_in 6 (some .boolean) := ⟨⟨⟨by decide +kernel, by decide +kernel, by decide +kernel⟩, tb_t 58 (by decide +kernel) rfl, tb_t 808 (by decide +kernel) rfl⟩, tb_t 807 (by decide +kernel) rfl⟩
theorem mi_M_copies : MIs y_M_copies 2 b_M_copies 3 none := ⟨⟨⟨by decide +kernel, by decide +kernel, by decide +kernel⟩, tb_t 58 (by decide +kernel) rfl, tb_t 1037 (by decide +kernel) rfl⟩, tb_t 1036 (by decide +kernel) rfl⟩
theorem mi_M_isWheel : MIv y_M_isWheel 1 b_M_isWheel 2 (some .boolean) := ⟨⟨⟨by decide +kernel, by decide +kernel, by decide +kernel⟩, tb_t 58 (by decide +kernel) rfl, tb_t 818 (by decide +kernel) rfl⟩, tb_t 817 (by decide +kernel) rfl, tb_t 23 (by decide +kernel) rfl⟩
theorem mi_M_teeth : MIv y_M_teeth 1 b_M_teeth 2 (some .int) := ⟨⟨⟨by decide +kernel, by decide +kernel, by decide +kernel⟩, tb_t 58 (by decide +kernel) rfl, tb_t 837 (by decide +kernel) rfl⟩, tb_t 836 (by decide +kernel) rfl, tb_t 25 (by decide +kernel) rfl⟩
theorem mi_M_isRing : MIv y_M_isRing 1 b_M_isRing 2 (some .boolean) := ⟨⟨⟨by decide +kernel, by decide +kernel, by decide +kernel⟩, tb_t 58 (by decide +kernel) rfl, tb_t 845 (by decide +kernel) rfl⟩, tb_t 844 (by decide +kernel) rfl, tb_t 27 (by decide +kernel) rfl⟩
theorem mi_M_size : MIv y_M_size 1 b_M_size 2 (some .int) := ⟨⟨⟨by decide +kernel, by decide +kernel, by decide +kernel⟩, tb_t 58 (by decide +kernel) rfl, tb_t 895 (by decide +kernel) rfl⟩, tb_t 894 (by decide +kernel) rfl, tb_t 36 (by decide +kernel) rfl⟩
theorem mi_M_becomes : MIv y_M_becomes 2 b_M_becomes 4 (some .int) := ⟨⟨⟨by decide +kernel, by decide +kernel, by decide +kernel⟩, tb_t 58 (by decide +kernel) rfl, tb_t 824 (by decide +kernel) rfl⟩, tb_t 823 (by decide +kernel) rfl, tb_t 24 (by decide +kernel) rfl⟩
theorem mi_M_wheel : MIv y_M_wheel 1 b_M_wheel 3 (some .int) := ⟨⟨⟨by decide +kernel, by decide +kernel, by decide +kernel⟩, tb_t 58 (by decide +kernel) rfl, tb_t 803 (by decide +kernel) rfl⟩, tb_t 801 (by decide +kernel) rfl, tb_t 802 (by decide +kernel) rfl⟩
theorem mi_M_shift : MIv y_M_shift 2 b_M_shift 3 (some .int) := ⟨⟨⟨by decide +kernel, by decide +kernel, by decide +kernel⟩, tb_t 58 (by decide +kernel) rfl, tb_t 814 (by decide +kernel) rfl⟩, tb_t 812 (by decide +kernel) rfl, tb_t 813 (by decide +kernel) rfl⟩
theorem mi_M_pressure : MIv y_M_pressure 1 b_M_pressure 2 (some .int) := ⟨⟨⟨by decide +kernel, by decide +kernel, by decide +kernel⟩, tb_t 58 (by decide +kernel) rfl, tb_t 828 (by decide +kernel) rfl⟩, tb_t 826 (by decide +kernel) rfl, tb_t 827 (by decide +kernel) rfl⟩
theorem mi_M_square : MIv y_M_square 0 b_M_square 1 (some .int) := ⟨⟨⟨by decide +kernel, by decide +kernel, by decide +kernel⟩, tb_t 58 (by decide +kernel) rfl, tb_t 853 (by decide +kernel) rfl⟩, tb_t 852 (by decide +kernel) rfl, tb_t 29 (by decide +kernel) rfl⟩
theorem mi_M_isCut : MIv y_M_isCut 2 b_M_isCut 3 (some .boolean) := ⟨⟨⟨by decide +kernel, by decide +kernel, by decide +kernel⟩, tb_t 58 (by decide +kernel) rfl, tb_t 849 (by decide +kernel) rfl⟩, tb_t 848 (by decide +kernel) rfl, tb_t 28 (by decide +kernel) rfl⟩
theorem mi_M_isUndercut : MIv y_M_isUndercut 1 b_M_isUndercut 2 (some .boolean) := ⟨⟨⟨by decide +kernel, by decide +kernel, by decide +kernel⟩, tb_t 58 (by decide +kernel) rfl, tb_t 841 (by decide +kernel) rfl⟩, tb_t 840 (by decide +kernel) rfl, tb_t 26 (by decide +kernel) rfl⟩
theorem mi_M_isPointed : MIv y_M_isPointed 1 b_M_isPointed 2 (some .boolean) := ⟨⟨⟨by decide +kernel, by decide +kernel, by decide +kernel⟩, tb_t 58 (by decide +kernel) rfl, tb_t 857 (by decide +kernel) rfl⟩, tb_t 856 (by decide +kernel) rfl, tb_t 30 (by decide +kernel) rfl⟩
theorem mi_M_leastShift : MIv y_M_leastShift 1 b_M_leastShift 3 (some .int) := ⟨⟨⟨by decide +kernel, by decide +kernel, by decide +kernel⟩, tb_t 58 (by decide +kernel) rfl, tb_t 861 (by decide +kernel) rfl⟩, tb_t 860 (by decide +kernel) rfl, tb_t 31 (by decide +kernel) rfl⟩
theorem mi_M_pairsWith : MIv y_M_pairsWith 1 b_M_pairsWith 4 (some .int) := ⟨⟨⟨by decide +kernel, by decide +kernel, by decide +kernel⟩, tb_t 58 (by decide +kernel) rfl, tb_t 865 (by decide +kernel) rfl⟩, tb_t 864 (by decide +kernel) rfl, tb_t 32 (by decide +kernel) rfl⟩
theorem mi_M_of : MIv y_M_of 2 b_M_of 3 (some .int) := ⟨⟨⟨by decide +kernel, by decide +kernel, by decide +kernel⟩, tb_t 58 (by decide +kernel) rfl, tb_t 833 (by decide +kernel) rfl⟩, tb_t 831 (by decide +kernel) rfl, tb_t 832 (by decide +kernel) rfl⟩
theorem mi_M_fewest : MIv y_M_fewest 1 b_M_fewest 3 (some .int) := ⟨⟨⟨by decide +kernel, by decide +kernel, by decide +kernel⟩, tb_t 58 (by decide +kernel) rfl, tb_t 869 (by decide +kernel) rfl⟩, tb_t 867 (by decide +kernel) rfl, tb_t 868 (by decide +kernel) rfl⟩
theorem mi_M_isFirst : MIv y_M_isFirst 1 b_M_isFirst 4 (some .boolean) := ⟨⟨⟨by decide +kernel, by decide +kernel, by decide +kernel⟩, tb_t 58 (by decide +kernel) rfl, tb_t 878 (by decide +kernel) rfl⟩, tb_t 877 (by decide +kernel) rfl, tb_t 33 (by decide +kernel) rfl⟩
theorem mi_M_wheels : MIv y_M_wheels 1 b_M_wheels 5 (some .int) := ⟨⟨⟨by decide +kernel, by decide +kernel, by decide +kernel⟩, tb_t 58 (by decide +kernel) rfl, tb_t 873 (by decide +kernel) rfl⟩, tb_t 871 (by decide +kernel) rfl, tb_t 872 (by decide +kernel) rfl⟩
theorem mi_M_isPair : MIv y_M_isPair 2 b_M_isPair 3 (some .boolean) := ⟨⟨⟨by decide +kernel, by decide +kernel, by decide +kernel⟩, tb_t 58 (by decide +kernel) rfl, tb_t 886 (by decide +kernel) rfl⟩, tb_t 885 (by decide +kernel) rfl, tb_t 34 (by decide +kernel) rfl⟩
theorem mi_M_clashes : MIv y_M_clashes 2 b_M_clashes 5 (some .boolean) := ⟨⟨⟨by decide +kernel, by decide +kernel, by decide +kernel⟩, tb_t 58 (by decide +kernel) rfl, tb_t 891 (by decide +kernel) rfl⟩, tb_t 890 (by decide +kernel) rfl, tb_t 35 (by decide +kernel) rfl⟩
theorem mi_M_hundredths : MIv y_M_hundredths 2 b_M_hundredths 5 (some .int) := ⟨⟨⟨by decide +kernel, by decide +kernel, by decide +kernel⟩, tb_t 58 (by decide +kernel) rfl, tb_t 900 (by decide +kernel) rfl⟩, tb_t 899 (by decide +kernel) rfl, tb_t 37 (by decide +kernel) rfl⟩
theorem mi_M_lays : MIv y_M_lays 2 b_M_lays 11 none := ⟨⟨⟨by decide +kernel, by decide +kernel, by decide +kernel⟩, tb_t 58 (by decide +kernel) rfl, tb_t 904 (by decide +kernel) rfl⟩, tb_t 903 (by decide +kernel) rfl, tb_t 38 (by decide +kernel) rfl⟩
theorem mi_M_part : MIv y_M_part 1 b_M_part 2 (some .long) := ⟨⟨⟨by decide +kernel, by decide +kernel, by decide +kernel⟩, tb_t 58 (by decide +kernel) rfl, tb_t 908 (by decide +kernel) rfl⟩, tb_t 907 (by decide +kernel) rfl, tb_t 39 (by decide +kernel) rfl⟩
theorem mi_M_distance : MIv y_M_distance 3 b_M_distance 4 (some .long) := ⟨⟨⟨by decide +kernel, by decide +kernel, by decide +kernel⟩, tb_t 58 (by decide +kernel) rfl, tb_t 882 (by decide +kernel) rfl⟩, tb_t 880 (by decide +kernel) rfl, tb_t 881 (by decide +kernel) rfl⟩
theorem mi_M_sign : MIv y_M_sign 2 b_M_sign 3 (some .int) := ⟨⟨⟨by decide +kernel, by decide +kernel, by decide +kernel⟩, tb_t 58 (by decide +kernel) rfl, tb_t 916 (by decide +kernel) rfl⟩, tb_t 915 (by decide +kernel) rfl, tb_t 40 (by decide +kernel) rfl⟩
theorem mi_M_ratio : MIv y_M_ratio 3 b_M_ratio 4 (some .long) := ⟨⟨⟨by decide +kernel, by decide +kernel, by decide +kernel⟩, tb_t 58 (by decide +kernel) rfl, tb_t 912 (by decide +kernel) rfl⟩, tb_t 910 (by decide +kernel) rfl, tb_t 911 (by decide +kernel) rfl⟩
theorem mi_M_root : MIs y_M_root 1 b_M_root 8 (some .long) := ⟨⟨⟨by decide +kernel, by decide +kernel, by decide +kernel⟩, tb_t 58 (by decide +kernel) rfl, tb_t 924 (by decide +kernel) rfl⟩, tb_t 923 (by decide +kernel) rfl⟩
theorem mi_M_reach : MIv y_M_reach 1 b_M_reach 8 (some .long) := ⟨⟨⟨by decide +kernel, by decide +kernel, by decide +kernel⟩, tb_t 58 (by decide +kernel) rfl, tb_t 929 (by decide +kernel) rfl⟩, tb_t 928 (by decide +kernel) rfl, tb_t 41 (by decide +kernel) rfl⟩
theorem mi_M_contact : MIv y_M_contact 3 b_M_contact 14 (some .long) := ⟨⟨⟨by decide +kernel, by decide +kernel, by decide +kernel⟩, tb_t 58 (by decide +kernel) rfl, tb_t 920 (by decide +kernel) rfl⟩, tb_t 918 (by decide +kernel) rfl, tb_t 919 (by decide +kernel) rfl⟩
theorem mi_M_shiftFor : MIv y_M_shiftFor 4 b_M_shiftFor 8 (some .int) := ⟨⟨⟨by decide +kernel, by decide +kernel, by decide +kernel⟩, tb_t 58 (by decide +kernel) rfl, tb_t 939 (by decide +kernel) rfl⟩, tb_t 937 (by decide +kernel) rfl, tb_t 938 (by decide +kernel) rfl⟩
theorem mi_M_pair : MIv y_M_pair 2 b_M_pair 3 (some .int) := ⟨⟨⟨by decide +kernel, by decide +kernel, by decide +kernel⟩, tb_t 58 (by decide +kernel) rfl, tb_t 944 (by decide +kernel) rfl⟩, tb_t 942 (by decide +kernel) rfl, tb_t 943 (by decide +kernel) rfl⟩
theorem mi_M_clear : MIv y_M_clear 0 b_M_clear 1 (some .int) := ⟨⟨⟨by decide +kernel, by decide +kernel, by decide +kernel⟩, tb_t 58 (by decide +kernel) rfl, tb_t 948 (by decide +kernel) rfl⟩, tb_t 946 (by decide +kernel) rfl, tb_t 947 (by decide +kernel) rfl⟩
theorem mi_M_faulty : MIv y_M_faulty 0 b_M_faulty 2 (some .int) := ⟨⟨⟨by decide +kernel, by decide +kernel, by decide +kernel⟩, tb_t 58 (by decide +kernel) rfl, tb_t 952 (by decide +kernel) rfl⟩, tb_t 950 (by decide +kernel) rfl, tb_t 951 (by decide +kernel) rfl⟩
theorem mi_M_train : MIv y_M_train 1 b_M_train 9 (some .long) := ⟨⟨⟨by decide +kernel, by decide +kernel, by decide +kernel⟩, tb_t 58 (by decide +kernel) rfl, tb_t 956 (by decide +kernel) rfl⟩, tb_t 954 (by decide +kernel) rfl, tb_t 955 (by decide +kernel) rfl⟩
theorem mi_M_closest : MIv y_M_closest 1 b_M_closest 4 (some .long) := ⟨⟨⟨by decide +kernel, by decide +kernel, by decide +kernel⟩, tb_t 58 (by decide +kernel) rfl, tb_t 961 (by decide +kernel) rfl⟩, tb_t 959 (by decide +kernel) rfl, tb_t 960 (by decide +kernel) rfl⟩
theorem mi_M_areSet : MIs y_M_areSet 2 b_M_areSet 2 (some .boolean) := ⟨⟨⟨by decide +kernel, by decide +kernel, by decide +kernel⟩, tb_t 58 (by decide +kernel) rfl, tb_t 968 (by decide +kernel) rfl⟩, tb_t 967 (by decide +kernel) rfl⟩
theorem mi_M_puts : MIv y_M_puts 3 b_M_puts 6 (some .int) := ⟨⟨⟨by decide +kernel, by decide +kernel, by decide +kernel⟩, tb_t 58 (by decide +kernel) rfl, tb_t 973 (by decide +kernel) rfl⟩, tb_t 972 (by decide +kernel) rfl, tb_t 42 (by decide +kernel) rfl⟩
theorem mi_M_together : MIv y_M_together 3 b_M_together 4 (some .int) := ⟨⟨⟨by decide +kernel, by decide +kernel, by decide +kernel⟩, tb_t 58 (by decide +kernel) rfl, tb_t 965 (by decide +kernel) rfl⟩, tb_t 963 (by decide +kernel) rfl, tb_t 964 (by decide +kernel) rfl⟩
theorem mi_M_most : MIv y_M_most 2 b_M_most 4 (some .int) := ⟨⟨⟨by decide +kernel, by decide +kernel, by decide +kernel⟩, tb_t 58 (by decide +kernel) rfl, tb_t 977 (by decide +kernel) rfl⟩, tb_t 975 (by decide +kernel) rfl, tb_t 976 (by decide +kernel) rfl⟩
theorem mi_M_planets : MIv y_M_planets 5 b_M_planets 11 (some .long) := ⟨⟨⟨by decide +kernel, by decide +kernel, by decide +kernel⟩, tb_t 58 (by decide +kernel) rfl, tb_t 981 (by decide +kernel) rfl⟩, tb_t 979 (by decide +kernel) rfl, tb_t 980 (by decide +kernel) rfl⟩
theorem mi_M_off : MIs y_M_off 4 b_M_off 6 (some .long) := ⟨⟨⟨by decide +kernel, by decide +kernel, by decide +kernel⟩, tb_t 58 (by decide +kernel) rfl, tb_t 994 (by decide +kernel) rfl⟩, tb_t 993 (by decide +kernel) rfl⟩
theorem mi_M_teethOf : MIs y_M_teethOf 3 b_M_teethOf 3 (some .int) := ⟨⟨⟨by decide +kernel, by decide +kernel, by decide +kernel⟩, tb_t 58 (by decide +kernel) rfl, tb_t 1002 (by decide +kernel) rfl⟩, tb_t 1001 (by decide +kernel) rfl⟩
theorem mi_M_searches : MIv y_M_searches 6 b_M_searches 10 none := ⟨⟨⟨by decide +kernel, by decide +kernel, by decide +kernel⟩, tb_t 58 (by decide +kernel) rfl, tb_t 991 (by decide +kernel) rfl⟩, tb_t 990 (by decide +kernel) rfl, tb_t 43 (by decide +kernel) rfl⟩
theorem mi_M_isBetter : MIv y_M_isBetter 5 b_M_isBetter 9 (some .boolean) := ⟨⟨⟨by decide +kernel, by decide +kernel, by decide +kernel⟩, tb_t 58 (by decide +kernel) rfl, tb_t 999 (by decide +kernel) rfl⟩, tb_t 998 (by decide +kernel) rfl, tb_t 44 (by decide +kernel) rfl⟩
theorem mi_M_searched : MIv y_M_searched 5 b_M_searched 10 (some .int) := ⟨⟨⟨by decide +kernel, by decide +kernel, by decide +kernel⟩, tb_t 58 (by decide +kernel) rfl, tb_t 985 (by decide +kernel) rfl⟩, tb_t 983 (by decide +kernel) rfl, tb_t 984 (by decide +kernel) rfl⟩
theorem mi_M_feed : MIv y_M_feed 1 b_M_feed 2 (some .int) := ⟨⟨⟨by decide +kernel, by decide +kernel, by decide +kernel⟩, tb_t 58 (by decide +kernel) rfl, tb_t 1006 (by decide +kernel) rfl⟩, tb_t 1004 (by decide +kernel) rfl, tb_t 1005 (by decide +kernel) rfl⟩
theorem mi_M_here : MIv y_M_here 0 b_M_here 1 (some .int) := ⟨⟨⟨by decide +kernel, by decide +kernel, by decide +kernel⟩, tb_t 58 (by decide +kernel) rfl, tb_t 1020 (by decide +kernel) rfl⟩, tb_t 1019 (by decide +kernel) rfl, tb_t 46 (by decide +kernel) rfl⟩
theorem mi_M_takes : MIv y_M_takes 1 b_M_takes 2 none := ⟨⟨⟨by decide +kernel, by decide +kernel, by decide +kernel⟩, tb_t 58 (by decide +kernel) rfl, tb_t 1024 (by decide +kernel) rfl⟩, tb_t 1023 (by decide +kernel) rfl, tb_t 47 (by decide +kernel) rfl⟩
theorem mi_M_isFigure : MIv y_M_isFigure 0 b_M_isFigure 1 (some .boolean) := ⟨⟨⟨by decide +kernel, by decide +kernel, by decide +kernel⟩, tb_t 58 (by decide +kernel) rfl, tb_t 1032 (by decide +kernel) rfl⟩, tb_t 1031 (by decide +kernel) rfl, tb_t 49 (by decide +kernel) rfl⟩
theorem mi_M_number : MIv y_M_number 1 b_M_number 5 (some .int) := ⟨⟨⟨by decide +kernel, by decide +kernel, by decide +kernel⟩, tb_t 58 (by decide +kernel) rfl, tb_t 1028 (by decide +kernel) rfl⟩, tb_t 1027 (by decide +kernel) rfl, tb_t 48 (by decide +kernel) rfl⟩
theorem mi_M_act : MIv y_M_act 1 b_M_act 3 none := ⟨⟨⟨by decide +kernel, by decide +kernel, by decide +kernel⟩, tb_t 58 (by decide +kernel) rfl, tb_t 1016 (by decide +kernel) rfl⟩, tb_t 1015 (by decide +kernel) rfl, tb_t 45 (by decide +kernel) rfl⟩
theorem mi_M_isDone : MIv y_M_isDone 1 b_M_isDone 2 (some .boolean) := ⟨⟨⟨by decide +kernel, by decide +kernel, by decide +kernel⟩, tb_t 58 (by decide +kernel) rfl, tb_t 1041 (by decide +kernel) rfl⟩, tb_t 1040 (by decide +kernel) rfl, tb_t 50 (by decide +kernel) rfl⟩
theorem mi_M_read : MIv y_M_read 0 b_M_read 5 (some .int) := ⟨⟨⟨by decide +kernel, by decide +kernel, by decide +kernel⟩, tb_t 58 (by decide +kernel) rfl, tb_t 1012 (by decide +kernel) rfl⟩, tb_t 1010 (by decide +kernel) rfl, tb_t 1011 (by decide +kernel) rfl⟩
theorem mi_M_isRow : MIs y_M_isRow 1 b_M_isRow 1 (some .boolean) := ⟨⟨⟨by decide +kernel, by decide +kernel, by decide +kernel⟩, tb_t 58 (by decide +kernel) rfl, tb_t 1053 (by decide +kernel) rfl⟩, tb_t 1052 (by decide +kernel) rfl⟩
theorem mi_M_row : MIv y_M_row 2 b_M_row 4 (some .int) := ⟨⟨⟨by decide +kernel, by decide +kernel, by decide +kernel⟩, tb_t 58 (by decide +kernel) rfl, tb_t 1050 (by decide +kernel) rfl⟩, tb_t 1048 (by decide +kernel) rfl, tb_t 1049 (by decide +kernel) rfl⟩
theorem mi_M_put : MIv y_M_put 3 b_M_put 5 (some .int) := ⟨⟨⟨by decide +kernel, by decide +kernel, by decide +kernel⟩, tb_t 58 (by decide +kernel) rfl, tb_t 1057 (by decide +kernel) rfl⟩, tb_t 1055 (by decide +kernel) rfl, tb_t 1056 (by decide +kernel) rfl⟩
theorem mi_M_get : MIv y_M_get 2 b_M_get 3 (some .long) := ⟨⟨⟨by decide +kernel, by decide +kernel, by decide +kernel⟩, tb_t 58 (by decide +kernel) rfl, tb_t 1061 (by decide +kernel) rfl⟩, tb_t 1059 (by decide +kernel) rfl, tb_t 1060 (by decide +kernel) rfl⟩
theorem mi_M_lay : MIv y_M_lay 1 b_M_lay 4 (some .int) := ⟨⟨⟨by decide +kernel, by decide +kernel, by decide +kernel⟩, tb_t 58 (by decide +kernel) rfl, tb_t 1065 (by decide +kernel) rfl⟩, tb_t 1063 (by decide +kernel) rfl, tb_t 1064 (by decide +kernel) rfl⟩
theorem mi_M_judge : MIv y_M_judge 1 b_M_judge 3 (some .int) := ⟨⟨⟨by decide +kernel, by decide +kernel, by decide +kernel⟩, tb_t 58 (by decide +kernel) rfl, tb_t 1069 (by decide +kernel) rfl⟩, tb_t 1067 (by decide +kernel) rfl, tb_t 1068 (by decide +kernel) rfl⟩
theorem mi_M_image : MIv y_M_image 0 b_M_image 1 (some .int) := ⟨⟨⟨by decide +kernel, by decide +kernel, by decide +kernel⟩, tb_t 58 (by decide +kernel) rfl, tb_t 1073 (by decide +kernel) rfl⟩, tb_t 1071 (by decide +kernel) rfl, tb_t 1072 (by decide +kernel) rfl⟩
theorem mi_M_undo : MIv y_M_undo 0 b_M_undo 1 (some .int) := ⟨⟨⟨by decide +kernel, by decide +kernel, by decide +kernel⟩, tb_t 58 (by decide +kernel) rfl, tb_t 1077 (by decide +kernel) rfl⟩, tb_t 1075 (by decide +kernel) rfl, tb_t 1076 (by decide +kernel) rfl⟩
theorem mi_M_count : MIv y_M_count 1 b_M_count 4 (some .int) := ⟨⟨⟨by decide +kernel, by decide +kernel, by decide +kernel⟩, tb_t 58 (by decide +kernel) rfl, tb_t 1081 (by decide +kernel) rfl⟩, tb_t 1079 (by decide +kernel) rfl, tb_t 1080 (by decide +kernel) rfl⟩
theorem iz_L : Cond.initialized R_L ∈ TB := tb_t 51 (by decide +kernel) rfl
theorem iz_P : Cond.initialized R_P ∈ TB := tb_t 52 (by decide +kernel) rfl
theorem iz_B : Cond.initialized R_B ∈ TB := tb_t 53 (by decide +kernel) rfl
theorem iz_N : Cond.initialized R_N ∈ TB := tb_t 54 (by decide +kernel) rfl
theorem iz_X : Cond.initialized R_X ∈ TB := tb_t 55 (by decide +kernel) rfl
theorem iz_O : Cond.initialized R_O ∈ TB := tb_t 56 (by decide +kernel) rfl
theorem iz_H : Cond.initialized R_H ∈ TB := tb_t 57 (by decide +kernel) rfl
theorem iz_M : Cond.initialized R_M ∈ TB := tb_t 58 (by decide +kernel) rfl
theorem iz_Math : Cond.initialized "java/lang/Math" ∈ TB := tb_t 59 (by decide +kernel) rfl
theorem iz_T : Cond.initialized R_T ∈ TB := tb_t 60 (by decide +kernel) rfl
theorem cl_L_7 : Cond.classLink R_L 7 R_P ∈ TB := tb_t 61 (by decide +kernel) rfl
theorem in_P : Cond.instantiable R_P 7 ∈ TB := tb_t 62 (by decide +kernel) rfl
theorem ml_L_9 : Cond.methodLink R_L 9 y_P_init ∈ TB := tb_t 63 (by decide +kernel) rfl
theorem ml_P_5 : Cond.methodLink R_P 5 ⟨"java/lang/Object", "<init>", "()V"⟩ ∈ TB := tb_t 66 (by decide +kernel) rfl
theorem cl_P_11 : Cond.classLink R_P 11 R_B ∈ TB := tb_t 69 (by decide +kernel) rfl
theorem in_B : Cond.instantiable R_B 5 ∈ TB := tb_t 70 (by decide +kernel) rfl
theorem ml_B_3 : Cond.methodLink R_B 3 ⟨"java/lang/Object", "<init>", "()V"⟩ ∈ TB := tb_t 74 (by decide +kernel) rfl
theorem cl_B_9 : Cond.classLink R_B 9 R_N ∈ TB := tb_t 75 (by decide +kernel) rfl
theorem in_N : Cond.instantiable R_N 2 ∈ TB := tb_t 76 (by decide +kernel) rfl
theorem ml_B_11 : Cond.methodLink R_B 11 y_N_init ∈ TB := tb_t 77 (by decide +kernel) rfl
theorem ml_N_1 : Cond.methodLink R_N 1 ⟨"java/lang/Object", "<init>", "()V"⟩ ∈ TB := tb_t 80 (by decide +kernel) rfl
theorem fl_N_13 : Cond.fieldLink R_N 13 R_N "numbers" "[I" ∈ TB := tb_t 81 (by decide +kernel) rfl
theorem fl_N_7 : Cond.fieldLink R_N 7 R_N "size" "I" ∈ TB := tb_t 82 (by decide +kernel) rfl
theorem ac_int : Cond.arrayClass .int ∈ TB := tb_t 88 (by decide +kernel) rfl
theorem fl_B_14 : Cond.fieldLink R_B 14 R_B "teeth" "LPinionBench$Ints;" ∈ TB := tb_t 89 (by decide +kernel) rfl
theorem fl_B_20 : Cond.fieldLink R_B 20 R_B "shifts" "LPinionBench$Ints;" ∈ TB := tb_t 90 (by decide +kernel) rfl
theorem fl_B_23 : Cond.fieldLink R_B 23 R_B "drivers" "LPinionBench$Ints;" ∈ TB := tb_t 91 (by decide +kernel) rfl
theorem fl_B_26 : Cond.fieldLink R_B 26 R_B "driven" "LPinionBench$Ints;" ∈ TB := tb_t 92 (by decide +kernel) rfl
theorem fl_B_29 : Cond.fieldLink R_B 29 R_B "pressure" "I" ∈ TB := tb_t 93 (by decide +kernel) rfl
theorem cl_P_28 : Cond.classLink R_P 28 R_X ∈ TB := tb_t 105 (by decide +kernel) rfl
theorem in_X : Cond.instantiable R_X 6 ∈ TB := tb_t 106 (by decide +kernel) rfl
theorem ml_X_3 : Cond.methodLink R_X 3 ⟨"java/lang/Object", "<init>", "()V"⟩ ∈ TB := tb_t 110 (by decide +kernel) rfl
theorem cl_X_9 : Cond.classLink R_X 9 R_N ∈ TB := tb_t 111 (by decide +kernel) rfl
theorem ml_X_11 : Cond.methodLink R_X 11 y_N_init ∈ TB := tb_t 112 (by decide +kernel) rfl
theorem fl_X_14 : Cond.fieldLink R_X 14 R_X "bytes" "LPinionBench$Ints;" ∈ TB := tb_t 113 (by decide +kernel) rfl
theorem fl_X_20 : Cond.fieldLink R_X 20 R_X "letters" "LPinionBench$Ints;" ∈ TB := tb_t 114 (by decide +kernel) rfl
theorem fl_X_23 : Cond.fieldLink R_X 23 R_X "firsts" "LPinionBench$Ints;" ∈ TB := tb_t 115 (by decide +kernel) rfl
theorem fl_X_26 : Cond.fieldLink R_X 26 R_X "seconds" "LPinionBench$Ints;" ∈ TB := tb_t 116 (by decide +kernel) rfl
theorem fl_X_29 : Cond.fieldLink R_X 29 R_X "place" "I" ∈ TB := tb_t 117 (by decide +kernel) rfl
theorem fl_X_33 : Cond.fieldLink R_X 33 R_X "number" "I" ∈ TB := tb_t 118 (by decide +kernel) rfl
theorem cl_P_35 : Cond.classLink R_P 35 R_O ∈ TB := tb_t 132 (by decide +kernel) rfl
theorem in_O : Cond.instantiable R_O 2 ∈ TB := tb_t 134 (by decide +kernel) rfl
theorem ml_O_3 : Cond.methodLink R_O 3 ⟨"java/lang/Object", "<init>", "()V"⟩ ∈ TB := tb_t 138 (by decide +kernel) rfl
theorem fl_O_9 : Cond.fieldLink R_O 9 R_O "places" "[J" ∈ TB := tb_t 139 (by decide +kernel) rfl
theorem fl_O_15 : Cond.fieldLink R_O 15 R_O "size" "I" ∈ TB := tb_t 140 (by decide +kernel) rfl
theorem ac_long : Cond.arrayClass .long ∈ TB := tb_t 146 (by decide +kernel) rfl
theorem cl_P_42 : Cond.classLink R_P 42 R_H ∈ TB := tb_t 147 (by decide +kernel) rfl
theorem in_H : Cond.instantiable R_H 7 ∈ TB := tb_t 148 (by decide +kernel) rfl
theorem ml_H_3 : Cond.methodLink R_H 3 ⟨"java/lang/Object", "<init>", "()V"⟩ ∈ TB := tb_t 152 (by decide +kernel) rfl
theorem fl_H_9 : Cond.fieldLink R_H 9 R_H "k" "I" ∈ TB := tb_t 153 (by decide +kernel) rfl
theorem fl_H_15 : Cond.fieldLink R_H 15 R_H "u" "I" ∈ TB := tb_t 154 (by decide +kernel) rfl
theorem fl_H_18 : Cond.fieldLink R_H 18 R_H "w" "I" ∈ TB := tb_t 155 (by decide +kernel) rfl
theorem fl_H_21 : Cond.fieldLink R_H 21 R_H "t" "I" ∈ TB := tb_t 156 (by decide +kernel) rfl
theorem fl_H_24 : Cond.fieldLink R_H 24 R_H "found" "I" ∈ TB := tb_t 157 (by decide +kernel) rfl
theorem fl_H_27 : Cond.fieldLink R_H 27 R_H "sun" "I" ∈ TB := tb_t 158 (by decide +kernel) rfl
theorem fl_H_30 : Cond.fieldLink R_H 30 R_H "planet" "I" ∈ TB := tb_t 159 (by decide +kernel) rfl
theorem fl_P_14 : Cond.fieldLink R_P 14 R_P "now" "LPinionBench$Bench;" ∈ TB := tb_t 175 (by decide +kernel) rfl
theorem fl_P_18 : Cond.fieldLink R_P 18 R_P "kept" "LPinionBench$Bench;" ∈ TB := tb_t 176 (by decide +kernel) rfl
theorem fl_P_21 : Cond.fieldLink R_P 21 R_P "ahead" "LPinionBench$Bench;" ∈ TB := tb_t 177 (by decide +kernel) rfl
theorem fl_P_24 : Cond.fieldLink R_P 24 R_P "isKept" "Z" ∈ TB := tb_t 178 (by decide +kernel) rfl
theorem fl_P_31 : Cond.fieldLink R_P 31 R_P "tape" "LPinionBench$Text;" ∈ TB := tb_t 179 (by decide +kernel) rfl
theorem fl_P_38 : Cond.fieldLink R_P 38 R_P "rows" "[LPinionBench$Row;" ∈ TB := tb_t 180 (by decide +kernel) rfl
theorem fl_P_45 : Cond.fieldLink R_P 45 R_P "search" "LPinionBench$Search;" ∈ TB := tb_t 181 (by decide +kernel) rfl
theorem ml_L_13 : Cond.methodLink R_L 13 y_P_wheel ∈ TB := tb_t 197 (by decide +kernel) rfl
theorem ml_P_49 : Cond.methodLink R_P 49 y_B_addWheel ∈ TB := tb_t 201 (by decide +kernel) rfl
theorem ml_P_142 : Cond.methodLink R_P 142 y_P_isOutward ∈ TB := tb_t 208 (by decide +kernel) rfl
theorem ml_B_52 : Cond.methodLink R_B 52 y_N_isFull ∈ TB := tb_t 211 (by decide +kernel) rfl
theorem ml_B_56 : Cond.methodLink R_B 56 y_N_add ∈ TB := tb_t 215 (by decide +kernel) rfl
theorem ml_B_37 : Cond.methodLink R_B 37 y_N_size ∈ TB := tb_t 219 (by decide +kernel) rfl
theorem ml_L_18 : Cond.methodLink R_L 18 y_P_shift ∈ TB := tb_t 223 (by decide +kernel) rfl
theorem ml_P_53 : Cond.methodLink R_P 53 y_B_setShift ∈ TB := tb_t 227 (by decide +kernel) rfl
theorem ml_B_41 : Cond.methodLink R_B 41 y_N_has ∈ TB := tb_t 231 (by decide +kernel) rfl
theorem ml_B_45 : Cond.methodLink R_B 45 y_N_at ∈ TB := tb_t 238 (by decide +kernel) rfl
theorem ml_B_62 : Cond.methodLink R_B 62 y_N_set ∈ TB := tb_t 242 (by decide +kernel) rfl
theorem ml_L_23 : Cond.methodLink R_L 23 y_P_pressure ∈ TB := tb_t 246 (by decide +kernel) rfl
theorem ml_P_57 : Cond.methodLink R_P 57 y_B_setPressure ∈ TB := tb_t 250 (by decide +kernel) rfl
theorem ml_L_27 : Cond.methodLink R_L 27 y_P_of ∈ TB := tb_t 254 (by decide +kernel) rfl
theorem ml_P_60 : Cond.methodLink R_P 60 y_B_hasWheel ∈ TB := tb_t 258 (by decide +kernel) rfl
theorem ml_P_64 : Cond.methodLink R_P 64 y_B_told ∈ TB := tb_t 262 (by decide +kernel) rfl
theorem ml_B_89 : Cond.methodLink R_B 89 y_B_isUndercut ∈ TB := tb_t 266 (by decide +kernel) rfl
theorem ml_B_104 : Cond.methodLink R_B 104 y_B_isRing ∈ TB := tb_t 270 (by decide +kernel) rfl
theorem ml_B_107 : Cond.methodLink R_B 107 y_B_keepsLimit ∈ TB := tb_t 274 (by decide +kernel) rfl
theorem ml_B_101 : Cond.methodLink R_B 101 y_B_square ∈ TB := tb_t 278 (by decide +kernel) rfl
theorem ml_B_92 : Cond.methodLink R_B 92 y_B_isPointed ∈ TB := tb_t 282 (by decide +kernel) rfl
theorem ml_B_95 : Cond.methodLink R_B 95 y_B_leastShift ∈ TB := tb_t 286 (by decide +kernel) rfl
theorem ml_B_98 : Cond.methodLink R_B 98 y_B_pairsWith ∈ TB := tb_t 290 (by decide +kernel) rfl
theorem ml_L_31 : Cond.methodLink R_L 31 y_P_fewest ∈ TB := tb_t 294 (by decide +kernel) rfl
theorem ml_P_67 : Cond.methodLink R_P 67 y_P_isShift ∈ TB := tb_t 298 (by decide +kernel) rfl
theorem ml_P_70 : Cond.methodLink R_P 70 y_B_fewestTeeth ∈ TB := tb_t 299 (by decide +kernel) rfl
theorem ml_L_35 : Cond.methodLink R_L 35 y_P_distance ∈ TB := tb_t 303 (by decide +kernel) rfl
theorem ml_P_73 : Cond.methodLink R_P 73 y_P_isPart ∈ TB := tb_t 307 (by decide +kernel) rfl
theorem ml_P_76 : Cond.methodLink R_P 76 y_B_canPair ∈ TB := tb_t 310 (by decide +kernel) rfl
theorem ml_B_121 : Cond.methodLink R_B 121 y_B_hasWheel ∈ TB := tb_t 314 (by decide +kernel) rfl
theorem kl_P_80 : Cond.constantLong R_P 80 (-9223372036854775808) ∈ TB := tb_t 315 (by decide +kernel) rfl
theorem ml_P_82 : Cond.methodLink R_P 82 y_B_clashes ∈ TB := tb_t 316 (by decide +kernel) rfl
theorem ml_B_124 : Cond.methodLink R_B 124 y_B_hasRing ∈ TB := tb_t 320 (by decide +kernel) rfl
theorem kl_P_85 : Cond.constantLong R_P 85 (-9223372036854775807) ∈ TB := tb_t 324 (by decide +kernel) rfl
theorem ml_P_87 : Cond.methodLink R_P 87 y_B_hundredths ∈ TB := tb_t 325 (by decide +kernel) rfl
theorem ml_B_130 : Cond.methodLink R_B 130 y_B_arm ∈ TB := tb_t 329 (by decide +kernel) rfl
theorem ml_B_127 : Cond.methodLink R_B 127 ⟨"java/lang/Math", "abs", "(I)I"⟩ ∈ TB := tb_t 333 (by decide +kernel) rfl
theorem kl_P_90 : Cond.constantLong R_P 90 (100) ∈ TB := tb_t 336 (by decide +kernel) rfl
theorem ml_P_92 : Cond.methodLink R_P 92 y_P_partOf ∈ TB := tb_t 337 (by decide +kernel) rfl
theorem ml_P_244 : Cond.methodLink R_P 244 ⟨"java/lang/Math", "abs", "(J)J"⟩ ∈ TB := tb_t 340 (by decide +kernel) rfl
theorem ml_P_248 : Cond.methodLink R_P 248 y_P_commonDivisor ∈ TB := tb_t 343 (by decide +kernel) rfl
theorem ml_L_40 : Cond.methodLink R_L 40 y_P_ratio ∈ TB := tb_t 346 (by decide +kernel) rfl
theorem ml_P_96 : Cond.methodLink R_P 96 y_B_above ∈ TB := tb_t 350 (by decide +kernel) rfl
theorem ml_P_100 : Cond.methodLink R_P 100 y_B_below ∈ TB := tb_t 354 (by decide +kernel) rfl
theorem ml_L_44 : Cond.methodLink R_L 44 y_P_contact ∈ TB := tb_t 358 (by decide +kernel) rfl
theorem ml_P_103 : Cond.methodLink R_P 103 y_B_hasRing ∈ TB := tb_t 362 (by decide +kernel) rfl
theorem ml_P_106 : Cond.methodLink R_P 106 y_B_lowContact ∈ TB := tb_t 363 (by decide +kernel) rfl
theorem kl_B_167 : Cond.constantLong R_B 167 (31416) ∈ TB := tb_t 367 (by decide +kernel) rfl
theorem ml_B_169 : Cond.methodLink R_B 169 y_B_cosine ∈ TB := tb_t 368 (by decide +kernel) rfl
theorem kl_B_153 : Cond.constantLong R_B 153 (10000) ∈ TB := tb_t 372 (by decide +kernel) rfl
theorem ml_B_173 : Cond.methodLink R_B 173 y_B_path ∈ TB := tb_t 376 (by decide +kernel) rfl
theorem ml_B_163 : Cond.methodLink R_B 163 y_B_reach ∈ TB := tb_t 380 (by decide +kernel) rfl
theorem kl_B_159 : Cond.constantLong R_B 159 (4) ∈ TB := tb_t 384 (by decide +kernel) rfl
theorem kl_B_161 : Cond.constantLong R_B 161 (2500) ∈ TB := tb_t 385 (by decide +kernel) rfl
theorem kl_B_176 : Cond.constantLong R_B 176 (10000000) ∈ TB := tb_t 386 (by decide +kernel) rfl
theorem ml_B_178 : Cond.methodLink R_B 178 ⟨"java/lang/Math", "max", "(JJ)J"⟩ ∈ TB := tb_t 387 (by decide +kernel) rfl
theorem ml_P_109 : Cond.methodLink R_P 109 y_B_highContact ∈ TB := tb_t 390 (by decide +kernel) rfl
theorem kl_B_181 : Cond.constantLong R_B 181 (31415) ∈ TB := tb_t 394 (by decide +kernel) rfl
theorem kl_B_183 : Cond.constantLong R_B 183 (2) ∈ TB := tb_t 395 (by decide +kernel) rfl
theorem ml_L_48 : Cond.methodLink R_L 48 y_P_shiftFor ∈ TB := tb_t 396 (by decide +kernel) rfl
theorem ml_P_112 : Cond.methodLink R_P 112 y_B_shiftAt ∈ TB := tb_t 400 (by decide +kernel) rfl
theorem ml_L_53 : Cond.methodLink R_L 53 y_P_wheels ∈ TB := tb_t 404 (by decide +kernel) rfl
theorem ml_P_116 : Cond.methodLink R_P 116 y_B_wheelsThatAre ∈ TB := tb_t 408 (by decide +kernel) rfl
theorem ml_B_110 : Cond.methodLink R_B 110 y_B_is ∈ TB := tb_t 412 (by decide +kernel) rfl
theorem ml_B_113 : Cond.methodLink R_B 113 y_B_isFirstOfItsTeeth ∈ TB := tb_t 416 (by decide +kernel) rfl
theorem ml_L_57 : Cond.methodLink R_L 57 y_P_pair ∈ TB := tb_t 420 (by decide +kernel) rfl
theorem ml_P_119 : Cond.methodLink R_P 119 y_B_addPair ∈ TB := tb_t 424 (by decide +kernel) rfl
theorem ml_B_66 : Cond.methodLink R_B 66 y_B_canPair ∈ TB := tb_t 428 (by decide +kernel) rfl
theorem ml_L_61 : Cond.methodLink R_L 61 y_P_clear ∈ TB := tb_t 429 (by decide +kernel) rfl
theorem ml_P_122 : Cond.methodLink R_P 122 y_B_emptyTrain ∈ TB := tb_t 433 (by decide +kernel) rfl
theorem ml_B_70 : Cond.methodLink R_B 70 y_N_empty ∈ TB := tb_t 437 (by decide +kernel) rfl
theorem ml_L_66 : Cond.methodLink R_L 66 y_P_train ∈ TB := tb_t 441 (by decide +kernel) rfl
theorem ml_P_126 : Cond.methodLink R_P 126 y_B_pairsInTrain ∈ TB := tb_t 445 (by decide +kernel) rfl
theorem ml_P_129 : Cond.methodLink R_P 129 y_B_firstClash ∈ TB := tb_t 449 (by decide +kernel) rfl
theorem ml_B_133 : Cond.methodLink R_B 133 y_B_clashes ∈ TB := tb_t 453 (by decide +kernel) rfl
theorem ml_P_132 : Cond.methodLink R_P 132 y_B_trainRatio ∈ TB := tb_t 454 (by decide +kernel) rfl
theorem ml_B_136 : Cond.methodLink R_B 136 y_B_above ∈ TB := tb_t 458 (by decide +kernel) rfl
theorem ml_B_140 : Cond.methodLink R_B 140 y_B_below ∈ TB := tb_t 459 (by decide +kernel) rfl
theorem ml_L_71 : Cond.methodLink R_L 71 y_P_faulty ∈ TB := tb_t 461 (by decide +kernel) rfl
theorem ml_L_75 : Cond.methodLink R_L 75 y_P_closest ∈ TB := tb_t 465 (by decide +kernel) rfl
theorem ml_P_136 : Cond.methodLink R_P 136 y_B_nearestPair ∈ TB := tb_t 469 (by decide +kernel) rfl
theorem ml_B_150 : Cond.methodLink R_B 150 y_B_hundredthsInTrain ∈ TB := tb_t 473 (by decide +kernel) rfl
theorem ml_B_147 : Cond.methodLink R_B 147 y_B_hundredths ∈ TB := tb_t 477 (by decide +kernel) rfl
theorem ml_P_139 : Cond.methodLink R_P 139 y_B_hundredthsInTrain ∈ TB := tb_t 478 (by decide +kernel) rfl
theorem ml_L_79 : Cond.methodLink R_L 79 y_P_together ∈ TB := tb_t 479 (by decide +kernel) rfl
theorem ml_P_145 : Cond.methodLink R_P 145 y_T_divides ∈ TB := tb_t 483 (by decide +kernel) rfl
theorem ml_T_9 : Cond.methodLink R_T 9 y_T_ring ∈ TB := tb_t 486 (by decide +kernel) rfl
theorem ml_P_151 : Cond.methodLink R_P 151 y_T_touch ∈ TB := tb_t 489 (by decide +kernel) rfl
theorem ml_T_15 : Cond.methodLink R_T 15 y_T_sine ∈ TB := tb_t 492 (by decide +kernel) rfl
theorem ml_L_84 : Cond.methodLink R_L 84 y_P_most ∈ TB := tb_t 495 (by decide +kernel) rfl
theorem ml_P_154 : Cond.methodLink R_P 154 y_T_mostPlanets ∈ TB := tb_t 499 (by decide +kernel) rfl
theorem ml_T_26 : Cond.methodLink R_T 26 y_T_canBe ∈ TB := tb_t 502 (by decide +kernel) rfl
theorem ml_T_19 : Cond.methodLink R_T 19 y_T_divides ∈ TB := tb_t 505 (by decide +kernel) rfl
theorem ml_T_23 : Cond.methodLink R_T 23 y_T_touch ∈ TB := tb_t 506 (by decide +kernel) rfl
theorem ml_L_88 : Cond.methodLink R_L 88 y_P_planets ∈ TB := tb_t 507 (by decide +kernel) rfl
theorem ml_P_157 : Cond.methodLink R_P 157 y_T_ratioPart ∈ TB := tb_t 511 (by decide +kernel) rfl
theorem ml_T_29 : Cond.methodLink R_T 29 y_T_weight ∈ TB := tb_t 514 (by decide +kernel) rfl
theorem kl_T_37 : Cond.constantLong R_T 37 (-9223372036854775808) ∈ TB := tb_t 518 (by decide +kernel) rfl
theorem ml_L_93 : Cond.methodLink R_L 93 y_P_searched ∈ TB := tb_t 519 (by decide +kernel) rfl
theorem ml_P_161 : Cond.methodLink R_P 161 y_H_isAsked ∈ TB := tb_t 523 (by decide +kernel) rfl
theorem ml_P_165 : Cond.methodLink R_P 165 y_H_run ∈ TB := tb_t 526 (by decide +kernel) rfl
theorem ml_H_33 : Cond.methodLink R_H 33 y_H_isNear ∈ TB := tb_t 530 (by decide +kernel) rfl
theorem ml_H_64 : Cond.methodLink R_H 64 y_H_miss ∈ TB := tb_t 534 (by decide +kernel) rfl
theorem ml_H_54 : Cond.methodLink R_H 54 y_T_ring ∈ TB := tb_t 538 (by decide +kernel) rfl
theorem ml_H_58 : Cond.methodLink R_H 58 ⟨"java/lang/Math", "abs", "(I)I"⟩ ∈ TB := tb_t 539 (by decide +kernel) rfl
theorem ml_H_37 : Cond.methodLink R_H 37 y_T_canBe ∈ TB := tb_t 540 (by decide +kernel) rfl
theorem ml_H_43 : Cond.methodLink R_H 43 y_H_take ∈ TB := tb_t 541 (by decide +kernel) rfl
theorem ml_H_51 : Cond.methodLink R_H 51 y_H_isBetter ∈ TB := tb_t 545 (by decide +kernel) rfl
theorem ml_H_47 : Cond.methodLink R_H 47 y_T_teethTogether ∈ TB := tb_t 549 (by decide +kernel) rfl
theorem ml_P_169 : Cond.methodLink R_P 169 y_H_told ∈ TB := tb_t 552 (by decide +kernel) rfl
theorem ml_L_98 : Cond.methodLink R_L 98 y_P_feed ∈ TB := tb_t 556 (by decide +kernel) rfl
theorem ml_P_171 : Cond.methodLink R_P 171 y_X_append ∈ TB := tb_t 560 (by decide +kernel) rfl
theorem ml_X_36 : Cond.methodLink R_X 36 y_N_isFull ∈ TB := tb_t 564 (by decide +kernel) rfl
theorem ml_X_40 : Cond.methodLink R_X 40 y_N_add ∈ TB := tb_t 565 (by decide +kernel) rfl
theorem ml_X_43 : Cond.methodLink R_X 43 y_N_size ∈ TB := tb_t 566 (by decide +kernel) rfl
theorem ml_L_102 : Cond.methodLink R_L 102 y_P_read ∈ TB := tb_t 567 (by decide +kernel) rfl
theorem ml_P_174 : Cond.methodLink R_P 174 y_X_parse ∈ TB := tb_t 571 (by decide +kernel) rfl
theorem ml_X_47 : Cond.methodLink R_X 47 y_N_empty ∈ TB := tb_t 575 (by decide +kernel) rfl
theorem ml_X_54 : Cond.methodLink R_X 54 y_X_parseAct ∈ TB := tb_t 576 (by decide +kernel) rfl
theorem ml_X_61 : Cond.methodLink R_X 61 y_X_next ∈ TB := tb_t 580 (by decide +kernel) rfl
theorem ml_X_74 : Cond.methodLink R_X 74 y_N_has ∈ TB := tb_t 584 (by decide +kernel) rfl
theorem ml_X_50 : Cond.methodLink R_X 50 y_N_at ∈ TB := tb_t 585 (by decide +kernel) rfl
theorem ml_X_64 : Cond.methodLink R_X 64 y_X_isLetter ∈ TB := tb_t 586 (by decide +kernel) rfl
theorem ml_X_57 : Cond.methodLink R_X 57 y_X_skip ∈ TB := tb_t 589 (by decide +kernel) rfl
theorem ml_X_67 : Cond.methodLink R_X 67 y_X_parseNumber ∈ TB := tb_t 593 (by decide +kernel) rfl
theorem ml_X_71 : Cond.methodLink R_X 71 y_X_isFigure ∈ TB := tb_t 597 (by decide +kernel) rfl
theorem ml_P_177 : Cond.methodLink R_P 177 y_X_empty ∈ TB := tb_t 600 (by decide +kernel) rfl
theorem ml_P_180 : Cond.methodLink R_P 180 y_P_doActs ∈ TB := tb_t 604 (by decide +kernel) rfl
theorem ml_P_183 : Cond.methodLink R_P 183 y_B_become ∈ TB := tb_t 608 (by decide +kernel) rfl
theorem ml_B_33 : Cond.methodLink R_B 33 y_N_become ∈ TB := tb_t 612 (by decide +kernel) rfl
theorem ml_N_17 : Cond.methodLink R_N 17 y_N_empty ∈ TB := tb_t 616 (by decide +kernel) rfl
theorem ml_N_20 : Cond.methodLink R_N 20 y_N_size ∈ TB := tb_t 617 (by decide +kernel) rfl
theorem ml_N_23 : Cond.methodLink R_N 23 y_N_at ∈ TB := tb_t 618 (by decide +kernel) rfl
theorem ml_N_27 : Cond.methodLink R_N 27 y_N_add ∈ TB := tb_t 619 (by decide +kernel) rfl
theorem ml_P_187 : Cond.methodLink R_P 187 y_X_acts ∈ TB := tb_t 620 (by decide +kernel) rfl
theorem ml_P_190 : Cond.methodLink R_P 190 y_X_letterOf ∈ TB := tb_t 624 (by decide +kernel) rfl
theorem ml_P_193 : Cond.methodLink R_P 193 y_X_firstOf ∈ TB := tb_t 628 (by decide +kernel) rfl
theorem ml_P_196 : Cond.methodLink R_P 196 y_X_secondOf ∈ TB := tb_t 632 (by decide +kernel) rfl
theorem ml_P_199 : Cond.methodLink R_P 199 y_B_does ∈ TB := tb_t 636 (by decide +kernel) rfl
theorem ml_B_73 : Cond.methodLink R_B 73 y_B_addWheel ∈ TB := tb_t 640 (by decide +kernel) rfl
theorem ml_B_76 : Cond.methodLink R_B 76 y_B_setShift ∈ TB := tb_t 641 (by decide +kernel) rfl
theorem ml_B_80 : Cond.methodLink R_B 80 y_B_setPressure ∈ TB := tb_t 642 (by decide +kernel) rfl
theorem ml_B_83 : Cond.methodLink R_B 83 y_B_addPair ∈ TB := tb_t 643 (by decide +kernel) rfl
theorem ml_B_86 : Cond.methodLink R_B 86 y_B_emptyTrain ∈ TB := tb_t 644 (by decide +kernel) rfl
theorem ml_L_106 : Cond.methodLink R_L 106 y_P_row ∈ TB := tb_t 645 (by decide +kernel) rfl
theorem ml_P_202 : Cond.methodLink R_P 202 y_P_rowAt ∈ TB := tb_t 649 (by decide +kernel) rfl
theorem ml_P_206 : Cond.methodLink R_P 206 y_O_resize ∈ TB := tb_t 653 (by decide +kernel) rfl
theorem ml_L_112 : Cond.methodLink R_L 112 y_P_put ∈ TB := tb_t 657 (by decide +kernel) rfl
theorem ml_P_209 : Cond.methodLink R_P 209 y_O_isMissing ∈ TB := tb_t 661 (by decide +kernel) rfl
theorem ml_P_213 : Cond.methodLink R_P 213 y_O_set ∈ TB := tb_t 665 (by decide +kernel) rfl
theorem ml_O_19 : Cond.methodLink R_O 19 y_O_hasPlace ∈ TB := tb_t 669 (by decide +kernel) rfl
theorem ml_L_117 : Cond.methodLink R_L 117 y_P_get ∈ TB := tb_t 673 (by decide +kernel) rfl
theorem ml_P_217 : Cond.methodLink R_P 217 y_O_hasPlace ∈ TB := tb_t 677 (by decide +kernel) rfl
theorem ml_P_220 : Cond.methodLink R_P 220 y_O_at ∈ TB := tb_t 678 (by decide +kernel) rfl
theorem kl_O_23 : Cond.constantLong R_O 23 (-9223372036854775808) ∈ TB := tb_t 682 (by decide +kernel) rfl
theorem ml_L_122 : Cond.methodLink R_L 122 y_P_lay ∈ TB := tb_t 683 (by decide +kernel) rfl
theorem ml_P_223 : Cond.methodLink R_P 223 y_O_size ∈ TB := tb_t 687 (by decide +kernel) rfl
theorem ml_P_226 : Cond.methodLink R_P 226 y_B_size ∈ TB := tb_t 691 (by decide +kernel) rfl
theorem ml_P_227 : Cond.methodLink R_P 227 ⟨"java/lang/Math", "min", "(II)I"⟩ ∈ TB := tb_t 695 (by decide +kernel) rfl
theorem ml_P_232 : Cond.methodLink R_P 232 y_B_teethOf ∈ TB := tb_t 698 (by decide +kernel) rfl
theorem ml_L_126 : Cond.methodLink R_L 126 y_P_judge ∈ TB := tb_t 702 (by decide +kernel) rfl
theorem ml_L_130 : Cond.methodLink R_L 130 y_P_image ∈ TB := tb_t 706 (by decide +kernel) rfl
theorem ml_L_134 : Cond.methodLink R_L 134 y_P_undo ∈ TB := tb_t 710 (by decide +kernel) rfl
theorem ml_L_138 : Cond.methodLink R_L 138 y_P_count ∈ TB := tb_t 714 (by decide +kernel) rfl
theorem ml_P_235 : Cond.methodLink R_P 235 y_X_length ∈ TB := tb_t 718 (by decide +kernel) rfl
theorem ml_P_238 : Cond.methodLink R_P 238 y_B_pressureNow ∈ TB := tb_t 722 (by decide +kernel) rfl
theorem ml_P_241 : Cond.methodLink R_P 241 y_B_outwardTeeth ∈ TB := tb_t 726 (by decide +kernel) rfl
theorem ml_B_116 : Cond.methodLink R_B 116 ⟨"java/lang/Math", "max", "(II)I"⟩ ∈ TB := tb_t 730 (by decide +kernel) rfl
theorem cl_L_10 : Cond.classLink R_L 10 R_M ∈ TB := tb_t 733 (by decide +kernel) rfl
theorem in_M : Cond.instantiable R_M 20 ∈ TB := tb_t 734 (by decide +kernel) rfl
theorem ml_L_12 : Cond.methodLink R_L 12 y_M_init ∈ TB := tb_t 735 (by decide +kernel) rfl
theorem ml_M_3 : Cond.methodLink R_M 3 ⟨"java/lang/Object", "<init>", "()V"⟩ ∈ TB := tb_t 738 (by decide +kernel) rfl
theorem fl_M_11 : Cond.fieldLink R_M 11 R_M "g" "[I" ∈ TB := tb_t 739 (by decide +kernel) rfl
theorem fl_M_15 : Cond.fieldLink R_M 15 R_M "kept" "[I" ∈ TB := tb_t 740 (by decide +kernel) rfl
theorem fl_M_18 : Cond.fieldLink R_M 18 R_M "ahead" "[I" ∈ TB := tb_t 741 (by decide +kernel) rfl
theorem fl_M_21 : Cond.fieldLink R_M 21 R_M "squares" "[I" ∈ TB := tb_t 742 (by decide +kernel) rfl
theorem fl_M_24 : Cond.fieldLink R_M 24 R_M "sines" "[I" ∈ TB := tb_t 743 (by decide +kernel) rfl
theorem fl_M_267 : Cond.fieldLink R_M 267 R_M "isKept" "Z" ∈ TB := tb_t 744 (by decide +kernel) rfl
theorem fl_M_107 : Cond.fieldLink R_M 107 R_M "above" "J" ∈ TB := tb_t 745 (by decide +kernel) rfl
theorem fl_M_111 : Cond.fieldLink R_M 111 R_M "below" "J" ∈ TB := tb_t 746 (by decide +kernel) rfl
theorem fl_M_175 : Cond.fieldLink R_M 175 R_M "searchedMany" "I" ∈ TB := tb_t 747 (by decide +kernel) rfl
theorem fl_M_189 : Cond.fieldLink R_M 189 R_M "bestSun" "I" ∈ TB := tb_t 748 (by decide +kernel) rfl
theorem fl_M_192 : Cond.fieldLink R_M 192 R_M "bestPlanet" "I" ∈ TB := tb_t 749 (by decide +kernel) rfl
theorem fl_M_27 : Cond.fieldLink R_M 27 R_M "tape" "[I" ∈ TB := tb_t 750 (by decide +kernel) rfl
theorem fl_M_30 : Cond.fieldLink R_M 30 R_M "letters" "[I" ∈ TB := tb_t 751 (by decide +kernel) rfl
theorem fl_M_33 : Cond.fieldLink R_M 33 R_M "firsts" "[I" ∈ TB := tb_t 752 (by decide +kernel) rfl
theorem fl_M_36 : Cond.fieldLink R_M 36 R_M "seconds" "[I" ∈ TB := tb_t 753 (by decide +kernel) rfl
theorem fl_M_210 : Cond.fieldLink R_M 210 R_M "fed" "I" ∈ TB := tb_t 754 (by decide +kernel) rfl
theorem fl_M_213 : Cond.fieldLink R_M 213 R_M "at" "I" ∈ TB := tb_t 755 (by decide +kernel) rfl
theorem fl_M_216 : Cond.fieldLink R_M 216 R_M "goes" "Z" ∈ TB := tb_t 756 (by decide +kernel) rfl
theorem fl_M_39 : Cond.fieldLink R_M 39 R_M "sizes" "[I" ∈ TB := tb_t 757 (by decide +kernel) rfl
theorem fl_M_42 : Cond.fieldLink R_M 42 R_M "items" "[J" ∈ TB := tb_t 758 (by decide +kernel) rfl
theorem ml_L_17 : Cond.methodLink R_L 17 y_M_wheel ∈ TB := tb_t 800 (by decide +kernel) rfl
theorem kl_M_58 : Cond.constantLong R_M 58 (-99) ∈ TB := tb_t 804 (by decide +kernel) rfl
theorem kl_M_60 : Cond.constantLong R_M 60 (-20) ∈ TB := tb_t 805 (by decide +kernel) rfl
theorem ml_M_46 : Cond.methodLink R_M 46 y_M_in ∈ TB := tb_t 806 (by decide +kernel) rfl
theorem kl_M_62 : Cond.constantLong R_M 62 (5) ∈ TB := tb_t 809 (by decide +kernel) rfl
theorem kl_M_64 : Cond.constantLong R_M 64 (99) ∈ TB := tb_t 810 (by decide +kernel) rfl
theorem ml_L_22 : Cond.methodLink R_L 22 y_M_shift ∈ TB := tb_t 811 (by decide +kernel) rfl
theorem ml_M_66 : Cond.methodLink R_M 66 y_M_isWheel ∈ TB := tb_t 815 (by decide +kernel) rfl
theorem kl_M_69 : Cond.constantLong R_M 69 (-50) ∈ TB := tb_t 819 (by decide +kernel) rfl
theorem kl_M_71 : Cond.constantLong R_M 71 (100) ∈ TB := tb_t 820 (by decide +kernel) rfl
theorem ml_M_73 : Cond.methodLink R_M 73 y_M_becomes ∈ TB := tb_t 821 (by decide +kernel) rfl
theorem ml_L_26 : Cond.methodLink R_L 26 y_M_pressure ∈ TB := tb_t 825 (by decide +kernel) rfl
theorem kl_M_77 : Cond.constantLong R_M 77 (2) ∈ TB := tb_t 829 (by decide +kernel) rfl
theorem ml_L_30 : Cond.methodLink R_L 30 y_M_of ∈ TB := tb_t 830 (by decide +kernel) rfl
theorem ml_M_50 : Cond.methodLink R_M 50 y_M_teeth ∈ TB := tb_t 834 (by decide +kernel) rfl
theorem ml_M_87 : Cond.methodLink R_M 87 y_M_isUndercut ∈ TB := tb_t 838 (by decide +kernel) rfl
theorem ml_M_54 : Cond.methodLink R_M 54 y_M_isRing ∈ TB := tb_t 842 (by decide +kernel) rfl
theorem ml_M_83 : Cond.methodLink R_M 83 y_M_isCut ∈ TB := tb_t 846 (by decide +kernel) rfl
theorem ml_M_79 : Cond.methodLink R_M 79 y_M_square ∈ TB := tb_t 850 (by decide +kernel) rfl
theorem ml_M_90 : Cond.methodLink R_M 90 y_M_isPointed ∈ TB := tb_t 854 (by decide +kernel) rfl
theorem ml_M_93 : Cond.methodLink R_M 93 y_M_leastShift ∈ TB := tb_t 858 (by decide +kernel) rfl
theorem ml_M_96 : Cond.methodLink R_M 96 y_M_pairsWith ∈ TB := tb_t 862 (by decide +kernel) rfl
theorem ml_L_34 : Cond.methodLink R_L 34 y_M_fewest ∈ TB := tb_t 866 (by decide +kernel) rfl
theorem ml_L_56 : Cond.methodLink R_L 56 y_M_wheels ∈ TB := tb_t 870 (by decide +kernel) rfl
theorem kl_M_99 : Cond.constantLong R_M 99 (3) ∈ TB := tb_t 874 (by decide +kernel) rfl
theorem ml_M_101 : Cond.methodLink R_M 101 y_M_isFirst ∈ TB := tb_t 875 (by decide +kernel) rfl
theorem ml_L_39 : Cond.methodLink R_L 39 y_M_distance ∈ TB := tb_t 879 (by decide +kernel) rfl
theorem ml_M_114 : Cond.methodLink R_M 114 y_M_isPair ∈ TB := tb_t 883 (by decide +kernel) rfl
theorem kl_M_117 : Cond.constantLong R_M 117 (-9223372036854775808) ∈ TB := tb_t 887 (by decide +kernel) rfl
theorem ml_M_119 : Cond.methodLink R_M 119 y_M_clashes ∈ TB := tb_t 888 (by decide +kernel) rfl
theorem ml_M_104 : Cond.methodLink R_M 104 y_M_size ∈ TB := tb_t 892 (by decide +kernel) rfl
theorem kl_M_122 : Cond.constantLong R_M 122 (-9223372036854775807) ∈ TB := tb_t 896 (by decide +kernel) rfl
theorem ml_M_124 : Cond.methodLink R_M 124 y_M_hundredths ∈ TB := tb_t 897 (by decide +kernel) rfl
theorem ml_M_127 : Cond.methodLink R_M 127 y_M_lays ∈ TB := tb_t 901 (by decide +kernel) rfl
theorem ml_M_131 : Cond.methodLink R_M 131 y_M_part ∈ TB := tb_t 905 (by decide +kernel) rfl
theorem ml_L_43 : Cond.methodLink R_L 43 y_M_ratio ∈ TB := tb_t 909 (by decide +kernel) rfl
theorem ml_M_135 : Cond.methodLink R_M 135 y_M_sign ∈ TB := tb_t 913 (by decide +kernel) rfl
theorem ml_L_47 : Cond.methodLink R_L 47 y_M_contact ∈ TB := tb_t 917 (by decide +kernel) rfl
theorem kl_M_144 : Cond.constantLong R_M 144 (10000) ∈ TB := tb_t 921 (by decide +kernel) rfl
theorem ml_M_148 : Cond.methodLink R_M 148 y_M_root ∈ TB := tb_t 922 (by decide +kernel) rfl
theorem kl_M_138 : Cond.constantLong R_M 138 (3000000) ∈ TB := tb_t 925 (by decide +kernel) rfl
theorem ml_M_152 : Cond.methodLink R_M 152 y_M_reach ∈ TB := tb_t 926 (by decide +kernel) rfl
theorem kl_M_140 : Cond.constantLong R_M 140 (50) ∈ TB := tb_t 930 (by decide +kernel) rfl
theorem kl_M_142 : Cond.constantLong R_M 142 (4) ∈ TB := tb_t 931 (by decide +kernel) rfl
theorem kl_M_146 : Cond.constantLong R_M 146 (2500) ∈ TB := tb_t 932 (by decide +kernel) rfl
theorem kl_M_155 : Cond.constantLong R_M 155 (10000000) ∈ TB := tb_t 933 (by decide +kernel) rfl
theorem kl_M_157 : Cond.constantLong R_M 157 (31416) ∈ TB := tb_t 934 (by decide +kernel) rfl
theorem kl_M_159 : Cond.constantLong R_M 159 (31415) ∈ TB := tb_t 935 (by decide +kernel) rfl
theorem ml_L_52 : Cond.methodLink R_L 52 y_M_shiftFor ∈ TB := tb_t 936 (by decide +kernel) rfl
theorem kl_M_161 : Cond.constantLong R_M 161 (9999) ∈ TB := tb_t 940 (by decide +kernel) rfl
theorem ml_L_60 : Cond.methodLink R_L 60 y_M_pair ∈ TB := tb_t 941 (by decide +kernel) rfl
theorem ml_L_65 : Cond.methodLink R_L 65 y_M_clear ∈ TB := tb_t 945 (by decide +kernel) rfl
theorem ml_L_74 : Cond.methodLink R_L 74 y_M_faulty ∈ TB := tb_t 949 (by decide +kernel) rfl
theorem ml_L_70 : Cond.methodLink R_L 70 y_M_train ∈ TB := tb_t 953 (by decide +kernel) rfl
theorem ml_M_163 : Cond.methodLink R_M 163 y_M_faulty ∈ TB := tb_t 957 (by decide +kernel) rfl
theorem ml_L_78 : Cond.methodLink R_L 78 y_M_closest ∈ TB := tb_t 958 (by decide +kernel) rfl
theorem ml_L_83 : Cond.methodLink R_L 83 y_M_together ∈ TB := tb_t 962 (by decide +kernel) rfl
theorem ml_M_166 : Cond.methodLink R_M 166 y_M_areSet ∈ TB := tb_t 966 (by decide +kernel) rfl
theorem kl_M_169 : Cond.constantLong R_M 169 (8) ∈ TB := tb_t 969 (by decide +kernel) rfl
theorem ml_M_171 : Cond.methodLink R_M 171 y_M_puts ∈ TB := tb_t 970 (by decide +kernel) rfl
theorem ml_L_87 : Cond.methodLink R_L 87 y_M_most ∈ TB := tb_t 974 (by decide +kernel) rfl
theorem ml_L_92 : Cond.methodLink R_L 92 y_M_planets ∈ TB := tb_t 978 (by decide +kernel) rfl
theorem ml_L_97 : Cond.methodLink R_L 97 y_M_searched ∈ TB := tb_t 982 (by decide +kernel) rfl
theorem kl_M_198 : Cond.constantLong R_M 198 (60) ∈ TB := tb_t 986 (by decide +kernel) rfl
theorem kl_M_200 : Cond.constantLong R_M 200 (200) ∈ TB := tb_t 987 (by decide +kernel) rfl
theorem ml_M_202 : Cond.methodLink R_M 202 y_M_searches ∈ TB := tb_t 988 (by decide +kernel) rfl
theorem ml_M_179 : Cond.methodLink R_M 179 y_M_off ∈ TB := tb_t 992 (by decide +kernel) rfl
theorem kl_M_183 : Cond.constantLong R_M 183 (1000) ∈ TB := tb_t 995 (by decide +kernel) rfl
theorem ml_M_185 : Cond.methodLink R_M 185 y_M_isBetter ∈ TB := tb_t 996 (by decide +kernel) rfl
theorem ml_M_195 : Cond.methodLink R_M 195 y_M_teethOf ∈ TB := tb_t 1000 (by decide +kernel) rfl
theorem ml_L_101 : Cond.methodLink R_L 101 y_M_feed ∈ TB := tb_t 1003 (by decide +kernel) rfl
theorem kl_M_206 : Cond.constantLong R_M 206 (32) ∈ TB := tb_t 1007 (by decide +kernel) rfl
theorem kl_M_208 : Cond.constantLong R_M 208 (126) ∈ TB := tb_t 1008 (by decide +kernel) rfl
theorem ml_L_105 : Cond.methodLink R_L 105 y_M_read ∈ TB := tb_t 1009 (by decide +kernel) rfl
theorem ml_M_254 : Cond.methodLink R_M 254 y_M_act ∈ TB := tb_t 1013 (by decide +kernel) rfl
theorem ml_M_220 : Cond.methodLink R_M 220 y_M_here ∈ TB := tb_t 1017 (by decide +kernel) rfl
theorem ml_M_231 : Cond.methodLink R_M 231 y_M_takes ∈ TB := tb_t 1021 (by decide +kernel) rfl
theorem ml_M_235 : Cond.methodLink R_M 235 y_M_number ∈ TB := tb_t 1025 (by decide +kernel) rfl
theorem ml_M_227 : Cond.methodLink R_M 227 y_M_isFigure ∈ TB := tb_t 1029 (by decide +kernel) rfl
theorem kl_M_223 : Cond.constantLong R_M 223 (48) ∈ TB := tb_t 1033 (by decide +kernel) rfl
theorem kl_M_225 : Cond.constantLong R_M 225 (57) ∈ TB := tb_t 1034 (by decide +kernel) rfl
theorem ml_M_257 : Cond.methodLink R_M 257 y_M_copies ∈ TB := tb_t 1035 (by decide +kernel) rfl
theorem ml_M_261 : Cond.methodLink R_M 261 y_M_isDone ∈ TB := tb_t 1038 (by decide +kernel) rfl
theorem ml_M_239 : Cond.methodLink R_M 239 y_M_wheel ∈ TB := tb_t 1042 (by decide +kernel) rfl
theorem ml_M_242 : Cond.methodLink R_M 242 y_M_shift ∈ TB := tb_t 1043 (by decide +kernel) rfl
theorem ml_M_245 : Cond.methodLink R_M 245 y_M_pressure ∈ TB := tb_t 1044 (by decide +kernel) rfl
theorem ml_M_248 : Cond.methodLink R_M 248 y_M_pair ∈ TB := tb_t 1045 (by decide +kernel) rfl
theorem ml_M_251 : Cond.methodLink R_M 251 y_M_clear ∈ TB := tb_t 1046 (by decide +kernel) rfl
theorem ml_L_109 : Cond.methodLink R_L 109 y_M_row ∈ TB := tb_t 1047 (by decide +kernel) rfl
theorem ml_M_264 : Cond.methodLink R_M 264 y_M_isRow ∈ TB := tb_t 1051 (by decide +kernel) rfl
theorem ml_L_116 : Cond.methodLink R_L 116 y_M_put ∈ TB := tb_t 1054 (by decide +kernel) rfl
theorem ml_L_121 : Cond.methodLink R_L 121 y_M_get ∈ TB := tb_t 1058 (by decide +kernel) rfl
theorem ml_L_125 : Cond.methodLink R_L 125 y_M_lay ∈ TB := tb_t 1062 (by decide +kernel) rfl
theorem ml_L_129 : Cond.methodLink R_L 129 y_M_judge ∈ TB := tb_t 1066 (by decide +kernel) rfl
theorem ml_L_133 : Cond.methodLink R_L 133 y_M_image ∈ TB := tb_t 1070 (by decide +kernel) rfl
theorem ml_L_137 : Cond.methodLink R_L 137 y_M_undo ∈ TB := tb_t 1074 (by decide +kernel) rfl
theorem ml_L_141 : Cond.methodLink R_L 141 y_M_count ∈ TB := tb_t 1078 (by decide +kernel) rfl
theorem kl_L_110 : Cond.constantLong R_L 110 (4294967295) ∈ TB := tb_t 1082 (by decide +kernel) rfl
/-- the links between nest mates: they do not keep by themselves, and ride with the world -/
def nestW : List (String × Nat × MethodName × String) := [(R_P, 13, y_B_init, R_P), (R_P, 30, y_X_init, R_P), (R_P, 37, y_O_init, R_P), (R_P, 44, y_H_init, R_P), (R_B, 49, y_P_isTeeth, R_P), (R_B, 59, y_P_isShift, R_P), (R_B, 155, y_P_root, R_P), (R_B, 143, y_P_partOf, R_P), (R_T, 33, y_P_partOf, R_P)]
theorem nw_P_13 : (R_P, 13, y_B_init, R_P) ∈ nestW := List.mem_of_getElem? (i := 0) rfl
theorem nw_P_30 : (R_P, 30, y_X_init, R_P) ∈ nestW := List.mem_of_getElem? (i := 1) rfl
theorem nw_P_37 : (R_P, 37, y_O_init, R_P) ∈ nestW := List.mem_of_getElem? (i := 2) rfl
theorem nw_P_44 : (R_P, 44, y_H_init, R_P) ∈ nestW := List.mem_of_getElem? (i := 3) rfl
theorem nw_B_49 : (R_B, 49, y_P_isTeeth, R_P) ∈ nestW := List.mem_of_getElem? (i := 4) rfl
theorem nw_B_59 : (R_B, 59, y_P_isShift, R_P) ∈ nestW := List.mem_of_getElem? (i := 5) rfl
theorem nw_B_155 : (R_B, 155, y_P_root, R_P) ∈ nestW := List.mem_of_getElem? (i := 6) rfl
theorem nw_B_143 : (R_B, 143, y_P_partOf, R_P) ∈ nestW := List.mem_of_getElem? (i := 7) rfl
theorem nw_T_33 : (R_T, 33, y_P_partOf, R_P) ∈ nestW := List.mem_of_getElem? (i := 8) rfl
theorem nest_tbl : ∀ q ∈ nestW, Cond.methodLinkNest q.1 q.2.1 q.2.2.1 q.2.2.2 ∈ lw_tbl := List.forall_mem_cons.mpr ⟨List.mem_of_getElem? (i := 71) (by decide +kernel), List.forall_mem_cons.mpr ⟨List.mem_of_getElem? (i := 107) (by decide +kernel), List.forall_mem_cons.mpr ⟨List.mem_of_getElem? (i := 135) (by decide +kernel), List.forall_mem_cons.mpr ⟨List.mem_of_getElem? (i := 149) (by decide +kernel), List.forall_mem_cons.mpr ⟨List.mem_of_getElem? (i := 205) (by decide +kernel), List.forall_mem_cons.mpr ⟨List.mem_of_getElem? (i := 235) (by decide +kernel), List.forall_mem_cons.mpr ⟨List.mem_of_getElem? (i := 373) (by decide +kernel), List.forall_mem_cons.mpr ⟨List.mem_of_getElem? (i := 460) (by decide +kernel), List.forall_mem_cons.mpr ⟨List.mem_of_getElem? (i := 517) (by decide +kernel), fun _ h => absurd h List.not_mem_nil⟩⟩⟩⟩⟩⟩⟩⟩⟩
end
section
theorem d_B_init_0 : decode b_B_init 0 = .ok (.aload_n 0, 1) := by decide +kernel
theorem d_B_init_1 : decode b_B_init 1 = .ok (.invokespecial 3, 3) := by decide +kernel
theorem d_B_init_4 : decode b_B_init 4 = .ok (.aload_n 0, 1) := by decide +kernel
theorem d_B_init_5 : decode b_B_init 5 = .ok (.new 9, 3) := by decide +kernel
theorem d_B_init_8 : decode b_B_init 8 = .ok (.dup, 1) := by decide +kernel
theorem d_B_init_9 : decode b_B_init 9 = .ok (.bipush 16, 2) := by decide +kernel
theorem d_B_init_11 : decode b_B_init 11 = .ok (.invokespecial 11, 3) := by decide +kernel
theorem d_B_init_14 : decode b_B_init 14 = .ok (.putfield 14, 3) := by decide +kernel
theorem d_B_init_17 : decode b_B_init 17 = .ok (.aload_n 0, 1) := by decide +kernel
theorem d_B_init_18 : decode b_B_init 18 = .ok (.new 9, 3) := by decide +kernel
theorem d_B_init_21 : decode b_B_init 21 = .ok (.dup, 1) := by decide +kernel
theorem d_B_init_22 : decode b_B_init 22 = .ok (.bipush 16, 2) := by decide +kernel
theorem d_B_init_24 : decode b_B_init 24 = .ok (.invokespecial 11, 3) := by decide +kernel
theorem d_B_init_27 : decode b_B_init 27 = .ok (.putfield 20, 3) := by decide +kernel
theorem d_B_init_30 : decode b_B_init 30 = .ok (.aload_n 0, 1) := by decide +kernel
theorem d_B_init_31 : decode b_B_init 31 = .ok (.new 9, 3) := by decide +kernel
theorem d_B_init_34 : decode b_B_init 34 = .ok (.dup, 1) := by decide +kernel
theorem d_B_init_35 : decode b_B_init 35 = .ok (.bipush 9, 2) := by decide +kernel
theorem d_B_init_37 : decode b_B_init 37 = .ok (.invokespecial 11, 3) := by decide +kernel
theorem d_B_init_40 : decode b_B_init 40 = .ok (.putfield 23, 3) := by decide +kernel
theorem d_B_init_43 : decode b_B_init 43 = .ok (.aload_n 0, 1) := by decide +kernel
theorem d_B_init_44 : decode b_B_init 44 = .ok (.new 9, 3) := by decide +kernel
theorem d_B_init_47 : decode b_B_init 47 = .ok (.dup, 1) := by decide +kernel
theorem d_B_init_48 : decode b_B_init 48 = .ok (.bipush 9, 2) := by decide +kernel
theorem d_B_init_50 : decode b_B_init 50 = .ok (.invokespecial 11, 3) := by decide +kernel
theorem d_B_init_53 : decode b_B_init 53 = .ok (.putfield 26, 3) := by decide +kernel
theorem d_B_init_56 : decode b_B_init 56 = .ok (.aload_n 0, 1) := by decide +kernel
theorem d_B_init_57 : decode b_B_init 57 = .ok (.iconst 1, 1) := by decide +kernel
theorem d_B_init_58 : decode b_B_init 58 = .ok (.putfield 29, 3) := by decide +kernel
theorem d_B_init_61 : decode b_B_init 61 = .ok (.return_, 1) := by decide +kernel
theorem d_B_become_0 : decode b_B_become 0 = .ok (.aload_n 0, 1) := by decide +kernel
theorem d_B_become_1 : decode b_B_become 1 = .ok (.getfield 14, 3) := by decide +kernel
theorem d_B_become_4 : decode b_B_become 4 = .ok (.aload_n 1, 1) := by decide +kernel
theorem d_B_become_5 : decode b_B_become 5 = .ok (.getfield 14, 3) := by decide +kernel
theorem d_B_become_8 : decode b_B_become 8 = .ok (.invokevirtual 33, 3) := by decide +kernel
theorem d_B_become_11 : decode b_B_become 11 = .ok (.aload_n 0, 1) := by decide +kernel
theorem d_B_become_12 : decode b_B_become 12 = .ok (.getfield 20, 3) := by decide +kernel
theorem d_B_become_15 : decode b_B_become 15 = .ok (.aload_n 1, 1) := by decide +kernel
theorem d_B_become_16 : decode b_B_become 16 = .ok (.getfield 20, 3) := by decide +kernel
theorem d_B_become_19 : decode b_B_become 19 = .ok (.invokevirtual 33, 3) := by decide +kernel
theorem d_B_become_22 : decode b_B_become 22 = .ok (.aload_n 0, 1) := by decide +kernel
theorem d_B_become_23 : decode b_B_become 23 = .ok (.getfield 23, 3) := by decide +kernel
theorem d_B_become_26 : decode b_B_become 26 = .ok (.aload_n 1, 1) := by decide +kernel
theorem d_B_become_27 : decode b_B_become 27 = .ok (.getfield 23, 3) := by decide +kernel
theorem d_B_become_30 : decode b_B_become 30 = .ok (.invokevirtual 33, 3) := by decide +kernel
theorem d_B_become_33 : decode b_B_become 33 = .ok (.aload_n 0, 1) := by decide +kernel
theorem d_B_become_34 : decode b_B_become 34 = .ok (.getfield 26, 3) := by decide +kernel
theorem d_B_become_37 : decode b_B_become 37 = .ok (.aload_n 1, 1) := by decide +kernel
theorem d_B_become_38 : decode b_B_become 38 = .ok (.getfield 26, 3) := by decide +kernel
theorem d_B_become_41 : decode b_B_become 41 = .ok (.invokevirtual 33, 3) := by decide +kernel
theorem d_B_become_44 : decode b_B_become 44 = .ok (.aload_n 0, 1) := by decide +kernel
theorem d_B_become_45 : decode b_B_become 45 = .ok (.aload_n 1, 1) := by decide +kernel
theorem d_B_become_46 : decode b_B_become 46 = .ok (.getfield 29, 3) := by decide +kernel
theorem d_B_become_49 : decode b_B_become 49 = .ok (.putfield 29, 3) := by decide +kernel
theorem d_B_become_52 : decode b_B_become 52 = .ok (.return_, 1) := by decide +kernel
theorem d_B_size_0 : decode b_B_size 0 = .ok (.aload_n 0, 1) := by decide +kernel
theorem d_B_size_1 : decode b_B_size 1 = .ok (.getfield 14, 3) := by decide +kernel
theorem d_B_size_4 : decode b_B_size 4 = .ok (.invokevirtual 37, 3) := by decide +kernel
theorem d_B_size_7 : decode b_B_size 7 = .ok (.ireturn, 1) := by decide +kernel
theorem d_B_hasWheel_0 : decode b_B_hasWheel 0 = .ok (.aload_n 0, 1) := by decide +kernel
theorem d_B_hasWheel_1 : decode b_B_hasWheel 1 = .ok (.getfield 14, 3) := by decide +kernel
theorem d_B_hasWheel_4 : decode b_B_hasWheel 4 = .ok (.iload_n 1, 1) := by decide +kernel
theorem d_B_hasWheel_5 : decode b_B_hasWheel 5 = .ok (.invokevirtual 41, 3) := by decide +kernel
theorem d_B_hasWheel_8 : decode b_B_hasWheel 8 = .ok (.ireturn, 1) := by decide +kernel
theorem d_B_teethOf_0 : decode b_B_teethOf 0 = .ok (.aload_n 0, 1) := by decide +kernel
theorem d_B_teethOf_1 : decode b_B_teethOf 1 = .ok (.getfield 14, 3) := by decide +kernel
theorem d_B_teethOf_4 : decode b_B_teethOf 4 = .ok (.iload_n 1, 1) := by decide +kernel
theorem d_B_teethOf_5 : decode b_B_teethOf 5 = .ok (.invokevirtual 45, 3) := by decide +kernel
theorem d_B_teethOf_8 : decode b_B_teethOf 8 = .ok (.ireturn, 1) := by decide +kernel
theorem d_B_pressureNow_0 : decode b_B_pressureNow 0 = .ok (.aload_n 0, 1) := by decide +kernel
theorem d_B_pressureNow_1 : decode b_B_pressureNow 1 = .ok (.getfield 29, 3) := by decide +kernel
theorem d_B_pressureNow_4 : decode b_B_pressureNow 4 = .ok (.ireturn, 1) := by decide +kernel
theorem d_B_pairsInTrain_0 : decode b_B_pairsInTrain 0 = .ok (.aload_n 0, 1) := by decide +kernel
theorem d_B_pairsInTrain_1 : decode b_B_pairsInTrain 1 = .ok (.getfield 23, 3) := by decide +kernel
theorem d_B_pairsInTrain_4 : decode b_B_pairsInTrain 4 = .ok (.invokevirtual 37, 3) := by decide +kernel
theorem d_B_pairsInTrain_7 : decode b_B_pairsInTrain 7 = .ok (.ireturn, 1) := by decide +kernel
theorem d_B_addWheel_0 : decode b_B_addWheel 0 = .ok (.iload_n 1, 1) := by decide +kernel
theorem d_B_addWheel_1 : decode b_B_addWheel 1 = .ok (.invokestatic 49, 3) := by decide +kernel
theorem d_B_addWheel_4 : decode b_B_addWheel 4 = .ok (.ifCond .ne 5, 3) := by decide +kernel
theorem d_B_addWheel_7 : decode b_B_addWheel 7 = .ok (.iconst (-1), 1) := by decide +kernel
theorem d_B_addWheel_8 : decode b_B_addWheel 8 = .ok (.ireturn, 1) := by decide +kernel
theorem d_B_addWheel_9 : decode b_B_addWheel 9 = .ok (.aload_n 0, 1) := by decide +kernel
theorem d_B_addWheel_10 : decode b_B_addWheel 10 = .ok (.getfield 14, 3) := by decide +kernel
theorem d_B_addWheel_13 : decode b_B_addWheel 13 = .ok (.invokevirtual 52, 3) := by decide +kernel
theorem d_B_addWheel_16 : decode b_B_addWheel 16 = .ok (.ifCond .eq 6, 3) := by decide +kernel
theorem d_B_addWheel_19 : decode b_B_addWheel 19 = .ok (.bipush (-3), 2) := by decide +kernel
theorem d_B_addWheel_21 : decode b_B_addWheel 21 = .ok (.ireturn, 1) := by decide +kernel
theorem d_B_addWheel_22 : decode b_B_addWheel 22 = .ok (.aload_n 0, 1) := by decide +kernel
theorem d_B_addWheel_23 : decode b_B_addWheel 23 = .ok (.getfield 14, 3) := by decide +kernel
theorem d_B_addWheel_26 : decode b_B_addWheel 26 = .ok (.iload_n 1, 1) := by decide +kernel
theorem d_B_addWheel_27 : decode b_B_addWheel 27 = .ok (.invokevirtual 56, 3) := by decide +kernel
theorem d_B_addWheel_30 : decode b_B_addWheel 30 = .ok (.aload_n 0, 1) := by decide +kernel
theorem d_B_addWheel_31 : decode b_B_addWheel 31 = .ok (.getfield 20, 3) := by decide +kernel
theorem d_B_addWheel_34 : decode b_B_addWheel 34 = .ok (.iconst 0, 1) := by decide +kernel
theorem d_B_addWheel_35 : decode b_B_addWheel 35 = .ok (.invokevirtual 56, 3) := by decide +kernel
theorem d_B_addWheel_38 : decode b_B_addWheel 38 = .ok (.aload_n 0, 1) := by decide +kernel
theorem d_B_addWheel_39 : decode b_B_addWheel 39 = .ok (.getfield 14, 3) := by decide +kernel
theorem d_B_addWheel_42 : decode b_B_addWheel 42 = .ok (.invokevirtual 37, 3) := by decide +kernel
theorem d_B_addWheel_45 : decode b_B_addWheel 45 = .ok (.iconst 1, 1) := by decide +kernel
theorem d_B_addWheel_46 : decode b_B_addWheel 46 = .ok (.isub, 1) := by decide +kernel
theorem d_B_addWheel_47 : decode b_B_addWheel 47 = .ok (.ireturn, 1) := by decide +kernel
theorem d_B_setShift_0 : decode b_B_setShift 0 = .ok (.aload_n 0, 1) := by decide +kernel
theorem d_B_setShift_1 : decode b_B_setShift 1 = .ok (.getfield 14, 3) := by decide +kernel
theorem d_B_setShift_4 : decode b_B_setShift 4 = .ok (.iload_n 1, 1) := by decide +kernel
theorem d_B_setShift_5 : decode b_B_setShift 5 = .ok (.invokevirtual 41, 3) := by decide +kernel
theorem d_B_setShift_8 : decode b_B_setShift 8 = .ok (.ifCond .eq 10, 3) := by decide +kernel
theorem d_B_setShift_11 : decode b_B_setShift 11 = .ok (.iload_n 2, 1) := by decide +kernel
theorem d_B_setShift_12 : decode b_B_setShift 12 = .ok (.invokestatic 59, 3) := by decide +kernel
theorem d_B_setShift_15 : decode b_B_setShift 15 = .ok (.ifCond .ne 7, 3) := by decide +kernel
theorem d_B_setShift_18 : decode b_B_setShift 18 = .ok (.sipush (-1000), 3) := by decide +kernel
theorem d_B_setShift_21 : decode b_B_setShift 21 = .ok (.ireturn, 1) := by decide +kernel
theorem d_B_setShift_22 : decode b_B_setShift 22 = .ok (.aload_n 0, 1) := by decide +kernel
theorem d_B_setShift_23 : decode b_B_setShift 23 = .ok (.getfield 20, 3) := by decide +kernel
theorem d_B_setShift_26 : decode b_B_setShift 26 = .ok (.iload_n 1, 1) := by decide +kernel
theorem d_B_setShift_27 : decode b_B_setShift 27 = .ok (.invokevirtual 45, 3) := by decide +kernel
theorem d_B_setShift_30 : decode b_B_setShift 30 = .ok (.istore_n 3, 1) := by decide +kernel
theorem d_B_setShift_31 : decode b_B_setShift 31 = .ok (.aload_n 0, 1) := by decide +kernel
theorem d_B_setShift_32 : decode b_B_setShift 32 = .ok (.getfield 20, 3) := by decide +kernel
theorem d_B_setShift_35 : decode b_B_setShift 35 = .ok (.iload_n 1, 1) := by decide +kernel
theorem d_B_setShift_36 : decode b_B_setShift 36 = .ok (.iload_n 2, 1) := by decide +kernel
theorem d_B_setShift_37 : decode b_B_setShift 37 = .ok (.invokevirtual 62, 3) := by decide +kernel
theorem d_B_setShift_40 : decode b_B_setShift 40 = .ok (.iload_n 3, 1) := by decide +kernel
theorem d_B_setShift_41 : decode b_B_setShift 41 = .ok (.ireturn, 1) := by decide +kernel
theorem d_B_setPressure_0 : decode b_B_setPressure 0 = .ok (.iload_n 1, 1) := by decide +kernel
theorem d_B_setPressure_1 : decode b_B_setPressure 1 = .ok (.ifCond .lt 8, 3) := by decide +kernel
theorem d_B_setPressure_4 : decode b_B_setPressure 4 = .ok (.iload_n 1, 1) := by decide +kernel
theorem d_B_setPressure_5 : decode b_B_setPressure 5 = .ok (.iconst 2, 1) := by decide +kernel
theorem d_B_setPressure_6 : decode b_B_setPressure 6 = .ok (.if_icmp .le 5, 3) := by decide +kernel
theorem d_B_setPressure_9 : decode b_B_setPressure 9 = .ok (.iconst (-1), 1) := by decide +kernel
theorem d_B_setPressure_10 : decode b_B_setPressure 10 = .ok (.ireturn, 1) := by decide +kernel
theorem d_B_setPressure_11 : decode b_B_setPressure 11 = .ok (.aload_n 0, 1) := by decide +kernel
theorem d_B_setPressure_12 : decode b_B_setPressure 12 = .ok (.getfield 29, 3) := by decide +kernel
theorem d_B_setPressure_15 : decode b_B_setPressure 15 = .ok (.istore_n 2, 1) := by decide +kernel
theorem d_B_setPressure_16 : decode b_B_setPressure 16 = .ok (.aload_n 0, 1) := by decide +kernel
theorem d_B_setPressure_17 : decode b_B_setPressure 17 = .ok (.iload_n 1, 1) := by decide +kernel
theorem d_B_setPressure_18 : decode b_B_setPressure 18 = .ok (.putfield 29, 3) := by decide +kernel
theorem d_B_setPressure_21 : decode b_B_setPressure 21 = .ok (.iload_n 2, 1) := by decide +kernel
theorem d_B_setPressure_22 : decode b_B_setPressure 22 = .ok (.ireturn, 1) := by decide +kernel
theorem d_B_addPair_0 : decode b_B_addPair 0 = .ok (.aload_n 0, 1) := by decide +kernel
theorem d_B_addPair_1 : decode b_B_addPair 1 = .ok (.iload_n 1, 1) := by decide +kernel
theorem d_B_addPair_2 : decode b_B_addPair 2 = .ok (.iload_n 2, 1) := by decide +kernel
theorem d_B_addPair_3 : decode b_B_addPair 3 = .ok (.invokevirtual 66, 3) := by decide +kernel
theorem d_B_addPair_6 : decode b_B_addPair 6 = .ok (.ifCond .ne 5, 3) := by decide +kernel
theorem d_B_addPair_9 : decode b_B_addPair 9 = .ok (.iconst (-1), 1) := by decide +kernel
theorem d_B_addPair_10 : decode b_B_addPair 10 = .ok (.ireturn, 1) := by decide +kernel
theorem d_B_addPair_11 : decode b_B_addPair 11 = .ok (.aload_n 0, 1) := by decide +kernel
theorem d_B_addPair_12 : decode b_B_addPair 12 = .ok (.getfield 23, 3) := by decide +kernel
theorem d_B_addPair_15 : decode b_B_addPair 15 = .ok (.invokevirtual 52, 3) := by decide +kernel
theorem d_B_addPair_18 : decode b_B_addPair 18 = .ok (.ifCond .eq 6, 3) := by decide +kernel
theorem d_B_addPair_21 : decode b_B_addPair 21 = .ok (.bipush (-3), 2) := by decide +kernel
theorem d_B_addPair_23 : decode b_B_addPair 23 = .ok (.ireturn, 1) := by decide +kernel
theorem d_B_addPair_24 : decode b_B_addPair 24 = .ok (.aload_n 0, 1) := by decide +kernel
theorem d_B_addPair_25 : decode b_B_addPair 25 = .ok (.getfield 23, 3) := by decide +kernel
theorem d_B_addPair_28 : decode b_B_addPair 28 = .ok (.iload_n 1, 1) := by decide +kernel
theorem d_B_addPair_29 : decode b_B_addPair 29 = .ok (.invokevirtual 56, 3) := by decide +kernel
theorem d_B_addPair_32 : decode b_B_addPair 32 = .ok (.aload_n 0, 1) := by decide +kernel
theorem d_B_addPair_33 : decode b_B_addPair 33 = .ok (.getfield 26, 3) := by decide +kernel
theorem d_B_addPair_36 : decode b_B_addPair 36 = .ok (.iload_n 2, 1) := by decide +kernel
theorem d_B_addPair_37 : decode b_B_addPair 37 = .ok (.invokevirtual 56, 3) := by decide +kernel
theorem d_B_addPair_40 : decode b_B_addPair 40 = .ok (.aload_n 0, 1) := by decide +kernel
theorem d_B_addPair_41 : decode b_B_addPair 41 = .ok (.getfield 23, 3) := by decide +kernel
theorem d_B_addPair_44 : decode b_B_addPair 44 = .ok (.invokevirtual 37, 3) := by decide +kernel
theorem d_B_addPair_47 : decode b_B_addPair 47 = .ok (.ireturn, 1) := by decide +kernel
theorem d_B_emptyTrain_0 : decode b_B_emptyTrain 0 = .ok (.aload_n 0, 1) := by decide +kernel
theorem d_B_emptyTrain_1 : decode b_B_emptyTrain 1 = .ok (.getfield 23, 3) := by decide +kernel
theorem d_B_emptyTrain_4 : decode b_B_emptyTrain 4 = .ok (.invokevirtual 37, 3) := by decide +kernel
theorem d_B_emptyTrain_7 : decode b_B_emptyTrain 7 = .ok (.istore_n 1, 1) := by decide +kernel
theorem d_B_emptyTrain_8 : decode b_B_emptyTrain 8 = .ok (.aload_n 0, 1) := by decide +kernel
theorem d_B_emptyTrain_9 : decode b_B_emptyTrain 9 = .ok (.getfield 23, 3) := by decide +kernel
theorem d_B_emptyTrain_12 : decode b_B_emptyTrain 12 = .ok (.invokevirtual 70, 3) := by decide +kernel
theorem d_B_emptyTrain_15 : decode b_B_emptyTrain 15 = .ok (.aload_n 0, 1) := by decide +kernel
theorem d_B_emptyTrain_16 : decode b_B_emptyTrain 16 = .ok (.getfield 26, 3) := by decide +kernel
theorem d_B_emptyTrain_19 : decode b_B_emptyTrain 19 = .ok (.invokevirtual 70, 3) := by decide +kernel
theorem d_B_emptyTrain_22 : decode b_B_emptyTrain 22 = .ok (.iload_n 1, 1) := by decide +kernel
theorem d_B_emptyTrain_23 : decode b_B_emptyTrain 23 = .ok (.ireturn, 1) := by decide +kernel
theorem d_B_does_0 : decode b_B_does 0 = .ok (.iload_n 1, 1) := by decide +kernel
theorem d_B_does_1 : decode b_B_does 1 = .ok (.tableswitch 126 112 120 #[83, 126, 126, 65, 98, 126, 126, 51, 113], 51) := by decide +kernel
theorem d_B_does_52 : decode b_B_does 52 = .ok (.aload_n 0, 1) := by decide +kernel
theorem d_B_does_53 : decode b_B_does 53 = .ok (.iload_n 2, 1) := by decide +kernel
theorem d_B_does_54 : decode b_B_does 54 = .ok (.invokevirtual 73, 3) := by decide +kernel
theorem d_B_does_57 : decode b_B_does 57 = .ok (.ifCond .lt 7, 3) := by decide +kernel
theorem d_B_does_60 : decode b_B_does 60 = .ok (.iconst 1, 1) := by decide +kernel
theorem d_B_does_61 : decode b_B_does 61 = .ok (.goto 4, 3) := by decide +kernel
theorem d_B_does_64 : decode b_B_does 64 = .ok (.iconst 0, 1) := by decide +kernel
theorem d_B_does_65 : decode b_B_does 65 = .ok (.ireturn, 1) := by decide +kernel
theorem d_B_does_66 : decode b_B_does 66 = .ok (.aload_n 0, 1) := by decide +kernel
theorem d_B_does_67 : decode b_B_does 67 = .ok (.iload_n 2, 1) := by decide +kernel
theorem d_B_does_68 : decode b_B_does 68 = .ok (.iload_n 3, 1) := by decide +kernel
theorem d_B_does_69 : decode b_B_does 69 = .ok (.invokevirtual 76, 3) := by decide +kernel
theorem d_B_does_72 : decode b_B_does 72 = .ok (.sipush (-1000), 3) := by decide +kernel
theorem d_B_does_75 : decode b_B_does 75 = .ok (.if_icmp .eq 7, 3) := by decide +kernel
theorem d_B_does_78 : decode b_B_does 78 = .ok (.iconst 1, 1) := by decide +kernel
theorem d_B_does_79 : decode b_B_does 79 = .ok (.goto 4, 3) := by decide +kernel
theorem d_B_does_82 : decode b_B_does 82 = .ok (.iconst 0, 1) := by decide +kernel
theorem d_B_does_83 : decode b_B_does 83 = .ok (.ireturn, 1) := by decide +kernel
theorem d_B_does_84 : decode b_B_does 84 = .ok (.aload_n 0, 1) := by decide +kernel
theorem d_B_does_85 : decode b_B_does 85 = .ok (.iload_n 2, 1) := by decide +kernel
theorem d_B_does_86 : decode b_B_does 86 = .ok (.invokevirtual 80, 3) := by decide +kernel
theorem d_B_does_89 : decode b_B_does 89 = .ok (.iconst (-1), 1) := by decide +kernel
theorem d_B_does_90 : decode b_B_does 90 = .ok (.if_icmp .eq 7, 3) := by decide +kernel
theorem d_B_does_93 : decode b_B_does 93 = .ok (.iconst 1, 1) := by decide +kernel
theorem d_B_does_94 : decode b_B_does 94 = .ok (.goto 4, 3) := by decide +kernel
theorem d_B_does_97 : decode b_B_does 97 = .ok (.iconst 0, 1) := by decide +kernel
theorem d_B_does_98 : decode b_B_does 98 = .ok (.ireturn, 1) := by decide +kernel
theorem d_B_does_99 : decode b_B_does 99 = .ok (.aload_n 0, 1) := by decide +kernel
theorem d_B_does_100 : decode b_B_does 100 = .ok (.iload_n 2, 1) := by decide +kernel
theorem d_B_does_101 : decode b_B_does 101 = .ok (.iload_n 3, 1) := by decide +kernel
theorem d_B_does_102 : decode b_B_does 102 = .ok (.invokevirtual 83, 3) := by decide +kernel
theorem d_B_does_105 : decode b_B_does 105 = .ok (.ifCond .lt 7, 3) := by decide +kernel
theorem d_B_does_108 : decode b_B_does 108 = .ok (.iconst 1, 1) := by decide +kernel
theorem d_B_does_109 : decode b_B_does 109 = .ok (.goto 4, 3) := by decide +kernel
theorem d_B_does_112 : decode b_B_does 112 = .ok (.iconst 0, 1) := by decide +kernel
theorem d_B_does_113 : decode b_B_does 113 = .ok (.ireturn, 1) := by decide +kernel
theorem d_B_does_114 : decode b_B_does 114 = .ok (.aload_n 0, 1) := by decide +kernel
theorem d_B_does_115 : decode b_B_does 115 = .ok (.invokevirtual 86, 3) := by decide +kernel
theorem d_B_does_118 : decode b_B_does 118 = .ok (.ifCond .lt 7, 3) := by decide +kernel
theorem d_B_does_121 : decode b_B_does 121 = .ok (.iconst 1, 1) := by decide +kernel
theorem d_B_does_122 : decode b_B_does 122 = .ok (.goto 4, 3) := by decide +kernel
theorem d_B_does_125 : decode b_B_does 125 = .ok (.iconst 0, 1) := by decide +kernel
theorem d_B_does_126 : decode b_B_does 126 = .ok (.ireturn, 1) := by decide +kernel
theorem d_B_does_127 : decode b_B_does 127 = .ok (.iconst 0, 1) := by decide +kernel
theorem d_B_does_128 : decode b_B_does 128 = .ok (.ireturn, 1) := by decide +kernel
theorem d_B_told_0 : decode b_B_told 0 = .ok (.iload_n 2, 1) := by decide +kernel
theorem d_B_told_1 : decode b_B_told 1 = .ok (.tableswitch 97 0 5 #[39, 48, 57, 71, 85, 91], 39) := by decide +kernel
theorem d_B_told_40 : decode b_B_told 40 = .ok (.aload_n 0, 1) := by decide +kernel
theorem d_B_told_41 : decode b_B_told 41 = .ok (.getfield 14, 3) := by decide +kernel
theorem d_B_told_44 : decode b_B_told 44 = .ok (.iload_n 1, 1) := by decide +kernel
theorem d_B_told_45 : decode b_B_told 45 = .ok (.invokevirtual 45, 3) := by decide +kernel
theorem d_B_told_48 : decode b_B_told 48 = .ok (.ireturn, 1) := by decide +kernel
theorem d_B_told_49 : decode b_B_told 49 = .ok (.aload_n 0, 1) := by decide +kernel
theorem d_B_told_50 : decode b_B_told 50 = .ok (.getfield 20, 3) := by decide +kernel
theorem d_B_told_53 : decode b_B_told 53 = .ok (.iload_n 1, 1) := by decide +kernel
theorem d_B_told_54 : decode b_B_told 54 = .ok (.invokevirtual 45, 3) := by decide +kernel
theorem d_B_told_57 : decode b_B_told 57 = .ok (.ireturn, 1) := by decide +kernel
theorem d_B_told_58 : decode b_B_told 58 = .ok (.aload_n 0, 1) := by decide +kernel
theorem d_B_told_59 : decode b_B_told 59 = .ok (.iload_n 1, 1) := by decide +kernel
theorem d_B_told_60 : decode b_B_told 60 = .ok (.invokevirtual 89, 3) := by decide +kernel
theorem d_B_told_63 : decode b_B_told 63 = .ok (.ifCond .eq 7, 3) := by decide +kernel
theorem d_B_told_66 : decode b_B_told 66 = .ok (.iconst 1, 1) := by decide +kernel
theorem d_B_told_67 : decode b_B_told 67 = .ok (.goto 4, 3) := by decide +kernel
theorem d_B_told_70 : decode b_B_told 70 = .ok (.iconst 0, 1) := by decide +kernel
theorem d_B_told_71 : decode b_B_told 71 = .ok (.ireturn, 1) := by decide +kernel
theorem d_B_told_72 : decode b_B_told 72 = .ok (.aload_n 0, 1) := by decide +kernel
theorem d_B_told_73 : decode b_B_told 73 = .ok (.iload_n 1, 1) := by decide +kernel
theorem d_B_told_74 : decode b_B_told 74 = .ok (.invokevirtual 92, 3) := by decide +kernel
theorem d_B_told_77 : decode b_B_told 77 = .ok (.ifCond .eq 7, 3) := by decide +kernel
theorem d_B_told_80 : decode b_B_told 80 = .ok (.iconst 1, 1) := by decide +kernel
theorem d_B_told_81 : decode b_B_told 81 = .ok (.goto 4, 3) := by decide +kernel
theorem d_B_told_84 : decode b_B_told 84 = .ok (.iconst 0, 1) := by decide +kernel
theorem d_B_told_85 : decode b_B_told 85 = .ok (.ireturn, 1) := by decide +kernel
theorem d_B_told_86 : decode b_B_told 86 = .ok (.aload_n 0, 1) := by decide +kernel
theorem d_B_told_87 : decode b_B_told 87 = .ok (.iload_n 1, 1) := by decide +kernel
theorem d_B_told_88 : decode b_B_told 88 = .ok (.invokevirtual 95, 3) := by decide +kernel
theorem d_B_told_91 : decode b_B_told 91 = .ok (.ireturn, 1) := by decide +kernel
theorem d_B_told_92 : decode b_B_told 92 = .ok (.aload_n 0, 1) := by decide +kernel
theorem d_B_told_93 : decode b_B_told 93 = .ok (.iload_n 1, 1) := by decide +kernel
theorem d_B_told_94 : decode b_B_told 94 = .ok (.invokevirtual 98, 3) := by decide +kernel
theorem d_B_told_97 : decode b_B_told 97 = .ok (.ireturn, 1) := by decide +kernel
theorem d_B_told_98 : decode b_B_told 98 = .ok (.sipush (-1000), 3) := by decide +kernel
theorem d_B_told_101 : decode b_B_told 101 = .ok (.ireturn, 1) := by decide +kernel
theorem d_B_square_0 : decode b_B_square 0 = .ok (.aload_n 0, 1) := by decide +kernel
theorem d_B_square_1 : decode b_B_square 1 = .ok (.getfield 29, 3) := by decide +kernel
theorem d_B_square_4 : decode b_B_square 4 = .ok (.lookupswitch 36 #[(0, 28), (1, 32)], 28) := by decide +kernel
theorem d_B_square_32 : decode b_B_square 32 = .ok (.sipush 627, 3) := by decide +kernel
theorem d_B_square_35 : decode b_B_square 35 = .ok (.ireturn, 1) := by decide +kernel
theorem d_B_square_36 : decode b_B_square 36 = .ok (.sipush 1170, 3) := by decide +kernel
theorem d_B_square_39 : decode b_B_square 39 = .ok (.ireturn, 1) := by decide +kernel
theorem d_B_square_40 : decode b_B_square 40 = .ok (.sipush 1786, 3) := by decide +kernel
theorem d_B_square_43 : decode b_B_square 43 = .ok (.ireturn, 1) := by decide +kernel
theorem d_B_isRing_0 : decode b_B_isRing 0 = .ok (.aload_n 0, 1) := by decide +kernel
theorem d_B_isRing_1 : decode b_B_isRing 1 = .ok (.getfield 14, 3) := by decide +kernel
theorem d_B_isRing_4 : decode b_B_isRing 4 = .ok (.iload_n 1, 1) := by decide +kernel
theorem d_B_isRing_5 : decode b_B_isRing 5 = .ok (.invokevirtual 45, 3) := by decide +kernel
theorem d_B_isRing_8 : decode b_B_isRing 8 = .ok (.ifCond .ge 7, 3) := by decide +kernel
theorem d_B_isRing_11 : decode b_B_isRing 11 = .ok (.iconst 1, 1) := by decide +kernel
theorem d_B_isRing_12 : decode b_B_isRing 12 = .ok (.goto 4, 3) := by decide +kernel
theorem d_B_isRing_15 : decode b_B_isRing 15 = .ok (.iconst 0, 1) := by decide +kernel
theorem d_B_isRing_16 : decode b_B_isRing 16 = .ok (.ireturn, 1) := by decide +kernel
theorem d_B_keepsLimit_0 : decode b_B_keepsLimit 0 = .ok (.iload_n 1, 1) := by decide +kernel
theorem d_B_keepsLimit_1 : decode b_B_keepsLimit 1 = .ok (.aload_n 0, 1) := by decide +kernel
theorem d_B_keepsLimit_2 : decode b_B_keepsLimit 2 = .ok (.invokevirtual 101, 3) := by decide +kernel
theorem d_B_keepsLimit_5 : decode b_B_keepsLimit 5 = .ok (.imul, 1) := by decide +kernel
theorem d_B_keepsLimit_6 : decode b_B_keepsLimit 6 = .ok (.sipush 200, 3) := by decide +kernel
theorem d_B_keepsLimit_9 : decode b_B_keepsLimit 9 = .ok (.bipush 100, 2) := by decide +kernel
theorem d_B_keepsLimit_11 : decode b_B_keepsLimit 11 = .ok (.iload_n 2, 1) := by decide +kernel
theorem d_B_keepsLimit_12 : decode b_B_keepsLimit 12 = .ok (.isub, 1) := by decide +kernel
theorem d_B_keepsLimit_13 : decode b_B_keepsLimit 13 = .ok (.imul, 1) := by decide +kernel
theorem d_B_keepsLimit_14 : decode b_B_keepsLimit 14 = .ok (.if_icmp .lt 7, 3) := by decide +kernel
theorem d_B_keepsLimit_17 : decode b_B_keepsLimit 17 = .ok (.iconst 1, 1) := by decide +kernel
theorem d_B_keepsLimit_18 : decode b_B_keepsLimit 18 = .ok (.goto 4, 3) := by decide +kernel
theorem d_B_keepsLimit_21 : decode b_B_keepsLimit 21 = .ok (.iconst 0, 1) := by decide +kernel
theorem d_B_keepsLimit_22 : decode b_B_keepsLimit 22 = .ok (.ireturn, 1) := by decide +kernel
theorem d_B_isUndercut_0 : decode b_B_isUndercut 0 = .ok (.aload_n 0, 1) := by decide +kernel
theorem d_B_isUndercut_1 : decode b_B_isUndercut 1 = .ok (.iload_n 1, 1) := by decide +kernel
theorem d_B_isUndercut_2 : decode b_B_isUndercut 2 = .ok (.invokevirtual 104, 3) := by decide +kernel
theorem d_B_isUndercut_5 : decode b_B_isUndercut 5 = .ok (.ifCond .ne 30, 3) := by decide +kernel
theorem d_B_isUndercut_8 : decode b_B_isUndercut 8 = .ok (.aload_n 0, 1) := by decide +kernel
theorem d_B_isUndercut_9 : decode b_B_isUndercut 9 = .ok (.aload_n 0, 1) := by decide +kernel
theorem d_B_isUndercut_10 : decode b_B_isUndercut 10 = .ok (.getfield 14, 3) := by decide +kernel
theorem d_B_isUndercut_13 : decode b_B_isUndercut 13 = .ok (.iload_n 1, 1) := by decide +kernel
theorem d_B_isUndercut_14 : decode b_B_isUndercut 14 = .ok (.invokevirtual 45, 3) := by decide +kernel
theorem d_B_isUndercut_17 : decode b_B_isUndercut 17 = .ok (.aload_n 0, 1) := by decide +kernel
theorem d_B_isUndercut_18 : decode b_B_isUndercut 18 = .ok (.getfield 20, 3) := by decide +kernel
theorem d_B_isUndercut_21 : decode b_B_isUndercut 21 = .ok (.iload_n 1, 1) := by decide +kernel
theorem d_B_isUndercut_22 : decode b_B_isUndercut 22 = .ok (.invokevirtual 45, 3) := by decide +kernel
theorem d_B_isUndercut_25 : decode b_B_isUndercut 25 = .ok (.invokevirtual 107, 3) := by decide +kernel
theorem d_B_isUndercut_28 : decode b_B_isUndercut 28 = .ok (.ifCond .ne 7, 3) := by decide +kernel
theorem d_B_isUndercut_31 : decode b_B_isUndercut 31 = .ok (.iconst 1, 1) := by decide +kernel
theorem d_B_isUndercut_32 : decode b_B_isUndercut 32 = .ok (.goto 4, 3) := by decide +kernel
theorem d_B_isUndercut_35 : decode b_B_isUndercut 35 = .ok (.iconst 0, 1) := by decide +kernel
theorem d_B_isUndercut_36 : decode b_B_isUndercut 36 = .ok (.ireturn, 1) := by decide +kernel
theorem d_B_isPointed_0 : decode b_B_isPointed 0 = .ok (.aload_n 0, 1) := by decide +kernel
theorem d_B_isPointed_1 : decode b_B_isPointed 1 = .ok (.iload_n 1, 1) := by decide +kernel
theorem d_B_isPointed_2 : decode b_B_isPointed 2 = .ok (.invokevirtual 104, 3) := by decide +kernel
theorem d_B_isPointed_5 : decode b_B_isPointed 5 = .ok (.ifCond .ne 31, 3) := by decide +kernel
theorem d_B_isPointed_8 : decode b_B_isPointed 8 = .ok (.aload_n 0, 1) := by decide +kernel
theorem d_B_isPointed_9 : decode b_B_isPointed 9 = .ok (.getfield 20, 3) := by decide +kernel
theorem d_B_isPointed_12 : decode b_B_isPointed 12 = .ok (.iload_n 1, 1) := by decide +kernel
theorem d_B_isPointed_13 : decode b_B_isPointed 13 = .ok (.invokevirtual 45, 3) := by decide +kernel
theorem d_B_isPointed_16 : decode b_B_isPointed 16 = .ok (.iconst 5, 1) := by decide +kernel
theorem d_B_isPointed_17 : decode b_B_isPointed 17 = .ok (.aload_n 0, 1) := by decide +kernel
theorem d_B_isPointed_18 : decode b_B_isPointed 18 = .ok (.getfield 14, 3) := by decide +kernel
theorem d_B_isPointed_21 : decode b_B_isPointed 21 = .ok (.iload_n 1, 1) := by decide +kernel
theorem d_B_isPointed_22 : decode b_B_isPointed 22 = .ok (.invokevirtual 45, 3) := by decide +kernel
theorem d_B_isPointed_25 : decode b_B_isPointed 25 = .ok (.imul, 1) := by decide +kernel
theorem d_B_isPointed_26 : decode b_B_isPointed 26 = .ok (.bipush 10, 2) := by decide +kernel
theorem d_B_isPointed_28 : decode b_B_isPointed 28 = .ok (.isub, 1) := by decide +kernel
theorem d_B_isPointed_29 : decode b_B_isPointed 29 = .ok (.if_icmp .le 7, 3) := by decide +kernel
theorem d_B_isPointed_32 : decode b_B_isPointed 32 = .ok (.iconst 1, 1) := by decide +kernel
theorem d_B_isPointed_33 : decode b_B_isPointed 33 = .ok (.goto 4, 3) := by decide +kernel
theorem d_B_isPointed_36 : decode b_B_isPointed 36 = .ok (.iconst 0, 1) := by decide +kernel
theorem d_B_isPointed_37 : decode b_B_isPointed 37 = .ok (.ireturn, 1) := by decide +kernel
theorem d_B_leastShift_0 : decode b_B_leastShift 0 = .ok (.aload_n 0, 1) := by decide +kernel
theorem d_B_leastShift_1 : decode b_B_leastShift 1 = .ok (.iload_n 1, 1) := by decide +kernel
theorem d_B_leastShift_2 : decode b_B_leastShift 2 = .ok (.invokevirtual 104, 3) := by decide +kernel
theorem d_B_leastShift_5 : decode b_B_leastShift 5 = .ok (.ifCond .eq 7, 3) := by decide +kernel
theorem d_B_leastShift_8 : decode b_B_leastShift 8 = .ok (.sipush (-1001), 3) := by decide +kernel
theorem d_B_leastShift_11 : decode b_B_leastShift 11 = .ok (.ireturn, 1) := by decide +kernel
theorem d_B_leastShift_12 : decode b_B_leastShift 12 = .ok (.bipush (-50), 2) := by decide +kernel
theorem d_B_leastShift_14 : decode b_B_leastShift 14 = .ok (.istore_n 2, 1) := by decide +kernel
theorem d_B_leastShift_15 : decode b_B_leastShift 15 = .ok (.iload_n 2, 1) := by decide +kernel
theorem d_B_leastShift_16 : decode b_B_leastShift 16 = .ok (.bipush 100, 2) := by decide +kernel
theorem d_B_leastShift_18 : decode b_B_leastShift 18 = .ok (.if_icmp .gt 27, 3) := by decide +kernel
theorem d_B_leastShift_21 : decode b_B_leastShift 21 = .ok (.aload_n 0, 1) := by decide +kernel
theorem d_B_leastShift_22 : decode b_B_leastShift 22 = .ok (.aload_n 0, 1) := by decide +kernel
theorem d_B_leastShift_23 : decode b_B_leastShift 23 = .ok (.getfield 14, 3) := by decide +kernel
theorem d_B_leastShift_26 : decode b_B_leastShift 26 = .ok (.iload_n 1, 1) := by decide +kernel
theorem d_B_leastShift_27 : decode b_B_leastShift 27 = .ok (.invokevirtual 45, 3) := by decide +kernel
theorem d_B_leastShift_30 : decode b_B_leastShift 30 = .ok (.iload_n 2, 1) := by decide +kernel
theorem d_B_leastShift_31 : decode b_B_leastShift 31 = .ok (.invokevirtual 107, 3) := by decide +kernel
theorem d_B_leastShift_34 : decode b_B_leastShift 34 = .ok (.ifCond .eq 5, 3) := by decide +kernel
theorem d_B_leastShift_37 : decode b_B_leastShift 37 = .ok (.iload_n 2, 1) := by decide +kernel
theorem d_B_leastShift_38 : decode b_B_leastShift 38 = .ok (.ireturn, 1) := by decide +kernel
theorem d_B_leastShift_39 : decode b_B_leastShift 39 = .ok (.iinc 2 1, 3) := by decide +kernel
theorem d_B_leastShift_42 : decode b_B_leastShift 42 = .ok (.goto (-27), 3) := by decide +kernel
theorem d_B_leastShift_45 : decode b_B_leastShift 45 = .ok (.sipush (-1001), 3) := by decide +kernel
theorem d_B_leastShift_48 : decode b_B_leastShift 48 = .ok (.ireturn, 1) := by decide +kernel
theorem d_B_pairsWith_0 : decode b_B_pairsWith 0 = .ok (.iconst 0, 1) := by decide +kernel
theorem d_B_pairsWith_1 : decode b_B_pairsWith 1 = .ok (.istore_n 2, 1) := by decide +kernel
theorem d_B_pairsWith_2 : decode b_B_pairsWith 2 = .ok (.iconst 0, 1) := by decide +kernel
theorem d_B_pairsWith_3 : decode b_B_pairsWith 3 = .ok (.istore_n 3, 1) := by decide +kernel
theorem d_B_pairsWith_4 : decode b_B_pairsWith 4 = .ok (.iload_n 3, 1) := by decide +kernel
theorem d_B_pairsWith_5 : decode b_B_pairsWith 5 = .ok (.aload_n 0, 1) := by decide +kernel
theorem d_B_pairsWith_6 : decode b_B_pairsWith 6 = .ok (.getfield 23, 3) := by decide +kernel
theorem d_B_pairsWith_9 : decode b_B_pairsWith 9 = .ok (.invokevirtual 37, 3) := by decide +kernel
theorem d_B_pairsWith_12 : decode b_B_pairsWith 12 = .ok (.if_icmp .ge 36, 3) := by decide +kernel
theorem d_B_pairsWith_15 : decode b_B_pairsWith 15 = .ok (.aload_n 0, 1) := by decide +kernel
theorem d_B_pairsWith_16 : decode b_B_pairsWith 16 = .ok (.getfield 23, 3) := by decide +kernel
theorem d_B_pairsWith_19 : decode b_B_pairsWith 19 = .ok (.iload_n 3, 1) := by decide +kernel
theorem d_B_pairsWith_20 : decode b_B_pairsWith 20 = .ok (.invokevirtual 45, 3) := by decide +kernel
theorem d_B_pairsWith_23 : decode b_B_pairsWith 23 = .ok (.iload_n 1, 1) := by decide +kernel
theorem d_B_pairsWith_24 : decode b_B_pairsWith 24 = .ok (.if_icmp .eq 15, 3) := by decide +kernel
theorem d_B_pairsWith_27 : decode b_B_pairsWith 27 = .ok (.aload_n 0, 1) := by decide +kernel
theorem d_B_pairsWith_28 : decode b_B_pairsWith 28 = .ok (.getfield 26, 3) := by decide +kernel
theorem d_B_pairsWith_31 : decode b_B_pairsWith 31 = .ok (.iload_n 3, 1) := by decide +kernel
theorem d_B_pairsWith_32 : decode b_B_pairsWith 32 = .ok (.invokevirtual 45, 3) := by decide +kernel
theorem d_B_pairsWith_35 : decode b_B_pairsWith 35 = .ok (.iload_n 1, 1) := by decide +kernel
theorem d_B_pairsWith_36 : decode b_B_pairsWith 36 = .ok (.if_icmp .ne 6, 3) := by decide +kernel
theorem d_B_pairsWith_39 : decode b_B_pairsWith 39 = .ok (.iinc 2 1, 3) := by decide +kernel
theorem d_B_pairsWith_42 : decode b_B_pairsWith 42 = .ok (.iinc 3 1, 3) := by decide +kernel
theorem d_B_pairsWith_45 : decode b_B_pairsWith 45 = .ok (.goto (-41), 3) := by decide +kernel
theorem d_B_pairsWith_48 : decode b_B_pairsWith 48 = .ok (.iload_n 2, 1) := by decide +kernel
theorem d_B_pairsWith_49 : decode b_B_pairsWith 49 = .ok (.ireturn, 1) := by decide +kernel
theorem d_B_fewestTeeth_0 : decode b_B_fewestTeeth 0 = .ok (.iconst 5, 1) := by decide +kernel
theorem d_B_fewestTeeth_1 : decode b_B_fewestTeeth 1 = .ok (.istore_n 2, 1) := by decide +kernel
theorem d_B_fewestTeeth_2 : decode b_B_fewestTeeth 2 = .ok (.iload_n 2, 1) := by decide +kernel
theorem d_B_fewestTeeth_3 : decode b_B_fewestTeeth 3 = .ok (.bipush 99, 2) := by decide +kernel
theorem d_B_fewestTeeth_5 : decode b_B_fewestTeeth 5 = .ok (.if_icmp .gt 20, 3) := by decide +kernel
theorem d_B_fewestTeeth_8 : decode b_B_fewestTeeth 8 = .ok (.aload_n 0, 1) := by decide +kernel
theorem d_B_fewestTeeth_9 : decode b_B_fewestTeeth 9 = .ok (.iload_n 2, 1) := by decide +kernel
theorem d_B_fewestTeeth_10 : decode b_B_fewestTeeth 10 = .ok (.iload_n 1, 1) := by decide +kernel
theorem d_B_fewestTeeth_11 : decode b_B_fewestTeeth 11 = .ok (.invokevirtual 107, 3) := by decide +kernel
theorem d_B_fewestTeeth_14 : decode b_B_fewestTeeth 14 = .ok (.ifCond .eq 5, 3) := by decide +kernel
theorem d_B_fewestTeeth_17 : decode b_B_fewestTeeth 17 = .ok (.iload_n 2, 1) := by decide +kernel
theorem d_B_fewestTeeth_18 : decode b_B_fewestTeeth 18 = .ok (.ireturn, 1) := by decide +kernel
theorem d_B_fewestTeeth_19 : decode b_B_fewestTeeth 19 = .ok (.iinc 2 1, 3) := by decide +kernel
theorem d_B_fewestTeeth_22 : decode b_B_fewestTeeth 22 = .ok (.goto (-20), 3) := by decide +kernel
theorem d_B_fewestTeeth_25 : decode b_B_fewestTeeth 25 = .ok (.bipush (-2), 2) := by decide +kernel
theorem d_B_fewestTeeth_27 : decode b_B_fewestTeeth 27 = .ok (.ireturn, 1) := by decide +kernel
theorem d_B_wheelsThatAre_0 : decode b_B_wheelsThatAre 0 = .ok (.iconst 0, 1) := by decide +kernel
theorem d_B_wheelsThatAre_1 : decode b_B_wheelsThatAre 1 = .ok (.istore_n 2, 1) := by decide +kernel
theorem d_B_wheelsThatAre_2 : decode b_B_wheelsThatAre 2 = .ok (.iconst 0, 1) := by decide +kernel
theorem d_B_wheelsThatAre_3 : decode b_B_wheelsThatAre 3 = .ok (.istore_n 3, 1) := by decide +kernel
theorem d_B_wheelsThatAre_4 : decode b_B_wheelsThatAre 4 = .ok (.iload_n 3, 1) := by decide +kernel
theorem d_B_wheelsThatAre_5 : decode b_B_wheelsThatAre 5 = .ok (.aload_n 0, 1) := by decide +kernel
theorem d_B_wheelsThatAre_6 : decode b_B_wheelsThatAre 6 = .ok (.getfield 14, 3) := by decide +kernel
theorem d_B_wheelsThatAre_9 : decode b_B_wheelsThatAre 9 = .ok (.invokevirtual 37, 3) := by decide +kernel
theorem d_B_wheelsThatAre_12 : decode b_B_wheelsThatAre 12 = .ok (.if_icmp .ge 21, 3) := by decide +kernel
theorem d_B_wheelsThatAre_15 : decode b_B_wheelsThatAre 15 = .ok (.aload_n 0, 1) := by decide +kernel
theorem d_B_wheelsThatAre_16 : decode b_B_wheelsThatAre 16 = .ok (.iload_n 3, 1) := by decide +kernel
theorem d_B_wheelsThatAre_17 : decode b_B_wheelsThatAre 17 = .ok (.iload_n 1, 1) := by decide +kernel
theorem d_B_wheelsThatAre_18 : decode b_B_wheelsThatAre 18 = .ok (.invokevirtual 110, 3) := by decide +kernel
theorem d_B_wheelsThatAre_21 : decode b_B_wheelsThatAre 21 = .ok (.ifCond .eq 6, 3) := by decide +kernel
theorem d_B_wheelsThatAre_24 : decode b_B_wheelsThatAre 24 = .ok (.iinc 2 1, 3) := by decide +kernel
theorem d_B_wheelsThatAre_27 : decode b_B_wheelsThatAre 27 = .ok (.iinc 3 1, 3) := by decide +kernel
theorem d_B_wheelsThatAre_30 : decode b_B_wheelsThatAre 30 = .ok (.goto (-26), 3) := by decide +kernel
theorem d_B_wheelsThatAre_33 : decode b_B_wheelsThatAre 33 = .ok (.iload_n 2, 1) := by decide +kernel
theorem d_B_wheelsThatAre_34 : decode b_B_wheelsThatAre 34 = .ok (.ireturn, 1) := by decide +kernel
theorem d_B_is_0 : decode b_B_is 0 = .ok (.iload_n 2, 1) := by decide +kernel
theorem d_B_is_1 : decode b_B_is 1 = .ok (.tableswitch 45 0 2 #[27, 33, 39], 27) := by decide +kernel
theorem d_B_is_28 : decode b_B_is 28 = .ok (.aload_n 0, 1) := by decide +kernel
theorem d_B_is_29 : decode b_B_is 29 = .ok (.iload_n 1, 1) := by decide +kernel
theorem d_B_is_30 : decode b_B_is 30 = .ok (.invokevirtual 89, 3) := by decide +kernel
theorem d_B_is_33 : decode b_B_is 33 = .ok (.ireturn, 1) := by decide +kernel
theorem d_B_is_34 : decode b_B_is 34 = .ok (.aload_n 0, 1) := by decide +kernel
theorem d_B_is_35 : decode b_B_is 35 = .ok (.iload_n 1, 1) := by decide +kernel
theorem d_B_is_36 : decode b_B_is 36 = .ok (.invokevirtual 92, 3) := by decide +kernel
theorem d_B_is_39 : decode b_B_is 39 = .ok (.ireturn, 1) := by decide +kernel
theorem d_B_is_40 : decode b_B_is 40 = .ok (.aload_n 0, 1) := by decide +kernel
theorem d_B_is_41 : decode b_B_is 41 = .ok (.iload_n 1, 1) := by decide +kernel
theorem d_B_is_42 : decode b_B_is 42 = .ok (.invokevirtual 104, 3) := by decide +kernel
theorem d_B_is_45 : decode b_B_is 45 = .ok (.ireturn, 1) := by decide +kernel
theorem d_B_is_46 : decode b_B_is 46 = .ok (.aload_n 0, 1) := by decide +kernel
theorem d_B_is_47 : decode b_B_is 47 = .ok (.iload_n 1, 1) := by decide +kernel
theorem d_B_is_48 : decode b_B_is 48 = .ok (.invokevirtual 113, 3) := by decide +kernel
theorem d_B_is_51 : decode b_B_is 51 = .ok (.ireturn, 1) := by decide +kernel
theorem d_B_isFirstOfItsTeeth_0 : decode b_B_isFirstOfItsTeeth 0 = .ok (.iconst 0, 1) := by decide +kernel
theorem d_B_isFirstOfItsTeeth_1 : decode b_B_isFirstOfItsTeeth 1 = .ok (.istore_n 2, 1) := by decide +kernel
theorem d_B_isFirstOfItsTeeth_2 : decode b_B_isFirstOfItsTeeth 2 = .ok (.iload_n 2, 1) := by decide +kernel
theorem d_B_isFirstOfItsTeeth_3 : decode b_B_isFirstOfItsTeeth 3 = .ok (.iload_n 1, 1) := by decide +kernel
theorem d_B_isFirstOfItsTeeth_4 : decode b_B_isFirstOfItsTeeth 4 = .ok (.if_icmp .ge 30, 3) := by decide +kernel
theorem d_B_isFirstOfItsTeeth_7 : decode b_B_isFirstOfItsTeeth 7 = .ok (.aload_n 0, 1) := by decide +kernel
theorem d_B_isFirstOfItsTeeth_8 : decode b_B_isFirstOfItsTeeth 8 = .ok (.getfield 14, 3) := by decide +kernel
theorem d_B_isFirstOfItsTeeth_11 : decode b_B_isFirstOfItsTeeth 11 = .ok (.iload_n 2, 1) := by decide +kernel
theorem d_B_isFirstOfItsTeeth_12 : decode b_B_isFirstOfItsTeeth 12 = .ok (.invokevirtual 45, 3) := by decide +kernel
theorem d_B_isFirstOfItsTeeth_15 : decode b_B_isFirstOfItsTeeth 15 = .ok (.aload_n 0, 1) := by decide +kernel
theorem d_B_isFirstOfItsTeeth_16 : decode b_B_isFirstOfItsTeeth 16 = .ok (.getfield 14, 3) := by decide +kernel
theorem d_B_isFirstOfItsTeeth_19 : decode b_B_isFirstOfItsTeeth 19 = .ok (.iload_n 1, 1) := by decide +kernel
theorem d_B_isFirstOfItsTeeth_20 : decode b_B_isFirstOfItsTeeth 20 = .ok (.invokevirtual 45, 3) := by decide +kernel
theorem d_B_isFirstOfItsTeeth_23 : decode b_B_isFirstOfItsTeeth 23 = .ok (.if_icmp .ne 5, 3) := by decide +kernel
theorem d_B_isFirstOfItsTeeth_26 : decode b_B_isFirstOfItsTeeth 26 = .ok (.iconst 0, 1) := by decide +kernel
theorem d_B_isFirstOfItsTeeth_27 : decode b_B_isFirstOfItsTeeth 27 = .ok (.ireturn, 1) := by decide +kernel
theorem d_B_isFirstOfItsTeeth_28 : decode b_B_isFirstOfItsTeeth 28 = .ok (.iinc 2 1, 3) := by decide +kernel
theorem d_B_isFirstOfItsTeeth_31 : decode b_B_isFirstOfItsTeeth 31 = .ok (.goto (-29), 3) := by decide +kernel
theorem d_B_isFirstOfItsTeeth_34 : decode b_B_isFirstOfItsTeeth 34 = .ok (.iconst 1, 1) := by decide +kernel
theorem d_B_isFirstOfItsTeeth_35 : decode b_B_isFirstOfItsTeeth 35 = .ok (.ireturn, 1) := by decide +kernel
theorem d_B_outwardTeeth_0 : decode b_B_outwardTeeth 0 = .ok (.iconst 0, 1) := by decide +kernel
theorem d_B_outwardTeeth_1 : decode b_B_outwardTeeth 1 = .ok (.istore_n 1, 1) := by decide +kernel
theorem d_B_outwardTeeth_2 : decode b_B_outwardTeeth 2 = .ok (.iconst 0, 1) := by decide +kernel
theorem d_B_outwardTeeth_3 : decode b_B_outwardTeeth 3 = .ok (.istore_n 2, 1) := by decide +kernel
theorem d_B_outwardTeeth_4 : decode b_B_outwardTeeth 4 = .ok (.iload_n 2, 1) := by decide +kernel
theorem d_B_outwardTeeth_5 : decode b_B_outwardTeeth 5 = .ok (.aload_n 0, 1) := by decide +kernel
theorem d_B_outwardTeeth_6 : decode b_B_outwardTeeth 6 = .ok (.getfield 14, 3) := by decide +kernel
theorem d_B_outwardTeeth_9 : decode b_B_outwardTeeth 9 = .ok (.invokevirtual 37, 3) := by decide +kernel
theorem d_B_outwardTeeth_12 : decode b_B_outwardTeeth 12 = .ok (.if_icmp .ge 24, 3) := by decide +kernel
theorem d_B_outwardTeeth_15 : decode b_B_outwardTeeth 15 = .ok (.iload_n 1, 1) := by decide +kernel
theorem d_B_outwardTeeth_16 : decode b_B_outwardTeeth 16 = .ok (.iconst 0, 1) := by decide +kernel
theorem d_B_outwardTeeth_17 : decode b_B_outwardTeeth 17 = .ok (.aload_n 0, 1) := by decide +kernel
theorem d_B_outwardTeeth_18 : decode b_B_outwardTeeth 18 = .ok (.getfield 14, 3) := by decide +kernel
theorem d_B_outwardTeeth_21 : decode b_B_outwardTeeth 21 = .ok (.iload_n 2, 1) := by decide +kernel
theorem d_B_outwardTeeth_22 : decode b_B_outwardTeeth 22 = .ok (.invokevirtual 45, 3) := by decide +kernel
theorem d_B_outwardTeeth_25 : decode b_B_outwardTeeth 25 = .ok (.invokestatic 116, 3) := by decide +kernel
theorem d_B_outwardTeeth_28 : decode b_B_outwardTeeth 28 = .ok (.iadd, 1) := by decide +kernel
theorem d_B_outwardTeeth_29 : decode b_B_outwardTeeth 29 = .ok (.istore_n 1, 1) := by decide +kernel
theorem d_B_outwardTeeth_30 : decode b_B_outwardTeeth 30 = .ok (.iinc 2 1, 3) := by decide +kernel
theorem d_B_outwardTeeth_33 : decode b_B_outwardTeeth 33 = .ok (.goto (-29), 3) := by decide +kernel
theorem d_B_outwardTeeth_36 : decode b_B_outwardTeeth 36 = .ok (.iload_n 1, 1) := by decide +kernel
theorem d_B_outwardTeeth_37 : decode b_B_outwardTeeth 37 = .ok (.ireturn, 1) := by decide +kernel
theorem d_B_hasRing_0 : decode b_B_hasRing 0 = .ok (.aload_n 0, 1) := by decide +kernel
theorem d_B_hasRing_1 : decode b_B_hasRing 1 = .ok (.iload_n 1, 1) := by decide +kernel
theorem d_B_hasRing_2 : decode b_B_hasRing 2 = .ok (.invokevirtual 104, 3) := by decide +kernel
theorem d_B_hasRing_5 : decode b_B_hasRing 5 = .ok (.ifCond .ne 11, 3) := by decide +kernel
theorem d_B_hasRing_8 : decode b_B_hasRing 8 = .ok (.aload_n 0, 1) := by decide +kernel
theorem d_B_hasRing_9 : decode b_B_hasRing 9 = .ok (.iload_n 2, 1) := by decide +kernel
theorem d_B_hasRing_10 : decode b_B_hasRing 10 = .ok (.invokevirtual 104, 3) := by decide +kernel
theorem d_B_hasRing_13 : decode b_B_hasRing 13 = .ok (.ifCond .eq 7, 3) := by decide +kernel
theorem d_B_hasRing_16 : decode b_B_hasRing 16 = .ok (.iconst 1, 1) := by decide +kernel
theorem d_B_hasRing_17 : decode b_B_hasRing 17 = .ok (.goto 4, 3) := by decide +kernel
theorem d_B_hasRing_20 : decode b_B_hasRing 20 = .ok (.iconst 0, 1) := by decide +kernel
theorem d_B_hasRing_21 : decode b_B_hasRing 21 = .ok (.ireturn, 1) := by decide +kernel
theorem d_B_canPair_0 : decode b_B_canPair 0 = .ok (.aload_n 0, 1) := by decide +kernel
theorem d_B_canPair_1 : decode b_B_canPair 1 = .ok (.iload_n 1, 1) := by decide +kernel
theorem d_B_canPair_2 : decode b_B_canPair 2 = .ok (.invokevirtual 121, 3) := by decide +kernel
theorem d_B_canPair_5 : decode b_B_canPair 5 = .ok (.ifCond .eq 36, 3) := by decide +kernel
theorem d_B_canPair_8 : decode b_B_canPair 8 = .ok (.aload_n 0, 1) := by decide +kernel
theorem d_B_canPair_9 : decode b_B_canPair 9 = .ok (.iload_n 2, 1) := by decide +kernel
theorem d_B_canPair_10 : decode b_B_canPair 10 = .ok (.invokevirtual 121, 3) := by decide +kernel
theorem d_B_canPair_13 : decode b_B_canPair 13 = .ok (.ifCond .eq 28, 3) := by decide +kernel
theorem d_B_canPair_16 : decode b_B_canPair 16 = .ok (.iload_n 1, 1) := by decide +kernel
theorem d_B_canPair_17 : decode b_B_canPair 17 = .ok (.iload_n 2, 1) := by decide +kernel
theorem d_B_canPair_18 : decode b_B_canPair 18 = .ok (.if_icmp .eq 23, 3) := by decide +kernel
theorem d_B_canPair_21 : decode b_B_canPair 21 = .ok (.aload_n 0, 1) := by decide +kernel
theorem d_B_canPair_22 : decode b_B_canPair 22 = .ok (.iload_n 1, 1) := by decide +kernel
theorem d_B_canPair_23 : decode b_B_canPair 23 = .ok (.invokevirtual 104, 3) := by decide +kernel
theorem d_B_canPair_26 : decode b_B_canPair 26 = .ok (.ifCond .eq 11, 3) := by decide +kernel
theorem d_B_canPair_29 : decode b_B_canPair 29 = .ok (.aload_n 0, 1) := by decide +kernel
theorem d_B_canPair_30 : decode b_B_canPair 30 = .ok (.iload_n 2, 1) := by decide +kernel
theorem d_B_canPair_31 : decode b_B_canPair 31 = .ok (.invokevirtual 104, 3) := by decide +kernel
theorem d_B_canPair_34 : decode b_B_canPair 34 = .ok (.ifCond .ne 7, 3) := by decide +kernel
theorem d_B_canPair_37 : decode b_B_canPair 37 = .ok (.iconst 1, 1) := by decide +kernel
theorem d_B_canPair_38 : decode b_B_canPair 38 = .ok (.goto 4, 3) := by decide +kernel
theorem d_B_canPair_41 : decode b_B_canPair 41 = .ok (.iconst 0, 1) := by decide +kernel
theorem d_B_canPair_42 : decode b_B_canPair 42 = .ok (.ireturn, 1) := by decide +kernel
theorem d_B_clashes_0 : decode b_B_clashes 0 = .ok (.aload_n 0, 1) := by decide +kernel
theorem d_B_clashes_1 : decode b_B_clashes 1 = .ok (.iload_n 1, 1) := by decide +kernel
theorem d_B_clashes_2 : decode b_B_clashes 2 = .ok (.iload_n 2, 1) := by decide +kernel
theorem d_B_clashes_3 : decode b_B_clashes 3 = .ok (.invokevirtual 124, 3) := by decide +kernel
theorem d_B_clashes_6 : decode b_B_clashes 6 = .ok (.ifCond .eq 29, 3) := by decide +kernel
theorem d_B_clashes_9 : decode b_B_clashes 9 = .ok (.aload_n 0, 1) := by decide +kernel
theorem d_B_clashes_10 : decode b_B_clashes 10 = .ok (.getfield 14, 3) := by decide +kernel
theorem d_B_clashes_13 : decode b_B_clashes 13 = .ok (.iload_n 1, 1) := by decide +kernel
theorem d_B_clashes_14 : decode b_B_clashes 14 = .ok (.invokevirtual 45, 3) := by decide +kernel
theorem d_B_clashes_17 : decode b_B_clashes 17 = .ok (.aload_n 0, 1) := by decide +kernel
theorem d_B_clashes_18 : decode b_B_clashes 18 = .ok (.getfield 14, 3) := by decide +kernel
theorem d_B_clashes_21 : decode b_B_clashes 21 = .ok (.iload_n 2, 1) := by decide +kernel
theorem d_B_clashes_22 : decode b_B_clashes 22 = .ok (.invokevirtual 45, 3) := by decide +kernel
theorem d_B_clashes_25 : decode b_B_clashes 25 = .ok (.iadd, 1) := by decide +kernel
theorem d_B_clashes_26 : decode b_B_clashes 26 = .ok (.bipush (-8), 2) := by decide +kernel
theorem d_B_clashes_28 : decode b_B_clashes 28 = .ok (.if_icmp .le 7, 3) := by decide +kernel
theorem d_B_clashes_31 : decode b_B_clashes 31 = .ok (.iconst 1, 1) := by decide +kernel
theorem d_B_clashes_32 : decode b_B_clashes 32 = .ok (.goto 4, 3) := by decide +kernel
theorem d_B_clashes_35 : decode b_B_clashes 35 = .ok (.iconst 0, 1) := by decide +kernel
theorem d_B_clashes_36 : decode b_B_clashes 36 = .ok (.ireturn, 1) := by decide +kernel
theorem d_B_arm_0 : decode b_B_arm 0 = .ok (.bipush 50, 2) := by decide +kernel
theorem d_B_arm_2 : decode b_B_arm 2 = .ok (.aload_n 0, 1) := by decide +kernel
theorem d_B_arm_3 : decode b_B_arm 3 = .ok (.getfield 14, 3) := by decide +kernel
theorem d_B_arm_6 : decode b_B_arm 6 = .ok (.iload_n 1, 1) := by decide +kernel
theorem d_B_arm_7 : decode b_B_arm 7 = .ok (.invokevirtual 45, 3) := by decide +kernel
theorem d_B_arm_10 : decode b_B_arm 10 = .ok (.invokestatic 127, 3) := by decide +kernel
theorem d_B_arm_13 : decode b_B_arm 13 = .ok (.imul, 1) := by decide +kernel
theorem d_B_arm_14 : decode b_B_arm 14 = .ok (.aload_n 0, 1) := by decide +kernel
theorem d_B_arm_15 : decode b_B_arm 15 = .ok (.getfield 20, 3) := by decide +kernel
theorem d_B_arm_18 : decode b_B_arm 18 = .ok (.iload_n 1, 1) := by decide +kernel
theorem d_B_arm_19 : decode b_B_arm 19 = .ok (.invokevirtual 45, 3) := by decide +kernel
theorem d_B_arm_22 : decode b_B_arm 22 = .ok (.iadd, 1) := by decide +kernel
theorem d_B_arm_23 : decode b_B_arm 23 = .ok (.ireturn, 1) := by decide +kernel
theorem d_B_hundredths_0 : decode b_B_hundredths 0 = .ok (.aload_n 0, 1) := by decide +kernel
theorem d_B_hundredths_1 : decode b_B_hundredths 1 = .ok (.iload_n 1, 1) := by decide +kernel
theorem d_B_hundredths_2 : decode b_B_hundredths 2 = .ok (.invokevirtual 104, 3) := by decide +kernel
theorem d_B_hundredths_5 : decode b_B_hundredths 5 = .ok (.ifCond .eq 15, 3) := by decide +kernel
theorem d_B_hundredths_8 : decode b_B_hundredths 8 = .ok (.aload_n 0, 1) := by decide +kernel
theorem d_B_hundredths_9 : decode b_B_hundredths 9 = .ok (.iload_n 1, 1) := by decide +kernel
theorem d_B_hundredths_10 : decode b_B_hundredths 10 = .ok (.invokevirtual 130, 3) := by decide +kernel
theorem d_B_hundredths_13 : decode b_B_hundredths 13 = .ok (.aload_n 0, 1) := by decide +kernel
theorem d_B_hundredths_14 : decode b_B_hundredths 14 = .ok (.iload_n 2, 1) := by decide +kernel
theorem d_B_hundredths_15 : decode b_B_hundredths 15 = .ok (.invokevirtual 130, 3) := by decide +kernel
theorem d_B_hundredths_18 : decode b_B_hundredths 18 = .ok (.isub, 1) := by decide +kernel
theorem d_B_hundredths_19 : decode b_B_hundredths 19 = .ok (.ireturn, 1) := by decide +kernel
theorem d_B_hundredths_20 : decode b_B_hundredths 20 = .ok (.aload_n 0, 1) := by decide +kernel
theorem d_B_hundredths_21 : decode b_B_hundredths 21 = .ok (.iload_n 2, 1) := by decide +kernel
theorem d_B_hundredths_22 : decode b_B_hundredths 22 = .ok (.invokevirtual 104, 3) := by decide +kernel
theorem d_B_hundredths_25 : decode b_B_hundredths 25 = .ok (.ifCond .eq 17, 3) := by decide +kernel
theorem d_B_hundredths_28 : decode b_B_hundredths 28 = .ok (.aload_n 0, 1) := by decide +kernel
theorem d_B_hundredths_29 : decode b_B_hundredths 29 = .ok (.iload_n 2, 1) := by decide +kernel
theorem d_B_hundredths_30 : decode b_B_hundredths 30 = .ok (.invokevirtual 130, 3) := by decide +kernel
theorem d_B_hundredths_33 : decode b_B_hundredths 33 = .ok (.aload_n 0, 1) := by decide +kernel
theorem d_B_hundredths_34 : decode b_B_hundredths 34 = .ok (.iload_n 1, 1) := by decide +kernel
theorem d_B_hundredths_35 : decode b_B_hundredths 35 = .ok (.invokevirtual 130, 3) := by decide +kernel
theorem d_B_hundredths_38 : decode b_B_hundredths 38 = .ok (.isub, 1) := by decide +kernel
theorem d_B_hundredths_39 : decode b_B_hundredths 39 = .ok (.goto 14, 3) := by decide +kernel
theorem d_B_hundredths_42 : decode b_B_hundredths 42 = .ok (.aload_n 0, 1) := by decide +kernel
theorem d_B_hundredths_43 : decode b_B_hundredths 43 = .ok (.iload_n 1, 1) := by decide +kernel
theorem d_B_hundredths_44 : decode b_B_hundredths 44 = .ok (.invokevirtual 130, 3) := by decide +kernel
theorem d_B_hundredths_47 : decode b_B_hundredths 47 = .ok (.aload_n 0, 1) := by decide +kernel
theorem d_B_hundredths_48 : decode b_B_hundredths 48 = .ok (.iload_n 2, 1) := by decide +kernel
theorem d_B_hundredths_49 : decode b_B_hundredths 49 = .ok (.invokevirtual 130, 3) := by decide +kernel
theorem d_B_hundredths_52 : decode b_B_hundredths 52 = .ok (.iadd, 1) := by decide +kernel
theorem d_B_hundredths_53 : decode b_B_hundredths 53 = .ok (.ireturn, 1) := by decide +kernel
theorem d_B_shiftAt_0 : decode b_B_shiftAt 0 = .ok (.iload 4, 2) := by decide +kernel
theorem d_B_shiftAt_2 : decode b_B_shiftAt 2 = .ok (.ifCond .eq 13, 3) := by decide +kernel
theorem d_B_shiftAt_5 : decode b_B_shiftAt 5 = .ok (.bipush 100, 2) := by decide +kernel
theorem d_B_shiftAt_7 : decode b_B_shiftAt 7 = .ok (.iload_n 3, 1) := by decide +kernel
theorem d_B_shiftAt_8 : decode b_B_shiftAt 8 = .ok (.imul, 1) := by decide +kernel
theorem d_B_shiftAt_9 : decode b_B_shiftAt 9 = .ok (.iload 4, 2) := by decide +kernel
theorem d_B_shiftAt_11 : decode b_B_shiftAt 11 = .ok (.irem, 1) := by decide +kernel
theorem d_B_shiftAt_12 : decode b_B_shiftAt 12 = .ok (.ifCond .eq 7, 3) := by decide +kernel
theorem d_B_shiftAt_15 : decode b_B_shiftAt 15 = .ok (.sipush (-1001), 3) := by decide +kernel
theorem d_B_shiftAt_18 : decode b_B_shiftAt 18 = .ok (.ireturn, 1) := by decide +kernel
theorem d_B_shiftAt_19 : decode b_B_shiftAt 19 = .ok (.bipush 100, 2) := by decide +kernel
theorem d_B_shiftAt_21 : decode b_B_shiftAt 21 = .ok (.iload_n 3, 1) := by decide +kernel
theorem d_B_shiftAt_22 : decode b_B_shiftAt 22 = .ok (.imul, 1) := by decide +kernel
theorem d_B_shiftAt_23 : decode b_B_shiftAt 23 = .ok (.iload 4, 2) := by decide +kernel
theorem d_B_shiftAt_25 : decode b_B_shiftAt 25 = .ok (.idiv, 1) := by decide +kernel
theorem d_B_shiftAt_26 : decode b_B_shiftAt 26 = .ok (.istore 5, 2) := by decide +kernel
theorem d_B_shiftAt_28 : decode b_B_shiftAt 28 = .ok (.iload 5, 2) := by decide +kernel
theorem d_B_shiftAt_30 : decode b_B_shiftAt 30 = .ok (.aload_n 0, 1) := by decide +kernel
theorem d_B_shiftAt_31 : decode b_B_shiftAt 31 = .ok (.iload_n 2, 1) := by decide +kernel
theorem d_B_shiftAt_32 : decode b_B_shiftAt 32 = .ok (.invokevirtual 130, 3) := by decide +kernel
theorem d_B_shiftAt_35 : decode b_B_shiftAt 35 = .ok (.isub, 1) := by decide +kernel
theorem d_B_shiftAt_36 : decode b_B_shiftAt 36 = .ok (.istore 6, 2) := by decide +kernel
theorem d_B_shiftAt_38 : decode b_B_shiftAt 38 = .ok (.aload_n 0, 1) := by decide +kernel
theorem d_B_shiftAt_39 : decode b_B_shiftAt 39 = .ok (.iload_n 1, 1) := by decide +kernel
theorem d_B_shiftAt_40 : decode b_B_shiftAt 40 = .ok (.invokevirtual 104, 3) := by decide +kernel
theorem d_B_shiftAt_43 : decode b_B_shiftAt 43 = .ok (.ifCond .eq 16, 3) := by decide +kernel
theorem d_B_shiftAt_46 : decode b_B_shiftAt 46 = .ok (.iload 5, 2) := by decide +kernel
theorem d_B_shiftAt_48 : decode b_B_shiftAt 48 = .ok (.aload_n 0, 1) := by decide +kernel
theorem d_B_shiftAt_49 : decode b_B_shiftAt 49 = .ok (.iload_n 2, 1) := by decide +kernel
theorem d_B_shiftAt_50 : decode b_B_shiftAt 50 = .ok (.invokevirtual 130, 3) := by decide +kernel
theorem d_B_shiftAt_53 : decode b_B_shiftAt 53 = .ok (.iadd, 1) := by decide +kernel
theorem d_B_shiftAt_54 : decode b_B_shiftAt 54 = .ok (.istore 6, 2) := by decide +kernel
theorem d_B_shiftAt_56 : decode b_B_shiftAt 56 = .ok (.goto 21, 3) := by decide +kernel
theorem d_B_shiftAt_59 : decode b_B_shiftAt 59 = .ok (.aload_n 0, 1) := by decide +kernel
theorem d_B_shiftAt_60 : decode b_B_shiftAt 60 = .ok (.iload_n 2, 1) := by decide +kernel
theorem d_B_shiftAt_61 : decode b_B_shiftAt 61 = .ok (.invokevirtual 104, 3) := by decide +kernel
theorem d_B_shiftAt_64 : decode b_B_shiftAt 64 = .ok (.ifCond .eq 13, 3) := by decide +kernel
theorem d_B_shiftAt_67 : decode b_B_shiftAt 67 = .ok (.aload_n 0, 1) := by decide +kernel
theorem d_B_shiftAt_68 : decode b_B_shiftAt 68 = .ok (.iload_n 2, 1) := by decide +kernel
theorem d_B_shiftAt_69 : decode b_B_shiftAt 69 = .ok (.invokevirtual 130, 3) := by decide +kernel
theorem d_B_shiftAt_72 : decode b_B_shiftAt 72 = .ok (.iload 5, 2) := by decide +kernel
theorem d_B_shiftAt_74 : decode b_B_shiftAt 74 = .ok (.isub, 1) := by decide +kernel
theorem d_B_shiftAt_75 : decode b_B_shiftAt 75 = .ok (.istore 6, 2) := by decide +kernel
theorem d_B_shiftAt_77 : decode b_B_shiftAt 77 = .ok (.iload 6, 2) := by decide +kernel
theorem d_B_shiftAt_79 : decode b_B_shiftAt 79 = .ok (.bipush 50, 2) := by decide +kernel
theorem d_B_shiftAt_81 : decode b_B_shiftAt 81 = .ok (.aload_n 0, 1) := by decide +kernel
theorem d_B_shiftAt_82 : decode b_B_shiftAt 82 = .ok (.getfield 14, 3) := by decide +kernel
theorem d_B_shiftAt_85 : decode b_B_shiftAt 85 = .ok (.iload_n 1, 1) := by decide +kernel
theorem d_B_shiftAt_86 : decode b_B_shiftAt 86 = .ok (.invokevirtual 45, 3) := by decide +kernel
theorem d_B_shiftAt_89 : decode b_B_shiftAt 89 = .ok (.invokestatic 127, 3) := by decide +kernel
theorem d_B_shiftAt_92 : decode b_B_shiftAt 92 = .ok (.imul, 1) := by decide +kernel
theorem d_B_shiftAt_93 : decode b_B_shiftAt 93 = .ok (.isub, 1) := by decide +kernel
theorem d_B_shiftAt_94 : decode b_B_shiftAt 94 = .ok (.istore 7, 2) := by decide +kernel
theorem d_B_shiftAt_96 : decode b_B_shiftAt 96 = .ok (.iload 7, 2) := by decide +kernel
theorem d_B_shiftAt_98 : decode b_B_shiftAt 98 = .ok (.invokestatic 59, 3) := by decide +kernel
theorem d_B_shiftAt_101 : decode b_B_shiftAt 101 = .ok (.ifCond .eq 8, 3) := by decide +kernel
theorem d_B_shiftAt_104 : decode b_B_shiftAt 104 = .ok (.iload 7, 2) := by decide +kernel
theorem d_B_shiftAt_106 : decode b_B_shiftAt 106 = .ok (.goto 6, 3) := by decide +kernel
theorem d_B_shiftAt_109 : decode b_B_shiftAt 109 = .ok (.sipush (-1001), 3) := by decide +kernel
theorem d_B_shiftAt_112 : decode b_B_shiftAt 112 = .ok (.ireturn, 1) := by decide +kernel
theorem d_B_above_0 : decode b_B_above 0 = .ok (.aload_n 0, 1) := by decide +kernel
theorem d_B_above_1 : decode b_B_above 1 = .ok (.getfield 14, 3) := by decide +kernel
theorem d_B_above_4 : decode b_B_above 4 = .ok (.iload_n 2, 1) := by decide +kernel
theorem d_B_above_5 : decode b_B_above 5 = .ok (.invokevirtual 45, 3) := by decide +kernel
theorem d_B_above_8 : decode b_B_above 8 = .ok (.invokestatic 127, 3) := by decide +kernel
theorem d_B_above_11 : decode b_B_above 11 = .ok (.istore_n 3, 1) := by decide +kernel
theorem d_B_above_12 : decode b_B_above 12 = .ok (.aload_n 0, 1) := by decide +kernel
theorem d_B_above_13 : decode b_B_above 13 = .ok (.iload_n 1, 1) := by decide +kernel
theorem d_B_above_14 : decode b_B_above 14 = .ok (.iload_n 2, 1) := by decide +kernel
theorem d_B_above_15 : decode b_B_above 15 = .ok (.invokevirtual 124, 3) := by decide +kernel
theorem d_B_above_18 : decode b_B_above 18 = .ok (.ifCond .eq 8, 3) := by decide +kernel
theorem d_B_above_21 : decode b_B_above 21 = .ok (.iload_n 3, 1) := by decide +kernel
theorem d_B_above_22 : decode b_B_above 22 = .ok (.i2l, 1) := by decide +kernel
theorem d_B_above_23 : decode b_B_above 23 = .ok (.goto 6, 3) := by decide +kernel
theorem d_B_above_26 : decode b_B_above 26 = .ok (.iload_n 3, 1) := by decide +kernel
theorem d_B_above_27 : decode b_B_above 27 = .ok (.ineg, 1) := by decide +kernel
theorem d_B_above_28 : decode b_B_above 28 = .ok (.i2l, 1) := by decide +kernel
theorem d_B_above_29 : decode b_B_above 29 = .ok (.lreturn, 1) := by decide +kernel
theorem d_B_below_0 : decode b_B_below 0 = .ok (.aload_n 0, 1) := by decide +kernel
theorem d_B_below_1 : decode b_B_below 1 = .ok (.getfield 14, 3) := by decide +kernel
theorem d_B_below_4 : decode b_B_below 4 = .ok (.iload_n 1, 1) := by decide +kernel
theorem d_B_below_5 : decode b_B_below 5 = .ok (.invokevirtual 45, 3) := by decide +kernel
theorem d_B_below_8 : decode b_B_below 8 = .ok (.invokestatic 127, 3) := by decide +kernel
theorem d_B_below_11 : decode b_B_below 11 = .ok (.i2l, 1) := by decide +kernel
theorem d_B_below_12 : decode b_B_below 12 = .ok (.lreturn, 1) := by decide +kernel
theorem d_B_firstClash_0 : decode b_B_firstClash 0 = .ok (.iconst 0, 1) := by decide +kernel
theorem d_B_firstClash_1 : decode b_B_firstClash 1 = .ok (.istore_n 1, 1) := by decide +kernel
theorem d_B_firstClash_2 : decode b_B_firstClash 2 = .ok (.iload_n 1, 1) := by decide +kernel
theorem d_B_firstClash_3 : decode b_B_firstClash 3 = .ok (.aload_n 0, 1) := by decide +kernel
theorem d_B_firstClash_4 : decode b_B_firstClash 4 = .ok (.getfield 23, 3) := by decide +kernel
theorem d_B_firstClash_7 : decode b_B_firstClash 7 = .ok (.invokevirtual 37, 3) := by decide +kernel
theorem d_B_firstClash_10 : decode b_B_firstClash 10 = .ok (.if_icmp .ge 34, 3) := by decide +kernel
theorem d_B_firstClash_13 : decode b_B_firstClash 13 = .ok (.aload_n 0, 1) := by decide +kernel
theorem d_B_firstClash_14 : decode b_B_firstClash 14 = .ok (.aload_n 0, 1) := by decide +kernel
theorem d_B_firstClash_15 : decode b_B_firstClash 15 = .ok (.getfield 23, 3) := by decide +kernel
theorem d_B_firstClash_18 : decode b_B_firstClash 18 = .ok (.iload_n 1, 1) := by decide +kernel
theorem d_B_firstClash_19 : decode b_B_firstClash 19 = .ok (.invokevirtual 45, 3) := by decide +kernel
theorem d_B_firstClash_22 : decode b_B_firstClash 22 = .ok (.aload_n 0, 1) := by decide +kernel
theorem d_B_firstClash_23 : decode b_B_firstClash 23 = .ok (.getfield 26, 3) := by decide +kernel
theorem d_B_firstClash_26 : decode b_B_firstClash 26 = .ok (.iload_n 1, 1) := by decide +kernel
theorem d_B_firstClash_27 : decode b_B_firstClash 27 = .ok (.invokevirtual 45, 3) := by decide +kernel
theorem d_B_firstClash_30 : decode b_B_firstClash 30 = .ok (.invokevirtual 133, 3) := by decide +kernel
theorem d_B_firstClash_33 : decode b_B_firstClash 33 = .ok (.ifCond .eq 5, 3) := by decide +kernel
theorem d_B_firstClash_36 : decode b_B_firstClash 36 = .ok (.iload_n 1, 1) := by decide +kernel
theorem d_B_firstClash_37 : decode b_B_firstClash 37 = .ok (.ireturn, 1) := by decide +kernel
theorem d_B_firstClash_38 : decode b_B_firstClash 38 = .ok (.iinc 1 1, 3) := by decide +kernel
theorem d_B_firstClash_41 : decode b_B_firstClash 41 = .ok (.goto (-39), 3) := by decide +kernel
theorem d_B_firstClash_44 : decode b_B_firstClash 44 = .ok (.bipush (-2), 2) := by decide +kernel
theorem d_B_firstClash_46 : decode b_B_firstClash 46 = .ok (.ireturn, 1) := by decide +kernel
theorem d_B_trainRatio_0 : decode b_B_trainRatio 0 = .ok (.lconst 1, 1) := by decide +kernel
theorem d_B_trainRatio_1 : decode b_B_trainRatio 1 = .ok (.lstore_n 2, 1) := by decide +kernel
theorem d_B_trainRatio_2 : decode b_B_trainRatio 2 = .ok (.lconst 1, 1) := by decide +kernel
theorem d_B_trainRatio_3 : decode b_B_trainRatio 3 = .ok (.lstore 4, 2) := by decide +kernel
theorem d_B_trainRatio_5 : decode b_B_trainRatio 5 = .ok (.iconst 0, 1) := by decide +kernel
theorem d_B_trainRatio_6 : decode b_B_trainRatio 6 = .ok (.istore 6, 2) := by decide +kernel
theorem d_B_trainRatio_8 : decode b_B_trainRatio 8 = .ok (.iload 6, 2) := by decide +kernel
theorem d_B_trainRatio_10 : decode b_B_trainRatio 10 = .ok (.aload_n 0, 1) := by decide +kernel
theorem d_B_trainRatio_11 : decode b_B_trainRatio 11 = .ok (.getfield 23, 3) := by decide +kernel
theorem d_B_trainRatio_14 : decode b_B_trainRatio 14 = .ok (.invokevirtual 37, 3) := by decide +kernel
theorem d_B_trainRatio_17 : decode b_B_trainRatio 17 = .ok (.if_icmp .ge 61, 3) := by decide +kernel
theorem d_B_trainRatio_20 : decode b_B_trainRatio 20 = .ok (.lload_n 2, 1) := by decide +kernel
theorem d_B_trainRatio_21 : decode b_B_trainRatio 21 = .ok (.aload_n 0, 1) := by decide +kernel
theorem d_B_trainRatio_22 : decode b_B_trainRatio 22 = .ok (.aload_n 0, 1) := by decide +kernel
theorem d_B_trainRatio_23 : decode b_B_trainRatio 23 = .ok (.getfield 23, 3) := by decide +kernel
theorem d_B_trainRatio_26 : decode b_B_trainRatio 26 = .ok (.iload 6, 2) := by decide +kernel
theorem d_B_trainRatio_28 : decode b_B_trainRatio 28 = .ok (.invokevirtual 45, 3) := by decide +kernel
theorem d_B_trainRatio_31 : decode b_B_trainRatio 31 = .ok (.aload_n 0, 1) := by decide +kernel
theorem d_B_trainRatio_32 : decode b_B_trainRatio 32 = .ok (.getfield 26, 3) := by decide +kernel
theorem d_B_trainRatio_35 : decode b_B_trainRatio 35 = .ok (.iload 6, 2) := by decide +kernel
theorem d_B_trainRatio_37 : decode b_B_trainRatio 37 = .ok (.invokevirtual 45, 3) := by decide +kernel
theorem d_B_trainRatio_40 : decode b_B_trainRatio 40 = .ok (.invokevirtual 136, 3) := by decide +kernel
theorem d_B_trainRatio_43 : decode b_B_trainRatio 43 = .ok (.lmul, 1) := by decide +kernel
theorem d_B_trainRatio_44 : decode b_B_trainRatio 44 = .ok (.lstore_n 2, 1) := by decide +kernel
theorem d_B_trainRatio_45 : decode b_B_trainRatio 45 = .ok (.lload 4, 2) := by decide +kernel
theorem d_B_trainRatio_47 : decode b_B_trainRatio 47 = .ok (.aload_n 0, 1) := by decide +kernel
theorem d_B_trainRatio_48 : decode b_B_trainRatio 48 = .ok (.aload_n 0, 1) := by decide +kernel
theorem d_B_trainRatio_49 : decode b_B_trainRatio 49 = .ok (.getfield 23, 3) := by decide +kernel
theorem d_B_trainRatio_52 : decode b_B_trainRatio 52 = .ok (.iload 6, 2) := by decide +kernel
theorem d_B_trainRatio_54 : decode b_B_trainRatio 54 = .ok (.invokevirtual 45, 3) := by decide +kernel
theorem d_B_trainRatio_57 : decode b_B_trainRatio 57 = .ok (.aload_n 0, 1) := by decide +kernel
theorem d_B_trainRatio_58 : decode b_B_trainRatio 58 = .ok (.getfield 26, 3) := by decide +kernel
theorem d_B_trainRatio_61 : decode b_B_trainRatio 61 = .ok (.iload 6, 2) := by decide +kernel
theorem d_B_trainRatio_63 : decode b_B_trainRatio 63 = .ok (.invokevirtual 45, 3) := by decide +kernel
theorem d_B_trainRatio_66 : decode b_B_trainRatio 66 = .ok (.invokevirtual 140, 3) := by decide +kernel
theorem d_B_trainRatio_69 : decode b_B_trainRatio 69 = .ok (.lmul, 1) := by decide +kernel
theorem d_B_trainRatio_70 : decode b_B_trainRatio 70 = .ok (.lstore 4, 2) := by decide +kernel
theorem d_B_trainRatio_72 : decode b_B_trainRatio 72 = .ok (.iinc 6 1, 3) := by decide +kernel
theorem d_B_trainRatio_75 : decode b_B_trainRatio 75 = .ok (.goto (-67), 3) := by decide +kernel
theorem d_B_trainRatio_78 : decode b_B_trainRatio 78 = .ok (.lload_n 2, 1) := by decide +kernel
theorem d_B_trainRatio_79 : decode b_B_trainRatio 79 = .ok (.lload 4, 2) := by decide +kernel
theorem d_B_trainRatio_81 : decode b_B_trainRatio 81 = .ok (.iload_n 1, 1) := by decide +kernel
theorem d_B_trainRatio_82 : decode b_B_trainRatio 82 = .ok (.invokestatic 143, 3) := by decide +kernel
theorem d_B_trainRatio_85 : decode b_B_trainRatio 85 = .ok (.lreturn, 1) := by decide +kernel
theorem d_B_hundredthsInTrain_0 : decode b_B_hundredthsInTrain 0 = .ok (.aload_n 0, 1) := by decide +kernel
theorem d_B_hundredthsInTrain_1 : decode b_B_hundredthsInTrain 1 = .ok (.aload_n 0, 1) := by decide +kernel
theorem d_B_hundredthsInTrain_2 : decode b_B_hundredthsInTrain 2 = .ok (.getfield 23, 3) := by decide +kernel
theorem d_B_hundredthsInTrain_5 : decode b_B_hundredthsInTrain 5 = .ok (.iload_n 1, 1) := by decide +kernel
theorem d_B_hundredthsInTrain_6 : decode b_B_hundredthsInTrain 6 = .ok (.invokevirtual 45, 3) := by decide +kernel
theorem d_B_hundredthsInTrain_9 : decode b_B_hundredthsInTrain 9 = .ok (.aload_n 0, 1) := by decide +kernel
theorem d_B_hundredthsInTrain_10 : decode b_B_hundredthsInTrain 10 = .ok (.getfield 26, 3) := by decide +kernel
theorem d_B_hundredthsInTrain_13 : decode b_B_hundredthsInTrain 13 = .ok (.iload_n 1, 1) := by decide +kernel
theorem d_B_hundredthsInTrain_14 : decode b_B_hundredthsInTrain 14 = .ok (.invokevirtual 45, 3) := by decide +kernel
theorem d_B_hundredthsInTrain_17 : decode b_B_hundredthsInTrain 17 = .ok (.invokevirtual 147, 3) := by decide +kernel
theorem d_B_hundredthsInTrain_20 : decode b_B_hundredthsInTrain 20 = .ok (.ireturn, 1) := by decide +kernel
theorem d_B_nearestPair_0 : decode b_B_nearestPair 0 = .ok (.iconst 0, 1) := by decide +kernel
theorem d_B_nearestPair_1 : decode b_B_nearestPair 1 = .ok (.istore_n 1, 1) := by decide +kernel
theorem d_B_nearestPair_2 : decode b_B_nearestPair 2 = .ok (.iconst 1, 1) := by decide +kernel
theorem d_B_nearestPair_3 : decode b_B_nearestPair 3 = .ok (.istore_n 2, 1) := by decide +kernel
theorem d_B_nearestPair_4 : decode b_B_nearestPair 4 = .ok (.iload_n 2, 1) := by decide +kernel
theorem d_B_nearestPair_5 : decode b_B_nearestPair 5 = .ok (.aload_n 0, 1) := by decide +kernel
theorem d_B_nearestPair_6 : decode b_B_nearestPair 6 = .ok (.getfield 23, 3) := by decide +kernel
theorem d_B_nearestPair_9 : decode b_B_nearestPair 9 = .ok (.invokevirtual 37, 3) := by decide +kernel
theorem d_B_nearestPair_12 : decode b_B_nearestPair 12 = .ok (.if_icmp .ge 24, 3) := by decide +kernel
theorem d_B_nearestPair_15 : decode b_B_nearestPair 15 = .ok (.aload_n 0, 1) := by decide +kernel
theorem d_B_nearestPair_16 : decode b_B_nearestPair 16 = .ok (.iload_n 2, 1) := by decide +kernel
theorem d_B_nearestPair_17 : decode b_B_nearestPair 17 = .ok (.invokevirtual 150, 3) := by decide +kernel
theorem d_B_nearestPair_20 : decode b_B_nearestPair 20 = .ok (.aload_n 0, 1) := by decide +kernel
theorem d_B_nearestPair_21 : decode b_B_nearestPair 21 = .ok (.iload_n 1, 1) := by decide +kernel
theorem d_B_nearestPair_22 : decode b_B_nearestPair 22 = .ok (.invokevirtual 150, 3) := by decide +kernel
theorem d_B_nearestPair_25 : decode b_B_nearestPair 25 = .ok (.if_icmp .ge 5, 3) := by decide +kernel
theorem d_B_nearestPair_28 : decode b_B_nearestPair 28 = .ok (.iload_n 2, 1) := by decide +kernel
theorem d_B_nearestPair_29 : decode b_B_nearestPair 29 = .ok (.istore_n 1, 1) := by decide +kernel
theorem d_B_nearestPair_30 : decode b_B_nearestPair 30 = .ok (.iinc 2 1, 3) := by decide +kernel
theorem d_B_nearestPair_33 : decode b_B_nearestPair 33 = .ok (.goto (-29), 3) := by decide +kernel
theorem d_B_nearestPair_36 : decode b_B_nearestPair 36 = .ok (.iload_n 1, 1) := by decide +kernel
theorem d_B_nearestPair_37 : decode b_B_nearestPair 37 = .ok (.ireturn, 1) := by decide +kernel
theorem d_B_cosine_0 : decode b_B_cosine 0 = .ok (.ldc2_w 153, 3) := by decide +kernel
theorem d_B_cosine_3 : decode b_B_cosine 3 = .ok (.aload_n 0, 1) := by decide +kernel
theorem d_B_cosine_4 : decode b_B_cosine 4 = .ok (.invokevirtual 101, 3) := by decide +kernel
theorem d_B_cosine_7 : decode b_B_cosine 7 = .ok (.i2l, 1) := by decide +kernel
theorem d_B_cosine_8 : decode b_B_cosine 8 = .ok (.lsub, 1) := by decide +kernel
theorem d_B_cosine_9 : decode b_B_cosine 9 = .ok (.ldc2_w 153, 3) := by decide +kernel
theorem d_B_cosine_12 : decode b_B_cosine 12 = .ok (.lmul, 1) := by decide +kernel
theorem d_B_cosine_13 : decode b_B_cosine 13 = .ok (.invokestatic 155, 3) := by decide +kernel
theorem d_B_cosine_16 : decode b_B_cosine 16 = .ok (.lreturn, 1) := by decide +kernel
theorem d_B_reach_0 : decode b_B_reach 0 = .ok (.aload_n 0, 1) := by decide +kernel
theorem d_B_reach_1 : decode b_B_reach 1 = .ok (.iload_n 1, 1) := by decide +kernel
theorem d_B_reach_2 : decode b_B_reach 2 = .ok (.invokevirtual 130, 3) := by decide +kernel
theorem d_B_reach_5 : decode b_B_reach 5 = .ok (.bipush 100, 2) := by decide +kernel
theorem d_B_reach_7 : decode b_B_reach 7 = .ok (.iadd, 1) := by decide +kernel
theorem d_B_reach_8 : decode b_B_reach 8 = .ok (.i2l, 1) := by decide +kernel
theorem d_B_reach_9 : decode b_B_reach 9 = .ok (.lstore_n 2, 1) := by decide +kernel
theorem d_B_reach_10 : decode b_B_reach 10 = .ok (.aload_n 0, 1) := by decide +kernel
theorem d_B_reach_11 : decode b_B_reach 11 = .ok (.getfield 14, 3) := by decide +kernel
theorem d_B_reach_14 : decode b_B_reach 14 = .ok (.iload_n 1, 1) := by decide +kernel
theorem d_B_reach_15 : decode b_B_reach 15 = .ok (.invokevirtual 45, 3) := by decide +kernel
theorem d_B_reach_18 : decode b_B_reach 18 = .ok (.i2l, 1) := by decide +kernel
theorem d_B_reach_19 : decode b_B_reach 19 = .ok (.lstore 4, 2) := by decide +kernel
theorem d_B_reach_21 : decode b_B_reach 21 = .ok (.sipush 10000, 3) := by decide +kernel
theorem d_B_reach_24 : decode b_B_reach 24 = .ok (.aload_n 0, 1) := by decide +kernel
theorem d_B_reach_25 : decode b_B_reach 25 = .ok (.invokevirtual 101, 3) := by decide +kernel
theorem d_B_reach_28 : decode b_B_reach 28 = .ok (.isub, 1) := by decide +kernel
theorem d_B_reach_29 : decode b_B_reach 29 = .ok (.i2l, 1) := by decide +kernel
theorem d_B_reach_30 : decode b_B_reach 30 = .ok (.lstore 6, 2) := by decide +kernel
theorem d_B_reach_32 : decode b_B_reach 32 = .ok (.ldc2_w 159, 3) := by decide +kernel
theorem d_B_reach_35 : decode b_B_reach 35 = .ok (.lload_n 2, 1) := by decide +kernel
theorem d_B_reach_36 : decode b_B_reach 36 = .ok (.lmul, 1) := by decide +kernel
theorem d_B_reach_37 : decode b_B_reach 37 = .ok (.lload_n 2, 1) := by decide +kernel
theorem d_B_reach_38 : decode b_B_reach 38 = .ok (.lmul, 1) := by decide +kernel
theorem d_B_reach_39 : decode b_B_reach 39 = .ok (.lload 4, 2) := by decide +kernel
theorem d_B_reach_41 : decode b_B_reach 41 = .ok (.lload 4, 2) := by decide +kernel
theorem d_B_reach_43 : decode b_B_reach 43 = .ok (.lmul, 1) := by decide +kernel
theorem d_B_reach_44 : decode b_B_reach 44 = .ok (.lload 6, 2) := by decide +kernel
theorem d_B_reach_46 : decode b_B_reach 46 = .ok (.lmul, 1) := by decide +kernel
theorem d_B_reach_47 : decode b_B_reach 47 = .ok (.lsub, 1) := by decide +kernel
theorem d_B_reach_48 : decode b_B_reach 48 = .ok (.ldc2_w 161, 3) := by decide +kernel
theorem d_B_reach_51 : decode b_B_reach 51 = .ok (.lmul, 1) := by decide +kernel
theorem d_B_reach_52 : decode b_B_reach 52 = .ok (.lstore 8, 2) := by decide +kernel
theorem d_B_reach_54 : decode b_B_reach 54 = .ok (.lload 8, 2) := by decide +kernel
theorem d_B_reach_56 : decode b_B_reach 56 = .ok (.lconst 0, 1) := by decide +kernel
theorem d_B_reach_57 : decode b_B_reach 57 = .ok (.lcmp, 1) := by decide +kernel
theorem d_B_reach_58 : decode b_B_reach 58 = .ok (.ifCond .ge 7, 3) := by decide +kernel
theorem d_B_reach_61 : decode b_B_reach 61 = .ok (.lconst 0, 1) := by decide +kernel
theorem d_B_reach_62 : decode b_B_reach 62 = .ok (.goto 8, 3) := by decide +kernel
theorem d_B_reach_65 : decode b_B_reach 65 = .ok (.lload 8, 2) := by decide +kernel
theorem d_B_reach_67 : decode b_B_reach 67 = .ok (.invokestatic 155, 3) := by decide +kernel
theorem d_B_reach_70 : decode b_B_reach 70 = .ok (.lreturn, 1) := by decide +kernel
theorem d_B_path_0 : decode b_B_path 0 = .ok (.aload_n 0, 1) := by decide +kernel
theorem d_B_path_1 : decode b_B_path 1 = .ok (.iload_n 1, 1) := by decide +kernel
theorem d_B_path_2 : decode b_B_path 2 = .ok (.invokevirtual 130, 3) := by decide +kernel
theorem d_B_path_5 : decode b_B_path 5 = .ok (.aload_n 0, 1) := by decide +kernel
theorem d_B_path_6 : decode b_B_path 6 = .ok (.iload_n 2, 1) := by decide +kernel
theorem d_B_path_7 : decode b_B_path 7 = .ok (.invokevirtual 130, 3) := by decide +kernel
theorem d_B_path_10 : decode b_B_path 10 = .ok (.iadd, 1) := by decide +kernel
theorem d_B_path_11 : decode b_B_path 11 = .ok (.i2l, 1) := by decide +kernel
theorem d_B_path_12 : decode b_B_path 12 = .ok (.lstore_n 3, 1) := by decide +kernel
theorem d_B_path_13 : decode b_B_path 13 = .ok (.aload_n 0, 1) := by decide +kernel
theorem d_B_path_14 : decode b_B_path 14 = .ok (.iload_n 1, 1) := by decide +kernel
theorem d_B_path_15 : decode b_B_path 15 = .ok (.invokevirtual 163, 3) := by decide +kernel
theorem d_B_path_18 : decode b_B_path 18 = .ok (.aload_n 0, 1) := by decide +kernel
theorem d_B_path_19 : decode b_B_path 19 = .ok (.iload_n 2, 1) := by decide +kernel
theorem d_B_path_20 : decode b_B_path 20 = .ok (.invokevirtual 163, 3) := by decide +kernel
theorem d_B_path_23 : decode b_B_path 23 = .ok (.ladd, 1) := by decide +kernel
theorem d_B_path_24 : decode b_B_path 24 = .ok (.lload_n 3, 1) := by decide +kernel
theorem d_B_path_25 : decode b_B_path 25 = .ok (.lload_n 3, 1) := by decide +kernel
theorem d_B_path_26 : decode b_B_path 26 = .ok (.lmul, 1) := by decide +kernel
theorem d_B_path_27 : decode b_B_path 27 = .ok (.aload_n 0, 1) := by decide +kernel
theorem d_B_path_28 : decode b_B_path 28 = .ok (.invokevirtual 101, 3) := by decide +kernel
theorem d_B_path_31 : decode b_B_path 31 = .ok (.i2l, 1) := by decide +kernel
theorem d_B_path_32 : decode b_B_path 32 = .ok (.lmul, 1) := by decide +kernel
theorem d_B_path_33 : decode b_B_path 33 = .ok (.invokestatic 155, 3) := by decide +kernel
theorem d_B_path_36 : decode b_B_path 36 = .ok (.lsub, 1) := by decide +kernel
theorem d_B_path_37 : decode b_B_path 37 = .ok (.lreturn, 1) := by decide +kernel
theorem d_B_lowContact_0 : decode b_B_lowContact 0 = .ok (.ldc2_w 167, 3) := by decide +kernel
theorem d_B_lowContact_3 : decode b_B_lowContact 3 = .ok (.aload_n 0, 1) := by decide +kernel
theorem d_B_lowContact_4 : decode b_B_lowContact 4 = .ok (.invokevirtual 169, 3) := by decide +kernel
theorem d_B_lowContact_7 : decode b_B_lowContact 7 = .ok (.lconst 1, 1) := by decide +kernel
theorem d_B_lowContact_8 : decode b_B_lowContact 8 = .ok (.ladd, 1) := by decide +kernel
theorem d_B_lowContact_9 : decode b_B_lowContact 9 = .ok (.lmul, 1) := by decide +kernel
theorem d_B_lowContact_10 : decode b_B_lowContact 10 = .ok (.lstore_n 3, 1) := by decide +kernel
theorem d_B_lowContact_11 : decode b_B_lowContact 11 = .ok (.lload_n 3, 1) := by decide +kernel
theorem d_B_lowContact_12 : decode b_B_lowContact 12 = .ok (.lconst 0, 1) := by decide +kernel
theorem d_B_lowContact_13 : decode b_B_lowContact 13 = .ok (.lcmp, 1) := by decide +kernel
theorem d_B_lowContact_14 : decode b_B_lowContact 14 = .ok (.ifCond .ne 7, 3) := by decide +kernel
theorem d_B_lowContact_17 : decode b_B_lowContact 17 = .ok (.lconst 0, 1) := by decide +kernel
theorem d_B_lowContact_18 : decode b_B_lowContact 18 = .ok (.goto 17, 3) := by decide +kernel
theorem d_B_lowContact_21 : decode b_B_lowContact 21 = .ok (.aload_n 0, 1) := by decide +kernel
theorem d_B_lowContact_22 : decode b_B_lowContact 22 = .ok (.iload_n 1, 1) := by decide +kernel
theorem d_B_lowContact_23 : decode b_B_lowContact 23 = .ok (.iload_n 2, 1) := by decide +kernel
theorem d_B_lowContact_24 : decode b_B_lowContact 24 = .ok (.invokevirtual 173, 3) := by decide +kernel
theorem d_B_lowContact_27 : decode b_B_lowContact 27 = .ok (.lconst 1, 1) := by decide +kernel
theorem d_B_lowContact_28 : decode b_B_lowContact 28 = .ok (.lsub, 1) := by decide +kernel
theorem d_B_lowContact_29 : decode b_B_lowContact 29 = .ok (.ldc2_w 176, 3) := by decide +kernel
theorem d_B_lowContact_32 : decode b_B_lowContact 32 = .ok (.lmul, 1) := by decide +kernel
theorem d_B_lowContact_33 : decode b_B_lowContact 33 = .ok (.lload_n 3, 1) := by decide +kernel
theorem d_B_lowContact_34 : decode b_B_lowContact 34 = .ok (.ldiv, 1) := by decide +kernel
theorem d_B_lowContact_35 : decode b_B_lowContact 35 = .ok (.lstore 5, 2) := by decide +kernel
theorem d_B_lowContact_37 : decode b_B_lowContact 37 = .ok (.lconst 0, 1) := by decide +kernel
theorem d_B_lowContact_38 : decode b_B_lowContact 38 = .ok (.lload 5, 2) := by decide +kernel
theorem d_B_lowContact_40 : decode b_B_lowContact 40 = .ok (.invokestatic 178, 3) := by decide +kernel
theorem d_B_lowContact_43 : decode b_B_lowContact 43 = .ok (.lreturn, 1) := by decide +kernel
theorem d_B_highContact_0 : decode b_B_highContact 0 = .ok (.ldc2_w 181, 3) := by decide +kernel
theorem d_B_highContact_3 : decode b_B_highContact 3 = .ok (.aload_n 0, 1) := by decide +kernel
theorem d_B_highContact_4 : decode b_B_highContact 4 = .ok (.invokevirtual 169, 3) := by decide +kernel
theorem d_B_highContact_7 : decode b_B_highContact 7 = .ok (.lmul, 1) := by decide +kernel
theorem d_B_highContact_8 : decode b_B_highContact 8 = .ok (.lstore_n 3, 1) := by decide +kernel
theorem d_B_highContact_9 : decode b_B_highContact 9 = .ok (.lload_n 3, 1) := by decide +kernel
theorem d_B_highContact_10 : decode b_B_highContact 10 = .ok (.lconst 0, 1) := by decide +kernel
theorem d_B_highContact_11 : decode b_B_highContact 11 = .ok (.lcmp, 1) := by decide +kernel
theorem d_B_highContact_12 : decode b_B_highContact 12 = .ok (.ifCond .ne 7, 3) := by decide +kernel
theorem d_B_highContact_15 : decode b_B_highContact 15 = .ok (.lconst 0, 1) := by decide +kernel
theorem d_B_highContact_16 : decode b_B_highContact 16 = .ok (.goto 19, 3) := by decide +kernel
theorem d_B_highContact_19 : decode b_B_highContact 19 = .ok (.aload_n 0, 1) := by decide +kernel
theorem d_B_highContact_20 : decode b_B_highContact 20 = .ok (.iload_n 1, 1) := by decide +kernel
theorem d_B_highContact_21 : decode b_B_highContact 21 = .ok (.iload_n 2, 1) := by decide +kernel
theorem d_B_highContact_22 : decode b_B_highContact 22 = .ok (.invokevirtual 173, 3) := by decide +kernel
theorem d_B_highContact_25 : decode b_B_highContact 25 = .ok (.ldc2_w 183, 3) := by decide +kernel
theorem d_B_highContact_28 : decode b_B_highContact 28 = .ok (.ladd, 1) := by decide +kernel
theorem d_B_highContact_29 : decode b_B_highContact 29 = .ok (.ldc2_w 176, 3) := by decide +kernel
theorem d_B_highContact_32 : decode b_B_highContact 32 = .ok (.lmul, 1) := by decide +kernel
theorem d_B_highContact_33 : decode b_B_highContact 33 = .ok (.lload_n 3, 1) := by decide +kernel
theorem d_B_highContact_34 : decode b_B_highContact 34 = .ok (.ldiv, 1) := by decide +kernel
theorem d_B_highContact_35 : decode b_B_highContact 35 = .ok (.lstore 5, 2) := by decide +kernel
theorem d_B_highContact_37 : decode b_B_highContact 37 = .ok (.lconst 0, 1) := by decide +kernel
theorem d_B_highContact_38 : decode b_B_highContact 38 = .ok (.lload 5, 2) := by decide +kernel
theorem d_B_highContact_40 : decode b_B_highContact 40 = .ok (.lconst 1, 1) := by decide +kernel
theorem d_B_highContact_41 : decode b_B_highContact 41 = .ok (.ladd, 1) := by decide +kernel
theorem d_B_highContact_42 : decode b_B_highContact 42 = .ok (.invokestatic 178, 3) := by decide +kernel
theorem d_B_highContact_45 : decode b_B_highContact 45 = .ok (.lreturn, 1) := by decide +kernel
theorem d_N_init_0 : decode b_N_init 0 = .ok (.aload_n 0, 1) := by decide +kernel
theorem d_N_init_1 : decode b_N_init 1 = .ok (.invokespecial 1, 3) := by decide +kernel
theorem d_N_init_4 : decode b_N_init 4 = .ok (.aload_n 0, 1) := by decide +kernel
theorem d_N_init_5 : decode b_N_init 5 = .ok (.iconst 0, 1) := by decide +kernel
theorem d_N_init_6 : decode b_N_init 6 = .ok (.putfield 7, 3) := by decide +kernel
theorem d_N_init_9 : decode b_N_init 9 = .ok (.aload_n 0, 1) := by decide +kernel
theorem d_N_init_10 : decode b_N_init 10 = .ok (.iload_n 1, 1) := by decide +kernel
theorem d_N_init_11 : decode b_N_init 11 = .ok (.ifCond .ge 7, 3) := by decide +kernel
theorem d_N_init_14 : decode b_N_init 14 = .ok (.iconst 0, 1) := by decide +kernel
theorem d_N_init_15 : decode b_N_init 15 = .ok (.goto 4, 3) := by decide +kernel
theorem d_N_init_18 : decode b_N_init 18 = .ok (.iload_n 1, 1) := by decide +kernel
theorem d_N_init_19 : decode b_N_init 19 = .ok (.newarray .int, 2) := by decide +kernel
theorem d_N_init_21 : decode b_N_init 21 = .ok (.putfield 13, 3) := by decide +kernel
theorem d_N_init_24 : decode b_N_init 24 = .ok (.return_, 1) := by decide +kernel
theorem d_N_size_0 : decode b_N_size 0 = .ok (.aload_n 0, 1) := by decide +kernel
theorem d_N_size_1 : decode b_N_size 1 = .ok (.getfield 7, 3) := by decide +kernel
theorem d_N_size_4 : decode b_N_size 4 = .ok (.ireturn, 1) := by decide +kernel
theorem d_N_isFull_0 : decode b_N_isFull 0 = .ok (.aload_n 0, 1) := by decide +kernel
theorem d_N_isFull_1 : decode b_N_isFull 1 = .ok (.getfield 7, 3) := by decide +kernel
theorem d_N_isFull_4 : decode b_N_isFull 4 = .ok (.aload_n 0, 1) := by decide +kernel
theorem d_N_isFull_5 : decode b_N_isFull 5 = .ok (.getfield 13, 3) := by decide +kernel
theorem d_N_isFull_8 : decode b_N_isFull 8 = .ok (.arraylength, 1) := by decide +kernel
theorem d_N_isFull_9 : decode b_N_isFull 9 = .ok (.if_icmp .lt 7, 3) := by decide +kernel
theorem d_N_isFull_12 : decode b_N_isFull 12 = .ok (.iconst 1, 1) := by decide +kernel
theorem d_N_isFull_13 : decode b_N_isFull 13 = .ok (.goto 4, 3) := by decide +kernel
theorem d_N_isFull_16 : decode b_N_isFull 16 = .ok (.iconst 0, 1) := by decide +kernel
theorem d_N_isFull_17 : decode b_N_isFull 17 = .ok (.ireturn, 1) := by decide +kernel
theorem d_N_has_0 : decode b_N_has 0 = .ok (.iload_n 1, 1) := by decide +kernel
theorem d_N_has_1 : decode b_N_has 1 = .ok (.ifCond .lt 24, 3) := by decide +kernel
theorem d_N_has_4 : decode b_N_has 4 = .ok (.iload_n 1, 1) := by decide +kernel
theorem d_N_has_5 : decode b_N_has 5 = .ok (.aload_n 0, 1) := by decide +kernel
theorem d_N_has_6 : decode b_N_has 6 = .ok (.getfield 7, 3) := by decide +kernel
theorem d_N_has_9 : decode b_N_has 9 = .ok (.if_icmp .ge 16, 3) := by decide +kernel
theorem d_N_has_12 : decode b_N_has 12 = .ok (.iload_n 1, 1) := by decide +kernel
theorem d_N_has_13 : decode b_N_has 13 = .ok (.aload_n 0, 1) := by decide +kernel
theorem d_N_has_14 : decode b_N_has 14 = .ok (.getfield 13, 3) := by decide +kernel
theorem d_N_has_17 : decode b_N_has 17 = .ok (.arraylength, 1) := by decide +kernel
theorem d_N_has_18 : decode b_N_has 18 = .ok (.if_icmp .ge 7, 3) := by decide +kernel
theorem d_N_has_21 : decode b_N_has 21 = .ok (.iconst 1, 1) := by decide +kernel
theorem d_N_has_22 : decode b_N_has 22 = .ok (.goto 4, 3) := by decide +kernel
theorem d_N_has_25 : decode b_N_has 25 = .ok (.iconst 0, 1) := by decide +kernel
theorem d_N_has_26 : decode b_N_has 26 = .ok (.ireturn, 1) := by decide +kernel
theorem d_N_at_0 : decode b_N_at 0 = .ok (.iload_n 1, 1) := by decide +kernel
theorem d_N_at_1 : decode b_N_at 1 = .ok (.ifCond .lt 29, 3) := by decide +kernel
theorem d_N_at_4 : decode b_N_at 4 = .ok (.iload_n 1, 1) := by decide +kernel
theorem d_N_at_5 : decode b_N_at 5 = .ok (.aload_n 0, 1) := by decide +kernel
theorem d_N_at_6 : decode b_N_at 6 = .ok (.getfield 7, 3) := by decide +kernel
theorem d_N_at_9 : decode b_N_at 9 = .ok (.if_icmp .ge 21, 3) := by decide +kernel
theorem d_N_at_12 : decode b_N_at 12 = .ok (.iload_n 1, 1) := by decide +kernel
theorem d_N_at_13 : decode b_N_at 13 = .ok (.aload_n 0, 1) := by decide +kernel
theorem d_N_at_14 : decode b_N_at 14 = .ok (.getfield 13, 3) := by decide +kernel
theorem d_N_at_17 : decode b_N_at 17 = .ok (.arraylength, 1) := by decide +kernel
theorem d_N_at_18 : decode b_N_at 18 = .ok (.if_icmp .ge 12, 3) := by decide +kernel
theorem d_N_at_21 : decode b_N_at 21 = .ok (.aload_n 0, 1) := by decide +kernel
theorem d_N_at_22 : decode b_N_at 22 = .ok (.getfield 13, 3) := by decide +kernel
theorem d_N_at_25 : decode b_N_at 25 = .ok (.iload_n 1, 1) := by decide +kernel
theorem d_N_at_26 : decode b_N_at 26 = .ok (.iaload, 1) := by decide +kernel
theorem d_N_at_27 : decode b_N_at 27 = .ok (.goto 4, 3) := by decide +kernel
theorem d_N_at_30 : decode b_N_at 30 = .ok (.iconst 0, 1) := by decide +kernel
theorem d_N_at_31 : decode b_N_at 31 = .ok (.ireturn, 1) := by decide +kernel
theorem d_N_set_0 : decode b_N_set 0 = .ok (.iload_n 1, 1) := by decide +kernel
theorem d_N_set_1 : decode b_N_set 1 = .ok (.ifCond .lt 27, 3) := by decide +kernel
theorem d_N_set_4 : decode b_N_set 4 = .ok (.iload_n 1, 1) := by decide +kernel
theorem d_N_set_5 : decode b_N_set 5 = .ok (.aload_n 0, 1) := by decide +kernel
theorem d_N_set_6 : decode b_N_set 6 = .ok (.getfield 7, 3) := by decide +kernel
theorem d_N_set_9 : decode b_N_set 9 = .ok (.if_icmp .ge 19, 3) := by decide +kernel
theorem d_N_set_12 : decode b_N_set 12 = .ok (.iload_n 1, 1) := by decide +kernel
theorem d_N_set_13 : decode b_N_set 13 = .ok (.aload_n 0, 1) := by decide +kernel
theorem d_N_set_14 : decode b_N_set 14 = .ok (.getfield 13, 3) := by decide +kernel
theorem d_N_set_17 : decode b_N_set 17 = .ok (.arraylength, 1) := by decide +kernel
theorem d_N_set_18 : decode b_N_set 18 = .ok (.if_icmp .ge 10, 3) := by decide +kernel
theorem d_N_set_21 : decode b_N_set 21 = .ok (.aload_n 0, 1) := by decide +kernel
theorem d_N_set_22 : decode b_N_set 22 = .ok (.getfield 13, 3) := by decide +kernel
theorem d_N_set_25 : decode b_N_set 25 = .ok (.iload_n 1, 1) := by decide +kernel
theorem d_N_set_26 : decode b_N_set 26 = .ok (.iload_n 2, 1) := by decide +kernel
theorem d_N_set_27 : decode b_N_set 27 = .ok (.iastore, 1) := by decide +kernel
theorem d_N_set_28 : decode b_N_set 28 = .ok (.return_, 1) := by decide +kernel
theorem d_N_add_0 : decode b_N_add 0 = .ok (.aload_n 0, 1) := by decide +kernel
theorem d_N_add_1 : decode b_N_add 1 = .ok (.getfield 7, 3) := by decide +kernel
theorem d_N_add_4 : decode b_N_add 4 = .ok (.ifCond .lt 35, 3) := by decide +kernel
theorem d_N_add_7 : decode b_N_add 7 = .ok (.aload_n 0, 1) := by decide +kernel
theorem d_N_add_8 : decode b_N_add 8 = .ok (.getfield 7, 3) := by decide +kernel
theorem d_N_add_11 : decode b_N_add 11 = .ok (.aload_n 0, 1) := by decide +kernel
theorem d_N_add_12 : decode b_N_add 12 = .ok (.getfield 13, 3) := by decide +kernel
theorem d_N_add_15 : decode b_N_add 15 = .ok (.arraylength, 1) := by decide +kernel
theorem d_N_add_16 : decode b_N_add 16 = .ok (.if_icmp .ge 23, 3) := by decide +kernel
theorem d_N_add_19 : decode b_N_add 19 = .ok (.aload_n 0, 1) := by decide +kernel
theorem d_N_add_20 : decode b_N_add 20 = .ok (.getfield 13, 3) := by decide +kernel
theorem d_N_add_23 : decode b_N_add 23 = .ok (.aload_n 0, 1) := by decide +kernel
theorem d_N_add_24 : decode b_N_add 24 = .ok (.getfield 7, 3) := by decide +kernel
theorem d_N_add_27 : decode b_N_add 27 = .ok (.iload_n 1, 1) := by decide +kernel
theorem d_N_add_28 : decode b_N_add 28 = .ok (.iastore, 1) := by decide +kernel
theorem d_N_add_29 : decode b_N_add 29 = .ok (.aload_n 0, 1) := by decide +kernel
theorem d_N_add_30 : decode b_N_add 30 = .ok (.dup, 1) := by decide +kernel
theorem d_N_add_31 : decode b_N_add 31 = .ok (.getfield 7, 3) := by decide +kernel
theorem d_N_add_34 : decode b_N_add 34 = .ok (.iconst 1, 1) := by decide +kernel
theorem d_N_add_35 : decode b_N_add 35 = .ok (.iadd, 1) := by decide +kernel
theorem d_N_add_36 : decode b_N_add 36 = .ok (.putfield 7, 3) := by decide +kernel
theorem d_N_add_39 : decode b_N_add 39 = .ok (.return_, 1) := by decide +kernel
theorem d_N_empty_0 : decode b_N_empty 0 = .ok (.aload_n 0, 1) := by decide +kernel
theorem d_N_empty_1 : decode b_N_empty 1 = .ok (.iconst 0, 1) := by decide +kernel
theorem d_N_empty_2 : decode b_N_empty 2 = .ok (.putfield 7, 3) := by decide +kernel
theorem d_N_empty_5 : decode b_N_empty 5 = .ok (.return_, 1) := by decide +kernel
theorem d_N_become_0 : decode b_N_become 0 = .ok (.aload_n 0, 1) := by decide +kernel
theorem d_N_become_1 : decode b_N_become 1 = .ok (.invokevirtual 17, 3) := by decide +kernel
theorem d_N_become_4 : decode b_N_become 4 = .ok (.iconst 0, 1) := by decide +kernel
theorem d_N_become_5 : decode b_N_become 5 = .ok (.istore_n 2, 1) := by decide +kernel
theorem d_N_become_6 : decode b_N_become 6 = .ok (.iload_n 2, 1) := by decide +kernel
theorem d_N_become_7 : decode b_N_become 7 = .ok (.aload_n 1, 1) := by decide +kernel
theorem d_N_become_8 : decode b_N_become 8 = .ok (.invokevirtual 20, 3) := by decide +kernel
theorem d_N_become_11 : decode b_N_become 11 = .ok (.if_icmp .ge 18, 3) := by decide +kernel
theorem d_N_become_14 : decode b_N_become 14 = .ok (.aload_n 0, 1) := by decide +kernel
theorem d_N_become_15 : decode b_N_become 15 = .ok (.aload_n 1, 1) := by decide +kernel
theorem d_N_become_16 : decode b_N_become 16 = .ok (.iload_n 2, 1) := by decide +kernel
theorem d_N_become_17 : decode b_N_become 17 = .ok (.invokevirtual 23, 3) := by decide +kernel
theorem d_N_become_20 : decode b_N_become 20 = .ok (.invokevirtual 27, 3) := by decide +kernel
theorem d_N_become_23 : decode b_N_become 23 = .ok (.iinc 2 1, 3) := by decide +kernel
theorem d_N_become_26 : decode b_N_become 26 = .ok (.goto (-20), 3) := by decide +kernel
theorem d_N_become_29 : decode b_N_become 29 = .ok (.return_, 1) := by decide +kernel
theorem d_O_init_0 : decode b_O_init 0 = .ok (.aload_n 0, 1) := by decide +kernel
theorem d_O_init_1 : decode b_O_init 1 = .ok (.invokespecial 3, 3) := by decide +kernel
theorem d_O_init_4 : decode b_O_init 4 = .ok (.aload_n 0, 1) := by decide +kernel
theorem d_O_init_5 : decode b_O_init 5 = .ok (.bipush 20, 2) := by decide +kernel
theorem d_O_init_7 : decode b_O_init 7 = .ok (.newarray .long, 2) := by decide +kernel
theorem d_O_init_9 : decode b_O_init 9 = .ok (.putfield 9, 3) := by decide +kernel
theorem d_O_init_12 : decode b_O_init 12 = .ok (.aload_n 0, 1) := by decide +kernel
theorem d_O_init_13 : decode b_O_init 13 = .ok (.iconst (-1), 1) := by decide +kernel
theorem d_O_init_14 : decode b_O_init 14 = .ok (.putfield 15, 3) := by decide +kernel
theorem d_O_init_17 : decode b_O_init 17 = .ok (.return_, 1) := by decide +kernel
theorem d_O_isMissing_0 : decode b_O_isMissing 0 = .ok (.aload_n 0, 1) := by decide +kernel
theorem d_O_isMissing_1 : decode b_O_isMissing 1 = .ok (.getfield 15, 3) := by decide +kernel
theorem d_O_isMissing_4 : decode b_O_isMissing 4 = .ok (.ifCond .ge 7, 3) := by decide +kernel
theorem d_O_isMissing_7 : decode b_O_isMissing 7 = .ok (.iconst 1, 1) := by decide +kernel
theorem d_O_isMissing_8 : decode b_O_isMissing 8 = .ok (.goto 4, 3) := by decide +kernel
theorem d_O_isMissing_11 : decode b_O_isMissing 11 = .ok (.iconst 0, 1) := by decide +kernel
theorem d_O_isMissing_12 : decode b_O_isMissing 12 = .ok (.ireturn, 1) := by decide +kernel
theorem d_O_size_0 : decode b_O_size 0 = .ok (.aload_n 0, 1) := by decide +kernel
theorem d_O_size_1 : decode b_O_size 1 = .ok (.getfield 15, 3) := by decide +kernel
theorem d_O_size_4 : decode b_O_size 4 = .ok (.ireturn, 1) := by decide +kernel
theorem d_O_resize_0 : decode b_O_resize 0 = .ok (.iload_n 1, 1) := by decide +kernel
theorem d_O_resize_1 : decode b_O_resize 1 = .ok (.iconst (-1), 1) := by decide +kernel
theorem d_O_resize_2 : decode b_O_resize 2 = .ok (.if_icmp .lt 12, 3) := by decide +kernel
theorem d_O_resize_5 : decode b_O_resize 5 = .ok (.iload_n 1, 1) := by decide +kernel
theorem d_O_resize_6 : decode b_O_resize 6 = .ok (.aload_n 0, 1) := by decide +kernel
theorem d_O_resize_7 : decode b_O_resize 7 = .ok (.getfield 9, 3) := by decide +kernel
theorem d_O_resize_10 : decode b_O_resize 10 = .ok (.arraylength, 1) := by decide +kernel
theorem d_O_resize_11 : decode b_O_resize 11 = .ok (.if_icmp .le 5, 3) := by decide +kernel
theorem d_O_resize_14 : decode b_O_resize 14 = .ok (.iconst 0, 1) := by decide +kernel
theorem d_O_resize_15 : decode b_O_resize 15 = .ok (.ireturn, 1) := by decide +kernel
theorem d_O_resize_16 : decode b_O_resize 16 = .ok (.aload_n 0, 1) := by decide +kernel
theorem d_O_resize_17 : decode b_O_resize 17 = .ok (.iload_n 1, 1) := by decide +kernel
theorem d_O_resize_18 : decode b_O_resize 18 = .ok (.putfield 15, 3) := by decide +kernel
theorem d_O_resize_21 : decode b_O_resize 21 = .ok (.iconst 0, 1) := by decide +kernel
theorem d_O_resize_22 : decode b_O_resize 22 = .ok (.istore_n 2, 1) := by decide +kernel
theorem d_O_resize_23 : decode b_O_resize 23 = .ok (.iload_n 2, 1) := by decide +kernel
theorem d_O_resize_24 : decode b_O_resize 24 = .ok (.aload_n 0, 1) := by decide +kernel
theorem d_O_resize_25 : decode b_O_resize 25 = .ok (.getfield 9, 3) := by decide +kernel
theorem d_O_resize_28 : decode b_O_resize 28 = .ok (.arraylength, 1) := by decide +kernel
theorem d_O_resize_29 : decode b_O_resize 29 = .ok (.if_icmp .ge 16, 3) := by decide +kernel
theorem d_O_resize_32 : decode b_O_resize 32 = .ok (.aload_n 0, 1) := by decide +kernel
theorem d_O_resize_33 : decode b_O_resize 33 = .ok (.getfield 9, 3) := by decide +kernel
theorem d_O_resize_36 : decode b_O_resize 36 = .ok (.iload_n 2, 1) := by decide +kernel
theorem d_O_resize_37 : decode b_O_resize 37 = .ok (.lconst 0, 1) := by decide +kernel
theorem d_O_resize_38 : decode b_O_resize 38 = .ok (.lastore, 1) := by decide +kernel
theorem d_O_resize_39 : decode b_O_resize 39 = .ok (.iinc 2 1, 3) := by decide +kernel
theorem d_O_resize_42 : decode b_O_resize 42 = .ok (.goto (-19), 3) := by decide +kernel
theorem d_O_resize_45 : decode b_O_resize 45 = .ok (.iconst 1, 1) := by decide +kernel
theorem d_O_resize_46 : decode b_O_resize 46 = .ok (.ireturn, 1) := by decide +kernel
theorem d_O_hasPlace_0 : decode b_O_hasPlace 0 = .ok (.iload_n 1, 1) := by decide +kernel
theorem d_O_hasPlace_1 : decode b_O_hasPlace 1 = .ok (.ifCond .lt 24, 3) := by decide +kernel
theorem d_O_hasPlace_4 : decode b_O_hasPlace 4 = .ok (.iload_n 1, 1) := by decide +kernel
theorem d_O_hasPlace_5 : decode b_O_hasPlace 5 = .ok (.aload_n 0, 1) := by decide +kernel
theorem d_O_hasPlace_6 : decode b_O_hasPlace 6 = .ok (.getfield 15, 3) := by decide +kernel
theorem d_O_hasPlace_9 : decode b_O_hasPlace 9 = .ok (.if_icmp .ge 16, 3) := by decide +kernel
theorem d_O_hasPlace_12 : decode b_O_hasPlace 12 = .ok (.iload_n 1, 1) := by decide +kernel
theorem d_O_hasPlace_13 : decode b_O_hasPlace 13 = .ok (.aload_n 0, 1) := by decide +kernel
theorem d_O_hasPlace_14 : decode b_O_hasPlace 14 = .ok (.getfield 9, 3) := by decide +kernel
theorem d_O_hasPlace_17 : decode b_O_hasPlace 17 = .ok (.arraylength, 1) := by decide +kernel
theorem d_O_hasPlace_18 : decode b_O_hasPlace 18 = .ok (.if_icmp .ge 7, 3) := by decide +kernel
theorem d_O_hasPlace_21 : decode b_O_hasPlace 21 = .ok (.iconst 1, 1) := by decide +kernel
theorem d_O_hasPlace_22 : decode b_O_hasPlace 22 = .ok (.goto 4, 3) := by decide +kernel
theorem d_O_hasPlace_25 : decode b_O_hasPlace 25 = .ok (.iconst 0, 1) := by decide +kernel
theorem d_O_hasPlace_26 : decode b_O_hasPlace 26 = .ok (.ireturn, 1) := by decide +kernel
theorem d_O_at_0 : decode b_O_at 0 = .ok (.aload_n 0, 1) := by decide +kernel
theorem d_O_at_1 : decode b_O_at 1 = .ok (.iload_n 1, 1) := by decide +kernel
theorem d_O_at_2 : decode b_O_at 2 = .ok (.invokevirtual 19, 3) := by decide +kernel
theorem d_O_at_5 : decode b_O_at 5 = .ok (.ifCond .eq 12, 3) := by decide +kernel
theorem d_O_at_8 : decode b_O_at 8 = .ok (.aload_n 0, 1) := by decide +kernel
theorem d_O_at_9 : decode b_O_at 9 = .ok (.getfield 9, 3) := by decide +kernel
theorem d_O_at_12 : decode b_O_at 12 = .ok (.iload_n 1, 1) := by decide +kernel
theorem d_O_at_13 : decode b_O_at 13 = .ok (.laload, 1) := by decide +kernel
theorem d_O_at_14 : decode b_O_at 14 = .ok (.goto 6, 3) := by decide +kernel
theorem d_O_at_17 : decode b_O_at 17 = .ok (.ldc2_w 23, 3) := by decide +kernel
theorem d_O_at_20 : decode b_O_at 20 = .ok (.lreturn, 1) := by decide +kernel
theorem d_O_set_0 : decode b_O_set 0 = .ok (.aload_n 0, 1) := by decide +kernel
theorem d_O_set_1 : decode b_O_set 1 = .ok (.iload_n 1, 1) := by decide +kernel
theorem d_O_set_2 : decode b_O_set 2 = .ok (.invokevirtual 19, 3) := by decide +kernel
theorem d_O_set_5 : decode b_O_set 5 = .ok (.istore 4, 2) := by decide +kernel
theorem d_O_set_7 : decode b_O_set 7 = .ok (.iload 4, 2) := by decide +kernel
theorem d_O_set_9 : decode b_O_set 9 = .ok (.ifCond .eq 10, 3) := by decide +kernel
theorem d_O_set_12 : decode b_O_set 12 = .ok (.aload_n 0, 1) := by decide +kernel
theorem d_O_set_13 : decode b_O_set 13 = .ok (.getfield 9, 3) := by decide +kernel
theorem d_O_set_16 : decode b_O_set 16 = .ok (.iload_n 1, 1) := by decide +kernel
theorem d_O_set_17 : decode b_O_set 17 = .ok (.lload_n 2, 1) := by decide +kernel
theorem d_O_set_18 : decode b_O_set 18 = .ok (.lastore, 1) := by decide +kernel
theorem d_O_set_19 : decode b_O_set 19 = .ok (.iload 4, 2) := by decide +kernel
theorem d_O_set_21 : decode b_O_set 21 = .ok (.ireturn, 1) := by decide +kernel
theorem d_H_init_0 : decode b_H_init 0 = .ok (.aload_n 0, 1) := by decide +kernel
theorem d_H_init_1 : decode b_H_init 1 = .ok (.invokespecial 3, 3) := by decide +kernel
theorem d_H_init_4 : decode b_H_init 4 = .ok (.aload_n 0, 1) := by decide +kernel
theorem d_H_init_5 : decode b_H_init 5 = .ok (.iconst 1, 1) := by decide +kernel
theorem d_H_init_6 : decode b_H_init 6 = .ok (.putfield 9, 3) := by decide +kernel
theorem d_H_init_9 : decode b_H_init 9 = .ok (.aload_n 0, 1) := by decide +kernel
theorem d_H_init_10 : decode b_H_init 10 = .ok (.iconst 1, 1) := by decide +kernel
theorem d_H_init_11 : decode b_H_init 11 = .ok (.putfield 15, 3) := by decide +kernel
theorem d_H_init_14 : decode b_H_init 14 = .ok (.aload_n 0, 1) := by decide +kernel
theorem d_H_init_15 : decode b_H_init 15 = .ok (.iconst 1, 1) := by decide +kernel
theorem d_H_init_16 : decode b_H_init 16 = .ok (.putfield 18, 3) := by decide +kernel
theorem d_H_init_19 : decode b_H_init 19 = .ok (.aload_n 0, 1) := by decide +kernel
theorem d_H_init_20 : decode b_H_init 20 = .ok (.iconst 0, 1) := by decide +kernel
theorem d_H_init_21 : decode b_H_init 21 = .ok (.putfield 21, 3) := by decide +kernel
theorem d_H_init_24 : decode b_H_init 24 = .ok (.aload_n 0, 1) := by decide +kernel
theorem d_H_init_25 : decode b_H_init 25 = .ok (.iconst 0, 1) := by decide +kernel
theorem d_H_init_26 : decode b_H_init 26 = .ok (.putfield 24, 3) := by decide +kernel
theorem d_H_init_29 : decode b_H_init 29 = .ok (.aload_n 0, 1) := by decide +kernel
theorem d_H_init_30 : decode b_H_init 30 = .ok (.iconst 0, 1) := by decide +kernel
theorem d_H_init_31 : decode b_H_init 31 = .ok (.putfield 27, 3) := by decide +kernel
theorem d_H_init_34 : decode b_H_init 34 = .ok (.aload_n 0, 1) := by decide +kernel
theorem d_H_init_35 : decode b_H_init 35 = .ok (.iconst 0, 1) := by decide +kernel
theorem d_H_init_36 : decode b_H_init 36 = .ok (.putfield 30, 3) := by decide +kernel
theorem d_H_init_39 : decode b_H_init 39 = .ok (.return_, 1) := by decide +kernel
theorem d_H_isAsked_0 : decode b_H_isAsked 0 = .ok (.iload_n 0, 1) := by decide +kernel
theorem d_H_isAsked_1 : decode b_H_isAsked 1 = .ok (.bipush 100, 2) := by decide +kernel
theorem d_H_isAsked_3 : decode b_H_isAsked 3 = .ok (.idiv, 1) := by decide +kernel
theorem d_H_isAsked_4 : decode b_H_isAsked 4 = .ok (.istore 4, 2) := by decide +kernel
theorem d_H_isAsked_6 : decode b_H_isAsked 6 = .ok (.iload_n 0, 1) := by decide +kernel
theorem d_H_isAsked_7 : decode b_H_isAsked 7 = .ok (.bipush 100, 2) := by decide +kernel
theorem d_H_isAsked_9 : decode b_H_isAsked 9 = .ok (.irem, 1) := by decide +kernel
theorem d_H_isAsked_10 : decode b_H_isAsked 10 = .ok (.istore 5, 2) := by decide +kernel
theorem d_H_isAsked_12 : decode b_H_isAsked 12 = .ok (.iload_n 2, 1) := by decide +kernel
theorem d_H_isAsked_13 : decode b_H_isAsked 13 = .ok (.bipush 100, 2) := by decide +kernel
theorem d_H_isAsked_15 : decode b_H_isAsked 15 = .ok (.idiv, 1) := by decide +kernel
theorem d_H_isAsked_16 : decode b_H_isAsked 16 = .ok (.istore 6, 2) := by decide +kernel
theorem d_H_isAsked_18 : decode b_H_isAsked 18 = .ok (.iload_n 2, 1) := by decide +kernel
theorem d_H_isAsked_19 : decode b_H_isAsked 19 = .ok (.bipush 100, 2) := by decide +kernel
theorem d_H_isAsked_21 : decode b_H_isAsked 21 = .ok (.irem, 1) := by decide +kernel
theorem d_H_isAsked_22 : decode b_H_isAsked 22 = .ok (.istore 7, 2) := by decide +kernel
theorem d_H_isAsked_24 : decode b_H_isAsked 24 = .ok (.iload 4, 2) := by decide +kernel
theorem d_H_isAsked_26 : decode b_H_isAsked 26 = .ok (.iconst 5, 1) := by decide +kernel
theorem d_H_isAsked_27 : decode b_H_isAsked 27 = .ok (.if_icmp .lt 21, 3) := by decide +kernel
theorem d_H_isAsked_30 : decode b_H_isAsked 30 = .ok (.iload 5, 2) := by decide +kernel
theorem d_H_isAsked_32 : decode b_H_isAsked 32 = .ok (.bipush 60, 2) := by decide +kernel
theorem d_H_isAsked_34 : decode b_H_isAsked 34 = .ok (.if_icmp .gt 14, 3) := by decide +kernel
theorem d_H_isAsked_37 : decode b_H_isAsked 37 = .ok (.iload 4, 2) := by decide +kernel
theorem d_H_isAsked_39 : decode b_H_isAsked 39 = .ok (.iload 5, 2) := by decide +kernel
theorem d_H_isAsked_41 : decode b_H_isAsked 41 = .ok (.if_icmp .gt 7, 3) := by decide +kernel
theorem d_H_isAsked_44 : decode b_H_isAsked 44 = .ok (.iconst 1, 1) := by decide +kernel
theorem d_H_isAsked_45 : decode b_H_isAsked 45 = .ok (.goto 4, 3) := by decide +kernel
theorem d_H_isAsked_48 : decode b_H_isAsked 48 = .ok (.iconst 0, 1) := by decide +kernel
theorem d_H_isAsked_49 : decode b_H_isAsked 49 = .ok (.istore 8, 2) := by decide +kernel
theorem d_H_isAsked_51 : decode b_H_isAsked 51 = .ok (.iload 6, 2) := by decide +kernel
theorem d_H_isAsked_53 : decode b_H_isAsked 53 = .ok (.iconst 1, 1) := by decide +kernel
theorem d_H_isAsked_54 : decode b_H_isAsked 54 = .ok (.if_icmp .lt 20, 3) := by decide +kernel
theorem d_H_isAsked_57 : decode b_H_isAsked 57 = .ok (.iload 6, 2) := by decide +kernel
theorem d_H_isAsked_59 : decode b_H_isAsked 59 = .ok (.bipush 99, 2) := by decide +kernel
theorem d_H_isAsked_61 : decode b_H_isAsked 61 = .ok (.if_icmp .gt 13, 3) := by decide +kernel
theorem d_H_isAsked_64 : decode b_H_isAsked 64 = .ok (.iload 7, 2) := by decide +kernel
theorem d_H_isAsked_66 : decode b_H_isAsked 66 = .ok (.iconst 1, 1) := by decide +kernel
theorem d_H_isAsked_67 : decode b_H_isAsked 67 = .ok (.if_icmp .lt 7, 3) := by decide +kernel
theorem d_H_isAsked_70 : decode b_H_isAsked 70 = .ok (.iconst 1, 1) := by decide +kernel
theorem d_H_isAsked_71 : decode b_H_isAsked 71 = .ok (.goto 4, 3) := by decide +kernel
theorem d_H_isAsked_74 : decode b_H_isAsked 74 = .ok (.iconst 0, 1) := by decide +kernel
theorem d_H_isAsked_75 : decode b_H_isAsked 75 = .ok (.istore 9, 2) := by decide +kernel
theorem d_H_isAsked_77 : decode b_H_isAsked 77 = .ok (.iload 8, 2) := by decide +kernel
theorem d_H_isAsked_79 : decode b_H_isAsked 79 = .ok (.ifCond .eq 34, 3) := by decide +kernel
theorem d_H_isAsked_82 : decode b_H_isAsked 82 = .ok (.iload 9, 2) := by decide +kernel
theorem d_H_isAsked_84 : decode b_H_isAsked 84 = .ok (.ifCond .eq 29, 3) := by decide +kernel
theorem d_H_isAsked_87 : decode b_H_isAsked 87 = .ok (.iload_n 1, 1) := by decide +kernel
theorem d_H_isAsked_88 : decode b_H_isAsked 88 = .ok (.iconst 1, 1) := by decide +kernel
theorem d_H_isAsked_89 : decode b_H_isAsked 89 = .ok (.if_icmp .lt 24, 3) := by decide +kernel
theorem d_H_isAsked_92 : decode b_H_isAsked 92 = .ok (.iload_n 1, 1) := by decide +kernel
theorem d_H_isAsked_93 : decode b_H_isAsked 93 = .ok (.bipush 8, 2) := by decide +kernel
theorem d_H_isAsked_95 : decode b_H_isAsked 95 = .ok (.if_icmp .gt 18, 3) := by decide +kernel
theorem d_H_isAsked_98 : decode b_H_isAsked 98 = .ok (.iload_n 3, 1) := by decide +kernel
theorem d_H_isAsked_99 : decode b_H_isAsked 99 = .ok (.ifCond .lt 14, 3) := by decide +kernel
theorem d_H_isAsked_102 : decode b_H_isAsked 102 = .ok (.iload_n 3, 1) := by decide +kernel
theorem d_H_isAsked_103 : decode b_H_isAsked 103 = .ok (.sipush 200, 3) := by decide +kernel
theorem d_H_isAsked_106 : decode b_H_isAsked 106 = .ok (.if_icmp .gt 7, 3) := by decide +kernel
theorem d_H_isAsked_109 : decode b_H_isAsked 109 = .ok (.iconst 1, 1) := by decide +kernel
theorem d_H_isAsked_110 : decode b_H_isAsked 110 = .ok (.goto 4, 3) := by decide +kernel
theorem d_H_isAsked_113 : decode b_H_isAsked 113 = .ok (.iconst 0, 1) := by decide +kernel
theorem d_H_isAsked_114 : decode b_H_isAsked 114 = .ok (.ireturn, 1) := by decide +kernel
theorem d_H_run_0 : decode b_H_run 0 = .ok (.aload_n 0, 1) := by decide +kernel
theorem d_H_run_1 : decode b_H_run 1 = .ok (.iload_n 2, 1) := by decide +kernel
theorem d_H_run_2 : decode b_H_run 2 = .ok (.putfield 9, 3) := by decide +kernel
theorem d_H_run_5 : decode b_H_run 5 = .ok (.aload_n 0, 1) := by decide +kernel
theorem d_H_run_6 : decode b_H_run 6 = .ok (.iload_n 3, 1) := by decide +kernel
theorem d_H_run_7 : decode b_H_run 7 = .ok (.bipush 100, 2) := by decide +kernel
theorem d_H_run_9 : decode b_H_run 9 = .ok (.idiv, 1) := by decide +kernel
theorem d_H_run_10 : decode b_H_run 10 = .ok (.putfield 15, 3) := by decide +kernel
theorem d_H_run_13 : decode b_H_run 13 = .ok (.aload_n 0, 1) := by decide +kernel
theorem d_H_run_14 : decode b_H_run 14 = .ok (.iload_n 3, 1) := by decide +kernel
theorem d_H_run_15 : decode b_H_run 15 = .ok (.bipush 100, 2) := by decide +kernel
theorem d_H_run_17 : decode b_H_run 17 = .ok (.irem, 1) := by decide +kernel
theorem d_H_run_18 : decode b_H_run 18 = .ok (.putfield 18, 3) := by decide +kernel
theorem d_H_run_21 : decode b_H_run 21 = .ok (.aload_n 0, 1) := by decide +kernel
theorem d_H_run_22 : decode b_H_run 22 = .ok (.iload 4, 2) := by decide +kernel
theorem d_H_run_24 : decode b_H_run 24 = .ok (.putfield 21, 3) := by decide +kernel
theorem d_H_run_27 : decode b_H_run 27 = .ok (.aload_n 0, 1) := by decide +kernel
theorem d_H_run_28 : decode b_H_run 28 = .ok (.iconst 0, 1) := by decide +kernel
theorem d_H_run_29 : decode b_H_run 29 = .ok (.putfield 24, 3) := by decide +kernel
theorem d_H_run_32 : decode b_H_run 32 = .ok (.iload_n 1, 1) := by decide +kernel
theorem d_H_run_33 : decode b_H_run 33 = .ok (.bipush 100, 2) := by decide +kernel
theorem d_H_run_35 : decode b_H_run 35 = .ok (.idiv, 1) := by decide +kernel
theorem d_H_run_36 : decode b_H_run 36 = .ok (.istore 5, 2) := by decide +kernel
theorem d_H_run_38 : decode b_H_run 38 = .ok (.iload_n 1, 1) := by decide +kernel
theorem d_H_run_39 : decode b_H_run 39 = .ok (.bipush 100, 2) := by decide +kernel
theorem d_H_run_41 : decode b_H_run 41 = .ok (.irem, 1) := by decide +kernel
theorem d_H_run_42 : decode b_H_run 42 = .ok (.istore 6, 2) := by decide +kernel
theorem d_H_run_44 : decode b_H_run 44 = .ok (.iload 5, 2) := by decide +kernel
theorem d_H_run_46 : decode b_H_run 46 = .ok (.istore 7, 2) := by decide +kernel
theorem d_H_run_48 : decode b_H_run 48 = .ok (.iload 7, 2) := by decide +kernel
theorem d_H_run_50 : decode b_H_run 50 = .ok (.iload 6, 2) := by decide +kernel
theorem d_H_run_52 : decode b_H_run 52 = .ok (.if_icmp .gt 59, 3) := by decide +kernel
theorem d_H_run_55 : decode b_H_run 55 = .ok (.iload 5, 2) := by decide +kernel
theorem d_H_run_57 : decode b_H_run 57 = .ok (.istore 8, 2) := by decide +kernel
theorem d_H_run_59 : decode b_H_run 59 = .ok (.iload 8, 2) := by decide +kernel
theorem d_H_run_61 : decode b_H_run 61 = .ok (.iload 6, 2) := by decide +kernel
theorem d_H_run_63 : decode b_H_run 63 = .ok (.if_icmp .gt 42, 3) := by decide +kernel
theorem d_H_run_66 : decode b_H_run 66 = .ok (.aload_n 0, 1) := by decide +kernel
theorem d_H_run_67 : decode b_H_run 67 = .ok (.iload 7, 2) := by decide +kernel
theorem d_H_run_69 : decode b_H_run 69 = .ok (.iload 8, 2) := by decide +kernel
theorem d_H_run_71 : decode b_H_run 71 = .ok (.invokevirtual 33, 3) := by decide +kernel
theorem d_H_run_74 : decode b_H_run 74 = .ok (.ifCond .eq 25, 3) := by decide +kernel
theorem d_H_run_77 : decode b_H_run 77 = .ok (.iload 7, 2) := by decide +kernel
theorem d_H_run_79 : decode b_H_run 79 = .ok (.iload 8, 2) := by decide +kernel
theorem d_H_run_81 : decode b_H_run 81 = .ok (.aload_n 0, 1) := by decide +kernel
theorem d_H_run_82 : decode b_H_run 82 = .ok (.getfield 9, 3) := by decide +kernel
theorem d_H_run_85 : decode b_H_run 85 = .ok (.invokestatic 37, 3) := by decide +kernel
theorem d_H_run_88 : decode b_H_run 88 = .ok (.ifCond .eq 11, 3) := by decide +kernel
theorem d_H_run_91 : decode b_H_run 91 = .ok (.aload_n 0, 1) := by decide +kernel
theorem d_H_run_92 : decode b_H_run 92 = .ok (.iload 7, 2) := by decide +kernel
theorem d_H_run_94 : decode b_H_run 94 = .ok (.iload 8, 2) := by decide +kernel
theorem d_H_run_96 : decode b_H_run 96 = .ok (.invokevirtual 43, 3) := by decide +kernel
theorem d_H_run_99 : decode b_H_run 99 = .ok (.iinc 8 1, 3) := by decide +kernel
theorem d_H_run_102 : decode b_H_run 102 = .ok (.goto (-43), 3) := by decide +kernel
theorem d_H_run_105 : decode b_H_run 105 = .ok (.iinc 7 1, 3) := by decide +kernel
theorem d_H_run_108 : decode b_H_run 108 = .ok (.goto (-60), 3) := by decide +kernel
theorem d_H_run_111 : decode b_H_run 111 = .ok (.return_, 1) := by decide +kernel
theorem d_H_told_0 : decode b_H_told 0 = .ok (.iload_n 1, 1) := by decide +kernel
theorem d_H_told_1 : decode b_H_told 1 = .ok (.ifCond .ne 8, 3) := by decide +kernel
theorem d_H_told_4 : decode b_H_told 4 = .ok (.aload_n 0, 1) := by decide +kernel
theorem d_H_told_5 : decode b_H_told 5 = .ok (.getfield 24, 3) := by decide +kernel
theorem d_H_told_8 : decode b_H_told 8 = .ok (.ireturn, 1) := by decide +kernel
theorem d_H_told_9 : decode b_H_told 9 = .ok (.aload_n 0, 1) := by decide +kernel
theorem d_H_told_10 : decode b_H_told 10 = .ok (.getfield 24, 3) := by decide +kernel
theorem d_H_told_13 : decode b_H_told 13 = .ok (.ifCond .ne 6, 3) := by decide +kernel
theorem d_H_told_16 : decode b_H_told 16 = .ok (.bipush (-2), 2) := by decide +kernel
theorem d_H_told_18 : decode b_H_told 18 = .ok (.ireturn, 1) := by decide +kernel
theorem d_H_told_19 : decode b_H_told 19 = .ok (.iload_n 1, 1) := by decide +kernel
theorem d_H_told_20 : decode b_H_told 20 = .ok (.iconst 1, 1) := by decide +kernel
theorem d_H_told_21 : decode b_H_told 21 = .ok (.if_icmp .ne 8, 3) := by decide +kernel
theorem d_H_told_24 : decode b_H_told 24 = .ok (.aload_n 0, 1) := by decide +kernel
theorem d_H_told_25 : decode b_H_told 25 = .ok (.getfield 27, 3) := by decide +kernel
theorem d_H_told_28 : decode b_H_told 28 = .ok (.ireturn, 1) := by decide +kernel
theorem d_H_told_29 : decode b_H_told 29 = .ok (.iload_n 1, 1) := by decide +kernel
theorem d_H_told_30 : decode b_H_told 30 = .ok (.iconst 2, 1) := by decide +kernel
theorem d_H_told_31 : decode b_H_told 31 = .ok (.if_icmp .ne 10, 3) := by decide +kernel
theorem d_H_told_34 : decode b_H_told 34 = .ok (.aload_n 0, 1) := by decide +kernel
theorem d_H_told_35 : decode b_H_told 35 = .ok (.getfield 30, 3) := by decide +kernel
theorem d_H_told_38 : decode b_H_told 38 = .ok (.goto 18, 3) := by decide +kernel
theorem d_H_told_41 : decode b_H_told 41 = .ok (.aload_n 0, 1) := by decide +kernel
theorem d_H_told_42 : decode b_H_told 42 = .ok (.getfield 27, 3) := by decide +kernel
theorem d_H_told_45 : decode b_H_told 45 = .ok (.aload_n 0, 1) := by decide +kernel
theorem d_H_told_46 : decode b_H_told 46 = .ok (.getfield 30, 3) := by decide +kernel
theorem d_H_told_49 : decode b_H_told 49 = .ok (.aload_n 0, 1) := by decide +kernel
theorem d_H_told_50 : decode b_H_told 50 = .ok (.getfield 9, 3) := by decide +kernel
theorem d_H_told_53 : decode b_H_told 53 = .ok (.invokestatic 47, 3) := by decide +kernel
theorem d_H_told_56 : decode b_H_told 56 = .ok (.ireturn, 1) := by decide +kernel
theorem d_H_take_0 : decode b_H_take 0 = .ok (.aload_n 0, 1) := by decide +kernel
theorem d_H_take_1 : decode b_H_take 1 = .ok (.getfield 24, 3) := by decide +kernel
theorem d_H_take_4 : decode b_H_take 4 = .ok (.ifCond .eq 12, 3) := by decide +kernel
theorem d_H_take_7 : decode b_H_take 7 = .ok (.aload_n 0, 1) := by decide +kernel
theorem d_H_take_8 : decode b_H_take 8 = .ok (.iload_n 1, 1) := by decide +kernel
theorem d_H_take_9 : decode b_H_take 9 = .ok (.iload_n 2, 1) := by decide +kernel
theorem d_H_take_10 : decode b_H_take 10 = .ok (.invokevirtual 51, 3) := by decide +kernel
theorem d_H_take_13 : decode b_H_take 13 = .ok (.ifCond .eq 13, 3) := by decide +kernel
theorem d_H_take_16 : decode b_H_take 16 = .ok (.aload_n 0, 1) := by decide +kernel
theorem d_H_take_17 : decode b_H_take 17 = .ok (.iload_n 1, 1) := by decide +kernel
theorem d_H_take_18 : decode b_H_take 18 = .ok (.putfield 27, 3) := by decide +kernel
theorem d_H_take_21 : decode b_H_take 21 = .ok (.aload_n 0, 1) := by decide +kernel
theorem d_H_take_22 : decode b_H_take 22 = .ok (.iload_n 2, 1) := by decide +kernel
theorem d_H_take_23 : decode b_H_take 23 = .ok (.putfield 30, 3) := by decide +kernel
theorem d_H_take_26 : decode b_H_take 26 = .ok (.aload_n 0, 1) := by decide +kernel
theorem d_H_take_27 : decode b_H_take 27 = .ok (.dup, 1) := by decide +kernel
theorem d_H_take_28 : decode b_H_take 28 = .ok (.getfield 24, 3) := by decide +kernel
theorem d_H_take_31 : decode b_H_take 31 = .ok (.iconst 1, 1) := by decide +kernel
theorem d_H_take_32 : decode b_H_take 32 = .ok (.iadd, 1) := by decide +kernel
theorem d_H_take_33 : decode b_H_take 33 = .ok (.putfield 24, 3) := by decide +kernel
theorem d_H_take_36 : decode b_H_take 36 = .ok (.return_, 1) := by decide +kernel
theorem d_H_miss_0 : decode b_H_miss 0 = .ok (.iload_n 1, 1) := by decide +kernel
theorem d_H_miss_1 : decode b_H_miss 1 = .ok (.iload_n 1, 1) := by decide +kernel
theorem d_H_miss_2 : decode b_H_miss 2 = .ok (.iload_n 2, 1) := by decide +kernel
theorem d_H_miss_3 : decode b_H_miss 3 = .ok (.invokestatic 54, 3) := by decide +kernel
theorem d_H_miss_6 : decode b_H_miss 6 = .ok (.iadd, 1) := by decide +kernel
theorem d_H_miss_7 : decode b_H_miss 7 = .ok (.aload_n 0, 1) := by decide +kernel
theorem d_H_miss_8 : decode b_H_miss 8 = .ok (.getfield 18, 3) := by decide +kernel
theorem d_H_miss_11 : decode b_H_miss 11 = .ok (.imul, 1) := by decide +kernel
theorem d_H_miss_12 : decode b_H_miss 12 = .ok (.aload_n 0, 1) := by decide +kernel
theorem d_H_miss_13 : decode b_H_miss 13 = .ok (.getfield 15, 3) := by decide +kernel
theorem d_H_miss_16 : decode b_H_miss 16 = .ok (.iload_n 1, 1) := by decide +kernel
theorem d_H_miss_17 : decode b_H_miss 17 = .ok (.imul, 1) := by decide +kernel
theorem d_H_miss_18 : decode b_H_miss 18 = .ok (.isub, 1) := by decide +kernel
theorem d_H_miss_19 : decode b_H_miss 19 = .ok (.invokestatic 58, 3) := by decide +kernel
theorem d_H_miss_22 : decode b_H_miss 22 = .ok (.ireturn, 1) := by decide +kernel
theorem d_H_isNear_0 : decode b_H_isNear 0 = .ok (.aload_n 0, 1) := by decide +kernel
theorem d_H_isNear_1 : decode b_H_isNear 1 = .ok (.iload_n 1, 1) := by decide +kernel
theorem d_H_isNear_2 : decode b_H_isNear 2 = .ok (.iload_n 2, 1) := by decide +kernel
theorem d_H_isNear_3 : decode b_H_isNear 3 = .ok (.invokevirtual 64, 3) := by decide +kernel
theorem d_H_isNear_6 : decode b_H_isNear 6 = .ok (.sipush 1000, 3) := by decide +kernel
theorem d_H_isNear_9 : decode b_H_isNear 9 = .ok (.imul, 1) := by decide +kernel
theorem d_H_isNear_10 : decode b_H_isNear 10 = .ok (.aload_n 0, 1) := by decide +kernel
theorem d_H_isNear_11 : decode b_H_isNear 11 = .ok (.getfield 15, 3) := by decide +kernel
theorem d_H_isNear_14 : decode b_H_isNear 14 = .ok (.aload_n 0, 1) := by decide +kernel
theorem d_H_isNear_15 : decode b_H_isNear 15 = .ok (.getfield 21, 3) := by decide +kernel
theorem d_H_isNear_18 : decode b_H_isNear 18 = .ok (.imul, 1) := by decide +kernel
theorem d_H_isNear_19 : decode b_H_isNear 19 = .ok (.iload_n 1, 1) := by decide +kernel
theorem d_H_isNear_20 : decode b_H_isNear 20 = .ok (.imul, 1) := by decide +kernel
theorem d_H_isNear_21 : decode b_H_isNear 21 = .ok (.if_icmp .gt 7, 3) := by decide +kernel
theorem d_H_isNear_24 : decode b_H_isNear 24 = .ok (.iconst 1, 1) := by decide +kernel
theorem d_H_isNear_25 : decode b_H_isNear 25 = .ok (.goto 4, 3) := by decide +kernel
theorem d_H_isNear_28 : decode b_H_isNear 28 = .ok (.iconst 0, 1) := by decide +kernel
theorem d_H_isNear_29 : decode b_H_isNear 29 = .ok (.ireturn, 1) := by decide +kernel
theorem d_H_isBetter_0 : decode b_H_isBetter 0 = .ok (.aload_n 0, 1) := by decide +kernel
theorem d_H_isBetter_1 : decode b_H_isBetter 1 = .ok (.iload_n 1, 1) := by decide +kernel
theorem d_H_isBetter_2 : decode b_H_isBetter 2 = .ok (.iload_n 2, 1) := by decide +kernel
theorem d_H_isBetter_3 : decode b_H_isBetter 3 = .ok (.invokevirtual 64, 3) := by decide +kernel
theorem d_H_isBetter_6 : decode b_H_isBetter 6 = .ok (.aload_n 0, 1) := by decide +kernel
theorem d_H_isBetter_7 : decode b_H_isBetter 7 = .ok (.getfield 27, 3) := by decide +kernel
theorem d_H_isBetter_10 : decode b_H_isBetter 10 = .ok (.imul, 1) := by decide +kernel
theorem d_H_isBetter_11 : decode b_H_isBetter 11 = .ok (.istore_n 3, 1) := by decide +kernel
theorem d_H_isBetter_12 : decode b_H_isBetter 12 = .ok (.aload_n 0, 1) := by decide +kernel
theorem d_H_isBetter_13 : decode b_H_isBetter 13 = .ok (.aload_n 0, 1) := by decide +kernel
theorem d_H_isBetter_14 : decode b_H_isBetter 14 = .ok (.getfield 27, 3) := by decide +kernel
theorem d_H_isBetter_17 : decode b_H_isBetter 17 = .ok (.aload_n 0, 1) := by decide +kernel
theorem d_H_isBetter_18 : decode b_H_isBetter 18 = .ok (.getfield 30, 3) := by decide +kernel
theorem d_H_isBetter_21 : decode b_H_isBetter 21 = .ok (.invokevirtual 64, 3) := by decide +kernel
theorem d_H_isBetter_24 : decode b_H_isBetter 24 = .ok (.iload_n 1, 1) := by decide +kernel
theorem d_H_isBetter_25 : decode b_H_isBetter 25 = .ok (.imul, 1) := by decide +kernel
theorem d_H_isBetter_26 : decode b_H_isBetter 26 = .ok (.istore 4, 2) := by decide +kernel
theorem d_H_isBetter_28 : decode b_H_isBetter 28 = .ok (.iload_n 3, 1) := by decide +kernel
theorem d_H_isBetter_29 : decode b_H_isBetter 29 = .ok (.iload 4, 2) := by decide +kernel
theorem d_H_isBetter_31 : decode b_H_isBetter 31 = .ok (.if_icmp .eq 15, 3) := by decide +kernel
theorem d_H_isBetter_34 : decode b_H_isBetter 34 = .ok (.iload_n 3, 1) := by decide +kernel
theorem d_H_isBetter_35 : decode b_H_isBetter 35 = .ok (.iload 4, 2) := by decide +kernel
theorem d_H_isBetter_37 : decode b_H_isBetter 37 = .ok (.if_icmp .ge 7, 3) := by decide +kernel
theorem d_H_isBetter_40 : decode b_H_isBetter 40 = .ok (.iconst 1, 1) := by decide +kernel
theorem d_H_isBetter_41 : decode b_H_isBetter 41 = .ok (.goto 4, 3) := by decide +kernel
theorem d_H_isBetter_44 : decode b_H_isBetter 44 = .ok (.iconst 0, 1) := by decide +kernel
theorem d_H_isBetter_45 : decode b_H_isBetter 45 = .ok (.ireturn, 1) := by decide +kernel
theorem d_H_isBetter_46 : decode b_H_isBetter 46 = .ok (.iload_n 1, 1) := by decide +kernel
theorem d_H_isBetter_47 : decode b_H_isBetter 47 = .ok (.iload_n 2, 1) := by decide +kernel
theorem d_H_isBetter_48 : decode b_H_isBetter 48 = .ok (.aload_n 0, 1) := by decide +kernel
theorem d_H_isBetter_49 : decode b_H_isBetter 49 = .ok (.getfield 9, 3) := by decide +kernel
theorem d_H_isBetter_52 : decode b_H_isBetter 52 = .ok (.invokestatic 47, 3) := by decide +kernel
theorem d_H_isBetter_55 : decode b_H_isBetter 55 = .ok (.istore 5, 2) := by decide +kernel
theorem d_H_isBetter_57 : decode b_H_isBetter 57 = .ok (.aload_n 0, 1) := by decide +kernel
theorem d_H_isBetter_58 : decode b_H_isBetter 58 = .ok (.getfield 27, 3) := by decide +kernel
theorem d_H_isBetter_61 : decode b_H_isBetter 61 = .ok (.aload_n 0, 1) := by decide +kernel
theorem d_H_isBetter_62 : decode b_H_isBetter 62 = .ok (.getfield 30, 3) := by decide +kernel
theorem d_H_isBetter_65 : decode b_H_isBetter 65 = .ok (.aload_n 0, 1) := by decide +kernel
theorem d_H_isBetter_66 : decode b_H_isBetter 66 = .ok (.getfield 9, 3) := by decide +kernel
theorem d_H_isBetter_69 : decode b_H_isBetter 69 = .ok (.invokestatic 47, 3) := by decide +kernel
theorem d_H_isBetter_72 : decode b_H_isBetter 72 = .ok (.istore 6, 2) := by decide +kernel
theorem d_H_isBetter_74 : decode b_H_isBetter 74 = .ok (.iload 5, 2) := by decide +kernel
theorem d_H_isBetter_76 : decode b_H_isBetter 76 = .ok (.iload 6, 2) := by decide +kernel
theorem d_H_isBetter_78 : decode b_H_isBetter 78 = .ok (.if_icmp .eq 18, 3) := by decide +kernel
theorem d_H_isBetter_81 : decode b_H_isBetter 81 = .ok (.iload 5, 2) := by decide +kernel
theorem d_H_isBetter_83 : decode b_H_isBetter 83 = .ok (.iload 6, 2) := by decide +kernel
theorem d_H_isBetter_85 : decode b_H_isBetter 85 = .ok (.if_icmp .ge 7, 3) := by decide +kernel
theorem d_H_isBetter_88 : decode b_H_isBetter 88 = .ok (.iconst 1, 1) := by decide +kernel
theorem d_H_isBetter_89 : decode b_H_isBetter 89 = .ok (.goto 20, 3) := by decide +kernel
theorem d_H_isBetter_92 : decode b_H_isBetter 92 = .ok (.iconst 0, 1) := by decide +kernel
theorem d_H_isBetter_93 : decode b_H_isBetter 93 = .ok (.goto 16, 3) := by decide +kernel
theorem d_H_isBetter_96 : decode b_H_isBetter 96 = .ok (.iload_n 1, 1) := by decide +kernel
theorem d_H_isBetter_97 : decode b_H_isBetter 97 = .ok (.aload_n 0, 1) := by decide +kernel
theorem d_H_isBetter_98 : decode b_H_isBetter 98 = .ok (.getfield 27, 3) := by decide +kernel
theorem d_H_isBetter_101 : decode b_H_isBetter 101 = .ok (.if_icmp .ge 7, 3) := by decide +kernel
theorem d_H_isBetter_104 : decode b_H_isBetter 104 = .ok (.iconst 1, 1) := by decide +kernel
theorem d_H_isBetter_105 : decode b_H_isBetter 105 = .ok (.goto 4, 3) := by decide +kernel
theorem d_H_isBetter_108 : decode b_H_isBetter 108 = .ok (.iconst 0, 1) := by decide +kernel
theorem d_H_isBetter_109 : decode b_H_isBetter 109 = .ok (.ireturn, 1) := by decide +kernel
theorem d_T_ring_0 : decode b_T_ring 0 = .ok (.iload_n 0, 1) := by decide +kernel
theorem d_T_ring_1 : decode b_T_ring 1 = .ok (.iconst 2, 1) := by decide +kernel
theorem d_T_ring_2 : decode b_T_ring 2 = .ok (.iload_n 1, 1) := by decide +kernel
theorem d_T_ring_3 : decode b_T_ring 3 = .ok (.imul, 1) := by decide +kernel
theorem d_T_ring_4 : decode b_T_ring 4 = .ok (.iadd, 1) := by decide +kernel
theorem d_T_ring_5 : decode b_T_ring 5 = .ok (.ireturn, 1) := by decide +kernel
theorem d_T_divides_0 : decode b_T_divides 0 = .ok (.iload_n 2, 1) := by decide +kernel
theorem d_T_divides_1 : decode b_T_divides 1 = .ok (.ifCond .eq 19, 3) := by decide +kernel
theorem d_T_divides_4 : decode b_T_divides 4 = .ok (.iload_n 0, 1) := by decide +kernel
theorem d_T_divides_5 : decode b_T_divides 5 = .ok (.iload_n 0, 1) := by decide +kernel
theorem d_T_divides_6 : decode b_T_divides 6 = .ok (.iload_n 1, 1) := by decide +kernel
theorem d_T_divides_7 : decode b_T_divides 7 = .ok (.invokestatic 9, 3) := by decide +kernel
theorem d_T_divides_10 : decode b_T_divides 10 = .ok (.iadd, 1) := by decide +kernel
theorem d_T_divides_11 : decode b_T_divides 11 = .ok (.iload_n 2, 1) := by decide +kernel
theorem d_T_divides_12 : decode b_T_divides 12 = .ok (.irem, 1) := by decide +kernel
theorem d_T_divides_13 : decode b_T_divides 13 = .ok (.ifCond .ne 7, 3) := by decide +kernel
theorem d_T_divides_16 : decode b_T_divides 16 = .ok (.iconst 1, 1) := by decide +kernel
theorem d_T_divides_17 : decode b_T_divides 17 = .ok (.goto 4, 3) := by decide +kernel
theorem d_T_divides_20 : decode b_T_divides 20 = .ok (.iconst 0, 1) := by decide +kernel
theorem d_T_divides_21 : decode b_T_divides 21 = .ok (.ireturn, 1) := by decide +kernel
theorem d_T_touch_0 : decode b_T_touch 0 = .ok (.iload_n 2, 1) := by decide +kernel
theorem d_T_touch_1 : decode b_T_touch 1 = .ok (.iconst 1, 1) := by decide +kernel
theorem d_T_touch_2 : decode b_T_touch 2 = .ok (.if_icmp .eq 25, 3) := by decide +kernel
theorem d_T_touch_5 : decode b_T_touch 5 = .ok (.iload_n 0, 1) := by decide +kernel
theorem d_T_touch_6 : decode b_T_touch 6 = .ok (.iload_n 1, 1) := by decide +kernel
theorem d_T_touch_7 : decode b_T_touch 7 = .ok (.iadd, 1) := by decide +kernel
theorem d_T_touch_8 : decode b_T_touch 8 = .ok (.iload_n 2, 1) := by decide +kernel
theorem d_T_touch_9 : decode b_T_touch 9 = .ok (.invokestatic 15, 3) := by decide +kernel
theorem d_T_touch_12 : decode b_T_touch 12 = .ok (.imul, 1) := by decide +kernel
theorem d_T_touch_13 : decode b_T_touch 13 = .ok (.sipush 1000, 3) := by decide +kernel
theorem d_T_touch_16 : decode b_T_touch 16 = .ok (.iload_n 1, 1) := by decide +kernel
theorem d_T_touch_17 : decode b_T_touch 17 = .ok (.iconst 2, 1) := by decide +kernel
theorem d_T_touch_18 : decode b_T_touch 18 = .ok (.iadd, 1) := by decide +kernel
theorem d_T_touch_19 : decode b_T_touch 19 = .ok (.imul, 1) := by decide +kernel
theorem d_T_touch_20 : decode b_T_touch 20 = .ok (.if_icmp .gt 7, 3) := by decide +kernel
theorem d_T_touch_23 : decode b_T_touch 23 = .ok (.iconst 1, 1) := by decide +kernel
theorem d_T_touch_24 : decode b_T_touch 24 = .ok (.goto 4, 3) := by decide +kernel
theorem d_T_touch_27 : decode b_T_touch 27 = .ok (.iconst 0, 1) := by decide +kernel
theorem d_T_touch_28 : decode b_T_touch 28 = .ok (.ireturn, 1) := by decide +kernel
theorem d_T_canBe_0 : decode b_T_canBe 0 = .ok (.iload_n 0, 1) := by decide +kernel
theorem d_T_canBe_1 : decode b_T_canBe 1 = .ok (.iload_n 1, 1) := by decide +kernel
theorem d_T_canBe_2 : decode b_T_canBe 2 = .ok (.iload_n 2, 1) := by decide +kernel
theorem d_T_canBe_3 : decode b_T_canBe 3 = .ok (.invokestatic 19, 3) := by decide +kernel
theorem d_T_canBe_6 : decode b_T_canBe 6 = .ok (.ifCond .eq 16, 3) := by decide +kernel
theorem d_T_canBe_9 : decode b_T_canBe 9 = .ok (.iload_n 0, 1) := by decide +kernel
theorem d_T_canBe_10 : decode b_T_canBe 10 = .ok (.iload_n 1, 1) := by decide +kernel
theorem d_T_canBe_11 : decode b_T_canBe 11 = .ok (.iload_n 2, 1) := by decide +kernel
theorem d_T_canBe_12 : decode b_T_canBe 12 = .ok (.invokestatic 23, 3) := by decide +kernel
theorem d_T_canBe_15 : decode b_T_canBe 15 = .ok (.ifCond .ne 7, 3) := by decide +kernel
theorem d_T_canBe_18 : decode b_T_canBe 18 = .ok (.iconst 1, 1) := by decide +kernel
theorem d_T_canBe_19 : decode b_T_canBe 19 = .ok (.goto 4, 3) := by decide +kernel
theorem d_T_canBe_22 : decode b_T_canBe 22 = .ok (.iconst 0, 1) := by decide +kernel
theorem d_T_canBe_23 : decode b_T_canBe 23 = .ok (.ireturn, 1) := by decide +kernel
theorem d_T_teethTogether_0 : decode b_T_teethTogether 0 = .ok (.iload_n 0, 1) := by decide +kernel
theorem d_T_teethTogether_1 : decode b_T_teethTogether 1 = .ok (.iload_n 2, 1) := by decide +kernel
theorem d_T_teethTogether_2 : decode b_T_teethTogether 2 = .ok (.iload_n 1, 1) := by decide +kernel
theorem d_T_teethTogether_3 : decode b_T_teethTogether 3 = .ok (.imul, 1) := by decide +kernel
theorem d_T_teethTogether_4 : decode b_T_teethTogether 4 = .ok (.iadd, 1) := by decide +kernel
theorem d_T_teethTogether_5 : decode b_T_teethTogether 5 = .ok (.iload_n 0, 1) := by decide +kernel
theorem d_T_teethTogether_6 : decode b_T_teethTogether 6 = .ok (.iload_n 1, 1) := by decide +kernel
theorem d_T_teethTogether_7 : decode b_T_teethTogether 7 = .ok (.invokestatic 9, 3) := by decide +kernel
theorem d_T_teethTogether_10 : decode b_T_teethTogether 10 = .ok (.iadd, 1) := by decide +kernel
theorem d_T_teethTogether_11 : decode b_T_teethTogether 11 = .ok (.ireturn, 1) := by decide +kernel
theorem d_T_mostPlanets_0 : decode b_T_mostPlanets 0 = .ok (.bipush 8, 2) := by decide +kernel
theorem d_T_mostPlanets_2 : decode b_T_mostPlanets 2 = .ok (.istore_n 2, 1) := by decide +kernel
theorem d_T_mostPlanets_3 : decode b_T_mostPlanets 3 = .ok (.iload_n 2, 1) := by decide +kernel
theorem d_T_mostPlanets_4 : decode b_T_mostPlanets 4 = .ok (.iconst 1, 1) := by decide +kernel
theorem d_T_mostPlanets_5 : decode b_T_mostPlanets 5 = .ok (.if_icmp .le 20, 3) := by decide +kernel
theorem d_T_mostPlanets_8 : decode b_T_mostPlanets 8 = .ok (.iload_n 0, 1) := by decide +kernel
theorem d_T_mostPlanets_9 : decode b_T_mostPlanets 9 = .ok (.iload_n 1, 1) := by decide +kernel
theorem d_T_mostPlanets_10 : decode b_T_mostPlanets 10 = .ok (.iload_n 2, 1) := by decide +kernel
theorem d_T_mostPlanets_11 : decode b_T_mostPlanets 11 = .ok (.invokestatic 26, 3) := by decide +kernel
theorem d_T_mostPlanets_14 : decode b_T_mostPlanets 14 = .ok (.ifCond .eq 5, 3) := by decide +kernel
theorem d_T_mostPlanets_17 : decode b_T_mostPlanets 17 = .ok (.iload_n 2, 1) := by decide +kernel
theorem d_T_mostPlanets_18 : decode b_T_mostPlanets 18 = .ok (.ireturn, 1) := by decide +kernel
theorem d_T_mostPlanets_19 : decode b_T_mostPlanets 19 = .ok (.iinc 2 (-1), 3) := by decide +kernel
theorem d_T_mostPlanets_22 : decode b_T_mostPlanets 22 = .ok (.goto (-19), 3) := by decide +kernel
theorem d_T_mostPlanets_25 : decode b_T_mostPlanets 25 = .ok (.iconst 1, 1) := by decide +kernel
theorem d_T_mostPlanets_26 : decode b_T_mostPlanets 26 = .ok (.ireturn, 1) := by decide +kernel
theorem d_T_sine_0 : decode b_T_sine 0 = .ok (.iload_n 0, 1) := by decide +kernel
theorem d_T_sine_1 : decode b_T_sine 1 = .ok (.tableswitch 71 2 8 #[43, 47, 51, 55, 59, 63, 67], 43) := by decide +kernel
theorem d_T_sine_44 : decode b_T_sine 44 = .ok (.sipush 1000, 3) := by decide +kernel
theorem d_T_sine_47 : decode b_T_sine 47 = .ok (.ireturn, 1) := by decide +kernel
theorem d_T_sine_48 : decode b_T_sine 48 = .ok (.sipush 866, 3) := by decide +kernel
theorem d_T_sine_51 : decode b_T_sine 51 = .ok (.ireturn, 1) := by decide +kernel
theorem d_T_sine_52 : decode b_T_sine 52 = .ok (.sipush 707, 3) := by decide +kernel
theorem d_T_sine_55 : decode b_T_sine 55 = .ok (.ireturn, 1) := by decide +kernel
theorem d_T_sine_56 : decode b_T_sine 56 = .ok (.sipush 587, 3) := by decide +kernel
theorem d_T_sine_59 : decode b_T_sine 59 = .ok (.ireturn, 1) := by decide +kernel
theorem d_T_sine_60 : decode b_T_sine 60 = .ok (.sipush 500, 3) := by decide +kernel
theorem d_T_sine_63 : decode b_T_sine 63 = .ok (.ireturn, 1) := by decide +kernel
theorem d_T_sine_64 : decode b_T_sine 64 = .ok (.sipush 433, 3) := by decide +kernel
theorem d_T_sine_67 : decode b_T_sine 67 = .ok (.ireturn, 1) := by decide +kernel
theorem d_T_sine_68 : decode b_T_sine 68 = .ok (.sipush 382, 3) := by decide +kernel
theorem d_T_sine_71 : decode b_T_sine 71 = .ok (.ireturn, 1) := by decide +kernel
theorem d_T_sine_72 : decode b_T_sine 72 = .ok (.iconst 0, 1) := by decide +kernel
theorem d_T_sine_73 : decode b_T_sine 73 = .ok (.ireturn, 1) := by decide +kernel
theorem d_T_ratioPart_0 : decode b_T_ratioPart 0 = .ok (.iload_n 3, 1) := by decide +kernel
theorem d_T_ratioPart_1 : decode b_T_ratioPart 1 = .ok (.iconst 1, 1) := by decide +kernel
theorem d_T_ratioPart_2 : decode b_T_ratioPart 2 = .ok (.if_icmp .ne 7, 3) := by decide +kernel
theorem d_T_ratioPart_5 : decode b_T_ratioPart 5 = .ok (.iconst (-1), 1) := by decide +kernel
theorem d_T_ratioPart_6 : decode b_T_ratioPart 6 = .ok (.goto 4, 3) := by decide +kernel
theorem d_T_ratioPart_9 : decode b_T_ratioPart 9 = .ok (.iconst 1, 1) := by decide +kernel
theorem d_T_ratioPart_10 : decode b_T_ratioPart 10 = .ok (.istore 5, 2) := by decide +kernel
theorem d_T_ratioPart_12 : decode b_T_ratioPart 12 = .ok (.iload_n 0, 1) := by decide +kernel
theorem d_T_ratioPart_13 : decode b_T_ratioPart 13 = .ok (.iload_n 1, 1) := by decide +kernel
theorem d_T_ratioPart_14 : decode b_T_ratioPart 14 = .ok (.iconst 3, 1) := by decide +kernel
theorem d_T_ratioPart_15 : decode b_T_ratioPart 15 = .ok (.iload_n 2, 1) := by decide +kernel
theorem d_T_ratioPart_16 : decode b_T_ratioPart 16 = .ok (.isub, 1) := by decide +kernel
theorem d_T_ratioPart_17 : decode b_T_ratioPart 17 = .ok (.iload_n 3, 1) := by decide +kernel
theorem d_T_ratioPart_18 : decode b_T_ratioPart 18 = .ok (.isub, 1) := by decide +kernel
theorem d_T_ratioPart_19 : decode b_T_ratioPart 19 = .ok (.invokestatic 29, 3) := by decide +kernel
theorem d_T_ratioPart_22 : decode b_T_ratioPart 22 = .ok (.istore 6, 2) := by decide +kernel
theorem d_T_ratioPart_24 : decode b_T_ratioPart 24 = .ok (.iload_n 0, 1) := by decide +kernel
theorem d_T_ratioPart_25 : decode b_T_ratioPart 25 = .ok (.iload_n 1, 1) := by decide +kernel
theorem d_T_ratioPart_26 : decode b_T_ratioPart 26 = .ok (.iload_n 2, 1) := by decide +kernel
theorem d_T_ratioPart_27 : decode b_T_ratioPart 27 = .ok (.invokestatic 29, 3) := by decide +kernel
theorem d_T_ratioPart_30 : decode b_T_ratioPart 30 = .ok (.istore 7, 2) := by decide +kernel
theorem d_T_ratioPart_32 : decode b_T_ratioPart 32 = .ok (.iload 7, 2) := by decide +kernel
theorem d_T_ratioPart_34 : decode b_T_ratioPart 34 = .ok (.ifCond .le 20, 3) := by decide +kernel
theorem d_T_ratioPart_37 : decode b_T_ratioPart 37 = .ok (.iload 5, 2) := by decide +kernel
theorem d_T_ratioPart_39 : decode b_T_ratioPart 39 = .ok (.iload 6, 2) := by decide +kernel
theorem d_T_ratioPart_41 : decode b_T_ratioPart 41 = .ok (.imul, 1) := by decide +kernel
theorem d_T_ratioPart_42 : decode b_T_ratioPart 42 = .ok (.i2l, 1) := by decide +kernel
theorem d_T_ratioPart_43 : decode b_T_ratioPart 43 = .ok (.iload 7, 2) := by decide +kernel
theorem d_T_ratioPart_45 : decode b_T_ratioPart 45 = .ok (.i2l, 1) := by decide +kernel
theorem d_T_ratioPart_46 : decode b_T_ratioPart 46 = .ok (.iload 4, 2) := by decide +kernel
theorem d_T_ratioPart_48 : decode b_T_ratioPart 48 = .ok (.invokestatic 33, 3) := by decide +kernel
theorem d_T_ratioPart_51 : decode b_T_ratioPart 51 = .ok (.goto 6, 3) := by decide +kernel
theorem d_T_ratioPart_54 : decode b_T_ratioPart 54 = .ok (.ldc2_w 37, 3) := by decide +kernel
theorem d_T_ratioPart_57 : decode b_T_ratioPart 57 = .ok (.lreturn, 1) := by decide +kernel
theorem d_T_weight_0 : decode b_T_weight 0 = .ok (.iload_n 2, 1) := by decide +kernel
theorem d_T_weight_1 : decode b_T_weight 1 = .ok (.tableswitch 43 0 2 #[27, 29, 37], 27) := by decide +kernel
theorem d_T_weight_28 : decode b_T_weight 28 = .ok (.iload_n 0, 1) := by decide +kernel
theorem d_T_weight_29 : decode b_T_weight 29 = .ok (.ireturn, 1) := by decide +kernel
theorem d_T_weight_30 : decode b_T_weight 30 = .ok (.iload_n 0, 1) := by decide +kernel
theorem d_T_weight_31 : decode b_T_weight 31 = .ok (.iload_n 0, 1) := by decide +kernel
theorem d_T_weight_32 : decode b_T_weight 32 = .ok (.iload_n 1, 1) := by decide +kernel
theorem d_T_weight_33 : decode b_T_weight 33 = .ok (.invokestatic 9, 3) := by decide +kernel
theorem d_T_weight_36 : decode b_T_weight 36 = .ok (.iadd, 1) := by decide +kernel
theorem d_T_weight_37 : decode b_T_weight 37 = .ok (.ireturn, 1) := by decide +kernel
theorem d_T_weight_38 : decode b_T_weight 38 = .ok (.iload_n 0, 1) := by decide +kernel
theorem d_T_weight_39 : decode b_T_weight 39 = .ok (.iload_n 1, 1) := by decide +kernel
theorem d_T_weight_40 : decode b_T_weight 40 = .ok (.invokestatic 9, 3) := by decide +kernel
theorem d_T_weight_43 : decode b_T_weight 43 = .ok (.ireturn, 1) := by decide +kernel
theorem d_T_weight_44 : decode b_T_weight 44 = .ok (.iconst 0, 1) := by decide +kernel
theorem d_T_weight_45 : decode b_T_weight 45 = .ok (.ireturn, 1) := by decide +kernel
theorem d_X_init_0 : decode b_X_init 0 = .ok (.aload_n 0, 1) := by decide +kernel
theorem d_X_init_1 : decode b_X_init 1 = .ok (.invokespecial 3, 3) := by decide +kernel
theorem d_X_init_4 : decode b_X_init 4 = .ok (.aload_n 0, 1) := by decide +kernel
theorem d_X_init_5 : decode b_X_init 5 = .ok (.new 9, 3) := by decide +kernel
theorem d_X_init_8 : decode b_X_init 8 = .ok (.dup, 1) := by decide +kernel
theorem d_X_init_9 : decode b_X_init 9 = .ok (.bipush 80, 2) := by decide +kernel
theorem d_X_init_11 : decode b_X_init 11 = .ok (.invokespecial 11, 3) := by decide +kernel
theorem d_X_init_14 : decode b_X_init 14 = .ok (.putfield 14, 3) := by decide +kernel
theorem d_X_init_17 : decode b_X_init 17 = .ok (.aload_n 0, 1) := by decide +kernel
theorem d_X_init_18 : decode b_X_init 18 = .ok (.new 9, 3) := by decide +kernel
theorem d_X_init_21 : decode b_X_init 21 = .ok (.dup, 1) := by decide +kernel
theorem d_X_init_22 : decode b_X_init 22 = .ok (.bipush 40, 2) := by decide +kernel
theorem d_X_init_24 : decode b_X_init 24 = .ok (.invokespecial 11, 3) := by decide +kernel
theorem d_X_init_27 : decode b_X_init 27 = .ok (.putfield 20, 3) := by decide +kernel
theorem d_X_init_30 : decode b_X_init 30 = .ok (.aload_n 0, 1) := by decide +kernel
theorem d_X_init_31 : decode b_X_init 31 = .ok (.new 9, 3) := by decide +kernel
theorem d_X_init_34 : decode b_X_init 34 = .ok (.dup, 1) := by decide +kernel
theorem d_X_init_35 : decode b_X_init 35 = .ok (.bipush 40, 2) := by decide +kernel
theorem d_X_init_37 : decode b_X_init 37 = .ok (.invokespecial 11, 3) := by decide +kernel
theorem d_X_init_40 : decode b_X_init 40 = .ok (.putfield 23, 3) := by decide +kernel
theorem d_X_init_43 : decode b_X_init 43 = .ok (.aload_n 0, 1) := by decide +kernel
theorem d_X_init_44 : decode b_X_init 44 = .ok (.new 9, 3) := by decide +kernel
theorem d_X_init_47 : decode b_X_init 47 = .ok (.dup, 1) := by decide +kernel
theorem d_X_init_48 : decode b_X_init 48 = .ok (.bipush 40, 2) := by decide +kernel
theorem d_X_init_50 : decode b_X_init 50 = .ok (.invokespecial 11, 3) := by decide +kernel
theorem d_X_init_53 : decode b_X_init 53 = .ok (.putfield 26, 3) := by decide +kernel
theorem d_X_init_56 : decode b_X_init 56 = .ok (.aload_n 0, 1) := by decide +kernel
theorem d_X_init_57 : decode b_X_init 57 = .ok (.iconst 0, 1) := by decide +kernel
theorem d_X_init_58 : decode b_X_init 58 = .ok (.putfield 29, 3) := by decide +kernel
theorem d_X_init_61 : decode b_X_init 61 = .ok (.aload_n 0, 1) := by decide +kernel
theorem d_X_init_62 : decode b_X_init 62 = .ok (.iconst 0, 1) := by decide +kernel
theorem d_X_init_63 : decode b_X_init 63 = .ok (.putfield 33, 3) := by decide +kernel
theorem d_X_init_66 : decode b_X_init 66 = .ok (.return_, 1) := by decide +kernel
theorem d_X_append_0 : decode b_X_append 0 = .ok (.iload_n 1, 1) := by decide +kernel
theorem d_X_append_1 : decode b_X_append 1 = .ok (.bipush 32, 2) := by decide +kernel
theorem d_X_append_3 : decode b_X_append 3 = .ok (.if_icmp .lt 9, 3) := by decide +kernel
theorem d_X_append_6 : decode b_X_append 6 = .ok (.iload_n 1, 1) := by decide +kernel
theorem d_X_append_7 : decode b_X_append 7 = .ok (.bipush 126, 2) := by decide +kernel
theorem d_X_append_9 : decode b_X_append 9 = .ok (.if_icmp .le 5, 3) := by decide +kernel
theorem d_X_append_12 : decode b_X_append 12 = .ok (.iconst (-1), 1) := by decide +kernel
theorem d_X_append_13 : decode b_X_append 13 = .ok (.ireturn, 1) := by decide +kernel
theorem d_X_append_14 : decode b_X_append 14 = .ok (.aload_n 0, 1) := by decide +kernel
theorem d_X_append_15 : decode b_X_append 15 = .ok (.getfield 14, 3) := by decide +kernel
theorem d_X_append_18 : decode b_X_append 18 = .ok (.invokevirtual 36, 3) := by decide +kernel
theorem d_X_append_21 : decode b_X_append 21 = .ok (.ifCond .eq 6, 3) := by decide +kernel
theorem d_X_append_24 : decode b_X_append 24 = .ok (.bipush (-3), 2) := by decide +kernel
theorem d_X_append_26 : decode b_X_append 26 = .ok (.ireturn, 1) := by decide +kernel
theorem d_X_append_27 : decode b_X_append 27 = .ok (.aload_n 0, 1) := by decide +kernel
theorem d_X_append_28 : decode b_X_append 28 = .ok (.getfield 14, 3) := by decide +kernel
theorem d_X_append_31 : decode b_X_append 31 = .ok (.iload_n 1, 1) := by decide +kernel
theorem d_X_append_32 : decode b_X_append 32 = .ok (.invokevirtual 40, 3) := by decide +kernel
theorem d_X_append_35 : decode b_X_append 35 = .ok (.aload_n 0, 1) := by decide +kernel
theorem d_X_append_36 : decode b_X_append 36 = .ok (.getfield 14, 3) := by decide +kernel
theorem d_X_append_39 : decode b_X_append 39 = .ok (.invokevirtual 43, 3) := by decide +kernel
theorem d_X_append_42 : decode b_X_append 42 = .ok (.ireturn, 1) := by decide +kernel
theorem d_X_length_0 : decode b_X_length 0 = .ok (.aload_n 0, 1) := by decide +kernel
theorem d_X_length_1 : decode b_X_length 1 = .ok (.getfield 14, 3) := by decide +kernel
theorem d_X_length_4 : decode b_X_length 4 = .ok (.invokevirtual 43, 3) := by decide +kernel
theorem d_X_length_7 : decode b_X_length 7 = .ok (.ireturn, 1) := by decide +kernel
theorem d_X_empty_0 : decode b_X_empty 0 = .ok (.aload_n 0, 1) := by decide +kernel
theorem d_X_empty_1 : decode b_X_empty 1 = .ok (.getfield 14, 3) := by decide +kernel
theorem d_X_empty_4 : decode b_X_empty 4 = .ok (.invokevirtual 47, 3) := by decide +kernel
theorem d_X_empty_7 : decode b_X_empty 7 = .ok (.return_, 1) := by decide +kernel
theorem d_X_acts_0 : decode b_X_acts 0 = .ok (.aload_n 0, 1) := by decide +kernel
theorem d_X_acts_1 : decode b_X_acts 1 = .ok (.getfield 20, 3) := by decide +kernel
theorem d_X_acts_4 : decode b_X_acts 4 = .ok (.invokevirtual 43, 3) := by decide +kernel
theorem d_X_acts_7 : decode b_X_acts 7 = .ok (.ireturn, 1) := by decide +kernel
theorem d_X_letterOf_0 : decode b_X_letterOf 0 = .ok (.aload_n 0, 1) := by decide +kernel
theorem d_X_letterOf_1 : decode b_X_letterOf 1 = .ok (.getfield 20, 3) := by decide +kernel
theorem d_X_letterOf_4 : decode b_X_letterOf 4 = .ok (.iload_n 1, 1) := by decide +kernel
theorem d_X_letterOf_5 : decode b_X_letterOf 5 = .ok (.invokevirtual 50, 3) := by decide +kernel
theorem d_X_letterOf_8 : decode b_X_letterOf 8 = .ok (.ireturn, 1) := by decide +kernel
theorem d_X_firstOf_0 : decode b_X_firstOf 0 = .ok (.aload_n 0, 1) := by decide +kernel
theorem d_X_firstOf_1 : decode b_X_firstOf 1 = .ok (.getfield 23, 3) := by decide +kernel
theorem d_X_firstOf_4 : decode b_X_firstOf 4 = .ok (.iload_n 1, 1) := by decide +kernel
theorem d_X_firstOf_5 : decode b_X_firstOf 5 = .ok (.invokevirtual 50, 3) := by decide +kernel
theorem d_X_firstOf_8 : decode b_X_firstOf 8 = .ok (.ireturn, 1) := by decide +kernel
theorem d_X_secondOf_0 : decode b_X_secondOf 0 = .ok (.aload_n 0, 1) := by decide +kernel
theorem d_X_secondOf_1 : decode b_X_secondOf 1 = .ok (.getfield 26, 3) := by decide +kernel
theorem d_X_secondOf_4 : decode b_X_secondOf 4 = .ok (.iload_n 1, 1) := by decide +kernel
theorem d_X_secondOf_5 : decode b_X_secondOf 5 = .ok (.invokevirtual 50, 3) := by decide +kernel
theorem d_X_secondOf_8 : decode b_X_secondOf 8 = .ok (.ireturn, 1) := by decide +kernel
theorem d_X_parse_0 : decode b_X_parse 0 = .ok (.aload_n 0, 1) := by decide +kernel
theorem d_X_parse_1 : decode b_X_parse 1 = .ok (.iconst 0, 1) := by decide +kernel
theorem d_X_parse_2 : decode b_X_parse 2 = .ok (.putfield 29, 3) := by decide +kernel
theorem d_X_parse_5 : decode b_X_parse 5 = .ok (.aload_n 0, 1) := by decide +kernel
theorem d_X_parse_6 : decode b_X_parse 6 = .ok (.getfield 20, 3) := by decide +kernel
theorem d_X_parse_9 : decode b_X_parse 9 = .ok (.invokevirtual 47, 3) := by decide +kernel
theorem d_X_parse_12 : decode b_X_parse 12 = .ok (.aload_n 0, 1) := by decide +kernel
theorem d_X_parse_13 : decode b_X_parse 13 = .ok (.getfield 23, 3) := by decide +kernel
theorem d_X_parse_16 : decode b_X_parse 16 = .ok (.invokevirtual 47, 3) := by decide +kernel
theorem d_X_parse_19 : decode b_X_parse 19 = .ok (.aload_n 0, 1) := by decide +kernel
theorem d_X_parse_20 : decode b_X_parse 20 = .ok (.getfield 26, 3) := by decide +kernel
theorem d_X_parse_23 : decode b_X_parse 23 = .ok (.invokevirtual 47, 3) := by decide +kernel
theorem d_X_parse_26 : decode b_X_parse 26 = .ok (.iconst 0, 1) := by decide +kernel
theorem d_X_parse_27 : decode b_X_parse 27 = .ok (.istore_n 1, 1) := by decide +kernel
theorem d_X_parse_28 : decode b_X_parse 28 = .ok (.iload_n 1, 1) := by decide +kernel
theorem d_X_parse_29 : decode b_X_parse 29 = .ok (.bipush 40, 2) := by decide +kernel
theorem d_X_parse_31 : decode b_X_parse 31 = .ok (.if_icmp .ge 51, 3) := by decide +kernel
theorem d_X_parse_34 : decode b_X_parse 34 = .ok (.aload_n 0, 1) := by decide +kernel
theorem d_X_parse_35 : decode b_X_parse 35 = .ok (.invokevirtual 54, 3) := by decide +kernel
theorem d_X_parse_38 : decode b_X_parse 38 = .ok (.ifCond .ne 8, 3) := by decide +kernel
theorem d_X_parse_41 : decode b_X_parse 41 = .ok (.aload_n 0, 1) := by decide +kernel
theorem d_X_parse_42 : decode b_X_parse 42 = .ok (.getfield 29, 3) := by decide +kernel
theorem d_X_parse_45 : decode b_X_parse 45 = .ok (.ireturn, 1) := by decide +kernel
theorem d_X_parse_46 : decode b_X_parse 46 = .ok (.aload_n 0, 1) := by decide +kernel
theorem d_X_parse_47 : decode b_X_parse 47 = .ok (.getfield 29, 3) := by decide +kernel
theorem d_X_parse_50 : decode b_X_parse 50 = .ok (.aload_n 0, 1) := by decide +kernel
theorem d_X_parse_51 : decode b_X_parse 51 = .ok (.getfield 14, 3) := by decide +kernel
theorem d_X_parse_54 : decode b_X_parse 54 = .ok (.invokevirtual 43, 3) := by decide +kernel
theorem d_X_parse_57 : decode b_X_parse 57 = .ok (.if_icmp .ne 5, 3) := by decide +kernel
theorem d_X_parse_60 : decode b_X_parse 60 = .ok (.iconst (-1), 1) := by decide +kernel
theorem d_X_parse_61 : decode b_X_parse 61 = .ok (.ireturn, 1) := by decide +kernel
theorem d_X_parse_62 : decode b_X_parse 62 = .ok (.aload_n 0, 1) := by decide +kernel
theorem d_X_parse_63 : decode b_X_parse 63 = .ok (.bipush 59, 2) := by decide +kernel
theorem d_X_parse_65 : decode b_X_parse 65 = .ok (.invokevirtual 57, 3) := by decide +kernel
theorem d_X_parse_68 : decode b_X_parse 68 = .ok (.ifCond .ne 8, 3) := by decide +kernel
theorem d_X_parse_71 : decode b_X_parse 71 = .ok (.aload_n 0, 1) := by decide +kernel
theorem d_X_parse_72 : decode b_X_parse 72 = .ok (.getfield 29, 3) := by decide +kernel
theorem d_X_parse_75 : decode b_X_parse 75 = .ok (.ireturn, 1) := by decide +kernel
theorem d_X_parse_76 : decode b_X_parse 76 = .ok (.iinc 1 1, 3) := by decide +kernel
theorem d_X_parse_79 : decode b_X_parse 79 = .ok (.goto (-51), 3) := by decide +kernel
theorem d_X_parse_82 : decode b_X_parse 82 = .ok (.aload_n 0, 1) := by decide +kernel
theorem d_X_parse_83 : decode b_X_parse 83 = .ok (.getfield 29, 3) := by decide +kernel
theorem d_X_parse_86 : decode b_X_parse 86 = .ok (.ireturn, 1) := by decide +kernel
theorem d_X_parseAct_0 : decode b_X_parseAct 0 = .ok (.aload_n 0, 1) := by decide +kernel
theorem d_X_parseAct_1 : decode b_X_parseAct 1 = .ok (.invokevirtual 61, 3) := by decide +kernel
theorem d_X_parseAct_4 : decode b_X_parseAct 4 = .ok (.istore_n 1, 1) := by decide +kernel
theorem d_X_parseAct_5 : decode b_X_parseAct 5 = .ok (.iconst 0, 1) := by decide +kernel
theorem d_X_parseAct_6 : decode b_X_parseAct 6 = .ok (.istore_n 2, 1) := by decide +kernel
theorem d_X_parseAct_7 : decode b_X_parseAct 7 = .ok (.iconst 0, 1) := by decide +kernel
theorem d_X_parseAct_8 : decode b_X_parseAct 8 = .ok (.istore_n 3, 1) := by decide +kernel
theorem d_X_parseAct_9 : decode b_X_parseAct 9 = .ok (.iload_n 1, 1) := by decide +kernel
theorem d_X_parseAct_10 : decode b_X_parseAct 10 = .ok (.invokestatic 64, 3) := by decide +kernel
theorem d_X_parseAct_13 : decode b_X_parseAct 13 = .ok (.ifCond .ne 5, 3) := by decide +kernel
theorem d_X_parseAct_16 : decode b_X_parseAct 16 = .ok (.iconst 0, 1) := by decide +kernel
theorem d_X_parseAct_17 : decode b_X_parseAct 17 = .ok (.ireturn, 1) := by decide +kernel
theorem d_X_parseAct_18 : decode b_X_parseAct 18 = .ok (.aload_n 0, 1) := by decide +kernel
theorem d_X_parseAct_19 : decode b_X_parseAct 19 = .ok (.dup, 1) := by decide +kernel
theorem d_X_parseAct_20 : decode b_X_parseAct 20 = .ok (.getfield 29, 3) := by decide +kernel
theorem d_X_parseAct_23 : decode b_X_parseAct 23 = .ok (.iconst 1, 1) := by decide +kernel
theorem d_X_parseAct_24 : decode b_X_parseAct 24 = .ok (.iadd, 1) := by decide +kernel
theorem d_X_parseAct_25 : decode b_X_parseAct 25 = .ok (.putfield 29, 3) := by decide +kernel
theorem d_X_parseAct_28 : decode b_X_parseAct 28 = .ok (.iload_n 1, 1) := by decide +kernel
theorem d_X_parseAct_29 : decode b_X_parseAct 29 = .ok (.bipush 120, 2) := by decide +kernel
theorem d_X_parseAct_31 : decode b_X_parseAct 31 = .ok (.if_icmp .eq 37, 3) := by decide +kernel
theorem d_X_parseAct_34 : decode b_X_parseAct 34 = .ok (.aload_n 0, 1) := by decide +kernel
theorem d_X_parseAct_35 : decode b_X_parseAct 35 = .ok (.bipush 32, 2) := by decide +kernel
theorem d_X_parseAct_37 : decode b_X_parseAct 37 = .ok (.invokevirtual 57, 3) := by decide +kernel
theorem d_X_parseAct_40 : decode b_X_parseAct 40 = .ok (.ifCond .eq 21, 3) := by decide +kernel
theorem d_X_parseAct_43 : decode b_X_parseAct 43 = .ok (.aload_n 0, 1) := by decide +kernel
theorem d_X_parseAct_44 : decode b_X_parseAct 44 = .ok (.iload_n 1, 1) := by decide +kernel
theorem d_X_parseAct_45 : decode b_X_parseAct 45 = .ok (.bipush 119, 2) := by decide +kernel
theorem d_X_parseAct_47 : decode b_X_parseAct 47 = .ok (.if_icmp .ne 7, 3) := by decide +kernel
theorem d_X_parseAct_50 : decode b_X_parseAct 50 = .ok (.iconst 1, 1) := by decide +kernel
theorem d_X_parseAct_51 : decode b_X_parseAct 51 = .ok (.goto 4, 3) := by decide +kernel
theorem d_X_parseAct_54 : decode b_X_parseAct 54 = .ok (.iconst 0, 1) := by decide +kernel
theorem d_X_parseAct_55 : decode b_X_parseAct 55 = .ok (.invokevirtual 67, 3) := by decide +kernel
theorem d_X_parseAct_58 : decode b_X_parseAct 58 = .ok (.ifCond .ne 5, 3) := by decide +kernel
theorem d_X_parseAct_61 : decode b_X_parseAct 61 = .ok (.iconst 0, 1) := by decide +kernel
theorem d_X_parseAct_62 : decode b_X_parseAct 62 = .ok (.ireturn, 1) := by decide +kernel
theorem d_X_parseAct_63 : decode b_X_parseAct 63 = .ok (.aload_n 0, 1) := by decide +kernel
theorem d_X_parseAct_64 : decode b_X_parseAct 64 = .ok (.getfield 33, 3) := by decide +kernel
theorem d_X_parseAct_67 : decode b_X_parseAct 67 = .ok (.istore_n 2, 1) := by decide +kernel
theorem d_X_parseAct_68 : decode b_X_parseAct 68 = .ok (.iload_n 1, 1) := by decide +kernel
theorem d_X_parseAct_69 : decode b_X_parseAct 69 = .ok (.bipush 115, 2) := by decide +kernel
theorem d_X_parseAct_71 : decode b_X_parseAct 71 = .ok (.if_icmp .eq 9, 3) := by decide +kernel
theorem d_X_parseAct_74 : decode b_X_parseAct 74 = .ok (.iload_n 1, 1) := by decide +kernel
theorem d_X_parseAct_75 : decode b_X_parseAct 75 = .ok (.bipush 116, 2) := by decide +kernel
theorem d_X_parseAct_77 : decode b_X_parseAct 77 = .ok (.if_icmp .ne 37, 3) := by decide +kernel
theorem d_X_parseAct_80 : decode b_X_parseAct 80 = .ok (.aload_n 0, 1) := by decide +kernel
theorem d_X_parseAct_81 : decode b_X_parseAct 81 = .ok (.bipush 44, 2) := by decide +kernel
theorem d_X_parseAct_83 : decode b_X_parseAct 83 = .ok (.invokevirtual 57, 3) := by decide +kernel
theorem d_X_parseAct_86 : decode b_X_parseAct 86 = .ok (.ifCond .eq 21, 3) := by decide +kernel
theorem d_X_parseAct_89 : decode b_X_parseAct 89 = .ok (.aload_n 0, 1) := by decide +kernel
theorem d_X_parseAct_90 : decode b_X_parseAct 90 = .ok (.iload_n 1, 1) := by decide +kernel
theorem d_X_parseAct_91 : decode b_X_parseAct 91 = .ok (.bipush 115, 2) := by decide +kernel
theorem d_X_parseAct_93 : decode b_X_parseAct 93 = .ok (.if_icmp .ne 7, 3) := by decide +kernel
theorem d_X_parseAct_96 : decode b_X_parseAct 96 = .ok (.iconst 1, 1) := by decide +kernel
theorem d_X_parseAct_97 : decode b_X_parseAct 97 = .ok (.goto 4, 3) := by decide +kernel
theorem d_X_parseAct_100 : decode b_X_parseAct 100 = .ok (.iconst 0, 1) := by decide +kernel
theorem d_X_parseAct_101 : decode b_X_parseAct 101 = .ok (.invokevirtual 67, 3) := by decide +kernel
theorem d_X_parseAct_104 : decode b_X_parseAct 104 = .ok (.ifCond .ne 5, 3) := by decide +kernel
theorem d_X_parseAct_107 : decode b_X_parseAct 107 = .ok (.iconst 0, 1) := by decide +kernel
theorem d_X_parseAct_108 : decode b_X_parseAct 108 = .ok (.ireturn, 1) := by decide +kernel
theorem d_X_parseAct_109 : decode b_X_parseAct 109 = .ok (.aload_n 0, 1) := by decide +kernel
theorem d_X_parseAct_110 : decode b_X_parseAct 110 = .ok (.getfield 33, 3) := by decide +kernel
theorem d_X_parseAct_113 : decode b_X_parseAct 113 = .ok (.istore_n 3, 1) := by decide +kernel
theorem d_X_parseAct_114 : decode b_X_parseAct 114 = .ok (.aload_n 0, 1) := by decide +kernel
theorem d_X_parseAct_115 : decode b_X_parseAct 115 = .ok (.getfield 20, 3) := by decide +kernel
theorem d_X_parseAct_118 : decode b_X_parseAct 118 = .ok (.iload_n 1, 1) := by decide +kernel
theorem d_X_parseAct_119 : decode b_X_parseAct 119 = .ok (.invokevirtual 40, 3) := by decide +kernel
theorem d_X_parseAct_122 : decode b_X_parseAct 122 = .ok (.aload_n 0, 1) := by decide +kernel
theorem d_X_parseAct_123 : decode b_X_parseAct 123 = .ok (.getfield 23, 3) := by decide +kernel
theorem d_X_parseAct_126 : decode b_X_parseAct 126 = .ok (.iload_n 2, 1) := by decide +kernel
theorem d_X_parseAct_127 : decode b_X_parseAct 127 = .ok (.invokevirtual 40, 3) := by decide +kernel
theorem d_X_parseAct_130 : decode b_X_parseAct 130 = .ok (.aload_n 0, 1) := by decide +kernel
theorem d_X_parseAct_131 : decode b_X_parseAct 131 = .ok (.getfield 26, 3) := by decide +kernel
theorem d_X_parseAct_134 : decode b_X_parseAct 134 = .ok (.iload_n 3, 1) := by decide +kernel
theorem d_X_parseAct_135 : decode b_X_parseAct 135 = .ok (.invokevirtual 40, 3) := by decide +kernel
theorem d_X_parseAct_138 : decode b_X_parseAct 138 = .ok (.iconst 1, 1) := by decide +kernel
theorem d_X_parseAct_139 : decode b_X_parseAct 139 = .ok (.ireturn, 1) := by decide +kernel
theorem d_X_parseNumber_0 : decode b_X_parseNumber 0 = .ok (.iload_n 1, 1) := by decide +kernel
theorem d_X_parseNumber_1 : decode b_X_parseNumber 1 = .ok (.ifCond .eq 16, 3) := by decide +kernel
theorem d_X_parseNumber_4 : decode b_X_parseNumber 4 = .ok (.aload_n 0, 1) := by decide +kernel
theorem d_X_parseNumber_5 : decode b_X_parseNumber 5 = .ok (.bipush 45, 2) := by decide +kernel
theorem d_X_parseNumber_7 : decode b_X_parseNumber 7 = .ok (.invokevirtual 57, 3) := by decide +kernel
theorem d_X_parseNumber_10 : decode b_X_parseNumber 10 = .ok (.ifCond .eq 7, 3) := by decide +kernel
theorem d_X_parseNumber_13 : decode b_X_parseNumber 13 = .ok (.iconst 1, 1) := by decide +kernel
theorem d_X_parseNumber_14 : decode b_X_parseNumber 14 = .ok (.goto 4, 3) := by decide +kernel
theorem d_X_parseNumber_17 : decode b_X_parseNumber 17 = .ok (.iconst 0, 1) := by decide +kernel
theorem d_X_parseNumber_18 : decode b_X_parseNumber 18 = .ok (.istore_n 2, 1) := by decide +kernel
theorem d_X_parseNumber_19 : decode b_X_parseNumber 19 = .ok (.iconst 0, 1) := by decide +kernel
theorem d_X_parseNumber_20 : decode b_X_parseNumber 20 = .ok (.istore_n 3, 1) := by decide +kernel
theorem d_X_parseNumber_21 : decode b_X_parseNumber 21 = .ok (.iconst 0, 1) := by decide +kernel
theorem d_X_parseNumber_22 : decode b_X_parseNumber 22 = .ok (.istore 4, 2) := by decide +kernel
theorem d_X_parseNumber_24 : decode b_X_parseNumber 24 = .ok (.iload_n 3, 1) := by decide +kernel
theorem d_X_parseNumber_25 : decode b_X_parseNumber 25 = .ok (.iconst 3, 1) := by decide +kernel
theorem d_X_parseNumber_26 : decode b_X_parseNumber 26 = .ok (.if_icmp .ge 44, 3) := by decide +kernel
theorem d_X_parseNumber_29 : decode b_X_parseNumber 29 = .ok (.aload_n 0, 1) := by decide +kernel
theorem d_X_parseNumber_30 : decode b_X_parseNumber 30 = .ok (.invokevirtual 61, 3) := by decide +kernel
theorem d_X_parseNumber_33 : decode b_X_parseNumber 33 = .ok (.invokestatic 71, 3) := by decide +kernel
theorem d_X_parseNumber_36 : decode b_X_parseNumber 36 = .ok (.ifCond .eq 34, 3) := by decide +kernel
theorem d_X_parseNumber_39 : decode b_X_parseNumber 39 = .ok (.bipush 10, 2) := by decide +kernel
theorem d_X_parseNumber_41 : decode b_X_parseNumber 41 = .ok (.iload 4, 2) := by decide +kernel
theorem d_X_parseNumber_43 : decode b_X_parseNumber 43 = .ok (.imul, 1) := by decide +kernel
theorem d_X_parseNumber_44 : decode b_X_parseNumber 44 = .ok (.aload_n 0, 1) := by decide +kernel
theorem d_X_parseNumber_45 : decode b_X_parseNumber 45 = .ok (.invokevirtual 61, 3) := by decide +kernel
theorem d_X_parseNumber_48 : decode b_X_parseNumber 48 = .ok (.iadd, 1) := by decide +kernel
theorem d_X_parseNumber_49 : decode b_X_parseNumber 49 = .ok (.bipush 48, 2) := by decide +kernel
theorem d_X_parseNumber_51 : decode b_X_parseNumber 51 = .ok (.isub, 1) := by decide +kernel
theorem d_X_parseNumber_52 : decode b_X_parseNumber 52 = .ok (.istore 4, 2) := by decide +kernel
theorem d_X_parseNumber_54 : decode b_X_parseNumber 54 = .ok (.aload_n 0, 1) := by decide +kernel
theorem d_X_parseNumber_55 : decode b_X_parseNumber 55 = .ok (.dup, 1) := by decide +kernel
theorem d_X_parseNumber_56 : decode b_X_parseNumber 56 = .ok (.getfield 29, 3) := by decide +kernel
theorem d_X_parseNumber_59 : decode b_X_parseNumber 59 = .ok (.iconst 1, 1) := by decide +kernel
theorem d_X_parseNumber_60 : decode b_X_parseNumber 60 = .ok (.iadd, 1) := by decide +kernel
theorem d_X_parseNumber_61 : decode b_X_parseNumber 61 = .ok (.putfield 29, 3) := by decide +kernel
theorem d_X_parseNumber_64 : decode b_X_parseNumber 64 = .ok (.iinc 3 1, 3) := by decide +kernel
theorem d_X_parseNumber_67 : decode b_X_parseNumber 67 = .ok (.goto (-43), 3) := by decide +kernel
theorem d_X_parseNumber_70 : decode b_X_parseNumber 70 = .ok (.aload_n 0, 1) := by decide +kernel
theorem d_X_parseNumber_71 : decode b_X_parseNumber 71 = .ok (.iload_n 2, 1) := by decide +kernel
theorem d_X_parseNumber_72 : decode b_X_parseNumber 72 = .ok (.ifCond .eq 9, 3) := by decide +kernel
theorem d_X_parseNumber_75 : decode b_X_parseNumber 75 = .ok (.iload 4, 2) := by decide +kernel
theorem d_X_parseNumber_77 : decode b_X_parseNumber 77 = .ok (.ineg, 1) := by decide +kernel
theorem d_X_parseNumber_78 : decode b_X_parseNumber 78 = .ok (.goto 5, 3) := by decide +kernel
theorem d_X_parseNumber_81 : decode b_X_parseNumber 81 = .ok (.iload 4, 2) := by decide +kernel
theorem d_X_parseNumber_83 : decode b_X_parseNumber 83 = .ok (.putfield 33, 3) := by decide +kernel
theorem d_X_parseNumber_86 : decode b_X_parseNumber 86 = .ok (.iload_n 3, 1) := by decide +kernel
theorem d_X_parseNumber_87 : decode b_X_parseNumber 87 = .ok (.ifCond .le 7, 3) := by decide +kernel
theorem d_X_parseNumber_90 : decode b_X_parseNumber 90 = .ok (.iconst 1, 1) := by decide +kernel
theorem d_X_parseNumber_91 : decode b_X_parseNumber 91 = .ok (.goto 4, 3) := by decide +kernel
theorem d_X_parseNumber_94 : decode b_X_parseNumber 94 = .ok (.iconst 0, 1) := by decide +kernel
theorem d_X_parseNumber_95 : decode b_X_parseNumber 95 = .ok (.ireturn, 1) := by decide +kernel
theorem d_X_next_0 : decode b_X_next 0 = .ok (.aload_n 0, 1) := by decide +kernel
theorem d_X_next_1 : decode b_X_next 1 = .ok (.getfield 14, 3) := by decide +kernel
theorem d_X_next_4 : decode b_X_next 4 = .ok (.aload_n 0, 1) := by decide +kernel
theorem d_X_next_5 : decode b_X_next 5 = .ok (.getfield 29, 3) := by decide +kernel
theorem d_X_next_8 : decode b_X_next 8 = .ok (.invokevirtual 74, 3) := by decide +kernel
theorem d_X_next_11 : decode b_X_next 11 = .ok (.ifCond .eq 17, 3) := by decide +kernel
theorem d_X_next_14 : decode b_X_next 14 = .ok (.aload_n 0, 1) := by decide +kernel
theorem d_X_next_15 : decode b_X_next 15 = .ok (.getfield 14, 3) := by decide +kernel
theorem d_X_next_18 : decode b_X_next 18 = .ok (.aload_n 0, 1) := by decide +kernel
theorem d_X_next_19 : decode b_X_next 19 = .ok (.getfield 29, 3) := by decide +kernel
theorem d_X_next_22 : decode b_X_next 22 = .ok (.invokevirtual 50, 3) := by decide +kernel
theorem d_X_next_25 : decode b_X_next 25 = .ok (.goto 4, 3) := by decide +kernel
theorem d_X_next_28 : decode b_X_next 28 = .ok (.iconst (-1), 1) := by decide +kernel
theorem d_X_next_29 : decode b_X_next 29 = .ok (.ireturn, 1) := by decide +kernel
theorem d_X_skip_0 : decode b_X_skip 0 = .ok (.aload_n 0, 1) := by decide +kernel
theorem d_X_skip_1 : decode b_X_skip 1 = .ok (.invokevirtual 61, 3) := by decide +kernel
theorem d_X_skip_4 : decode b_X_skip 4 = .ok (.iload_n 1, 1) := by decide +kernel
theorem d_X_skip_5 : decode b_X_skip 5 = .ok (.if_icmp .ne 7, 3) := by decide +kernel
theorem d_X_skip_8 : decode b_X_skip 8 = .ok (.iconst 1, 1) := by decide +kernel
theorem d_X_skip_9 : decode b_X_skip 9 = .ok (.goto 4, 3) := by decide +kernel
theorem d_X_skip_12 : decode b_X_skip 12 = .ok (.iconst 0, 1) := by decide +kernel
theorem d_X_skip_13 : decode b_X_skip 13 = .ok (.istore_n 2, 1) := by decide +kernel
theorem d_X_skip_14 : decode b_X_skip 14 = .ok (.iload_n 2, 1) := by decide +kernel
theorem d_X_skip_15 : decode b_X_skip 15 = .ok (.ifCond .eq 13, 3) := by decide +kernel
theorem d_X_skip_18 : decode b_X_skip 18 = .ok (.aload_n 0, 1) := by decide +kernel
theorem d_X_skip_19 : decode b_X_skip 19 = .ok (.dup, 1) := by decide +kernel
theorem d_X_skip_20 : decode b_X_skip 20 = .ok (.getfield 29, 3) := by decide +kernel
theorem d_X_skip_23 : decode b_X_skip 23 = .ok (.iconst 1, 1) := by decide +kernel
theorem d_X_skip_24 : decode b_X_skip 24 = .ok (.iadd, 1) := by decide +kernel
theorem d_X_skip_25 : decode b_X_skip 25 = .ok (.putfield 29, 3) := by decide +kernel
theorem d_X_skip_28 : decode b_X_skip 28 = .ok (.iload_n 2, 1) := by decide +kernel
theorem d_X_skip_29 : decode b_X_skip 29 = .ok (.ireturn, 1) := by decide +kernel
theorem d_X_isLetter_0 : decode b_X_isLetter 0 = .ok (.iload_n 0, 1) := by decide +kernel
theorem d_X_isLetter_1 : decode b_X_isLetter 1 = .ok (.bipush 119, 2) := by decide +kernel
theorem d_X_isLetter_3 : decode b_X_isLetter 3 = .ok (.if_icmp .eq 27, 3) := by decide +kernel
theorem d_X_isLetter_6 : decode b_X_isLetter 6 = .ok (.iload_n 0, 1) := by decide +kernel
theorem d_X_isLetter_7 : decode b_X_isLetter 7 = .ok (.bipush 115, 2) := by decide +kernel
theorem d_X_isLetter_9 : decode b_X_isLetter 9 = .ok (.if_icmp .eq 21, 3) := by decide +kernel
theorem d_X_isLetter_12 : decode b_X_isLetter 12 = .ok (.iload_n 0, 1) := by decide +kernel
theorem d_X_isLetter_13 : decode b_X_isLetter 13 = .ok (.bipush 112, 2) := by decide +kernel
theorem d_X_isLetter_15 : decode b_X_isLetter 15 = .ok (.if_icmp .eq 15, 3) := by decide +kernel
theorem d_X_isLetter_18 : decode b_X_isLetter 18 = .ok (.iload_n 0, 1) := by decide +kernel
theorem d_X_isLetter_19 : decode b_X_isLetter 19 = .ok (.bipush 116, 2) := by decide +kernel
theorem d_X_isLetter_21 : decode b_X_isLetter 21 = .ok (.if_icmp .eq 9, 3) := by decide +kernel
theorem d_X_isLetter_24 : decode b_X_isLetter 24 = .ok (.iload_n 0, 1) := by decide +kernel
theorem d_X_isLetter_25 : decode b_X_isLetter 25 = .ok (.bipush 120, 2) := by decide +kernel
theorem d_X_isLetter_27 : decode b_X_isLetter 27 = .ok (.if_icmp .ne 7, 3) := by decide +kernel
theorem d_X_isLetter_30 : decode b_X_isLetter 30 = .ok (.iconst 1, 1) := by decide +kernel
theorem d_X_isLetter_31 : decode b_X_isLetter 31 = .ok (.goto 4, 3) := by decide +kernel
theorem d_X_isLetter_34 : decode b_X_isLetter 34 = .ok (.iconst 0, 1) := by decide +kernel
theorem d_X_isLetter_35 : decode b_X_isLetter 35 = .ok (.ireturn, 1) := by decide +kernel
theorem d_X_isFigure_0 : decode b_X_isFigure 0 = .ok (.iload_n 0, 1) := by decide +kernel
theorem d_X_isFigure_1 : decode b_X_isFigure 1 = .ok (.bipush 48, 2) := by decide +kernel
theorem d_X_isFigure_3 : decode b_X_isFigure 3 = .ok (.if_icmp .lt 13, 3) := by decide +kernel
theorem d_X_isFigure_6 : decode b_X_isFigure 6 = .ok (.iload_n 0, 1) := by decide +kernel
theorem d_X_isFigure_7 : decode b_X_isFigure 7 = .ok (.bipush 57, 2) := by decide +kernel
theorem d_X_isFigure_9 : decode b_X_isFigure 9 = .ok (.if_icmp .gt 7, 3) := by decide +kernel
theorem d_X_isFigure_12 : decode b_X_isFigure 12 = .ok (.iconst 1, 1) := by decide +kernel
theorem d_X_isFigure_13 : decode b_X_isFigure 13 = .ok (.goto 4, 3) := by decide +kernel
theorem d_X_isFigure_16 : decode b_X_isFigure 16 = .ok (.iconst 0, 1) := by decide +kernel
theorem d_X_isFigure_17 : decode b_X_isFigure 17 = .ok (.ireturn, 1) := by decide +kernel
theorem d_P_init_0 : decode b_P_init 0 = .ok (.aload_n 0, 1) := by decide +kernel
theorem d_P_init_1 : decode b_P_init 1 = .ok (.invokespecial 5, 3) := by decide +kernel
theorem d_P_init_4 : decode b_P_init 4 = .ok (.aload_n 0, 1) := by decide +kernel
theorem d_P_init_5 : decode b_P_init 5 = .ok (.new 11, 3) := by decide +kernel
theorem d_P_init_8 : decode b_P_init 8 = .ok (.dup, 1) := by decide +kernel
theorem d_P_init_9 : decode b_P_init 9 = .ok (.invokespecial 13, 3) := by decide +kernel
theorem d_P_init_12 : decode b_P_init 12 = .ok (.putfield 14, 3) := by decide +kernel
theorem d_P_init_15 : decode b_P_init 15 = .ok (.aload_n 0, 1) := by decide +kernel
theorem d_P_init_16 : decode b_P_init 16 = .ok (.new 11, 3) := by decide +kernel
theorem d_P_init_19 : decode b_P_init 19 = .ok (.dup, 1) := by decide +kernel
theorem d_P_init_20 : decode b_P_init 20 = .ok (.invokespecial 13, 3) := by decide +kernel
theorem d_P_init_23 : decode b_P_init 23 = .ok (.putfield 18, 3) := by decide +kernel
theorem d_P_init_26 : decode b_P_init 26 = .ok (.aload_n 0, 1) := by decide +kernel
theorem d_P_init_27 : decode b_P_init 27 = .ok (.new 11, 3) := by decide +kernel
theorem d_P_init_30 : decode b_P_init 30 = .ok (.dup, 1) := by decide +kernel
theorem d_P_init_31 : decode b_P_init 31 = .ok (.invokespecial 13, 3) := by decide +kernel
theorem d_P_init_34 : decode b_P_init 34 = .ok (.putfield 21, 3) := by decide +kernel
theorem d_P_init_37 : decode b_P_init 37 = .ok (.aload_n 0, 1) := by decide +kernel
theorem d_P_init_38 : decode b_P_init 38 = .ok (.iconst 0, 1) := by decide +kernel
theorem d_P_init_39 : decode b_P_init 39 = .ok (.putfield 24, 3) := by decide +kernel
theorem d_P_init_42 : decode b_P_init 42 = .ok (.aload_n 0, 1) := by decide +kernel
theorem d_P_init_43 : decode b_P_init 43 = .ok (.new 28, 3) := by decide +kernel
theorem d_P_init_46 : decode b_P_init 46 = .ok (.dup, 1) := by decide +kernel
theorem d_P_init_47 : decode b_P_init 47 = .ok (.invokespecial 30, 3) := by decide +kernel
theorem d_P_init_50 : decode b_P_init 50 = .ok (.putfield 31, 3) := by decide +kernel
theorem d_P_init_53 : decode b_P_init 53 = .ok (.aload_n 0, 1) := by decide +kernel
theorem d_P_init_54 : decode b_P_init 54 = .ok (.iconst 3, 1) := by decide +kernel
theorem d_P_init_55 : decode b_P_init 55 = .ok (.anewarray 35, 3) := by decide +kernel
theorem d_P_init_58 : decode b_P_init 58 = .ok (.dup, 1) := by decide +kernel
theorem d_P_init_59 : decode b_P_init 59 = .ok (.iconst 0, 1) := by decide +kernel
theorem d_P_init_60 : decode b_P_init 60 = .ok (.new 35, 3) := by decide +kernel
theorem d_P_init_63 : decode b_P_init 63 = .ok (.dup, 1) := by decide +kernel
theorem d_P_init_64 : decode b_P_init 64 = .ok (.invokespecial 37, 3) := by decide +kernel
theorem d_P_init_67 : decode b_P_init 67 = .ok (.aastore, 1) := by decide +kernel
theorem d_P_init_68 : decode b_P_init 68 = .ok (.dup, 1) := by decide +kernel
theorem d_P_init_69 : decode b_P_init 69 = .ok (.iconst 1, 1) := by decide +kernel
theorem d_P_init_70 : decode b_P_init 70 = .ok (.new 35, 3) := by decide +kernel
theorem d_P_init_73 : decode b_P_init 73 = .ok (.dup, 1) := by decide +kernel
theorem d_P_init_74 : decode b_P_init 74 = .ok (.invokespecial 37, 3) := by decide +kernel
theorem d_P_init_77 : decode b_P_init 77 = .ok (.aastore, 1) := by decide +kernel
theorem d_P_init_78 : decode b_P_init 78 = .ok (.dup, 1) := by decide +kernel
theorem d_P_init_79 : decode b_P_init 79 = .ok (.iconst 2, 1) := by decide +kernel
theorem d_P_init_80 : decode b_P_init 80 = .ok (.new 35, 3) := by decide +kernel
theorem d_P_init_83 : decode b_P_init 83 = .ok (.dup, 1) := by decide +kernel
theorem d_P_init_84 : decode b_P_init 84 = .ok (.invokespecial 37, 3) := by decide +kernel
theorem d_P_init_87 : decode b_P_init 87 = .ok (.aastore, 1) := by decide +kernel
theorem d_P_init_88 : decode b_P_init 88 = .ok (.putfield 38, 3) := by decide +kernel
theorem d_P_init_91 : decode b_P_init 91 = .ok (.aload_n 0, 1) := by decide +kernel
theorem d_P_init_92 : decode b_P_init 92 = .ok (.new 42, 3) := by decide +kernel
theorem d_P_init_95 : decode b_P_init 95 = .ok (.dup, 1) := by decide +kernel
theorem d_P_init_96 : decode b_P_init 96 = .ok (.invokespecial 44, 3) := by decide +kernel
theorem d_P_init_99 : decode b_P_init 99 = .ok (.putfield 45, 3) := by decide +kernel
theorem d_P_init_102 : decode b_P_init 102 = .ok (.return_, 1) := by decide +kernel
theorem d_P_wheel_0 : decode b_P_wheel 0 = .ok (.aload_n 0, 1) := by decide +kernel
theorem d_P_wheel_1 : decode b_P_wheel 1 = .ok (.getfield 14, 3) := by decide +kernel
theorem d_P_wheel_4 : decode b_P_wheel 4 = .ok (.iload_n 1, 1) := by decide +kernel
theorem d_P_wheel_5 : decode b_P_wheel 5 = .ok (.invokevirtual 49, 3) := by decide +kernel
theorem d_P_wheel_8 : decode b_P_wheel 8 = .ok (.ireturn, 1) := by decide +kernel
theorem d_P_shift_0 : decode b_P_shift 0 = .ok (.aload_n 0, 1) := by decide +kernel
theorem d_P_shift_1 : decode b_P_shift 1 = .ok (.getfield 14, 3) := by decide +kernel
theorem d_P_shift_4 : decode b_P_shift 4 = .ok (.iload_n 1, 1) := by decide +kernel
theorem d_P_shift_5 : decode b_P_shift 5 = .ok (.iload_n 2, 1) := by decide +kernel
theorem d_P_shift_6 : decode b_P_shift 6 = .ok (.invokevirtual 53, 3) := by decide +kernel
theorem d_P_shift_9 : decode b_P_shift 9 = .ok (.ireturn, 1) := by decide +kernel
theorem d_P_pressure_0 : decode b_P_pressure 0 = .ok (.aload_n 0, 1) := by decide +kernel
theorem d_P_pressure_1 : decode b_P_pressure 1 = .ok (.getfield 14, 3) := by decide +kernel
theorem d_P_pressure_4 : decode b_P_pressure 4 = .ok (.iload_n 1, 1) := by decide +kernel
theorem d_P_pressure_5 : decode b_P_pressure 5 = .ok (.invokevirtual 57, 3) := by decide +kernel
theorem d_P_pressure_8 : decode b_P_pressure 8 = .ok (.ireturn, 1) := by decide +kernel
theorem d_P_of_0 : decode b_P_of 0 = .ok (.aload_n 0, 1) := by decide +kernel
theorem d_P_of_1 : decode b_P_of 1 = .ok (.getfield 14, 3) := by decide +kernel
theorem d_P_of_4 : decode b_P_of 4 = .ok (.iload_n 1, 1) := by decide +kernel
theorem d_P_of_5 : decode b_P_of 5 = .ok (.invokevirtual 60, 3) := by decide +kernel
theorem d_P_of_8 : decode b_P_of 8 = .ok (.ifCond .eq 15, 3) := by decide +kernel
theorem d_P_of_11 : decode b_P_of 11 = .ok (.aload_n 0, 1) := by decide +kernel
theorem d_P_of_12 : decode b_P_of 12 = .ok (.getfield 14, 3) := by decide +kernel
theorem d_P_of_15 : decode b_P_of 15 = .ok (.iload_n 1, 1) := by decide +kernel
theorem d_P_of_16 : decode b_P_of 16 = .ok (.iload_n 2, 1) := by decide +kernel
theorem d_P_of_17 : decode b_P_of 17 = .ok (.invokevirtual 64, 3) := by decide +kernel
theorem d_P_of_20 : decode b_P_of 20 = .ok (.goto 6, 3) := by decide +kernel
theorem d_P_of_23 : decode b_P_of 23 = .ok (.sipush (-1000), 3) := by decide +kernel
theorem d_P_of_26 : decode b_P_of 26 = .ok (.ireturn, 1) := by decide +kernel
theorem d_P_fewest_0 : decode b_P_fewest 0 = .ok (.iload_n 1, 1) := by decide +kernel
theorem d_P_fewest_1 : decode b_P_fewest 1 = .ok (.invokestatic 67, 3) := by decide +kernel
theorem d_P_fewest_4 : decode b_P_fewest 4 = .ok (.ifCond .eq 14, 3) := by decide +kernel
theorem d_P_fewest_7 : decode b_P_fewest 7 = .ok (.aload_n 0, 1) := by decide +kernel
theorem d_P_fewest_8 : decode b_P_fewest 8 = .ok (.getfield 14, 3) := by decide +kernel
theorem d_P_fewest_11 : decode b_P_fewest 11 = .ok (.iload_n 1, 1) := by decide +kernel
theorem d_P_fewest_12 : decode b_P_fewest 12 = .ok (.invokevirtual 70, 3) := by decide +kernel
theorem d_P_fewest_15 : decode b_P_fewest 15 = .ok (.goto 4, 3) := by decide +kernel
theorem d_P_fewest_18 : decode b_P_fewest 18 = .ok (.iconst (-1), 1) := by decide +kernel
theorem d_P_fewest_19 : decode b_P_fewest 19 = .ok (.ireturn, 1) := by decide +kernel
theorem d_P_distance_0 : decode b_P_distance 0 = .ok (.iload_n 3, 1) := by decide +kernel
theorem d_P_distance_1 : decode b_P_distance 1 = .ok (.invokestatic 73, 3) := by decide +kernel
theorem d_P_distance_4 : decode b_P_distance 4 = .ok (.ifCond .eq 15, 3) := by decide +kernel
theorem d_P_distance_7 : decode b_P_distance 7 = .ok (.aload_n 0, 1) := by decide +kernel
theorem d_P_distance_8 : decode b_P_distance 8 = .ok (.getfield 14, 3) := by decide +kernel
theorem d_P_distance_11 : decode b_P_distance 11 = .ok (.iload_n 1, 1) := by decide +kernel
theorem d_P_distance_12 : decode b_P_distance 12 = .ok (.iload_n 2, 1) := by decide +kernel
theorem d_P_distance_13 : decode b_P_distance 13 = .ok (.invokevirtual 76, 3) := by decide +kernel
theorem d_P_distance_16 : decode b_P_distance 16 = .ok (.ifCond .ne 7, 3) := by decide +kernel
theorem d_P_distance_19 : decode b_P_distance 19 = .ok (.ldc2_w 80, 3) := by decide +kernel
theorem d_P_distance_22 : decode b_P_distance 22 = .ok (.lreturn, 1) := by decide +kernel
theorem d_P_distance_23 : decode b_P_distance 23 = .ok (.aload_n 0, 1) := by decide +kernel
theorem d_P_distance_24 : decode b_P_distance 24 = .ok (.getfield 14, 3) := by decide +kernel
theorem d_P_distance_27 : decode b_P_distance 27 = .ok (.iload_n 1, 1) := by decide +kernel
theorem d_P_distance_28 : decode b_P_distance 28 = .ok (.iload_n 2, 1) := by decide +kernel
theorem d_P_distance_29 : decode b_P_distance 29 = .ok (.invokevirtual 82, 3) := by decide +kernel
theorem d_P_distance_32 : decode b_P_distance 32 = .ok (.ifCond .eq 9, 3) := by decide +kernel
theorem d_P_distance_35 : decode b_P_distance 35 = .ok (.ldc2_w 85, 3) := by decide +kernel
theorem d_P_distance_38 : decode b_P_distance 38 = .ok (.goto 20, 3) := by decide +kernel
theorem d_P_distance_41 : decode b_P_distance 41 = .ok (.aload_n 0, 1) := by decide +kernel
theorem d_P_distance_42 : decode b_P_distance 42 = .ok (.getfield 14, 3) := by decide +kernel
theorem d_P_distance_45 : decode b_P_distance 45 = .ok (.iload_n 1, 1) := by decide +kernel
theorem d_P_distance_46 : decode b_P_distance 46 = .ok (.iload_n 2, 1) := by decide +kernel
theorem d_P_distance_47 : decode b_P_distance 47 = .ok (.invokevirtual 87, 3) := by decide +kernel
theorem d_P_distance_50 : decode b_P_distance 50 = .ok (.i2l, 1) := by decide +kernel
theorem d_P_distance_51 : decode b_P_distance 51 = .ok (.ldc2_w 90, 3) := by decide +kernel
theorem d_P_distance_54 : decode b_P_distance 54 = .ok (.iload_n 3, 1) := by decide +kernel
theorem d_P_distance_55 : decode b_P_distance 55 = .ok (.invokestatic 92, 3) := by decide +kernel
theorem d_P_distance_58 : decode b_P_distance 58 = .ok (.lreturn, 1) := by decide +kernel
theorem d_P_ratio_0 : decode b_P_ratio 0 = .ok (.iload_n 3, 1) := by decide +kernel
theorem d_P_ratio_1 : decode b_P_ratio 1 = .ok (.invokestatic 73, 3) := by decide +kernel
theorem d_P_ratio_4 : decode b_P_ratio 4 = .ok (.ifCond .eq 15, 3) := by decide +kernel
theorem d_P_ratio_7 : decode b_P_ratio 7 = .ok (.aload_n 0, 1) := by decide +kernel
theorem d_P_ratio_8 : decode b_P_ratio 8 = .ok (.getfield 14, 3) := by decide +kernel
theorem d_P_ratio_11 : decode b_P_ratio 11 = .ok (.iload_n 1, 1) := by decide +kernel
theorem d_P_ratio_12 : decode b_P_ratio 12 = .ok (.iload_n 2, 1) := by decide +kernel
theorem d_P_ratio_13 : decode b_P_ratio 13 = .ok (.invokevirtual 76, 3) := by decide +kernel
theorem d_P_ratio_16 : decode b_P_ratio 16 = .ok (.ifCond .ne 7, 3) := by decide +kernel
theorem d_P_ratio_19 : decode b_P_ratio 19 = .ok (.ldc2_w 80, 3) := by decide +kernel
theorem d_P_ratio_22 : decode b_P_ratio 22 = .ok (.lreturn, 1) := by decide +kernel
theorem d_P_ratio_23 : decode b_P_ratio 23 = .ok (.aload_n 0, 1) := by decide +kernel
theorem d_P_ratio_24 : decode b_P_ratio 24 = .ok (.getfield 14, 3) := by decide +kernel
theorem d_P_ratio_27 : decode b_P_ratio 27 = .ok (.iload_n 1, 1) := by decide +kernel
theorem d_P_ratio_28 : decode b_P_ratio 28 = .ok (.iload_n 2, 1) := by decide +kernel
theorem d_P_ratio_29 : decode b_P_ratio 29 = .ok (.invokevirtual 82, 3) := by decide +kernel
theorem d_P_ratio_32 : decode b_P_ratio 32 = .ok (.ifCond .eq 9, 3) := by decide +kernel
theorem d_P_ratio_35 : decode b_P_ratio 35 = .ok (.ldc2_w 85, 3) := by decide +kernel
theorem d_P_ratio_38 : decode b_P_ratio 38 = .ok (.goto 25, 3) := by decide +kernel
theorem d_P_ratio_41 : decode b_P_ratio 41 = .ok (.aload_n 0, 1) := by decide +kernel
theorem d_P_ratio_42 : decode b_P_ratio 42 = .ok (.getfield 14, 3) := by decide +kernel
theorem d_P_ratio_45 : decode b_P_ratio 45 = .ok (.iload_n 1, 1) := by decide +kernel
theorem d_P_ratio_46 : decode b_P_ratio 46 = .ok (.iload_n 2, 1) := by decide +kernel
theorem d_P_ratio_47 : decode b_P_ratio 47 = .ok (.invokevirtual 96, 3) := by decide +kernel
theorem d_P_ratio_50 : decode b_P_ratio 50 = .ok (.aload_n 0, 1) := by decide +kernel
theorem d_P_ratio_51 : decode b_P_ratio 51 = .ok (.getfield 14, 3) := by decide +kernel
theorem d_P_ratio_54 : decode b_P_ratio 54 = .ok (.iload_n 1, 1) := by decide +kernel
theorem d_P_ratio_55 : decode b_P_ratio 55 = .ok (.iload_n 2, 1) := by decide +kernel
theorem d_P_ratio_56 : decode b_P_ratio 56 = .ok (.invokevirtual 100, 3) := by decide +kernel
theorem d_P_ratio_59 : decode b_P_ratio 59 = .ok (.iload_n 3, 1) := by decide +kernel
theorem d_P_ratio_60 : decode b_P_ratio 60 = .ok (.invokestatic 92, 3) := by decide +kernel
theorem d_P_ratio_63 : decode b_P_ratio 63 = .ok (.lreturn, 1) := by decide +kernel
theorem d_P_contact_0 : decode b_P_contact 0 = .ok (.iload_n 3, 1) := by decide +kernel
theorem d_P_contact_1 : decode b_P_contact 1 = .ok (.ifCond .lt 32, 3) := by decide +kernel
theorem d_P_contact_4 : decode b_P_contact 4 = .ok (.iload_n 3, 1) := by decide +kernel
theorem d_P_contact_5 : decode b_P_contact 5 = .ok (.iconst 1, 1) := by decide +kernel
theorem d_P_contact_6 : decode b_P_contact 6 = .ok (.if_icmp .gt 27, 3) := by decide +kernel
theorem d_P_contact_9 : decode b_P_contact 9 = .ok (.aload_n 0, 1) := by decide +kernel
theorem d_P_contact_10 : decode b_P_contact 10 = .ok (.getfield 14, 3) := by decide +kernel
theorem d_P_contact_13 : decode b_P_contact 13 = .ok (.iload_n 1, 1) := by decide +kernel
theorem d_P_contact_14 : decode b_P_contact 14 = .ok (.iload_n 2, 1) := by decide +kernel
theorem d_P_contact_15 : decode b_P_contact 15 = .ok (.invokevirtual 76, 3) := by decide +kernel
theorem d_P_contact_18 : decode b_P_contact 18 = .ok (.ifCond .eq 15, 3) := by decide +kernel
theorem d_P_contact_21 : decode b_P_contact 21 = .ok (.aload_n 0, 1) := by decide +kernel
theorem d_P_contact_22 : decode b_P_contact 22 = .ok (.getfield 14, 3) := by decide +kernel
theorem d_P_contact_25 : decode b_P_contact 25 = .ok (.iload_n 1, 1) := by decide +kernel
theorem d_P_contact_26 : decode b_P_contact 26 = .ok (.iload_n 2, 1) := by decide +kernel
theorem d_P_contact_27 : decode b_P_contact 27 = .ok (.invokevirtual 103, 3) := by decide +kernel
theorem d_P_contact_30 : decode b_P_contact 30 = .ok (.ifCond .eq 7, 3) := by decide +kernel
theorem d_P_contact_33 : decode b_P_contact 33 = .ok (.ldc2_w 80, 3) := by decide +kernel
theorem d_P_contact_36 : decode b_P_contact 36 = .ok (.lreturn, 1) := by decide +kernel
theorem d_P_contact_37 : decode b_P_contact 37 = .ok (.iload_n 3, 1) := by decide +kernel
theorem d_P_contact_38 : decode b_P_contact 38 = .ok (.ifCond .ne 15, 3) := by decide +kernel
theorem d_P_contact_41 : decode b_P_contact 41 = .ok (.aload_n 0, 1) := by decide +kernel
theorem d_P_contact_42 : decode b_P_contact 42 = .ok (.getfield 14, 3) := by decide +kernel
theorem d_P_contact_45 : decode b_P_contact 45 = .ok (.iload_n 1, 1) := by decide +kernel
theorem d_P_contact_46 : decode b_P_contact 46 = .ok (.iload_n 2, 1) := by decide +kernel
theorem d_P_contact_47 : decode b_P_contact 47 = .ok (.invokevirtual 106, 3) := by decide +kernel
theorem d_P_contact_50 : decode b_P_contact 50 = .ok (.goto 12, 3) := by decide +kernel
theorem d_P_contact_53 : decode b_P_contact 53 = .ok (.aload_n 0, 1) := by decide +kernel
theorem d_P_contact_54 : decode b_P_contact 54 = .ok (.getfield 14, 3) := by decide +kernel
theorem d_P_contact_57 : decode b_P_contact 57 = .ok (.iload_n 1, 1) := by decide +kernel
theorem d_P_contact_58 : decode b_P_contact 58 = .ok (.iload_n 2, 1) := by decide +kernel
theorem d_P_contact_59 : decode b_P_contact 59 = .ok (.invokevirtual 109, 3) := by decide +kernel
theorem d_P_contact_62 : decode b_P_contact 62 = .ok (.lreturn, 1) := by decide +kernel
theorem d_P_shiftFor_0 : decode b_P_shiftFor 0 = .ok (.aload_n 0, 1) := by decide +kernel
theorem d_P_shiftFor_1 : decode b_P_shiftFor 1 = .ok (.getfield 14, 3) := by decide +kernel
theorem d_P_shiftFor_4 : decode b_P_shiftFor 4 = .ok (.iload_n 1, 1) := by decide +kernel
theorem d_P_shiftFor_5 : decode b_P_shiftFor 5 = .ok (.iload_n 2, 1) := by decide +kernel
theorem d_P_shiftFor_6 : decode b_P_shiftFor 6 = .ok (.invokevirtual 76, 3) := by decide +kernel
theorem d_P_shiftFor_9 : decode b_P_shiftFor 9 = .ok (.ifCond .eq 29, 3) := by decide +kernel
theorem d_P_shiftFor_12 : decode b_P_shiftFor 12 = .ok (.iload_n 3, 1) := by decide +kernel
theorem d_P_shiftFor_13 : decode b_P_shiftFor 13 = .ok (.iconst 1, 1) := by decide +kernel
theorem d_P_shiftFor_14 : decode b_P_shiftFor 14 = .ok (.if_icmp .lt 24, 3) := by decide +kernel
theorem d_P_shiftFor_17 : decode b_P_shiftFor 17 = .ok (.iload_n 3, 1) := by decide +kernel
theorem d_P_shiftFor_18 : decode b_P_shiftFor 18 = .ok (.sipush 9999, 3) := by decide +kernel
theorem d_P_shiftFor_21 : decode b_P_shiftFor 21 = .ok (.if_icmp .gt 17, 3) := by decide +kernel
theorem d_P_shiftFor_24 : decode b_P_shiftFor 24 = .ok (.iload 4, 2) := by decide +kernel
theorem d_P_shiftFor_26 : decode b_P_shiftFor 26 = .ok (.iconst 1, 1) := by decide +kernel
theorem d_P_shiftFor_27 : decode b_P_shiftFor 27 = .ok (.if_icmp .lt 11, 3) := by decide +kernel
theorem d_P_shiftFor_30 : decode b_P_shiftFor 30 = .ok (.iload 4, 2) := by decide +kernel
theorem d_P_shiftFor_32 : decode b_P_shiftFor 32 = .ok (.sipush 9999, 3) := by decide +kernel
theorem d_P_shiftFor_35 : decode b_P_shiftFor 35 = .ok (.if_icmp .le 7, 3) := by decide +kernel
theorem d_P_shiftFor_38 : decode b_P_shiftFor 38 = .ok (.sipush (-1000), 3) := by decide +kernel
theorem d_P_shiftFor_41 : decode b_P_shiftFor 41 = .ok (.ireturn, 1) := by decide +kernel
theorem d_P_shiftFor_42 : decode b_P_shiftFor 42 = .ok (.aload_n 0, 1) := by decide +kernel
theorem d_P_shiftFor_43 : decode b_P_shiftFor 43 = .ok (.getfield 14, 3) := by decide +kernel
theorem d_P_shiftFor_46 : decode b_P_shiftFor 46 = .ok (.iload_n 1, 1) := by decide +kernel
theorem d_P_shiftFor_47 : decode b_P_shiftFor 47 = .ok (.iload_n 2, 1) := by decide +kernel
theorem d_P_shiftFor_48 : decode b_P_shiftFor 48 = .ok (.invokevirtual 82, 3) := by decide +kernel
theorem d_P_shiftFor_51 : decode b_P_shiftFor 51 = .ok (.ifCond .eq 9, 3) := by decide +kernel
theorem d_P_shiftFor_54 : decode b_P_shiftFor 54 = .ok (.sipush (-1002), 3) := by decide +kernel
theorem d_P_shiftFor_57 : decode b_P_shiftFor 57 = .ok (.goto 15, 3) := by decide +kernel
theorem d_P_shiftFor_60 : decode b_P_shiftFor 60 = .ok (.aload_n 0, 1) := by decide +kernel
theorem d_P_shiftFor_61 : decode b_P_shiftFor 61 = .ok (.getfield 14, 3) := by decide +kernel
theorem d_P_shiftFor_64 : decode b_P_shiftFor 64 = .ok (.iload_n 1, 1) := by decide +kernel
theorem d_P_shiftFor_65 : decode b_P_shiftFor 65 = .ok (.iload_n 2, 1) := by decide +kernel
theorem d_P_shiftFor_66 : decode b_P_shiftFor 66 = .ok (.iload_n 3, 1) := by decide +kernel
theorem d_P_shiftFor_67 : decode b_P_shiftFor 67 = .ok (.iload 4, 2) := by decide +kernel
theorem d_P_shiftFor_69 : decode b_P_shiftFor 69 = .ok (.invokevirtual 112, 3) := by decide +kernel
theorem d_P_shiftFor_72 : decode b_P_shiftFor 72 = .ok (.ireturn, 1) := by decide +kernel
theorem d_P_wheels_0 : decode b_P_wheels 0 = .ok (.iload_n 1, 1) := by decide +kernel
theorem d_P_wheels_1 : decode b_P_wheels 1 = .ok (.ifCond .lt 8, 3) := by decide +kernel
theorem d_P_wheels_4 : decode b_P_wheels 4 = .ok (.iload_n 1, 1) := by decide +kernel
theorem d_P_wheels_5 : decode b_P_wheels 5 = .ok (.iconst 3, 1) := by decide +kernel
theorem d_P_wheels_6 : decode b_P_wheels 6 = .ok (.if_icmp .le 7, 3) := by decide +kernel
theorem d_P_wheels_9 : decode b_P_wheels 9 = .ok (.iconst (-1), 1) := by decide +kernel
theorem d_P_wheels_10 : decode b_P_wheels 10 = .ok (.goto 11, 3) := by decide +kernel
theorem d_P_wheels_13 : decode b_P_wheels 13 = .ok (.aload_n 0, 1) := by decide +kernel
theorem d_P_wheels_14 : decode b_P_wheels 14 = .ok (.getfield 14, 3) := by decide +kernel
theorem d_P_wheels_17 : decode b_P_wheels 17 = .ok (.iload_n 1, 1) := by decide +kernel
theorem d_P_wheels_18 : decode b_P_wheels 18 = .ok (.invokevirtual 116, 3) := by decide +kernel
theorem d_P_wheels_21 : decode b_P_wheels 21 = .ok (.ireturn, 1) := by decide +kernel
theorem d_P_pair_0 : decode b_P_pair 0 = .ok (.aload_n 0, 1) := by decide +kernel
theorem d_P_pair_1 : decode b_P_pair 1 = .ok (.getfield 14, 3) := by decide +kernel
theorem d_P_pair_4 : decode b_P_pair 4 = .ok (.iload_n 1, 1) := by decide +kernel
theorem d_P_pair_5 : decode b_P_pair 5 = .ok (.iload_n 2, 1) := by decide +kernel
theorem d_P_pair_6 : decode b_P_pair 6 = .ok (.invokevirtual 119, 3) := by decide +kernel
theorem d_P_pair_9 : decode b_P_pair 9 = .ok (.ireturn, 1) := by decide +kernel
theorem d_P_clear_0 : decode b_P_clear 0 = .ok (.aload_n 0, 1) := by decide +kernel
theorem d_P_clear_1 : decode b_P_clear 1 = .ok (.getfield 14, 3) := by decide +kernel
theorem d_P_clear_4 : decode b_P_clear 4 = .ok (.invokevirtual 122, 3) := by decide +kernel
theorem d_P_clear_7 : decode b_P_clear 7 = .ok (.ireturn, 1) := by decide +kernel
theorem d_P_train_0 : decode b_P_train 0 = .ok (.iload_n 1, 1) := by decide +kernel
theorem d_P_train_1 : decode b_P_train 1 = .ok (.invokestatic 73, 3) := by decide +kernel
theorem d_P_train_4 : decode b_P_train 4 = .ok (.ifCond .eq 13, 3) := by decide +kernel
theorem d_P_train_7 : decode b_P_train 7 = .ok (.aload_n 0, 1) := by decide +kernel
theorem d_P_train_8 : decode b_P_train 8 = .ok (.getfield 14, 3) := by decide +kernel
theorem d_P_train_11 : decode b_P_train 11 = .ok (.invokevirtual 126, 3) := by decide +kernel
theorem d_P_train_14 : decode b_P_train 14 = .ok (.ifCond .ne 7, 3) := by decide +kernel
theorem d_P_train_17 : decode b_P_train 17 = .ok (.ldc2_w 80, 3) := by decide +kernel
theorem d_P_train_20 : decode b_P_train 20 = .ok (.lreturn, 1) := by decide +kernel
theorem d_P_train_21 : decode b_P_train 21 = .ok (.aload_n 0, 1) := by decide +kernel
theorem d_P_train_22 : decode b_P_train 22 = .ok (.getfield 14, 3) := by decide +kernel
theorem d_P_train_25 : decode b_P_train 25 = .ok (.invokevirtual 129, 3) := by decide +kernel
theorem d_P_train_28 : decode b_P_train 28 = .ok (.ifCond .lt 9, 3) := by decide +kernel
theorem d_P_train_31 : decode b_P_train 31 = .ok (.ldc2_w 85, 3) := by decide +kernel
theorem d_P_train_34 : decode b_P_train 34 = .ok (.goto 11, 3) := by decide +kernel
theorem d_P_train_37 : decode b_P_train 37 = .ok (.aload_n 0, 1) := by decide +kernel
theorem d_P_train_38 : decode b_P_train 38 = .ok (.getfield 14, 3) := by decide +kernel
theorem d_P_train_41 : decode b_P_train 41 = .ok (.iload_n 1, 1) := by decide +kernel
theorem d_P_train_42 : decode b_P_train 42 = .ok (.invokevirtual 132, 3) := by decide +kernel
theorem d_P_train_45 : decode b_P_train 45 = .ok (.lreturn, 1) := by decide +kernel
theorem d_P_faulty_0 : decode b_P_faulty 0 = .ok (.aload_n 0, 1) := by decide +kernel
theorem d_P_faulty_1 : decode b_P_faulty 1 = .ok (.getfield 14, 3) := by decide +kernel
theorem d_P_faulty_4 : decode b_P_faulty 4 = .ok (.invokevirtual 129, 3) := by decide +kernel
theorem d_P_faulty_7 : decode b_P_faulty 7 = .ok (.ireturn, 1) := by decide +kernel
theorem d_P_closest_0 : decode b_P_closest 0 = .ok (.iload_n 1, 1) := by decide +kernel
theorem d_P_closest_1 : decode b_P_closest 1 = .ok (.ifCond .lt 18, 3) := by decide +kernel
theorem d_P_closest_4 : decode b_P_closest 4 = .ok (.iload_n 1, 1) := by decide +kernel
theorem d_P_closest_5 : decode b_P_closest 5 = .ok (.iconst 2, 1) := by decide +kernel
theorem d_P_closest_6 : decode b_P_closest 6 = .ok (.if_icmp .gt 13, 3) := by decide +kernel
theorem d_P_closest_9 : decode b_P_closest 9 = .ok (.aload_n 0, 1) := by decide +kernel
theorem d_P_closest_10 : decode b_P_closest 10 = .ok (.getfield 14, 3) := by decide +kernel
theorem d_P_closest_13 : decode b_P_closest 13 = .ok (.invokevirtual 126, 3) := by decide +kernel
theorem d_P_closest_16 : decode b_P_closest 16 = .ok (.ifCond .ne 7, 3) := by decide +kernel
theorem d_P_closest_19 : decode b_P_closest 19 = .ok (.ldc2_w 80, 3) := by decide +kernel
theorem d_P_closest_22 : decode b_P_closest 22 = .ok (.lreturn, 1) := by decide +kernel
theorem d_P_closest_23 : decode b_P_closest 23 = .ok (.aload_n 0, 1) := by decide +kernel
theorem d_P_closest_24 : decode b_P_closest 24 = .ok (.getfield 14, 3) := by decide +kernel
theorem d_P_closest_27 : decode b_P_closest 27 = .ok (.invokevirtual 129, 3) := by decide +kernel
theorem d_P_closest_30 : decode b_P_closest 30 = .ok (.ifCond .lt 7, 3) := by decide +kernel
theorem d_P_closest_33 : decode b_P_closest 33 = .ok (.ldc2_w 85, 3) := by decide +kernel
theorem d_P_closest_36 : decode b_P_closest 36 = .ok (.lreturn, 1) := by decide +kernel
theorem d_P_closest_37 : decode b_P_closest 37 = .ok (.aload_n 0, 1) := by decide +kernel
theorem d_P_closest_38 : decode b_P_closest 38 = .ok (.getfield 14, 3) := by decide +kernel
theorem d_P_closest_41 : decode b_P_closest 41 = .ok (.invokevirtual 136, 3) := by decide +kernel
theorem d_P_closest_44 : decode b_P_closest 44 = .ok (.istore_n 2, 1) := by decide +kernel
theorem d_P_closest_45 : decode b_P_closest 45 = .ok (.iload_n 1, 1) := by decide +kernel
theorem d_P_closest_46 : decode b_P_closest 46 = .ok (.ifCond .ne 8, 3) := by decide +kernel
theorem d_P_closest_49 : decode b_P_closest 49 = .ok (.iload_n 2, 1) := by decide +kernel
theorem d_P_closest_50 : decode b_P_closest 50 = .ok (.i2l, 1) := by decide +kernel
theorem d_P_closest_51 : decode b_P_closest 51 = .ok (.goto 21, 3) := by decide +kernel
theorem d_P_closest_54 : decode b_P_closest 54 = .ok (.aload_n 0, 1) := by decide +kernel
theorem d_P_closest_55 : decode b_P_closest 55 = .ok (.getfield 14, 3) := by decide +kernel
theorem d_P_closest_58 : decode b_P_closest 58 = .ok (.iload_n 2, 1) := by decide +kernel
theorem d_P_closest_59 : decode b_P_closest 59 = .ok (.invokevirtual 139, 3) := by decide +kernel
theorem d_P_closest_62 : decode b_P_closest 62 = .ok (.i2l, 1) := by decide +kernel
theorem d_P_closest_63 : decode b_P_closest 63 = .ok (.ldc2_w 90, 3) := by decide +kernel
theorem d_P_closest_66 : decode b_P_closest 66 = .ok (.iload_n 1, 1) := by decide +kernel
theorem d_P_closest_67 : decode b_P_closest 67 = .ok (.iconst 1, 1) := by decide +kernel
theorem d_P_closest_68 : decode b_P_closest 68 = .ok (.isub, 1) := by decide +kernel
theorem d_P_closest_69 : decode b_P_closest 69 = .ok (.invokestatic 92, 3) := by decide +kernel
theorem d_P_closest_72 : decode b_P_closest 72 = .ok (.lreturn, 1) := by decide +kernel
theorem d_P_together_0 : decode b_P_together 0 = .ok (.iload_n 1, 1) := by decide +kernel
theorem d_P_together_1 : decode b_P_together 1 = .ok (.invokestatic 142, 3) := by decide +kernel
theorem d_P_together_4 : decode b_P_together 4 = .ok (.ifCond .eq 21, 3) := by decide +kernel
theorem d_P_together_7 : decode b_P_together 7 = .ok (.iload_n 2, 1) := by decide +kernel
theorem d_P_together_8 : decode b_P_together 8 = .ok (.invokestatic 142, 3) := by decide +kernel
theorem d_P_together_11 : decode b_P_together 11 = .ok (.ifCond .eq 14, 3) := by decide +kernel
theorem d_P_together_14 : decode b_P_together 14 = .ok (.iload_n 3, 1) := by decide +kernel
theorem d_P_together_15 : decode b_P_together 15 = .ok (.iconst 1, 1) := by decide +kernel
theorem d_P_together_16 : decode b_P_together 16 = .ok (.if_icmp .lt 9, 3) := by decide +kernel
theorem d_P_together_19 : decode b_P_together 19 = .ok (.iload_n 3, 1) := by decide +kernel
theorem d_P_together_20 : decode b_P_together 20 = .ok (.bipush 8, 2) := by decide +kernel
theorem d_P_together_22 : decode b_P_together 22 = .ok (.if_icmp .le 7, 3) := by decide +kernel
theorem d_P_together_25 : decode b_P_together 25 = .ok (.sipush (-1000), 3) := by decide +kernel
theorem d_P_together_28 : decode b_P_together 28 = .ok (.ireturn, 1) := by decide +kernel
theorem d_P_together_29 : decode b_P_together 29 = .ok (.iload_n 1, 1) := by decide +kernel
theorem d_P_together_30 : decode b_P_together 30 = .ok (.iload_n 2, 1) := by decide +kernel
theorem d_P_together_31 : decode b_P_together 31 = .ok (.iload_n 3, 1) := by decide +kernel
theorem d_P_together_32 : decode b_P_together 32 = .ok (.invokestatic 145, 3) := by decide +kernel
theorem d_P_together_35 : decode b_P_together 35 = .ok (.istore 4, 2) := by decide +kernel
theorem d_P_together_37 : decode b_P_together 37 = .ok (.iload_n 1, 1) := by decide +kernel
theorem d_P_together_38 : decode b_P_together 38 = .ok (.iload_n 2, 1) := by decide +kernel
theorem d_P_together_39 : decode b_P_together 39 = .ok (.iload_n 3, 1) := by decide +kernel
theorem d_P_together_40 : decode b_P_together 40 = .ok (.invokestatic 151, 3) := by decide +kernel
theorem d_P_together_43 : decode b_P_together 43 = .ok (.istore 5, 2) := by decide +kernel
theorem d_P_together_45 : decode b_P_together 45 = .ok (.iload 4, 2) := by decide +kernel
theorem d_P_together_47 : decode b_P_together 47 = .ok (.ifCond .eq 15, 3) := by decide +kernel
theorem d_P_together_50 : decode b_P_together 50 = .ok (.iload 5, 2) := by decide +kernel
theorem d_P_together_52 : decode b_P_together 52 = .ok (.ifCond .eq 8, 3) := by decide +kernel
theorem d_P_together_55 : decode b_P_together 55 = .ok (.bipush (-2), 2) := by decide +kernel
theorem d_P_together_57 : decode b_P_together 57 = .ok (.goto 4, 3) := by decide +kernel
theorem d_P_together_60 : decode b_P_together 60 = .ok (.iconst 1, 1) := by decide +kernel
theorem d_P_together_61 : decode b_P_together 61 = .ok (.ireturn, 1) := by decide +kernel
theorem d_P_together_62 : decode b_P_together 62 = .ok (.iload 5, 2) := by decide +kernel
theorem d_P_together_64 : decode b_P_together 64 = .ok (.ifCond .eq 8, 3) := by decide +kernel
theorem d_P_together_67 : decode b_P_together 67 = .ok (.bipush (-3), 2) := by decide +kernel
theorem d_P_together_69 : decode b_P_together 69 = .ok (.goto 4, 3) := by decide +kernel
theorem d_P_together_72 : decode b_P_together 72 = .ok (.iconst (-1), 1) := by decide +kernel
theorem d_P_together_73 : decode b_P_together 73 = .ok (.ireturn, 1) := by decide +kernel
theorem d_P_most_0 : decode b_P_most 0 = .ok (.iload_n 1, 1) := by decide +kernel
theorem d_P_most_1 : decode b_P_most 1 = .ok (.invokestatic 142, 3) := by decide +kernel
theorem d_P_most_4 : decode b_P_most 4 = .ok (.ifCond .eq 18, 3) := by decide +kernel
theorem d_P_most_7 : decode b_P_most 7 = .ok (.iload_n 2, 1) := by decide +kernel
theorem d_P_most_8 : decode b_P_most 8 = .ok (.invokestatic 142, 3) := by decide +kernel
theorem d_P_most_11 : decode b_P_most 11 = .ok (.ifCond .eq 11, 3) := by decide +kernel
theorem d_P_most_14 : decode b_P_most 14 = .ok (.iload_n 1, 1) := by decide +kernel
theorem d_P_most_15 : decode b_P_most 15 = .ok (.iload_n 2, 1) := by decide +kernel
theorem d_P_most_16 : decode b_P_most 16 = .ok (.invokestatic 154, 3) := by decide +kernel
theorem d_P_most_19 : decode b_P_most 19 = .ok (.goto 4, 3) := by decide +kernel
theorem d_P_most_22 : decode b_P_most 22 = .ok (.iconst (-1), 1) := by decide +kernel
theorem d_P_most_23 : decode b_P_most 23 = .ok (.ireturn, 1) := by decide +kernel
theorem d_P_planets_0 : decode b_P_planets 0 = .ok (.iload_n 1, 1) := by decide +kernel
theorem d_P_planets_1 : decode b_P_planets 1 = .ok (.invokestatic 142, 3) := by decide +kernel
theorem d_P_planets_4 : decode b_P_planets 4 = .ok (.ifCond .eq 14, 3) := by decide +kernel
theorem d_P_planets_7 : decode b_P_planets 7 = .ok (.iload_n 2, 1) := by decide +kernel
theorem d_P_planets_8 : decode b_P_planets 8 = .ok (.invokestatic 142, 3) := by decide +kernel
theorem d_P_planets_11 : decode b_P_planets 11 = .ok (.ifCond .eq 7, 3) := by decide +kernel
theorem d_P_planets_14 : decode b_P_planets 14 = .ok (.iconst 1, 1) := by decide +kernel
theorem d_P_planets_15 : decode b_P_planets 15 = .ok (.goto 4, 3) := by decide +kernel
theorem d_P_planets_18 : decode b_P_planets 18 = .ok (.iconst 0, 1) := by decide +kernel
theorem d_P_planets_19 : decode b_P_planets 19 = .ok (.istore 6, 2) := by decide +kernel
theorem d_P_planets_21 : decode b_P_planets 21 = .ok (.iload_n 3, 1) := by decide +kernel
theorem d_P_planets_22 : decode b_P_planets 22 = .ok (.ifCond .lt 29, 3) := by decide +kernel
theorem d_P_planets_25 : decode b_P_planets 25 = .ok (.iload_n 3, 1) := by decide +kernel
theorem d_P_planets_26 : decode b_P_planets 26 = .ok (.iconst 2, 1) := by decide +kernel
theorem d_P_planets_27 : decode b_P_planets 27 = .ok (.if_icmp .gt 24, 3) := by decide +kernel
theorem d_P_planets_30 : decode b_P_planets 30 = .ok (.iload 4, 2) := by decide +kernel
theorem d_P_planets_32 : decode b_P_planets 32 = .ok (.ifCond .lt 19, 3) := by decide +kernel
theorem d_P_planets_35 : decode b_P_planets 35 = .ok (.iload 4, 2) := by decide +kernel
theorem d_P_planets_37 : decode b_P_planets 37 = .ok (.iconst 2, 1) := by decide +kernel
theorem d_P_planets_38 : decode b_P_planets 38 = .ok (.if_icmp .gt 13, 3) := by decide +kernel
theorem d_P_planets_41 : decode b_P_planets 41 = .ok (.iload_n 3, 1) := by decide +kernel
theorem d_P_planets_42 : decode b_P_planets 42 = .ok (.iload 4, 2) := by decide +kernel
theorem d_P_planets_44 : decode b_P_planets 44 = .ok (.if_icmp .eq 7, 3) := by decide +kernel
theorem d_P_planets_47 : decode b_P_planets 47 = .ok (.iconst 1, 1) := by decide +kernel
theorem d_P_planets_48 : decode b_P_planets 48 = .ok (.goto 4, 3) := by decide +kernel
theorem d_P_planets_51 : decode b_P_planets 51 = .ok (.iconst 0, 1) := by decide +kernel
theorem d_P_planets_52 : decode b_P_planets 52 = .ok (.istore 7, 2) := by decide +kernel
theorem d_P_planets_54 : decode b_P_planets 54 = .ok (.iload 6, 2) := by decide +kernel
theorem d_P_planets_56 : decode b_P_planets 56 = .ok (.ifCond .eq 29, 3) := by decide +kernel
theorem d_P_planets_59 : decode b_P_planets 59 = .ok (.iload 7, 2) := by decide +kernel
theorem d_P_planets_61 : decode b_P_planets 61 = .ok (.ifCond .eq 24, 3) := by decide +kernel
theorem d_P_planets_64 : decode b_P_planets 64 = .ok (.iload 5, 2) := by decide +kernel
theorem d_P_planets_66 : decode b_P_planets 66 = .ok (.invokestatic 73, 3) := by decide +kernel
theorem d_P_planets_69 : decode b_P_planets 69 = .ok (.ifCond .eq 16, 3) := by decide +kernel
theorem d_P_planets_72 : decode b_P_planets 72 = .ok (.iload_n 1, 1) := by decide +kernel
theorem d_P_planets_73 : decode b_P_planets 73 = .ok (.iload_n 2, 1) := by decide +kernel
theorem d_P_planets_74 : decode b_P_planets 74 = .ok (.iload_n 3, 1) := by decide +kernel
theorem d_P_planets_75 : decode b_P_planets 75 = .ok (.iload 4, 2) := by decide +kernel
theorem d_P_planets_77 : decode b_P_planets 77 = .ok (.iload 5, 2) := by decide +kernel
theorem d_P_planets_79 : decode b_P_planets 79 = .ok (.invokestatic 157, 3) := by decide +kernel
theorem d_P_planets_82 : decode b_P_planets 82 = .ok (.goto 6, 3) := by decide +kernel
theorem d_P_planets_85 : decode b_P_planets 85 = .ok (.ldc2_w 80, 3) := by decide +kernel
theorem d_P_planets_88 : decode b_P_planets 88 = .ok (.lreturn, 1) := by decide +kernel
theorem d_P_searched_0 : decode b_P_searched 0 = .ok (.iload_n 1, 1) := by decide +kernel
theorem d_P_searched_1 : decode b_P_searched 1 = .ok (.iload_n 2, 1) := by decide +kernel
theorem d_P_searched_2 : decode b_P_searched 2 = .ok (.iload_n 3, 1) := by decide +kernel
theorem d_P_searched_3 : decode b_P_searched 3 = .ok (.iload 4, 2) := by decide +kernel
theorem d_P_searched_5 : decode b_P_searched 5 = .ok (.invokestatic 161, 3) := by decide +kernel
theorem d_P_searched_8 : decode b_P_searched 8 = .ok (.ifCond .eq 14, 3) := by decide +kernel
theorem d_P_searched_11 : decode b_P_searched 11 = .ok (.iload 5, 2) := by decide +kernel
theorem d_P_searched_13 : decode b_P_searched 13 = .ok (.ifCond .lt 9, 3) := by decide +kernel
theorem d_P_searched_16 : decode b_P_searched 16 = .ok (.iload 5, 2) := by decide +kernel
theorem d_P_searched_18 : decode b_P_searched 18 = .ok (.iconst 3, 1) := by decide +kernel
theorem d_P_searched_19 : decode b_P_searched 19 = .ok (.if_icmp .le 5, 3) := by decide +kernel
theorem d_P_searched_22 : decode b_P_searched 22 = .ok (.iconst (-1), 1) := by decide +kernel
theorem d_P_searched_23 : decode b_P_searched 23 = .ok (.ireturn, 1) := by decide +kernel
theorem d_P_searched_24 : decode b_P_searched 24 = .ok (.aload_n 0, 1) := by decide +kernel
theorem d_P_searched_25 : decode b_P_searched 25 = .ok (.getfield 45, 3) := by decide +kernel
theorem d_P_searched_28 : decode b_P_searched 28 = .ok (.iload_n 1, 1) := by decide +kernel
theorem d_P_searched_29 : decode b_P_searched 29 = .ok (.iload_n 2, 1) := by decide +kernel
theorem d_P_searched_30 : decode b_P_searched 30 = .ok (.iload_n 3, 1) := by decide +kernel
theorem d_P_searched_31 : decode b_P_searched 31 = .ok (.iload 4, 2) := by decide +kernel
theorem d_P_searched_33 : decode b_P_searched 33 = .ok (.invokevirtual 165, 3) := by decide +kernel
theorem d_P_searched_36 : decode b_P_searched 36 = .ok (.aload_n 0, 1) := by decide +kernel
theorem d_P_searched_37 : decode b_P_searched 37 = .ok (.getfield 45, 3) := by decide +kernel
theorem d_P_searched_40 : decode b_P_searched 40 = .ok (.iload 5, 2) := by decide +kernel
theorem d_P_searched_42 : decode b_P_searched 42 = .ok (.invokevirtual 169, 3) := by decide +kernel
theorem d_P_searched_45 : decode b_P_searched 45 = .ok (.ireturn, 1) := by decide +kernel
theorem d_P_feed_0 : decode b_P_feed 0 = .ok (.aload_n 0, 1) := by decide +kernel
theorem d_P_feed_1 : decode b_P_feed 1 = .ok (.getfield 31, 3) := by decide +kernel
theorem d_P_feed_4 : decode b_P_feed 4 = .ok (.iload_n 1, 1) := by decide +kernel
theorem d_P_feed_5 : decode b_P_feed 5 = .ok (.invokevirtual 171, 3) := by decide +kernel
theorem d_P_feed_8 : decode b_P_feed 8 = .ok (.ireturn, 1) := by decide +kernel
theorem d_P_read_0 : decode b_P_read 0 = .ok (.aload_n 0, 1) := by decide +kernel
theorem d_P_read_1 : decode b_P_read 1 = .ok (.getfield 31, 3) := by decide +kernel
theorem d_P_read_4 : decode b_P_read 4 = .ok (.invokevirtual 174, 3) := by decide +kernel
theorem d_P_read_7 : decode b_P_read 7 = .ok (.istore_n 1, 1) := by decide +kernel
theorem d_P_read_8 : decode b_P_read 8 = .ok (.aload_n 0, 1) := by decide +kernel
theorem d_P_read_9 : decode b_P_read 9 = .ok (.getfield 31, 3) := by decide +kernel
theorem d_P_read_12 : decode b_P_read 12 = .ok (.invokevirtual 177, 3) := by decide +kernel
theorem d_P_read_15 : decode b_P_read 15 = .ok (.iload_n 1, 1) := by decide +kernel
theorem d_P_read_16 : decode b_P_read 16 = .ok (.ifCond .lt 10, 3) := by decide +kernel
theorem d_P_read_19 : decode b_P_read 19 = .ok (.bipush (-100), 2) := by decide +kernel
theorem d_P_read_21 : decode b_P_read 21 = .ok (.iload_n 1, 1) := by decide +kernel
theorem d_P_read_22 : decode b_P_read 22 = .ok (.isub, 1) := by decide +kernel
theorem d_P_read_23 : decode b_P_read 23 = .ok (.goto 7, 3) := by decide +kernel
theorem d_P_read_26 : decode b_P_read 26 = .ok (.aload_n 0, 1) := by decide +kernel
theorem d_P_read_27 : decode b_P_read 27 = .ok (.invokevirtual 180, 3) := by decide +kernel
theorem d_P_read_30 : decode b_P_read 30 = .ok (.ireturn, 1) := by decide +kernel
theorem d_P_doActs_0 : decode b_P_doActs 0 = .ok (.aload_n 0, 1) := by decide +kernel
theorem d_P_doActs_1 : decode b_P_doActs 1 = .ok (.getfield 21, 3) := by decide +kernel
theorem d_P_doActs_4 : decode b_P_doActs 4 = .ok (.aload_n 0, 1) := by decide +kernel
theorem d_P_doActs_5 : decode b_P_doActs 5 = .ok (.getfield 14, 3) := by decide +kernel
theorem d_P_doActs_8 : decode b_P_doActs 8 = .ok (.invokevirtual 183, 3) := by decide +kernel
theorem d_P_doActs_11 : decode b_P_doActs 11 = .ok (.iconst 0, 1) := by decide +kernel
theorem d_P_doActs_12 : decode b_P_doActs 12 = .ok (.istore_n 1, 1) := by decide +kernel
theorem d_P_doActs_13 : decode b_P_doActs 13 = .ok (.iload_n 1, 1) := by decide +kernel
theorem d_P_doActs_14 : decode b_P_doActs 14 = .ok (.aload_n 0, 1) := by decide +kernel
theorem d_P_doActs_15 : decode b_P_doActs 15 = .ok (.getfield 31, 3) := by decide +kernel
theorem d_P_doActs_18 : decode b_P_doActs 18 = .ok (.invokevirtual 187, 3) := by decide +kernel
theorem d_P_doActs_21 : decode b_P_doActs 21 = .ok (.if_icmp .ge 60, 3) := by decide +kernel
theorem d_P_doActs_24 : decode b_P_doActs 24 = .ok (.aload_n 0, 1) := by decide +kernel
theorem d_P_doActs_25 : decode b_P_doActs 25 = .ok (.getfield 14, 3) := by decide +kernel
theorem d_P_doActs_28 : decode b_P_doActs 28 = .ok (.aload_n 0, 1) := by decide +kernel
theorem d_P_doActs_29 : decode b_P_doActs 29 = .ok (.getfield 31, 3) := by decide +kernel
theorem d_P_doActs_32 : decode b_P_doActs 32 = .ok (.iload_n 1, 1) := by decide +kernel
theorem d_P_doActs_33 : decode b_P_doActs 33 = .ok (.invokevirtual 190, 3) := by decide +kernel
theorem d_P_doActs_36 : decode b_P_doActs 36 = .ok (.aload_n 0, 1) := by decide +kernel
theorem d_P_doActs_37 : decode b_P_doActs 37 = .ok (.getfield 31, 3) := by decide +kernel
theorem d_P_doActs_40 : decode b_P_doActs 40 = .ok (.iload_n 1, 1) := by decide +kernel
theorem d_P_doActs_41 : decode b_P_doActs 41 = .ok (.invokevirtual 193, 3) := by decide +kernel
theorem d_P_doActs_44 : decode b_P_doActs 44 = .ok (.aload_n 0, 1) := by decide +kernel
theorem d_P_doActs_45 : decode b_P_doActs 45 = .ok (.getfield 31, 3) := by decide +kernel
theorem d_P_doActs_48 : decode b_P_doActs 48 = .ok (.iload_n 1, 1) := by decide +kernel
theorem d_P_doActs_49 : decode b_P_doActs 49 = .ok (.invokevirtual 196, 3) := by decide +kernel
theorem d_P_doActs_52 : decode b_P_doActs 52 = .ok (.invokevirtual 199, 3) := by decide +kernel
theorem d_P_doActs_55 : decode b_P_doActs 55 = .ok (.ifCond .ne 20, 3) := by decide +kernel
theorem d_P_doActs_58 : decode b_P_doActs 58 = .ok (.aload_n 0, 1) := by decide +kernel
theorem d_P_doActs_59 : decode b_P_doActs 59 = .ok (.getfield 14, 3) := by decide +kernel
theorem d_P_doActs_62 : decode b_P_doActs 62 = .ok (.aload_n 0, 1) := by decide +kernel
theorem d_P_doActs_63 : decode b_P_doActs 63 = .ok (.getfield 21, 3) := by decide +kernel
theorem d_P_doActs_66 : decode b_P_doActs 66 = .ok (.invokevirtual 183, 3) := by decide +kernel
theorem d_P_doActs_69 : decode b_P_doActs 69 = .ok (.sipush (-200), 3) := by decide +kernel
theorem d_P_doActs_72 : decode b_P_doActs 72 = .ok (.iload_n 1, 1) := by decide +kernel
theorem d_P_doActs_73 : decode b_P_doActs 73 = .ok (.isub, 1) := by decide +kernel
theorem d_P_doActs_74 : decode b_P_doActs 74 = .ok (.ireturn, 1) := by decide +kernel
theorem d_P_doActs_75 : decode b_P_doActs 75 = .ok (.iinc 1 1, 3) := by decide +kernel
theorem d_P_doActs_78 : decode b_P_doActs 78 = .ok (.goto (-65), 3) := by decide +kernel
theorem d_P_doActs_81 : decode b_P_doActs 81 = .ok (.aload_n 0, 1) := by decide +kernel
theorem d_P_doActs_82 : decode b_P_doActs 82 = .ok (.getfield 31, 3) := by decide +kernel
theorem d_P_doActs_85 : decode b_P_doActs 85 = .ok (.invokevirtual 187, 3) := by decide +kernel
theorem d_P_doActs_88 : decode b_P_doActs 88 = .ok (.ireturn, 1) := by decide +kernel
theorem d_P_row_0 : decode b_P_row 0 = .ok (.aload_n 0, 1) := by decide +kernel
theorem d_P_row_1 : decode b_P_row 1 = .ok (.iload_n 1, 1) := by decide +kernel
theorem d_P_row_2 : decode b_P_row 2 = .ok (.invokevirtual 202, 3) := by decide +kernel
theorem d_P_row_5 : decode b_P_row 5 = .ok (.astore_n 3, 1) := by decide +kernel
theorem d_P_row_6 : decode b_P_row 6 = .ok (.aload_n 3, 1) := by decide +kernel
theorem d_P_row_7 : decode b_P_row 7 = .ok (.ifnull 9, 3) := by decide +kernel
theorem d_P_row_10 : decode b_P_row 10 = .ok (.iload_n 2, 1) := by decide +kernel
theorem d_P_row_11 : decode b_P_row 11 = .ok (.bipush 20, 2) := by decide +kernel
theorem d_P_row_13 : decode b_P_row 13 = .ok (.if_icmp .le 5, 3) := by decide +kernel
theorem d_P_row_16 : decode b_P_row 16 = .ok (.iconst (-1), 1) := by decide +kernel
theorem d_P_row_17 : decode b_P_row 17 = .ok (.ireturn, 1) := by decide +kernel
theorem d_P_row_18 : decode b_P_row 18 = .ok (.aload_n 3, 1) := by decide +kernel
theorem d_P_row_19 : decode b_P_row 19 = .ok (.iload_n 2, 1) := by decide +kernel
theorem d_P_row_20 : decode b_P_row 20 = .ok (.invokevirtual 206, 3) := by decide +kernel
theorem d_P_row_23 : decode b_P_row 23 = .ok (.ifCond .eq 7, 3) := by decide +kernel
theorem d_P_row_26 : decode b_P_row 26 = .ok (.iconst 1, 1) := by decide +kernel
theorem d_P_row_27 : decode b_P_row 27 = .ok (.goto 5, 3) := by decide +kernel
theorem d_P_row_30 : decode b_P_row 30 = .ok (.bipush (-14), 2) := by decide +kernel
theorem d_P_row_32 : decode b_P_row 32 = .ok (.ireturn, 1) := by decide +kernel
theorem d_P_put_0 : decode b_P_put 0 = .ok (.aload_n 0, 1) := by decide +kernel
theorem d_P_put_1 : decode b_P_put 1 = .ok (.iload_n 1, 1) := by decide +kernel
theorem d_P_put_2 : decode b_P_put 2 = .ok (.invokevirtual 202, 3) := by decide +kernel
theorem d_P_put_5 : decode b_P_put 5 = .ok (.astore 5, 2) := by decide +kernel
theorem d_P_put_7 : decode b_P_put 7 = .ok (.aload 5, 2) := by decide +kernel
theorem d_P_put_9 : decode b_P_put 9 = .ok (.ifnonnull 5, 3) := by decide +kernel
theorem d_P_put_12 : decode b_P_put 12 = .ok (.iconst (-1), 1) := by decide +kernel
theorem d_P_put_13 : decode b_P_put 13 = .ok (.ireturn, 1) := by decide +kernel
theorem d_P_put_14 : decode b_P_put 14 = .ok (.aload 5, 2) := by decide +kernel
theorem d_P_put_16 : decode b_P_put 16 = .ok (.invokevirtual 209, 3) := by decide +kernel
theorem d_P_put_19 : decode b_P_put 19 = .ok (.ifCond .eq 6, 3) := by decide +kernel
theorem d_P_put_22 : decode b_P_put 22 = .ok (.bipush (-11), 2) := by decide +kernel
theorem d_P_put_24 : decode b_P_put 24 = .ok (.ireturn, 1) := by decide +kernel
theorem d_P_put_25 : decode b_P_put 25 = .ok (.aload 5, 2) := by decide +kernel
theorem d_P_put_27 : decode b_P_put 27 = .ok (.iload_n 2, 1) := by decide +kernel
theorem d_P_put_28 : decode b_P_put 28 = .ok (.lload_n 3, 1) := by decide +kernel
theorem d_P_put_29 : decode b_P_put 29 = .ok (.invokevirtual 213, 3) := by decide +kernel
theorem d_P_put_32 : decode b_P_put 32 = .ok (.ifCond .eq 7, 3) := by decide +kernel
theorem d_P_put_35 : decode b_P_put 35 = .ok (.iconst 1, 1) := by decide +kernel
theorem d_P_put_36 : decode b_P_put 36 = .ok (.goto 5, 3) := by decide +kernel
theorem d_P_put_39 : decode b_P_put 39 = .ok (.bipush (-13), 2) := by decide +kernel
theorem d_P_put_41 : decode b_P_put 41 = .ok (.ireturn, 1) := by decide +kernel
theorem d_P_get_0 : decode b_P_get 0 = .ok (.aload_n 0, 1) := by decide +kernel
theorem d_P_get_1 : decode b_P_get 1 = .ok (.iload_n 1, 1) := by decide +kernel
theorem d_P_get_2 : decode b_P_get 2 = .ok (.invokevirtual 202, 3) := by decide +kernel
theorem d_P_get_5 : decode b_P_get 5 = .ok (.astore_n 3, 1) := by decide +kernel
theorem d_P_get_6 : decode b_P_get 6 = .ok (.aload_n 3, 1) := by decide +kernel
theorem d_P_get_7 : decode b_P_get 7 = .ok (.ifnull 19, 3) := by decide +kernel
theorem d_P_get_10 : decode b_P_get 10 = .ok (.aload_n 3, 1) := by decide +kernel
theorem d_P_get_11 : decode b_P_get 11 = .ok (.iload_n 2, 1) := by decide +kernel
theorem d_P_get_12 : decode b_P_get 12 = .ok (.invokevirtual 217, 3) := by decide +kernel
theorem d_P_get_15 : decode b_P_get 15 = .ok (.ifCond .eq 11, 3) := by decide +kernel
theorem d_P_get_18 : decode b_P_get 18 = .ok (.aload_n 3, 1) := by decide +kernel
theorem d_P_get_19 : decode b_P_get 19 = .ok (.iload_n 2, 1) := by decide +kernel
theorem d_P_get_20 : decode b_P_get 20 = .ok (.invokevirtual 220, 3) := by decide +kernel
theorem d_P_get_23 : decode b_P_get 23 = .ok (.goto 6, 3) := by decide +kernel
theorem d_P_get_26 : decode b_P_get 26 = .ok (.ldc2_w 80, 3) := by decide +kernel
theorem d_P_get_29 : decode b_P_get 29 = .ok (.lreturn, 1) := by decide +kernel
theorem d_P_lay_0 : decode b_P_lay 0 = .ok (.aload_n 0, 1) := by decide +kernel
theorem d_P_lay_1 : decode b_P_lay 1 = .ok (.iload_n 1, 1) := by decide +kernel
theorem d_P_lay_2 : decode b_P_lay 2 = .ok (.invokevirtual 202, 3) := by decide +kernel
theorem d_P_lay_5 : decode b_P_lay 5 = .ok (.astore_n 2, 1) := by decide +kernel
theorem d_P_lay_6 : decode b_P_lay 6 = .ok (.aload_n 2, 1) := by decide +kernel
theorem d_P_lay_7 : decode b_P_lay 7 = .ok (.ifnonnull 5, 3) := by decide +kernel
theorem d_P_lay_10 : decode b_P_lay 10 = .ok (.iconst (-1), 1) := by decide +kernel
theorem d_P_lay_11 : decode b_P_lay 11 = .ok (.ireturn, 1) := by decide +kernel
theorem d_P_lay_12 : decode b_P_lay 12 = .ok (.aload_n 2, 1) := by decide +kernel
theorem d_P_lay_13 : decode b_P_lay 13 = .ok (.invokevirtual 209, 3) := by decide +kernel
theorem d_P_lay_16 : decode b_P_lay 16 = .ok (.ifCond .eq 6, 3) := by decide +kernel
theorem d_P_lay_19 : decode b_P_lay 19 = .ok (.bipush (-11), 2) := by decide +kernel
theorem d_P_lay_21 : decode b_P_lay 21 = .ok (.ireturn, 1) := by decide +kernel
theorem d_P_lay_22 : decode b_P_lay 22 = .ok (.aload_n 2, 1) := by decide +kernel
theorem d_P_lay_23 : decode b_P_lay 23 = .ok (.invokevirtual 223, 3) := by decide +kernel
theorem d_P_lay_26 : decode b_P_lay 26 = .ok (.aload_n 0, 1) := by decide +kernel
theorem d_P_lay_27 : decode b_P_lay 27 = .ok (.getfield 14, 3) := by decide +kernel
theorem d_P_lay_30 : decode b_P_lay 30 = .ok (.invokevirtual 226, 3) := by decide +kernel
theorem d_P_lay_33 : decode b_P_lay 33 = .ok (.invokestatic 227, 3) := by decide +kernel
theorem d_P_lay_36 : decode b_P_lay 36 = .ok (.istore_n 3, 1) := by decide +kernel
theorem d_P_lay_37 : decode b_P_lay 37 = .ok (.iconst 0, 1) := by decide +kernel
theorem d_P_lay_38 : decode b_P_lay 38 = .ok (.istore 4, 2) := by decide +kernel
theorem d_P_lay_40 : decode b_P_lay 40 = .ok (.iload 4, 2) := by decide +kernel
theorem d_P_lay_42 : decode b_P_lay 42 = .ok (.iload_n 3, 1) := by decide +kernel
theorem d_P_lay_43 : decode b_P_lay 43 = .ok (.if_icmp .ge 26, 3) := by decide +kernel
theorem d_P_lay_46 : decode b_P_lay 46 = .ok (.aload_n 2, 1) := by decide +kernel
theorem d_P_lay_47 : decode b_P_lay 47 = .ok (.iload 4, 2) := by decide +kernel
theorem d_P_lay_49 : decode b_P_lay 49 = .ok (.aload_n 0, 1) := by decide +kernel
theorem d_P_lay_50 : decode b_P_lay 50 = .ok (.getfield 14, 3) := by decide +kernel
theorem d_P_lay_53 : decode b_P_lay 53 = .ok (.iload 4, 2) := by decide +kernel
theorem d_P_lay_55 : decode b_P_lay 55 = .ok (.invokevirtual 232, 3) := by decide +kernel
theorem d_P_lay_58 : decode b_P_lay 58 = .ok (.i2l, 1) := by decide +kernel
theorem d_P_lay_59 : decode b_P_lay 59 = .ok (.invokevirtual 213, 3) := by decide +kernel
theorem d_P_lay_62 : decode b_P_lay 62 = .ok (.pop, 1) := by decide +kernel
theorem d_P_lay_63 : decode b_P_lay 63 = .ok (.iinc 4 1, 3) := by decide +kernel
theorem d_P_lay_66 : decode b_P_lay 66 = .ok (.goto (-26), 3) := by decide +kernel
theorem d_P_lay_69 : decode b_P_lay 69 = .ok (.iload_n 3, 1) := by decide +kernel
theorem d_P_lay_70 : decode b_P_lay 70 = .ok (.ireturn, 1) := by decide +kernel
theorem d_P_judge_0 : decode b_P_judge 0 = .ok (.aload_n 0, 1) := by decide +kernel
theorem d_P_judge_1 : decode b_P_judge 1 = .ok (.iload_n 1, 1) := by decide +kernel
theorem d_P_judge_2 : decode b_P_judge 2 = .ok (.invokevirtual 202, 3) := by decide +kernel
theorem d_P_judge_5 : decode b_P_judge 5 = .ok (.astore_n 2, 1) := by decide +kernel
theorem d_P_judge_6 : decode b_P_judge 6 = .ok (.aload_n 2, 1) := by decide +kernel
theorem d_P_judge_7 : decode b_P_judge 7 = .ok (.ifnonnull 5, 3) := by decide +kernel
theorem d_P_judge_10 : decode b_P_judge 10 = .ok (.iconst (-1), 1) := by decide +kernel
theorem d_P_judge_11 : decode b_P_judge 11 = .ok (.ireturn, 1) := by decide +kernel
theorem d_P_judge_12 : decode b_P_judge 12 = .ok (.aload_n 2, 1) := by decide +kernel
theorem d_P_judge_13 : decode b_P_judge 13 = .ok (.invokevirtual 209, 3) := by decide +kernel
theorem d_P_judge_16 : decode b_P_judge 16 = .ok (.ifCond .eq 6, 3) := by decide +kernel
theorem d_P_judge_19 : decode b_P_judge 19 = .ok (.bipush (-11), 2) := by decide +kernel
theorem d_P_judge_21 : decode b_P_judge 21 = .ok (.ireturn, 1) := by decide +kernel
theorem d_P_judge_22 : decode b_P_judge 22 = .ok (.iconst 0, 1) := by decide +kernel
theorem d_P_judge_23 : decode b_P_judge 23 = .ok (.istore_n 3, 1) := by decide +kernel
theorem d_P_judge_24 : decode b_P_judge 24 = .ok (.iload_n 3, 1) := by decide +kernel
theorem d_P_judge_25 : decode b_P_judge 25 = .ok (.aload_n 2, 1) := by decide +kernel
theorem d_P_judge_26 : decode b_P_judge 26 = .ok (.invokevirtual 223, 3) := by decide +kernel
theorem d_P_judge_29 : decode b_P_judge 29 = .ok (.if_icmp .ge 40, 3) := by decide +kernel
theorem d_P_judge_32 : decode b_P_judge 32 = .ok (.aload_n 0, 1) := by decide +kernel
theorem d_P_judge_33 : decode b_P_judge 33 = .ok (.getfield 14, 3) := by decide +kernel
theorem d_P_judge_36 : decode b_P_judge 36 = .ok (.iload_n 3, 1) := by decide +kernel
theorem d_P_judge_37 : decode b_P_judge 37 = .ok (.invokevirtual 60, 3) := by decide +kernel
theorem d_P_judge_40 : decode b_P_judge 40 = .ok (.ifCond .eq 21, 3) := by decide +kernel
theorem d_P_judge_43 : decode b_P_judge 43 = .ok (.aload_n 2, 1) := by decide +kernel
theorem d_P_judge_44 : decode b_P_judge 44 = .ok (.iload_n 3, 1) := by decide +kernel
theorem d_P_judge_45 : decode b_P_judge 45 = .ok (.invokevirtual 220, 3) := by decide +kernel
theorem d_P_judge_48 : decode b_P_judge 48 = .ok (.aload_n 0, 1) := by decide +kernel
theorem d_P_judge_49 : decode b_P_judge 49 = .ok (.getfield 14, 3) := by decide +kernel
theorem d_P_judge_52 : decode b_P_judge 52 = .ok (.iload_n 3, 1) := by decide +kernel
theorem d_P_judge_53 : decode b_P_judge 53 = .ok (.invokevirtual 232, 3) := by decide +kernel
theorem d_P_judge_56 : decode b_P_judge 56 = .ok (.i2l, 1) := by decide +kernel
theorem d_P_judge_57 : decode b_P_judge 57 = .ok (.lcmp, 1) := by decide +kernel
theorem d_P_judge_58 : decode b_P_judge 58 = .ok (.ifCond .eq 5, 3) := by decide +kernel
theorem d_P_judge_61 : decode b_P_judge 61 = .ok (.iload_n 3, 1) := by decide +kernel
theorem d_P_judge_62 : decode b_P_judge 62 = .ok (.ireturn, 1) := by decide +kernel
theorem d_P_judge_63 : decode b_P_judge 63 = .ok (.iinc 3 1, 3) := by decide +kernel
theorem d_P_judge_66 : decode b_P_judge 66 = .ok (.goto (-42), 3) := by decide +kernel
theorem d_P_judge_69 : decode b_P_judge 69 = .ok (.bipush (-2), 2) := by decide +kernel
theorem d_P_judge_71 : decode b_P_judge 71 = .ok (.ireturn, 1) := by decide +kernel
theorem d_P_image_0 : decode b_P_image 0 = .ok (.aload_n 0, 1) := by decide +kernel
theorem d_P_image_1 : decode b_P_image 1 = .ok (.getfield 18, 3) := by decide +kernel
theorem d_P_image_4 : decode b_P_image 4 = .ok (.aload_n 0, 1) := by decide +kernel
theorem d_P_image_5 : decode b_P_image 5 = .ok (.getfield 14, 3) := by decide +kernel
theorem d_P_image_8 : decode b_P_image 8 = .ok (.invokevirtual 183, 3) := by decide +kernel
theorem d_P_image_11 : decode b_P_image 11 = .ok (.aload_n 0, 1) := by decide +kernel
theorem d_P_image_12 : decode b_P_image 12 = .ok (.iconst 1, 1) := by decide +kernel
theorem d_P_image_13 : decode b_P_image 13 = .ok (.putfield 24, 3) := by decide +kernel
theorem d_P_image_16 : decode b_P_image 16 = .ok (.aload_n 0, 1) := by decide +kernel
theorem d_P_image_17 : decode b_P_image 17 = .ok (.getfield 14, 3) := by decide +kernel
theorem d_P_image_20 : decode b_P_image 20 = .ok (.invokevirtual 226, 3) := by decide +kernel
theorem d_P_image_23 : decode b_P_image 23 = .ok (.ireturn, 1) := by decide +kernel
theorem d_P_undo_0 : decode b_P_undo 0 = .ok (.aload_n 0, 1) := by decide +kernel
theorem d_P_undo_1 : decode b_P_undo 1 = .ok (.getfield 24, 3) := by decide +kernel
theorem d_P_undo_4 : decode b_P_undo 4 = .ok (.ifCond .ne 6, 3) := by decide +kernel
theorem d_P_undo_7 : decode b_P_undo 7 = .ok (.bipush (-5), 2) := by decide +kernel
theorem d_P_undo_9 : decode b_P_undo 9 = .ok (.ireturn, 1) := by decide +kernel
theorem d_P_undo_10 : decode b_P_undo 10 = .ok (.aload_n 0, 1) := by decide +kernel
theorem d_P_undo_11 : decode b_P_undo 11 = .ok (.getfield 14, 3) := by decide +kernel
theorem d_P_undo_14 : decode b_P_undo 14 = .ok (.aload_n 0, 1) := by decide +kernel
theorem d_P_undo_15 : decode b_P_undo 15 = .ok (.getfield 18, 3) := by decide +kernel
theorem d_P_undo_18 : decode b_P_undo 18 = .ok (.invokevirtual 183, 3) := by decide +kernel
theorem d_P_undo_21 : decode b_P_undo 21 = .ok (.aload_n 0, 1) := by decide +kernel
theorem d_P_undo_22 : decode b_P_undo 22 = .ok (.getfield 14, 3) := by decide +kernel
theorem d_P_undo_25 : decode b_P_undo 25 = .ok (.invokevirtual 226, 3) := by decide +kernel
theorem d_P_undo_28 : decode b_P_undo 28 = .ok (.ireturn, 1) := by decide +kernel
theorem d_P_count_0 : decode b_P_count 0 = .ok (.iload_n 1, 1) := by decide +kernel
theorem d_P_count_1 : decode b_P_count 1 = .ok (.tableswitch 75 0 4 #[35, 43, 51, 59, 67], 35) := by decide +kernel
theorem d_P_count_36 : decode b_P_count 36 = .ok (.aload_n 0, 1) := by decide +kernel
theorem d_P_count_37 : decode b_P_count 37 = .ok (.getfield 14, 3) := by decide +kernel
theorem d_P_count_40 : decode b_P_count 40 = .ok (.invokevirtual 226, 3) := by decide +kernel
theorem d_P_count_43 : decode b_P_count 43 = .ok (.ireturn, 1) := by decide +kernel
theorem d_P_count_44 : decode b_P_count 44 = .ok (.aload_n 0, 1) := by decide +kernel
theorem d_P_count_45 : decode b_P_count 45 = .ok (.getfield 14, 3) := by decide +kernel
theorem d_P_count_48 : decode b_P_count 48 = .ok (.invokevirtual 126, 3) := by decide +kernel
theorem d_P_count_51 : decode b_P_count 51 = .ok (.ireturn, 1) := by decide +kernel
theorem d_P_count_52 : decode b_P_count 52 = .ok (.aload_n 0, 1) := by decide +kernel
theorem d_P_count_53 : decode b_P_count 53 = .ok (.getfield 31, 3) := by decide +kernel
theorem d_P_count_56 : decode b_P_count 56 = .ok (.invokevirtual 235, 3) := by decide +kernel
theorem d_P_count_59 : decode b_P_count 59 = .ok (.ireturn, 1) := by decide +kernel
theorem d_P_count_60 : decode b_P_count 60 = .ok (.aload_n 0, 1) := by decide +kernel
theorem d_P_count_61 : decode b_P_count 61 = .ok (.getfield 14, 3) := by decide +kernel
theorem d_P_count_64 : decode b_P_count 64 = .ok (.invokevirtual 238, 3) := by decide +kernel
theorem d_P_count_67 : decode b_P_count 67 = .ok (.ireturn, 1) := by decide +kernel
theorem d_P_count_68 : decode b_P_count 68 = .ok (.aload_n 0, 1) := by decide +kernel
theorem d_P_count_69 : decode b_P_count 69 = .ok (.getfield 14, 3) := by decide +kernel
theorem d_P_count_72 : decode b_P_count 72 = .ok (.invokevirtual 241, 3) := by decide +kernel
theorem d_P_count_75 : decode b_P_count 75 = .ok (.ireturn, 1) := by decide +kernel
theorem d_P_count_76 : decode b_P_count 76 = .ok (.iconst (-1), 1) := by decide +kernel
theorem d_P_count_77 : decode b_P_count 77 = .ok (.ireturn, 1) := by decide +kernel
theorem d_P_rowAt_0 : decode b_P_rowAt 0 = .ok (.iload_n 1, 1) := by decide +kernel
theorem d_P_rowAt_1 : decode b_P_rowAt 1 = .ok (.ifCond .lt 21, 3) := by decide +kernel
theorem d_P_rowAt_4 : decode b_P_rowAt 4 = .ok (.iload_n 1, 1) := by decide +kernel
theorem d_P_rowAt_5 : decode b_P_rowAt 5 = .ok (.aload_n 0, 1) := by decide +kernel
theorem d_P_rowAt_6 : decode b_P_rowAt 6 = .ok (.getfield 38, 3) := by decide +kernel
theorem d_P_rowAt_9 : decode b_P_rowAt 9 = .ok (.arraylength, 1) := by decide +kernel
theorem d_P_rowAt_10 : decode b_P_rowAt 10 = .ok (.if_icmp .ge 12, 3) := by decide +kernel
theorem d_P_rowAt_13 : decode b_P_rowAt 13 = .ok (.aload_n 0, 1) := by decide +kernel
theorem d_P_rowAt_14 : decode b_P_rowAt 14 = .ok (.getfield 38, 3) := by decide +kernel
theorem d_P_rowAt_17 : decode b_P_rowAt 17 = .ok (.iload_n 1, 1) := by decide +kernel
theorem d_P_rowAt_18 : decode b_P_rowAt 18 = .ok (.aaload, 1) := by decide +kernel
theorem d_P_rowAt_19 : decode b_P_rowAt 19 = .ok (.goto 4, 3) := by decide +kernel
theorem d_P_rowAt_22 : decode b_P_rowAt 22 = .ok (.aconst_null, 1) := by decide +kernel
theorem d_P_rowAt_23 : decode b_P_rowAt 23 = .ok (.areturn, 1) := by decide +kernel
theorem d_P_isOutward_0 : decode b_P_isOutward 0 = .ok (.iload_n 0, 1) := by decide +kernel
theorem d_P_isOutward_1 : decode b_P_isOutward 1 = .ok (.iconst 5, 1) := by decide +kernel
theorem d_P_isOutward_2 : decode b_P_isOutward 2 = .ok (.if_icmp .lt 13, 3) := by decide +kernel
theorem d_P_isOutward_5 : decode b_P_isOutward 5 = .ok (.iload_n 0, 1) := by decide +kernel
theorem d_P_isOutward_6 : decode b_P_isOutward 6 = .ok (.bipush 99, 2) := by decide +kernel
theorem d_P_isOutward_8 : decode b_P_isOutward 8 = .ok (.if_icmp .gt 7, 3) := by decide +kernel
theorem d_P_isOutward_11 : decode b_P_isOutward 11 = .ok (.iconst 1, 1) := by decide +kernel
theorem d_P_isOutward_12 : decode b_P_isOutward 12 = .ok (.goto 4, 3) := by decide +kernel
theorem d_P_isOutward_15 : decode b_P_isOutward 15 = .ok (.iconst 0, 1) := by decide +kernel
theorem d_P_isOutward_16 : decode b_P_isOutward 16 = .ok (.ireturn, 1) := by decide +kernel
theorem d_P_isTeeth_0 : decode b_P_isTeeth 0 = .ok (.iload_n 0, 1) := by decide +kernel
theorem d_P_isTeeth_1 : decode b_P_isTeeth 1 = .ok (.invokestatic 142, 3) := by decide +kernel
theorem d_P_isTeeth_4 : decode b_P_isTeeth 4 = .ok (.ifCond .ne 15, 3) := by decide +kernel
theorem d_P_isTeeth_7 : decode b_P_isTeeth 7 = .ok (.iload_n 0, 1) := by decide +kernel
theorem d_P_isTeeth_8 : decode b_P_isTeeth 8 = .ok (.bipush (-99), 2) := by decide +kernel
theorem d_P_isTeeth_10 : decode b_P_isTeeth 10 = .ok (.if_icmp .lt 13, 3) := by decide +kernel
theorem d_P_isTeeth_13 : decode b_P_isTeeth 13 = .ok (.iload_n 0, 1) := by decide +kernel
theorem d_P_isTeeth_14 : decode b_P_isTeeth 14 = .ok (.bipush (-20), 2) := by decide +kernel
theorem d_P_isTeeth_16 : decode b_P_isTeeth 16 = .ok (.if_icmp .gt 7, 3) := by decide +kernel
theorem d_P_isTeeth_19 : decode b_P_isTeeth 19 = .ok (.iconst 1, 1) := by decide +kernel
theorem d_P_isTeeth_20 : decode b_P_isTeeth 20 = .ok (.goto 4, 3) := by decide +kernel
theorem d_P_isTeeth_23 : decode b_P_isTeeth 23 = .ok (.iconst 0, 1) := by decide +kernel
theorem d_P_isTeeth_24 : decode b_P_isTeeth 24 = .ok (.ireturn, 1) := by decide +kernel
theorem d_P_isShift_0 : decode b_P_isShift 0 = .ok (.iload_n 0, 1) := by decide +kernel
theorem d_P_isShift_1 : decode b_P_isShift 1 = .ok (.bipush (-50), 2) := by decide +kernel
theorem d_P_isShift_3 : decode b_P_isShift 3 = .ok (.if_icmp .lt 13, 3) := by decide +kernel
theorem d_P_isShift_6 : decode b_P_isShift 6 = .ok (.iload_n 0, 1) := by decide +kernel
theorem d_P_isShift_7 : decode b_P_isShift 7 = .ok (.bipush 100, 2) := by decide +kernel
theorem d_P_isShift_9 : decode b_P_isShift 9 = .ok (.if_icmp .gt 7, 3) := by decide +kernel
theorem d_P_isShift_12 : decode b_P_isShift 12 = .ok (.iconst 1, 1) := by decide +kernel
theorem d_P_isShift_13 : decode b_P_isShift 13 = .ok (.goto 4, 3) := by decide +kernel
theorem d_P_isShift_16 : decode b_P_isShift 16 = .ok (.iconst 0, 1) := by decide +kernel
theorem d_P_isShift_17 : decode b_P_isShift 17 = .ok (.ireturn, 1) := by decide +kernel
theorem d_P_isPart_0 : decode b_P_isPart 0 = .ok (.iload_n 0, 1) := by decide +kernel
theorem d_P_isPart_1 : decode b_P_isPart 1 = .ok (.ifCond .eq 8, 3) := by decide +kernel
theorem d_P_isPart_4 : decode b_P_isPart 4 = .ok (.iload_n 0, 1) := by decide +kernel
theorem d_P_isPart_5 : decode b_P_isPart 5 = .ok (.iconst 1, 1) := by decide +kernel
theorem d_P_isPart_6 : decode b_P_isPart 6 = .ok (.if_icmp .ne 7, 3) := by decide +kernel
theorem d_P_isPart_9 : decode b_P_isPart 9 = .ok (.iconst 1, 1) := by decide +kernel
theorem d_P_isPart_10 : decode b_P_isPart 10 = .ok (.goto 4, 3) := by decide +kernel
theorem d_P_isPart_13 : decode b_P_isPart 13 = .ok (.iconst 0, 1) := by decide +kernel
theorem d_P_isPart_14 : decode b_P_isPart 14 = .ok (.ireturn, 1) := by decide +kernel
theorem d_P_partOf_0 : decode b_P_partOf 0 = .ok (.lload_n 0, 1) := by decide +kernel
theorem d_P_partOf_1 : decode b_P_partOf 1 = .ok (.invokestatic 244, 3) := by decide +kernel
theorem d_P_partOf_4 : decode b_P_partOf 4 = .ok (.lload_n 2, 1) := by decide +kernel
theorem d_P_partOf_5 : decode b_P_partOf 5 = .ok (.invokestatic 248, 3) := by decide +kernel
theorem d_P_partOf_8 : decode b_P_partOf 8 = .ok (.lstore 5, 2) := by decide +kernel
theorem d_P_partOf_10 : decode b_P_partOf 10 = .ok (.iload 4, 2) := by decide +kernel
theorem d_P_partOf_12 : decode b_P_partOf 12 = .ok (.ifCond .ne 7, 3) := by decide +kernel
theorem d_P_partOf_15 : decode b_P_partOf 15 = .ok (.lload_n 0, 1) := by decide +kernel
theorem d_P_partOf_16 : decode b_P_partOf 16 = .ok (.goto 4, 3) := by decide +kernel
theorem d_P_partOf_19 : decode b_P_partOf 19 = .ok (.lload_n 2, 1) := by decide +kernel
theorem d_P_partOf_20 : decode b_P_partOf 20 = .ok (.lstore 7, 2) := by decide +kernel
theorem d_P_partOf_22 : decode b_P_partOf 22 = .ok (.lload 5, 2) := by decide +kernel
theorem d_P_partOf_24 : decode b_P_partOf 24 = .ok (.lconst 1, 1) := by decide +kernel
theorem d_P_partOf_25 : decode b_P_partOf 25 = .ok (.lcmp, 1) := by decide +kernel
theorem d_P_partOf_26 : decode b_P_partOf 26 = .ok (.ifCond .le 11, 3) := by decide +kernel
theorem d_P_partOf_29 : decode b_P_partOf 29 = .ok (.lload 7, 2) := by decide +kernel
theorem d_P_partOf_31 : decode b_P_partOf 31 = .ok (.lload 5, 2) := by decide +kernel
theorem d_P_partOf_33 : decode b_P_partOf 33 = .ok (.ldiv, 1) := by decide +kernel
theorem d_P_partOf_34 : decode b_P_partOf 34 = .ok (.goto 5, 3) := by decide +kernel
theorem d_P_partOf_37 : decode b_P_partOf 37 = .ok (.lload 7, 2) := by decide +kernel
theorem d_P_partOf_39 : decode b_P_partOf 39 = .ok (.lreturn, 1) := by decide +kernel
theorem d_P_commonDivisor_0 : decode b_P_commonDivisor 0 = .ok (.lload_n 0, 1) := by decide +kernel
theorem d_P_commonDivisor_1 : decode b_P_commonDivisor 1 = .ok (.lstore 4, 2) := by decide +kernel
theorem d_P_commonDivisor_3 : decode b_P_commonDivisor 3 = .ok (.lload_n 2, 1) := by decide +kernel
theorem d_P_commonDivisor_4 : decode b_P_commonDivisor 4 = .ok (.lstore 6, 2) := by decide +kernel
theorem d_P_commonDivisor_6 : decode b_P_commonDivisor 6 = .ok (.iconst 0, 1) := by decide +kernel
theorem d_P_commonDivisor_7 : decode b_P_commonDivisor 7 = .ok (.istore 8, 2) := by decide +kernel
theorem d_P_commonDivisor_9 : decode b_P_commonDivisor 9 = .ok (.iload 8, 2) := by decide +kernel
theorem d_P_commonDivisor_11 : decode b_P_commonDivisor 11 = .ok (.sipush 200, 3) := by decide +kernel
theorem d_P_commonDivisor_14 : decode b_P_commonDivisor 14 = .ok (.if_icmp .ge 31, 3) := by decide +kernel
theorem d_P_commonDivisor_17 : decode b_P_commonDivisor 17 = .ok (.lload 6, 2) := by decide +kernel
theorem d_P_commonDivisor_19 : decode b_P_commonDivisor 19 = .ok (.lconst 0, 1) := by decide +kernel
theorem d_P_commonDivisor_20 : decode b_P_commonDivisor 20 = .ok (.lcmp, 1) := by decide +kernel
theorem d_P_commonDivisor_21 : decode b_P_commonDivisor 21 = .ok (.ifCond .eq 24, 3) := by decide +kernel
theorem d_P_commonDivisor_24 : decode b_P_commonDivisor 24 = .ok (.lload 4, 2) := by decide +kernel
theorem d_P_commonDivisor_26 : decode b_P_commonDivisor 26 = .ok (.lload 6, 2) := by decide +kernel
theorem d_P_commonDivisor_28 : decode b_P_commonDivisor 28 = .ok (.lrem, 1) := by decide +kernel
theorem d_P_commonDivisor_29 : decode b_P_commonDivisor 29 = .ok (.lstore 9, 2) := by decide +kernel
theorem d_P_commonDivisor_31 : decode b_P_commonDivisor 31 = .ok (.lload 6, 2) := by decide +kernel
theorem d_P_commonDivisor_33 : decode b_P_commonDivisor 33 = .ok (.lstore 4, 2) := by decide +kernel
theorem d_P_commonDivisor_35 : decode b_P_commonDivisor 35 = .ok (.lload 9, 2) := by decide +kernel
theorem d_P_commonDivisor_37 : decode b_P_commonDivisor 37 = .ok (.lstore 6, 2) := by decide +kernel
theorem d_P_commonDivisor_39 : decode b_P_commonDivisor 39 = .ok (.iinc 8 1, 3) := by decide +kernel
theorem d_P_commonDivisor_42 : decode b_P_commonDivisor 42 = .ok (.goto (-33), 3) := by decide +kernel
theorem d_P_commonDivisor_45 : decode b_P_commonDivisor 45 = .ok (.lload 4, 2) := by decide +kernel
theorem d_P_commonDivisor_47 : decode b_P_commonDivisor 47 = .ok (.lreturn, 1) := by decide +kernel
theorem d_P_root_0 : decode b_P_root 0 = .ok (.lconst 0, 1) := by decide +kernel
theorem d_P_root_1 : decode b_P_root 1 = .ok (.lstore_n 2, 1) := by decide +kernel
theorem d_P_root_2 : decode b_P_root 2 = .ok (.bipush 30, 2) := by decide +kernel
theorem d_P_root_4 : decode b_P_root 4 = .ok (.istore 4, 2) := by decide +kernel
theorem d_P_root_6 : decode b_P_root 6 = .ok (.iload 4, 2) := by decide +kernel
theorem d_P_root_8 : decode b_P_root 8 = .ok (.ifCond .lt 30, 3) := by decide +kernel
theorem d_P_root_11 : decode b_P_root 11 = .ok (.lload_n 2, 1) := by decide +kernel
theorem d_P_root_12 : decode b_P_root 12 = .ok (.lconst 1, 1) := by decide +kernel
theorem d_P_root_13 : decode b_P_root 13 = .ok (.iload 4, 2) := by decide +kernel
theorem d_P_root_15 : decode b_P_root 15 = .ok (.lshl, 1) := by decide +kernel
theorem d_P_root_16 : decode b_P_root 16 = .ok (.ladd, 1) := by decide +kernel
theorem d_P_root_17 : decode b_P_root 17 = .ok (.lstore 5, 2) := by decide +kernel
theorem d_P_root_19 : decode b_P_root 19 = .ok (.lload 5, 2) := by decide +kernel
theorem d_P_root_21 : decode b_P_root 21 = .ok (.lload 5, 2) := by decide +kernel
theorem d_P_root_23 : decode b_P_root 23 = .ok (.lmul, 1) := by decide +kernel
theorem d_P_root_24 : decode b_P_root 24 = .ok (.lload_n 0, 1) := by decide +kernel
theorem d_P_root_25 : decode b_P_root 25 = .ok (.lcmp, 1) := by decide +kernel
theorem d_P_root_26 : decode b_P_root 26 = .ok (.ifCond .gt 6, 3) := by decide +kernel
theorem d_P_root_29 : decode b_P_root 29 = .ok (.lload 5, 2) := by decide +kernel
theorem d_P_root_31 : decode b_P_root 31 = .ok (.lstore_n 2, 1) := by decide +kernel
theorem d_P_root_32 : decode b_P_root 32 = .ok (.iinc 4 (-1), 3) := by decide +kernel
theorem d_P_root_35 : decode b_P_root 35 = .ok (.goto (-29), 3) := by decide +kernel
theorem d_P_root_38 : decode b_P_root 38 = .ok (.lload_n 2, 1) := by decide +kernel
theorem d_P_root_39 : decode b_P_root 39 = .ok (.lreturn, 1) := by decide +kernel
theorem d_M_init_0 : decode b_M_init 0 = .ok (.aload_n 0, 1) := by decide +kernel
theorem d_M_init_1 : decode b_M_init 1 = .ok (.invokespecial 3, 3) := by decide +kernel
theorem d_M_init_4 : decode b_M_init 4 = .ok (.aload_n 0, 1) := by decide +kernel
theorem d_M_init_5 : decode b_M_init 5 = .ok (.bipush 53, 2) := by decide +kernel
theorem d_M_init_7 : decode b_M_init 7 = .ok (.newarray .int, 2) := by decide +kernel
theorem d_M_init_9 : decode b_M_init 9 = .ok (.putfield 11, 3) := by decide +kernel
theorem d_M_init_12 : decode b_M_init 12 = .ok (.aload_n 0, 1) := by decide +kernel
theorem d_M_init_13 : decode b_M_init 13 = .ok (.bipush 53, 2) := by decide +kernel
theorem d_M_init_15 : decode b_M_init 15 = .ok (.newarray .int, 2) := by decide +kernel
theorem d_M_init_17 : decode b_M_init 17 = .ok (.putfield 15, 3) := by decide +kernel
theorem d_M_init_20 : decode b_M_init 20 = .ok (.aload_n 0, 1) := by decide +kernel
theorem d_M_init_21 : decode b_M_init 21 = .ok (.bipush 53, 2) := by decide +kernel
theorem d_M_init_23 : decode b_M_init 23 = .ok (.newarray .int, 2) := by decide +kernel
theorem d_M_init_25 : decode b_M_init 25 = .ok (.putfield 18, 3) := by decide +kernel
theorem d_M_init_28 : decode b_M_init 28 = .ok (.aload_n 0, 1) := by decide +kernel
theorem d_M_init_29 : decode b_M_init 29 = .ok (.iconst 3, 1) := by decide +kernel
theorem d_M_init_30 : decode b_M_init 30 = .ok (.newarray .int, 2) := by decide +kernel
theorem d_M_init_32 : decode b_M_init 32 = .ok (.dup, 1) := by decide +kernel
theorem d_M_init_33 : decode b_M_init 33 = .ok (.iconst 0, 1) := by decide +kernel
theorem d_M_init_34 : decode b_M_init 34 = .ok (.sipush 627, 3) := by decide +kernel
theorem d_M_init_37 : decode b_M_init 37 = .ok (.iastore, 1) := by decide +kernel
theorem d_M_init_38 : decode b_M_init 38 = .ok (.dup, 1) := by decide +kernel
theorem d_M_init_39 : decode b_M_init 39 = .ok (.iconst 1, 1) := by decide +kernel
theorem d_M_init_40 : decode b_M_init 40 = .ok (.sipush 1170, 3) := by decide +kernel
theorem d_M_init_43 : decode b_M_init 43 = .ok (.iastore, 1) := by decide +kernel
theorem d_M_init_44 : decode b_M_init 44 = .ok (.dup, 1) := by decide +kernel
theorem d_M_init_45 : decode b_M_init 45 = .ok (.iconst 2, 1) := by decide +kernel
theorem d_M_init_46 : decode b_M_init 46 = .ok (.sipush 1786, 3) := by decide +kernel
theorem d_M_init_49 : decode b_M_init 49 = .ok (.iastore, 1) := by decide +kernel
theorem d_M_init_50 : decode b_M_init 50 = .ok (.putfield 21, 3) := by decide +kernel
theorem d_M_init_53 : decode b_M_init 53 = .ok (.aload_n 0, 1) := by decide +kernel
theorem d_M_init_54 : decode b_M_init 54 = .ok (.bipush 9, 2) := by decide +kernel
theorem d_M_init_56 : decode b_M_init 56 = .ok (.newarray .int, 2) := by decide +kernel
theorem d_M_init_58 : decode b_M_init 58 = .ok (.dup, 1) := by decide +kernel
theorem d_M_init_59 : decode b_M_init 59 = .ok (.iconst 0, 1) := by decide +kernel
theorem d_M_init_60 : decode b_M_init 60 = .ok (.iconst 0, 1) := by decide +kernel
theorem d_M_init_61 : decode b_M_init 61 = .ok (.iastore, 1) := by decide +kernel
theorem d_M_init_62 : decode b_M_init 62 = .ok (.dup, 1) := by decide +kernel
theorem d_M_init_63 : decode b_M_init 63 = .ok (.iconst 1, 1) := by decide +kernel
theorem d_M_init_64 : decode b_M_init 64 = .ok (.iconst 0, 1) := by decide +kernel
theorem d_M_init_65 : decode b_M_init 65 = .ok (.iastore, 1) := by decide +kernel
theorem d_M_init_66 : decode b_M_init 66 = .ok (.dup, 1) := by decide +kernel
theorem d_M_init_67 : decode b_M_init 67 = .ok (.iconst 2, 1) := by decide +kernel
theorem d_M_init_68 : decode b_M_init 68 = .ok (.sipush 1000, 3) := by decide +kernel
theorem d_M_init_71 : decode b_M_init 71 = .ok (.iastore, 1) := by decide +kernel
theorem d_M_init_72 : decode b_M_init 72 = .ok (.dup, 1) := by decide +kernel
theorem d_M_init_73 : decode b_M_init 73 = .ok (.iconst 3, 1) := by decide +kernel
theorem d_M_init_74 : decode b_M_init 74 = .ok (.sipush 866, 3) := by decide +kernel
theorem d_M_init_77 : decode b_M_init 77 = .ok (.iastore, 1) := by decide +kernel
theorem d_M_init_78 : decode b_M_init 78 = .ok (.dup, 1) := by decide +kernel
theorem d_M_init_79 : decode b_M_init 79 = .ok (.iconst 4, 1) := by decide +kernel
theorem d_M_init_80 : decode b_M_init 80 = .ok (.sipush 707, 3) := by decide +kernel
theorem d_M_init_83 : decode b_M_init 83 = .ok (.iastore, 1) := by decide +kernel
theorem d_M_init_84 : decode b_M_init 84 = .ok (.dup, 1) := by decide +kernel
theorem d_M_init_85 : decode b_M_init 85 = .ok (.iconst 5, 1) := by decide +kernel
theorem d_M_init_86 : decode b_M_init 86 = .ok (.sipush 587, 3) := by decide +kernel
theorem d_M_init_89 : decode b_M_init 89 = .ok (.iastore, 1) := by decide +kernel
theorem d_M_init_90 : decode b_M_init 90 = .ok (.dup, 1) := by decide +kernel
theorem d_M_init_91 : decode b_M_init 91 = .ok (.bipush 6, 2) := by decide +kernel
theorem d_M_init_93 : decode b_M_init 93 = .ok (.sipush 500, 3) := by decide +kernel
theorem d_M_init_96 : decode b_M_init 96 = .ok (.iastore, 1) := by decide +kernel
theorem d_M_init_97 : decode b_M_init 97 = .ok (.dup, 1) := by decide +kernel
theorem d_M_init_98 : decode b_M_init 98 = .ok (.bipush 7, 2) := by decide +kernel
theorem d_M_init_100 : decode b_M_init 100 = .ok (.sipush 433, 3) := by decide +kernel
theorem d_M_init_103 : decode b_M_init 103 = .ok (.iastore, 1) := by decide +kernel
theorem d_M_init_104 : decode b_M_init 104 = .ok (.dup, 1) := by decide +kernel
theorem d_M_init_105 : decode b_M_init 105 = .ok (.bipush 8, 2) := by decide +kernel
theorem d_M_init_107 : decode b_M_init 107 = .ok (.sipush 382, 3) := by decide +kernel
theorem d_M_init_110 : decode b_M_init 110 = .ok (.iastore, 1) := by decide +kernel
theorem d_M_init_111 : decode b_M_init 111 = .ok (.putfield 24, 3) := by decide +kernel
theorem d_M_init_114 : decode b_M_init 114 = .ok (.aload_n 0, 1) := by decide +kernel
theorem d_M_init_115 : decode b_M_init 115 = .ok (.bipush 80, 2) := by decide +kernel
theorem d_M_init_117 : decode b_M_init 117 = .ok (.newarray .int, 2) := by decide +kernel
theorem d_M_init_119 : decode b_M_init 119 = .ok (.putfield 27, 3) := by decide +kernel
theorem d_M_init_122 : decode b_M_init 122 = .ok (.aload_n 0, 1) := by decide +kernel
theorem d_M_init_123 : decode b_M_init 123 = .ok (.bipush 41, 2) := by decide +kernel
theorem d_M_init_125 : decode b_M_init 125 = .ok (.newarray .int, 2) := by decide +kernel
theorem d_M_init_127 : decode b_M_init 127 = .ok (.putfield 30, 3) := by decide +kernel
theorem d_M_init_130 : decode b_M_init 130 = .ok (.aload_n 0, 1) := by decide +kernel
theorem d_M_init_131 : decode b_M_init 131 = .ok (.bipush 41, 2) := by decide +kernel
theorem d_M_init_133 : decode b_M_init 133 = .ok (.newarray .int, 2) := by decide +kernel
theorem d_M_init_135 : decode b_M_init 135 = .ok (.putfield 33, 3) := by decide +kernel
theorem d_M_init_138 : decode b_M_init 138 = .ok (.aload_n 0, 1) := by decide +kernel
theorem d_M_init_139 : decode b_M_init 139 = .ok (.bipush 41, 2) := by decide +kernel
theorem d_M_init_141 : decode b_M_init 141 = .ok (.newarray .int, 2) := by decide +kernel
theorem d_M_init_143 : decode b_M_init 143 = .ok (.putfield 36, 3) := by decide +kernel
theorem d_M_init_146 : decode b_M_init 146 = .ok (.aload_n 0, 1) := by decide +kernel
theorem d_M_init_147 : decode b_M_init 147 = .ok (.iconst 3, 1) := by decide +kernel
theorem d_M_init_148 : decode b_M_init 148 = .ok (.newarray .int, 2) := by decide +kernel
theorem d_M_init_150 : decode b_M_init 150 = .ok (.dup, 1) := by decide +kernel
theorem d_M_init_151 : decode b_M_init 151 = .ok (.iconst 0, 1) := by decide +kernel
theorem d_M_init_152 : decode b_M_init 152 = .ok (.iconst (-1), 1) := by decide +kernel
theorem d_M_init_153 : decode b_M_init 153 = .ok (.iastore, 1) := by decide +kernel
theorem d_M_init_154 : decode b_M_init 154 = .ok (.dup, 1) := by decide +kernel
theorem d_M_init_155 : decode b_M_init 155 = .ok (.iconst 1, 1) := by decide +kernel
theorem d_M_init_156 : decode b_M_init 156 = .ok (.iconst (-1), 1) := by decide +kernel
theorem d_M_init_157 : decode b_M_init 157 = .ok (.iastore, 1) := by decide +kernel
theorem d_M_init_158 : decode b_M_init 158 = .ok (.dup, 1) := by decide +kernel
theorem d_M_init_159 : decode b_M_init 159 = .ok (.iconst 2, 1) := by decide +kernel
theorem d_M_init_160 : decode b_M_init 160 = .ok (.iconst (-1), 1) := by decide +kernel
theorem d_M_init_161 : decode b_M_init 161 = .ok (.iastore, 1) := by decide +kernel
theorem d_M_init_162 : decode b_M_init 162 = .ok (.putfield 39, 3) := by decide +kernel
theorem d_M_init_165 : decode b_M_init 165 = .ok (.aload_n 0, 1) := by decide +kernel
theorem d_M_init_166 : decode b_M_init 166 = .ok (.bipush 60, 2) := by decide +kernel
theorem d_M_init_168 : decode b_M_init 168 = .ok (.newarray .long, 2) := by decide +kernel
theorem d_M_init_170 : decode b_M_init 170 = .ok (.putfield 42, 3) := by decide +kernel
theorem d_M_init_173 : decode b_M_init 173 = .ok (.aload_n 0, 1) := by decide +kernel
theorem d_M_init_174 : decode b_M_init 174 = .ok (.getfield 11, 3) := by decide +kernel
theorem d_M_init_177 : decode b_M_init 177 = .ok (.bipush 33, 2) := by decide +kernel
theorem d_M_init_179 : decode b_M_init 179 = .ok (.iconst 1, 1) := by decide +kernel
theorem d_M_init_180 : decode b_M_init 180 = .ok (.iastore, 1) := by decide +kernel
theorem d_M_init_181 : decode b_M_init 181 = .ok (.return_, 1) := by decide +kernel
theorem d_M_in_0 : decode b_M_in 0 = .ok (.lload_n 0, 1) := by decide +kernel
theorem d_M_in_1 : decode b_M_in 1 = .ok (.lload_n 2, 1) := by decide +kernel
theorem d_M_in_2 : decode b_M_in 2 = .ok (.lcmp, 1) := by decide +kernel
theorem d_M_in_3 : decode b_M_in 3 = .ok (.ifCond .lt 14, 3) := by decide +kernel
theorem d_M_in_6 : decode b_M_in 6 = .ok (.lload_n 0, 1) := by decide +kernel
theorem d_M_in_7 : decode b_M_in 7 = .ok (.lload 4, 2) := by decide +kernel
theorem d_M_in_9 : decode b_M_in 9 = .ok (.lcmp, 1) := by decide +kernel
theorem d_M_in_10 : decode b_M_in 10 = .ok (.ifCond .gt 7, 3) := by decide +kernel
theorem d_M_in_13 : decode b_M_in 13 = .ok (.iconst 1, 1) := by decide +kernel
theorem d_M_in_14 : decode b_M_in 14 = .ok (.goto 4, 3) := by decide +kernel
theorem d_M_in_17 : decode b_M_in 17 = .ok (.iconst 0, 1) := by decide +kernel
theorem d_M_in_18 : decode b_M_in 18 = .ok (.ireturn, 1) := by decide +kernel
theorem d_M_copies_0 : decode b_M_copies 0 = .ok (.iconst 0, 1) := by decide +kernel
theorem d_M_copies_1 : decode b_M_copies 1 = .ok (.istore_n 2, 1) := by decide +kernel
theorem d_M_copies_2 : decode b_M_copies 2 = .ok (.iload_n 2, 1) := by decide +kernel
theorem d_M_copies_3 : decode b_M_copies 3 = .ok (.bipush 53, 2) := by decide +kernel
theorem d_M_copies_5 : decode b_M_copies 5 = .ok (.if_icmp .ge 15, 3) := by decide +kernel
theorem d_M_copies_8 : decode b_M_copies 8 = .ok (.aload_n 1, 1) := by decide +kernel
theorem d_M_copies_9 : decode b_M_copies 9 = .ok (.iload_n 2, 1) := by decide +kernel
theorem d_M_copies_10 : decode b_M_copies 10 = .ok (.aload_n 0, 1) := by decide +kernel
theorem d_M_copies_11 : decode b_M_copies 11 = .ok (.iload_n 2, 1) := by decide +kernel
theorem d_M_copies_12 : decode b_M_copies 12 = .ok (.iaload, 1) := by decide +kernel
theorem d_M_copies_13 : decode b_M_copies 13 = .ok (.iastore, 1) := by decide +kernel
theorem d_M_copies_14 : decode b_M_copies 14 = .ok (.iinc 2 1, 3) := by decide +kernel
theorem d_M_copies_17 : decode b_M_copies 17 = .ok (.goto (-15), 3) := by decide +kernel
theorem d_M_copies_20 : decode b_M_copies 20 = .ok (.return_, 1) := by decide +kernel
theorem d_M_isWheel_0 : decode b_M_isWheel 0 = .ok (.iload_n 1, 1) := by decide +kernel
theorem d_M_isWheel_1 : decode b_M_isWheel 1 = .ok (.i2l, 1) := by decide +kernel
theorem d_M_isWheel_2 : decode b_M_isWheel 2 = .ok (.lconst 0, 1) := by decide +kernel
theorem d_M_isWheel_3 : decode b_M_isWheel 3 = .ok (.aload_n 0, 1) := by decide +kernel
theorem d_M_isWheel_4 : decode b_M_isWheel 4 = .ok (.getfield 11, 3) := by decide +kernel
theorem d_M_isWheel_7 : decode b_M_isWheel 7 = .ok (.iconst 0, 1) := by decide +kernel
theorem d_M_isWheel_8 : decode b_M_isWheel 8 = .ok (.iaload, 1) := by decide +kernel
theorem d_M_isWheel_9 : decode b_M_isWheel 9 = .ok (.iconst 1, 1) := by decide +kernel
theorem d_M_isWheel_10 : decode b_M_isWheel 10 = .ok (.isub, 1) := by decide +kernel
theorem d_M_isWheel_11 : decode b_M_isWheel 11 = .ok (.i2l, 1) := by decide +kernel
theorem d_M_isWheel_12 : decode b_M_isWheel 12 = .ok (.invokestatic 46, 3) := by decide +kernel
theorem d_M_isWheel_15 : decode b_M_isWheel 15 = .ok (.ireturn, 1) := by decide +kernel
theorem d_M_teeth_0 : decode b_M_teeth 0 = .ok (.aload_n 0, 1) := by decide +kernel
theorem d_M_teeth_1 : decode b_M_teeth 1 = .ok (.getfield 11, 3) := by decide +kernel
theorem d_M_teeth_4 : decode b_M_teeth 4 = .ok (.iconst 1, 1) := by decide +kernel
theorem d_M_teeth_5 : decode b_M_teeth 5 = .ok (.iload_n 1, 1) := by decide +kernel
theorem d_M_teeth_6 : decode b_M_teeth 6 = .ok (.iadd, 1) := by decide +kernel
theorem d_M_teeth_7 : decode b_M_teeth 7 = .ok (.iaload, 1) := by decide +kernel
theorem d_M_teeth_8 : decode b_M_teeth 8 = .ok (.ireturn, 1) := by decide +kernel
theorem d_M_isRing_0 : decode b_M_isRing 0 = .ok (.aload_n 0, 1) := by decide +kernel
theorem d_M_isRing_1 : decode b_M_isRing 1 = .ok (.iload_n 1, 1) := by decide +kernel
theorem d_M_isRing_2 : decode b_M_isRing 2 = .ok (.invokevirtual 50, 3) := by decide +kernel
theorem d_M_isRing_5 : decode b_M_isRing 5 = .ok (.ifCond .ge 7, 3) := by decide +kernel
theorem d_M_isRing_8 : decode b_M_isRing 8 = .ok (.iconst 1, 1) := by decide +kernel
theorem d_M_isRing_9 : decode b_M_isRing 9 = .ok (.goto 4, 3) := by decide +kernel
theorem d_M_isRing_12 : decode b_M_isRing 12 = .ok (.iconst 0, 1) := by decide +kernel
theorem d_M_isRing_13 : decode b_M_isRing 13 = .ok (.ireturn, 1) := by decide +kernel
theorem d_M_size_0 : decode b_M_size 0 = .ok (.aload_n 0, 1) := by decide +kernel
theorem d_M_size_1 : decode b_M_size 1 = .ok (.iload_n 1, 1) := by decide +kernel
theorem d_M_size_2 : decode b_M_size 2 = .ok (.invokevirtual 54, 3) := by decide +kernel
theorem d_M_size_5 : decode b_M_size 5 = .ok (.ifCond .eq 12, 3) := by decide +kernel
theorem d_M_size_8 : decode b_M_size 8 = .ok (.aload_n 0, 1) := by decide +kernel
theorem d_M_size_9 : decode b_M_size 9 = .ok (.iload_n 1, 1) := by decide +kernel
theorem d_M_size_10 : decode b_M_size 10 = .ok (.invokevirtual 50, 3) := by decide +kernel
theorem d_M_size_13 : decode b_M_size 13 = .ok (.ineg, 1) := by decide +kernel
theorem d_M_size_14 : decode b_M_size 14 = .ok (.goto 8, 3) := by decide +kernel
theorem d_M_size_17 : decode b_M_size 17 = .ok (.aload_n 0, 1) := by decide +kernel
theorem d_M_size_18 : decode b_M_size 18 = .ok (.iload_n 1, 1) := by decide +kernel
theorem d_M_size_19 : decode b_M_size 19 = .ok (.invokevirtual 50, 3) := by decide +kernel
theorem d_M_size_22 : decode b_M_size 22 = .ok (.ireturn, 1) := by decide +kernel
theorem d_M_becomes_0 : decode b_M_becomes 0 = .ok (.aload_n 0, 1) := by decide +kernel
theorem d_M_becomes_1 : decode b_M_becomes 1 = .ok (.getfield 11, 3) := by decide +kernel
theorem d_M_becomes_4 : decode b_M_becomes 4 = .ok (.iload_n 1, 1) := by decide +kernel
theorem d_M_becomes_5 : decode b_M_becomes 5 = .ok (.iaload, 1) := by decide +kernel
theorem d_M_becomes_6 : decode b_M_becomes 6 = .ok (.istore_n 3, 1) := by decide +kernel
theorem d_M_becomes_7 : decode b_M_becomes 7 = .ok (.aload_n 0, 1) := by decide +kernel
theorem d_M_becomes_8 : decode b_M_becomes 8 = .ok (.getfield 11, 3) := by decide +kernel
theorem d_M_becomes_11 : decode b_M_becomes 11 = .ok (.iload_n 1, 1) := by decide +kernel
theorem d_M_becomes_12 : decode b_M_becomes 12 = .ok (.iload_n 2, 1) := by decide +kernel
theorem d_M_becomes_13 : decode b_M_becomes 13 = .ok (.iastore, 1) := by decide +kernel
theorem d_M_becomes_14 : decode b_M_becomes 14 = .ok (.iload_n 3, 1) := by decide +kernel
theorem d_M_becomes_15 : decode b_M_becomes 15 = .ok (.ireturn, 1) := by decide +kernel
theorem d_M_wheel_0 : decode b_M_wheel 0 = .ok (.iload_n 1, 1) := by decide +kernel
theorem d_M_wheel_1 : decode b_M_wheel 1 = .ok (.i2l, 1) := by decide +kernel
theorem d_M_wheel_2 : decode b_M_wheel 2 = .ok (.ldc2_w 58, 3) := by decide +kernel
theorem d_M_wheel_5 : decode b_M_wheel 5 = .ok (.ldc2_w 60, 3) := by decide +kernel
theorem d_M_wheel_8 : decode b_M_wheel 8 = .ok (.invokestatic 46, 3) := by decide +kernel
theorem d_M_wheel_11 : decode b_M_wheel 11 = .ok (.ifCond .ne 19, 3) := by decide +kernel
theorem d_M_wheel_14 : decode b_M_wheel 14 = .ok (.iload_n 1, 1) := by decide +kernel
theorem d_M_wheel_15 : decode b_M_wheel 15 = .ok (.i2l, 1) := by decide +kernel
theorem d_M_wheel_16 : decode b_M_wheel 16 = .ok (.ldc2_w 62, 3) := by decide +kernel
theorem d_M_wheel_19 : decode b_M_wheel 19 = .ok (.ldc2_w 64, 3) := by decide +kernel
theorem d_M_wheel_22 : decode b_M_wheel 22 = .ok (.invokestatic 46, 3) := by decide +kernel
theorem d_M_wheel_25 : decode b_M_wheel 25 = .ok (.ifCond .ne 5, 3) := by decide +kernel
theorem d_M_wheel_28 : decode b_M_wheel 28 = .ok (.iconst (-1), 1) := by decide +kernel
theorem d_M_wheel_29 : decode b_M_wheel 29 = .ok (.ireturn, 1) := by decide +kernel
theorem d_M_wheel_30 : decode b_M_wheel 30 = .ok (.aload_n 0, 1) := by decide +kernel
theorem d_M_wheel_31 : decode b_M_wheel 31 = .ok (.getfield 11, 3) := by decide +kernel
theorem d_M_wheel_34 : decode b_M_wheel 34 = .ok (.iconst 0, 1) := by decide +kernel
theorem d_M_wheel_35 : decode b_M_wheel 35 = .ok (.iaload, 1) := by decide +kernel
theorem d_M_wheel_36 : decode b_M_wheel 36 = .ok (.istore_n 2, 1) := by decide +kernel
theorem d_M_wheel_37 : decode b_M_wheel 37 = .ok (.iload_n 2, 1) := by decide +kernel
theorem d_M_wheel_38 : decode b_M_wheel 38 = .ok (.bipush 16, 2) := by decide +kernel
theorem d_M_wheel_40 : decode b_M_wheel 40 = .ok (.if_icmp .ne 6, 3) := by decide +kernel
theorem d_M_wheel_43 : decode b_M_wheel 43 = .ok (.bipush (-3), 2) := by decide +kernel
theorem d_M_wheel_45 : decode b_M_wheel 45 = .ok (.ireturn, 1) := by decide +kernel
theorem d_M_wheel_46 : decode b_M_wheel 46 = .ok (.aload_n 0, 1) := by decide +kernel
theorem d_M_wheel_47 : decode b_M_wheel 47 = .ok (.getfield 11, 3) := by decide +kernel
theorem d_M_wheel_50 : decode b_M_wheel 50 = .ok (.iconst 1, 1) := by decide +kernel
theorem d_M_wheel_51 : decode b_M_wheel 51 = .ok (.iload_n 2, 1) := by decide +kernel
theorem d_M_wheel_52 : decode b_M_wheel 52 = .ok (.iadd, 1) := by decide +kernel
theorem d_M_wheel_53 : decode b_M_wheel 53 = .ok (.iload_n 1, 1) := by decide +kernel
theorem d_M_wheel_54 : decode b_M_wheel 54 = .ok (.iastore, 1) := by decide +kernel
theorem d_M_wheel_55 : decode b_M_wheel 55 = .ok (.aload_n 0, 1) := by decide +kernel
theorem d_M_wheel_56 : decode b_M_wheel 56 = .ok (.getfield 11, 3) := by decide +kernel
theorem d_M_wheel_59 : decode b_M_wheel 59 = .ok (.bipush 17, 2) := by decide +kernel
theorem d_M_wheel_61 : decode b_M_wheel 61 = .ok (.iload_n 2, 1) := by decide +kernel
theorem d_M_wheel_62 : decode b_M_wheel 62 = .ok (.iadd, 1) := by decide +kernel
theorem d_M_wheel_63 : decode b_M_wheel 63 = .ok (.iconst 0, 1) := by decide +kernel
theorem d_M_wheel_64 : decode b_M_wheel 64 = .ok (.iastore, 1) := by decide +kernel
theorem d_M_wheel_65 : decode b_M_wheel 65 = .ok (.aload_n 0, 1) := by decide +kernel
theorem d_M_wheel_66 : decode b_M_wheel 66 = .ok (.getfield 11, 3) := by decide +kernel
theorem d_M_wheel_69 : decode b_M_wheel 69 = .ok (.iconst 0, 1) := by decide +kernel
theorem d_M_wheel_70 : decode b_M_wheel 70 = .ok (.dup2, 1) := by decide +kernel
theorem d_M_wheel_71 : decode b_M_wheel 71 = .ok (.iaload, 1) := by decide +kernel
theorem d_M_wheel_72 : decode b_M_wheel 72 = .ok (.iconst 1, 1) := by decide +kernel
theorem d_M_wheel_73 : decode b_M_wheel 73 = .ok (.iadd, 1) := by decide +kernel
theorem d_M_wheel_74 : decode b_M_wheel 74 = .ok (.iastore, 1) := by decide +kernel
theorem d_M_wheel_75 : decode b_M_wheel 75 = .ok (.iload_n 2, 1) := by decide +kernel
theorem d_M_wheel_76 : decode b_M_wheel 76 = .ok (.ireturn, 1) := by decide +kernel
theorem d_M_shift_0 : decode b_M_shift 0 = .ok (.aload_n 0, 1) := by decide +kernel
theorem d_M_shift_1 : decode b_M_shift 1 = .ok (.iload_n 1, 1) := by decide +kernel
theorem d_M_shift_2 : decode b_M_shift 2 = .ok (.invokevirtual 66, 3) := by decide +kernel
theorem d_M_shift_5 : decode b_M_shift 5 = .ok (.ifCond .eq 29, 3) := by decide +kernel
theorem d_M_shift_8 : decode b_M_shift 8 = .ok (.iload_n 2, 1) := by decide +kernel
theorem d_M_shift_9 : decode b_M_shift 9 = .ok (.i2l, 1) := by decide +kernel
theorem d_M_shift_10 : decode b_M_shift 10 = .ok (.ldc2_w 69, 3) := by decide +kernel
theorem d_M_shift_13 : decode b_M_shift 13 = .ok (.ldc2_w 71, 3) := by decide +kernel
theorem d_M_shift_16 : decode b_M_shift 16 = .ok (.invokestatic 46, 3) := by decide +kernel
theorem d_M_shift_19 : decode b_M_shift 19 = .ok (.ifCond .eq 15, 3) := by decide +kernel
theorem d_M_shift_22 : decode b_M_shift 22 = .ok (.aload_n 0, 1) := by decide +kernel
theorem d_M_shift_23 : decode b_M_shift 23 = .ok (.bipush 17, 2) := by decide +kernel
theorem d_M_shift_25 : decode b_M_shift 25 = .ok (.iload_n 1, 1) := by decide +kernel
theorem d_M_shift_26 : decode b_M_shift 26 = .ok (.iadd, 1) := by decide +kernel
theorem d_M_shift_27 : decode b_M_shift 27 = .ok (.iload_n 2, 1) := by decide +kernel
theorem d_M_shift_28 : decode b_M_shift 28 = .ok (.invokevirtual 73, 3) := by decide +kernel
theorem d_M_shift_31 : decode b_M_shift 31 = .ok (.goto 6, 3) := by decide +kernel
theorem d_M_shift_34 : decode b_M_shift 34 = .ok (.sipush (-1000), 3) := by decide +kernel
theorem d_M_shift_37 : decode b_M_shift 37 = .ok (.ireturn, 1) := by decide +kernel
theorem d_M_pressure_0 : decode b_M_pressure 0 = .ok (.iload_n 1, 1) := by decide +kernel
theorem d_M_pressure_1 : decode b_M_pressure 1 = .ok (.i2l, 1) := by decide +kernel
theorem d_M_pressure_2 : decode b_M_pressure 2 = .ok (.lconst 0, 1) := by decide +kernel
theorem d_M_pressure_3 : decode b_M_pressure 3 = .ok (.ldc2_w 77, 3) := by decide +kernel
theorem d_M_pressure_6 : decode b_M_pressure 6 = .ok (.invokestatic 46, 3) := by decide +kernel
theorem d_M_pressure_9 : decode b_M_pressure 9 = .ok (.ifCond .eq 13, 3) := by decide +kernel
theorem d_M_pressure_12 : decode b_M_pressure 12 = .ok (.aload_n 0, 1) := by decide +kernel
theorem d_M_pressure_13 : decode b_M_pressure 13 = .ok (.bipush 33, 2) := by decide +kernel
theorem d_M_pressure_15 : decode b_M_pressure 15 = .ok (.iload_n 1, 1) := by decide +kernel
theorem d_M_pressure_16 : decode b_M_pressure 16 = .ok (.invokevirtual 73, 3) := by decide +kernel
theorem d_M_pressure_19 : decode b_M_pressure 19 = .ok (.goto 4, 3) := by decide +kernel
theorem d_M_pressure_22 : decode b_M_pressure 22 = .ok (.iconst (-1), 1) := by decide +kernel
theorem d_M_pressure_23 : decode b_M_pressure 23 = .ok (.ireturn, 1) := by decide +kernel
theorem d_M_square_0 : decode b_M_square 0 = .ok (.aload_n 0, 1) := by decide +kernel
theorem d_M_square_1 : decode b_M_square 1 = .ok (.getfield 21, 3) := by decide +kernel
theorem d_M_square_4 : decode b_M_square 4 = .ok (.aload_n 0, 1) := by decide +kernel
theorem d_M_square_5 : decode b_M_square 5 = .ok (.getfield 11, 3) := by decide +kernel
theorem d_M_square_8 : decode b_M_square 8 = .ok (.bipush 33, 2) := by decide +kernel
theorem d_M_square_10 : decode b_M_square 10 = .ok (.iaload, 1) := by decide +kernel
theorem d_M_square_11 : decode b_M_square 11 = .ok (.iaload, 1) := by decide +kernel
theorem d_M_square_12 : decode b_M_square 12 = .ok (.ireturn, 1) := by decide +kernel
theorem d_M_isCut_0 : decode b_M_isCut 0 = .ok (.iload_n 1, 1) := by decide +kernel
theorem d_M_isCut_1 : decode b_M_isCut 1 = .ok (.aload_n 0, 1) := by decide +kernel
theorem d_M_isCut_2 : decode b_M_isCut 2 = .ok (.invokevirtual 79, 3) := by decide +kernel
theorem d_M_isCut_5 : decode b_M_isCut 5 = .ok (.imul, 1) := by decide +kernel
theorem d_M_isCut_6 : decode b_M_isCut 6 = .ok (.sipush 200, 3) := by decide +kernel
theorem d_M_isCut_9 : decode b_M_isCut 9 = .ok (.bipush 100, 2) := by decide +kernel
theorem d_M_isCut_11 : decode b_M_isCut 11 = .ok (.iload_n 2, 1) := by decide +kernel
theorem d_M_isCut_12 : decode b_M_isCut 12 = .ok (.isub, 1) := by decide +kernel
theorem d_M_isCut_13 : decode b_M_isCut 13 = .ok (.imul, 1) := by decide +kernel
theorem d_M_isCut_14 : decode b_M_isCut 14 = .ok (.if_icmp .ge 7, 3) := by decide +kernel
theorem d_M_isCut_17 : decode b_M_isCut 17 = .ok (.iconst 1, 1) := by decide +kernel
theorem d_M_isCut_18 : decode b_M_isCut 18 = .ok (.goto 4, 3) := by decide +kernel
theorem d_M_isCut_21 : decode b_M_isCut 21 = .ok (.iconst 0, 1) := by decide +kernel
theorem d_M_isCut_22 : decode b_M_isCut 22 = .ok (.ireturn, 1) := by decide +kernel
theorem d_M_isUndercut_0 : decode b_M_isUndercut 0 = .ok (.aload_n 0, 1) := by decide +kernel
theorem d_M_isUndercut_1 : decode b_M_isUndercut 1 = .ok (.iload_n 1, 1) := by decide +kernel
theorem d_M_isUndercut_2 : decode b_M_isUndercut 2 = .ok (.invokevirtual 54, 3) := by decide +kernel
theorem d_M_isUndercut_5 : decode b_M_isUndercut 5 = .ok (.ifCond .ne 28, 3) := by decide +kernel
theorem d_M_isUndercut_8 : decode b_M_isUndercut 8 = .ok (.aload_n 0, 1) := by decide +kernel
theorem d_M_isUndercut_9 : decode b_M_isUndercut 9 = .ok (.aload_n 0, 1) := by decide +kernel
theorem d_M_isUndercut_10 : decode b_M_isUndercut 10 = .ok (.iload_n 1, 1) := by decide +kernel
theorem d_M_isUndercut_11 : decode b_M_isUndercut 11 = .ok (.invokevirtual 50, 3) := by decide +kernel
theorem d_M_isUndercut_14 : decode b_M_isUndercut 14 = .ok (.aload_n 0, 1) := by decide +kernel
theorem d_M_isUndercut_15 : decode b_M_isUndercut 15 = .ok (.getfield 11, 3) := by decide +kernel
theorem d_M_isUndercut_18 : decode b_M_isUndercut 18 = .ok (.bipush 17, 2) := by decide +kernel
theorem d_M_isUndercut_20 : decode b_M_isUndercut 20 = .ok (.iload_n 1, 1) := by decide +kernel
theorem d_M_isUndercut_21 : decode b_M_isUndercut 21 = .ok (.iadd, 1) := by decide +kernel
theorem d_M_isUndercut_22 : decode b_M_isUndercut 22 = .ok (.iaload, 1) := by decide +kernel
theorem d_M_isUndercut_23 : decode b_M_isUndercut 23 = .ok (.invokevirtual 83, 3) := by decide +kernel
theorem d_M_isUndercut_26 : decode b_M_isUndercut 26 = .ok (.ifCond .eq 7, 3) := by decide +kernel
theorem d_M_isUndercut_29 : decode b_M_isUndercut 29 = .ok (.iconst 1, 1) := by decide +kernel
theorem d_M_isUndercut_30 : decode b_M_isUndercut 30 = .ok (.goto 4, 3) := by decide +kernel
theorem d_M_isUndercut_33 : decode b_M_isUndercut 33 = .ok (.iconst 0, 1) := by decide +kernel
theorem d_M_isUndercut_34 : decode b_M_isUndercut 34 = .ok (.ireturn, 1) := by decide +kernel
theorem d_M_isPointed_0 : decode b_M_isPointed 0 = .ok (.aload_n 0, 1) := by decide +kernel
theorem d_M_isPointed_1 : decode b_M_isPointed 1 = .ok (.iload_n 1, 1) := by decide +kernel
theorem d_M_isPointed_2 : decode b_M_isPointed 2 = .ok (.invokevirtual 54, 3) := by decide +kernel
theorem d_M_isPointed_5 : decode b_M_isPointed 5 = .ok (.ifCond .ne 29, 3) := by decide +kernel
theorem d_M_isPointed_8 : decode b_M_isPointed 8 = .ok (.aload_n 0, 1) := by decide +kernel
theorem d_M_isPointed_9 : decode b_M_isPointed 9 = .ok (.getfield 11, 3) := by decide +kernel
theorem d_M_isPointed_12 : decode b_M_isPointed 12 = .ok (.bipush 17, 2) := by decide +kernel
theorem d_M_isPointed_14 : decode b_M_isPointed 14 = .ok (.iload_n 1, 1) := by decide +kernel
theorem d_M_isPointed_15 : decode b_M_isPointed 15 = .ok (.iadd, 1) := by decide +kernel
theorem d_M_isPointed_16 : decode b_M_isPointed 16 = .ok (.iaload, 1) := by decide +kernel
theorem d_M_isPointed_17 : decode b_M_isPointed 17 = .ok (.iconst 5, 1) := by decide +kernel
theorem d_M_isPointed_18 : decode b_M_isPointed 18 = .ok (.aload_n 0, 1) := by decide +kernel
theorem d_M_isPointed_19 : decode b_M_isPointed 19 = .ok (.iload_n 1, 1) := by decide +kernel
theorem d_M_isPointed_20 : decode b_M_isPointed 20 = .ok (.invokevirtual 50, 3) := by decide +kernel
theorem d_M_isPointed_23 : decode b_M_isPointed 23 = .ok (.imul, 1) := by decide +kernel
theorem d_M_isPointed_24 : decode b_M_isPointed 24 = .ok (.bipush 10, 2) := by decide +kernel
theorem d_M_isPointed_26 : decode b_M_isPointed 26 = .ok (.isub, 1) := by decide +kernel
theorem d_M_isPointed_27 : decode b_M_isPointed 27 = .ok (.if_icmp .le 7, 3) := by decide +kernel
theorem d_M_isPointed_30 : decode b_M_isPointed 30 = .ok (.iconst 1, 1) := by decide +kernel
theorem d_M_isPointed_31 : decode b_M_isPointed 31 = .ok (.goto 4, 3) := by decide +kernel
theorem d_M_isPointed_34 : decode b_M_isPointed 34 = .ok (.iconst 0, 1) := by decide +kernel
theorem d_M_isPointed_35 : decode b_M_isPointed 35 = .ok (.ireturn, 1) := by decide +kernel
theorem d_M_leastShift_0 : decode b_M_leastShift 0 = .ok (.aload_n 0, 1) := by decide +kernel
theorem d_M_leastShift_1 : decode b_M_leastShift 1 = .ok (.iload_n 1, 1) := by decide +kernel
theorem d_M_leastShift_2 : decode b_M_leastShift 2 = .ok (.invokevirtual 54, 3) := by decide +kernel
theorem d_M_leastShift_5 : decode b_M_leastShift 5 = .ok (.ifCond .eq 7, 3) := by decide +kernel
theorem d_M_leastShift_8 : decode b_M_leastShift 8 = .ok (.sipush (-1001), 3) := by decide +kernel
theorem d_M_leastShift_11 : decode b_M_leastShift 11 = .ok (.ireturn, 1) := by decide +kernel
theorem d_M_leastShift_12 : decode b_M_leastShift 12 = .ok (.bipush (-50), 2) := by decide +kernel
theorem d_M_leastShift_14 : decode b_M_leastShift 14 = .ok (.istore_n 2, 1) := by decide +kernel
theorem d_M_leastShift_15 : decode b_M_leastShift 15 = .ok (.iload_n 2, 1) := by decide +kernel
theorem d_M_leastShift_16 : decode b_M_leastShift 16 = .ok (.bipush 100, 2) := by decide +kernel
theorem d_M_leastShift_18 : decode b_M_leastShift 18 = .ok (.if_icmp .gt 22, 3) := by decide +kernel
theorem d_M_leastShift_21 : decode b_M_leastShift 21 = .ok (.aload_n 0, 1) := by decide +kernel
theorem d_M_leastShift_22 : decode b_M_leastShift 22 = .ok (.aload_n 0, 1) := by decide +kernel
theorem d_M_leastShift_23 : decode b_M_leastShift 23 = .ok (.iload_n 1, 1) := by decide +kernel
theorem d_M_leastShift_24 : decode b_M_leastShift 24 = .ok (.invokevirtual 50, 3) := by decide +kernel
theorem d_M_leastShift_27 : decode b_M_leastShift 27 = .ok (.iload_n 2, 1) := by decide +kernel
theorem d_M_leastShift_28 : decode b_M_leastShift 28 = .ok (.invokevirtual 83, 3) := by decide +kernel
theorem d_M_leastShift_31 : decode b_M_leastShift 31 = .ok (.ifCond .eq 9, 3) := by decide +kernel
theorem d_M_leastShift_34 : decode b_M_leastShift 34 = .ok (.iinc 2 1, 3) := by decide +kernel
theorem d_M_leastShift_37 : decode b_M_leastShift 37 = .ok (.goto (-22), 3) := by decide +kernel
theorem d_M_leastShift_40 : decode b_M_leastShift 40 = .ok (.iload_n 2, 1) := by decide +kernel
theorem d_M_leastShift_41 : decode b_M_leastShift 41 = .ok (.bipush 100, 2) := by decide +kernel
theorem d_M_leastShift_43 : decode b_M_leastShift 43 = .ok (.if_icmp .le 9, 3) := by decide +kernel
theorem d_M_leastShift_46 : decode b_M_leastShift 46 = .ok (.sipush (-1001), 3) := by decide +kernel
theorem d_M_leastShift_49 : decode b_M_leastShift 49 = .ok (.goto 4, 3) := by decide +kernel
theorem d_M_leastShift_52 : decode b_M_leastShift 52 = .ok (.iload_n 2, 1) := by decide +kernel
theorem d_M_leastShift_53 : decode b_M_leastShift 53 = .ok (.ireturn, 1) := by decide +kernel
theorem d_M_pairsWith_0 : decode b_M_pairsWith 0 = .ok (.iconst 0, 1) := by decide +kernel
theorem d_M_pairsWith_1 : decode b_M_pairsWith 1 = .ok (.istore_n 2, 1) := by decide +kernel
theorem d_M_pairsWith_2 : decode b_M_pairsWith 2 = .ok (.iconst 0, 1) := by decide +kernel
theorem d_M_pairsWith_3 : decode b_M_pairsWith 3 = .ok (.istore_n 3, 1) := by decide +kernel
theorem d_M_pairsWith_4 : decode b_M_pairsWith 4 = .ok (.iload_n 3, 1) := by decide +kernel
theorem d_M_pairsWith_5 : decode b_M_pairsWith 5 = .ok (.aload_n 0, 1) := by decide +kernel
theorem d_M_pairsWith_6 : decode b_M_pairsWith 6 = .ok (.getfield 11, 3) := by decide +kernel
theorem d_M_pairsWith_9 : decode b_M_pairsWith 9 = .ok (.bipush 34, 2) := by decide +kernel
theorem d_M_pairsWith_11 : decode b_M_pairsWith 11 = .ok (.iaload, 1) := by decide +kernel
theorem d_M_pairsWith_12 : decode b_M_pairsWith 12 = .ok (.if_icmp .ge 43, 3) := by decide +kernel
theorem d_M_pairsWith_15 : decode b_M_pairsWith 15 = .ok (.iload_n 2, 1) := by decide +kernel
theorem d_M_pairsWith_16 : decode b_M_pairsWith 16 = .ok (.aload_n 0, 1) := by decide +kernel
theorem d_M_pairsWith_17 : decode b_M_pairsWith 17 = .ok (.getfield 11, 3) := by decide +kernel
theorem d_M_pairsWith_20 : decode b_M_pairsWith 20 = .ok (.bipush 35, 2) := by decide +kernel
theorem d_M_pairsWith_22 : decode b_M_pairsWith 22 = .ok (.iload_n 3, 1) := by decide +kernel
theorem d_M_pairsWith_23 : decode b_M_pairsWith 23 = .ok (.iadd, 1) := by decide +kernel
theorem d_M_pairsWith_24 : decode b_M_pairsWith 24 = .ok (.iaload, 1) := by decide +kernel
theorem d_M_pairsWith_25 : decode b_M_pairsWith 25 = .ok (.iload_n 1, 1) := by decide +kernel
theorem d_M_pairsWith_26 : decode b_M_pairsWith 26 = .ok (.if_icmp .eq 16, 3) := by decide +kernel
theorem d_M_pairsWith_29 : decode b_M_pairsWith 29 = .ok (.aload_n 0, 1) := by decide +kernel
theorem d_M_pairsWith_30 : decode b_M_pairsWith 30 = .ok (.getfield 11, 3) := by decide +kernel
theorem d_M_pairsWith_33 : decode b_M_pairsWith 33 = .ok (.bipush 44, 2) := by decide +kernel
theorem d_M_pairsWith_35 : decode b_M_pairsWith 35 = .ok (.iload_n 3, 1) := by decide +kernel
theorem d_M_pairsWith_36 : decode b_M_pairsWith 36 = .ok (.iadd, 1) := by decide +kernel
theorem d_M_pairsWith_37 : decode b_M_pairsWith 37 = .ok (.iaload, 1) := by decide +kernel
theorem d_M_pairsWith_38 : decode b_M_pairsWith 38 = .ok (.iload_n 1, 1) := by decide +kernel
theorem d_M_pairsWith_39 : decode b_M_pairsWith 39 = .ok (.if_icmp .ne 7, 3) := by decide +kernel
theorem d_M_pairsWith_42 : decode b_M_pairsWith 42 = .ok (.iconst 1, 1) := by decide +kernel
theorem d_M_pairsWith_43 : decode b_M_pairsWith 43 = .ok (.goto 4, 3) := by decide +kernel
theorem d_M_pairsWith_46 : decode b_M_pairsWith 46 = .ok (.iconst 0, 1) := by decide +kernel
theorem d_M_pairsWith_47 : decode b_M_pairsWith 47 = .ok (.iadd, 1) := by decide +kernel
theorem d_M_pairsWith_48 : decode b_M_pairsWith 48 = .ok (.istore_n 2, 1) := by decide +kernel
theorem d_M_pairsWith_49 : decode b_M_pairsWith 49 = .ok (.iinc 3 1, 3) := by decide +kernel
theorem d_M_pairsWith_52 : decode b_M_pairsWith 52 = .ok (.goto (-48), 3) := by decide +kernel
theorem d_M_pairsWith_55 : decode b_M_pairsWith 55 = .ok (.iload_n 2, 1) := by decide +kernel
theorem d_M_pairsWith_56 : decode b_M_pairsWith 56 = .ok (.ireturn, 1) := by decide +kernel
theorem d_M_of_0 : decode b_M_of 0 = .ok (.aload_n 0, 1) := by decide +kernel
theorem d_M_of_1 : decode b_M_of 1 = .ok (.iload_n 1, 1) := by decide +kernel
theorem d_M_of_2 : decode b_M_of 2 = .ok (.invokevirtual 66, 3) := by decide +kernel
theorem d_M_of_5 : decode b_M_of 5 = .ok (.ifCond .ne 7, 3) := by decide +kernel
theorem d_M_of_8 : decode b_M_of 8 = .ok (.sipush (-1000), 3) := by decide +kernel
theorem d_M_of_11 : decode b_M_of 11 = .ok (.ireturn, 1) := by decide +kernel
theorem d_M_of_12 : decode b_M_of 12 = .ok (.iload_n 2, 1) := by decide +kernel
theorem d_M_of_13 : decode b_M_of 13 = .ok (.tableswitch 95 0 5 #[39, 45, 55, 69, 83, 89], 39) := by decide +kernel
theorem d_M_of_52 : decode b_M_of 52 = .ok (.aload_n 0, 1) := by decide +kernel
theorem d_M_of_53 : decode b_M_of 53 = .ok (.iload_n 1, 1) := by decide +kernel
theorem d_M_of_54 : decode b_M_of 54 = .ok (.invokevirtual 50, 3) := by decide +kernel
theorem d_M_of_57 : decode b_M_of 57 = .ok (.ireturn, 1) := by decide +kernel
theorem d_M_of_58 : decode b_M_of 58 = .ok (.aload_n 0, 1) := by decide +kernel
theorem d_M_of_59 : decode b_M_of 59 = .ok (.getfield 11, 3) := by decide +kernel
theorem d_M_of_62 : decode b_M_of 62 = .ok (.bipush 17, 2) := by decide +kernel
theorem d_M_of_64 : decode b_M_of 64 = .ok (.iload_n 1, 1) := by decide +kernel
theorem d_M_of_65 : decode b_M_of 65 = .ok (.iadd, 1) := by decide +kernel
theorem d_M_of_66 : decode b_M_of 66 = .ok (.iaload, 1) := by decide +kernel
theorem d_M_of_67 : decode b_M_of 67 = .ok (.ireturn, 1) := by decide +kernel
theorem d_M_of_68 : decode b_M_of 68 = .ok (.aload_n 0, 1) := by decide +kernel
theorem d_M_of_69 : decode b_M_of 69 = .ok (.iload_n 1, 1) := by decide +kernel
theorem d_M_of_70 : decode b_M_of 70 = .ok (.invokevirtual 87, 3) := by decide +kernel
theorem d_M_of_73 : decode b_M_of 73 = .ok (.ifCond .eq 7, 3) := by decide +kernel
theorem d_M_of_76 : decode b_M_of 76 = .ok (.iconst 1, 1) := by decide +kernel
theorem d_M_of_77 : decode b_M_of 77 = .ok (.goto 4, 3) := by decide +kernel
theorem d_M_of_80 : decode b_M_of 80 = .ok (.iconst 0, 1) := by decide +kernel
theorem d_M_of_81 : decode b_M_of 81 = .ok (.ireturn, 1) := by decide +kernel
theorem d_M_of_82 : decode b_M_of 82 = .ok (.aload_n 0, 1) := by decide +kernel
theorem d_M_of_83 : decode b_M_of 83 = .ok (.iload_n 1, 1) := by decide +kernel
theorem d_M_of_84 : decode b_M_of 84 = .ok (.invokevirtual 90, 3) := by decide +kernel
theorem d_M_of_87 : decode b_M_of 87 = .ok (.ifCond .eq 7, 3) := by decide +kernel
theorem d_M_of_90 : decode b_M_of 90 = .ok (.iconst 1, 1) := by decide +kernel
theorem d_M_of_91 : decode b_M_of 91 = .ok (.goto 4, 3) := by decide +kernel
theorem d_M_of_94 : decode b_M_of 94 = .ok (.iconst 0, 1) := by decide +kernel
theorem d_M_of_95 : decode b_M_of 95 = .ok (.ireturn, 1) := by decide +kernel
theorem d_M_of_96 : decode b_M_of 96 = .ok (.aload_n 0, 1) := by decide +kernel
theorem d_M_of_97 : decode b_M_of 97 = .ok (.iload_n 1, 1) := by decide +kernel
theorem d_M_of_98 : decode b_M_of 98 = .ok (.invokevirtual 93, 3) := by decide +kernel
theorem d_M_of_101 : decode b_M_of 101 = .ok (.ireturn, 1) := by decide +kernel
theorem d_M_of_102 : decode b_M_of 102 = .ok (.aload_n 0, 1) := by decide +kernel
theorem d_M_of_103 : decode b_M_of 103 = .ok (.iload_n 1, 1) := by decide +kernel
theorem d_M_of_104 : decode b_M_of 104 = .ok (.invokevirtual 96, 3) := by decide +kernel
theorem d_M_of_107 : decode b_M_of 107 = .ok (.ireturn, 1) := by decide +kernel
theorem d_M_of_108 : decode b_M_of 108 = .ok (.sipush (-1000), 3) := by decide +kernel
theorem d_M_of_111 : decode b_M_of 111 = .ok (.ireturn, 1) := by decide +kernel
theorem d_M_fewest_0 : decode b_M_fewest 0 = .ok (.iload_n 1, 1) := by decide +kernel
theorem d_M_fewest_1 : decode b_M_fewest 1 = .ok (.i2l, 1) := by decide +kernel
theorem d_M_fewest_2 : decode b_M_fewest 2 = .ok (.ldc2_w 69, 3) := by decide +kernel
theorem d_M_fewest_5 : decode b_M_fewest 5 = .ok (.ldc2_w 71, 3) := by decide +kernel
theorem d_M_fewest_8 : decode b_M_fewest 8 = .ok (.invokestatic 46, 3) := by decide +kernel
theorem d_M_fewest_11 : decode b_M_fewest 11 = .ok (.ifCond .ne 5, 3) := by decide +kernel
theorem d_M_fewest_14 : decode b_M_fewest 14 = .ok (.iconst (-1), 1) := by decide +kernel
theorem d_M_fewest_15 : decode b_M_fewest 15 = .ok (.ireturn, 1) := by decide +kernel
theorem d_M_fewest_16 : decode b_M_fewest 16 = .ok (.iconst 5, 1) := by decide +kernel
theorem d_M_fewest_17 : decode b_M_fewest 17 = .ok (.istore_n 2, 1) := by decide +kernel
theorem d_M_fewest_18 : decode b_M_fewest 18 = .ok (.iload_n 2, 1) := by decide +kernel
theorem d_M_fewest_19 : decode b_M_fewest 19 = .ok (.bipush 100, 2) := by decide +kernel
theorem d_M_fewest_21 : decode b_M_fewest 21 = .ok (.if_icmp .ge 18, 3) := by decide +kernel
theorem d_M_fewest_24 : decode b_M_fewest 24 = .ok (.aload_n 0, 1) := by decide +kernel
theorem d_M_fewest_25 : decode b_M_fewest 25 = .ok (.iload_n 2, 1) := by decide +kernel
theorem d_M_fewest_26 : decode b_M_fewest 26 = .ok (.iload_n 1, 1) := by decide +kernel
theorem d_M_fewest_27 : decode b_M_fewest 27 = .ok (.invokevirtual 83, 3) := by decide +kernel
theorem d_M_fewest_30 : decode b_M_fewest 30 = .ok (.ifCond .eq 9, 3) := by decide +kernel
theorem d_M_fewest_33 : decode b_M_fewest 33 = .ok (.iinc 2 1, 3) := by decide +kernel
theorem d_M_fewest_36 : decode b_M_fewest 36 = .ok (.goto (-18), 3) := by decide +kernel
theorem d_M_fewest_39 : decode b_M_fewest 39 = .ok (.iload_n 2, 1) := by decide +kernel
theorem d_M_fewest_40 : decode b_M_fewest 40 = .ok (.bipush 100, 2) := by decide +kernel
theorem d_M_fewest_42 : decode b_M_fewest 42 = .ok (.if_icmp .ne 8, 3) := by decide +kernel
theorem d_M_fewest_45 : decode b_M_fewest 45 = .ok (.bipush (-2), 2) := by decide +kernel
theorem d_M_fewest_47 : decode b_M_fewest 47 = .ok (.goto 4, 3) := by decide +kernel
theorem d_M_fewest_50 : decode b_M_fewest 50 = .ok (.iload_n 2, 1) := by decide +kernel
theorem d_M_fewest_51 : decode b_M_fewest 51 = .ok (.ireturn, 1) := by decide +kernel
theorem d_M_isFirst_0 : decode b_M_isFirst 0 = .ok (.iconst 1, 1) := by decide +kernel
theorem d_M_isFirst_1 : decode b_M_isFirst 1 = .ok (.istore_n 2, 1) := by decide +kernel
theorem d_M_isFirst_2 : decode b_M_isFirst 2 = .ok (.iconst 0, 1) := by decide +kernel
theorem d_M_isFirst_3 : decode b_M_isFirst 3 = .ok (.istore_n 3, 1) := by decide +kernel
theorem d_M_isFirst_4 : decode b_M_isFirst 4 = .ok (.iload_n 3, 1) := by decide +kernel
theorem d_M_isFirst_5 : decode b_M_isFirst 5 = .ok (.iload_n 1, 1) := by decide +kernel
theorem d_M_isFirst_6 : decode b_M_isFirst 6 = .ok (.if_icmp .ge 32, 3) := by decide +kernel
theorem d_M_isFirst_9 : decode b_M_isFirst 9 = .ok (.iload_n 2, 1) := by decide +kernel
theorem d_M_isFirst_10 : decode b_M_isFirst 10 = .ok (.ifCond .eq 20, 3) := by decide +kernel
theorem d_M_isFirst_13 : decode b_M_isFirst 13 = .ok (.aload_n 0, 1) := by decide +kernel
theorem d_M_isFirst_14 : decode b_M_isFirst 14 = .ok (.iload_n 3, 1) := by decide +kernel
theorem d_M_isFirst_15 : decode b_M_isFirst 15 = .ok (.invokevirtual 50, 3) := by decide +kernel
theorem d_M_isFirst_18 : decode b_M_isFirst 18 = .ok (.aload_n 0, 1) := by decide +kernel
theorem d_M_isFirst_19 : decode b_M_isFirst 19 = .ok (.iload_n 1, 1) := by decide +kernel
theorem d_M_isFirst_20 : decode b_M_isFirst 20 = .ok (.invokevirtual 50, 3) := by decide +kernel
theorem d_M_isFirst_23 : decode b_M_isFirst 23 = .ok (.if_icmp .eq 7, 3) := by decide +kernel
theorem d_M_isFirst_26 : decode b_M_isFirst 26 = .ok (.iconst 1, 1) := by decide +kernel
theorem d_M_isFirst_27 : decode b_M_isFirst 27 = .ok (.goto 4, 3) := by decide +kernel
theorem d_M_isFirst_30 : decode b_M_isFirst 30 = .ok (.iconst 0, 1) := by decide +kernel
theorem d_M_isFirst_31 : decode b_M_isFirst 31 = .ok (.istore_n 2, 1) := by decide +kernel
theorem d_M_isFirst_32 : decode b_M_isFirst 32 = .ok (.iinc 3 1, 3) := by decide +kernel
theorem d_M_isFirst_35 : decode b_M_isFirst 35 = .ok (.goto (-31), 3) := by decide +kernel
theorem d_M_isFirst_38 : decode b_M_isFirst 38 = .ok (.iload_n 2, 1) := by decide +kernel
theorem d_M_isFirst_39 : decode b_M_isFirst 39 = .ok (.ireturn, 1) := by decide +kernel
theorem d_M_wheels_0 : decode b_M_wheels 0 = .ok (.iload_n 1, 1) := by decide +kernel
theorem d_M_wheels_1 : decode b_M_wheels 1 = .ok (.i2l, 1) := by decide +kernel
theorem d_M_wheels_2 : decode b_M_wheels 2 = .ok (.lconst 0, 1) := by decide +kernel
theorem d_M_wheels_3 : decode b_M_wheels 3 = .ok (.ldc2_w 99, 3) := by decide +kernel
theorem d_M_wheels_6 : decode b_M_wheels 6 = .ok (.invokestatic 46, 3) := by decide +kernel
theorem d_M_wheels_9 : decode b_M_wheels 9 = .ok (.ifCond .ne 5, 3) := by decide +kernel
theorem d_M_wheels_12 : decode b_M_wheels 12 = .ok (.iconst (-1), 1) := by decide +kernel
theorem d_M_wheels_13 : decode b_M_wheels 13 = .ok (.ireturn, 1) := by decide +kernel
theorem d_M_wheels_14 : decode b_M_wheels 14 = .ok (.iconst 0, 1) := by decide +kernel
theorem d_M_wheels_15 : decode b_M_wheels 15 = .ok (.istore_n 2, 1) := by decide +kernel
theorem d_M_wheels_16 : decode b_M_wheels 16 = .ok (.iconst 0, 1) := by decide +kernel
theorem d_M_wheels_17 : decode b_M_wheels 17 = .ok (.istore_n 3, 1) := by decide +kernel
theorem d_M_wheels_18 : decode b_M_wheels 18 = .ok (.iload_n 3, 1) := by decide +kernel
theorem d_M_wheels_19 : decode b_M_wheels 19 = .ok (.aload_n 0, 1) := by decide +kernel
theorem d_M_wheels_20 : decode b_M_wheels 20 = .ok (.getfield 11, 3) := by decide +kernel
theorem d_M_wheels_23 : decode b_M_wheels 23 = .ok (.iconst 0, 1) := by decide +kernel
theorem d_M_wheels_24 : decode b_M_wheels 24 = .ok (.iaload, 1) := by decide +kernel
theorem d_M_wheels_25 : decode b_M_wheels 25 = .ok (.if_icmp .ge 67, 3) := by decide +kernel
theorem d_M_wheels_28 : decode b_M_wheels 28 = .ok (.iload_n 1, 1) := by decide +kernel
theorem d_M_wheels_29 : decode b_M_wheels 29 = .ok (.ifCond .ne 11, 3) := by decide +kernel
theorem d_M_wheels_32 : decode b_M_wheels 32 = .ok (.aload_n 0, 1) := by decide +kernel
theorem d_M_wheels_33 : decode b_M_wheels 33 = .ok (.iload_n 3, 1) := by decide +kernel
theorem d_M_wheels_34 : decode b_M_wheels 34 = .ok (.invokevirtual 87, 3) := by decide +kernel
theorem d_M_wheels_37 : decode b_M_wheels 37 = .ok (.goto 34, 3) := by decide +kernel
theorem d_M_wheels_40 : decode b_M_wheels 40 = .ok (.iload_n 1, 1) := by decide +kernel
theorem d_M_wheels_41 : decode b_M_wheels 41 = .ok (.iconst 1, 1) := by decide +kernel
theorem d_M_wheels_42 : decode b_M_wheels 42 = .ok (.if_icmp .ne 11, 3) := by decide +kernel
theorem d_M_wheels_45 : decode b_M_wheels 45 = .ok (.aload_n 0, 1) := by decide +kernel
theorem d_M_wheels_46 : decode b_M_wheels 46 = .ok (.iload_n 3, 1) := by decide +kernel
theorem d_M_wheels_47 : decode b_M_wheels 47 = .ok (.invokevirtual 90, 3) := by decide +kernel
theorem d_M_wheels_50 : decode b_M_wheels 50 = .ok (.goto 21, 3) := by decide +kernel
theorem d_M_wheels_53 : decode b_M_wheels 53 = .ok (.iload_n 1, 1) := by decide +kernel
theorem d_M_wheels_54 : decode b_M_wheels 54 = .ok (.iconst 2, 1) := by decide +kernel
theorem d_M_wheels_55 : decode b_M_wheels 55 = .ok (.if_icmp .ne 11, 3) := by decide +kernel
theorem d_M_wheels_58 : decode b_M_wheels 58 = .ok (.aload_n 0, 1) := by decide +kernel
theorem d_M_wheels_59 : decode b_M_wheels 59 = .ok (.iload_n 3, 1) := by decide +kernel
theorem d_M_wheels_60 : decode b_M_wheels 60 = .ok (.invokevirtual 54, 3) := by decide +kernel
theorem d_M_wheels_63 : decode b_M_wheels 63 = .ok (.goto 8, 3) := by decide +kernel
theorem d_M_wheels_66 : decode b_M_wheels 66 = .ok (.aload_n 0, 1) := by decide +kernel
theorem d_M_wheels_67 : decode b_M_wheels 67 = .ok (.iload_n 3, 1) := by decide +kernel
theorem d_M_wheels_68 : decode b_M_wheels 68 = .ok (.invokevirtual 101, 3) := by decide +kernel
theorem d_M_wheels_71 : decode b_M_wheels 71 = .ok (.istore 4, 2) := by decide +kernel
theorem d_M_wheels_73 : decode b_M_wheels 73 = .ok (.iload_n 2, 1) := by decide +kernel
theorem d_M_wheels_74 : decode b_M_wheels 74 = .ok (.iload 4, 2) := by decide +kernel
theorem d_M_wheels_76 : decode b_M_wheels 76 = .ok (.ifCond .eq 7, 3) := by decide +kernel
theorem d_M_wheels_79 : decode b_M_wheels 79 = .ok (.iconst 1, 1) := by decide +kernel
theorem d_M_wheels_80 : decode b_M_wheels 80 = .ok (.goto 4, 3) := by decide +kernel
theorem d_M_wheels_83 : decode b_M_wheels 83 = .ok (.iconst 0, 1) := by decide +kernel
theorem d_M_wheels_84 : decode b_M_wheels 84 = .ok (.iadd, 1) := by decide +kernel
theorem d_M_wheels_85 : decode b_M_wheels 85 = .ok (.istore_n 2, 1) := by decide +kernel
theorem d_M_wheels_86 : decode b_M_wheels 86 = .ok (.iinc 3 1, 3) := by decide +kernel
theorem d_M_wheels_89 : decode b_M_wheels 89 = .ok (.goto (-71), 3) := by decide +kernel
theorem d_M_wheels_92 : decode b_M_wheels 92 = .ok (.iload_n 2, 1) := by decide +kernel
theorem d_M_wheels_93 : decode b_M_wheels 93 = .ok (.ireturn, 1) := by decide +kernel
theorem d_M_isPair_0 : decode b_M_isPair 0 = .ok (.aload_n 0, 1) := by decide +kernel
theorem d_M_isPair_1 : decode b_M_isPair 1 = .ok (.iload_n 1, 1) := by decide +kernel
theorem d_M_isPair_2 : decode b_M_isPair 2 = .ok (.invokevirtual 66, 3) := by decide +kernel
theorem d_M_isPair_5 : decode b_M_isPair 5 = .ok (.ifCond .eq 36, 3) := by decide +kernel
theorem d_M_isPair_8 : decode b_M_isPair 8 = .ok (.aload_n 0, 1) := by decide +kernel
theorem d_M_isPair_9 : decode b_M_isPair 9 = .ok (.iload_n 2, 1) := by decide +kernel
theorem d_M_isPair_10 : decode b_M_isPair 10 = .ok (.invokevirtual 66, 3) := by decide +kernel
theorem d_M_isPair_13 : decode b_M_isPair 13 = .ok (.ifCond .eq 28, 3) := by decide +kernel
theorem d_M_isPair_16 : decode b_M_isPair 16 = .ok (.iload_n 1, 1) := by decide +kernel
theorem d_M_isPair_17 : decode b_M_isPair 17 = .ok (.iload_n 2, 1) := by decide +kernel
theorem d_M_isPair_18 : decode b_M_isPair 18 = .ok (.if_icmp .eq 23, 3) := by decide +kernel
theorem d_M_isPair_21 : decode b_M_isPair 21 = .ok (.aload_n 0, 1) := by decide +kernel
theorem d_M_isPair_22 : decode b_M_isPair 22 = .ok (.iload_n 1, 1) := by decide +kernel
theorem d_M_isPair_23 : decode b_M_isPair 23 = .ok (.invokevirtual 54, 3) := by decide +kernel
theorem d_M_isPair_26 : decode b_M_isPair 26 = .ok (.ifCond .eq 11, 3) := by decide +kernel
theorem d_M_isPair_29 : decode b_M_isPair 29 = .ok (.aload_n 0, 1) := by decide +kernel
theorem d_M_isPair_30 : decode b_M_isPair 30 = .ok (.iload_n 2, 1) := by decide +kernel
theorem d_M_isPair_31 : decode b_M_isPair 31 = .ok (.invokevirtual 54, 3) := by decide +kernel
theorem d_M_isPair_34 : decode b_M_isPair 34 = .ok (.ifCond .ne 7, 3) := by decide +kernel
theorem d_M_isPair_37 : decode b_M_isPair 37 = .ok (.iconst 1, 1) := by decide +kernel
theorem d_M_isPair_38 : decode b_M_isPair 38 = .ok (.goto 4, 3) := by decide +kernel
theorem d_M_isPair_41 : decode b_M_isPair 41 = .ok (.iconst 0, 1) := by decide +kernel
theorem d_M_isPair_42 : decode b_M_isPair 42 = .ok (.ireturn, 1) := by decide +kernel
theorem d_M_clashes_0 : decode b_M_clashes 0 = .ok (.aload_n 0, 1) := by decide +kernel
theorem d_M_clashes_1 : decode b_M_clashes 1 = .ok (.iload_n 1, 1) := by decide +kernel
theorem d_M_clashes_2 : decode b_M_clashes 2 = .ok (.invokevirtual 54, 3) := by decide +kernel
theorem d_M_clashes_5 : decode b_M_clashes 5 = .ok (.ifCond .eq 7, 3) := by decide +kernel
theorem d_M_clashes_8 : decode b_M_clashes 8 = .ok (.iload_n 1, 1) := by decide +kernel
theorem d_M_clashes_9 : decode b_M_clashes 9 = .ok (.goto 4, 3) := by decide +kernel
theorem d_M_clashes_12 : decode b_M_clashes 12 = .ok (.iload_n 2, 1) := by decide +kernel
theorem d_M_clashes_13 : decode b_M_clashes 13 = .ok (.istore_n 3, 1) := by decide +kernel
theorem d_M_clashes_14 : decode b_M_clashes 14 = .ok (.aload_n 0, 1) := by decide +kernel
theorem d_M_clashes_15 : decode b_M_clashes 15 = .ok (.iload_n 1, 1) := by decide +kernel
theorem d_M_clashes_16 : decode b_M_clashes 16 = .ok (.invokevirtual 54, 3) := by decide +kernel
theorem d_M_clashes_19 : decode b_M_clashes 19 = .ok (.ifCond .eq 7, 3) := by decide +kernel
theorem d_M_clashes_22 : decode b_M_clashes 22 = .ok (.iload_n 2, 1) := by decide +kernel
theorem d_M_clashes_23 : decode b_M_clashes 23 = .ok (.goto 4, 3) := by decide +kernel
theorem d_M_clashes_26 : decode b_M_clashes 26 = .ok (.iload_n 1, 1) := by decide +kernel
theorem d_M_clashes_27 : decode b_M_clashes 27 = .ok (.istore 4, 2) := by decide +kernel
theorem d_M_clashes_29 : decode b_M_clashes 29 = .ok (.aload_n 0, 1) := by decide +kernel
theorem d_M_clashes_30 : decode b_M_clashes 30 = .ok (.iload_n 3, 1) := by decide +kernel
theorem d_M_clashes_31 : decode b_M_clashes 31 = .ok (.invokevirtual 54, 3) := by decide +kernel
theorem d_M_clashes_34 : decode b_M_clashes 34 = .ok (.ifCond .eq 24, 3) := by decide +kernel
theorem d_M_clashes_37 : decode b_M_clashes 37 = .ok (.aload_n 0, 1) := by decide +kernel
theorem d_M_clashes_38 : decode b_M_clashes 38 = .ok (.iload_n 3, 1) := by decide +kernel
theorem d_M_clashes_39 : decode b_M_clashes 39 = .ok (.invokevirtual 104, 3) := by decide +kernel
theorem d_M_clashes_42 : decode b_M_clashes 42 = .ok (.aload_n 0, 1) := by decide +kernel
theorem d_M_clashes_43 : decode b_M_clashes 43 = .ok (.iload 4, 2) := by decide +kernel
theorem d_M_clashes_45 : decode b_M_clashes 45 = .ok (.invokevirtual 50, 3) := by decide +kernel
theorem d_M_clashes_48 : decode b_M_clashes 48 = .ok (.isub, 1) := by decide +kernel
theorem d_M_clashes_49 : decode b_M_clashes 49 = .ok (.bipush 8, 2) := by decide +kernel
theorem d_M_clashes_51 : decode b_M_clashes 51 = .ok (.if_icmp .ge 7, 3) := by decide +kernel
theorem d_M_clashes_54 : decode b_M_clashes 54 = .ok (.iconst 1, 1) := by decide +kernel
theorem d_M_clashes_55 : decode b_M_clashes 55 = .ok (.goto 4, 3) := by decide +kernel
theorem d_M_clashes_58 : decode b_M_clashes 58 = .ok (.iconst 0, 1) := by decide +kernel
theorem d_M_clashes_59 : decode b_M_clashes 59 = .ok (.ireturn, 1) := by decide +kernel
theorem d_M_hundredths_0 : decode b_M_hundredths 0 = .ok (.aload_n 0, 1) := by decide +kernel
theorem d_M_hundredths_1 : decode b_M_hundredths 1 = .ok (.iload_n 1, 1) := by decide +kernel
theorem d_M_hundredths_2 : decode b_M_hundredths 2 = .ok (.invokevirtual 54, 3) := by decide +kernel
theorem d_M_hundredths_5 : decode b_M_hundredths 5 = .ok (.ifCond .ne 46, 3) := by decide +kernel
theorem d_M_hundredths_8 : decode b_M_hundredths 8 = .ok (.aload_n 0, 1) := by decide +kernel
theorem d_M_hundredths_9 : decode b_M_hundredths 9 = .ok (.iload_n 2, 1) := by decide +kernel
theorem d_M_hundredths_10 : decode b_M_hundredths 10 = .ok (.invokevirtual 54, 3) := by decide +kernel
theorem d_M_hundredths_13 : decode b_M_hundredths 13 = .ok (.ifCond .ne 38, 3) := by decide +kernel
theorem d_M_hundredths_16 : decode b_M_hundredths 16 = .ok (.bipush 50, 2) := by decide +kernel
theorem d_M_hundredths_18 : decode b_M_hundredths 18 = .ok (.aload_n 0, 1) := by decide +kernel
theorem d_M_hundredths_19 : decode b_M_hundredths 19 = .ok (.iload_n 1, 1) := by decide +kernel
theorem d_M_hundredths_20 : decode b_M_hundredths 20 = .ok (.invokevirtual 50, 3) := by decide +kernel
theorem d_M_hundredths_23 : decode b_M_hundredths 23 = .ok (.aload_n 0, 1) := by decide +kernel
theorem d_M_hundredths_24 : decode b_M_hundredths 24 = .ok (.iload_n 2, 1) := by decide +kernel
theorem d_M_hundredths_25 : decode b_M_hundredths 25 = .ok (.invokevirtual 50, 3) := by decide +kernel
theorem d_M_hundredths_28 : decode b_M_hundredths 28 = .ok (.iadd, 1) := by decide +kernel
theorem d_M_hundredths_29 : decode b_M_hundredths 29 = .ok (.imul, 1) := by decide +kernel
theorem d_M_hundredths_30 : decode b_M_hundredths 30 = .ok (.aload_n 0, 1) := by decide +kernel
theorem d_M_hundredths_31 : decode b_M_hundredths 31 = .ok (.getfield 11, 3) := by decide +kernel
theorem d_M_hundredths_34 : decode b_M_hundredths 34 = .ok (.bipush 17, 2) := by decide +kernel
theorem d_M_hundredths_36 : decode b_M_hundredths 36 = .ok (.iload_n 1, 1) := by decide +kernel
theorem d_M_hundredths_37 : decode b_M_hundredths 37 = .ok (.iadd, 1) := by decide +kernel
theorem d_M_hundredths_38 : decode b_M_hundredths 38 = .ok (.iaload, 1) := by decide +kernel
theorem d_M_hundredths_39 : decode b_M_hundredths 39 = .ok (.iadd, 1) := by decide +kernel
theorem d_M_hundredths_40 : decode b_M_hundredths 40 = .ok (.aload_n 0, 1) := by decide +kernel
theorem d_M_hundredths_41 : decode b_M_hundredths 41 = .ok (.getfield 11, 3) := by decide +kernel
theorem d_M_hundredths_44 : decode b_M_hundredths 44 = .ok (.bipush 17, 2) := by decide +kernel
theorem d_M_hundredths_46 : decode b_M_hundredths 46 = .ok (.iload_n 2, 1) := by decide +kernel
theorem d_M_hundredths_47 : decode b_M_hundredths 47 = .ok (.iadd, 1) := by decide +kernel
theorem d_M_hundredths_48 : decode b_M_hundredths 48 = .ok (.iaload, 1) := by decide +kernel
theorem d_M_hundredths_49 : decode b_M_hundredths 49 = .ok (.iadd, 1) := by decide +kernel
theorem d_M_hundredths_50 : decode b_M_hundredths 50 = .ok (.ireturn, 1) := by decide +kernel
theorem d_M_hundredths_51 : decode b_M_hundredths 51 = .ok (.aload_n 0, 1) := by decide +kernel
theorem d_M_hundredths_52 : decode b_M_hundredths 52 = .ok (.iload_n 1, 1) := by decide +kernel
theorem d_M_hundredths_53 : decode b_M_hundredths 53 = .ok (.invokevirtual 54, 3) := by decide +kernel
theorem d_M_hundredths_56 : decode b_M_hundredths 56 = .ok (.ifCond .eq 7, 3) := by decide +kernel
theorem d_M_hundredths_59 : decode b_M_hundredths 59 = .ok (.iload_n 1, 1) := by decide +kernel
theorem d_M_hundredths_60 : decode b_M_hundredths 60 = .ok (.goto 4, 3) := by decide +kernel
theorem d_M_hundredths_63 : decode b_M_hundredths 63 = .ok (.iload_n 2, 1) := by decide +kernel
theorem d_M_hundredths_64 : decode b_M_hundredths 64 = .ok (.istore_n 3, 1) := by decide +kernel
theorem d_M_hundredths_65 : decode b_M_hundredths 65 = .ok (.aload_n 0, 1) := by decide +kernel
theorem d_M_hundredths_66 : decode b_M_hundredths 66 = .ok (.iload_n 1, 1) := by decide +kernel
theorem d_M_hundredths_67 : decode b_M_hundredths 67 = .ok (.invokevirtual 54, 3) := by decide +kernel
theorem d_M_hundredths_70 : decode b_M_hundredths 70 = .ok (.ifCond .eq 7, 3) := by decide +kernel
theorem d_M_hundredths_73 : decode b_M_hundredths 73 = .ok (.iload_n 2, 1) := by decide +kernel
theorem d_M_hundredths_74 : decode b_M_hundredths 74 = .ok (.goto 4, 3) := by decide +kernel
theorem d_M_hundredths_77 : decode b_M_hundredths 77 = .ok (.iload_n 1, 1) := by decide +kernel
theorem d_M_hundredths_78 : decode b_M_hundredths 78 = .ok (.istore 4, 2) := by decide +kernel
theorem d_M_hundredths_80 : decode b_M_hundredths 80 = .ok (.bipush 50, 2) := by decide +kernel
theorem d_M_hundredths_82 : decode b_M_hundredths 82 = .ok (.aload_n 0, 1) := by decide +kernel
theorem d_M_hundredths_83 : decode b_M_hundredths 83 = .ok (.iload_n 3, 1) := by decide +kernel
theorem d_M_hundredths_84 : decode b_M_hundredths 84 = .ok (.invokevirtual 104, 3) := by decide +kernel
theorem d_M_hundredths_87 : decode b_M_hundredths 87 = .ok (.aload_n 0, 1) := by decide +kernel
theorem d_M_hundredths_88 : decode b_M_hundredths 88 = .ok (.iload 4, 2) := by decide +kernel
theorem d_M_hundredths_90 : decode b_M_hundredths 90 = .ok (.invokevirtual 50, 3) := by decide +kernel
theorem d_M_hundredths_93 : decode b_M_hundredths 93 = .ok (.isub, 1) := by decide +kernel
theorem d_M_hundredths_94 : decode b_M_hundredths 94 = .ok (.imul, 1) := by decide +kernel
theorem d_M_hundredths_95 : decode b_M_hundredths 95 = .ok (.aload_n 0, 1) := by decide +kernel
theorem d_M_hundredths_96 : decode b_M_hundredths 96 = .ok (.getfield 11, 3) := by decide +kernel
theorem d_M_hundredths_99 : decode b_M_hundredths 99 = .ok (.bipush 17, 2) := by decide +kernel
theorem d_M_hundredths_101 : decode b_M_hundredths 101 = .ok (.iload_n 3, 1) := by decide +kernel
theorem d_M_hundredths_102 : decode b_M_hundredths 102 = .ok (.iadd, 1) := by decide +kernel
theorem d_M_hundredths_103 : decode b_M_hundredths 103 = .ok (.iaload, 1) := by decide +kernel
theorem d_M_hundredths_104 : decode b_M_hundredths 104 = .ok (.iadd, 1) := by decide +kernel
theorem d_M_hundredths_105 : decode b_M_hundredths 105 = .ok (.aload_n 0, 1) := by decide +kernel
theorem d_M_hundredths_106 : decode b_M_hundredths 106 = .ok (.getfield 11, 3) := by decide +kernel
theorem d_M_hundredths_109 : decode b_M_hundredths 109 = .ok (.bipush 17, 2) := by decide +kernel
theorem d_M_hundredths_111 : decode b_M_hundredths 111 = .ok (.iload 4, 2) := by decide +kernel
theorem d_M_hundredths_113 : decode b_M_hundredths 113 = .ok (.iadd, 1) := by decide +kernel
theorem d_M_hundredths_114 : decode b_M_hundredths 114 = .ok (.iaload, 1) := by decide +kernel
theorem d_M_hundredths_115 : decode b_M_hundredths 115 = .ok (.isub, 1) := by decide +kernel
theorem d_M_hundredths_116 : decode b_M_hundredths 116 = .ok (.ireturn, 1) := by decide +kernel
theorem d_M_lays_0 : decode b_M_lays 0 = .ok (.lload_n 1, 1) := by decide +kernel
theorem d_M_lays_1 : decode b_M_lays 1 = .ok (.lconst 0, 1) := by decide +kernel
theorem d_M_lays_2 : decode b_M_lays 2 = .ok (.lcmp, 1) := by decide +kernel
theorem d_M_lays_3 : decode b_M_lays 3 = .ok (.ifCond .ge 8, 3) := by decide +kernel
theorem d_M_lays_6 : decode b_M_lays 6 = .ok (.lload_n 1, 1) := by decide +kernel
theorem d_M_lays_7 : decode b_M_lays 7 = .ok (.lneg, 1) := by decide +kernel
theorem d_M_lays_8 : decode b_M_lays 8 = .ok (.goto 4, 3) := by decide +kernel
theorem d_M_lays_11 : decode b_M_lays 11 = .ok (.lload_n 1, 1) := by decide +kernel
theorem d_M_lays_12 : decode b_M_lays 12 = .ok (.lstore 5, 2) := by decide +kernel
theorem d_M_lays_14 : decode b_M_lays 14 = .ok (.lload_n 3, 1) := by decide +kernel
theorem d_M_lays_15 : decode b_M_lays 15 = .ok (.lstore 7, 2) := by decide +kernel
theorem d_M_lays_17 : decode b_M_lays 17 = .ok (.lload 7, 2) := by decide +kernel
theorem d_M_lays_19 : decode b_M_lays 19 = .ok (.lconst 0, 1) := by decide +kernel
theorem d_M_lays_20 : decode b_M_lays 20 = .ok (.lcmp, 1) := by decide +kernel
theorem d_M_lays_21 : decode b_M_lays 21 = .ok (.ifCond .eq 21, 3) := by decide +kernel
theorem d_M_lays_24 : decode b_M_lays 24 = .ok (.lload 5, 2) := by decide +kernel
theorem d_M_lays_26 : decode b_M_lays 26 = .ok (.lload 7, 2) := by decide +kernel
theorem d_M_lays_28 : decode b_M_lays 28 = .ok (.lrem, 1) := by decide +kernel
theorem d_M_lays_29 : decode b_M_lays 29 = .ok (.lstore 9, 2) := by decide +kernel
theorem d_M_lays_31 : decode b_M_lays 31 = .ok (.lload 7, 2) := by decide +kernel
theorem d_M_lays_33 : decode b_M_lays 33 = .ok (.lstore 5, 2) := by decide +kernel
theorem d_M_lays_35 : decode b_M_lays 35 = .ok (.lload 9, 2) := by decide +kernel
theorem d_M_lays_37 : decode b_M_lays 37 = .ok (.lstore 7, 2) := by decide +kernel
theorem d_M_lays_39 : decode b_M_lays 39 = .ok (.goto (-22), 3) := by decide +kernel
theorem d_M_lays_42 : decode b_M_lays 42 = .ok (.aload_n 0, 1) := by decide +kernel
theorem d_M_lays_43 : decode b_M_lays 43 = .ok (.lload_n 1, 1) := by decide +kernel
theorem d_M_lays_44 : decode b_M_lays 44 = .ok (.lload 5, 2) := by decide +kernel
theorem d_M_lays_46 : decode b_M_lays 46 = .ok (.ldiv, 1) := by decide +kernel
theorem d_M_lays_47 : decode b_M_lays 47 = .ok (.putfield 107, 3) := by decide +kernel
theorem d_M_lays_50 : decode b_M_lays 50 = .ok (.aload_n 0, 1) := by decide +kernel
theorem d_M_lays_51 : decode b_M_lays 51 = .ok (.lload_n 3, 1) := by decide +kernel
theorem d_M_lays_52 : decode b_M_lays 52 = .ok (.lload 5, 2) := by decide +kernel
theorem d_M_lays_54 : decode b_M_lays 54 = .ok (.ldiv, 1) := by decide +kernel
theorem d_M_lays_55 : decode b_M_lays 55 = .ok (.putfield 111, 3) := by decide +kernel
theorem d_M_lays_58 : decode b_M_lays 58 = .ok (.return_, 1) := by decide +kernel
theorem d_M_part_0 : decode b_M_part 0 = .ok (.iload_n 1, 1) := by decide +kernel
theorem d_M_part_1 : decode b_M_part 1 = .ok (.ifCond .ne 10, 3) := by decide +kernel
theorem d_M_part_4 : decode b_M_part 4 = .ok (.aload_n 0, 1) := by decide +kernel
theorem d_M_part_5 : decode b_M_part 5 = .ok (.getfield 107, 3) := by decide +kernel
theorem d_M_part_8 : decode b_M_part 8 = .ok (.goto 7, 3) := by decide +kernel
theorem d_M_part_11 : decode b_M_part 11 = .ok (.aload_n 0, 1) := by decide +kernel
theorem d_M_part_12 : decode b_M_part 12 = .ok (.getfield 111, 3) := by decide +kernel
theorem d_M_part_15 : decode b_M_part 15 = .ok (.lreturn, 1) := by decide +kernel
theorem d_M_distance_0 : decode b_M_distance 0 = .ok (.aload_n 0, 1) := by decide +kernel
theorem d_M_distance_1 : decode b_M_distance 1 = .ok (.iload_n 1, 1) := by decide +kernel
theorem d_M_distance_2 : decode b_M_distance 2 = .ok (.iload_n 2, 1) := by decide +kernel
theorem d_M_distance_3 : decode b_M_distance 3 = .ok (.invokevirtual 114, 3) := by decide +kernel
theorem d_M_distance_6 : decode b_M_distance 6 = .ok (.ifCond .eq 13, 3) := by decide +kernel
theorem d_M_distance_9 : decode b_M_distance 9 = .ok (.iload_n 3, 1) := by decide +kernel
theorem d_M_distance_10 : decode b_M_distance 10 = .ok (.i2l, 1) := by decide +kernel
theorem d_M_distance_11 : decode b_M_distance 11 = .ok (.lconst 0, 1) := by decide +kernel
theorem d_M_distance_12 : decode b_M_distance 12 = .ok (.lconst 1, 1) := by decide +kernel
theorem d_M_distance_13 : decode b_M_distance 13 = .ok (.invokestatic 46, 3) := by decide +kernel
theorem d_M_distance_16 : decode b_M_distance 16 = .ok (.ifCond .ne 7, 3) := by decide +kernel
theorem d_M_distance_19 : decode b_M_distance 19 = .ok (.ldc2_w 117, 3) := by decide +kernel
theorem d_M_distance_22 : decode b_M_distance 22 = .ok (.lreturn, 1) := by decide +kernel
theorem d_M_distance_23 : decode b_M_distance 23 = .ok (.aload_n 0, 1) := by decide +kernel
theorem d_M_distance_24 : decode b_M_distance 24 = .ok (.iload_n 1, 1) := by decide +kernel
theorem d_M_distance_25 : decode b_M_distance 25 = .ok (.iload_n 2, 1) := by decide +kernel
theorem d_M_distance_26 : decode b_M_distance 26 = .ok (.invokevirtual 119, 3) := by decide +kernel
theorem d_M_distance_29 : decode b_M_distance 29 = .ok (.ifCond .eq 7, 3) := by decide +kernel
theorem d_M_distance_32 : decode b_M_distance 32 = .ok (.ldc2_w 122, 3) := by decide +kernel
theorem d_M_distance_35 : decode b_M_distance 35 = .ok (.lreturn, 1) := by decide +kernel
theorem d_M_distance_36 : decode b_M_distance 36 = .ok (.aload_n 0, 1) := by decide +kernel
theorem d_M_distance_37 : decode b_M_distance 37 = .ok (.aload_n 0, 1) := by decide +kernel
theorem d_M_distance_38 : decode b_M_distance 38 = .ok (.iload_n 1, 1) := by decide +kernel
theorem d_M_distance_39 : decode b_M_distance 39 = .ok (.iload_n 2, 1) := by decide +kernel
theorem d_M_distance_40 : decode b_M_distance 40 = .ok (.invokevirtual 124, 3) := by decide +kernel
theorem d_M_distance_43 : decode b_M_distance 43 = .ok (.i2l, 1) := by decide +kernel
theorem d_M_distance_44 : decode b_M_distance 44 = .ok (.ldc2_w 71, 3) := by decide +kernel
theorem d_M_distance_47 : decode b_M_distance 47 = .ok (.invokevirtual 127, 3) := by decide +kernel
theorem d_M_distance_50 : decode b_M_distance 50 = .ok (.aload_n 0, 1) := by decide +kernel
theorem d_M_distance_51 : decode b_M_distance 51 = .ok (.iload_n 3, 1) := by decide +kernel
theorem d_M_distance_52 : decode b_M_distance 52 = .ok (.invokevirtual 131, 3) := by decide +kernel
theorem d_M_distance_55 : decode b_M_distance 55 = .ok (.lreturn, 1) := by decide +kernel
theorem d_M_sign_0 : decode b_M_sign 0 = .ok (.aload_n 0, 1) := by decide +kernel
theorem d_M_sign_1 : decode b_M_sign 1 = .ok (.iload_n 1, 1) := by decide +kernel
theorem d_M_sign_2 : decode b_M_sign 2 = .ok (.invokevirtual 54, 3) := by decide +kernel
theorem d_M_sign_5 : decode b_M_sign 5 = .ok (.ifCond .ne 11, 3) := by decide +kernel
theorem d_M_sign_8 : decode b_M_sign 8 = .ok (.aload_n 0, 1) := by decide +kernel
theorem d_M_sign_9 : decode b_M_sign 9 = .ok (.iload_n 2, 1) := by decide +kernel
theorem d_M_sign_10 : decode b_M_sign 10 = .ok (.invokevirtual 54, 3) := by decide +kernel
theorem d_M_sign_13 : decode b_M_sign 13 = .ok (.ifCond .eq 7, 3) := by decide +kernel
theorem d_M_sign_16 : decode b_M_sign 16 = .ok (.iconst 1, 1) := by decide +kernel
theorem d_M_sign_17 : decode b_M_sign 17 = .ok (.goto 4, 3) := by decide +kernel
theorem d_M_sign_20 : decode b_M_sign 20 = .ok (.iconst (-1), 1) := by decide +kernel
theorem d_M_sign_21 : decode b_M_sign 21 = .ok (.ireturn, 1) := by decide +kernel
theorem d_M_ratio_0 : decode b_M_ratio 0 = .ok (.aload_n 0, 1) := by decide +kernel
theorem d_M_ratio_1 : decode b_M_ratio 1 = .ok (.iload_n 1, 1) := by decide +kernel
theorem d_M_ratio_2 : decode b_M_ratio 2 = .ok (.iload_n 2, 1) := by decide +kernel
theorem d_M_ratio_3 : decode b_M_ratio 3 = .ok (.invokevirtual 114, 3) := by decide +kernel
theorem d_M_ratio_6 : decode b_M_ratio 6 = .ok (.ifCond .eq 13, 3) := by decide +kernel
theorem d_M_ratio_9 : decode b_M_ratio 9 = .ok (.iload_n 3, 1) := by decide +kernel
theorem d_M_ratio_10 : decode b_M_ratio 10 = .ok (.i2l, 1) := by decide +kernel
theorem d_M_ratio_11 : decode b_M_ratio 11 = .ok (.lconst 0, 1) := by decide +kernel
theorem d_M_ratio_12 : decode b_M_ratio 12 = .ok (.lconst 1, 1) := by decide +kernel
theorem d_M_ratio_13 : decode b_M_ratio 13 = .ok (.invokestatic 46, 3) := by decide +kernel
theorem d_M_ratio_16 : decode b_M_ratio 16 = .ok (.ifCond .ne 7, 3) := by decide +kernel
theorem d_M_ratio_19 : decode b_M_ratio 19 = .ok (.ldc2_w 117, 3) := by decide +kernel
theorem d_M_ratio_22 : decode b_M_ratio 22 = .ok (.lreturn, 1) := by decide +kernel
theorem d_M_ratio_23 : decode b_M_ratio 23 = .ok (.aload_n 0, 1) := by decide +kernel
theorem d_M_ratio_24 : decode b_M_ratio 24 = .ok (.iload_n 1, 1) := by decide +kernel
theorem d_M_ratio_25 : decode b_M_ratio 25 = .ok (.iload_n 2, 1) := by decide +kernel
theorem d_M_ratio_26 : decode b_M_ratio 26 = .ok (.invokevirtual 119, 3) := by decide +kernel
theorem d_M_ratio_29 : decode b_M_ratio 29 = .ok (.ifCond .eq 7, 3) := by decide +kernel
theorem d_M_ratio_32 : decode b_M_ratio 32 = .ok (.ldc2_w 122, 3) := by decide +kernel
theorem d_M_ratio_35 : decode b_M_ratio 35 = .ok (.lreturn, 1) := by decide +kernel
theorem d_M_ratio_36 : decode b_M_ratio 36 = .ok (.aload_n 0, 1) := by decide +kernel
theorem d_M_ratio_37 : decode b_M_ratio 37 = .ok (.aload_n 0, 1) := by decide +kernel
theorem d_M_ratio_38 : decode b_M_ratio 38 = .ok (.iload_n 1, 1) := by decide +kernel
theorem d_M_ratio_39 : decode b_M_ratio 39 = .ok (.iload_n 2, 1) := by decide +kernel
theorem d_M_ratio_40 : decode b_M_ratio 40 = .ok (.invokevirtual 135, 3) := by decide +kernel
theorem d_M_ratio_43 : decode b_M_ratio 43 = .ok (.i2l, 1) := by decide +kernel
theorem d_M_ratio_44 : decode b_M_ratio 44 = .ok (.aload_n 0, 1) := by decide +kernel
theorem d_M_ratio_45 : decode b_M_ratio 45 = .ok (.iload_n 2, 1) := by decide +kernel
theorem d_M_ratio_46 : decode b_M_ratio 46 = .ok (.invokevirtual 104, 3) := by decide +kernel
theorem d_M_ratio_49 : decode b_M_ratio 49 = .ok (.i2l, 1) := by decide +kernel
theorem d_M_ratio_50 : decode b_M_ratio 50 = .ok (.lmul, 1) := by decide +kernel
theorem d_M_ratio_51 : decode b_M_ratio 51 = .ok (.aload_n 0, 1) := by decide +kernel
theorem d_M_ratio_52 : decode b_M_ratio 52 = .ok (.iload_n 1, 1) := by decide +kernel
theorem d_M_ratio_53 : decode b_M_ratio 53 = .ok (.invokevirtual 104, 3) := by decide +kernel
theorem d_M_ratio_56 : decode b_M_ratio 56 = .ok (.i2l, 1) := by decide +kernel
theorem d_M_ratio_57 : decode b_M_ratio 57 = .ok (.invokevirtual 127, 3) := by decide +kernel
theorem d_M_ratio_60 : decode b_M_ratio 60 = .ok (.aload_n 0, 1) := by decide +kernel
theorem d_M_ratio_61 : decode b_M_ratio 61 = .ok (.iload_n 3, 1) := by decide +kernel
theorem d_M_ratio_62 : decode b_M_ratio 62 = .ok (.invokevirtual 131, 3) := by decide +kernel
theorem d_M_ratio_65 : decode b_M_ratio 65 = .ok (.lreturn, 1) := by decide +kernel
theorem d_M_root_0 : decode b_M_root 0 = .ok (.lconst 0, 1) := by decide +kernel
theorem d_M_root_1 : decode b_M_root 1 = .ok (.lstore_n 2, 1) := by decide +kernel
theorem d_M_root_2 : decode b_M_root 2 = .ok (.ldc2_w 138, 3) := by decide +kernel
theorem d_M_root_5 : decode b_M_root 5 = .ok (.lstore 4, 2) := by decide +kernel
theorem d_M_root_7 : decode b_M_root 7 = .ok (.lload 4, 2) := by decide +kernel
theorem d_M_root_9 : decode b_M_root 9 = .ok (.lload_n 2, 1) := by decide +kernel
theorem d_M_root_10 : decode b_M_root 10 = .ok (.lsub, 1) := by decide +kernel
theorem d_M_root_11 : decode b_M_root 11 = .ok (.lconst 1, 1) := by decide +kernel
theorem d_M_root_12 : decode b_M_root 12 = .ok (.lcmp, 1) := by decide +kernel
theorem d_M_root_13 : decode b_M_root 13 = .ok (.ifCond .le 36, 3) := by decide +kernel
theorem d_M_root_16 : decode b_M_root 16 = .ok (.lload_n 2, 1) := by decide +kernel
theorem d_M_root_17 : decode b_M_root 17 = .ok (.lload 4, 2) := by decide +kernel
theorem d_M_root_19 : decode b_M_root 19 = .ok (.ladd, 1) := by decide +kernel
theorem d_M_root_20 : decode b_M_root 20 = .ok (.ldc2_w 77, 3) := by decide +kernel
theorem d_M_root_23 : decode b_M_root 23 = .ok (.ldiv, 1) := by decide +kernel
theorem d_M_root_24 : decode b_M_root 24 = .ok (.lstore 6, 2) := by decide +kernel
theorem d_M_root_26 : decode b_M_root 26 = .ok (.lload 6, 2) := by decide +kernel
theorem d_M_root_28 : decode b_M_root 28 = .ok (.lload 6, 2) := by decide +kernel
theorem d_M_root_30 : decode b_M_root 30 = .ok (.lmul, 1) := by decide +kernel
theorem d_M_root_31 : decode b_M_root 31 = .ok (.lload_n 0, 1) := by decide +kernel
theorem d_M_root_32 : decode b_M_root 32 = .ok (.lcmp, 1) := by decide +kernel
theorem d_M_root_33 : decode b_M_root 33 = .ok (.ifCond .gt 9, 3) := by decide +kernel
theorem d_M_root_36 : decode b_M_root 36 = .ok (.lload 6, 2) := by decide +kernel
theorem d_M_root_38 : decode b_M_root 38 = .ok (.lstore_n 2, 1) := by decide +kernel
theorem d_M_root_39 : decode b_M_root 39 = .ok (.goto 7, 3) := by decide +kernel
theorem d_M_root_42 : decode b_M_root 42 = .ok (.lload 6, 2) := by decide +kernel
theorem d_M_root_44 : decode b_M_root 44 = .ok (.lstore 4, 2) := by decide +kernel
theorem d_M_root_46 : decode b_M_root 46 = .ok (.goto (-39), 3) := by decide +kernel
theorem d_M_root_49 : decode b_M_root 49 = .ok (.lload_n 2, 1) := by decide +kernel
theorem d_M_root_50 : decode b_M_root 50 = .ok (.lreturn, 1) := by decide +kernel
theorem d_M_reach_0 : decode b_M_reach 0 = .ok (.aload_n 0, 1) := by decide +kernel
theorem d_M_reach_1 : decode b_M_reach 1 = .ok (.iload_n 1, 1) := by decide +kernel
theorem d_M_reach_2 : decode b_M_reach 2 = .ok (.invokevirtual 50, 3) := by decide +kernel
theorem d_M_reach_5 : decode b_M_reach 5 = .ok (.i2l, 1) := by decide +kernel
theorem d_M_reach_6 : decode b_M_reach 6 = .ok (.lstore_n 2, 1) := by decide +kernel
theorem d_M_reach_7 : decode b_M_reach 7 = .ok (.ldc2_w 140, 3) := by decide +kernel
theorem d_M_reach_10 : decode b_M_reach 10 = .ok (.lload_n 2, 1) := by decide +kernel
theorem d_M_reach_11 : decode b_M_reach 11 = .ok (.lmul, 1) := by decide +kernel
theorem d_M_reach_12 : decode b_M_reach 12 = .ok (.ldc2_w 71, 3) := by decide +kernel
theorem d_M_reach_15 : decode b_M_reach 15 = .ok (.ladd, 1) := by decide +kernel
theorem d_M_reach_16 : decode b_M_reach 16 = .ok (.aload_n 0, 1) := by decide +kernel
theorem d_M_reach_17 : decode b_M_reach 17 = .ok (.getfield 11, 3) := by decide +kernel
theorem d_M_reach_20 : decode b_M_reach 20 = .ok (.bipush 17, 2) := by decide +kernel
theorem d_M_reach_22 : decode b_M_reach 22 = .ok (.iload_n 1, 1) := by decide +kernel
theorem d_M_reach_23 : decode b_M_reach 23 = .ok (.iadd, 1) := by decide +kernel
theorem d_M_reach_24 : decode b_M_reach 24 = .ok (.iaload, 1) := by decide +kernel
theorem d_M_reach_25 : decode b_M_reach 25 = .ok (.i2l, 1) := by decide +kernel
theorem d_M_reach_26 : decode b_M_reach 26 = .ok (.ladd, 1) := by decide +kernel
theorem d_M_reach_27 : decode b_M_reach 27 = .ok (.lstore 4, 2) := by decide +kernel
theorem d_M_reach_29 : decode b_M_reach 29 = .ok (.ldc2_w 142, 3) := by decide +kernel
theorem d_M_reach_32 : decode b_M_reach 32 = .ok (.lload 4, 2) := by decide +kernel
theorem d_M_reach_34 : decode b_M_reach 34 = .ok (.lmul, 1) := by decide +kernel
theorem d_M_reach_35 : decode b_M_reach 35 = .ok (.lload 4, 2) := by decide +kernel
theorem d_M_reach_37 : decode b_M_reach 37 = .ok (.lmul, 1) := by decide +kernel
theorem d_M_reach_38 : decode b_M_reach 38 = .ok (.lload_n 2, 1) := by decide +kernel
theorem d_M_reach_39 : decode b_M_reach 39 = .ok (.lload_n 2, 1) := by decide +kernel
theorem d_M_reach_40 : decode b_M_reach 40 = .ok (.lmul, 1) := by decide +kernel
theorem d_M_reach_41 : decode b_M_reach 41 = .ok (.ldc2_w 144, 3) := by decide +kernel
theorem d_M_reach_44 : decode b_M_reach 44 = .ok (.aload_n 0, 1) := by decide +kernel
theorem d_M_reach_45 : decode b_M_reach 45 = .ok (.invokevirtual 79, 3) := by decide +kernel
theorem d_M_reach_48 : decode b_M_reach 48 = .ok (.i2l, 1) := by decide +kernel
theorem d_M_reach_49 : decode b_M_reach 49 = .ok (.lsub, 1) := by decide +kernel
theorem d_M_reach_50 : decode b_M_reach 50 = .ok (.lmul, 1) := by decide +kernel
theorem d_M_reach_51 : decode b_M_reach 51 = .ok (.lsub, 1) := by decide +kernel
theorem d_M_reach_52 : decode b_M_reach 52 = .ok (.ldc2_w 146, 3) := by decide +kernel
theorem d_M_reach_55 : decode b_M_reach 55 = .ok (.lmul, 1) := by decide +kernel
theorem d_M_reach_56 : decode b_M_reach 56 = .ok (.lstore 6, 2) := by decide +kernel
theorem d_M_reach_58 : decode b_M_reach 58 = .ok (.lload 6, 2) := by decide +kernel
theorem d_M_reach_60 : decode b_M_reach 60 = .ok (.lconst 0, 1) := by decide +kernel
theorem d_M_reach_61 : decode b_M_reach 61 = .ok (.lcmp, 1) := by decide +kernel
theorem d_M_reach_62 : decode b_M_reach 62 = .ok (.ifCond .ge 7, 3) := by decide +kernel
theorem d_M_reach_65 : decode b_M_reach 65 = .ok (.lconst 0, 1) := by decide +kernel
theorem d_M_reach_66 : decode b_M_reach 66 = .ok (.goto 8, 3) := by decide +kernel
theorem d_M_reach_69 : decode b_M_reach 69 = .ok (.lload 6, 2) := by decide +kernel
theorem d_M_reach_71 : decode b_M_reach 71 = .ok (.invokestatic 148, 3) := by decide +kernel
theorem d_M_reach_74 : decode b_M_reach 74 = .ok (.lreturn, 1) := by decide +kernel
theorem d_M_contact_0 : decode b_M_contact 0 = .ok (.aload_n 0, 1) := by decide +kernel
theorem d_M_contact_1 : decode b_M_contact 1 = .ok (.iload_n 1, 1) := by decide +kernel
theorem d_M_contact_2 : decode b_M_contact 2 = .ok (.iload_n 2, 1) := by decide +kernel
theorem d_M_contact_3 : decode b_M_contact 3 = .ok (.invokevirtual 114, 3) := by decide +kernel
theorem d_M_contact_6 : decode b_M_contact 6 = .ok (.ifCond .eq 29, 3) := by decide +kernel
theorem d_M_contact_9 : decode b_M_contact 9 = .ok (.aload_n 0, 1) := by decide +kernel
theorem d_M_contact_10 : decode b_M_contact 10 = .ok (.iload_n 1, 1) := by decide +kernel
theorem d_M_contact_11 : decode b_M_contact 11 = .ok (.invokevirtual 54, 3) := by decide +kernel
theorem d_M_contact_14 : decode b_M_contact 14 = .ok (.ifCond .ne 21, 3) := by decide +kernel
theorem d_M_contact_17 : decode b_M_contact 17 = .ok (.aload_n 0, 1) := by decide +kernel
theorem d_M_contact_18 : decode b_M_contact 18 = .ok (.iload_n 2, 1) := by decide +kernel
theorem d_M_contact_19 : decode b_M_contact 19 = .ok (.invokevirtual 54, 3) := by decide +kernel
theorem d_M_contact_22 : decode b_M_contact 22 = .ok (.ifCond .ne 13, 3) := by decide +kernel
theorem d_M_contact_25 : decode b_M_contact 25 = .ok (.iload_n 3, 1) := by decide +kernel
theorem d_M_contact_26 : decode b_M_contact 26 = .ok (.i2l, 1) := by decide +kernel
theorem d_M_contact_27 : decode b_M_contact 27 = .ok (.lconst 0, 1) := by decide +kernel
theorem d_M_contact_28 : decode b_M_contact 28 = .ok (.lconst 1, 1) := by decide +kernel
theorem d_M_contact_29 : decode b_M_contact 29 = .ok (.invokestatic 46, 3) := by decide +kernel
theorem d_M_contact_32 : decode b_M_contact 32 = .ok (.ifCond .ne 7, 3) := by decide +kernel
theorem d_M_contact_35 : decode b_M_contact 35 = .ok (.ldc2_w 117, 3) := by decide +kernel
theorem d_M_contact_38 : decode b_M_contact 38 = .ok (.lreturn, 1) := by decide +kernel
theorem d_M_contact_39 : decode b_M_contact 39 = .ok (.ldc2_w 144, 3) := by decide +kernel
theorem d_M_contact_42 : decode b_M_contact 42 = .ok (.aload_n 0, 1) := by decide +kernel
theorem d_M_contact_43 : decode b_M_contact 43 = .ok (.invokevirtual 79, 3) := by decide +kernel
theorem d_M_contact_46 : decode b_M_contact 46 = .ok (.i2l, 1) := by decide +kernel
theorem d_M_contact_47 : decode b_M_contact 47 = .ok (.lsub, 1) := by decide +kernel
theorem d_M_contact_48 : decode b_M_contact 48 = .ok (.ldc2_w 144, 3) := by decide +kernel
theorem d_M_contact_51 : decode b_M_contact 51 = .ok (.lmul, 1) := by decide +kernel
theorem d_M_contact_52 : decode b_M_contact 52 = .ok (.invokestatic 148, 3) := by decide +kernel
theorem d_M_contact_55 : decode b_M_contact 55 = .ok (.lstore 4, 2) := by decide +kernel
theorem d_M_contact_57 : decode b_M_contact 57 = .ok (.aload_n 0, 1) := by decide +kernel
theorem d_M_contact_58 : decode b_M_contact 58 = .ok (.iload_n 1, 1) := by decide +kernel
theorem d_M_contact_59 : decode b_M_contact 59 = .ok (.iload_n 2, 1) := by decide +kernel
theorem d_M_contact_60 : decode b_M_contact 60 = .ok (.invokevirtual 124, 3) := by decide +kernel
theorem d_M_contact_63 : decode b_M_contact 63 = .ok (.i2l, 1) := by decide +kernel
theorem d_M_contact_64 : decode b_M_contact 64 = .ok (.lstore 6, 2) := by decide +kernel
theorem d_M_contact_66 : decode b_M_contact 66 = .ok (.lload 6, 2) := by decide +kernel
theorem d_M_contact_68 : decode b_M_contact 68 = .ok (.lload 6, 2) := by decide +kernel
theorem d_M_contact_70 : decode b_M_contact 70 = .ok (.lmul, 1) := by decide +kernel
theorem d_M_contact_71 : decode b_M_contact 71 = .ok (.aload_n 0, 1) := by decide +kernel
theorem d_M_contact_72 : decode b_M_contact 72 = .ok (.invokevirtual 79, 3) := by decide +kernel
theorem d_M_contact_75 : decode b_M_contact 75 = .ok (.i2l, 1) := by decide +kernel
theorem d_M_contact_76 : decode b_M_contact 76 = .ok (.lmul, 1) := by decide +kernel
theorem d_M_contact_77 : decode b_M_contact 77 = .ok (.invokestatic 148, 3) := by decide +kernel
theorem d_M_contact_80 : decode b_M_contact 80 = .ok (.lstore 8, 2) := by decide +kernel
theorem d_M_contact_82 : decode b_M_contact 82 = .ok (.aload_n 0, 1) := by decide +kernel
theorem d_M_contact_83 : decode b_M_contact 83 = .ok (.iload_n 1, 1) := by decide +kernel
theorem d_M_contact_84 : decode b_M_contact 84 = .ok (.invokevirtual 152, 3) := by decide +kernel
theorem d_M_contact_87 : decode b_M_contact 87 = .ok (.aload_n 0, 1) := by decide +kernel
theorem d_M_contact_88 : decode b_M_contact 88 = .ok (.iload_n 2, 1) := by decide +kernel
theorem d_M_contact_89 : decode b_M_contact 89 = .ok (.invokevirtual 152, 3) := by decide +kernel
theorem d_M_contact_92 : decode b_M_contact 92 = .ok (.ladd, 1) := by decide +kernel
theorem d_M_contact_93 : decode b_M_contact 93 = .ok (.lstore 10, 2) := by decide +kernel
theorem d_M_contact_95 : decode b_M_contact 95 = .ok (.iload_n 3, 1) := by decide +kernel
theorem d_M_contact_96 : decode b_M_contact 96 = .ok (.ifCond .ne 26, 3) := by decide +kernel
theorem d_M_contact_99 : decode b_M_contact 99 = .ok (.lload 10, 2) := by decide +kernel
theorem d_M_contact_101 : decode b_M_contact 101 = .ok (.lload 8, 2) := by decide +kernel
theorem d_M_contact_103 : decode b_M_contact 103 = .ok (.lsub, 1) := by decide +kernel
theorem d_M_contact_104 : decode b_M_contact 104 = .ok (.lconst 1, 1) := by decide +kernel
theorem d_M_contact_105 : decode b_M_contact 105 = .ok (.lsub, 1) := by decide +kernel
theorem d_M_contact_106 : decode b_M_contact 106 = .ok (.ldc2_w 155, 3) := by decide +kernel
theorem d_M_contact_109 : decode b_M_contact 109 = .ok (.lmul, 1) := by decide +kernel
theorem d_M_contact_110 : decode b_M_contact 110 = .ok (.ldc2_w 157, 3) := by decide +kernel
theorem d_M_contact_113 : decode b_M_contact 113 = .ok (.lload 4, 2) := by decide +kernel
theorem d_M_contact_115 : decode b_M_contact 115 = .ok (.lconst 1, 1) := by decide +kernel
theorem d_M_contact_116 : decode b_M_contact 116 = .ok (.ladd, 1) := by decide +kernel
theorem d_M_contact_117 : decode b_M_contact 117 = .ok (.lmul, 1) := by decide +kernel
theorem d_M_contact_118 : decode b_M_contact 118 = .ok (.ldiv, 1) := by decide +kernel
theorem d_M_contact_119 : decode b_M_contact 119 = .ok (.goto 25, 3) := by decide +kernel
theorem d_M_contact_122 : decode b_M_contact 122 = .ok (.lload 10, 2) := by decide +kernel
theorem d_M_contact_124 : decode b_M_contact 124 = .ok (.ldc2_w 77, 3) := by decide +kernel
theorem d_M_contact_127 : decode b_M_contact 127 = .ok (.ladd, 1) := by decide +kernel
theorem d_M_contact_128 : decode b_M_contact 128 = .ok (.lload 8, 2) := by decide +kernel
theorem d_M_contact_130 : decode b_M_contact 130 = .ok (.lsub, 1) := by decide +kernel
theorem d_M_contact_131 : decode b_M_contact 131 = .ok (.ldc2_w 155, 3) := by decide +kernel
theorem d_M_contact_134 : decode b_M_contact 134 = .ok (.lmul, 1) := by decide +kernel
theorem d_M_contact_135 : decode b_M_contact 135 = .ok (.ldc2_w 159, 3) := by decide +kernel
theorem d_M_contact_138 : decode b_M_contact 138 = .ok (.lload 4, 2) := by decide +kernel
theorem d_M_contact_140 : decode b_M_contact 140 = .ok (.lmul, 1) := by decide +kernel
theorem d_M_contact_141 : decode b_M_contact 141 = .ok (.ldiv, 1) := by decide +kernel
theorem d_M_contact_142 : decode b_M_contact 142 = .ok (.lconst 1, 1) := by decide +kernel
theorem d_M_contact_143 : decode b_M_contact 143 = .ok (.ladd, 1) := by decide +kernel
theorem d_M_contact_144 : decode b_M_contact 144 = .ok (.lstore 12, 2) := by decide +kernel
theorem d_M_contact_146 : decode b_M_contact 146 = .ok (.lload 12, 2) := by decide +kernel
theorem d_M_contact_148 : decode b_M_contact 148 = .ok (.lconst 0, 1) := by decide +kernel
theorem d_M_contact_149 : decode b_M_contact 149 = .ok (.lcmp, 1) := by decide +kernel
theorem d_M_contact_150 : decode b_M_contact 150 = .ok (.ifCond .ge 7, 3) := by decide +kernel
theorem d_M_contact_153 : decode b_M_contact 153 = .ok (.lconst 0, 1) := by decide +kernel
theorem d_M_contact_154 : decode b_M_contact 154 = .ok (.goto 5, 3) := by decide +kernel
theorem d_M_contact_157 : decode b_M_contact 157 = .ok (.lload 12, 2) := by decide +kernel
theorem d_M_contact_159 : decode b_M_contact 159 = .ok (.lreturn, 1) := by decide +kernel
theorem d_M_shiftFor_0 : decode b_M_shiftFor 0 = .ok (.aload_n 0, 1) := by decide +kernel
theorem d_M_shiftFor_1 : decode b_M_shiftFor 1 = .ok (.iload_n 1, 1) := by decide +kernel
theorem d_M_shiftFor_2 : decode b_M_shiftFor 2 = .ok (.iload_n 2, 1) := by decide +kernel
theorem d_M_shiftFor_3 : decode b_M_shiftFor 3 = .ok (.invokevirtual 114, 3) := by decide +kernel
theorem d_M_shiftFor_6 : decode b_M_shiftFor 6 = .ok (.ifCond .eq 28, 3) := by decide +kernel
theorem d_M_shiftFor_9 : decode b_M_shiftFor 9 = .ok (.iload_n 3, 1) := by decide +kernel
theorem d_M_shiftFor_10 : decode b_M_shiftFor 10 = .ok (.i2l, 1) := by decide +kernel
theorem d_M_shiftFor_11 : decode b_M_shiftFor 11 = .ok (.lconst 1, 1) := by decide +kernel
theorem d_M_shiftFor_12 : decode b_M_shiftFor 12 = .ok (.ldc2_w 161, 3) := by decide +kernel
theorem d_M_shiftFor_15 : decode b_M_shiftFor 15 = .ok (.invokestatic 46, 3) := by decide +kernel
theorem d_M_shiftFor_18 : decode b_M_shiftFor 18 = .ok (.ifCond .eq 16, 3) := by decide +kernel
theorem d_M_shiftFor_21 : decode b_M_shiftFor 21 = .ok (.iload 4, 2) := by decide +kernel
theorem d_M_shiftFor_23 : decode b_M_shiftFor 23 = .ok (.i2l, 1) := by decide +kernel
theorem d_M_shiftFor_24 : decode b_M_shiftFor 24 = .ok (.lconst 1, 1) := by decide +kernel
theorem d_M_shiftFor_25 : decode b_M_shiftFor 25 = .ok (.ldc2_w 161, 3) := by decide +kernel
theorem d_M_shiftFor_28 : decode b_M_shiftFor 28 = .ok (.invokestatic 46, 3) := by decide +kernel
theorem d_M_shiftFor_31 : decode b_M_shiftFor 31 = .ok (.ifCond .ne 7, 3) := by decide +kernel
theorem d_M_shiftFor_34 : decode b_M_shiftFor 34 = .ok (.sipush (-1000), 3) := by decide +kernel
theorem d_M_shiftFor_37 : decode b_M_shiftFor 37 = .ok (.ireturn, 1) := by decide +kernel
theorem d_M_shiftFor_38 : decode b_M_shiftFor 38 = .ok (.aload_n 0, 1) := by decide +kernel
theorem d_M_shiftFor_39 : decode b_M_shiftFor 39 = .ok (.iload_n 1, 1) := by decide +kernel
theorem d_M_shiftFor_40 : decode b_M_shiftFor 40 = .ok (.iload_n 2, 1) := by decide +kernel
theorem d_M_shiftFor_41 : decode b_M_shiftFor 41 = .ok (.invokevirtual 119, 3) := by decide +kernel
theorem d_M_shiftFor_44 : decode b_M_shiftFor 44 = .ok (.ifCond .eq 7, 3) := by decide +kernel
theorem d_M_shiftFor_47 : decode b_M_shiftFor 47 = .ok (.sipush (-1002), 3) := by decide +kernel
theorem d_M_shiftFor_50 : decode b_M_shiftFor 50 = .ok (.ireturn, 1) := by decide +kernel
theorem d_M_shiftFor_51 : decode b_M_shiftFor 51 = .ok (.aload_n 0, 1) := by decide +kernel
theorem d_M_shiftFor_52 : decode b_M_shiftFor 52 = .ok (.getfield 11, 3) := by decide +kernel
theorem d_M_shiftFor_55 : decode b_M_shiftFor 55 = .ok (.bipush 17, 2) := by decide +kernel
theorem d_M_shiftFor_57 : decode b_M_shiftFor 57 = .ok (.iload_n 1, 1) := by decide +kernel
theorem d_M_shiftFor_58 : decode b_M_shiftFor 58 = .ok (.iadd, 1) := by decide +kernel
theorem d_M_shiftFor_59 : decode b_M_shiftFor 59 = .ok (.iaload, 1) := by decide +kernel
theorem d_M_shiftFor_60 : decode b_M_shiftFor 60 = .ok (.istore 5, 2) := by decide +kernel
theorem d_M_shiftFor_62 : decode b_M_shiftFor 62 = .ok (.sipush (-1001), 3) := by decide +kernel
theorem d_M_shiftFor_65 : decode b_M_shiftFor 65 = .ok (.istore 6, 2) := by decide +kernel
theorem d_M_shiftFor_67 : decode b_M_shiftFor 67 = .ok (.bipush 100, 2) := by decide +kernel
theorem d_M_shiftFor_69 : decode b_M_shiftFor 69 = .ok (.istore 7, 2) := by decide +kernel
theorem d_M_shiftFor_71 : decode b_M_shiftFor 71 = .ok (.iload 7, 2) := by decide +kernel
theorem d_M_shiftFor_73 : decode b_M_shiftFor 73 = .ok (.bipush (-50), 2) := by decide +kernel
theorem d_M_shiftFor_75 : decode b_M_shiftFor 75 = .ok (.if_icmp .lt 50, 3) := by decide +kernel
theorem d_M_shiftFor_78 : decode b_M_shiftFor 78 = .ok (.aload_n 0, 1) := by decide +kernel
theorem d_M_shiftFor_79 : decode b_M_shiftFor 79 = .ok (.getfield 11, 3) := by decide +kernel
theorem d_M_shiftFor_82 : decode b_M_shiftFor 82 = .ok (.bipush 17, 2) := by decide +kernel
theorem d_M_shiftFor_84 : decode b_M_shiftFor 84 = .ok (.iload_n 1, 1) := by decide +kernel
theorem d_M_shiftFor_85 : decode b_M_shiftFor 85 = .ok (.iadd, 1) := by decide +kernel
theorem d_M_shiftFor_86 : decode b_M_shiftFor 86 = .ok (.iload 7, 2) := by decide +kernel
theorem d_M_shiftFor_88 : decode b_M_shiftFor 88 = .ok (.iastore, 1) := by decide +kernel
theorem d_M_shiftFor_89 : decode b_M_shiftFor 89 = .ok (.aload_n 0, 1) := by decide +kernel
theorem d_M_shiftFor_90 : decode b_M_shiftFor 90 = .ok (.iload_n 1, 1) := by decide +kernel
theorem d_M_shiftFor_91 : decode b_M_shiftFor 91 = .ok (.iload_n 2, 1) := by decide +kernel
theorem d_M_shiftFor_92 : decode b_M_shiftFor 92 = .ok (.invokevirtual 124, 3) := by decide +kernel
theorem d_M_shiftFor_95 : decode b_M_shiftFor 95 = .ok (.i2l, 1) := by decide +kernel
theorem d_M_shiftFor_96 : decode b_M_shiftFor 96 = .ok (.iload 4, 2) := by decide +kernel
theorem d_M_shiftFor_98 : decode b_M_shiftFor 98 = .ok (.i2l, 1) := by decide +kernel
theorem d_M_shiftFor_99 : decode b_M_shiftFor 99 = .ok (.lmul, 1) := by decide +kernel
theorem d_M_shiftFor_100 : decode b_M_shiftFor 100 = .ok (.ldc2_w 71, 3) := by decide +kernel
theorem d_M_shiftFor_103 : decode b_M_shiftFor 103 = .ok (.iload_n 3, 1) := by decide +kernel
theorem d_M_shiftFor_104 : decode b_M_shiftFor 104 = .ok (.i2l, 1) := by decide +kernel
theorem d_M_shiftFor_105 : decode b_M_shiftFor 105 = .ok (.lmul, 1) := by decide +kernel
theorem d_M_shiftFor_106 : decode b_M_shiftFor 106 = .ok (.lcmp, 1) := by decide +kernel
theorem d_M_shiftFor_107 : decode b_M_shiftFor 107 = .ok (.ifCond .ne 8, 3) := by decide +kernel
theorem d_M_shiftFor_110 : decode b_M_shiftFor 110 = .ok (.iload 7, 2) := by decide +kernel
theorem d_M_shiftFor_112 : decode b_M_shiftFor 112 = .ok (.goto 5, 3) := by decide +kernel
theorem d_M_shiftFor_115 : decode b_M_shiftFor 115 = .ok (.iload 6, 2) := by decide +kernel
theorem d_M_shiftFor_117 : decode b_M_shiftFor 117 = .ok (.istore 6, 2) := by decide +kernel
theorem d_M_shiftFor_119 : decode b_M_shiftFor 119 = .ok (.iinc 7 (-1), 3) := by decide +kernel
theorem d_M_shiftFor_122 : decode b_M_shiftFor 122 = .ok (.goto (-51), 3) := by decide +kernel
theorem d_M_shiftFor_125 : decode b_M_shiftFor 125 = .ok (.aload_n 0, 1) := by decide +kernel
theorem d_M_shiftFor_126 : decode b_M_shiftFor 126 = .ok (.getfield 11, 3) := by decide +kernel
theorem d_M_shiftFor_129 : decode b_M_shiftFor 129 = .ok (.bipush 17, 2) := by decide +kernel
theorem d_M_shiftFor_131 : decode b_M_shiftFor 131 = .ok (.iload_n 1, 1) := by decide +kernel
theorem d_M_shiftFor_132 : decode b_M_shiftFor 132 = .ok (.iadd, 1) := by decide +kernel
theorem d_M_shiftFor_133 : decode b_M_shiftFor 133 = .ok (.iload 5, 2) := by decide +kernel
theorem d_M_shiftFor_135 : decode b_M_shiftFor 135 = .ok (.iastore, 1) := by decide +kernel
theorem d_M_shiftFor_136 : decode b_M_shiftFor 136 = .ok (.iload 6, 2) := by decide +kernel
theorem d_M_shiftFor_138 : decode b_M_shiftFor 138 = .ok (.ireturn, 1) := by decide +kernel
theorem d_M_pair_0 : decode b_M_pair 0 = .ok (.aload_n 0, 1) := by decide +kernel
theorem d_M_pair_1 : decode b_M_pair 1 = .ok (.iload_n 1, 1) := by decide +kernel
theorem d_M_pair_2 : decode b_M_pair 2 = .ok (.iload_n 2, 1) := by decide +kernel
theorem d_M_pair_3 : decode b_M_pair 3 = .ok (.invokevirtual 114, 3) := by decide +kernel
theorem d_M_pair_6 : decode b_M_pair 6 = .ok (.ifCond .ne 5, 3) := by decide +kernel
theorem d_M_pair_9 : decode b_M_pair 9 = .ok (.iconst (-1), 1) := by decide +kernel
theorem d_M_pair_10 : decode b_M_pair 10 = .ok (.ireturn, 1) := by decide +kernel
theorem d_M_pair_11 : decode b_M_pair 11 = .ok (.aload_n 0, 1) := by decide +kernel
theorem d_M_pair_12 : decode b_M_pair 12 = .ok (.getfield 11, 3) := by decide +kernel
theorem d_M_pair_15 : decode b_M_pair 15 = .ok (.bipush 34, 2) := by decide +kernel
theorem d_M_pair_17 : decode b_M_pair 17 = .ok (.iaload, 1) := by decide +kernel
theorem d_M_pair_18 : decode b_M_pair 18 = .ok (.bipush 9, 2) := by decide +kernel
theorem d_M_pair_20 : decode b_M_pair 20 = .ok (.if_icmp .ne 6, 3) := by decide +kernel
theorem d_M_pair_23 : decode b_M_pair 23 = .ok (.bipush (-3), 2) := by decide +kernel
theorem d_M_pair_25 : decode b_M_pair 25 = .ok (.ireturn, 1) := by decide +kernel
theorem d_M_pair_26 : decode b_M_pair 26 = .ok (.aload_n 0, 1) := by decide +kernel
theorem d_M_pair_27 : decode b_M_pair 27 = .ok (.getfield 11, 3) := by decide +kernel
theorem d_M_pair_30 : decode b_M_pair 30 = .ok (.bipush 35, 2) := by decide +kernel
theorem d_M_pair_32 : decode b_M_pair 32 = .ok (.aload_n 0, 1) := by decide +kernel
theorem d_M_pair_33 : decode b_M_pair 33 = .ok (.getfield 11, 3) := by decide +kernel
theorem d_M_pair_36 : decode b_M_pair 36 = .ok (.bipush 34, 2) := by decide +kernel
theorem d_M_pair_38 : decode b_M_pair 38 = .ok (.iaload, 1) := by decide +kernel
theorem d_M_pair_39 : decode b_M_pair 39 = .ok (.iadd, 1) := by decide +kernel
theorem d_M_pair_40 : decode b_M_pair 40 = .ok (.iload_n 1, 1) := by decide +kernel
theorem d_M_pair_41 : decode b_M_pair 41 = .ok (.iastore, 1) := by decide +kernel
theorem d_M_pair_42 : decode b_M_pair 42 = .ok (.aload_n 0, 1) := by decide +kernel
theorem d_M_pair_43 : decode b_M_pair 43 = .ok (.getfield 11, 3) := by decide +kernel
theorem d_M_pair_46 : decode b_M_pair 46 = .ok (.bipush 44, 2) := by decide +kernel
theorem d_M_pair_48 : decode b_M_pair 48 = .ok (.aload_n 0, 1) := by decide +kernel
theorem d_M_pair_49 : decode b_M_pair 49 = .ok (.getfield 11, 3) := by decide +kernel
theorem d_M_pair_52 : decode b_M_pair 52 = .ok (.bipush 34, 2) := by decide +kernel
theorem d_M_pair_54 : decode b_M_pair 54 = .ok (.iaload, 1) := by decide +kernel
theorem d_M_pair_55 : decode b_M_pair 55 = .ok (.iadd, 1) := by decide +kernel
theorem d_M_pair_56 : decode b_M_pair 56 = .ok (.iload_n 2, 1) := by decide +kernel
theorem d_M_pair_57 : decode b_M_pair 57 = .ok (.iastore, 1) := by decide +kernel
theorem d_M_pair_58 : decode b_M_pair 58 = .ok (.aload_n 0, 1) := by decide +kernel
theorem d_M_pair_59 : decode b_M_pair 59 = .ok (.getfield 11, 3) := by decide +kernel
theorem d_M_pair_62 : decode b_M_pair 62 = .ok (.bipush 34, 2) := by decide +kernel
theorem d_M_pair_64 : decode b_M_pair 64 = .ok (.dup2, 1) := by decide +kernel
theorem d_M_pair_65 : decode b_M_pair 65 = .ok (.iaload, 1) := by decide +kernel
theorem d_M_pair_66 : decode b_M_pair 66 = .ok (.iconst 1, 1) := by decide +kernel
theorem d_M_pair_67 : decode b_M_pair 67 = .ok (.iadd, 1) := by decide +kernel
theorem d_M_pair_68 : decode b_M_pair 68 = .ok (.iastore, 1) := by decide +kernel
theorem d_M_pair_69 : decode b_M_pair 69 = .ok (.aload_n 0, 1) := by decide +kernel
theorem d_M_pair_70 : decode b_M_pair 70 = .ok (.getfield 11, 3) := by decide +kernel
theorem d_M_pair_73 : decode b_M_pair 73 = .ok (.bipush 34, 2) := by decide +kernel
theorem d_M_pair_75 : decode b_M_pair 75 = .ok (.iaload, 1) := by decide +kernel
theorem d_M_pair_76 : decode b_M_pair 76 = .ok (.ireturn, 1) := by decide +kernel
theorem d_M_clear_0 : decode b_M_clear 0 = .ok (.aload_n 0, 1) := by decide +kernel
theorem d_M_clear_1 : decode b_M_clear 1 = .ok (.bipush 34, 2) := by decide +kernel
theorem d_M_clear_3 : decode b_M_clear 3 = .ok (.iconst 0, 1) := by decide +kernel
theorem d_M_clear_4 : decode b_M_clear 4 = .ok (.invokevirtual 73, 3) := by decide +kernel
theorem d_M_clear_7 : decode b_M_clear 7 = .ok (.ireturn, 1) := by decide +kernel
theorem d_M_faulty_0 : decode b_M_faulty 0 = .ok (.iconst 0, 1) := by decide +kernel
theorem d_M_faulty_1 : decode b_M_faulty 1 = .ok (.istore_n 1, 1) := by decide +kernel
theorem d_M_faulty_2 : decode b_M_faulty 2 = .ok (.iload_n 1, 1) := by decide +kernel
theorem d_M_faulty_3 : decode b_M_faulty 3 = .ok (.aload_n 0, 1) := by decide +kernel
theorem d_M_faulty_4 : decode b_M_faulty 4 = .ok (.getfield 11, 3) := by decide +kernel
theorem d_M_faulty_7 : decode b_M_faulty 7 = .ok (.bipush 34, 2) := by decide +kernel
theorem d_M_faulty_9 : decode b_M_faulty 9 = .ok (.iaload, 1) := by decide +kernel
theorem d_M_faulty_10 : decode b_M_faulty 10 = .ok (.if_icmp .ge 36, 3) := by decide +kernel
theorem d_M_faulty_13 : decode b_M_faulty 13 = .ok (.aload_n 0, 1) := by decide +kernel
theorem d_M_faulty_14 : decode b_M_faulty 14 = .ok (.aload_n 0, 1) := by decide +kernel
theorem d_M_faulty_15 : decode b_M_faulty 15 = .ok (.getfield 11, 3) := by decide +kernel
theorem d_M_faulty_18 : decode b_M_faulty 18 = .ok (.bipush 35, 2) := by decide +kernel
theorem d_M_faulty_20 : decode b_M_faulty 20 = .ok (.iload_n 1, 1) := by decide +kernel
theorem d_M_faulty_21 : decode b_M_faulty 21 = .ok (.iadd, 1) := by decide +kernel
theorem d_M_faulty_22 : decode b_M_faulty 22 = .ok (.iaload, 1) := by decide +kernel
theorem d_M_faulty_23 : decode b_M_faulty 23 = .ok (.aload_n 0, 1) := by decide +kernel
theorem d_M_faulty_24 : decode b_M_faulty 24 = .ok (.getfield 11, 3) := by decide +kernel
theorem d_M_faulty_27 : decode b_M_faulty 27 = .ok (.bipush 44, 2) := by decide +kernel
theorem d_M_faulty_29 : decode b_M_faulty 29 = .ok (.iload_n 1, 1) := by decide +kernel
theorem d_M_faulty_30 : decode b_M_faulty 30 = .ok (.iadd, 1) := by decide +kernel
theorem d_M_faulty_31 : decode b_M_faulty 31 = .ok (.iaload, 1) := by decide +kernel
theorem d_M_faulty_32 : decode b_M_faulty 32 = .ok (.invokevirtual 119, 3) := by decide +kernel
theorem d_M_faulty_35 : decode b_M_faulty 35 = .ok (.ifCond .eq 5, 3) := by decide +kernel
theorem d_M_faulty_38 : decode b_M_faulty 38 = .ok (.iload_n 1, 1) := by decide +kernel
theorem d_M_faulty_39 : decode b_M_faulty 39 = .ok (.ireturn, 1) := by decide +kernel
theorem d_M_faulty_40 : decode b_M_faulty 40 = .ok (.iinc 1 1, 3) := by decide +kernel
theorem d_M_faulty_43 : decode b_M_faulty 43 = .ok (.goto (-41), 3) := by decide +kernel
theorem d_M_faulty_46 : decode b_M_faulty 46 = .ok (.bipush (-2), 2) := by decide +kernel
theorem d_M_faulty_48 : decode b_M_faulty 48 = .ok (.ireturn, 1) := by decide +kernel
theorem d_M_train_0 : decode b_M_train 0 = .ok (.iload_n 1, 1) := by decide +kernel
theorem d_M_train_1 : decode b_M_train 1 = .ok (.i2l, 1) := by decide +kernel
theorem d_M_train_2 : decode b_M_train 2 = .ok (.lconst 0, 1) := by decide +kernel
theorem d_M_train_3 : decode b_M_train 3 = .ok (.lconst 1, 1) := by decide +kernel
theorem d_M_train_4 : decode b_M_train 4 = .ok (.invokestatic 46, 3) := by decide +kernel
theorem d_M_train_7 : decode b_M_train 7 = .ok (.ifCond .eq 13, 3) := by decide +kernel
theorem d_M_train_10 : decode b_M_train 10 = .ok (.aload_n 0, 1) := by decide +kernel
theorem d_M_train_11 : decode b_M_train 11 = .ok (.getfield 11, 3) := by decide +kernel
theorem d_M_train_14 : decode b_M_train 14 = .ok (.bipush 34, 2) := by decide +kernel
theorem d_M_train_16 : decode b_M_train 16 = .ok (.iaload, 1) := by decide +kernel
theorem d_M_train_17 : decode b_M_train 17 = .ok (.ifCond .ne 7, 3) := by decide +kernel
theorem d_M_train_20 : decode b_M_train 20 = .ok (.ldc2_w 117, 3) := by decide +kernel
theorem d_M_train_23 : decode b_M_train 23 = .ok (.lreturn, 1) := by decide +kernel
theorem d_M_train_24 : decode b_M_train 24 = .ok (.aload_n 0, 1) := by decide +kernel
theorem d_M_train_25 : decode b_M_train 25 = .ok (.invokevirtual 163, 3) := by decide +kernel
theorem d_M_train_28 : decode b_M_train 28 = .ok (.ifCond .lt 7, 3) := by decide +kernel
theorem d_M_train_31 : decode b_M_train 31 = .ok (.ldc2_w 122, 3) := by decide +kernel
theorem d_M_train_34 : decode b_M_train 34 = .ok (.lreturn, 1) := by decide +kernel
theorem d_M_train_35 : decode b_M_train 35 = .ok (.lconst 1, 1) := by decide +kernel
theorem d_M_train_36 : decode b_M_train 36 = .ok (.lstore_n 2, 1) := by decide +kernel
theorem d_M_train_37 : decode b_M_train 37 = .ok (.lconst 1, 1) := by decide +kernel
theorem d_M_train_38 : decode b_M_train 38 = .ok (.lstore 4, 2) := by decide +kernel
theorem d_M_train_40 : decode b_M_train 40 = .ok (.iconst 0, 1) := by decide +kernel
theorem d_M_train_41 : decode b_M_train 41 = .ok (.istore 6, 2) := by decide +kernel
theorem d_M_train_43 : decode b_M_train 43 = .ok (.iload 6, 2) := by decide +kernel
theorem d_M_train_45 : decode b_M_train 45 = .ok (.aload_n 0, 1) := by decide +kernel
theorem d_M_train_46 : decode b_M_train 46 = .ok (.getfield 11, 3) := by decide +kernel
theorem d_M_train_49 : decode b_M_train 49 = .ok (.bipush 34, 2) := by decide +kernel
theorem d_M_train_51 : decode b_M_train 51 = .ok (.iaload, 1) := by decide +kernel
theorem d_M_train_52 : decode b_M_train 52 = .ok (.if_icmp .ge 77, 3) := by decide +kernel
theorem d_M_train_55 : decode b_M_train 55 = .ok (.aload_n 0, 1) := by decide +kernel
theorem d_M_train_56 : decode b_M_train 56 = .ok (.getfield 11, 3) := by decide +kernel
theorem d_M_train_59 : decode b_M_train 59 = .ok (.bipush 35, 2) := by decide +kernel
theorem d_M_train_61 : decode b_M_train 61 = .ok (.iload 6, 2) := by decide +kernel
theorem d_M_train_63 : decode b_M_train 63 = .ok (.iadd, 1) := by decide +kernel
theorem d_M_train_64 : decode b_M_train 64 = .ok (.iaload, 1) := by decide +kernel
theorem d_M_train_65 : decode b_M_train 65 = .ok (.istore 7, 2) := by decide +kernel
theorem d_M_train_67 : decode b_M_train 67 = .ok (.aload_n 0, 1) := by decide +kernel
theorem d_M_train_68 : decode b_M_train 68 = .ok (.getfield 11, 3) := by decide +kernel
theorem d_M_train_71 : decode b_M_train 71 = .ok (.bipush 44, 2) := by decide +kernel
theorem d_M_train_73 : decode b_M_train 73 = .ok (.iload 6, 2) := by decide +kernel
theorem d_M_train_75 : decode b_M_train 75 = .ok (.iadd, 1) := by decide +kernel
theorem d_M_train_76 : decode b_M_train 76 = .ok (.iaload, 1) := by decide +kernel
theorem d_M_train_77 : decode b_M_train 77 = .ok (.istore 8, 2) := by decide +kernel
theorem d_M_train_79 : decode b_M_train 79 = .ok (.aload_n 0, 1) := by decide +kernel
theorem d_M_train_80 : decode b_M_train 80 = .ok (.lload_n 2, 1) := by decide +kernel
theorem d_M_train_81 : decode b_M_train 81 = .ok (.aload_n 0, 1) := by decide +kernel
theorem d_M_train_82 : decode b_M_train 82 = .ok (.iload 7, 2) := by decide +kernel
theorem d_M_train_84 : decode b_M_train 84 = .ok (.iload 8, 2) := by decide +kernel
theorem d_M_train_86 : decode b_M_train 86 = .ok (.invokevirtual 135, 3) := by decide +kernel
theorem d_M_train_89 : decode b_M_train 89 = .ok (.i2l, 1) := by decide +kernel
theorem d_M_train_90 : decode b_M_train 90 = .ok (.lmul, 1) := by decide +kernel
theorem d_M_train_91 : decode b_M_train 91 = .ok (.aload_n 0, 1) := by decide +kernel
theorem d_M_train_92 : decode b_M_train 92 = .ok (.iload 8, 2) := by decide +kernel
theorem d_M_train_94 : decode b_M_train 94 = .ok (.invokevirtual 104, 3) := by decide +kernel
theorem d_M_train_97 : decode b_M_train 97 = .ok (.i2l, 1) := by decide +kernel
theorem d_M_train_98 : decode b_M_train 98 = .ok (.lmul, 1) := by decide +kernel
theorem d_M_train_99 : decode b_M_train 99 = .ok (.lload 4, 2) := by decide +kernel
theorem d_M_train_101 : decode b_M_train 101 = .ok (.aload_n 0, 1) := by decide +kernel
theorem d_M_train_102 : decode b_M_train 102 = .ok (.iload 7, 2) := by decide +kernel
theorem d_M_train_104 : decode b_M_train 104 = .ok (.invokevirtual 104, 3) := by decide +kernel
theorem d_M_train_107 : decode b_M_train 107 = .ok (.i2l, 1) := by decide +kernel
theorem d_M_train_108 : decode b_M_train 108 = .ok (.lmul, 1) := by decide +kernel
theorem d_M_train_109 : decode b_M_train 109 = .ok (.invokevirtual 127, 3) := by decide +kernel
theorem d_M_train_112 : decode b_M_train 112 = .ok (.aload_n 0, 1) := by decide +kernel
theorem d_M_train_113 : decode b_M_train 113 = .ok (.getfield 107, 3) := by decide +kernel
theorem d_M_train_116 : decode b_M_train 116 = .ok (.lstore_n 2, 1) := by decide +kernel
theorem d_M_train_117 : decode b_M_train 117 = .ok (.aload_n 0, 1) := by decide +kernel
theorem d_M_train_118 : decode b_M_train 118 = .ok (.getfield 111, 3) := by decide +kernel
theorem d_M_train_121 : decode b_M_train 121 = .ok (.lstore 4, 2) := by decide +kernel
theorem d_M_train_123 : decode b_M_train 123 = .ok (.iinc 6 1, 3) := by decide +kernel
theorem d_M_train_126 : decode b_M_train 126 = .ok (.goto (-83), 3) := by decide +kernel
theorem d_M_train_129 : decode b_M_train 129 = .ok (.aload_n 0, 1) := by decide +kernel
theorem d_M_train_130 : decode b_M_train 130 = .ok (.iload_n 1, 1) := by decide +kernel
theorem d_M_train_131 : decode b_M_train 131 = .ok (.invokevirtual 131, 3) := by decide +kernel
theorem d_M_train_134 : decode b_M_train 134 = .ok (.lreturn, 1) := by decide +kernel
theorem d_M_closest_0 : decode b_M_closest 0 = .ok (.iload_n 1, 1) := by decide +kernel
theorem d_M_closest_1 : decode b_M_closest 1 = .ok (.i2l, 1) := by decide +kernel
theorem d_M_closest_2 : decode b_M_closest 2 = .ok (.lconst 0, 1) := by decide +kernel
theorem d_M_closest_3 : decode b_M_closest 3 = .ok (.ldc2_w 77, 3) := by decide +kernel
theorem d_M_closest_6 : decode b_M_closest 6 = .ok (.invokestatic 46, 3) := by decide +kernel
theorem d_M_closest_9 : decode b_M_closest 9 = .ok (.ifCond .eq 13, 3) := by decide +kernel
theorem d_M_closest_12 : decode b_M_closest 12 = .ok (.aload_n 0, 1) := by decide +kernel
theorem d_M_closest_13 : decode b_M_closest 13 = .ok (.getfield 11, 3) := by decide +kernel
theorem d_M_closest_16 : decode b_M_closest 16 = .ok (.bipush 34, 2) := by decide +kernel
theorem d_M_closest_18 : decode b_M_closest 18 = .ok (.iaload, 1) := by decide +kernel
theorem d_M_closest_19 : decode b_M_closest 19 = .ok (.ifCond .ne 7, 3) := by decide +kernel
theorem d_M_closest_22 : decode b_M_closest 22 = .ok (.ldc2_w 117, 3) := by decide +kernel
theorem d_M_closest_25 : decode b_M_closest 25 = .ok (.lreturn, 1) := by decide +kernel
theorem d_M_closest_26 : decode b_M_closest 26 = .ok (.aload_n 0, 1) := by decide +kernel
theorem d_M_closest_27 : decode b_M_closest 27 = .ok (.invokevirtual 163, 3) := by decide +kernel
theorem d_M_closest_30 : decode b_M_closest 30 = .ok (.ifCond .lt 7, 3) := by decide +kernel
theorem d_M_closest_33 : decode b_M_closest 33 = .ok (.ldc2_w 122, 3) := by decide +kernel
theorem d_M_closest_36 : decode b_M_closest 36 = .ok (.lreturn, 1) := by decide +kernel
theorem d_M_closest_37 : decode b_M_closest 37 = .ok (.iconst 0, 1) := by decide +kernel
theorem d_M_closest_38 : decode b_M_closest 38 = .ok (.istore_n 2, 1) := by decide +kernel
theorem d_M_closest_39 : decode b_M_closest 39 = .ok (.iconst 1, 1) := by decide +kernel
theorem d_M_closest_40 : decode b_M_closest 40 = .ok (.istore_n 3, 1) := by decide +kernel
theorem d_M_closest_41 : decode b_M_closest 41 = .ok (.iload_n 3, 1) := by decide +kernel
theorem d_M_closest_42 : decode b_M_closest 42 = .ok (.aload_n 0, 1) := by decide +kernel
theorem d_M_closest_43 : decode b_M_closest 43 = .ok (.getfield 11, 3) := by decide +kernel
theorem d_M_closest_46 : decode b_M_closest 46 = .ok (.bipush 34, 2) := by decide +kernel
theorem d_M_closest_48 : decode b_M_closest 48 = .ok (.iaload, 1) := by decide +kernel
theorem d_M_closest_49 : decode b_M_closest 49 = .ok (.if_icmp .ge 62, 3) := by decide +kernel
theorem d_M_closest_52 : decode b_M_closest 52 = .ok (.aload_n 0, 1) := by decide +kernel
theorem d_M_closest_53 : decode b_M_closest 53 = .ok (.aload_n 0, 1) := by decide +kernel
theorem d_M_closest_54 : decode b_M_closest 54 = .ok (.getfield 11, 3) := by decide +kernel
theorem d_M_closest_57 : decode b_M_closest 57 = .ok (.bipush 35, 2) := by decide +kernel
theorem d_M_closest_59 : decode b_M_closest 59 = .ok (.iload_n 3, 1) := by decide +kernel
theorem d_M_closest_60 : decode b_M_closest 60 = .ok (.iadd, 1) := by decide +kernel
theorem d_M_closest_61 : decode b_M_closest 61 = .ok (.iaload, 1) := by decide +kernel
theorem d_M_closest_62 : decode b_M_closest 62 = .ok (.aload_n 0, 1) := by decide +kernel
theorem d_M_closest_63 : decode b_M_closest 63 = .ok (.getfield 11, 3) := by decide +kernel
theorem d_M_closest_66 : decode b_M_closest 66 = .ok (.bipush 44, 2) := by decide +kernel
theorem d_M_closest_68 : decode b_M_closest 68 = .ok (.iload_n 3, 1) := by decide +kernel
theorem d_M_closest_69 : decode b_M_closest 69 = .ok (.iadd, 1) := by decide +kernel
theorem d_M_closest_70 : decode b_M_closest 70 = .ok (.iaload, 1) := by decide +kernel
theorem d_M_closest_71 : decode b_M_closest 71 = .ok (.invokevirtual 124, 3) := by decide +kernel
theorem d_M_closest_74 : decode b_M_closest 74 = .ok (.aload_n 0, 1) := by decide +kernel
theorem d_M_closest_75 : decode b_M_closest 75 = .ok (.aload_n 0, 1) := by decide +kernel
theorem d_M_closest_76 : decode b_M_closest 76 = .ok (.getfield 11, 3) := by decide +kernel
theorem d_M_closest_79 : decode b_M_closest 79 = .ok (.bipush 35, 2) := by decide +kernel
theorem d_M_closest_81 : decode b_M_closest 81 = .ok (.iload_n 2, 1) := by decide +kernel
theorem d_M_closest_82 : decode b_M_closest 82 = .ok (.iadd, 1) := by decide +kernel
theorem d_M_closest_83 : decode b_M_closest 83 = .ok (.iaload, 1) := by decide +kernel
theorem d_M_closest_84 : decode b_M_closest 84 = .ok (.aload_n 0, 1) := by decide +kernel
theorem d_M_closest_85 : decode b_M_closest 85 = .ok (.getfield 11, 3) := by decide +kernel
theorem d_M_closest_88 : decode b_M_closest 88 = .ok (.bipush 44, 2) := by decide +kernel
theorem d_M_closest_90 : decode b_M_closest 90 = .ok (.iload_n 2, 1) := by decide +kernel
theorem d_M_closest_91 : decode b_M_closest 91 = .ok (.iadd, 1) := by decide +kernel
theorem d_M_closest_92 : decode b_M_closest 92 = .ok (.iaload, 1) := by decide +kernel
theorem d_M_closest_93 : decode b_M_closest 93 = .ok (.invokevirtual 124, 3) := by decide +kernel
theorem d_M_closest_96 : decode b_M_closest 96 = .ok (.if_icmp .ge 7, 3) := by decide +kernel
theorem d_M_closest_99 : decode b_M_closest 99 = .ok (.iload_n 3, 1) := by decide +kernel
theorem d_M_closest_100 : decode b_M_closest 100 = .ok (.goto 4, 3) := by decide +kernel
theorem d_M_closest_103 : decode b_M_closest 103 = .ok (.iload_n 2, 1) := by decide +kernel
theorem d_M_closest_104 : decode b_M_closest 104 = .ok (.istore_n 2, 1) := by decide +kernel
theorem d_M_closest_105 : decode b_M_closest 105 = .ok (.iinc 3 1, 3) := by decide +kernel
theorem d_M_closest_108 : decode b_M_closest 108 = .ok (.goto (-67), 3) := by decide +kernel
theorem d_M_closest_111 : decode b_M_closest 111 = .ok (.aload_n 0, 1) := by decide +kernel
theorem d_M_closest_112 : decode b_M_closest 112 = .ok (.aload_n 0, 1) := by decide +kernel
theorem d_M_closest_113 : decode b_M_closest 113 = .ok (.aload_n 0, 1) := by decide +kernel
theorem d_M_closest_114 : decode b_M_closest 114 = .ok (.getfield 11, 3) := by decide +kernel
theorem d_M_closest_117 : decode b_M_closest 117 = .ok (.bipush 35, 2) := by decide +kernel
theorem d_M_closest_119 : decode b_M_closest 119 = .ok (.iload_n 2, 1) := by decide +kernel
theorem d_M_closest_120 : decode b_M_closest 120 = .ok (.iadd, 1) := by decide +kernel
theorem d_M_closest_121 : decode b_M_closest 121 = .ok (.iaload, 1) := by decide +kernel
theorem d_M_closest_122 : decode b_M_closest 122 = .ok (.aload_n 0, 1) := by decide +kernel
theorem d_M_closest_123 : decode b_M_closest 123 = .ok (.getfield 11, 3) := by decide +kernel
theorem d_M_closest_126 : decode b_M_closest 126 = .ok (.bipush 44, 2) := by decide +kernel
theorem d_M_closest_128 : decode b_M_closest 128 = .ok (.iload_n 2, 1) := by decide +kernel
theorem d_M_closest_129 : decode b_M_closest 129 = .ok (.iadd, 1) := by decide +kernel
theorem d_M_closest_130 : decode b_M_closest 130 = .ok (.iaload, 1) := by decide +kernel
theorem d_M_closest_131 : decode b_M_closest 131 = .ok (.invokevirtual 124, 3) := by decide +kernel
theorem d_M_closest_134 : decode b_M_closest 134 = .ok (.i2l, 1) := by decide +kernel
theorem d_M_closest_135 : decode b_M_closest 135 = .ok (.ldc2_w 71, 3) := by decide +kernel
theorem d_M_closest_138 : decode b_M_closest 138 = .ok (.invokevirtual 127, 3) := by decide +kernel
theorem d_M_closest_141 : decode b_M_closest 141 = .ok (.iload_n 1, 1) := by decide +kernel
theorem d_M_closest_142 : decode b_M_closest 142 = .ok (.ifCond .ne 8, 3) := by decide +kernel
theorem d_M_closest_145 : decode b_M_closest 145 = .ok (.iload_n 2, 1) := by decide +kernel
theorem d_M_closest_146 : decode b_M_closest 146 = .ok (.i2l, 1) := by decide +kernel
theorem d_M_closest_147 : decode b_M_closest 147 = .ok (.goto 10, 3) := by decide +kernel
theorem d_M_closest_150 : decode b_M_closest 150 = .ok (.aload_n 0, 1) := by decide +kernel
theorem d_M_closest_151 : decode b_M_closest 151 = .ok (.iload_n 1, 1) := by decide +kernel
theorem d_M_closest_152 : decode b_M_closest 152 = .ok (.iconst 1, 1) := by decide +kernel
theorem d_M_closest_153 : decode b_M_closest 153 = .ok (.isub, 1) := by decide +kernel
theorem d_M_closest_154 : decode b_M_closest 154 = .ok (.invokevirtual 131, 3) := by decide +kernel
theorem d_M_closest_157 : decode b_M_closest 157 = .ok (.lreturn, 1) := by decide +kernel
theorem d_M_areSet_0 : decode b_M_areSet 0 = .ok (.iload_n 0, 1) := by decide +kernel
theorem d_M_areSet_1 : decode b_M_areSet 1 = .ok (.i2l, 1) := by decide +kernel
theorem d_M_areSet_2 : decode b_M_areSet 2 = .ok (.ldc2_w 62, 3) := by decide +kernel
theorem d_M_areSet_5 : decode b_M_areSet 5 = .ok (.ldc2_w 64, 3) := by decide +kernel
theorem d_M_areSet_8 : decode b_M_areSet 8 = .ok (.invokestatic 46, 3) := by decide +kernel
theorem d_M_areSet_11 : decode b_M_areSet 11 = .ok (.ifCond .eq 21, 3) := by decide +kernel
theorem d_M_areSet_14 : decode b_M_areSet 14 = .ok (.iload_n 1, 1) := by decide +kernel
theorem d_M_areSet_15 : decode b_M_areSet 15 = .ok (.i2l, 1) := by decide +kernel
theorem d_M_areSet_16 : decode b_M_areSet 16 = .ok (.ldc2_w 62, 3) := by decide +kernel
theorem d_M_areSet_19 : decode b_M_areSet 19 = .ok (.ldc2_w 64, 3) := by decide +kernel
theorem d_M_areSet_22 : decode b_M_areSet 22 = .ok (.invokestatic 46, 3) := by decide +kernel
theorem d_M_areSet_25 : decode b_M_areSet 25 = .ok (.ifCond .eq 7, 3) := by decide +kernel
theorem d_M_areSet_28 : decode b_M_areSet 28 = .ok (.iconst 1, 1) := by decide +kernel
theorem d_M_areSet_29 : decode b_M_areSet 29 = .ok (.goto 4, 3) := by decide +kernel
theorem d_M_areSet_32 : decode b_M_areSet 32 = .ok (.iconst 0, 1) := by decide +kernel
theorem d_M_areSet_33 : decode b_M_areSet 33 = .ok (.ireturn, 1) := by decide +kernel
theorem d_M_puts_0 : decode b_M_puts 0 = .ok (.iconst 2, 1) := by decide +kernel
theorem d_M_puts_1 : decode b_M_puts 1 = .ok (.iload_n 1, 1) := by decide +kernel
theorem d_M_puts_2 : decode b_M_puts 2 = .ok (.iload_n 2, 1) := by decide +kernel
theorem d_M_puts_3 : decode b_M_puts 3 = .ok (.iadd, 1) := by decide +kernel
theorem d_M_puts_4 : decode b_M_puts 4 = .ok (.imul, 1) := by decide +kernel
theorem d_M_puts_5 : decode b_M_puts 5 = .ok (.iload_n 3, 1) := by decide +kernel
theorem d_M_puts_6 : decode b_M_puts 6 = .ok (.irem, 1) := by decide +kernel
theorem d_M_puts_7 : decode b_M_puts 7 = .ok (.ifCond .ne 7, 3) := by decide +kernel
theorem d_M_puts_10 : decode b_M_puts 10 = .ok (.iconst 1, 1) := by decide +kernel
theorem d_M_puts_11 : decode b_M_puts 11 = .ok (.goto 4, 3) := by decide +kernel
theorem d_M_puts_14 : decode b_M_puts 14 = .ok (.iconst 0, 1) := by decide +kernel
theorem d_M_puts_15 : decode b_M_puts 15 = .ok (.istore 4, 2) := by decide +kernel
theorem d_M_puts_17 : decode b_M_puts 17 = .ok (.iload_n 3, 1) := by decide +kernel
theorem d_M_puts_18 : decode b_M_puts 18 = .ok (.iconst 1, 1) := by decide +kernel
theorem d_M_puts_19 : decode b_M_puts 19 = .ok (.if_icmp .eq 23, 3) := by decide +kernel
theorem d_M_puts_22 : decode b_M_puts 22 = .ok (.iload_n 1, 1) := by decide +kernel
theorem d_M_puts_23 : decode b_M_puts 23 = .ok (.iload_n 2, 1) := by decide +kernel
theorem d_M_puts_24 : decode b_M_puts 24 = .ok (.iadd, 1) := by decide +kernel
theorem d_M_puts_25 : decode b_M_puts 25 = .ok (.aload_n 0, 1) := by decide +kernel
theorem d_M_puts_26 : decode b_M_puts 26 = .ok (.getfield 24, 3) := by decide +kernel
theorem d_M_puts_29 : decode b_M_puts 29 = .ok (.iload_n 3, 1) := by decide +kernel
theorem d_M_puts_30 : decode b_M_puts 30 = .ok (.iaload, 1) := by decide +kernel
theorem d_M_puts_31 : decode b_M_puts 31 = .ok (.imul, 1) := by decide +kernel
theorem d_M_puts_32 : decode b_M_puts 32 = .ok (.sipush 1000, 3) := by decide +kernel
theorem d_M_puts_35 : decode b_M_puts 35 = .ok (.iload_n 2, 1) := by decide +kernel
theorem d_M_puts_36 : decode b_M_puts 36 = .ok (.iconst 2, 1) := by decide +kernel
theorem d_M_puts_37 : decode b_M_puts 37 = .ok (.iadd, 1) := by decide +kernel
theorem d_M_puts_38 : decode b_M_puts 38 = .ok (.imul, 1) := by decide +kernel
theorem d_M_puts_39 : decode b_M_puts 39 = .ok (.if_icmp .le 7, 3) := by decide +kernel
theorem d_M_puts_42 : decode b_M_puts 42 = .ok (.iconst 1, 1) := by decide +kernel
theorem d_M_puts_43 : decode b_M_puts 43 = .ok (.goto 4, 3) := by decide +kernel
theorem d_M_puts_46 : decode b_M_puts 46 = .ok (.iconst 0, 1) := by decide +kernel
theorem d_M_puts_47 : decode b_M_puts 47 = .ok (.istore 5, 2) := by decide +kernel
theorem d_M_puts_49 : decode b_M_puts 49 = .ok (.iload 4, 2) := by decide +kernel
theorem d_M_puts_51 : decode b_M_puts 51 = .ok (.ifCond .eq 12, 3) := by decide +kernel
theorem d_M_puts_54 : decode b_M_puts 54 = .ok (.iload 5, 2) := by decide +kernel
theorem d_M_puts_56 : decode b_M_puts 56 = .ok (.ifCond .eq 7, 3) := by decide +kernel
theorem d_M_puts_59 : decode b_M_puts 59 = .ok (.iconst 1, 1) := by decide +kernel
theorem d_M_puts_60 : decode b_M_puts 60 = .ok (.goto 24, 3) := by decide +kernel
theorem d_M_puts_63 : decode b_M_puts 63 = .ok (.iload 5, 2) := by decide +kernel
theorem d_M_puts_65 : decode b_M_puts 65 = .ok (.ifCond .eq 7, 3) := by decide +kernel
theorem d_M_puts_68 : decode b_M_puts 68 = .ok (.iconst (-1), 1) := by decide +kernel
theorem d_M_puts_69 : decode b_M_puts 69 = .ok (.goto 15, 3) := by decide +kernel
theorem d_M_puts_72 : decode b_M_puts 72 = .ok (.iload 4, 2) := by decide +kernel
theorem d_M_puts_74 : decode b_M_puts 74 = .ok (.ifCond .eq 8, 3) := by decide +kernel
theorem d_M_puts_77 : decode b_M_puts 77 = .ok (.bipush (-2), 2) := by decide +kernel
theorem d_M_puts_79 : decode b_M_puts 79 = .ok (.goto 5, 3) := by decide +kernel
theorem d_M_puts_82 : decode b_M_puts 82 = .ok (.bipush (-3), 2) := by decide +kernel
theorem d_M_puts_84 : decode b_M_puts 84 = .ok (.ireturn, 1) := by decide +kernel
theorem d_M_together_0 : decode b_M_together 0 = .ok (.iload_n 1, 1) := by decide +kernel
theorem d_M_together_1 : decode b_M_together 1 = .ok (.iload_n 2, 1) := by decide +kernel
theorem d_M_together_2 : decode b_M_together 2 = .ok (.invokestatic 166, 3) := by decide +kernel
theorem d_M_together_5 : decode b_M_together 5 = .ok (.ifCond .eq 25, 3) := by decide +kernel
theorem d_M_together_8 : decode b_M_together 8 = .ok (.iload_n 3, 1) := by decide +kernel
theorem d_M_together_9 : decode b_M_together 9 = .ok (.i2l, 1) := by decide +kernel
theorem d_M_together_10 : decode b_M_together 10 = .ok (.lconst 1, 1) := by decide +kernel
theorem d_M_together_11 : decode b_M_together 11 = .ok (.ldc2_w 169, 3) := by decide +kernel
theorem d_M_together_14 : decode b_M_together 14 = .ok (.invokestatic 46, 3) := by decide +kernel
theorem d_M_together_17 : decode b_M_together 17 = .ok (.ifCond .eq 13, 3) := by decide +kernel
theorem d_M_together_20 : decode b_M_together 20 = .ok (.aload_n 0, 1) := by decide +kernel
theorem d_M_together_21 : decode b_M_together 21 = .ok (.iload_n 1, 1) := by decide +kernel
theorem d_M_together_22 : decode b_M_together 22 = .ok (.iload_n 2, 1) := by decide +kernel
theorem d_M_together_23 : decode b_M_together 23 = .ok (.iload_n 3, 1) := by decide +kernel
theorem d_M_together_24 : decode b_M_together 24 = .ok (.invokevirtual 171, 3) := by decide +kernel
theorem d_M_together_27 : decode b_M_together 27 = .ok (.goto 6, 3) := by decide +kernel
theorem d_M_together_30 : decode b_M_together 30 = .ok (.sipush (-1000), 3) := by decide +kernel
theorem d_M_together_33 : decode b_M_together 33 = .ok (.ireturn, 1) := by decide +kernel
theorem d_M_most_0 : decode b_M_most 0 = .ok (.iload_n 1, 1) := by decide +kernel
theorem d_M_most_1 : decode b_M_most 1 = .ok (.iload_n 2, 1) := by decide +kernel
theorem d_M_most_2 : decode b_M_most 2 = .ok (.invokestatic 166, 3) := by decide +kernel
theorem d_M_most_5 : decode b_M_most 5 = .ok (.ifCond .ne 5, 3) := by decide +kernel
theorem d_M_most_8 : decode b_M_most 8 = .ok (.iconst (-1), 1) := by decide +kernel
theorem d_M_most_9 : decode b_M_most 9 = .ok (.ireturn, 1) := by decide +kernel
theorem d_M_most_10 : decode b_M_most 10 = .ok (.bipush 8, 2) := by decide +kernel
theorem d_M_most_12 : decode b_M_most 12 = .ok (.istore_n 3, 1) := by decide +kernel
theorem d_M_most_13 : decode b_M_most 13 = .ok (.aload_n 0, 1) := by decide +kernel
theorem d_M_most_14 : decode b_M_most 14 = .ok (.iload_n 1, 1) := by decide +kernel
theorem d_M_most_15 : decode b_M_most 15 = .ok (.iload_n 2, 1) := by decide +kernel
theorem d_M_most_16 : decode b_M_most 16 = .ok (.iload_n 3, 1) := by decide +kernel
theorem d_M_most_17 : decode b_M_most 17 = .ok (.invokevirtual 171, 3) := by decide +kernel
theorem d_M_most_20 : decode b_M_most 20 = .ok (.iconst 1, 1) := by decide +kernel
theorem d_M_most_21 : decode b_M_most 21 = .ok (.if_icmp .eq 9, 3) := by decide +kernel
theorem d_M_most_24 : decode b_M_most 24 = .ok (.iinc 3 (-1), 3) := by decide +kernel
theorem d_M_most_27 : decode b_M_most 27 = .ok (.goto (-14), 3) := by decide +kernel
theorem d_M_most_30 : decode b_M_most 30 = .ok (.iload_n 3, 1) := by decide +kernel
theorem d_M_most_31 : decode b_M_most 31 = .ok (.ireturn, 1) := by decide +kernel
theorem d_M_planets_0 : decode b_M_planets 0 = .ok (.iload_n 1, 1) := by decide +kernel
theorem d_M_planets_1 : decode b_M_planets 1 = .ok (.iload_n 2, 1) := by decide +kernel
theorem d_M_planets_2 : decode b_M_planets 2 = .ok (.invokestatic 166, 3) := by decide +kernel
theorem d_M_planets_5 : decode b_M_planets 5 = .ok (.ifCond .eq 45, 3) := by decide +kernel
theorem d_M_planets_8 : decode b_M_planets 8 = .ok (.iload_n 3, 1) := by decide +kernel
theorem d_M_planets_9 : decode b_M_planets 9 = .ok (.i2l, 1) := by decide +kernel
theorem d_M_planets_10 : decode b_M_planets 10 = .ok (.lconst 0, 1) := by decide +kernel
theorem d_M_planets_11 : decode b_M_planets 11 = .ok (.ldc2_w 77, 3) := by decide +kernel
theorem d_M_planets_14 : decode b_M_planets 14 = .ok (.invokestatic 46, 3) := by decide +kernel
theorem d_M_planets_17 : decode b_M_planets 17 = .ok (.ifCond .eq 33, 3) := by decide +kernel
theorem d_M_planets_20 : decode b_M_planets 20 = .ok (.iload 4, 2) := by decide +kernel
theorem d_M_planets_22 : decode b_M_planets 22 = .ok (.i2l, 1) := by decide +kernel
theorem d_M_planets_23 : decode b_M_planets 23 = .ok (.lconst 0, 1) := by decide +kernel
theorem d_M_planets_24 : decode b_M_planets 24 = .ok (.ldc2_w 77, 3) := by decide +kernel
theorem d_M_planets_27 : decode b_M_planets 27 = .ok (.invokestatic 46, 3) := by decide +kernel
theorem d_M_planets_30 : decode b_M_planets 30 = .ok (.ifCond .eq 20, 3) := by decide +kernel
theorem d_M_planets_33 : decode b_M_planets 33 = .ok (.iload_n 3, 1) := by decide +kernel
theorem d_M_planets_34 : decode b_M_planets 34 = .ok (.iload 4, 2) := by decide +kernel
theorem d_M_planets_36 : decode b_M_planets 36 = .ok (.if_icmp .eq 14, 3) := by decide +kernel
theorem d_M_planets_39 : decode b_M_planets 39 = .ok (.iload 5, 2) := by decide +kernel
theorem d_M_planets_41 : decode b_M_planets 41 = .ok (.i2l, 1) := by decide +kernel
theorem d_M_planets_42 : decode b_M_planets 42 = .ok (.lconst 0, 1) := by decide +kernel
theorem d_M_planets_43 : decode b_M_planets 43 = .ok (.lconst 1, 1) := by decide +kernel
theorem d_M_planets_44 : decode b_M_planets 44 = .ok (.invokestatic 46, 3) := by decide +kernel
theorem d_M_planets_47 : decode b_M_planets 47 = .ok (.ifCond .ne 7, 3) := by decide +kernel
theorem d_M_planets_50 : decode b_M_planets 50 = .ok (.ldc2_w 117, 3) := by decide +kernel
theorem d_M_planets_53 : decode b_M_planets 53 = .ok (.lreturn, 1) := by decide +kernel
theorem d_M_planets_54 : decode b_M_planets 54 = .ok (.iload_n 1, 1) := by decide +kernel
theorem d_M_planets_55 : decode b_M_planets 55 = .ok (.iconst 2, 1) := by decide +kernel
theorem d_M_planets_56 : decode b_M_planets 56 = .ok (.iload_n 2, 1) := by decide +kernel
theorem d_M_planets_57 : decode b_M_planets 57 = .ok (.imul, 1) := by decide +kernel
theorem d_M_planets_58 : decode b_M_planets 58 = .ok (.iadd, 1) := by decide +kernel
theorem d_M_planets_59 : decode b_M_planets 59 = .ok (.istore 6, 2) := by decide +kernel
theorem d_M_planets_61 : decode b_M_planets 61 = .ok (.iconst 3, 1) := by decide +kernel
theorem d_M_planets_62 : decode b_M_planets 62 = .ok (.iload_n 3, 1) := by decide +kernel
theorem d_M_planets_63 : decode b_M_planets 63 = .ok (.isub, 1) := by decide +kernel
theorem d_M_planets_64 : decode b_M_planets 64 = .ok (.iload 4, 2) := by decide +kernel
theorem d_M_planets_66 : decode b_M_planets 66 = .ok (.isub, 1) := by decide +kernel
theorem d_M_planets_67 : decode b_M_planets 67 = .ok (.istore 7, 2) := by decide +kernel
theorem d_M_planets_69 : decode b_M_planets 69 = .ok (.iload 4, 2) := by decide +kernel
theorem d_M_planets_71 : decode b_M_planets 71 = .ok (.iconst 2, 1) := by decide +kernel
theorem d_M_planets_72 : decode b_M_planets 72 = .ok (.if_icmp .ne 7, 3) := by decide +kernel
theorem d_M_planets_75 : decode b_M_planets 75 = .ok (.iload_n 1, 1) := by decide +kernel
theorem d_M_planets_76 : decode b_M_planets 76 = .ok (.goto 5, 3) := by decide +kernel
theorem d_M_planets_79 : decode b_M_planets 79 = .ok (.iload 6, 2) := by decide +kernel
theorem d_M_planets_81 : decode b_M_planets 81 = .ok (.istore 8, 2) := by decide +kernel
theorem d_M_planets_83 : decode b_M_planets 83 = .ok (.iload_n 3, 1) := by decide +kernel
theorem d_M_planets_84 : decode b_M_planets 84 = .ok (.iload 7, 2) := by decide +kernel
theorem d_M_planets_86 : decode b_M_planets 86 = .ok (.if_icmp .le 7, 3) := by decide +kernel
theorem d_M_planets_89 : decode b_M_planets 89 = .ok (.iconst 1, 1) := by decide +kernel
theorem d_M_planets_90 : decode b_M_planets 90 = .ok (.goto 4, 3) := by decide +kernel
theorem d_M_planets_93 : decode b_M_planets 93 = .ok (.iconst 0, 1) := by decide +kernel
theorem d_M_planets_94 : decode b_M_planets 94 = .ok (.istore 9, 2) := by decide +kernel
theorem d_M_planets_96 : decode b_M_planets 96 = .ok (.iload 4, 2) := by decide +kernel
theorem d_M_planets_98 : decode b_M_planets 98 = .ok (.iconst 1, 1) := by decide +kernel
theorem d_M_planets_99 : decode b_M_planets 99 = .ok (.if_icmp .ne 38, 3) := by decide +kernel
theorem d_M_planets_102 : decode b_M_planets 102 = .ok (.aload_n 0, 1) := by decide +kernel
theorem d_M_planets_103 : decode b_M_planets 103 = .ok (.iload 9, 2) := by decide +kernel
theorem d_M_planets_105 : decode b_M_planets 105 = .ok (.ifCond .eq 9, 3) := by decide +kernel
theorem d_M_planets_108 : decode b_M_planets 108 = .ok (.iload_n 1, 1) := by decide +kernel
theorem d_M_planets_109 : decode b_M_planets 109 = .ok (.ineg, 1) := by decide +kernel
theorem d_M_planets_110 : decode b_M_planets 110 = .ok (.i2l, 1) := by decide +kernel
theorem d_M_planets_111 : decode b_M_planets 111 = .ok (.goto 7, 3) := by decide +kernel
theorem d_M_planets_114 : decode b_M_planets 114 = .ok (.iload 6, 2) := by decide +kernel
theorem d_M_planets_116 : decode b_M_planets 116 = .ok (.ineg, 1) := by decide +kernel
theorem d_M_planets_117 : decode b_M_planets 117 = .ok (.i2l, 1) := by decide +kernel
theorem d_M_planets_118 : decode b_M_planets 118 = .ok (.iload 9, 2) := by decide +kernel
theorem d_M_planets_120 : decode b_M_planets 120 = .ok (.ifCond .eq 9, 3) := by decide +kernel
theorem d_M_planets_123 : decode b_M_planets 123 = .ok (.iload 6, 2) := by decide +kernel
theorem d_M_planets_125 : decode b_M_planets 125 = .ok (.i2l, 1) := by decide +kernel
theorem d_M_planets_126 : decode b_M_planets 126 = .ok (.goto 5, 3) := by decide +kernel
theorem d_M_planets_129 : decode b_M_planets 129 = .ok (.iload_n 1, 1) := by decide +kernel
theorem d_M_planets_130 : decode b_M_planets 130 = .ok (.i2l, 1) := by decide +kernel
theorem d_M_planets_131 : decode b_M_planets 131 = .ok (.invokevirtual 127, 3) := by decide +kernel
theorem d_M_planets_134 : decode b_M_planets 134 = .ok (.goto 52, 3) := by decide +kernel
theorem d_M_planets_137 : decode b_M_planets 137 = .ok (.iload 7, 2) := by decide +kernel
theorem d_M_planets_139 : decode b_M_planets 139 = .ok (.iconst 1, 1) := by decide +kernel
theorem d_M_planets_140 : decode b_M_planets 140 = .ok (.if_icmp .ne 7, 3) := by decide +kernel
theorem d_M_planets_143 : decode b_M_planets 143 = .ok (.iconst 1, 1) := by decide +kernel
theorem d_M_planets_144 : decode b_M_planets 144 = .ok (.goto 4, 3) := by decide +kernel
theorem d_M_planets_147 : decode b_M_planets 147 = .ok (.iconst 0, 1) := by decide +kernel
theorem d_M_planets_148 : decode b_M_planets 148 = .ok (.istore 10, 2) := by decide +kernel
theorem d_M_planets_150 : decode b_M_planets 150 = .ok (.aload_n 0, 1) := by decide +kernel
theorem d_M_planets_151 : decode b_M_planets 151 = .ok (.iload 10, 2) := by decide +kernel
theorem d_M_planets_153 : decode b_M_planets 153 = .ok (.ifCond .eq 11, 3) := by decide +kernel
theorem d_M_planets_156 : decode b_M_planets 156 = .ok (.iload_n 1, 1) := by decide +kernel
theorem d_M_planets_157 : decode b_M_planets 157 = .ok (.iload 6, 2) := by decide +kernel
theorem d_M_planets_159 : decode b_M_planets 159 = .ok (.iadd, 1) := by decide +kernel
theorem d_M_planets_160 : decode b_M_planets 160 = .ok (.i2l, 1) := by decide +kernel
theorem d_M_planets_161 : decode b_M_planets 161 = .ok (.goto 6, 3) := by decide +kernel
theorem d_M_planets_164 : decode b_M_planets 164 = .ok (.iload 8, 2) := by decide +kernel
theorem d_M_planets_166 : decode b_M_planets 166 = .ok (.i2l, 1) := by decide +kernel
theorem d_M_planets_167 : decode b_M_planets 167 = .ok (.iload 10, 2) := by decide +kernel
theorem d_M_planets_169 : decode b_M_planets 169 = .ok (.ifCond .eq 9, 3) := by decide +kernel
theorem d_M_planets_172 : decode b_M_planets 172 = .ok (.iload 8, 2) := by decide +kernel
theorem d_M_planets_174 : decode b_M_planets 174 = .ok (.i2l, 1) := by decide +kernel
theorem d_M_planets_175 : decode b_M_planets 175 = .ok (.goto 8, 3) := by decide +kernel
theorem d_M_planets_178 : decode b_M_planets 178 = .ok (.iload_n 1, 1) := by decide +kernel
theorem d_M_planets_179 : decode b_M_planets 179 = .ok (.iload 6, 2) := by decide +kernel
theorem d_M_planets_181 : decode b_M_planets 181 = .ok (.iadd, 1) := by decide +kernel
theorem d_M_planets_182 : decode b_M_planets 182 = .ok (.i2l, 1) := by decide +kernel
theorem d_M_planets_183 : decode b_M_planets 183 = .ok (.invokevirtual 127, 3) := by decide +kernel
theorem d_M_planets_186 : decode b_M_planets 186 = .ok (.aload_n 0, 1) := by decide +kernel
theorem d_M_planets_187 : decode b_M_planets 187 = .ok (.iload 5, 2) := by decide +kernel
theorem d_M_planets_189 : decode b_M_planets 189 = .ok (.invokevirtual 131, 3) := by decide +kernel
theorem d_M_planets_192 : decode b_M_planets 192 = .ok (.lreturn, 1) := by decide +kernel
theorem d_M_off_0 : decode b_M_off 0 = .ok (.ldc2_w 77, 3) := by decide +kernel
theorem d_M_off_3 : decode b_M_off 3 = .ok (.iload_n 0, 1) := by decide +kernel
theorem d_M_off_4 : decode b_M_off 4 = .ok (.iload_n 1, 1) := by decide +kernel
theorem d_M_off_5 : decode b_M_off 5 = .ok (.iadd, 1) := by decide +kernel
theorem d_M_off_6 : decode b_M_off 6 = .ok (.i2l, 1) := by decide +kernel
theorem d_M_off_7 : decode b_M_off 7 = .ok (.lmul, 1) := by decide +kernel
theorem d_M_off_8 : decode b_M_off 8 = .ok (.iload_n 3, 1) := by decide +kernel
theorem d_M_off_9 : decode b_M_off 9 = .ok (.i2l, 1) := by decide +kernel
theorem d_M_off_10 : decode b_M_off 10 = .ok (.lmul, 1) := by decide +kernel
theorem d_M_off_11 : decode b_M_off 11 = .ok (.iload_n 2, 1) := by decide +kernel
theorem d_M_off_12 : decode b_M_off 12 = .ok (.i2l, 1) := by decide +kernel
theorem d_M_off_13 : decode b_M_off 13 = .ok (.iload_n 0, 1) := by decide +kernel
theorem d_M_off_14 : decode b_M_off 14 = .ok (.i2l, 1) := by decide +kernel
theorem d_M_off_15 : decode b_M_off 15 = .ok (.lmul, 1) := by decide +kernel
theorem d_M_off_16 : decode b_M_off 16 = .ok (.lsub, 1) := by decide +kernel
theorem d_M_off_17 : decode b_M_off 17 = .ok (.lstore 4, 2) := by decide +kernel
theorem d_M_off_19 : decode b_M_off 19 = .ok (.lload 4, 2) := by decide +kernel
theorem d_M_off_21 : decode b_M_off 21 = .ok (.lconst 0, 1) := by decide +kernel
theorem d_M_off_22 : decode b_M_off 22 = .ok (.lcmp, 1) := by decide +kernel
theorem d_M_off_23 : decode b_M_off 23 = .ok (.ifCond .ge 9, 3) := by decide +kernel
theorem d_M_off_26 : decode b_M_off 26 = .ok (.lload 4, 2) := by decide +kernel
theorem d_M_off_28 : decode b_M_off 28 = .ok (.lneg, 1) := by decide +kernel
theorem d_M_off_29 : decode b_M_off 29 = .ok (.goto 5, 3) := by decide +kernel
theorem d_M_off_32 : decode b_M_off 32 = .ok (.lload 4, 2) := by decide +kernel
theorem d_M_off_34 : decode b_M_off 34 = .ok (.lreturn, 1) := by decide +kernel
theorem d_M_teethOf_0 : decode b_M_teethOf 0 = .ok (.iload_n 0, 1) := by decide +kernel
theorem d_M_teethOf_1 : decode b_M_teethOf 1 = .ok (.iload_n 2, 1) := by decide +kernel
theorem d_M_teethOf_2 : decode b_M_teethOf 2 = .ok (.iload_n 1, 1) := by decide +kernel
theorem d_M_teethOf_3 : decode b_M_teethOf 3 = .ok (.imul, 1) := by decide +kernel
theorem d_M_teethOf_4 : decode b_M_teethOf 4 = .ok (.iadd, 1) := by decide +kernel
theorem d_M_teethOf_5 : decode b_M_teethOf 5 = .ok (.iload_n 0, 1) := by decide +kernel
theorem d_M_teethOf_6 : decode b_M_teethOf 6 = .ok (.iadd, 1) := by decide +kernel
theorem d_M_teethOf_7 : decode b_M_teethOf 7 = .ok (.iconst 2, 1) := by decide +kernel
theorem d_M_teethOf_8 : decode b_M_teethOf 8 = .ok (.iload_n 1, 1) := by decide +kernel
theorem d_M_teethOf_9 : decode b_M_teethOf 9 = .ok (.imul, 1) := by decide +kernel
theorem d_M_teethOf_10 : decode b_M_teethOf 10 = .ok (.iadd, 1) := by decide +kernel
theorem d_M_teethOf_11 : decode b_M_teethOf 11 = .ok (.ireturn, 1) := by decide +kernel
theorem d_M_searches_0 : decode b_M_searches 0 = .ok (.aload_n 0, 1) := by decide +kernel
theorem d_M_searches_1 : decode b_M_searches 1 = .ok (.iconst 0, 1) := by decide +kernel
theorem d_M_searches_2 : decode b_M_searches 2 = .ok (.putfield 175, 3) := by decide +kernel
theorem d_M_searches_5 : decode b_M_searches 5 = .ok (.iload_n 1, 1) := by decide +kernel
theorem d_M_searches_6 : decode b_M_searches 6 = .ok (.istore 7, 2) := by decide +kernel
theorem d_M_searches_8 : decode b_M_searches 8 = .ok (.iload 7, 2) := by decide +kernel
theorem d_M_searches_10 : decode b_M_searches 10 = .ok (.iload_n 2, 1) := by decide +kernel
theorem d_M_searches_11 : decode b_M_searches 11 = .ok (.if_icmp .gt 134, 3) := by decide +kernel
theorem d_M_searches_14 : decode b_M_searches 14 = .ok (.iload_n 1, 1) := by decide +kernel
theorem d_M_searches_15 : decode b_M_searches 15 = .ok (.istore 8, 2) := by decide +kernel
theorem d_M_searches_17 : decode b_M_searches 17 = .ok (.iload 8, 2) := by decide +kernel
theorem d_M_searches_19 : decode b_M_searches 19 = .ok (.iload_n 2, 1) := by decide +kernel
theorem d_M_searches_20 : decode b_M_searches 20 = .ok (.if_icmp .gt 119, 3) := by decide +kernel
theorem d_M_searches_23 : decode b_M_searches 23 = .ok (.aload_n 0, 1) := by decide +kernel
theorem d_M_searches_24 : decode b_M_searches 24 = .ok (.iload 7, 2) := by decide +kernel
theorem d_M_searches_26 : decode b_M_searches 26 = .ok (.iload 8, 2) := by decide +kernel
theorem d_M_searches_28 : decode b_M_searches 28 = .ok (.iload_n 3, 1) := by decide +kernel
theorem d_M_searches_29 : decode b_M_searches 29 = .ok (.invokevirtual 171, 3) := by decide +kernel
theorem d_M_searches_32 : decode b_M_searches 32 = .ok (.iconst 1, 1) := by decide +kernel
theorem d_M_searches_33 : decode b_M_searches 33 = .ok (.if_icmp .ne 37, 3) := by decide +kernel
theorem d_M_searches_36 : decode b_M_searches 36 = .ok (.iload 7, 2) := by decide +kernel
theorem d_M_searches_38 : decode b_M_searches 38 = .ok (.iload 8, 2) := by decide +kernel
theorem d_M_searches_40 : decode b_M_searches 40 = .ok (.iload 4, 2) := by decide +kernel
theorem d_M_searches_42 : decode b_M_searches 42 = .ok (.iload 5, 2) := by decide +kernel
theorem d_M_searches_44 : decode b_M_searches 44 = .ok (.invokestatic 179, 3) := by decide +kernel
theorem d_M_searches_47 : decode b_M_searches 47 = .ok (.ldc2_w 183, 3) := by decide +kernel
theorem d_M_searches_50 : decode b_M_searches 50 = .ok (.lmul, 1) := by decide +kernel
theorem d_M_searches_51 : decode b_M_searches 51 = .ok (.iload 4, 2) := by decide +kernel
theorem d_M_searches_53 : decode b_M_searches 53 = .ok (.i2l, 1) := by decide +kernel
theorem d_M_searches_54 : decode b_M_searches 54 = .ok (.iload 6, 2) := by decide +kernel
theorem d_M_searches_56 : decode b_M_searches 56 = .ok (.i2l, 1) := by decide +kernel
theorem d_M_searches_57 : decode b_M_searches 57 = .ok (.lmul, 1) := by decide +kernel
theorem d_M_searches_58 : decode b_M_searches 58 = .ok (.iload 7, 2) := by decide +kernel
theorem d_M_searches_60 : decode b_M_searches 60 = .ok (.i2l, 1) := by decide +kernel
theorem d_M_searches_61 : decode b_M_searches 61 = .ok (.lmul, 1) := by decide +kernel
theorem d_M_searches_62 : decode b_M_searches 62 = .ok (.lcmp, 1) := by decide +kernel
theorem d_M_searches_63 : decode b_M_searches 63 = .ok (.ifCond .gt 7, 3) := by decide +kernel
theorem d_M_searches_66 : decode b_M_searches 66 = .ok (.iconst 1, 1) := by decide +kernel
theorem d_M_searches_67 : decode b_M_searches 67 = .ok (.goto 4, 3) := by decide +kernel
theorem d_M_searches_70 : decode b_M_searches 70 = .ok (.iconst 0, 1) := by decide +kernel
theorem d_M_searches_71 : decode b_M_searches 71 = .ok (.istore 9, 2) := by decide +kernel
theorem d_M_searches_73 : decode b_M_searches 73 = .ok (.aload_n 0, 1) := by decide +kernel
theorem d_M_searches_74 : decode b_M_searches 74 = .ok (.dup, 1) := by decide +kernel
theorem d_M_searches_75 : decode b_M_searches 75 = .ok (.getfield 175, 3) := by decide +kernel
theorem d_M_searches_78 : decode b_M_searches 78 = .ok (.iload 9, 2) := by decide +kernel
theorem d_M_searches_80 : decode b_M_searches 80 = .ok (.ifCond .eq 7, 3) := by decide +kernel
theorem d_M_searches_83 : decode b_M_searches 83 = .ok (.iconst 1, 1) := by decide +kernel
theorem d_M_searches_84 : decode b_M_searches 84 = .ok (.goto 4, 3) := by decide +kernel
theorem d_M_searches_87 : decode b_M_searches 87 = .ok (.iconst 0, 1) := by decide +kernel
theorem d_M_searches_88 : decode b_M_searches 88 = .ok (.iadd, 1) := by decide +kernel
theorem d_M_searches_89 : decode b_M_searches 89 = .ok (.putfield 175, 3) := by decide +kernel
theorem d_M_searches_92 : decode b_M_searches 92 = .ok (.iload 9, 2) := by decide +kernel
theorem d_M_searches_94 : decode b_M_searches 94 = .ok (.ifCond .eq 39, 3) := by decide +kernel
theorem d_M_searches_97 : decode b_M_searches 97 = .ok (.aload_n 0, 1) := by decide +kernel
theorem d_M_searches_98 : decode b_M_searches 98 = .ok (.getfield 175, 3) := by decide +kernel
theorem d_M_searches_101 : decode b_M_searches 101 = .ok (.iconst 1, 1) := by decide +kernel
theorem d_M_searches_102 : decode b_M_searches 102 = .ok (.if_icmp .eq 19, 3) := by decide +kernel
theorem d_M_searches_105 : decode b_M_searches 105 = .ok (.aload_n 0, 1) := by decide +kernel
theorem d_M_searches_106 : decode b_M_searches 106 = .ok (.iload 7, 2) := by decide +kernel
theorem d_M_searches_108 : decode b_M_searches 108 = .ok (.iload 8, 2) := by decide +kernel
theorem d_M_searches_110 : decode b_M_searches 110 = .ok (.iload_n 3, 1) := by decide +kernel
theorem d_M_searches_111 : decode b_M_searches 111 = .ok (.iload 4, 2) := by decide +kernel
theorem d_M_searches_113 : decode b_M_searches 113 = .ok (.iload 5, 2) := by decide +kernel
theorem d_M_searches_115 : decode b_M_searches 115 = .ok (.invokevirtual 185, 3) := by decide +kernel
theorem d_M_searches_118 : decode b_M_searches 118 = .ok (.ifCond .eq 15, 3) := by decide +kernel
theorem d_M_searches_121 : decode b_M_searches 121 = .ok (.aload_n 0, 1) := by decide +kernel
theorem d_M_searches_122 : decode b_M_searches 122 = .ok (.iload 7, 2) := by decide +kernel
theorem d_M_searches_124 : decode b_M_searches 124 = .ok (.putfield 189, 3) := by decide +kernel
theorem d_M_searches_127 : decode b_M_searches 127 = .ok (.aload_n 0, 1) := by decide +kernel
theorem d_M_searches_128 : decode b_M_searches 128 = .ok (.iload 8, 2) := by decide +kernel
theorem d_M_searches_130 : decode b_M_searches 130 = .ok (.putfield 192, 3) := by decide +kernel
theorem d_M_searches_133 : decode b_M_searches 133 = .ok (.iinc 8 1, 3) := by decide +kernel
theorem d_M_searches_136 : decode b_M_searches 136 = .ok (.goto (-119), 3) := by decide +kernel
theorem d_M_searches_139 : decode b_M_searches 139 = .ok (.iinc 7 1, 3) := by decide +kernel
theorem d_M_searches_142 : decode b_M_searches 142 = .ok (.goto (-134), 3) := by decide +kernel
theorem d_M_searches_145 : decode b_M_searches 145 = .ok (.return_, 1) := by decide +kernel
theorem d_M_isBetter_0 : decode b_M_isBetter 0 = .ok (.iload_n 1, 1) := by decide +kernel
theorem d_M_isBetter_1 : decode b_M_isBetter 1 = .ok (.iload_n 2, 1) := by decide +kernel
theorem d_M_isBetter_2 : decode b_M_isBetter 2 = .ok (.iload 4, 2) := by decide +kernel
theorem d_M_isBetter_4 : decode b_M_isBetter 4 = .ok (.iload 5, 2) := by decide +kernel
theorem d_M_isBetter_6 : decode b_M_isBetter 6 = .ok (.invokestatic 179, 3) := by decide +kernel
theorem d_M_isBetter_9 : decode b_M_isBetter 9 = .ok (.aload_n 0, 1) := by decide +kernel
theorem d_M_isBetter_10 : decode b_M_isBetter 10 = .ok (.getfield 189, 3) := by decide +kernel
theorem d_M_isBetter_13 : decode b_M_isBetter 13 = .ok (.i2l, 1) := by decide +kernel
theorem d_M_isBetter_14 : decode b_M_isBetter 14 = .ok (.lmul, 1) := by decide +kernel
theorem d_M_isBetter_15 : decode b_M_isBetter 15 = .ok (.aload_n 0, 1) := by decide +kernel
theorem d_M_isBetter_16 : decode b_M_isBetter 16 = .ok (.getfield 189, 3) := by decide +kernel
theorem d_M_isBetter_19 : decode b_M_isBetter 19 = .ok (.aload_n 0, 1) := by decide +kernel
theorem d_M_isBetter_20 : decode b_M_isBetter 20 = .ok (.getfield 192, 3) := by decide +kernel
theorem d_M_isBetter_23 : decode b_M_isBetter 23 = .ok (.iload 4, 2) := by decide +kernel
theorem d_M_isBetter_25 : decode b_M_isBetter 25 = .ok (.iload 5, 2) := by decide +kernel
theorem d_M_isBetter_27 : decode b_M_isBetter 27 = .ok (.invokestatic 179, 3) := by decide +kernel
theorem d_M_isBetter_30 : decode b_M_isBetter 30 = .ok (.iload_n 1, 1) := by decide +kernel
theorem d_M_isBetter_31 : decode b_M_isBetter 31 = .ok (.i2l, 1) := by decide +kernel
theorem d_M_isBetter_32 : decode b_M_isBetter 32 = .ok (.lmul, 1) := by decide +kernel
theorem d_M_isBetter_33 : decode b_M_isBetter 33 = .ok (.lsub, 1) := by decide +kernel
theorem d_M_isBetter_34 : decode b_M_isBetter 34 = .ok (.lstore 6, 2) := by decide +kernel
theorem d_M_isBetter_36 : decode b_M_isBetter 36 = .ok (.iload_n 1, 1) := by decide +kernel
theorem d_M_isBetter_37 : decode b_M_isBetter 37 = .ok (.iload_n 2, 1) := by decide +kernel
theorem d_M_isBetter_38 : decode b_M_isBetter 38 = .ok (.iload_n 3, 1) := by decide +kernel
theorem d_M_isBetter_39 : decode b_M_isBetter 39 = .ok (.invokestatic 195, 3) := by decide +kernel
theorem d_M_isBetter_42 : decode b_M_isBetter 42 = .ok (.aload_n 0, 1) := by decide +kernel
theorem d_M_isBetter_43 : decode b_M_isBetter 43 = .ok (.getfield 189, 3) := by decide +kernel
theorem d_M_isBetter_46 : decode b_M_isBetter 46 = .ok (.aload_n 0, 1) := by decide +kernel
theorem d_M_isBetter_47 : decode b_M_isBetter 47 = .ok (.getfield 192, 3) := by decide +kernel
theorem d_M_isBetter_50 : decode b_M_isBetter 50 = .ok (.iload_n 3, 1) := by decide +kernel
theorem d_M_isBetter_51 : decode b_M_isBetter 51 = .ok (.invokestatic 195, 3) := by decide +kernel
theorem d_M_isBetter_54 : decode b_M_isBetter 54 = .ok (.isub, 1) := by decide +kernel
theorem d_M_isBetter_55 : decode b_M_isBetter 55 = .ok (.istore 8, 2) := by decide +kernel
theorem d_M_isBetter_57 : decode b_M_isBetter 57 = .ok (.lload 6, 2) := by decide +kernel
theorem d_M_isBetter_59 : decode b_M_isBetter 59 = .ok (.lconst 0, 1) := by decide +kernel
theorem d_M_isBetter_60 : decode b_M_isBetter 60 = .ok (.lcmp, 1) := by decide +kernel
theorem d_M_isBetter_61 : decode b_M_isBetter 61 = .ok (.ifCond .lt 28, 3) := by decide +kernel
theorem d_M_isBetter_64 : decode b_M_isBetter 64 = .ok (.lload 6, 2) := by decide +kernel
theorem d_M_isBetter_66 : decode b_M_isBetter 66 = .ok (.lconst 0, 1) := by decide +kernel
theorem d_M_isBetter_67 : decode b_M_isBetter 67 = .ok (.lcmp, 1) := by decide +kernel
theorem d_M_isBetter_68 : decode b_M_isBetter 68 = .ok (.ifCond .ne 25, 3) := by decide +kernel
theorem d_M_isBetter_71 : decode b_M_isBetter 71 = .ok (.iload 8, 2) := by decide +kernel
theorem d_M_isBetter_73 : decode b_M_isBetter 73 = .ok (.ifCond .lt 16, 3) := by decide +kernel
theorem d_M_isBetter_76 : decode b_M_isBetter 76 = .ok (.iload 8, 2) := by decide +kernel
theorem d_M_isBetter_78 : decode b_M_isBetter 78 = .ok (.ifCond .ne 15, 3) := by decide +kernel
theorem d_M_isBetter_81 : decode b_M_isBetter 81 = .ok (.iload_n 1, 1) := by decide +kernel
theorem d_M_isBetter_82 : decode b_M_isBetter 82 = .ok (.aload_n 0, 1) := by decide +kernel
theorem d_M_isBetter_83 : decode b_M_isBetter 83 = .ok (.getfield 189, 3) := by decide +kernel
theorem d_M_isBetter_86 : decode b_M_isBetter 86 = .ok (.if_icmp .ge 7, 3) := by decide +kernel
theorem d_M_isBetter_89 : decode b_M_isBetter 89 = .ok (.iconst 1, 1) := by decide +kernel
theorem d_M_isBetter_90 : decode b_M_isBetter 90 = .ok (.goto 4, 3) := by decide +kernel
theorem d_M_isBetter_93 : decode b_M_isBetter 93 = .ok (.iconst 0, 1) := by decide +kernel
theorem d_M_isBetter_94 : decode b_M_isBetter 94 = .ok (.ireturn, 1) := by decide +kernel
theorem d_M_searched_0 : decode b_M_searched 0 = .ok (.iload_n 1, 1) := by decide +kernel
theorem d_M_searched_1 : decode b_M_searched 1 = .ok (.bipush 100, 2) := by decide +kernel
theorem d_M_searched_3 : decode b_M_searched 3 = .ok (.idiv, 1) := by decide +kernel
theorem d_M_searched_4 : decode b_M_searched 4 = .ok (.istore 6, 2) := by decide +kernel
theorem d_M_searched_6 : decode b_M_searched 6 = .ok (.iload_n 1, 1) := by decide +kernel
theorem d_M_searched_7 : decode b_M_searched 7 = .ok (.bipush 100, 2) := by decide +kernel
theorem d_M_searched_9 : decode b_M_searched 9 = .ok (.irem, 1) := by decide +kernel
theorem d_M_searched_10 : decode b_M_searched 10 = .ok (.istore 7, 2) := by decide +kernel
theorem d_M_searched_12 : decode b_M_searched 12 = .ok (.iload_n 3, 1) := by decide +kernel
theorem d_M_searched_13 : decode b_M_searched 13 = .ok (.bipush 100, 2) := by decide +kernel
theorem d_M_searched_15 : decode b_M_searched 15 = .ok (.idiv, 1) := by decide +kernel
theorem d_M_searched_16 : decode b_M_searched 16 = .ok (.istore 8, 2) := by decide +kernel
theorem d_M_searched_18 : decode b_M_searched 18 = .ok (.iload_n 3, 1) := by decide +kernel
theorem d_M_searched_19 : decode b_M_searched 19 = .ok (.bipush 100, 2) := by decide +kernel
theorem d_M_searched_21 : decode b_M_searched 21 = .ok (.irem, 1) := by decide +kernel
theorem d_M_searched_22 : decode b_M_searched 22 = .ok (.istore 9, 2) := by decide +kernel
theorem d_M_searched_24 : decode b_M_searched 24 = .ok (.iload 6, 2) := by decide +kernel
theorem d_M_searched_26 : decode b_M_searched 26 = .ok (.i2l, 1) := by decide +kernel
theorem d_M_searched_27 : decode b_M_searched 27 = .ok (.ldc2_w 62, 3) := by decide +kernel
theorem d_M_searched_30 : decode b_M_searched 30 = .ok (.ldc2_w 198, 3) := by decide +kernel
theorem d_M_searched_33 : decode b_M_searched 33 = .ok (.invokestatic 46, 3) := by decide +kernel
theorem d_M_searched_36 : decode b_M_searched 36 = .ok (.ifCond .eq 82, 3) := by decide +kernel
theorem d_M_searched_39 : decode b_M_searched 39 = .ok (.iload 7, 2) := by decide +kernel
theorem d_M_searched_41 : decode b_M_searched 41 = .ok (.i2l, 1) := by decide +kernel
theorem d_M_searched_42 : decode b_M_searched 42 = .ok (.iload 6, 2) := by decide +kernel
theorem d_M_searched_44 : decode b_M_searched 44 = .ok (.i2l, 1) := by decide +kernel
theorem d_M_searched_45 : decode b_M_searched 45 = .ok (.ldc2_w 198, 3) := by decide +kernel
theorem d_M_searched_48 : decode b_M_searched 48 = .ok (.invokestatic 46, 3) := by decide +kernel
theorem d_M_searched_51 : decode b_M_searched 51 = .ok (.ifCond .eq 67, 3) := by decide +kernel
theorem d_M_searched_54 : decode b_M_searched 54 = .ok (.iload_n 2, 1) := by decide +kernel
theorem d_M_searched_55 : decode b_M_searched 55 = .ok (.i2l, 1) := by decide +kernel
theorem d_M_searched_56 : decode b_M_searched 56 = .ok (.lconst 1, 1) := by decide +kernel
theorem d_M_searched_57 : decode b_M_searched 57 = .ok (.ldc2_w 169, 3) := by decide +kernel
theorem d_M_searched_60 : decode b_M_searched 60 = .ok (.invokestatic 46, 3) := by decide +kernel
theorem d_M_searched_63 : decode b_M_searched 63 = .ok (.ifCond .eq 55, 3) := by decide +kernel
theorem d_M_searched_66 : decode b_M_searched 66 = .ok (.iload 8, 2) := by decide +kernel
theorem d_M_searched_68 : decode b_M_searched 68 = .ok (.i2l, 1) := by decide +kernel
theorem d_M_searched_69 : decode b_M_searched 69 = .ok (.lconst 1, 1) := by decide +kernel
theorem d_M_searched_70 : decode b_M_searched 70 = .ok (.ldc2_w 64, 3) := by decide +kernel
theorem d_M_searched_73 : decode b_M_searched 73 = .ok (.invokestatic 46, 3) := by decide +kernel
theorem d_M_searched_76 : decode b_M_searched 76 = .ok (.ifCond .eq 42, 3) := by decide +kernel
theorem d_M_searched_79 : decode b_M_searched 79 = .ok (.iload 9, 2) := by decide +kernel
theorem d_M_searched_81 : decode b_M_searched 81 = .ok (.i2l, 1) := by decide +kernel
theorem d_M_searched_82 : decode b_M_searched 82 = .ok (.lconst 1, 1) := by decide +kernel
theorem d_M_searched_83 : decode b_M_searched 83 = .ok (.ldc2_w 64, 3) := by decide +kernel
theorem d_M_searched_86 : decode b_M_searched 86 = .ok (.invokestatic 46, 3) := by decide +kernel
theorem d_M_searched_89 : decode b_M_searched 89 = .ok (.ifCond .eq 29, 3) := by decide +kernel
theorem d_M_searched_92 : decode b_M_searched 92 = .ok (.iload 4, 2) := by decide +kernel
theorem d_M_searched_94 : decode b_M_searched 94 = .ok (.i2l, 1) := by decide +kernel
theorem d_M_searched_95 : decode b_M_searched 95 = .ok (.lconst 0, 1) := by decide +kernel
theorem d_M_searched_96 : decode b_M_searched 96 = .ok (.ldc2_w 200, 3) := by decide +kernel
theorem d_M_searched_99 : decode b_M_searched 99 = .ok (.invokestatic 46, 3) := by decide +kernel
theorem d_M_searched_102 : decode b_M_searched 102 = .ok (.ifCond .eq 16, 3) := by decide +kernel
theorem d_M_searched_105 : decode b_M_searched 105 = .ok (.iload 5, 2) := by decide +kernel
theorem d_M_searched_107 : decode b_M_searched 107 = .ok (.i2l, 1) := by decide +kernel
theorem d_M_searched_108 : decode b_M_searched 108 = .ok (.lconst 0, 1) := by decide +kernel
theorem d_M_searched_109 : decode b_M_searched 109 = .ok (.ldc2_w 99, 3) := by decide +kernel
theorem d_M_searched_112 : decode b_M_searched 112 = .ok (.invokestatic 46, 3) := by decide +kernel
theorem d_M_searched_115 : decode b_M_searched 115 = .ok (.ifCond .ne 5, 3) := by decide +kernel
theorem d_M_searched_118 : decode b_M_searched 118 = .ok (.iconst (-1), 1) := by decide +kernel
theorem d_M_searched_119 : decode b_M_searched 119 = .ok (.ireturn, 1) := by decide +kernel
theorem d_M_searched_120 : decode b_M_searched 120 = .ok (.aload_n 0, 1) := by decide +kernel
theorem d_M_searched_121 : decode b_M_searched 121 = .ok (.iload 6, 2) := by decide +kernel
theorem d_M_searched_123 : decode b_M_searched 123 = .ok (.iload 7, 2) := by decide +kernel
theorem d_M_searched_125 : decode b_M_searched 125 = .ok (.iload_n 2, 1) := by decide +kernel
theorem d_M_searched_126 : decode b_M_searched 126 = .ok (.iload 8, 2) := by decide +kernel
theorem d_M_searched_128 : decode b_M_searched 128 = .ok (.iload 9, 2) := by decide +kernel
theorem d_M_searched_130 : decode b_M_searched 130 = .ok (.iload 4, 2) := by decide +kernel
theorem d_M_searched_132 : decode b_M_searched 132 = .ok (.invokevirtual 202, 3) := by decide +kernel
theorem d_M_searched_135 : decode b_M_searched 135 = .ok (.iload 5, 2) := by decide +kernel
theorem d_M_searched_137 : decode b_M_searched 137 = .ok (.ifCond .ne 8, 3) := by decide +kernel
theorem d_M_searched_140 : decode b_M_searched 140 = .ok (.aload_n 0, 1) := by decide +kernel
theorem d_M_searched_141 : decode b_M_searched 141 = .ok (.getfield 175, 3) := by decide +kernel
theorem d_M_searched_144 : decode b_M_searched 144 = .ok (.ireturn, 1) := by decide +kernel
theorem d_M_searched_145 : decode b_M_searched 145 = .ok (.aload_n 0, 1) := by decide +kernel
theorem d_M_searched_146 : decode b_M_searched 146 = .ok (.getfield 175, 3) := by decide +kernel
theorem d_M_searched_149 : decode b_M_searched 149 = .ok (.ifCond .ne 6, 3) := by decide +kernel
theorem d_M_searched_152 : decode b_M_searched 152 = .ok (.bipush (-2), 2) := by decide +kernel
theorem d_M_searched_154 : decode b_M_searched 154 = .ok (.ireturn, 1) := by decide +kernel
theorem d_M_searched_155 : decode b_M_searched 155 = .ok (.iload 5, 2) := by decide +kernel
theorem d_M_searched_157 : decode b_M_searched 157 = .ok (.iconst 1, 1) := by decide +kernel
theorem d_M_searched_158 : decode b_M_searched 158 = .ok (.if_icmp .ne 10, 3) := by decide +kernel
theorem d_M_searched_161 : decode b_M_searched 161 = .ok (.aload_n 0, 1) := by decide +kernel
theorem d_M_searched_162 : decode b_M_searched 162 = .ok (.getfield 189, 3) := by decide +kernel
theorem d_M_searched_165 : decode b_M_searched 165 = .ok (.goto 28, 3) := by decide +kernel
theorem d_M_searched_168 : decode b_M_searched 168 = .ok (.iload 5, 2) := by decide +kernel
theorem d_M_searched_170 : decode b_M_searched 170 = .ok (.iconst 2, 1) := by decide +kernel
theorem d_M_searched_171 : decode b_M_searched 171 = .ok (.if_icmp .ne 10, 3) := by decide +kernel
theorem d_M_searched_174 : decode b_M_searched 174 = .ok (.aload_n 0, 1) := by decide +kernel
theorem d_M_searched_175 : decode b_M_searched 175 = .ok (.getfield 192, 3) := by decide +kernel
theorem d_M_searched_178 : decode b_M_searched 178 = .ok (.goto 15, 3) := by decide +kernel
theorem d_M_searched_181 : decode b_M_searched 181 = .ok (.aload_n 0, 1) := by decide +kernel
theorem d_M_searched_182 : decode b_M_searched 182 = .ok (.getfield 189, 3) := by decide +kernel
theorem d_M_searched_185 : decode b_M_searched 185 = .ok (.aload_n 0, 1) := by decide +kernel
theorem d_M_searched_186 : decode b_M_searched 186 = .ok (.getfield 192, 3) := by decide +kernel
theorem d_M_searched_189 : decode b_M_searched 189 = .ok (.iload_n 2, 1) := by decide +kernel
theorem d_M_searched_190 : decode b_M_searched 190 = .ok (.invokestatic 195, 3) := by decide +kernel
theorem d_M_searched_193 : decode b_M_searched 193 = .ok (.ireturn, 1) := by decide +kernel
theorem d_M_feed_0 : decode b_M_feed 0 = .ok (.iload_n 1, 1) := by decide +kernel
theorem d_M_feed_1 : decode b_M_feed 1 = .ok (.i2l, 1) := by decide +kernel
theorem d_M_feed_2 : decode b_M_feed 2 = .ok (.ldc2_w 206, 3) := by decide +kernel
theorem d_M_feed_5 : decode b_M_feed 5 = .ok (.ldc2_w 208, 3) := by decide +kernel
theorem d_M_feed_8 : decode b_M_feed 8 = .ok (.invokestatic 46, 3) := by decide +kernel
theorem d_M_feed_11 : decode b_M_feed 11 = .ok (.ifCond .ne 5, 3) := by decide +kernel
theorem d_M_feed_14 : decode b_M_feed 14 = .ok (.iconst (-1), 1) := by decide +kernel
theorem d_M_feed_15 : decode b_M_feed 15 = .ok (.ireturn, 1) := by decide +kernel
theorem d_M_feed_16 : decode b_M_feed 16 = .ok (.aload_n 0, 1) := by decide +kernel
theorem d_M_feed_17 : decode b_M_feed 17 = .ok (.getfield 210, 3) := by decide +kernel
theorem d_M_feed_20 : decode b_M_feed 20 = .ok (.bipush 80, 2) := by decide +kernel
theorem d_M_feed_22 : decode b_M_feed 22 = .ok (.if_icmp .ne 6, 3) := by decide +kernel
theorem d_M_feed_25 : decode b_M_feed 25 = .ok (.bipush (-3), 2) := by decide +kernel
theorem d_M_feed_27 : decode b_M_feed 27 = .ok (.ireturn, 1) := by decide +kernel
theorem d_M_feed_28 : decode b_M_feed 28 = .ok (.aload_n 0, 1) := by decide +kernel
theorem d_M_feed_29 : decode b_M_feed 29 = .ok (.getfield 27, 3) := by decide +kernel
theorem d_M_feed_32 : decode b_M_feed 32 = .ok (.aload_n 0, 1) := by decide +kernel
theorem d_M_feed_33 : decode b_M_feed 33 = .ok (.getfield 210, 3) := by decide +kernel
theorem d_M_feed_36 : decode b_M_feed 36 = .ok (.iload_n 1, 1) := by decide +kernel
theorem d_M_feed_37 : decode b_M_feed 37 = .ok (.iastore, 1) := by decide +kernel
theorem d_M_feed_38 : decode b_M_feed 38 = .ok (.aload_n 0, 1) := by decide +kernel
theorem d_M_feed_39 : decode b_M_feed 39 = .ok (.dup, 1) := by decide +kernel
theorem d_M_feed_40 : decode b_M_feed 40 = .ok (.getfield 210, 3) := by decide +kernel
theorem d_M_feed_43 : decode b_M_feed 43 = .ok (.iconst 1, 1) := by decide +kernel
theorem d_M_feed_44 : decode b_M_feed 44 = .ok (.iadd, 1) := by decide +kernel
theorem d_M_feed_45 : decode b_M_feed 45 = .ok (.putfield 210, 3) := by decide +kernel
theorem d_M_feed_48 : decode b_M_feed 48 = .ok (.aload_n 0, 1) := by decide +kernel
theorem d_M_feed_49 : decode b_M_feed 49 = .ok (.getfield 210, 3) := by decide +kernel
theorem d_M_feed_52 : decode b_M_feed 52 = .ok (.ireturn, 1) := by decide +kernel
theorem d_M_here_0 : decode b_M_here 0 = .ok (.aload_n 0, 1) := by decide +kernel
theorem d_M_here_1 : decode b_M_here 1 = .ok (.getfield 213, 3) := by decide +kernel
theorem d_M_here_4 : decode b_M_here 4 = .ok (.aload_n 0, 1) := by decide +kernel
theorem d_M_here_5 : decode b_M_here 5 = .ok (.getfield 210, 3) := by decide +kernel
theorem d_M_here_8 : decode b_M_here 8 = .ok (.if_icmp .ge 15, 3) := by decide +kernel
theorem d_M_here_11 : decode b_M_here 11 = .ok (.aload_n 0, 1) := by decide +kernel
theorem d_M_here_12 : decode b_M_here 12 = .ok (.getfield 27, 3) := by decide +kernel
theorem d_M_here_15 : decode b_M_here 15 = .ok (.aload_n 0, 1) := by decide +kernel
theorem d_M_here_16 : decode b_M_here 16 = .ok (.getfield 213, 3) := by decide +kernel
theorem d_M_here_19 : decode b_M_here 19 = .ok (.iaload, 1) := by decide +kernel
theorem d_M_here_20 : decode b_M_here 20 = .ok (.goto 4, 3) := by decide +kernel
theorem d_M_here_23 : decode b_M_here 23 = .ok (.iconst (-1), 1) := by decide +kernel
theorem d_M_here_24 : decode b_M_here 24 = .ok (.ireturn, 1) := by decide +kernel
theorem d_M_takes_0 : decode b_M_takes 0 = .ok (.aload_n 0, 1) := by decide +kernel
theorem d_M_takes_1 : decode b_M_takes 1 = .ok (.aload_n 0, 1) := by decide +kernel
theorem d_M_takes_2 : decode b_M_takes 2 = .ok (.getfield 216, 3) := by decide +kernel
theorem d_M_takes_5 : decode b_M_takes 5 = .ok (.ifCond .eq 15, 3) := by decide +kernel
theorem d_M_takes_8 : decode b_M_takes 8 = .ok (.aload_n 0, 1) := by decide +kernel
theorem d_M_takes_9 : decode b_M_takes 9 = .ok (.invokevirtual 220, 3) := by decide +kernel
theorem d_M_takes_12 : decode b_M_takes 12 = .ok (.iload_n 1, 1) := by decide +kernel
theorem d_M_takes_13 : decode b_M_takes 13 = .ok (.if_icmp .ne 7, 3) := by decide +kernel
theorem d_M_takes_16 : decode b_M_takes 16 = .ok (.iconst 1, 1) := by decide +kernel
theorem d_M_takes_17 : decode b_M_takes 17 = .ok (.goto 4, 3) := by decide +kernel
theorem d_M_takes_20 : decode b_M_takes 20 = .ok (.iconst 0, 1) := by decide +kernel
theorem d_M_takes_21 : decode b_M_takes 21 = .ok (.putfield 216, 3) := by decide +kernel
theorem d_M_takes_24 : decode b_M_takes 24 = .ok (.aload_n 0, 1) := by decide +kernel
theorem d_M_takes_25 : decode b_M_takes 25 = .ok (.dup, 1) := by decide +kernel
theorem d_M_takes_26 : decode b_M_takes 26 = .ok (.getfield 213, 3) := by decide +kernel
theorem d_M_takes_29 : decode b_M_takes 29 = .ok (.aload_n 0, 1) := by decide +kernel
theorem d_M_takes_30 : decode b_M_takes 30 = .ok (.getfield 216, 3) := by decide +kernel
theorem d_M_takes_33 : decode b_M_takes 33 = .ok (.ifCond .eq 7, 3) := by decide +kernel
theorem d_M_takes_36 : decode b_M_takes 36 = .ok (.iconst 1, 1) := by decide +kernel
theorem d_M_takes_37 : decode b_M_takes 37 = .ok (.goto 4, 3) := by decide +kernel
theorem d_M_takes_40 : decode b_M_takes 40 = .ok (.iconst 0, 1) := by decide +kernel
theorem d_M_takes_41 : decode b_M_takes 41 = .ok (.iadd, 1) := by decide +kernel
theorem d_M_takes_42 : decode b_M_takes 42 = .ok (.putfield 213, 3) := by decide +kernel
theorem d_M_takes_45 : decode b_M_takes 45 = .ok (.return_, 1) := by decide +kernel
theorem d_M_isFigure_0 : decode b_M_isFigure 0 = .ok (.aload_n 0, 1) := by decide +kernel
theorem d_M_isFigure_1 : decode b_M_isFigure 1 = .ok (.invokevirtual 220, 3) := by decide +kernel
theorem d_M_isFigure_4 : decode b_M_isFigure 4 = .ok (.i2l, 1) := by decide +kernel
theorem d_M_isFigure_5 : decode b_M_isFigure 5 = .ok (.ldc2_w 223, 3) := by decide +kernel
theorem d_M_isFigure_8 : decode b_M_isFigure 8 = .ok (.ldc2_w 225, 3) := by decide +kernel
theorem d_M_isFigure_11 : decode b_M_isFigure 11 = .ok (.invokestatic 46, 3) := by decide +kernel
theorem d_M_isFigure_14 : decode b_M_isFigure 14 = .ok (.ireturn, 1) := by decide +kernel
theorem d_M_number_0 : decode b_M_number 0 = .ok (.aload_n 0, 1) := by decide +kernel
theorem d_M_number_1 : decode b_M_number 1 = .ok (.getfield 216, 3) := by decide +kernel
theorem d_M_number_4 : decode b_M_number 4 = .ok (.ifCond .eq 20, 3) := by decide +kernel
theorem d_M_number_7 : decode b_M_number 7 = .ok (.iload_n 1, 1) := by decide +kernel
theorem d_M_number_8 : decode b_M_number 8 = .ok (.ifCond .eq 16, 3) := by decide +kernel
theorem d_M_number_11 : decode b_M_number 11 = .ok (.aload_n 0, 1) := by decide +kernel
theorem d_M_number_12 : decode b_M_number 12 = .ok (.invokevirtual 220, 3) := by decide +kernel
theorem d_M_number_15 : decode b_M_number 15 = .ok (.bipush 45, 2) := by decide +kernel
theorem d_M_number_17 : decode b_M_number 17 = .ok (.if_icmp .ne 7, 3) := by decide +kernel
theorem d_M_number_20 : decode b_M_number 20 = .ok (.iconst 1, 1) := by decide +kernel
theorem d_M_number_21 : decode b_M_number 21 = .ok (.goto 4, 3) := by decide +kernel
theorem d_M_number_24 : decode b_M_number 24 = .ok (.iconst 0, 1) := by decide +kernel
theorem d_M_number_25 : decode b_M_number 25 = .ok (.istore_n 2, 1) := by decide +kernel
theorem d_M_number_26 : decode b_M_number 26 = .ok (.aload_n 0, 1) := by decide +kernel
theorem d_M_number_27 : decode b_M_number 27 = .ok (.dup, 1) := by decide +kernel
theorem d_M_number_28 : decode b_M_number 28 = .ok (.getfield 213, 3) := by decide +kernel
theorem d_M_number_31 : decode b_M_number 31 = .ok (.iload_n 2, 1) := by decide +kernel
theorem d_M_number_32 : decode b_M_number 32 = .ok (.ifCond .eq 7, 3) := by decide +kernel
theorem d_M_number_35 : decode b_M_number 35 = .ok (.iconst 1, 1) := by decide +kernel
theorem d_M_number_36 : decode b_M_number 36 = .ok (.goto 4, 3) := by decide +kernel
theorem d_M_number_39 : decode b_M_number 39 = .ok (.iconst 0, 1) := by decide +kernel
theorem d_M_number_40 : decode b_M_number 40 = .ok (.iadd, 1) := by decide +kernel
theorem d_M_number_41 : decode b_M_number 41 = .ok (.putfield 213, 3) := by decide +kernel
theorem d_M_number_44 : decode b_M_number 44 = .ok (.aload_n 0, 1) := by decide +kernel
theorem d_M_number_45 : decode b_M_number 45 = .ok (.aload_n 0, 1) := by decide +kernel
theorem d_M_number_46 : decode b_M_number 46 = .ok (.getfield 216, 3) := by decide +kernel
theorem d_M_number_49 : decode b_M_number 49 = .ok (.ifCond .eq 14, 3) := by decide +kernel
theorem d_M_number_52 : decode b_M_number 52 = .ok (.aload_n 0, 1) := by decide +kernel
theorem d_M_number_53 : decode b_M_number 53 = .ok (.invokevirtual 227, 3) := by decide +kernel
theorem d_M_number_56 : decode b_M_number 56 = .ok (.ifCond .eq 7, 3) := by decide +kernel
theorem d_M_number_59 : decode b_M_number 59 = .ok (.iconst 1, 1) := by decide +kernel
theorem d_M_number_60 : decode b_M_number 60 = .ok (.goto 4, 3) := by decide +kernel
theorem d_M_number_63 : decode b_M_number 63 = .ok (.iconst 0, 1) := by decide +kernel
theorem d_M_number_64 : decode b_M_number 64 = .ok (.putfield 216, 3) := by decide +kernel
theorem d_M_number_67 : decode b_M_number 67 = .ok (.iconst 0, 1) := by decide +kernel
theorem d_M_number_68 : decode b_M_number 68 = .ok (.istore_n 3, 1) := by decide +kernel
theorem d_M_number_69 : decode b_M_number 69 = .ok (.iconst 0, 1) := by decide +kernel
theorem d_M_number_70 : decode b_M_number 70 = .ok (.istore 4, 2) := by decide +kernel
theorem d_M_number_72 : decode b_M_number 72 = .ok (.iload 4, 2) := by decide +kernel
theorem d_M_number_74 : decode b_M_number 74 = .ok (.iconst 3, 1) := by decide +kernel
theorem d_M_number_75 : decode b_M_number 75 = .ok (.if_icmp .ge 46, 3) := by decide +kernel
theorem d_M_number_78 : decode b_M_number 78 = .ok (.aload_n 0, 1) := by decide +kernel
theorem d_M_number_79 : decode b_M_number 79 = .ok (.getfield 216, 3) := by decide +kernel
theorem d_M_number_82 : decode b_M_number 82 = .ok (.ifCond .eq 39, 3) := by decide +kernel
theorem d_M_number_85 : decode b_M_number 85 = .ok (.aload_n 0, 1) := by decide +kernel
theorem d_M_number_86 : decode b_M_number 86 = .ok (.invokevirtual 227, 3) := by decide +kernel
theorem d_M_number_89 : decode b_M_number 89 = .ok (.ifCond .eq 32, 3) := by decide +kernel
theorem d_M_number_92 : decode b_M_number 92 = .ok (.bipush 10, 2) := by decide +kernel
theorem d_M_number_94 : decode b_M_number 94 = .ok (.iload_n 3, 1) := by decide +kernel
theorem d_M_number_95 : decode b_M_number 95 = .ok (.imul, 1) := by decide +kernel
theorem d_M_number_96 : decode b_M_number 96 = .ok (.aload_n 0, 1) := by decide +kernel
theorem d_M_number_97 : decode b_M_number 97 = .ok (.invokevirtual 220, 3) := by decide +kernel
theorem d_M_number_100 : decode b_M_number 100 = .ok (.iadd, 1) := by decide +kernel
theorem d_M_number_101 : decode b_M_number 101 = .ok (.bipush 48, 2) := by decide +kernel
theorem d_M_number_103 : decode b_M_number 103 = .ok (.isub, 1) := by decide +kernel
theorem d_M_number_104 : decode b_M_number 104 = .ok (.istore_n 3, 1) := by decide +kernel
theorem d_M_number_105 : decode b_M_number 105 = .ok (.aload_n 0, 1) := by decide +kernel
theorem d_M_number_106 : decode b_M_number 106 = .ok (.dup, 1) := by decide +kernel
theorem d_M_number_107 : decode b_M_number 107 = .ok (.getfield 213, 3) := by decide +kernel
theorem d_M_number_110 : decode b_M_number 110 = .ok (.iconst 1, 1) := by decide +kernel
theorem d_M_number_111 : decode b_M_number 111 = .ok (.iadd, 1) := by decide +kernel
theorem d_M_number_112 : decode b_M_number 112 = .ok (.putfield 213, 3) := by decide +kernel
theorem d_M_number_115 : decode b_M_number 115 = .ok (.iinc 4 1, 3) := by decide +kernel
theorem d_M_number_118 : decode b_M_number 118 = .ok (.goto (-46), 3) := by decide +kernel
theorem d_M_number_121 : decode b_M_number 121 = .ok (.iload_n 2, 1) := by decide +kernel
theorem d_M_number_122 : decode b_M_number 122 = .ok (.ifCond .eq 8, 3) := by decide +kernel
theorem d_M_number_125 : decode b_M_number 125 = .ok (.iload_n 3, 1) := by decide +kernel
theorem d_M_number_126 : decode b_M_number 126 = .ok (.ineg, 1) := by decide +kernel
theorem d_M_number_127 : decode b_M_number 127 = .ok (.goto 4, 3) := by decide +kernel
theorem d_M_number_130 : decode b_M_number 130 = .ok (.iload_n 3, 1) := by decide +kernel
theorem d_M_number_131 : decode b_M_number 131 = .ok (.ireturn, 1) := by decide +kernel
theorem d_M_act_0 : decode b_M_act 0 = .ok (.aload_n 0, 1) := by decide +kernel
theorem d_M_act_1 : decode b_M_act 1 = .ok (.invokevirtual 220, 3) := by decide +kernel
theorem d_M_act_4 : decode b_M_act 4 = .ok (.istore_n 2, 1) := by decide +kernel
theorem d_M_act_5 : decode b_M_act 5 = .ok (.aload_n 0, 1) := by decide +kernel
theorem d_M_act_6 : decode b_M_act 6 = .ok (.iload_n 2, 1) := by decide +kernel
theorem d_M_act_7 : decode b_M_act 7 = .ok (.bipush 119, 2) := by decide +kernel
theorem d_M_act_9 : decode b_M_act 9 = .ok (.if_icmp .eq 27, 3) := by decide +kernel
theorem d_M_act_12 : decode b_M_act 12 = .ok (.iload_n 2, 1) := by decide +kernel
theorem d_M_act_13 : decode b_M_act 13 = .ok (.bipush 115, 2) := by decide +kernel
theorem d_M_act_15 : decode b_M_act 15 = .ok (.if_icmp .eq 21, 3) := by decide +kernel
theorem d_M_act_18 : decode b_M_act 18 = .ok (.iload_n 2, 1) := by decide +kernel
theorem d_M_act_19 : decode b_M_act 19 = .ok (.bipush 112, 2) := by decide +kernel
theorem d_M_act_21 : decode b_M_act 21 = .ok (.if_icmp .eq 15, 3) := by decide +kernel
theorem d_M_act_24 : decode b_M_act 24 = .ok (.iload_n 2, 1) := by decide +kernel
theorem d_M_act_25 : decode b_M_act 25 = .ok (.bipush 116, 2) := by decide +kernel
theorem d_M_act_27 : decode b_M_act 27 = .ok (.if_icmp .eq 9, 3) := by decide +kernel
theorem d_M_act_30 : decode b_M_act 30 = .ok (.iload_n 2, 1) := by decide +kernel
theorem d_M_act_31 : decode b_M_act 31 = .ok (.bipush 120, 2) := by decide +kernel
theorem d_M_act_33 : decode b_M_act 33 = .ok (.if_icmp .ne 7, 3) := by decide +kernel
theorem d_M_act_36 : decode b_M_act 36 = .ok (.iconst 1, 1) := by decide +kernel
theorem d_M_act_37 : decode b_M_act 37 = .ok (.goto 4, 3) := by decide +kernel
theorem d_M_act_40 : decode b_M_act 40 = .ok (.iconst 0, 1) := by decide +kernel
theorem d_M_act_41 : decode b_M_act 41 = .ok (.putfield 216, 3) := by decide +kernel
theorem d_M_act_44 : decode b_M_act 44 = .ok (.aload_n 0, 1) := by decide +kernel
theorem d_M_act_45 : decode b_M_act 45 = .ok (.getfield 30, 3) := by decide +kernel
theorem d_M_act_48 : decode b_M_act 48 = .ok (.iload_n 1, 1) := by decide +kernel
theorem d_M_act_49 : decode b_M_act 49 = .ok (.iload_n 2, 1) := by decide +kernel
theorem d_M_act_50 : decode b_M_act 50 = .ok (.iastore, 1) := by decide +kernel
theorem d_M_act_51 : decode b_M_act 51 = .ok (.aload_n 0, 1) := by decide +kernel
theorem d_M_act_52 : decode b_M_act 52 = .ok (.dup, 1) := by decide +kernel
theorem d_M_act_53 : decode b_M_act 53 = .ok (.getfield 213, 3) := by decide +kernel
theorem d_M_act_56 : decode b_M_act 56 = .ok (.aload_n 0, 1) := by decide +kernel
theorem d_M_act_57 : decode b_M_act 57 = .ok (.getfield 216, 3) := by decide +kernel
theorem d_M_act_60 : decode b_M_act 60 = .ok (.ifCond .eq 7, 3) := by decide +kernel
theorem d_M_act_63 : decode b_M_act 63 = .ok (.iconst 1, 1) := by decide +kernel
theorem d_M_act_64 : decode b_M_act 64 = .ok (.goto 4, 3) := by decide +kernel
theorem d_M_act_67 : decode b_M_act 67 = .ok (.iconst 0, 1) := by decide +kernel
theorem d_M_act_68 : decode b_M_act 68 = .ok (.iadd, 1) := by decide +kernel
theorem d_M_act_69 : decode b_M_act 69 = .ok (.putfield 213, 3) := by decide +kernel
theorem d_M_act_72 : decode b_M_act 72 = .ok (.iload_n 2, 1) := by decide +kernel
theorem d_M_act_73 : decode b_M_act 73 = .ok (.bipush 120, 2) := by decide +kernel
theorem d_M_act_75 : decode b_M_act 75 = .ok (.if_icmp .eq 30, 3) := by decide +kernel
theorem d_M_act_78 : decode b_M_act 78 = .ok (.aload_n 0, 1) := by decide +kernel
theorem d_M_act_79 : decode b_M_act 79 = .ok (.bipush 32, 2) := by decide +kernel
theorem d_M_act_81 : decode b_M_act 81 = .ok (.invokevirtual 231, 3) := by decide +kernel
theorem d_M_act_84 : decode b_M_act 84 = .ok (.aload_n 0, 1) := by decide +kernel
theorem d_M_act_85 : decode b_M_act 85 = .ok (.getfield 33, 3) := by decide +kernel
theorem d_M_act_88 : decode b_M_act 88 = .ok (.iload_n 1, 1) := by decide +kernel
theorem d_M_act_89 : decode b_M_act 89 = .ok (.aload_n 0, 1) := by decide +kernel
theorem d_M_act_90 : decode b_M_act 90 = .ok (.iload_n 2, 1) := by decide +kernel
theorem d_M_act_91 : decode b_M_act 91 = .ok (.bipush 119, 2) := by decide +kernel
theorem d_M_act_93 : decode b_M_act 93 = .ok (.if_icmp .ne 7, 3) := by decide +kernel
theorem d_M_act_96 : decode b_M_act 96 = .ok (.iconst 1, 1) := by decide +kernel
theorem d_M_act_97 : decode b_M_act 97 = .ok (.goto 4, 3) := by decide +kernel
theorem d_M_act_100 : decode b_M_act 100 = .ok (.iconst 0, 1) := by decide +kernel
theorem d_M_act_101 : decode b_M_act 101 = .ok (.invokevirtual 235, 3) := by decide +kernel
theorem d_M_act_104 : decode b_M_act 104 = .ok (.iastore, 1) := by decide +kernel
theorem d_M_act_105 : decode b_M_act 105 = .ok (.iload_n 2, 1) := by decide +kernel
theorem d_M_act_106 : decode b_M_act 106 = .ok (.bipush 115, 2) := by decide +kernel
theorem d_M_act_108 : decode b_M_act 108 = .ok (.if_icmp .eq 9, 3) := by decide +kernel
theorem d_M_act_111 : decode b_M_act 111 = .ok (.iload_n 2, 1) := by decide +kernel
theorem d_M_act_112 : decode b_M_act 112 = .ok (.bipush 116, 2) := by decide +kernel
theorem d_M_act_114 : decode b_M_act 114 = .ok (.if_icmp .ne 30, 3) := by decide +kernel
theorem d_M_act_117 : decode b_M_act 117 = .ok (.aload_n 0, 1) := by decide +kernel
theorem d_M_act_118 : decode b_M_act 118 = .ok (.bipush 44, 2) := by decide +kernel
theorem d_M_act_120 : decode b_M_act 120 = .ok (.invokevirtual 231, 3) := by decide +kernel
theorem d_M_act_123 : decode b_M_act 123 = .ok (.aload_n 0, 1) := by decide +kernel
theorem d_M_act_124 : decode b_M_act 124 = .ok (.getfield 36, 3) := by decide +kernel
theorem d_M_act_127 : decode b_M_act 127 = .ok (.iload_n 1, 1) := by decide +kernel
theorem d_M_act_128 : decode b_M_act 128 = .ok (.aload_n 0, 1) := by decide +kernel
theorem d_M_act_129 : decode b_M_act 129 = .ok (.iload_n 2, 1) := by decide +kernel
theorem d_M_act_130 : decode b_M_act 130 = .ok (.bipush 115, 2) := by decide +kernel
theorem d_M_act_132 : decode b_M_act 132 = .ok (.if_icmp .ne 7, 3) := by decide +kernel
theorem d_M_act_135 : decode b_M_act 135 = .ok (.iconst 1, 1) := by decide +kernel
theorem d_M_act_136 : decode b_M_act 136 = .ok (.goto 4, 3) := by decide +kernel
theorem d_M_act_139 : decode b_M_act 139 = .ok (.iconst 0, 1) := by decide +kernel
theorem d_M_act_140 : decode b_M_act 140 = .ok (.invokevirtual 235, 3) := by decide +kernel
theorem d_M_act_143 : decode b_M_act 143 = .ok (.iastore, 1) := by decide +kernel
theorem d_M_act_144 : decode b_M_act 144 = .ok (.return_, 1) := by decide +kernel
theorem d_M_isDone_0 : decode b_M_isDone 0 = .ok (.aload_n 0, 1) := by decide +kernel
theorem d_M_isDone_1 : decode b_M_isDone 1 = .ok (.getfield 30, 3) := by decide +kernel
theorem d_M_isDone_4 : decode b_M_isDone 4 = .ok (.iload_n 1, 1) := by decide +kernel
theorem d_M_isDone_5 : decode b_M_isDone 5 = .ok (.iaload, 1) := by decide +kernel
theorem d_M_isDone_6 : decode b_M_isDone 6 = .ok (.tableswitch 137 112 119 #[93, 137, 137, 65, 112, 137, 137, 46], 46) := by decide +kernel
theorem d_M_isDone_52 : decode b_M_isDone 52 = .ok (.aload_n 0, 1) := by decide +kernel
theorem d_M_isDone_53 : decode b_M_isDone 53 = .ok (.aload_n 0, 1) := by decide +kernel
theorem d_M_isDone_54 : decode b_M_isDone 54 = .ok (.getfield 33, 3) := by decide +kernel
theorem d_M_isDone_57 : decode b_M_isDone 57 = .ok (.iload_n 1, 1) := by decide +kernel
theorem d_M_isDone_58 : decode b_M_isDone 58 = .ok (.iaload, 1) := by decide +kernel
theorem d_M_isDone_59 : decode b_M_isDone 59 = .ok (.invokevirtual 239, 3) := by decide +kernel
theorem d_M_isDone_62 : decode b_M_isDone 62 = .ok (.ifCond .lt 7, 3) := by decide +kernel
theorem d_M_isDone_65 : decode b_M_isDone 65 = .ok (.iconst 1, 1) := by decide +kernel
theorem d_M_isDone_66 : decode b_M_isDone 66 = .ok (.goto 4, 3) := by decide +kernel
theorem d_M_isDone_69 : decode b_M_isDone 69 = .ok (.iconst 0, 1) := by decide +kernel
theorem d_M_isDone_70 : decode b_M_isDone 70 = .ok (.ireturn, 1) := by decide +kernel
theorem d_M_isDone_71 : decode b_M_isDone 71 = .ok (.aload_n 0, 1) := by decide +kernel
theorem d_M_isDone_72 : decode b_M_isDone 72 = .ok (.aload_n 0, 1) := by decide +kernel
theorem d_M_isDone_73 : decode b_M_isDone 73 = .ok (.getfield 33, 3) := by decide +kernel
theorem d_M_isDone_76 : decode b_M_isDone 76 = .ok (.iload_n 1, 1) := by decide +kernel
theorem d_M_isDone_77 : decode b_M_isDone 77 = .ok (.iaload, 1) := by decide +kernel
theorem d_M_isDone_78 : decode b_M_isDone 78 = .ok (.aload_n 0, 1) := by decide +kernel
theorem d_M_isDone_79 : decode b_M_isDone 79 = .ok (.getfield 36, 3) := by decide +kernel
theorem d_M_isDone_82 : decode b_M_isDone 82 = .ok (.iload_n 1, 1) := by decide +kernel
theorem d_M_isDone_83 : decode b_M_isDone 83 = .ok (.iaload, 1) := by decide +kernel
theorem d_M_isDone_84 : decode b_M_isDone 84 = .ok (.invokevirtual 242, 3) := by decide +kernel
theorem d_M_isDone_87 : decode b_M_isDone 87 = .ok (.sipush (-1000), 3) := by decide +kernel
theorem d_M_isDone_90 : decode b_M_isDone 90 = .ok (.if_icmp .eq 7, 3) := by decide +kernel
theorem d_M_isDone_93 : decode b_M_isDone 93 = .ok (.iconst 1, 1) := by decide +kernel
theorem d_M_isDone_94 : decode b_M_isDone 94 = .ok (.goto 4, 3) := by decide +kernel
theorem d_M_isDone_97 : decode b_M_isDone 97 = .ok (.iconst 0, 1) := by decide +kernel
theorem d_M_isDone_98 : decode b_M_isDone 98 = .ok (.ireturn, 1) := by decide +kernel
theorem d_M_isDone_99 : decode b_M_isDone 99 = .ok (.aload_n 0, 1) := by decide +kernel
theorem d_M_isDone_100 : decode b_M_isDone 100 = .ok (.aload_n 0, 1) := by decide +kernel
theorem d_M_isDone_101 : decode b_M_isDone 101 = .ok (.getfield 33, 3) := by decide +kernel
theorem d_M_isDone_104 : decode b_M_isDone 104 = .ok (.iload_n 1, 1) := by decide +kernel
theorem d_M_isDone_105 : decode b_M_isDone 105 = .ok (.iaload, 1) := by decide +kernel
theorem d_M_isDone_106 : decode b_M_isDone 106 = .ok (.invokevirtual 245, 3) := by decide +kernel
theorem d_M_isDone_109 : decode b_M_isDone 109 = .ok (.ifCond .lt 7, 3) := by decide +kernel
theorem d_M_isDone_112 : decode b_M_isDone 112 = .ok (.iconst 1, 1) := by decide +kernel
theorem d_M_isDone_113 : decode b_M_isDone 113 = .ok (.goto 4, 3) := by decide +kernel
theorem d_M_isDone_116 : decode b_M_isDone 116 = .ok (.iconst 0, 1) := by decide +kernel
theorem d_M_isDone_117 : decode b_M_isDone 117 = .ok (.ireturn, 1) := by decide +kernel
theorem d_M_isDone_118 : decode b_M_isDone 118 = .ok (.aload_n 0, 1) := by decide +kernel
theorem d_M_isDone_119 : decode b_M_isDone 119 = .ok (.aload_n 0, 1) := by decide +kernel
theorem d_M_isDone_120 : decode b_M_isDone 120 = .ok (.getfield 33, 3) := by decide +kernel
theorem d_M_isDone_123 : decode b_M_isDone 123 = .ok (.iload_n 1, 1) := by decide +kernel
theorem d_M_isDone_124 : decode b_M_isDone 124 = .ok (.iaload, 1) := by decide +kernel
theorem d_M_isDone_125 : decode b_M_isDone 125 = .ok (.aload_n 0, 1) := by decide +kernel
theorem d_M_isDone_126 : decode b_M_isDone 126 = .ok (.getfield 36, 3) := by decide +kernel
theorem d_M_isDone_129 : decode b_M_isDone 129 = .ok (.iload_n 1, 1) := by decide +kernel
theorem d_M_isDone_130 : decode b_M_isDone 130 = .ok (.iaload, 1) := by decide +kernel
theorem d_M_isDone_131 : decode b_M_isDone 131 = .ok (.invokevirtual 248, 3) := by decide +kernel
theorem d_M_isDone_134 : decode b_M_isDone 134 = .ok (.ifCond .lt 7, 3) := by decide +kernel
theorem d_M_isDone_137 : decode b_M_isDone 137 = .ok (.iconst 1, 1) := by decide +kernel
theorem d_M_isDone_138 : decode b_M_isDone 138 = .ok (.goto 4, 3) := by decide +kernel
theorem d_M_isDone_141 : decode b_M_isDone 141 = .ok (.iconst 0, 1) := by decide +kernel
theorem d_M_isDone_142 : decode b_M_isDone 142 = .ok (.ireturn, 1) := by decide +kernel
theorem d_M_isDone_143 : decode b_M_isDone 143 = .ok (.aload_n 0, 1) := by decide +kernel
theorem d_M_isDone_144 : decode b_M_isDone 144 = .ok (.invokevirtual 251, 3) := by decide +kernel
theorem d_M_isDone_147 : decode b_M_isDone 147 = .ok (.ifCond .lt 7, 3) := by decide +kernel
theorem d_M_isDone_150 : decode b_M_isDone 150 = .ok (.iconst 1, 1) := by decide +kernel
theorem d_M_isDone_151 : decode b_M_isDone 151 = .ok (.goto 4, 3) := by decide +kernel
theorem d_M_isDone_154 : decode b_M_isDone 154 = .ok (.iconst 0, 1) := by decide +kernel
theorem d_M_isDone_155 : decode b_M_isDone 155 = .ok (.ireturn, 1) := by decide +kernel
theorem d_M_read_0 : decode b_M_read 0 = .ok (.aload_n 0, 1) := by decide +kernel
theorem d_M_read_1 : decode b_M_read 1 = .ok (.iconst 0, 1) := by decide +kernel
theorem d_M_read_2 : decode b_M_read 2 = .ok (.putfield 213, 3) := by decide +kernel
theorem d_M_read_5 : decode b_M_read 5 = .ok (.iconst 0, 1) := by decide +kernel
theorem d_M_read_6 : decode b_M_read 6 = .ok (.istore_n 1, 1) := by decide +kernel
theorem d_M_read_7 : decode b_M_read 7 = .ok (.iconst 1, 1) := by decide +kernel
theorem d_M_read_8 : decode b_M_read 8 = .ok (.istore_n 2, 1) := by decide +kernel
theorem d_M_read_9 : decode b_M_read 9 = .ok (.aload_n 0, 1) := by decide +kernel
theorem d_M_read_10 : decode b_M_read 10 = .ok (.iconst 1, 1) := by decide +kernel
theorem d_M_read_11 : decode b_M_read 11 = .ok (.putfield 216, 3) := by decide +kernel
theorem d_M_read_14 : decode b_M_read 14 = .ok (.iload_n 2, 1) := by decide +kernel
theorem d_M_read_15 : decode b_M_read 15 = .ok (.ifCond .eq 54, 3) := by decide +kernel
theorem d_M_read_18 : decode b_M_read 18 = .ok (.aload_n 0, 1) := by decide +kernel
theorem d_M_read_19 : decode b_M_read 19 = .ok (.iload_n 1, 1) := by decide +kernel
theorem d_M_read_20 : decode b_M_read 20 = .ok (.invokevirtual 254, 3) := by decide +kernel
theorem d_M_read_23 : decode b_M_read 23 = .ok (.iinc 1 1, 3) := by decide +kernel
theorem d_M_read_26 : decode b_M_read 26 = .ok (.aload_n 0, 1) := by decide +kernel
theorem d_M_read_27 : decode b_M_read 27 = .ok (.getfield 216, 3) := by decide +kernel
theorem d_M_read_30 : decode b_M_read 30 = .ok (.ifCond .eq 16, 3) := by decide +kernel
theorem d_M_read_33 : decode b_M_read 33 = .ok (.aload_n 0, 1) := by decide +kernel
theorem d_M_read_34 : decode b_M_read 34 = .ok (.invokevirtual 220, 3) := by decide +kernel
theorem d_M_read_37 : decode b_M_read 37 = .ok (.bipush 59, 2) := by decide +kernel
theorem d_M_read_39 : decode b_M_read 39 = .ok (.if_icmp .ne 7, 3) := by decide +kernel
theorem d_M_read_42 : decode b_M_read 42 = .ok (.iconst 1, 1) := by decide +kernel
theorem d_M_read_43 : decode b_M_read 43 = .ok (.goto 4, 3) := by decide +kernel
theorem d_M_read_46 : decode b_M_read 46 = .ok (.iconst 0, 1) := by decide +kernel
theorem d_M_read_47 : decode b_M_read 47 = .ok (.istore_n 2, 1) := by decide +kernel
theorem d_M_read_48 : decode b_M_read 48 = .ok (.aload_n 0, 1) := by decide +kernel
theorem d_M_read_49 : decode b_M_read 49 = .ok (.dup, 1) := by decide +kernel
theorem d_M_read_50 : decode b_M_read 50 = .ok (.getfield 213, 3) := by decide +kernel
theorem d_M_read_53 : decode b_M_read 53 = .ok (.iload_n 2, 1) := by decide +kernel
theorem d_M_read_54 : decode b_M_read 54 = .ok (.ifCond .eq 7, 3) := by decide +kernel
theorem d_M_read_57 : decode b_M_read 57 = .ok (.iconst 1, 1) := by decide +kernel
theorem d_M_read_58 : decode b_M_read 58 = .ok (.goto 4, 3) := by decide +kernel
theorem d_M_read_61 : decode b_M_read 61 = .ok (.iconst 0, 1) := by decide +kernel
theorem d_M_read_62 : decode b_M_read 62 = .ok (.iadd, 1) := by decide +kernel
theorem d_M_read_63 : decode b_M_read 63 = .ok (.putfield 213, 3) := by decide +kernel
theorem d_M_read_66 : decode b_M_read 66 = .ok (.goto (-52), 3) := by decide +kernel
theorem d_M_read_69 : decode b_M_read 69 = .ok (.aload_n 0, 1) := by decide +kernel
theorem d_M_read_70 : decode b_M_read 70 = .ok (.getfield 216, 3) := by decide +kernel
theorem d_M_read_73 : decode b_M_read 73 = .ok (.ifCond .eq 18, 3) := by decide +kernel
theorem d_M_read_76 : decode b_M_read 76 = .ok (.aload_n 0, 1) := by decide +kernel
theorem d_M_read_77 : decode b_M_read 77 = .ok (.getfield 213, 3) := by decide +kernel
theorem d_M_read_80 : decode b_M_read 80 = .ok (.aload_n 0, 1) := by decide +kernel
theorem d_M_read_81 : decode b_M_read 81 = .ok (.getfield 210, 3) := by decide +kernel
theorem d_M_read_84 : decode b_M_read 84 = .ok (.if_icmp .ne 7, 3) := by decide +kernel
theorem d_M_read_87 : decode b_M_read 87 = .ok (.iconst 1, 1) := by decide +kernel
theorem d_M_read_88 : decode b_M_read 88 = .ok (.goto 4, 3) := by decide +kernel
theorem d_M_read_91 : decode b_M_read 91 = .ok (.iconst 0, 1) := by decide +kernel
theorem d_M_read_92 : decode b_M_read 92 = .ok (.istore_n 3, 1) := by decide +kernel
theorem d_M_read_93 : decode b_M_read 93 = .ok (.aload_n 0, 1) := by decide +kernel
theorem d_M_read_94 : decode b_M_read 94 = .ok (.iconst 0, 1) := by decide +kernel
theorem d_M_read_95 : decode b_M_read 95 = .ok (.putfield 210, 3) := by decide +kernel
theorem d_M_read_98 : decode b_M_read 98 = .ok (.iload_n 3, 1) := by decide +kernel
theorem d_M_read_99 : decode b_M_read 99 = .ok (.ifCond .ne 11, 3) := by decide +kernel
theorem d_M_read_102 : decode b_M_read 102 = .ok (.bipush (-100), 2) := by decide +kernel
theorem d_M_read_104 : decode b_M_read 104 = .ok (.aload_n 0, 1) := by decide +kernel
theorem d_M_read_105 : decode b_M_read 105 = .ok (.getfield 213, 3) := by decide +kernel
theorem d_M_read_108 : decode b_M_read 108 = .ok (.isub, 1) := by decide +kernel
theorem d_M_read_109 : decode b_M_read 109 = .ok (.ireturn, 1) := by decide +kernel
theorem d_M_read_110 : decode b_M_read 110 = .ok (.aload_n 0, 1) := by decide +kernel
theorem d_M_read_111 : decode b_M_read 111 = .ok (.getfield 11, 3) := by decide +kernel
theorem d_M_read_114 : decode b_M_read 114 = .ok (.aload_n 0, 1) := by decide +kernel
theorem d_M_read_115 : decode b_M_read 115 = .ok (.getfield 18, 3) := by decide +kernel
theorem d_M_read_118 : decode b_M_read 118 = .ok (.invokestatic 257, 3) := by decide +kernel
theorem d_M_read_121 : decode b_M_read 121 = .ok (.iconst 0, 1) := by decide +kernel
theorem d_M_read_122 : decode b_M_read 122 = .ok (.istore 4, 2) := by decide +kernel
theorem d_M_read_124 : decode b_M_read 124 = .ok (.iload 4, 2) := by decide +kernel
theorem d_M_read_126 : decode b_M_read 126 = .ok (.iload_n 1, 1) := by decide +kernel
theorem d_M_read_127 : decode b_M_read 127 = .ok (.if_icmp .ge 36, 3) := by decide +kernel
theorem d_M_read_130 : decode b_M_read 130 = .ok (.aload_n 0, 1) := by decide +kernel
theorem d_M_read_131 : decode b_M_read 131 = .ok (.iload 4, 2) := by decide +kernel
theorem d_M_read_133 : decode b_M_read 133 = .ok (.invokevirtual 261, 3) := by decide +kernel
theorem d_M_read_136 : decode b_M_read 136 = .ok (.ifCond .ne 21, 3) := by decide +kernel
theorem d_M_read_139 : decode b_M_read 139 = .ok (.aload_n 0, 1) := by decide +kernel
theorem d_M_read_140 : decode b_M_read 140 = .ok (.getfield 18, 3) := by decide +kernel
theorem d_M_read_143 : decode b_M_read 143 = .ok (.aload_n 0, 1) := by decide +kernel
theorem d_M_read_144 : decode b_M_read 144 = .ok (.getfield 11, 3) := by decide +kernel
theorem d_M_read_147 : decode b_M_read 147 = .ok (.invokestatic 257, 3) := by decide +kernel
theorem d_M_read_150 : decode b_M_read 150 = .ok (.sipush (-200), 3) := by decide +kernel
theorem d_M_read_153 : decode b_M_read 153 = .ok (.iload 4, 2) := by decide +kernel
theorem d_M_read_155 : decode b_M_read 155 = .ok (.isub, 1) := by decide +kernel
theorem d_M_read_156 : decode b_M_read 156 = .ok (.ireturn, 1) := by decide +kernel
theorem d_M_read_157 : decode b_M_read 157 = .ok (.iinc 4 1, 3) := by decide +kernel
theorem d_M_read_160 : decode b_M_read 160 = .ok (.goto (-36), 3) := by decide +kernel
theorem d_M_read_163 : decode b_M_read 163 = .ok (.iload_n 1, 1) := by decide +kernel
theorem d_M_read_164 : decode b_M_read 164 = .ok (.ireturn, 1) := by decide +kernel
theorem d_M_isRow_0 : decode b_M_isRow 0 = .ok (.iload_n 0, 1) := by decide +kernel
theorem d_M_isRow_1 : decode b_M_isRow 1 = .ok (.i2l, 1) := by decide +kernel
theorem d_M_isRow_2 : decode b_M_isRow 2 = .ok (.lconst 0, 1) := by decide +kernel
theorem d_M_isRow_3 : decode b_M_isRow 3 = .ok (.ldc2_w 77, 3) := by decide +kernel
theorem d_M_isRow_6 : decode b_M_isRow 6 = .ok (.invokestatic 46, 3) := by decide +kernel
theorem d_M_isRow_9 : decode b_M_isRow 9 = .ok (.ireturn, 1) := by decide +kernel
theorem d_M_row_0 : decode b_M_row 0 = .ok (.iload_n 1, 1) := by decide +kernel
theorem d_M_row_1 : decode b_M_row 1 = .ok (.invokestatic 264, 3) := by decide +kernel
theorem d_M_row_4 : decode b_M_row 4 = .ok (.ifCond .eq 9, 3) := by decide +kernel
theorem d_M_row_7 : decode b_M_row 7 = .ok (.iload_n 2, 1) := by decide +kernel
theorem d_M_row_8 : decode b_M_row 8 = .ok (.bipush 20, 2) := by decide +kernel
theorem d_M_row_10 : decode b_M_row 10 = .ok (.if_icmp .le 5, 3) := by decide +kernel
theorem d_M_row_13 : decode b_M_row 13 = .ok (.iconst (-1), 1) := by decide +kernel
theorem d_M_row_14 : decode b_M_row 14 = .ok (.ireturn, 1) := by decide +kernel
theorem d_M_row_15 : decode b_M_row 15 = .ok (.iload_n 2, 1) := by decide +kernel
theorem d_M_row_16 : decode b_M_row 16 = .ok (.iconst (-1), 1) := by decide +kernel
theorem d_M_row_17 : decode b_M_row 17 = .ok (.if_icmp .ge 6, 3) := by decide +kernel
theorem d_M_row_20 : decode b_M_row 20 = .ok (.bipush (-14), 2) := by decide +kernel
theorem d_M_row_22 : decode b_M_row 22 = .ok (.ireturn, 1) := by decide +kernel
theorem d_M_row_23 : decode b_M_row 23 = .ok (.aload_n 0, 1) := by decide +kernel
theorem d_M_row_24 : decode b_M_row 24 = .ok (.getfield 39, 3) := by decide +kernel
theorem d_M_row_27 : decode b_M_row 27 = .ok (.iload_n 1, 1) := by decide +kernel
theorem d_M_row_28 : decode b_M_row 28 = .ok (.iload_n 2, 1) := by decide +kernel
theorem d_M_row_29 : decode b_M_row 29 = .ok (.iastore, 1) := by decide +kernel
theorem d_M_row_30 : decode b_M_row 30 = .ok (.iconst 0, 1) := by decide +kernel
theorem d_M_row_31 : decode b_M_row 31 = .ok (.istore_n 3, 1) := by decide +kernel
theorem d_M_row_32 : decode b_M_row 32 = .ok (.iload_n 3, 1) := by decide +kernel
theorem d_M_row_33 : decode b_M_row 33 = .ok (.bipush 20, 2) := by decide +kernel
theorem d_M_row_35 : decode b_M_row 35 = .ok (.if_icmp .ge 21, 3) := by decide +kernel
theorem d_M_row_38 : decode b_M_row 38 = .ok (.aload_n 0, 1) := by decide +kernel
theorem d_M_row_39 : decode b_M_row 39 = .ok (.getfield 42, 3) := by decide +kernel
theorem d_M_row_42 : decode b_M_row 42 = .ok (.bipush 20, 2) := by decide +kernel
theorem d_M_row_44 : decode b_M_row 44 = .ok (.iload_n 1, 1) := by decide +kernel
theorem d_M_row_45 : decode b_M_row 45 = .ok (.imul, 1) := by decide +kernel
theorem d_M_row_46 : decode b_M_row 46 = .ok (.iload_n 3, 1) := by decide +kernel
theorem d_M_row_47 : decode b_M_row 47 = .ok (.iadd, 1) := by decide +kernel
theorem d_M_row_48 : decode b_M_row 48 = .ok (.lconst 0, 1) := by decide +kernel
theorem d_M_row_49 : decode b_M_row 49 = .ok (.lastore, 1) := by decide +kernel
theorem d_M_row_50 : decode b_M_row 50 = .ok (.iinc 3 1, 3) := by decide +kernel
theorem d_M_row_53 : decode b_M_row 53 = .ok (.goto (-21), 3) := by decide +kernel
theorem d_M_row_56 : decode b_M_row 56 = .ok (.iconst 1, 1) := by decide +kernel
theorem d_M_row_57 : decode b_M_row 57 = .ok (.ireturn, 1) := by decide +kernel
theorem d_M_put_0 : decode b_M_put 0 = .ok (.iload_n 1, 1) := by decide +kernel
theorem d_M_put_1 : decode b_M_put 1 = .ok (.invokestatic 264, 3) := by decide +kernel
theorem d_M_put_4 : decode b_M_put 4 = .ok (.ifCond .ne 5, 3) := by decide +kernel
theorem d_M_put_7 : decode b_M_put 7 = .ok (.iconst (-1), 1) := by decide +kernel
theorem d_M_put_8 : decode b_M_put 8 = .ok (.ireturn, 1) := by decide +kernel
theorem d_M_put_9 : decode b_M_put 9 = .ok (.aload_n 0, 1) := by decide +kernel
theorem d_M_put_10 : decode b_M_put 10 = .ok (.getfield 39, 3) := by decide +kernel
theorem d_M_put_13 : decode b_M_put 13 = .ok (.iload_n 1, 1) := by decide +kernel
theorem d_M_put_14 : decode b_M_put 14 = .ok (.iaload, 1) := by decide +kernel
theorem d_M_put_15 : decode b_M_put 15 = .ok (.ifCond .ge 6, 3) := by decide +kernel
theorem d_M_put_18 : decode b_M_put 18 = .ok (.bipush (-11), 2) := by decide +kernel
theorem d_M_put_20 : decode b_M_put 20 = .ok (.ireturn, 1) := by decide +kernel
theorem d_M_put_21 : decode b_M_put 21 = .ok (.iload_n 2, 1) := by decide +kernel
theorem d_M_put_22 : decode b_M_put 22 = .ok (.i2l, 1) := by decide +kernel
theorem d_M_put_23 : decode b_M_put 23 = .ok (.lconst 0, 1) := by decide +kernel
theorem d_M_put_24 : decode b_M_put 24 = .ok (.aload_n 0, 1) := by decide +kernel
theorem d_M_put_25 : decode b_M_put 25 = .ok (.getfield 39, 3) := by decide +kernel
theorem d_M_put_28 : decode b_M_put 28 = .ok (.iload_n 1, 1) := by decide +kernel
theorem d_M_put_29 : decode b_M_put 29 = .ok (.iaload, 1) := by decide +kernel
theorem d_M_put_30 : decode b_M_put 30 = .ok (.iconst 1, 1) := by decide +kernel
theorem d_M_put_31 : decode b_M_put 31 = .ok (.isub, 1) := by decide +kernel
theorem d_M_put_32 : decode b_M_put 32 = .ok (.i2l, 1) := by decide +kernel
theorem d_M_put_33 : decode b_M_put 33 = .ok (.invokestatic 46, 3) := by decide +kernel
theorem d_M_put_36 : decode b_M_put 36 = .ok (.ifCond .ne 6, 3) := by decide +kernel
theorem d_M_put_39 : decode b_M_put 39 = .ok (.bipush (-13), 2) := by decide +kernel
theorem d_M_put_41 : decode b_M_put 41 = .ok (.ireturn, 1) := by decide +kernel
theorem d_M_put_42 : decode b_M_put 42 = .ok (.aload_n 0, 1) := by decide +kernel
theorem d_M_put_43 : decode b_M_put 43 = .ok (.getfield 42, 3) := by decide +kernel
theorem d_M_put_46 : decode b_M_put 46 = .ok (.bipush 20, 2) := by decide +kernel
theorem d_M_put_48 : decode b_M_put 48 = .ok (.iload_n 1, 1) := by decide +kernel
theorem d_M_put_49 : decode b_M_put 49 = .ok (.imul, 1) := by decide +kernel
theorem d_M_put_50 : decode b_M_put 50 = .ok (.iload_n 2, 1) := by decide +kernel
theorem d_M_put_51 : decode b_M_put 51 = .ok (.iadd, 1) := by decide +kernel
theorem d_M_put_52 : decode b_M_put 52 = .ok (.lload_n 3, 1) := by decide +kernel
theorem d_M_put_53 : decode b_M_put 53 = .ok (.lastore, 1) := by decide +kernel
theorem d_M_put_54 : decode b_M_put 54 = .ok (.iconst 1, 1) := by decide +kernel
theorem d_M_put_55 : decode b_M_put 55 = .ok (.ireturn, 1) := by decide +kernel
theorem d_M_get_0 : decode b_M_get 0 = .ok (.iload_n 1, 1) := by decide +kernel
theorem d_M_get_1 : decode b_M_get 1 = .ok (.invokestatic 264, 3) := by decide +kernel
theorem d_M_get_4 : decode b_M_get 4 = .ok (.ifCond .eq 35, 3) := by decide +kernel
theorem d_M_get_7 : decode b_M_get 7 = .ok (.iload_n 2, 1) := by decide +kernel
theorem d_M_get_8 : decode b_M_get 8 = .ok (.i2l, 1) := by decide +kernel
theorem d_M_get_9 : decode b_M_get 9 = .ok (.lconst 0, 1) := by decide +kernel
theorem d_M_get_10 : decode b_M_get 10 = .ok (.aload_n 0, 1) := by decide +kernel
theorem d_M_get_11 : decode b_M_get 11 = .ok (.getfield 39, 3) := by decide +kernel
theorem d_M_get_14 : decode b_M_get 14 = .ok (.iload_n 1, 1) := by decide +kernel
theorem d_M_get_15 : decode b_M_get 15 = .ok (.iaload, 1) := by decide +kernel
theorem d_M_get_16 : decode b_M_get 16 = .ok (.iconst 1, 1) := by decide +kernel
theorem d_M_get_17 : decode b_M_get 17 = .ok (.isub, 1) := by decide +kernel
theorem d_M_get_18 : decode b_M_get 18 = .ok (.i2l, 1) := by decide +kernel
theorem d_M_get_19 : decode b_M_get 19 = .ok (.invokestatic 46, 3) := by decide +kernel
theorem d_M_get_22 : decode b_M_get 22 = .ok (.ifCond .eq 17, 3) := by decide +kernel
theorem d_M_get_25 : decode b_M_get 25 = .ok (.aload_n 0, 1) := by decide +kernel
theorem d_M_get_26 : decode b_M_get 26 = .ok (.getfield 42, 3) := by decide +kernel
theorem d_M_get_29 : decode b_M_get 29 = .ok (.bipush 20, 2) := by decide +kernel
theorem d_M_get_31 : decode b_M_get 31 = .ok (.iload_n 1, 1) := by decide +kernel
theorem d_M_get_32 : decode b_M_get 32 = .ok (.imul, 1) := by decide +kernel
theorem d_M_get_33 : decode b_M_get 33 = .ok (.iload_n 2, 1) := by decide +kernel
theorem d_M_get_34 : decode b_M_get 34 = .ok (.iadd, 1) := by decide +kernel
theorem d_M_get_35 : decode b_M_get 35 = .ok (.laload, 1) := by decide +kernel
theorem d_M_get_36 : decode b_M_get 36 = .ok (.goto 6, 3) := by decide +kernel
theorem d_M_get_39 : decode b_M_get 39 = .ok (.ldc2_w 117, 3) := by decide +kernel
theorem d_M_get_42 : decode b_M_get 42 = .ok (.lreturn, 1) := by decide +kernel
theorem d_M_lay_0 : decode b_M_lay 0 = .ok (.iload_n 1, 1) := by decide +kernel
theorem d_M_lay_1 : decode b_M_lay 1 = .ok (.invokestatic 264, 3) := by decide +kernel
theorem d_M_lay_4 : decode b_M_lay 4 = .ok (.ifCond .ne 5, 3) := by decide +kernel
theorem d_M_lay_7 : decode b_M_lay 7 = .ok (.iconst (-1), 1) := by decide +kernel
theorem d_M_lay_8 : decode b_M_lay 8 = .ok (.ireturn, 1) := by decide +kernel
theorem d_M_lay_9 : decode b_M_lay 9 = .ok (.aload_n 0, 1) := by decide +kernel
theorem d_M_lay_10 : decode b_M_lay 10 = .ok (.getfield 39, 3) := by decide +kernel
theorem d_M_lay_13 : decode b_M_lay 13 = .ok (.iload_n 1, 1) := by decide +kernel
theorem d_M_lay_14 : decode b_M_lay 14 = .ok (.iaload, 1) := by decide +kernel
theorem d_M_lay_15 : decode b_M_lay 15 = .ok (.ifCond .ge 6, 3) := by decide +kernel
theorem d_M_lay_18 : decode b_M_lay 18 = .ok (.bipush (-11), 2) := by decide +kernel
theorem d_M_lay_20 : decode b_M_lay 20 = .ok (.ireturn, 1) := by decide +kernel
theorem d_M_lay_21 : decode b_M_lay 21 = .ok (.aload_n 0, 1) := by decide +kernel
theorem d_M_lay_22 : decode b_M_lay 22 = .ok (.getfield 39, 3) := by decide +kernel
theorem d_M_lay_25 : decode b_M_lay 25 = .ok (.iload_n 1, 1) := by decide +kernel
theorem d_M_lay_26 : decode b_M_lay 26 = .ok (.iaload, 1) := by decide +kernel
theorem d_M_lay_27 : decode b_M_lay 27 = .ok (.aload_n 0, 1) := by decide +kernel
theorem d_M_lay_28 : decode b_M_lay 28 = .ok (.getfield 11, 3) := by decide +kernel
theorem d_M_lay_31 : decode b_M_lay 31 = .ok (.iconst 0, 1) := by decide +kernel
theorem d_M_lay_32 : decode b_M_lay 32 = .ok (.iaload, 1) := by decide +kernel
theorem d_M_lay_33 : decode b_M_lay 33 = .ok (.if_icmp .ge 12, 3) := by decide +kernel
theorem d_M_lay_36 : decode b_M_lay 36 = .ok (.aload_n 0, 1) := by decide +kernel
theorem d_M_lay_37 : decode b_M_lay 37 = .ok (.getfield 39, 3) := by decide +kernel
theorem d_M_lay_40 : decode b_M_lay 40 = .ok (.iload_n 1, 1) := by decide +kernel
theorem d_M_lay_41 : decode b_M_lay 41 = .ok (.iaload, 1) := by decide +kernel
theorem d_M_lay_42 : decode b_M_lay 42 = .ok (.goto 9, 3) := by decide +kernel
theorem d_M_lay_45 : decode b_M_lay 45 = .ok (.aload_n 0, 1) := by decide +kernel
theorem d_M_lay_46 : decode b_M_lay 46 = .ok (.getfield 11, 3) := by decide +kernel
theorem d_M_lay_49 : decode b_M_lay 49 = .ok (.iconst 0, 1) := by decide +kernel
theorem d_M_lay_50 : decode b_M_lay 50 = .ok (.iaload, 1) := by decide +kernel
theorem d_M_lay_51 : decode b_M_lay 51 = .ok (.istore_n 2, 1) := by decide +kernel
theorem d_M_lay_52 : decode b_M_lay 52 = .ok (.iconst 0, 1) := by decide +kernel
theorem d_M_lay_53 : decode b_M_lay 53 = .ok (.istore_n 3, 1) := by decide +kernel
theorem d_M_lay_54 : decode b_M_lay 54 = .ok (.iload_n 3, 1) := by decide +kernel
theorem d_M_lay_55 : decode b_M_lay 55 = .ok (.iload_n 2, 1) := by decide +kernel
theorem d_M_lay_56 : decode b_M_lay 56 = .ok (.if_icmp .ge 26, 3) := by decide +kernel
theorem d_M_lay_59 : decode b_M_lay 59 = .ok (.aload_n 0, 1) := by decide +kernel
theorem d_M_lay_60 : decode b_M_lay 60 = .ok (.getfield 42, 3) := by decide +kernel
theorem d_M_lay_63 : decode b_M_lay 63 = .ok (.bipush 20, 2) := by decide +kernel
theorem d_M_lay_65 : decode b_M_lay 65 = .ok (.iload_n 1, 1) := by decide +kernel
theorem d_M_lay_66 : decode b_M_lay 66 = .ok (.imul, 1) := by decide +kernel
theorem d_M_lay_67 : decode b_M_lay 67 = .ok (.iload_n 3, 1) := by decide +kernel
theorem d_M_lay_68 : decode b_M_lay 68 = .ok (.iadd, 1) := by decide +kernel
theorem d_M_lay_69 : decode b_M_lay 69 = .ok (.aload_n 0, 1) := by decide +kernel
theorem d_M_lay_70 : decode b_M_lay 70 = .ok (.iload_n 3, 1) := by decide +kernel
theorem d_M_lay_71 : decode b_M_lay 71 = .ok (.invokevirtual 50, 3) := by decide +kernel
theorem d_M_lay_74 : decode b_M_lay 74 = .ok (.i2l, 1) := by decide +kernel
theorem d_M_lay_75 : decode b_M_lay 75 = .ok (.lastore, 1) := by decide +kernel
theorem d_M_lay_76 : decode b_M_lay 76 = .ok (.iinc 3 1, 3) := by decide +kernel
theorem d_M_lay_79 : decode b_M_lay 79 = .ok (.goto (-25), 3) := by decide +kernel
theorem d_M_lay_82 : decode b_M_lay 82 = .ok (.iload_n 2, 1) := by decide +kernel
theorem d_M_lay_83 : decode b_M_lay 83 = .ok (.ireturn, 1) := by decide +kernel
theorem d_M_judge_0 : decode b_M_judge 0 = .ok (.iload_n 1, 1) := by decide +kernel
theorem d_M_judge_1 : decode b_M_judge 1 = .ok (.invokestatic 264, 3) := by decide +kernel
theorem d_M_judge_4 : decode b_M_judge 4 = .ok (.ifCond .ne 5, 3) := by decide +kernel
theorem d_M_judge_7 : decode b_M_judge 7 = .ok (.iconst (-1), 1) := by decide +kernel
theorem d_M_judge_8 : decode b_M_judge 8 = .ok (.ireturn, 1) := by decide +kernel
theorem d_M_judge_9 : decode b_M_judge 9 = .ok (.aload_n 0, 1) := by decide +kernel
theorem d_M_judge_10 : decode b_M_judge 10 = .ok (.getfield 39, 3) := by decide +kernel
theorem d_M_judge_13 : decode b_M_judge 13 = .ok (.iload_n 1, 1) := by decide +kernel
theorem d_M_judge_14 : decode b_M_judge 14 = .ok (.iaload, 1) := by decide +kernel
theorem d_M_judge_15 : decode b_M_judge 15 = .ok (.ifCond .ge 6, 3) := by decide +kernel
theorem d_M_judge_18 : decode b_M_judge 18 = .ok (.bipush (-11), 2) := by decide +kernel
theorem d_M_judge_20 : decode b_M_judge 20 = .ok (.ireturn, 1) := by decide +kernel
theorem d_M_judge_21 : decode b_M_judge 21 = .ok (.iconst 0, 1) := by decide +kernel
theorem d_M_judge_22 : decode b_M_judge 22 = .ok (.istore_n 2, 1) := by decide +kernel
theorem d_M_judge_23 : decode b_M_judge 23 = .ok (.iload_n 2, 1) := by decide +kernel
theorem d_M_judge_24 : decode b_M_judge 24 = .ok (.aload_n 0, 1) := by decide +kernel
theorem d_M_judge_25 : decode b_M_judge 25 = .ok (.getfield 39, 3) := by decide +kernel
theorem d_M_judge_28 : decode b_M_judge 28 = .ok (.iload_n 1, 1) := by decide +kernel
theorem d_M_judge_29 : decode b_M_judge 29 = .ok (.iaload, 1) := by decide +kernel
theorem d_M_judge_30 : decode b_M_judge 30 = .ok (.if_icmp .ge 40, 3) := by decide +kernel
theorem d_M_judge_33 : decode b_M_judge 33 = .ok (.aload_n 0, 1) := by decide +kernel
theorem d_M_judge_34 : decode b_M_judge 34 = .ok (.iload_n 2, 1) := by decide +kernel
theorem d_M_judge_35 : decode b_M_judge 35 = .ok (.invokevirtual 66, 3) := by decide +kernel
theorem d_M_judge_38 : decode b_M_judge 38 = .ok (.ifCond .eq 24, 3) := by decide +kernel
theorem d_M_judge_41 : decode b_M_judge 41 = .ok (.aload_n 0, 1) := by decide +kernel
theorem d_M_judge_42 : decode b_M_judge 42 = .ok (.getfield 42, 3) := by decide +kernel
theorem d_M_judge_45 : decode b_M_judge 45 = .ok (.bipush 20, 2) := by decide +kernel
theorem d_M_judge_47 : decode b_M_judge 47 = .ok (.iload_n 1, 1) := by decide +kernel
theorem d_M_judge_48 : decode b_M_judge 48 = .ok (.imul, 1) := by decide +kernel
theorem d_M_judge_49 : decode b_M_judge 49 = .ok (.iload_n 2, 1) := by decide +kernel
theorem d_M_judge_50 : decode b_M_judge 50 = .ok (.iadd, 1) := by decide +kernel
theorem d_M_judge_51 : decode b_M_judge 51 = .ok (.laload, 1) := by decide +kernel
theorem d_M_judge_52 : decode b_M_judge 52 = .ok (.aload_n 0, 1) := by decide +kernel
theorem d_M_judge_53 : decode b_M_judge 53 = .ok (.iload_n 2, 1) := by decide +kernel
theorem d_M_judge_54 : decode b_M_judge 54 = .ok (.invokevirtual 50, 3) := by decide +kernel
theorem d_M_judge_57 : decode b_M_judge 57 = .ok (.i2l, 1) := by decide +kernel
theorem d_M_judge_58 : decode b_M_judge 58 = .ok (.lcmp, 1) := by decide +kernel
theorem d_M_judge_59 : decode b_M_judge 59 = .ok (.ifCond .eq 5, 3) := by decide +kernel
theorem d_M_judge_62 : decode b_M_judge 62 = .ok (.iload_n 2, 1) := by decide +kernel
theorem d_M_judge_63 : decode b_M_judge 63 = .ok (.ireturn, 1) := by decide +kernel
theorem d_M_judge_64 : decode b_M_judge 64 = .ok (.iinc 2 1, 3) := by decide +kernel
theorem d_M_judge_67 : decode b_M_judge 67 = .ok (.goto (-44), 3) := by decide +kernel
theorem d_M_judge_70 : decode b_M_judge 70 = .ok (.bipush (-2), 2) := by decide +kernel
theorem d_M_judge_72 : decode b_M_judge 72 = .ok (.ireturn, 1) := by decide +kernel
theorem d_M_image_0 : decode b_M_image 0 = .ok (.aload_n 0, 1) := by decide +kernel
theorem d_M_image_1 : decode b_M_image 1 = .ok (.getfield 11, 3) := by decide +kernel
theorem d_M_image_4 : decode b_M_image 4 = .ok (.aload_n 0, 1) := by decide +kernel
theorem d_M_image_5 : decode b_M_image 5 = .ok (.getfield 15, 3) := by decide +kernel
theorem d_M_image_8 : decode b_M_image 8 = .ok (.invokestatic 257, 3) := by decide +kernel
theorem d_M_image_11 : decode b_M_image 11 = .ok (.aload_n 0, 1) := by decide +kernel
theorem d_M_image_12 : decode b_M_image 12 = .ok (.iconst 1, 1) := by decide +kernel
theorem d_M_image_13 : decode b_M_image 13 = .ok (.putfield 267, 3) := by decide +kernel
theorem d_M_image_16 : decode b_M_image 16 = .ok (.aload_n 0, 1) := by decide +kernel
theorem d_M_image_17 : decode b_M_image 17 = .ok (.getfield 11, 3) := by decide +kernel
theorem d_M_image_20 : decode b_M_image 20 = .ok (.iconst 0, 1) := by decide +kernel
theorem d_M_image_21 : decode b_M_image 21 = .ok (.iaload, 1) := by decide +kernel
theorem d_M_image_22 : decode b_M_image 22 = .ok (.ireturn, 1) := by decide +kernel
theorem d_M_undo_0 : decode b_M_undo 0 = .ok (.aload_n 0, 1) := by decide +kernel
theorem d_M_undo_1 : decode b_M_undo 1 = .ok (.getfield 267, 3) := by decide +kernel
theorem d_M_undo_4 : decode b_M_undo 4 = .ok (.ifCond .ne 6, 3) := by decide +kernel
theorem d_M_undo_7 : decode b_M_undo 7 = .ok (.bipush (-5), 2) := by decide +kernel
theorem d_M_undo_9 : decode b_M_undo 9 = .ok (.ireturn, 1) := by decide +kernel
theorem d_M_undo_10 : decode b_M_undo 10 = .ok (.aload_n 0, 1) := by decide +kernel
theorem d_M_undo_11 : decode b_M_undo 11 = .ok (.getfield 15, 3) := by decide +kernel
theorem d_M_undo_14 : decode b_M_undo 14 = .ok (.aload_n 0, 1) := by decide +kernel
theorem d_M_undo_15 : decode b_M_undo 15 = .ok (.getfield 11, 3) := by decide +kernel
theorem d_M_undo_18 : decode b_M_undo 18 = .ok (.invokestatic 257, 3) := by decide +kernel
theorem d_M_undo_21 : decode b_M_undo 21 = .ok (.aload_n 0, 1) := by decide +kernel
theorem d_M_undo_22 : decode b_M_undo 22 = .ok (.getfield 11, 3) := by decide +kernel
theorem d_M_undo_25 : decode b_M_undo 25 = .ok (.iconst 0, 1) := by decide +kernel
theorem d_M_undo_26 : decode b_M_undo 26 = .ok (.iaload, 1) := by decide +kernel
theorem d_M_undo_27 : decode b_M_undo 27 = .ok (.ireturn, 1) := by decide +kernel
theorem d_M_count_0 : decode b_M_count 0 = .ok (.iconst 0, 1) := by decide +kernel
theorem d_M_count_1 : decode b_M_count 1 = .ok (.istore_n 2, 1) := by decide +kernel
theorem d_M_count_2 : decode b_M_count 2 = .ok (.iconst 0, 1) := by decide +kernel
theorem d_M_count_3 : decode b_M_count 3 = .ok (.istore_n 3, 1) := by decide +kernel
theorem d_M_count_4 : decode b_M_count 4 = .ok (.iload_n 3, 1) := by decide +kernel
theorem d_M_count_5 : decode b_M_count 5 = .ok (.aload_n 0, 1) := by decide +kernel
theorem d_M_count_6 : decode b_M_count 6 = .ok (.getfield 11, 3) := by decide +kernel
theorem d_M_count_9 : decode b_M_count 9 = .ok (.iconst 0, 1) := by decide +kernel
theorem d_M_count_10 : decode b_M_count 10 = .ok (.iaload, 1) := by decide +kernel
theorem d_M_count_11 : decode b_M_count 11 = .ok (.if_icmp .ge 29, 3) := by decide +kernel
theorem d_M_count_14 : decode b_M_count 14 = .ok (.iload_n 2, 1) := by decide +kernel
theorem d_M_count_15 : decode b_M_count 15 = .ok (.aload_n 0, 1) := by decide +kernel
theorem d_M_count_16 : decode b_M_count 16 = .ok (.iload_n 3, 1) := by decide +kernel
theorem d_M_count_17 : decode b_M_count 17 = .ok (.invokevirtual 54, 3) := by decide +kernel
theorem d_M_count_20 : decode b_M_count 20 = .ok (.ifCond .eq 7, 3) := by decide +kernel
theorem d_M_count_23 : decode b_M_count 23 = .ok (.iconst 0, 1) := by decide +kernel
theorem d_M_count_24 : decode b_M_count 24 = .ok (.goto 8, 3) := by decide +kernel
theorem d_M_count_27 : decode b_M_count 27 = .ok (.aload_n 0, 1) := by decide +kernel
theorem d_M_count_28 : decode b_M_count 28 = .ok (.iload_n 3, 1) := by decide +kernel
theorem d_M_count_29 : decode b_M_count 29 = .ok (.invokevirtual 50, 3) := by decide +kernel
theorem d_M_count_32 : decode b_M_count 32 = .ok (.iadd, 1) := by decide +kernel
theorem d_M_count_33 : decode b_M_count 33 = .ok (.istore_n 2, 1) := by decide +kernel
theorem d_M_count_34 : decode b_M_count 34 = .ok (.iinc 3 1, 3) := by decide +kernel
theorem d_M_count_37 : decode b_M_count 37 = .ok (.goto (-33), 3) := by decide +kernel
theorem d_M_count_40 : decode b_M_count 40 = .ok (.iload_n 1, 1) := by decide +kernel
theorem d_M_count_41 : decode b_M_count 41 = .ok (.tableswitch 65 0 4 #[35, 42, 50, 55, 63], 35) := by decide +kernel
theorem d_M_count_76 : decode b_M_count 76 = .ok (.aload_n 0, 1) := by decide +kernel
theorem d_M_count_77 : decode b_M_count 77 = .ok (.getfield 11, 3) := by decide +kernel
theorem d_M_count_80 : decode b_M_count 80 = .ok (.iconst 0, 1) := by decide +kernel
theorem d_M_count_81 : decode b_M_count 81 = .ok (.iaload, 1) := by decide +kernel
theorem d_M_count_82 : decode b_M_count 82 = .ok (.ireturn, 1) := by decide +kernel
theorem d_M_count_83 : decode b_M_count 83 = .ok (.aload_n 0, 1) := by decide +kernel
theorem d_M_count_84 : decode b_M_count 84 = .ok (.getfield 11, 3) := by decide +kernel
theorem d_M_count_87 : decode b_M_count 87 = .ok (.bipush 34, 2) := by decide +kernel
theorem d_M_count_89 : decode b_M_count 89 = .ok (.iaload, 1) := by decide +kernel
theorem d_M_count_90 : decode b_M_count 90 = .ok (.ireturn, 1) := by decide +kernel
theorem d_M_count_91 : decode b_M_count 91 = .ok (.aload_n 0, 1) := by decide +kernel
theorem d_M_count_92 : decode b_M_count 92 = .ok (.getfield 210, 3) := by decide +kernel
theorem d_M_count_95 : decode b_M_count 95 = .ok (.ireturn, 1) := by decide +kernel
theorem d_M_count_96 : decode b_M_count 96 = .ok (.aload_n 0, 1) := by decide +kernel
theorem d_M_count_97 : decode b_M_count 97 = .ok (.getfield 11, 3) := by decide +kernel
theorem d_M_count_100 : decode b_M_count 100 = .ok (.bipush 33, 2) := by decide +kernel
theorem d_M_count_102 : decode b_M_count 102 = .ok (.iaload, 1) := by decide +kernel
theorem d_M_count_103 : decode b_M_count 103 = .ok (.ireturn, 1) := by decide +kernel
theorem d_M_count_104 : decode b_M_count 104 = .ok (.iload_n 2, 1) := by decide +kernel
theorem d_M_count_105 : decode b_M_count 105 = .ok (.ireturn, 1) := by decide +kernel
theorem d_M_count_106 : decode b_M_count 106 = .ok (.iconst (-1), 1) := by decide +kernel
theorem d_M_count_107 : decode b_M_count 107 = .ok (.ireturn, 1) := by decide +kernel
theorem d_L_law_0 : decode code 0 = .ok (.new 7, 3) := by decide +kernel
theorem d_L_law_3 : decode code 3 = .ok (.dup, 1) := by decide +kernel
theorem d_L_law_4 : decode code 4 = .ok (.invokespecial 9, 3) := by decide +kernel
theorem d_L_law_7 : decode code 7 = .ok (.astore_n 1, 1) := by decide +kernel
theorem d_L_law_8 : decode code 8 = .ok (.new 10, 3) := by decide +kernel
theorem d_L_law_11 : decode code 11 = .ok (.dup, 1) := by decide +kernel
theorem d_L_law_12 : decode code 12 = .ok (.invokespecial 12, 3) := by decide +kernel
theorem d_L_law_15 : decode code 15 = .ok (.astore_n 2, 1) := by decide +kernel
theorem d_L_law_16 : decode code 16 = .ok (.iconst 0, 1) := by decide +kernel
theorem d_L_law_17 : decode code 17 = .ok (.istore_n 3, 1) := by decide +kernel
theorem d_L_law_18 : decode code 18 = .ok (.iload_n 3, 1) := by decide +kernel
theorem d_L_law_19 : decode code 19 = .ok (.aload_n 0, 1) := by decide +kernel
theorem d_L_law_20 : decode code 20 = .ok (.arraylength, 1) := by decide +kernel
theorem d_L_law_21 : decode code 21 = .ok (.bipush 6, 2) := by decide +kernel
theorem d_L_law_23 : decode code 23 = .ok (.isub, 1) := by decide +kernel
theorem d_L_law_24 : decode code 24 = .ok (.if_icmp .gt 1070, 3) := by decide +kernel
theorem d_L_law_27 : decode code 27 = .ok (.aload_n 0, 1) := by decide +kernel
theorem d_L_law_28 : decode code 28 = .ok (.iload_n 3, 1) := by decide +kernel
theorem d_L_law_29 : decode code 29 = .ok (.iaload, 1) := by decide +kernel
theorem d_L_law_30 : decode code 30 = .ok (.bipush 31, 2) := by decide +kernel
theorem d_L_law_32 : decode code 32 = .ok (.iand, 1) := by decide +kernel
theorem d_L_law_33 : decode code 33 = .ok (.tableswitch 1055 0 28 #[131, 154, 187, 210, 243, 266, 310, 354, 398, 451, 474, 507, 520, 544, 557, 581, 624, 657, 721, 784, 807, 820, 853, 926, 960, 983, 1006, 1019, 1032], 131) := by decide +kernel
theorem d_L_law_164 : decode code 164 = .ok (.aload_n 1, 1) := by decide +kernel
theorem d_L_law_165 : decode code 165 = .ok (.aload_n 0, 1) := by decide +kernel
theorem d_L_law_166 : decode code 166 = .ok (.iload_n 3, 1) := by decide +kernel
theorem d_L_law_167 : decode code 167 = .ok (.iconst 1, 1) := by decide +kernel
theorem d_L_law_168 : decode code 168 = .ok (.iadd, 1) := by decide +kernel
theorem d_L_law_169 : decode code 169 = .ok (.iaload, 1) := by decide +kernel
theorem d_L_law_170 : decode code 170 = .ok (.invokevirtual 13, 3) := by decide +kernel
theorem d_L_law_173 : decode code 173 = .ok (.aload_n 2, 1) := by decide +kernel
theorem d_L_law_174 : decode code 174 = .ok (.aload_n 0, 1) := by decide +kernel
theorem d_L_law_175 : decode code 175 = .ok (.iload_n 3, 1) := by decide +kernel
theorem d_L_law_176 : decode code 176 = .ok (.iconst 1, 1) := by decide +kernel
theorem d_L_law_177 : decode code 177 = .ok (.iadd, 1) := by decide +kernel
theorem d_L_law_178 : decode code 178 = .ok (.iaload, 1) := by decide +kernel
theorem d_L_law_179 : decode code 179 = .ok (.invokevirtual 17, 3) := by decide +kernel
theorem d_L_law_182 : decode code 182 = .ok (.if_icmp .eq 906, 3) := by decide +kernel
theorem d_L_law_185 : decode code 185 = .ok (.iconst 0, 1) := by decide +kernel
theorem d_L_law_186 : decode code 186 = .ok (.ireturn, 1) := by decide +kernel
theorem d_L_law_187 : decode code 187 = .ok (.aload_n 1, 1) := by decide +kernel
theorem d_L_law_188 : decode code 188 = .ok (.aload_n 0, 1) := by decide +kernel
theorem d_L_law_189 : decode code 189 = .ok (.iload_n 3, 1) := by decide +kernel
theorem d_L_law_190 : decode code 190 = .ok (.iconst 1, 1) := by decide +kernel
theorem d_L_law_191 : decode code 191 = .ok (.iadd, 1) := by decide +kernel
theorem d_L_law_192 : decode code 192 = .ok (.iaload, 1) := by decide +kernel
theorem d_L_law_193 : decode code 193 = .ok (.aload_n 0, 1) := by decide +kernel
theorem d_L_law_194 : decode code 194 = .ok (.iload_n 3, 1) := by decide +kernel
theorem d_L_law_195 : decode code 195 = .ok (.iconst 2, 1) := by decide +kernel
theorem d_L_law_196 : decode code 196 = .ok (.iadd, 1) := by decide +kernel
theorem d_L_law_197 : decode code 197 = .ok (.iaload, 1) := by decide +kernel
theorem d_L_law_198 : decode code 198 = .ok (.invokevirtual 18, 3) := by decide +kernel
theorem d_L_law_201 : decode code 201 = .ok (.aload_n 2, 1) := by decide +kernel
theorem d_L_law_202 : decode code 202 = .ok (.aload_n 0, 1) := by decide +kernel
theorem d_L_law_203 : decode code 203 = .ok (.iload_n 3, 1) := by decide +kernel
theorem d_L_law_204 : decode code 204 = .ok (.iconst 1, 1) := by decide +kernel
theorem d_L_law_205 : decode code 205 = .ok (.iadd, 1) := by decide +kernel
theorem d_L_law_206 : decode code 206 = .ok (.iaload, 1) := by decide +kernel
theorem d_L_law_207 : decode code 207 = .ok (.aload_n 0, 1) := by decide +kernel
theorem d_L_law_208 : decode code 208 = .ok (.iload_n 3, 1) := by decide +kernel
theorem d_L_law_209 : decode code 209 = .ok (.iconst 2, 1) := by decide +kernel
theorem d_L_law_210 : decode code 210 = .ok (.iadd, 1) := by decide +kernel
theorem d_L_law_211 : decode code 211 = .ok (.iaload, 1) := by decide +kernel
theorem d_L_law_212 : decode code 212 = .ok (.invokevirtual 22, 3) := by decide +kernel
theorem d_L_law_215 : decode code 215 = .ok (.if_icmp .eq 873, 3) := by decide +kernel
theorem d_L_law_218 : decode code 218 = .ok (.iconst 0, 1) := by decide +kernel
theorem d_L_law_219 : decode code 219 = .ok (.ireturn, 1) := by decide +kernel
theorem d_L_law_220 : decode code 220 = .ok (.aload_n 1, 1) := by decide +kernel
theorem d_L_law_221 : decode code 221 = .ok (.aload_n 0, 1) := by decide +kernel
theorem d_L_law_222 : decode code 222 = .ok (.iload_n 3, 1) := by decide +kernel
theorem d_L_law_223 : decode code 223 = .ok (.iconst 1, 1) := by decide +kernel
theorem d_L_law_224 : decode code 224 = .ok (.iadd, 1) := by decide +kernel
theorem d_L_law_225 : decode code 225 = .ok (.iaload, 1) := by decide +kernel
theorem d_L_law_226 : decode code 226 = .ok (.invokevirtual 23, 3) := by decide +kernel
theorem d_L_law_229 : decode code 229 = .ok (.aload_n 2, 1) := by decide +kernel
theorem d_L_law_230 : decode code 230 = .ok (.aload_n 0, 1) := by decide +kernel
theorem d_L_law_231 : decode code 231 = .ok (.iload_n 3, 1) := by decide +kernel
theorem d_L_law_232 : decode code 232 = .ok (.iconst 1, 1) := by decide +kernel
theorem d_L_law_233 : decode code 233 = .ok (.iadd, 1) := by decide +kernel
theorem d_L_law_234 : decode code 234 = .ok (.iaload, 1) := by decide +kernel
theorem d_L_law_235 : decode code 235 = .ok (.invokevirtual 26, 3) := by decide +kernel
theorem d_L_law_238 : decode code 238 = .ok (.if_icmp .eq 850, 3) := by decide +kernel
theorem d_L_law_241 : decode code 241 = .ok (.iconst 0, 1) := by decide +kernel
theorem d_L_law_242 : decode code 242 = .ok (.ireturn, 1) := by decide +kernel
theorem d_L_law_243 : decode code 243 = .ok (.aload_n 1, 1) := by decide +kernel
theorem d_L_law_244 : decode code 244 = .ok (.aload_n 0, 1) := by decide +kernel
theorem d_L_law_245 : decode code 245 = .ok (.iload_n 3, 1) := by decide +kernel
theorem d_L_law_246 : decode code 246 = .ok (.iconst 1, 1) := by decide +kernel
theorem d_L_law_247 : decode code 247 = .ok (.iadd, 1) := by decide +kernel
theorem d_L_law_248 : decode code 248 = .ok (.iaload, 1) := by decide +kernel
theorem d_L_law_249 : decode code 249 = .ok (.aload_n 0, 1) := by decide +kernel
theorem d_L_law_250 : decode code 250 = .ok (.iload_n 3, 1) := by decide +kernel
theorem d_L_law_251 : decode code 251 = .ok (.iconst 2, 1) := by decide +kernel
theorem d_L_law_252 : decode code 252 = .ok (.iadd, 1) := by decide +kernel
theorem d_L_law_253 : decode code 253 = .ok (.iaload, 1) := by decide +kernel
theorem d_L_law_254 : decode code 254 = .ok (.invokevirtual 27, 3) := by decide +kernel
theorem d_L_law_257 : decode code 257 = .ok (.aload_n 2, 1) := by decide +kernel
theorem d_L_law_258 : decode code 258 = .ok (.aload_n 0, 1) := by decide +kernel
theorem d_L_law_259 : decode code 259 = .ok (.iload_n 3, 1) := by decide +kernel
theorem d_L_law_260 : decode code 260 = .ok (.iconst 1, 1) := by decide +kernel
theorem d_L_law_261 : decode code 261 = .ok (.iadd, 1) := by decide +kernel
theorem d_L_law_262 : decode code 262 = .ok (.iaload, 1) := by decide +kernel
theorem d_L_law_263 : decode code 263 = .ok (.aload_n 0, 1) := by decide +kernel
theorem d_L_law_264 : decode code 264 = .ok (.iload_n 3, 1) := by decide +kernel
theorem d_L_law_265 : decode code 265 = .ok (.iconst 2, 1) := by decide +kernel
theorem d_L_law_266 : decode code 266 = .ok (.iadd, 1) := by decide +kernel
theorem d_L_law_267 : decode code 267 = .ok (.iaload, 1) := by decide +kernel
theorem d_L_law_268 : decode code 268 = .ok (.invokevirtual 30, 3) := by decide +kernel
theorem d_L_law_271 : decode code 271 = .ok (.if_icmp .eq 817, 3) := by decide +kernel
theorem d_L_law_274 : decode code 274 = .ok (.iconst 0, 1) := by decide +kernel
theorem d_L_law_275 : decode code 275 = .ok (.ireturn, 1) := by decide +kernel
theorem d_L_law_276 : decode code 276 = .ok (.aload_n 1, 1) := by decide +kernel
theorem d_L_law_277 : decode code 277 = .ok (.aload_n 0, 1) := by decide +kernel
theorem d_L_law_278 : decode code 278 = .ok (.iload_n 3, 1) := by decide +kernel
theorem d_L_law_279 : decode code 279 = .ok (.iconst 1, 1) := by decide +kernel
theorem d_L_law_280 : decode code 280 = .ok (.iadd, 1) := by decide +kernel
theorem d_L_law_281 : decode code 281 = .ok (.iaload, 1) := by decide +kernel
theorem d_L_law_282 : decode code 282 = .ok (.invokevirtual 31, 3) := by decide +kernel
theorem d_L_law_285 : decode code 285 = .ok (.aload_n 2, 1) := by decide +kernel
theorem d_L_law_286 : decode code 286 = .ok (.aload_n 0, 1) := by decide +kernel
theorem d_L_law_287 : decode code 287 = .ok (.iload_n 3, 1) := by decide +kernel
theorem d_L_law_288 : decode code 288 = .ok (.iconst 1, 1) := by decide +kernel
theorem d_L_law_289 : decode code 289 = .ok (.iadd, 1) := by decide +kernel
theorem d_L_law_290 : decode code 290 = .ok (.iaload, 1) := by decide +kernel
theorem d_L_law_291 : decode code 291 = .ok (.invokevirtual 34, 3) := by decide +kernel
theorem d_L_law_294 : decode code 294 = .ok (.if_icmp .eq 794, 3) := by decide +kernel
theorem d_L_law_297 : decode code 297 = .ok (.iconst 0, 1) := by decide +kernel
theorem d_L_law_298 : decode code 298 = .ok (.ireturn, 1) := by decide +kernel
theorem d_L_law_299 : decode code 299 = .ok (.aload_n 1, 1) := by decide +kernel
theorem d_L_law_300 : decode code 300 = .ok (.aload_n 0, 1) := by decide +kernel
theorem d_L_law_301 : decode code 301 = .ok (.iload_n 3, 1) := by decide +kernel
theorem d_L_law_302 : decode code 302 = .ok (.iconst 1, 1) := by decide +kernel
theorem d_L_law_303 : decode code 303 = .ok (.iadd, 1) := by decide +kernel
theorem d_L_law_304 : decode code 304 = .ok (.iaload, 1) := by decide +kernel
theorem d_L_law_305 : decode code 305 = .ok (.aload_n 0, 1) := by decide +kernel
theorem d_L_law_306 : decode code 306 = .ok (.iload_n 3, 1) := by decide +kernel
theorem d_L_law_307 : decode code 307 = .ok (.iconst 2, 1) := by decide +kernel
theorem d_L_law_308 : decode code 308 = .ok (.iadd, 1) := by decide +kernel
theorem d_L_law_309 : decode code 309 = .ok (.iaload, 1) := by decide +kernel
theorem d_L_law_310 : decode code 310 = .ok (.aload_n 0, 1) := by decide +kernel
theorem d_L_law_311 : decode code 311 = .ok (.iload_n 3, 1) := by decide +kernel
theorem d_L_law_312 : decode code 312 = .ok (.iconst 3, 1) := by decide +kernel
theorem d_L_law_313 : decode code 313 = .ok (.iadd, 1) := by decide +kernel
theorem d_L_law_314 : decode code 314 = .ok (.iaload, 1) := by decide +kernel
theorem d_L_law_315 : decode code 315 = .ok (.invokevirtual 35, 3) := by decide +kernel
theorem d_L_law_318 : decode code 318 = .ok (.aload_n 2, 1) := by decide +kernel
theorem d_L_law_319 : decode code 319 = .ok (.aload_n 0, 1) := by decide +kernel
theorem d_L_law_320 : decode code 320 = .ok (.iload_n 3, 1) := by decide +kernel
theorem d_L_law_321 : decode code 321 = .ok (.iconst 1, 1) := by decide +kernel
theorem d_L_law_322 : decode code 322 = .ok (.iadd, 1) := by decide +kernel
theorem d_L_law_323 : decode code 323 = .ok (.iaload, 1) := by decide +kernel
theorem d_L_law_324 : decode code 324 = .ok (.aload_n 0, 1) := by decide +kernel
theorem d_L_law_325 : decode code 325 = .ok (.iload_n 3, 1) := by decide +kernel
theorem d_L_law_326 : decode code 326 = .ok (.iconst 2, 1) := by decide +kernel
theorem d_L_law_327 : decode code 327 = .ok (.iadd, 1) := by decide +kernel
theorem d_L_law_328 : decode code 328 = .ok (.iaload, 1) := by decide +kernel
theorem d_L_law_329 : decode code 329 = .ok (.aload_n 0, 1) := by decide +kernel
theorem d_L_law_330 : decode code 330 = .ok (.iload_n 3, 1) := by decide +kernel
theorem d_L_law_331 : decode code 331 = .ok (.iconst 3, 1) := by decide +kernel
theorem d_L_law_332 : decode code 332 = .ok (.iadd, 1) := by decide +kernel
theorem d_L_law_333 : decode code 333 = .ok (.iaload, 1) := by decide +kernel
theorem d_L_law_334 : decode code 334 = .ok (.invokevirtual 39, 3) := by decide +kernel
theorem d_L_law_337 : decode code 337 = .ok (.lcmp, 1) := by decide +kernel
theorem d_L_law_338 : decode code 338 = .ok (.ifCond .eq 750, 3) := by decide +kernel
theorem d_L_law_341 : decode code 341 = .ok (.iconst 0, 1) := by decide +kernel
theorem d_L_law_342 : decode code 342 = .ok (.ireturn, 1) := by decide +kernel
theorem d_L_law_343 : decode code 343 = .ok (.aload_n 1, 1) := by decide +kernel
theorem d_L_law_344 : decode code 344 = .ok (.aload_n 0, 1) := by decide +kernel
theorem d_L_law_345 : decode code 345 = .ok (.iload_n 3, 1) := by decide +kernel
theorem d_L_law_346 : decode code 346 = .ok (.iconst 1, 1) := by decide +kernel
theorem d_L_law_347 : decode code 347 = .ok (.iadd, 1) := by decide +kernel
theorem d_L_law_348 : decode code 348 = .ok (.iaload, 1) := by decide +kernel
theorem d_L_law_349 : decode code 349 = .ok (.aload_n 0, 1) := by decide +kernel
theorem d_L_law_350 : decode code 350 = .ok (.iload_n 3, 1) := by decide +kernel
theorem d_L_law_351 : decode code 351 = .ok (.iconst 2, 1) := by decide +kernel
theorem d_L_law_352 : decode code 352 = .ok (.iadd, 1) := by decide +kernel
theorem d_L_law_353 : decode code 353 = .ok (.iaload, 1) := by decide +kernel
theorem d_L_law_354 : decode code 354 = .ok (.aload_n 0, 1) := by decide +kernel
theorem d_L_law_355 : decode code 355 = .ok (.iload_n 3, 1) := by decide +kernel
theorem d_L_law_356 : decode code 356 = .ok (.iconst 3, 1) := by decide +kernel
theorem d_L_law_357 : decode code 357 = .ok (.iadd, 1) := by decide +kernel
theorem d_L_law_358 : decode code 358 = .ok (.iaload, 1) := by decide +kernel
theorem d_L_law_359 : decode code 359 = .ok (.invokevirtual 40, 3) := by decide +kernel
theorem d_L_law_362 : decode code 362 = .ok (.aload_n 2, 1) := by decide +kernel
theorem d_L_law_363 : decode code 363 = .ok (.aload_n 0, 1) := by decide +kernel
theorem d_L_law_364 : decode code 364 = .ok (.iload_n 3, 1) := by decide +kernel
theorem d_L_law_365 : decode code 365 = .ok (.iconst 1, 1) := by decide +kernel
theorem d_L_law_366 : decode code 366 = .ok (.iadd, 1) := by decide +kernel
theorem d_L_law_367 : decode code 367 = .ok (.iaload, 1) := by decide +kernel
theorem d_L_law_368 : decode code 368 = .ok (.aload_n 0, 1) := by decide +kernel
theorem d_L_law_369 : decode code 369 = .ok (.iload_n 3, 1) := by decide +kernel
theorem d_L_law_370 : decode code 370 = .ok (.iconst 2, 1) := by decide +kernel
theorem d_L_law_371 : decode code 371 = .ok (.iadd, 1) := by decide +kernel
theorem d_L_law_372 : decode code 372 = .ok (.iaload, 1) := by decide +kernel
theorem d_L_law_373 : decode code 373 = .ok (.aload_n 0, 1) := by decide +kernel
theorem d_L_law_374 : decode code 374 = .ok (.iload_n 3, 1) := by decide +kernel
theorem d_L_law_375 : decode code 375 = .ok (.iconst 3, 1) := by decide +kernel
theorem d_L_law_376 : decode code 376 = .ok (.iadd, 1) := by decide +kernel
theorem d_L_law_377 : decode code 377 = .ok (.iaload, 1) := by decide +kernel
theorem d_L_law_378 : decode code 378 = .ok (.invokevirtual 43, 3) := by decide +kernel
theorem d_L_law_381 : decode code 381 = .ok (.lcmp, 1) := by decide +kernel
theorem d_L_law_382 : decode code 382 = .ok (.ifCond .eq 706, 3) := by decide +kernel
theorem d_L_law_385 : decode code 385 = .ok (.iconst 0, 1) := by decide +kernel
theorem d_L_law_386 : decode code 386 = .ok (.ireturn, 1) := by decide +kernel
theorem d_L_law_387 : decode code 387 = .ok (.aload_n 1, 1) := by decide +kernel
theorem d_L_law_388 : decode code 388 = .ok (.aload_n 0, 1) := by decide +kernel
theorem d_L_law_389 : decode code 389 = .ok (.iload_n 3, 1) := by decide +kernel
theorem d_L_law_390 : decode code 390 = .ok (.iconst 1, 1) := by decide +kernel
theorem d_L_law_391 : decode code 391 = .ok (.iadd, 1) := by decide +kernel
theorem d_L_law_392 : decode code 392 = .ok (.iaload, 1) := by decide +kernel
theorem d_L_law_393 : decode code 393 = .ok (.aload_n 0, 1) := by decide +kernel
theorem d_L_law_394 : decode code 394 = .ok (.iload_n 3, 1) := by decide +kernel
theorem d_L_law_395 : decode code 395 = .ok (.iconst 2, 1) := by decide +kernel
theorem d_L_law_396 : decode code 396 = .ok (.iadd, 1) := by decide +kernel
theorem d_L_law_397 : decode code 397 = .ok (.iaload, 1) := by decide +kernel
theorem d_L_law_398 : decode code 398 = .ok (.aload_n 0, 1) := by decide +kernel
theorem d_L_law_399 : decode code 399 = .ok (.iload_n 3, 1) := by decide +kernel
theorem d_L_law_400 : decode code 400 = .ok (.iconst 3, 1) := by decide +kernel
theorem d_L_law_401 : decode code 401 = .ok (.iadd, 1) := by decide +kernel
theorem d_L_law_402 : decode code 402 = .ok (.iaload, 1) := by decide +kernel
theorem d_L_law_403 : decode code 403 = .ok (.invokevirtual 44, 3) := by decide +kernel
theorem d_L_law_406 : decode code 406 = .ok (.aload_n 2, 1) := by decide +kernel
theorem d_L_law_407 : decode code 407 = .ok (.aload_n 0, 1) := by decide +kernel
theorem d_L_law_408 : decode code 408 = .ok (.iload_n 3, 1) := by decide +kernel
theorem d_L_law_409 : decode code 409 = .ok (.iconst 1, 1) := by decide +kernel
theorem d_L_law_410 : decode code 410 = .ok (.iadd, 1) := by decide +kernel
theorem d_L_law_411 : decode code 411 = .ok (.iaload, 1) := by decide +kernel
theorem d_L_law_412 : decode code 412 = .ok (.aload_n 0, 1) := by decide +kernel
theorem d_L_law_413 : decode code 413 = .ok (.iload_n 3, 1) := by decide +kernel
theorem d_L_law_414 : decode code 414 = .ok (.iconst 2, 1) := by decide +kernel
theorem d_L_law_415 : decode code 415 = .ok (.iadd, 1) := by decide +kernel
theorem d_L_law_416 : decode code 416 = .ok (.iaload, 1) := by decide +kernel
theorem d_L_law_417 : decode code 417 = .ok (.aload_n 0, 1) := by decide +kernel
theorem d_L_law_418 : decode code 418 = .ok (.iload_n 3, 1) := by decide +kernel
theorem d_L_law_419 : decode code 419 = .ok (.iconst 3, 1) := by decide +kernel
theorem d_L_law_420 : decode code 420 = .ok (.iadd, 1) := by decide +kernel
theorem d_L_law_421 : decode code 421 = .ok (.iaload, 1) := by decide +kernel
theorem d_L_law_422 : decode code 422 = .ok (.invokevirtual 47, 3) := by decide +kernel
theorem d_L_law_425 : decode code 425 = .ok (.lcmp, 1) := by decide +kernel
theorem d_L_law_426 : decode code 426 = .ok (.ifCond .eq 662, 3) := by decide +kernel
theorem d_L_law_429 : decode code 429 = .ok (.iconst 0, 1) := by decide +kernel
theorem d_L_law_430 : decode code 430 = .ok (.ireturn, 1) := by decide +kernel
theorem d_L_law_431 : decode code 431 = .ok (.aload_n 1, 1) := by decide +kernel
theorem d_L_law_432 : decode code 432 = .ok (.aload_n 0, 1) := by decide +kernel
theorem d_L_law_433 : decode code 433 = .ok (.iload_n 3, 1) := by decide +kernel
theorem d_L_law_434 : decode code 434 = .ok (.iconst 1, 1) := by decide +kernel
theorem d_L_law_435 : decode code 435 = .ok (.iadd, 1) := by decide +kernel
theorem d_L_law_436 : decode code 436 = .ok (.iaload, 1) := by decide +kernel
theorem d_L_law_437 : decode code 437 = .ok (.aload_n 0, 1) := by decide +kernel
theorem d_L_law_438 : decode code 438 = .ok (.iload_n 3, 1) := by decide +kernel
theorem d_L_law_439 : decode code 439 = .ok (.iconst 2, 1) := by decide +kernel
theorem d_L_law_440 : decode code 440 = .ok (.iadd, 1) := by decide +kernel
theorem d_L_law_441 : decode code 441 = .ok (.iaload, 1) := by decide +kernel
theorem d_L_law_442 : decode code 442 = .ok (.aload_n 0, 1) := by decide +kernel
theorem d_L_law_443 : decode code 443 = .ok (.iload_n 3, 1) := by decide +kernel
theorem d_L_law_444 : decode code 444 = .ok (.iconst 3, 1) := by decide +kernel
theorem d_L_law_445 : decode code 445 = .ok (.iadd, 1) := by decide +kernel
theorem d_L_law_446 : decode code 446 = .ok (.iaload, 1) := by decide +kernel
theorem d_L_law_447 : decode code 447 = .ok (.aload_n 0, 1) := by decide +kernel
theorem d_L_law_448 : decode code 448 = .ok (.iload_n 3, 1) := by decide +kernel
theorem d_L_law_449 : decode code 449 = .ok (.iconst 4, 1) := by decide +kernel
theorem d_L_law_450 : decode code 450 = .ok (.iadd, 1) := by decide +kernel
theorem d_L_law_451 : decode code 451 = .ok (.iaload, 1) := by decide +kernel
theorem d_L_law_452 : decode code 452 = .ok (.invokevirtual 48, 3) := by decide +kernel
theorem d_L_law_455 : decode code 455 = .ok (.aload_n 2, 1) := by decide +kernel
theorem d_L_law_456 : decode code 456 = .ok (.aload_n 0, 1) := by decide +kernel
theorem d_L_law_457 : decode code 457 = .ok (.iload_n 3, 1) := by decide +kernel
theorem d_L_law_458 : decode code 458 = .ok (.iconst 1, 1) := by decide +kernel
theorem d_L_law_459 : decode code 459 = .ok (.iadd, 1) := by decide +kernel
theorem d_L_law_460 : decode code 460 = .ok (.iaload, 1) := by decide +kernel
theorem d_L_law_461 : decode code 461 = .ok (.aload_n 0, 1) := by decide +kernel
theorem d_L_law_462 : decode code 462 = .ok (.iload_n 3, 1) := by decide +kernel
theorem d_L_law_463 : decode code 463 = .ok (.iconst 2, 1) := by decide +kernel
theorem d_L_law_464 : decode code 464 = .ok (.iadd, 1) := by decide +kernel
theorem d_L_law_465 : decode code 465 = .ok (.iaload, 1) := by decide +kernel
theorem d_L_law_466 : decode code 466 = .ok (.aload_n 0, 1) := by decide +kernel
theorem d_L_law_467 : decode code 467 = .ok (.iload_n 3, 1) := by decide +kernel
theorem d_L_law_468 : decode code 468 = .ok (.iconst 3, 1) := by decide +kernel
theorem d_L_law_469 : decode code 469 = .ok (.iadd, 1) := by decide +kernel
theorem d_L_law_470 : decode code 470 = .ok (.iaload, 1) := by decide +kernel
theorem d_L_law_471 : decode code 471 = .ok (.aload_n 0, 1) := by decide +kernel
theorem d_L_law_472 : decode code 472 = .ok (.iload_n 3, 1) := by decide +kernel
theorem d_L_law_473 : decode code 473 = .ok (.iconst 4, 1) := by decide +kernel
theorem d_L_law_474 : decode code 474 = .ok (.iadd, 1) := by decide +kernel
theorem d_L_law_475 : decode code 475 = .ok (.iaload, 1) := by decide +kernel
theorem d_L_law_476 : decode code 476 = .ok (.invokevirtual 52, 3) := by decide +kernel
theorem d_L_law_479 : decode code 479 = .ok (.if_icmp .eq 609, 3) := by decide +kernel
theorem d_L_law_482 : decode code 482 = .ok (.iconst 0, 1) := by decide +kernel
theorem d_L_law_483 : decode code 483 = .ok (.ireturn, 1) := by decide +kernel
theorem d_L_law_484 : decode code 484 = .ok (.aload_n 1, 1) := by decide +kernel
theorem d_L_law_485 : decode code 485 = .ok (.aload_n 0, 1) := by decide +kernel
theorem d_L_law_486 : decode code 486 = .ok (.iload_n 3, 1) := by decide +kernel
theorem d_L_law_487 : decode code 487 = .ok (.iconst 1, 1) := by decide +kernel
theorem d_L_law_488 : decode code 488 = .ok (.iadd, 1) := by decide +kernel
theorem d_L_law_489 : decode code 489 = .ok (.iaload, 1) := by decide +kernel
theorem d_L_law_490 : decode code 490 = .ok (.invokevirtual 53, 3) := by decide +kernel
theorem d_L_law_493 : decode code 493 = .ok (.aload_n 2, 1) := by decide +kernel
theorem d_L_law_494 : decode code 494 = .ok (.aload_n 0, 1) := by decide +kernel
theorem d_L_law_495 : decode code 495 = .ok (.iload_n 3, 1) := by decide +kernel
theorem d_L_law_496 : decode code 496 = .ok (.iconst 1, 1) := by decide +kernel
theorem d_L_law_497 : decode code 497 = .ok (.iadd, 1) := by decide +kernel
theorem d_L_law_498 : decode code 498 = .ok (.iaload, 1) := by decide +kernel
theorem d_L_law_499 : decode code 499 = .ok (.invokevirtual 56, 3) := by decide +kernel
theorem d_L_law_502 : decode code 502 = .ok (.if_icmp .eq 586, 3) := by decide +kernel
theorem d_L_law_505 : decode code 505 = .ok (.iconst 0, 1) := by decide +kernel
theorem d_L_law_506 : decode code 506 = .ok (.ireturn, 1) := by decide +kernel
theorem d_L_law_507 : decode code 507 = .ok (.aload_n 1, 1) := by decide +kernel
theorem d_L_law_508 : decode code 508 = .ok (.aload_n 0, 1) := by decide +kernel
theorem d_L_law_509 : decode code 509 = .ok (.iload_n 3, 1) := by decide +kernel
theorem d_L_law_510 : decode code 510 = .ok (.iconst 1, 1) := by decide +kernel
theorem d_L_law_511 : decode code 511 = .ok (.iadd, 1) := by decide +kernel
theorem d_L_law_512 : decode code 512 = .ok (.iaload, 1) := by decide +kernel
theorem d_L_law_513 : decode code 513 = .ok (.aload_n 0, 1) := by decide +kernel
theorem d_L_law_514 : decode code 514 = .ok (.iload_n 3, 1) := by decide +kernel
theorem d_L_law_515 : decode code 515 = .ok (.iconst 2, 1) := by decide +kernel
theorem d_L_law_516 : decode code 516 = .ok (.iadd, 1) := by decide +kernel
theorem d_L_law_517 : decode code 517 = .ok (.iaload, 1) := by decide +kernel
theorem d_L_law_518 : decode code 518 = .ok (.invokevirtual 57, 3) := by decide +kernel
theorem d_L_law_521 : decode code 521 = .ok (.aload_n 2, 1) := by decide +kernel
theorem d_L_law_522 : decode code 522 = .ok (.aload_n 0, 1) := by decide +kernel
theorem d_L_law_523 : decode code 523 = .ok (.iload_n 3, 1) := by decide +kernel
theorem d_L_law_524 : decode code 524 = .ok (.iconst 1, 1) := by decide +kernel
theorem d_L_law_525 : decode code 525 = .ok (.iadd, 1) := by decide +kernel
theorem d_L_law_526 : decode code 526 = .ok (.iaload, 1) := by decide +kernel
theorem d_L_law_527 : decode code 527 = .ok (.aload_n 0, 1) := by decide +kernel
theorem d_L_law_528 : decode code 528 = .ok (.iload_n 3, 1) := by decide +kernel
theorem d_L_law_529 : decode code 529 = .ok (.iconst 2, 1) := by decide +kernel
theorem d_L_law_530 : decode code 530 = .ok (.iadd, 1) := by decide +kernel
theorem d_L_law_531 : decode code 531 = .ok (.iaload, 1) := by decide +kernel
theorem d_L_law_532 : decode code 532 = .ok (.invokevirtual 60, 3) := by decide +kernel
theorem d_L_law_535 : decode code 535 = .ok (.if_icmp .eq 553, 3) := by decide +kernel
theorem d_L_law_538 : decode code 538 = .ok (.iconst 0, 1) := by decide +kernel
theorem d_L_law_539 : decode code 539 = .ok (.ireturn, 1) := by decide +kernel
theorem d_L_law_540 : decode code 540 = .ok (.aload_n 1, 1) := by decide +kernel
theorem d_L_law_541 : decode code 541 = .ok (.invokevirtual 61, 3) := by decide +kernel
theorem d_L_law_544 : decode code 544 = .ok (.aload_n 2, 1) := by decide +kernel
theorem d_L_law_545 : decode code 545 = .ok (.invokevirtual 65, 3) := by decide +kernel
theorem d_L_law_548 : decode code 548 = .ok (.if_icmp .eq 540, 3) := by decide +kernel
theorem d_L_law_551 : decode code 551 = .ok (.iconst 0, 1) := by decide +kernel
theorem d_L_law_552 : decode code 552 = .ok (.ireturn, 1) := by decide +kernel
theorem d_L_law_553 : decode code 553 = .ok (.aload_n 1, 1) := by decide +kernel
theorem d_L_law_554 : decode code 554 = .ok (.aload_n 0, 1) := by decide +kernel
theorem d_L_law_555 : decode code 555 = .ok (.iload_n 3, 1) := by decide +kernel
theorem d_L_law_556 : decode code 556 = .ok (.iconst 1, 1) := by decide +kernel
theorem d_L_law_557 : decode code 557 = .ok (.iadd, 1) := by decide +kernel
theorem d_L_law_558 : decode code 558 = .ok (.iaload, 1) := by decide +kernel
theorem d_L_law_559 : decode code 559 = .ok (.invokevirtual 66, 3) := by decide +kernel
theorem d_L_law_562 : decode code 562 = .ok (.aload_n 2, 1) := by decide +kernel
theorem d_L_law_563 : decode code 563 = .ok (.aload_n 0, 1) := by decide +kernel
theorem d_L_law_564 : decode code 564 = .ok (.iload_n 3, 1) := by decide +kernel
theorem d_L_law_565 : decode code 565 = .ok (.iconst 1, 1) := by decide +kernel
theorem d_L_law_566 : decode code 566 = .ok (.iadd, 1) := by decide +kernel
theorem d_L_law_567 : decode code 567 = .ok (.iaload, 1) := by decide +kernel
theorem d_L_law_568 : decode code 568 = .ok (.invokevirtual 70, 3) := by decide +kernel
theorem d_L_law_571 : decode code 571 = .ok (.lcmp, 1) := by decide +kernel
theorem d_L_law_572 : decode code 572 = .ok (.ifCond .eq 516, 3) := by decide +kernel
theorem d_L_law_575 : decode code 575 = .ok (.iconst 0, 1) := by decide +kernel
theorem d_L_law_576 : decode code 576 = .ok (.ireturn, 1) := by decide +kernel
theorem d_L_law_577 : decode code 577 = .ok (.aload_n 1, 1) := by decide +kernel
theorem d_L_law_578 : decode code 578 = .ok (.invokevirtual 71, 3) := by decide +kernel
theorem d_L_law_581 : decode code 581 = .ok (.aload_n 2, 1) := by decide +kernel
theorem d_L_law_582 : decode code 582 = .ok (.invokevirtual 74, 3) := by decide +kernel
theorem d_L_law_585 : decode code 585 = .ok (.if_icmp .eq 503, 3) := by decide +kernel
theorem d_L_law_588 : decode code 588 = .ok (.iconst 0, 1) := by decide +kernel
theorem d_L_law_589 : decode code 589 = .ok (.ireturn, 1) := by decide +kernel
theorem d_L_law_590 : decode code 590 = .ok (.aload_n 1, 1) := by decide +kernel
theorem d_L_law_591 : decode code 591 = .ok (.aload_n 0, 1) := by decide +kernel
theorem d_L_law_592 : decode code 592 = .ok (.iload_n 3, 1) := by decide +kernel
theorem d_L_law_593 : decode code 593 = .ok (.iconst 1, 1) := by decide +kernel
theorem d_L_law_594 : decode code 594 = .ok (.iadd, 1) := by decide +kernel
theorem d_L_law_595 : decode code 595 = .ok (.iaload, 1) := by decide +kernel
theorem d_L_law_596 : decode code 596 = .ok (.invokevirtual 75, 3) := by decide +kernel
theorem d_L_law_599 : decode code 599 = .ok (.aload_n 2, 1) := by decide +kernel
theorem d_L_law_600 : decode code 600 = .ok (.aload_n 0, 1) := by decide +kernel
theorem d_L_law_601 : decode code 601 = .ok (.iload_n 3, 1) := by decide +kernel
theorem d_L_law_602 : decode code 602 = .ok (.iconst 1, 1) := by decide +kernel
theorem d_L_law_603 : decode code 603 = .ok (.iadd, 1) := by decide +kernel
theorem d_L_law_604 : decode code 604 = .ok (.iaload, 1) := by decide +kernel
theorem d_L_law_605 : decode code 605 = .ok (.invokevirtual 78, 3) := by decide +kernel
theorem d_L_law_608 : decode code 608 = .ok (.lcmp, 1) := by decide +kernel
theorem d_L_law_609 : decode code 609 = .ok (.ifCond .eq 479, 3) := by decide +kernel
theorem d_L_law_612 : decode code 612 = .ok (.iconst 0, 1) := by decide +kernel
theorem d_L_law_613 : decode code 613 = .ok (.ireturn, 1) := by decide +kernel
theorem d_L_law_614 : decode code 614 = .ok (.aload_n 1, 1) := by decide +kernel
theorem d_L_law_615 : decode code 615 = .ok (.aload_n 0, 1) := by decide +kernel
theorem d_L_law_616 : decode code 616 = .ok (.iload_n 3, 1) := by decide +kernel
theorem d_L_law_617 : decode code 617 = .ok (.iconst 1, 1) := by decide +kernel
theorem d_L_law_618 : decode code 618 = .ok (.iadd, 1) := by decide +kernel
theorem d_L_law_619 : decode code 619 = .ok (.iaload, 1) := by decide +kernel
theorem d_L_law_620 : decode code 620 = .ok (.aload_n 0, 1) := by decide +kernel
theorem d_L_law_621 : decode code 621 = .ok (.iload_n 3, 1) := by decide +kernel
theorem d_L_law_622 : decode code 622 = .ok (.iconst 2, 1) := by decide +kernel
theorem d_L_law_623 : decode code 623 = .ok (.iadd, 1) := by decide +kernel
theorem d_L_law_624 : decode code 624 = .ok (.iaload, 1) := by decide +kernel
theorem d_L_law_625 : decode code 625 = .ok (.aload_n 0, 1) := by decide +kernel
theorem d_L_law_626 : decode code 626 = .ok (.iload_n 3, 1) := by decide +kernel
theorem d_L_law_627 : decode code 627 = .ok (.iconst 3, 1) := by decide +kernel
theorem d_L_law_628 : decode code 628 = .ok (.iadd, 1) := by decide +kernel
theorem d_L_law_629 : decode code 629 = .ok (.iaload, 1) := by decide +kernel
theorem d_L_law_630 : decode code 630 = .ok (.invokevirtual 79, 3) := by decide +kernel
theorem d_L_law_633 : decode code 633 = .ok (.aload_n 2, 1) := by decide +kernel
theorem d_L_law_634 : decode code 634 = .ok (.aload_n 0, 1) := by decide +kernel
theorem d_L_law_635 : decode code 635 = .ok (.iload_n 3, 1) := by decide +kernel
theorem d_L_law_636 : decode code 636 = .ok (.iconst 1, 1) := by decide +kernel
theorem d_L_law_637 : decode code 637 = .ok (.iadd, 1) := by decide +kernel
theorem d_L_law_638 : decode code 638 = .ok (.iaload, 1) := by decide +kernel
theorem d_L_law_639 : decode code 639 = .ok (.aload_n 0, 1) := by decide +kernel
theorem d_L_law_640 : decode code 640 = .ok (.iload_n 3, 1) := by decide +kernel
theorem d_L_law_641 : decode code 641 = .ok (.iconst 2, 1) := by decide +kernel
theorem d_L_law_642 : decode code 642 = .ok (.iadd, 1) := by decide +kernel
theorem d_L_law_643 : decode code 643 = .ok (.iaload, 1) := by decide +kernel
theorem d_L_law_644 : decode code 644 = .ok (.aload_n 0, 1) := by decide +kernel
theorem d_L_law_645 : decode code 645 = .ok (.iload_n 3, 1) := by decide +kernel
theorem d_L_law_646 : decode code 646 = .ok (.iconst 3, 1) := by decide +kernel
theorem d_L_law_647 : decode code 647 = .ok (.iadd, 1) := by decide +kernel
theorem d_L_law_648 : decode code 648 = .ok (.iaload, 1) := by decide +kernel
theorem d_L_law_649 : decode code 649 = .ok (.invokevirtual 83, 3) := by decide +kernel
theorem d_L_law_652 : decode code 652 = .ok (.if_icmp .eq 436, 3) := by decide +kernel
theorem d_L_law_655 : decode code 655 = .ok (.iconst 0, 1) := by decide +kernel
theorem d_L_law_656 : decode code 656 = .ok (.ireturn, 1) := by decide +kernel
theorem d_L_law_657 : decode code 657 = .ok (.aload_n 1, 1) := by decide +kernel
theorem d_L_law_658 : decode code 658 = .ok (.aload_n 0, 1) := by decide +kernel
theorem d_L_law_659 : decode code 659 = .ok (.iload_n 3, 1) := by decide +kernel
theorem d_L_law_660 : decode code 660 = .ok (.iconst 1, 1) := by decide +kernel
theorem d_L_law_661 : decode code 661 = .ok (.iadd, 1) := by decide +kernel
theorem d_L_law_662 : decode code 662 = .ok (.iaload, 1) := by decide +kernel
theorem d_L_law_663 : decode code 663 = .ok (.aload_n 0, 1) := by decide +kernel
theorem d_L_law_664 : decode code 664 = .ok (.iload_n 3, 1) := by decide +kernel
theorem d_L_law_665 : decode code 665 = .ok (.iconst 2, 1) := by decide +kernel
theorem d_L_law_666 : decode code 666 = .ok (.iadd, 1) := by decide +kernel
theorem d_L_law_667 : decode code 667 = .ok (.iaload, 1) := by decide +kernel
theorem d_L_law_668 : decode code 668 = .ok (.invokevirtual 84, 3) := by decide +kernel
theorem d_L_law_671 : decode code 671 = .ok (.aload_n 2, 1) := by decide +kernel
theorem d_L_law_672 : decode code 672 = .ok (.aload_n 0, 1) := by decide +kernel
theorem d_L_law_673 : decode code 673 = .ok (.iload_n 3, 1) := by decide +kernel
theorem d_L_law_674 : decode code 674 = .ok (.iconst 1, 1) := by decide +kernel
theorem d_L_law_675 : decode code 675 = .ok (.iadd, 1) := by decide +kernel
theorem d_L_law_676 : decode code 676 = .ok (.iaload, 1) := by decide +kernel
theorem d_L_law_677 : decode code 677 = .ok (.aload_n 0, 1) := by decide +kernel
theorem d_L_law_678 : decode code 678 = .ok (.iload_n 3, 1) := by decide +kernel
theorem d_L_law_679 : decode code 679 = .ok (.iconst 2, 1) := by decide +kernel
theorem d_L_law_680 : decode code 680 = .ok (.iadd, 1) := by decide +kernel
theorem d_L_law_681 : decode code 681 = .ok (.iaload, 1) := by decide +kernel
theorem d_L_law_682 : decode code 682 = .ok (.invokevirtual 87, 3) := by decide +kernel
theorem d_L_law_685 : decode code 685 = .ok (.if_icmp .eq 403, 3) := by decide +kernel
theorem d_L_law_688 : decode code 688 = .ok (.iconst 0, 1) := by decide +kernel
theorem d_L_law_689 : decode code 689 = .ok (.ireturn, 1) := by decide +kernel
theorem d_L_law_690 : decode code 690 = .ok (.aload_n 1, 1) := by decide +kernel
theorem d_L_law_691 : decode code 691 = .ok (.aload_n 0, 1) := by decide +kernel
theorem d_L_law_692 : decode code 692 = .ok (.iload_n 3, 1) := by decide +kernel
theorem d_L_law_693 : decode code 693 = .ok (.iconst 1, 1) := by decide +kernel
theorem d_L_law_694 : decode code 694 = .ok (.iadd, 1) := by decide +kernel
theorem d_L_law_695 : decode code 695 = .ok (.iaload, 1) := by decide +kernel
theorem d_L_law_696 : decode code 696 = .ok (.aload_n 0, 1) := by decide +kernel
theorem d_L_law_697 : decode code 697 = .ok (.iload_n 3, 1) := by decide +kernel
theorem d_L_law_698 : decode code 698 = .ok (.iconst 2, 1) := by decide +kernel
theorem d_L_law_699 : decode code 699 = .ok (.iadd, 1) := by decide +kernel
theorem d_L_law_700 : decode code 700 = .ok (.iaload, 1) := by decide +kernel
theorem d_L_law_701 : decode code 701 = .ok (.aload_n 0, 1) := by decide +kernel
theorem d_L_law_702 : decode code 702 = .ok (.iload_n 3, 1) := by decide +kernel
theorem d_L_law_703 : decode code 703 = .ok (.iconst 3, 1) := by decide +kernel
theorem d_L_law_704 : decode code 704 = .ok (.iadd, 1) := by decide +kernel
theorem d_L_law_705 : decode code 705 = .ok (.iaload, 1) := by decide +kernel
theorem d_L_law_706 : decode code 706 = .ok (.aload_n 0, 1) := by decide +kernel
theorem d_L_law_707 : decode code 707 = .ok (.iload_n 3, 1) := by decide +kernel
theorem d_L_law_708 : decode code 708 = .ok (.iconst 4, 1) := by decide +kernel
theorem d_L_law_709 : decode code 709 = .ok (.iadd, 1) := by decide +kernel
theorem d_L_law_710 : decode code 710 = .ok (.iaload, 1) := by decide +kernel
theorem d_L_law_711 : decode code 711 = .ok (.aload_n 0, 1) := by decide +kernel
theorem d_L_law_712 : decode code 712 = .ok (.iload_n 3, 1) := by decide +kernel
theorem d_L_law_713 : decode code 713 = .ok (.iconst 5, 1) := by decide +kernel
theorem d_L_law_714 : decode code 714 = .ok (.iadd, 1) := by decide +kernel
theorem d_L_law_715 : decode code 715 = .ok (.iaload, 1) := by decide +kernel
theorem d_L_law_716 : decode code 716 = .ok (.invokevirtual 88, 3) := by decide +kernel
theorem d_L_law_719 : decode code 719 = .ok (.aload_n 2, 1) := by decide +kernel
theorem d_L_law_720 : decode code 720 = .ok (.aload_n 0, 1) := by decide +kernel
theorem d_L_law_721 : decode code 721 = .ok (.iload_n 3, 1) := by decide +kernel
theorem d_L_law_722 : decode code 722 = .ok (.iconst 1, 1) := by decide +kernel
theorem d_L_law_723 : decode code 723 = .ok (.iadd, 1) := by decide +kernel
theorem d_L_law_724 : decode code 724 = .ok (.iaload, 1) := by decide +kernel
theorem d_L_law_725 : decode code 725 = .ok (.aload_n 0, 1) := by decide +kernel
theorem d_L_law_726 : decode code 726 = .ok (.iload_n 3, 1) := by decide +kernel
theorem d_L_law_727 : decode code 727 = .ok (.iconst 2, 1) := by decide +kernel
theorem d_L_law_728 : decode code 728 = .ok (.iadd, 1) := by decide +kernel
theorem d_L_law_729 : decode code 729 = .ok (.iaload, 1) := by decide +kernel
theorem d_L_law_730 : decode code 730 = .ok (.aload_n 0, 1) := by decide +kernel
theorem d_L_law_731 : decode code 731 = .ok (.iload_n 3, 1) := by decide +kernel
theorem d_L_law_732 : decode code 732 = .ok (.iconst 3, 1) := by decide +kernel
theorem d_L_law_733 : decode code 733 = .ok (.iadd, 1) := by decide +kernel
theorem d_L_law_734 : decode code 734 = .ok (.iaload, 1) := by decide +kernel
theorem d_L_law_735 : decode code 735 = .ok (.aload_n 0, 1) := by decide +kernel
theorem d_L_law_736 : decode code 736 = .ok (.iload_n 3, 1) := by decide +kernel
theorem d_L_law_737 : decode code 737 = .ok (.iconst 4, 1) := by decide +kernel
theorem d_L_law_738 : decode code 738 = .ok (.iadd, 1) := by decide +kernel
theorem d_L_law_739 : decode code 739 = .ok (.iaload, 1) := by decide +kernel
theorem d_L_law_740 : decode code 740 = .ok (.aload_n 0, 1) := by decide +kernel
theorem d_L_law_741 : decode code 741 = .ok (.iload_n 3, 1) := by decide +kernel
theorem d_L_law_742 : decode code 742 = .ok (.iconst 5, 1) := by decide +kernel
theorem d_L_law_743 : decode code 743 = .ok (.iadd, 1) := by decide +kernel
theorem d_L_law_744 : decode code 744 = .ok (.iaload, 1) := by decide +kernel
theorem d_L_law_745 : decode code 745 = .ok (.invokevirtual 92, 3) := by decide +kernel
theorem d_L_law_748 : decode code 748 = .ok (.lcmp, 1) := by decide +kernel
theorem d_L_law_749 : decode code 749 = .ok (.ifCond .eq 339, 3) := by decide +kernel
theorem d_L_law_752 : decode code 752 = .ok (.iconst 0, 1) := by decide +kernel
theorem d_L_law_753 : decode code 753 = .ok (.ireturn, 1) := by decide +kernel
theorem d_L_law_754 : decode code 754 = .ok (.aload_n 1, 1) := by decide +kernel
theorem d_L_law_755 : decode code 755 = .ok (.aload_n 0, 1) := by decide +kernel
theorem d_L_law_756 : decode code 756 = .ok (.iload_n 3, 1) := by decide +kernel
theorem d_L_law_757 : decode code 757 = .ok (.iconst 1, 1) := by decide +kernel
theorem d_L_law_758 : decode code 758 = .ok (.iadd, 1) := by decide +kernel
theorem d_L_law_759 : decode code 759 = .ok (.iaload, 1) := by decide +kernel
theorem d_L_law_760 : decode code 760 = .ok (.aload_n 0, 1) := by decide +kernel
theorem d_L_law_761 : decode code 761 = .ok (.iload_n 3, 1) := by decide +kernel
theorem d_L_law_762 : decode code 762 = .ok (.iconst 2, 1) := by decide +kernel
theorem d_L_law_763 : decode code 763 = .ok (.iadd, 1) := by decide +kernel
theorem d_L_law_764 : decode code 764 = .ok (.iaload, 1) := by decide +kernel
theorem d_L_law_765 : decode code 765 = .ok (.aload_n 0, 1) := by decide +kernel
theorem d_L_law_766 : decode code 766 = .ok (.iload_n 3, 1) := by decide +kernel
theorem d_L_law_767 : decode code 767 = .ok (.iconst 3, 1) := by decide +kernel
theorem d_L_law_768 : decode code 768 = .ok (.iadd, 1) := by decide +kernel
theorem d_L_law_769 : decode code 769 = .ok (.iaload, 1) := by decide +kernel
theorem d_L_law_770 : decode code 770 = .ok (.aload_n 0, 1) := by decide +kernel
theorem d_L_law_771 : decode code 771 = .ok (.iload_n 3, 1) := by decide +kernel
theorem d_L_law_772 : decode code 772 = .ok (.iconst 4, 1) := by decide +kernel
theorem d_L_law_773 : decode code 773 = .ok (.iadd, 1) := by decide +kernel
theorem d_L_law_774 : decode code 774 = .ok (.iaload, 1) := by decide +kernel
theorem d_L_law_775 : decode code 775 = .ok (.aload_n 0, 1) := by decide +kernel
theorem d_L_law_776 : decode code 776 = .ok (.iload_n 3, 1) := by decide +kernel
theorem d_L_law_777 : decode code 777 = .ok (.iconst 5, 1) := by decide +kernel
theorem d_L_law_778 : decode code 778 = .ok (.iadd, 1) := by decide +kernel
theorem d_L_law_779 : decode code 779 = .ok (.iaload, 1) := by decide +kernel
theorem d_L_law_780 : decode code 780 = .ok (.invokevirtual 93, 3) := by decide +kernel
theorem d_L_law_783 : decode code 783 = .ok (.aload_n 2, 1) := by decide +kernel
theorem d_L_law_784 : decode code 784 = .ok (.aload_n 0, 1) := by decide +kernel
theorem d_L_law_785 : decode code 785 = .ok (.iload_n 3, 1) := by decide +kernel
theorem d_L_law_786 : decode code 786 = .ok (.iconst 1, 1) := by decide +kernel
theorem d_L_law_787 : decode code 787 = .ok (.iadd, 1) := by decide +kernel
theorem d_L_law_788 : decode code 788 = .ok (.iaload, 1) := by decide +kernel
theorem d_L_law_789 : decode code 789 = .ok (.aload_n 0, 1) := by decide +kernel
theorem d_L_law_790 : decode code 790 = .ok (.iload_n 3, 1) := by decide +kernel
theorem d_L_law_791 : decode code 791 = .ok (.iconst 2, 1) := by decide +kernel
theorem d_L_law_792 : decode code 792 = .ok (.iadd, 1) := by decide +kernel
theorem d_L_law_793 : decode code 793 = .ok (.iaload, 1) := by decide +kernel
theorem d_L_law_794 : decode code 794 = .ok (.aload_n 0, 1) := by decide +kernel
theorem d_L_law_795 : decode code 795 = .ok (.iload_n 3, 1) := by decide +kernel
theorem d_L_law_796 : decode code 796 = .ok (.iconst 3, 1) := by decide +kernel
theorem d_L_law_797 : decode code 797 = .ok (.iadd, 1) := by decide +kernel
theorem d_L_law_798 : decode code 798 = .ok (.iaload, 1) := by decide +kernel
theorem d_L_law_799 : decode code 799 = .ok (.aload_n 0, 1) := by decide +kernel
theorem d_L_law_800 : decode code 800 = .ok (.iload_n 3, 1) := by decide +kernel
theorem d_L_law_801 : decode code 801 = .ok (.iconst 4, 1) := by decide +kernel
theorem d_L_law_802 : decode code 802 = .ok (.iadd, 1) := by decide +kernel
theorem d_L_law_803 : decode code 803 = .ok (.iaload, 1) := by decide +kernel
theorem d_L_law_804 : decode code 804 = .ok (.aload_n 0, 1) := by decide +kernel
theorem d_L_law_805 : decode code 805 = .ok (.iload_n 3, 1) := by decide +kernel
theorem d_L_law_806 : decode code 806 = .ok (.iconst 5, 1) := by decide +kernel
theorem d_L_law_807 : decode code 807 = .ok (.iadd, 1) := by decide +kernel
theorem d_L_law_808 : decode code 808 = .ok (.iaload, 1) := by decide +kernel
theorem d_L_law_809 : decode code 809 = .ok (.invokevirtual 97, 3) := by decide +kernel
theorem d_L_law_812 : decode code 812 = .ok (.if_icmp .eq 276, 3) := by decide +kernel
theorem d_L_law_815 : decode code 815 = .ok (.iconst 0, 1) := by decide +kernel
theorem d_L_law_816 : decode code 816 = .ok (.ireturn, 1) := by decide +kernel
theorem d_L_law_817 : decode code 817 = .ok (.aload_n 1, 1) := by decide +kernel
theorem d_L_law_818 : decode code 818 = .ok (.aload_n 0, 1) := by decide +kernel
theorem d_L_law_819 : decode code 819 = .ok (.iload_n 3, 1) := by decide +kernel
theorem d_L_law_820 : decode code 820 = .ok (.iconst 1, 1) := by decide +kernel
theorem d_L_law_821 : decode code 821 = .ok (.iadd, 1) := by decide +kernel
theorem d_L_law_822 : decode code 822 = .ok (.iaload, 1) := by decide +kernel
theorem d_L_law_823 : decode code 823 = .ok (.invokevirtual 98, 3) := by decide +kernel
theorem d_L_law_826 : decode code 826 = .ok (.aload_n 2, 1) := by decide +kernel
theorem d_L_law_827 : decode code 827 = .ok (.aload_n 0, 1) := by decide +kernel
theorem d_L_law_828 : decode code 828 = .ok (.iload_n 3, 1) := by decide +kernel
theorem d_L_law_829 : decode code 829 = .ok (.iconst 1, 1) := by decide +kernel
theorem d_L_law_830 : decode code 830 = .ok (.iadd, 1) := by decide +kernel
theorem d_L_law_831 : decode code 831 = .ok (.iaload, 1) := by decide +kernel
theorem d_L_law_832 : decode code 832 = .ok (.invokevirtual 101, 3) := by decide +kernel
theorem d_L_law_835 : decode code 835 = .ok (.if_icmp .eq 253, 3) := by decide +kernel
theorem d_L_law_838 : decode code 838 = .ok (.iconst 0, 1) := by decide +kernel
theorem d_L_law_839 : decode code 839 = .ok (.ireturn, 1) := by decide +kernel
theorem d_L_law_840 : decode code 840 = .ok (.aload_n 1, 1) := by decide +kernel
theorem d_L_law_841 : decode code 841 = .ok (.invokevirtual 102, 3) := by decide +kernel
theorem d_L_law_844 : decode code 844 = .ok (.aload_n 2, 1) := by decide +kernel
theorem d_L_law_845 : decode code 845 = .ok (.invokevirtual 105, 3) := by decide +kernel
theorem d_L_law_848 : decode code 848 = .ok (.if_icmp .eq 240, 3) := by decide +kernel
theorem d_L_law_851 : decode code 851 = .ok (.iconst 0, 1) := by decide +kernel
theorem d_L_law_852 : decode code 852 = .ok (.ireturn, 1) := by decide +kernel
theorem d_L_law_853 : decode code 853 = .ok (.aload_n 1, 1) := by decide +kernel
theorem d_L_law_854 : decode code 854 = .ok (.aload_n 0, 1) := by decide +kernel
theorem d_L_law_855 : decode code 855 = .ok (.iload_n 3, 1) := by decide +kernel
theorem d_L_law_856 : decode code 856 = .ok (.iconst 1, 1) := by decide +kernel
theorem d_L_law_857 : decode code 857 = .ok (.iadd, 1) := by decide +kernel
theorem d_L_law_858 : decode code 858 = .ok (.iaload, 1) := by decide +kernel
theorem d_L_law_859 : decode code 859 = .ok (.aload_n 0, 1) := by decide +kernel
theorem d_L_law_860 : decode code 860 = .ok (.iload_n 3, 1) := by decide +kernel
theorem d_L_law_861 : decode code 861 = .ok (.iconst 2, 1) := by decide +kernel
theorem d_L_law_862 : decode code 862 = .ok (.iadd, 1) := by decide +kernel
theorem d_L_law_863 : decode code 863 = .ok (.iaload, 1) := by decide +kernel
theorem d_L_law_864 : decode code 864 = .ok (.invokevirtual 106, 3) := by decide +kernel
theorem d_L_law_867 : decode code 867 = .ok (.aload_n 2, 1) := by decide +kernel
theorem d_L_law_868 : decode code 868 = .ok (.aload_n 0, 1) := by decide +kernel
theorem d_L_law_869 : decode code 869 = .ok (.iload_n 3, 1) := by decide +kernel
theorem d_L_law_870 : decode code 870 = .ok (.iconst 1, 1) := by decide +kernel
theorem d_L_law_871 : decode code 871 = .ok (.iadd, 1) := by decide +kernel
theorem d_L_law_872 : decode code 872 = .ok (.iaload, 1) := by decide +kernel
theorem d_L_law_873 : decode code 873 = .ok (.aload_n 0, 1) := by decide +kernel
theorem d_L_law_874 : decode code 874 = .ok (.iload_n 3, 1) := by decide +kernel
theorem d_L_law_875 : decode code 875 = .ok (.iconst 2, 1) := by decide +kernel
theorem d_L_law_876 : decode code 876 = .ok (.iadd, 1) := by decide +kernel
theorem d_L_law_877 : decode code 877 = .ok (.iaload, 1) := by decide +kernel
theorem d_L_law_878 : decode code 878 = .ok (.invokevirtual 109, 3) := by decide +kernel
theorem d_L_law_881 : decode code 881 = .ok (.if_icmp .eq 207, 3) := by decide +kernel
theorem d_L_law_884 : decode code 884 = .ok (.iconst 0, 1) := by decide +kernel
theorem d_L_law_885 : decode code 885 = .ok (.ireturn, 1) := by decide +kernel
theorem d_L_law_886 : decode code 886 = .ok (.aload_n 1, 1) := by decide +kernel
theorem d_L_law_887 : decode code 887 = .ok (.aload_n 0, 1) := by decide +kernel
theorem d_L_law_888 : decode code 888 = .ok (.iload_n 3, 1) := by decide +kernel
theorem d_L_law_889 : decode code 889 = .ok (.iconst 1, 1) := by decide +kernel
theorem d_L_law_890 : decode code 890 = .ok (.iadd, 1) := by decide +kernel
theorem d_L_law_891 : decode code 891 = .ok (.iaload, 1) := by decide +kernel
theorem d_L_law_892 : decode code 892 = .ok (.aload_n 0, 1) := by decide +kernel
theorem d_L_law_893 : decode code 893 = .ok (.iload_n 3, 1) := by decide +kernel
theorem d_L_law_894 : decode code 894 = .ok (.iconst 2, 1) := by decide +kernel
theorem d_L_law_895 : decode code 895 = .ok (.iadd, 1) := by decide +kernel
theorem d_L_law_896 : decode code 896 = .ok (.iaload, 1) := by decide +kernel
theorem d_L_law_897 : decode code 897 = .ok (.aload_n 0, 1) := by decide +kernel
theorem d_L_law_898 : decode code 898 = .ok (.iload_n 3, 1) := by decide +kernel
theorem d_L_law_899 : decode code 899 = .ok (.iconst 3, 1) := by decide +kernel
theorem d_L_law_900 : decode code 900 = .ok (.iadd, 1) := by decide +kernel
theorem d_L_law_901 : decode code 901 = .ok (.iaload, 1) := by decide +kernel
theorem d_L_law_902 : decode code 902 = .ok (.i2l, 1) := by decide +kernel
theorem d_L_law_903 : decode code 903 = .ok (.bipush 32, 2) := by decide +kernel
theorem d_L_law_905 : decode code 905 = .ok (.lshl, 1) := by decide +kernel
theorem d_L_law_906 : decode code 906 = .ok (.aload_n 0, 1) := by decide +kernel
theorem d_L_law_907 : decode code 907 = .ok (.iload_n 3, 1) := by decide +kernel
theorem d_L_law_908 : decode code 908 = .ok (.iconst 4, 1) := by decide +kernel
theorem d_L_law_909 : decode code 909 = .ok (.iadd, 1) := by decide +kernel
theorem d_L_law_910 : decode code 910 = .ok (.iaload, 1) := by decide +kernel
theorem d_L_law_911 : decode code 911 = .ok (.i2l, 1) := by decide +kernel
theorem d_L_law_912 : decode code 912 = .ok (.ldc2_w 110, 3) := by decide +kernel
theorem d_L_law_915 : decode code 915 = .ok (.land, 1) := by decide +kernel
theorem d_L_law_916 : decode code 916 = .ok (.lor, 1) := by decide +kernel
theorem d_L_law_917 : decode code 917 = .ok (.invokevirtual 112, 3) := by decide +kernel
theorem d_L_law_920 : decode code 920 = .ok (.aload_n 2, 1) := by decide +kernel
theorem d_L_law_921 : decode code 921 = .ok (.aload_n 0, 1) := by decide +kernel
theorem d_L_law_922 : decode code 922 = .ok (.iload_n 3, 1) := by decide +kernel
theorem d_L_law_923 : decode code 923 = .ok (.iconst 1, 1) := by decide +kernel
theorem d_L_law_924 : decode code 924 = .ok (.iadd, 1) := by decide +kernel
theorem d_L_law_925 : decode code 925 = .ok (.iaload, 1) := by decide +kernel
theorem d_L_law_926 : decode code 926 = .ok (.aload_n 0, 1) := by decide +kernel
theorem d_L_law_927 : decode code 927 = .ok (.iload_n 3, 1) := by decide +kernel
theorem d_L_law_928 : decode code 928 = .ok (.iconst 2, 1) := by decide +kernel
theorem d_L_law_929 : decode code 929 = .ok (.iadd, 1) := by decide +kernel
theorem d_L_law_930 : decode code 930 = .ok (.iaload, 1) := by decide +kernel
theorem d_L_law_931 : decode code 931 = .ok (.aload_n 0, 1) := by decide +kernel
theorem d_L_law_932 : decode code 932 = .ok (.iload_n 3, 1) := by decide +kernel
theorem d_L_law_933 : decode code 933 = .ok (.iconst 3, 1) := by decide +kernel
theorem d_L_law_934 : decode code 934 = .ok (.iadd, 1) := by decide +kernel
theorem d_L_law_935 : decode code 935 = .ok (.iaload, 1) := by decide +kernel
theorem d_L_law_936 : decode code 936 = .ok (.i2l, 1) := by decide +kernel
theorem d_L_law_937 : decode code 937 = .ok (.bipush 32, 2) := by decide +kernel
theorem d_L_law_939 : decode code 939 = .ok (.lshl, 1) := by decide +kernel
theorem d_L_law_940 : decode code 940 = .ok (.aload_n 0, 1) := by decide +kernel
theorem d_L_law_941 : decode code 941 = .ok (.iload_n 3, 1) := by decide +kernel
theorem d_L_law_942 : decode code 942 = .ok (.iconst 4, 1) := by decide +kernel
theorem d_L_law_943 : decode code 943 = .ok (.iadd, 1) := by decide +kernel
theorem d_L_law_944 : decode code 944 = .ok (.iaload, 1) := by decide +kernel
theorem d_L_law_945 : decode code 945 = .ok (.i2l, 1) := by decide +kernel
theorem d_L_law_946 : decode code 946 = .ok (.ldc2_w 110, 3) := by decide +kernel
theorem d_L_law_949 : decode code 949 = .ok (.land, 1) := by decide +kernel
theorem d_L_law_950 : decode code 950 = .ok (.lor, 1) := by decide +kernel
theorem d_L_law_951 : decode code 951 = .ok (.invokevirtual 116, 3) := by decide +kernel
theorem d_L_law_954 : decode code 954 = .ok (.if_icmp .eq 134, 3) := by decide +kernel
theorem d_L_law_957 : decode code 957 = .ok (.iconst 0, 1) := by decide +kernel
theorem d_L_law_958 : decode code 958 = .ok (.ireturn, 1) := by decide +kernel
theorem d_L_law_959 : decode code 959 = .ok (.aload_n 1, 1) := by decide +kernel
theorem d_L_law_960 : decode code 960 = .ok (.aload_n 0, 1) := by decide +kernel
theorem d_L_law_961 : decode code 961 = .ok (.iload_n 3, 1) := by decide +kernel
theorem d_L_law_962 : decode code 962 = .ok (.iconst 1, 1) := by decide +kernel
theorem d_L_law_963 : decode code 963 = .ok (.iadd, 1) := by decide +kernel
theorem d_L_law_964 : decode code 964 = .ok (.iaload, 1) := by decide +kernel
theorem d_L_law_965 : decode code 965 = .ok (.aload_n 0, 1) := by decide +kernel
theorem d_L_law_966 : decode code 966 = .ok (.iload_n 3, 1) := by decide +kernel
theorem d_L_law_967 : decode code 967 = .ok (.iconst 2, 1) := by decide +kernel
theorem d_L_law_968 : decode code 968 = .ok (.iadd, 1) := by decide +kernel
theorem d_L_law_969 : decode code 969 = .ok (.iaload, 1) := by decide +kernel
theorem d_L_law_970 : decode code 970 = .ok (.invokevirtual 117, 3) := by decide +kernel
theorem d_L_law_973 : decode code 973 = .ok (.aload_n 2, 1) := by decide +kernel
theorem d_L_law_974 : decode code 974 = .ok (.aload_n 0, 1) := by decide +kernel
theorem d_L_law_975 : decode code 975 = .ok (.iload_n 3, 1) := by decide +kernel
theorem d_L_law_976 : decode code 976 = .ok (.iconst 1, 1) := by decide +kernel
theorem d_L_law_977 : decode code 977 = .ok (.iadd, 1) := by decide +kernel
theorem d_L_law_978 : decode code 978 = .ok (.iaload, 1) := by decide +kernel
theorem d_L_law_979 : decode code 979 = .ok (.aload_n 0, 1) := by decide +kernel
theorem d_L_law_980 : decode code 980 = .ok (.iload_n 3, 1) := by decide +kernel
theorem d_L_law_981 : decode code 981 = .ok (.iconst 2, 1) := by decide +kernel
theorem d_L_law_982 : decode code 982 = .ok (.iadd, 1) := by decide +kernel
theorem d_L_law_983 : decode code 983 = .ok (.iaload, 1) := by decide +kernel
theorem d_L_law_984 : decode code 984 = .ok (.invokevirtual 121, 3) := by decide +kernel
theorem d_L_law_987 : decode code 987 = .ok (.lcmp, 1) := by decide +kernel
theorem d_L_law_988 : decode code 988 = .ok (.ifCond .eq 100, 3) := by decide +kernel
theorem d_L_law_991 : decode code 991 = .ok (.iconst 0, 1) := by decide +kernel
theorem d_L_law_992 : decode code 992 = .ok (.ireturn, 1) := by decide +kernel
theorem d_L_law_993 : decode code 993 = .ok (.aload_n 1, 1) := by decide +kernel
theorem d_L_law_994 : decode code 994 = .ok (.aload_n 0, 1) := by decide +kernel
theorem d_L_law_995 : decode code 995 = .ok (.iload_n 3, 1) := by decide +kernel
theorem d_L_law_996 : decode code 996 = .ok (.iconst 1, 1) := by decide +kernel
theorem d_L_law_997 : decode code 997 = .ok (.iadd, 1) := by decide +kernel
theorem d_L_law_998 : decode code 998 = .ok (.iaload, 1) := by decide +kernel
theorem d_L_law_999 : decode code 999 = .ok (.invokevirtual 122, 3) := by decide +kernel
theorem d_L_law_1002 : decode code 1002 = .ok (.aload_n 2, 1) := by decide +kernel
theorem d_L_law_1003 : decode code 1003 = .ok (.aload_n 0, 1) := by decide +kernel
theorem d_L_law_1004 : decode code 1004 = .ok (.iload_n 3, 1) := by decide +kernel
theorem d_L_law_1005 : decode code 1005 = .ok (.iconst 1, 1) := by decide +kernel
theorem d_L_law_1006 : decode code 1006 = .ok (.iadd, 1) := by decide +kernel
theorem d_L_law_1007 : decode code 1007 = .ok (.iaload, 1) := by decide +kernel
theorem d_L_law_1008 : decode code 1008 = .ok (.invokevirtual 125, 3) := by decide +kernel
theorem d_L_law_1011 : decode code 1011 = .ok (.if_icmp .eq 77, 3) := by decide +kernel
theorem d_L_law_1014 : decode code 1014 = .ok (.iconst 0, 1) := by decide +kernel
theorem d_L_law_1015 : decode code 1015 = .ok (.ireturn, 1) := by decide +kernel
theorem d_L_law_1016 : decode code 1016 = .ok (.aload_n 1, 1) := by decide +kernel
theorem d_L_law_1017 : decode code 1017 = .ok (.aload_n 0, 1) := by decide +kernel
theorem d_L_law_1018 : decode code 1018 = .ok (.iload_n 3, 1) := by decide +kernel
theorem d_L_law_1019 : decode code 1019 = .ok (.iconst 1, 1) := by decide +kernel
theorem d_L_law_1020 : decode code 1020 = .ok (.iadd, 1) := by decide +kernel
theorem d_L_law_1021 : decode code 1021 = .ok (.iaload, 1) := by decide +kernel
theorem d_L_law_1022 : decode code 1022 = .ok (.invokevirtual 126, 3) := by decide +kernel
theorem d_L_law_1025 : decode code 1025 = .ok (.aload_n 2, 1) := by decide +kernel
theorem d_L_law_1026 : decode code 1026 = .ok (.aload_n 0, 1) := by decide +kernel
theorem d_L_law_1027 : decode code 1027 = .ok (.iload_n 3, 1) := by decide +kernel
theorem d_L_law_1028 : decode code 1028 = .ok (.iconst 1, 1) := by decide +kernel
theorem d_L_law_1029 : decode code 1029 = .ok (.iadd, 1) := by decide +kernel
theorem d_L_law_1030 : decode code 1030 = .ok (.iaload, 1) := by decide +kernel
theorem d_L_law_1031 : decode code 1031 = .ok (.invokevirtual 129, 3) := by decide +kernel
theorem d_L_law_1034 : decode code 1034 = .ok (.if_icmp .eq 54, 3) := by decide +kernel
theorem d_L_law_1037 : decode code 1037 = .ok (.iconst 0, 1) := by decide +kernel
theorem d_L_law_1038 : decode code 1038 = .ok (.ireturn, 1) := by decide +kernel
theorem d_L_law_1039 : decode code 1039 = .ok (.aload_n 1, 1) := by decide +kernel
theorem d_L_law_1040 : decode code 1040 = .ok (.invokevirtual 130, 3) := by decide +kernel
theorem d_L_law_1043 : decode code 1043 = .ok (.aload_n 2, 1) := by decide +kernel
theorem d_L_law_1044 : decode code 1044 = .ok (.invokevirtual 133, 3) := by decide +kernel
theorem d_L_law_1047 : decode code 1047 = .ok (.if_icmp .eq 41, 3) := by decide +kernel
theorem d_L_law_1050 : decode code 1050 = .ok (.iconst 0, 1) := by decide +kernel
theorem d_L_law_1051 : decode code 1051 = .ok (.ireturn, 1) := by decide +kernel
theorem d_L_law_1052 : decode code 1052 = .ok (.aload_n 1, 1) := by decide +kernel
theorem d_L_law_1053 : decode code 1053 = .ok (.invokevirtual 134, 3) := by decide +kernel
theorem d_L_law_1056 : decode code 1056 = .ok (.aload_n 2, 1) := by decide +kernel
theorem d_L_law_1057 : decode code 1057 = .ok (.invokevirtual 137, 3) := by decide +kernel
theorem d_L_law_1060 : decode code 1060 = .ok (.if_icmp .eq 28, 3) := by decide +kernel
theorem d_L_law_1063 : decode code 1063 = .ok (.iconst 0, 1) := by decide +kernel
theorem d_L_law_1064 : decode code 1064 = .ok (.ireturn, 1) := by decide +kernel
theorem d_L_law_1065 : decode code 1065 = .ok (.aload_n 1, 1) := by decide +kernel
theorem d_L_law_1066 : decode code 1066 = .ok (.aload_n 0, 1) := by decide +kernel
theorem d_L_law_1067 : decode code 1067 = .ok (.iload_n 3, 1) := by decide +kernel
theorem d_L_law_1068 : decode code 1068 = .ok (.iconst 1, 1) := by decide +kernel
theorem d_L_law_1069 : decode code 1069 = .ok (.iadd, 1) := by decide +kernel
theorem d_L_law_1070 : decode code 1070 = .ok (.iaload, 1) := by decide +kernel
theorem d_L_law_1071 : decode code 1071 = .ok (.invokevirtual 138, 3) := by decide +kernel
theorem d_L_law_1074 : decode code 1074 = .ok (.aload_n 2, 1) := by decide +kernel
theorem d_L_law_1075 : decode code 1075 = .ok (.aload_n 0, 1) := by decide +kernel
theorem d_L_law_1076 : decode code 1076 = .ok (.iload_n 3, 1) := by decide +kernel
theorem d_L_law_1077 : decode code 1077 = .ok (.iconst 1, 1) := by decide +kernel
theorem d_L_law_1078 : decode code 1078 = .ok (.iadd, 1) := by decide +kernel
theorem d_L_law_1079 : decode code 1079 = .ok (.iaload, 1) := by decide +kernel
theorem d_L_law_1080 : decode code 1080 = .ok (.invokevirtual 141, 3) := by decide +kernel
theorem d_L_law_1083 : decode code 1083 = .ok (.if_icmp .eq 5, 3) := by decide +kernel
theorem d_L_law_1086 : decode code 1086 = .ok (.iconst 0, 1) := by decide +kernel
theorem d_L_law_1087 : decode code 1087 = .ok (.ireturn, 1) := by decide +kernel
theorem d_L_law_1088 : decode code 1088 = .ok (.iinc 3 6, 3) := by decide +kernel
theorem d_L_law_1091 : decode code 1091 = .ok (.goto (-1073), 3) := by decide +kernel
theorem d_L_law_1094 : decode code 1094 = .ok (.iconst 1, 1) := by decide +kernel
theorem d_L_law_1095 : decode code 1095 = .ok (.ireturn, 1) := by decide +kernel
end
section
/-! the state of a world, its picture, the wrappers of contracts, the calls -/
abbrev St : Type := (Nat → Int32) × (Nat → Nat → Int32) × (Nat → Nat → Int64)
abbrev Cx : Type := va_G × ClassId × ClassId × ClassId
def sV (S : St) (k : Nat) (x : Int32) : St := (upd S.1 k x, S.2.1, S.2.2)
def sF (S : St) (k : Nat) (f : Nat → Int32) : St := (S.1, va_up S.2.1 k f, S.2.2)
def sG (S : St) (k : Nat) (f : Nat → Int64) : St := (S.1, S.2.1, va_up S.2.2 k f)
def sA (S : St) (k j : Nat) (x : Int32) : St := sF S k (upd (S.2.1 k) j x)
def sL (S : St) (k j : Nat) (x : Int64) : St := sG S k (vp_updL (S.2.2 k) j x)
abbrev rk (f lo : Nat) : Room := { frames := f, cells := 0, slots := 0, locals := lo }
def TY (E : Cx) : List (ClassId × FieldType) := [(E.2.1, .int), (E.2.2.1, .long), (E.2.2.2, .object "PinionBench$Row")]
def NW (U : State) : Prop := ∀ q ∈ nestW, va_Nw (.methodLinkNest q.1 q.2.1 q.2.2.1 q.2.2.2) U
def KK (E : Cx) (U : State) : Prop := va_K E.1 vwCl (TY E) U ∧ NW U
theorem KK.warm {E : Cx} {s U : State} (hW : s.WarmedH U.vm) (h : KK E s) : KK E U := ⟨va_K.moved hW.alike h.1, fun q hq => va_Nw.warmM hW (h.2 q hq)⟩
theorem KK.call {E : Cx} {U : State} {g : JFrame} {mk : MethodId} {a : Array Value} (h : KK E U) : KK E (U.calling g mk a) := ⟨va_K.moved (Vm.Alike.refl U.vm) h.1, fun q hq => va_Nw.same rfl rfl (h.2 q hq)⟩
def preR (E : Cx) (ws : va_W) (U : State) : Prop := va_P E.1 vwCl ws U.heap ∧ KK E U
def preM (E : Cx) (A : Nat → Prop) (Wf : St → va_W) (S : St) (U : State) : Prop := va_P E.1 vwCl (Wf S) U.heap ∧ KK E U ∧ ∀ S' : St, va_D A (Wf S')
theorem fb_R {av : List Value} {E : Cx} {ws : va_W} : FrameBlind (va_Pc av (preR E ws)) := fun a U g mk q => ⟨q.1, q.2.1, q.2.2.call⟩
theorem fb_M {av : List Value} {E : Cx} {A : Nat → Prop} {Wf : St → va_W} {S : St} : FrameBlind (va_Pc av (preM E A Wf S)) := fun a U g mk q => ⟨q.1, q.2.1, q.2.2.1.call, q.2.2.2⟩
theorem va_nil {E : Cx} {H : Heap} : va_P E.1 vwCl [] H := fun k q h => by simp at h
theorem tb_ws {y : MethodName} {cc : ByteArray} {maxL : Nat} {ret : Option FieldType} {args : Array Value} {s : State} (hts : ∀ w ∈ TB, w.before args s = true) (hc : Cond.code y cc maxL ret ∈ TB) : ∀ w ∈ (Cond.code y cc maxL ret :: TB), ∀ (a' : Array Value) (U : State), s.WarmedH U.vm → w.before a' U = true := fun w hw a' U hW => by
  have hw' : w ∈ TB := (List.mem_cons.mp hw).elim (fun e => by rw [e]; exact hc) id
  exact word_at hW (tb_good w hw') (hts w hw')
theorem tb_cb {R rm : Room} {s : State} {args : Array Value} {own : String} {index n : Nat} {y : MethodName} {cc : ByteArray} {maxL : Nat} {ret : Option FieldType} (hts : ∀ w ∈ TB, w.before args s = true) (mi : MI y n cc maxL ret) (hlk : Cond.methodLink own index y ∈ TB) (h0 : rm.cells = 0 ∧ rm.slots = 0) (hR : rm.frames + 1 ≤ R.frames ∧ 8 + (maxL + 11) + rm.locals ≤ R.locals) : CallB R s args own index y cc maxL ret (Cond.code y cc maxL ret :: TB) rm 0 0 n :=
  ⟨h0.1, h0.2, hR.1, hR.2, tb_ws hts mi.2.2, List.mem_cons_self, hts _ mi.2.2, hts _ mi.2.1, ⟨mi.1.1, mi.1.2.1⟩, fun sig h => by have h2 := mi.1.2.2; rw [h] at h2; exact (Option.some.inj h2).symm, hts _ hlk⟩
theorem tb_cn {R rm : Room} {s : State} {args : Array Value} {own host : String} {index n : Nat} {y : MethodName} {cc : ByteArray} {maxL : Nat} {ret : Option FieldType} {E : Cx} (hts : ∀ w ∈ TB, w.before args s = true) (mi : MI y n cc maxL ret) (hK : KK E s) (hlk : (own, index, y, host) ∈ nestW) (h0 : rm.cells = 0 ∧ rm.slots = 0) (hR : rm.frames + 1 ≤ R.frames ∧ 8 + (maxL + 11) + rm.locals ≤ R.locals) : va_CN R s args own index y host cc maxL ret (Cond.code y cc maxL ret :: TB) rm 0 0 n :=
  ⟨⟨h0.1, h0.2, hR.1, hR.2, tb_ws hts mi.2.2, List.mem_cons_self⟩, hts _ mi.2.2, hts _ mi.2.1, ⟨mi.1.1, mi.1.2.1⟩, fun sig h => by have h2 := mi.1.2.2; rw [h] at h2; exact (Option.some.inj h2).symm, va_Nw.use rfl (hK.2 _ hlk)⟩
def RV (ws : va_W) (b : Nat) (C : String) : Prop := ∃ (k ci : Nat) (fs : List Value) (q : vw_C), ws[k]? = some (b, .inr (ci, fs)) ∧ vwCl[ci]? = some q ∧ q.1 = C
theorem RV.recv {E : Cx} {ws : va_W} {b : Nat} {C : String} {s : State} {H : Heap} (hK : KK E s) (hP : va_P E.1 vwCl ws H) (h : RV ws b C) : ∃ cell : Cell, H[b]? = some cell ∧ cell.vm.isStatics = false ∧ s.vm.findClass C = some cell.cls := by
  obtain ⟨k, ci, fs, q, h1, h2, rfl⟩ := h
  exact va_recv hK.1 hP h2 h1
section CALLS
variable {p : Program} {l : Launch} {e : Env} {R : Room} {s : State} {m : MethodId} {args : Array Value} {below : List Frame} {meth : Method} {c : Code} {H : Heap} {locs : List Loc} {cells slots : Nat} {Q : State → Prop}
variable {cc bytes : ByteArray} {pc maxL nL n index : Nat} {ls : Array Slot} {lv : List (Nat × Value)} {rest st As : List Value} {E : Cx} {ws : va_W} {own host : String} {y : MethodName} {rt : FieldType} {rm : Room} {b : Nat} {A : Nat → Prop} {Wf : St → va_W} {S : St} {H0 : Heap}
theorem k_run_of {mc ms : Nat} {g : JFrame} {Qa : State → Outcome → State → Prop} {free : Addr → Prop} (h : va_Run p l e R s m args below meth c H locs cells slots mc ms g rest Qa free) : CallRun p l e R s m args below meth c H locs cells slots mc ms g rest Qa free := fun T hT X => by
  obtain ⟨v, st₀, t, T', L, h0, X', hL, e1, -, hq, hs⟩ := h T hT X
  exact ⟨v, st₀, t, T', L, h0, X', hL, e1, hq, hs⟩
theorem k_vi {T : Int32} (hM : Met l y (Cond.code y bytes maxL (some rt) :: TB) rm (va_Pc (.ref b :: As) (preR E ws)) (vp_Si (fun r => r = T)) 0 0 (fun _ => False)) (mi : MIv y n bytes maxL (some rt)) (hlk : Cond.methodLink own index y ∈ TB) (hx : p.tables.exec = Jvm.exec) (hb : c.code = cc) (hml : c.maxLocals = nL) (hts : ∀ w ∈ TB, w.before args s = true) (hown : s.vm.findClass own = some m.cls) (hK : KK E s) (hP : va_P E.1 vwCl ws H) (hrv : RV ws b y.cls) (hl : lv_has ls nL lv) (h0 : rm.cells = 0 ∧ rm.slots = 0) (hR : rm.frames + 1 ≤ R.frames ∧ 8 + (maxL + 11) + rm.locals ≤ R.locals) (hf : cells ≤ R.cells ∧ slots ≤ R.slots) (hn : As.length = n) (hW : (rest.map fun v => v.category).sum ≤ 8) (hst : st = As.reverse ++ .ref b :: rest) (hdg : decode cc pc = .ok (.invokevirtual index, 3))
    (kk : W p l e R s m args below meth c H locs cells slots Q (F0 m (pc + 3) ls (.int T :: rest))) : W p l e R s m args below meth c H locs cells slots Q (F0 m pc ls st) :=
  vp_callSi (W.runV ⟨hx, hb, hml, hown, hts⟩ hM ⟨tb_cb hts mi.1 hlk h0 hR, hts _ mi.2.1, hts _ mi.2.2⟩ ⟨fb_R, hrv.recv hK hP, fun U hU hW => ⟨rfl, by rw [hU]; exact hP, hK.warm hW⟩⟩ rfl hn hl.1 hst (lv_room hW) hdg hf) (fun r hr => by rw [hr]; exact kk)
theorem k_vl {T : Int64} (hM : Met l y (Cond.code y bytes maxL (some rt) :: TB) rm (va_Pc (.ref b :: As) (preR E ws)) (vp_Sl (fun r => r = T)) 0 0 (fun _ => False)) (mi : MIv y n bytes maxL (some rt)) (hlk : Cond.methodLink own index y ∈ TB) (hx : p.tables.exec = Jvm.exec) (hb : c.code = cc) (hml : c.maxLocals = nL) (hts : ∀ w ∈ TB, w.before args s = true) (hown : s.vm.findClass own = some m.cls) (hK : KK E s) (hP : va_P E.1 vwCl ws H) (hrv : RV ws b y.cls) (hl : lv_has ls nL lv) (h0 : rm.cells = 0 ∧ rm.slots = 0) (hR : rm.frames + 1 ≤ R.frames ∧ 8 + (maxL + 11) + rm.locals ≤ R.locals) (hf : cells ≤ R.cells ∧ slots ≤ R.slots) (hn : As.length = n) (hW : (rest.map fun v => v.category).sum ≤ 8) (hst : st = As.reverse ++ .ref b :: rest) (hdg : decode cc pc = .ok (.invokevirtual index, 3))
    (kk : W p l e R s m args below meth c H locs cells slots Q (F0 m (pc + 3) ls (.long T :: rest))) : W p l e R s m args below meth c H locs cells slots Q (F0 m pc ls st) :=
  vp_callSl (W.runV ⟨hx, hb, hml, hown, hts⟩ hM ⟨tb_cb hts mi.1 hlk h0 hR, hts _ mi.2.1, hts _ mi.2.2⟩ ⟨fb_R, hrv.recv hK hP, fun U hU hW => ⟨rfl, by rw [hU]; exact hP, hK.warm hW⟩⟩ rfl hn hl.1 hst (lv_room hW) hdg hf) (fun r hr => by rw [hr]; exact kk)
theorem k_si {T : Int32} (hM : Met l y (Cond.code y bytes maxL (some rt) :: TB) rm (va_Pc As (preR E ws)) (vp_Si (fun r => r = T)) 0 0 (fun _ => False)) (mi : MIs y n bytes maxL (some rt)) (hlk : Cond.methodLink own index y ∈ TB) (hx : p.tables.exec = Jvm.exec) (hb : c.code = cc) (hml : c.maxLocals = nL) (hts : ∀ w ∈ TB, w.before args s = true) (hown : s.vm.findClass own = some m.cls) (hK : KK E s) (hP : va_P E.1 vwCl ws H) (hl : lv_has ls nL lv) (h0 : rm.cells = 0 ∧ rm.slots = 0) (hR : rm.frames + 1 ≤ R.frames ∧ 8 + (maxL + 11) + rm.locals ≤ R.locals) (hf : cells ≤ R.cells ∧ slots ≤ R.slots) (hn : As.length = n) (hW : (rest.map fun v => v.category).sum ≤ 8) (hst : st = As.reverse ++ rest) (hdg : decode cc pc = .ok (.invokestatic index, 3))
    (kk : W p l e R s m args below meth c H locs cells slots Q (F0 m (pc + 3) ls (.int T :: rest))) : W p l e R s m args below meth c H locs cells slots Q (F0 m pc ls st) :=
  vp_callSi (W.runS ⟨hx, hb, hml, hown, hts⟩ hM ⟨tb_cb hts mi.1 hlk h0 hR, hts _ mi.2⟩ ⟨fb_R, fun U hU hW => ⟨rfl, by rw [hU]; exact hP, hK.warm hW⟩⟩ rfl hn hl.1 hst (lv_room hW) hdg hf) (fun r hr => by rw [hr]; exact kk)
theorem k_sl {T : Int64} (hM : Met l y (Cond.code y bytes maxL (some rt) :: TB) rm (va_Pc As (preR E ws)) (vp_Sl (fun r => r = T)) 0 0 (fun _ => False)) (mi : MIs y n bytes maxL (some rt)) (hlk : Cond.methodLink own index y ∈ TB) (hx : p.tables.exec = Jvm.exec) (hb : c.code = cc) (hml : c.maxLocals = nL) (hts : ∀ w ∈ TB, w.before args s = true) (hown : s.vm.findClass own = some m.cls) (hK : KK E s) (hP : va_P E.1 vwCl ws H) (hl : lv_has ls nL lv) (h0 : rm.cells = 0 ∧ rm.slots = 0) (hR : rm.frames + 1 ≤ R.frames ∧ 8 + (maxL + 11) + rm.locals ≤ R.locals) (hf : cells ≤ R.cells ∧ slots ≤ R.slots) (hn : As.length = n) (hW : (rest.map fun v => v.category).sum ≤ 8) (hst : st = As.reverse ++ rest) (hdg : decode cc pc = .ok (.invokestatic index, 3))
    (kk : W p l e R s m args below meth c H locs cells slots Q (F0 m (pc + 3) ls (.long T :: rest))) : W p l e R s m args below meth c H locs cells slots Q (F0 m pc ls st) :=
  vp_callSl (W.runS ⟨hx, hb, hml, hown, hts⟩ hM ⟨tb_cb hts mi.1 hlk h0 hR, hts _ mi.2⟩ ⟨fb_R, fun U hU hW => ⟨rfl, by rw [hU]; exact hP, hK.warm hW⟩⟩ rfl hn hl.1 hst (lv_room hW) hdg hf) (fun r hr => by rw [hr]; exact kk)
theorem k_ni {T : Int32} (hM : Met l y (Cond.code y bytes maxL (some rt) :: TB) rm (va_Pc As (preR E ws)) (vp_Si (fun r => r = T)) 0 0 (fun _ => False)) (mi : MIs y n bytes maxL (some rt)) (hlk : (own, index, y, host) ∈ nestW) (hx : p.tables.exec = Jvm.exec) (hb : c.code = cc) (hml : c.maxLocals = nL) (hts : ∀ w ∈ TB, w.before args s = true) (hown : s.vm.findClass own = some m.cls) (hK : KK E s) (hP : va_P E.1 vwCl ws H) (hl : lv_has ls nL lv) (h0 : rm.cells = 0 ∧ rm.slots = 0) (hR : rm.frames + 1 ≤ R.frames ∧ 8 + (maxL + 11) + rm.locals ≤ R.locals) (hf : cells ≤ R.cells ∧ slots ≤ R.slots) (hn : As.length = n) (hW : (rest.map fun v => v.category).sum ≤ 8) (hst : st = As.reverse ++ rest) (hdg : decode cc pc = .ok (.invokestatic index, 3))
    (kk : W p l e R s m args below meth c H locs cells slots Q (F0 m (pc + 3) ls (.int T :: rest))) : W p l e R s m args below meth c H locs cells slots Q (F0 m pc ls st) :=
  vp_callSi (k_run_of (va_runSN ⟨hx, hb, hml, hown, hts⟩ hM ⟨tb_cn hts mi.1 hK hlk h0 hR, hts _ mi.2, trivial⟩ ⟨fb_R, fun U hU hW => ⟨rfl, by rw [hU]; exact hP, hK.warm hW⟩⟩ rfl hn hl.1 hst (lv_room hW) hdg hf)) (fun r hr => by rw [hr]; exact kk)
theorem k_nl {T : Int64} (hM : Met l y (Cond.code y bytes maxL (some rt) :: TB) rm (va_Pc As (preR E ws)) (vp_Sl (fun r => r = T)) 0 0 (fun _ => False)) (mi : MIs y n bytes maxL (some rt)) (hlk : (own, index, y, host) ∈ nestW) (hx : p.tables.exec = Jvm.exec) (hb : c.code = cc) (hml : c.maxLocals = nL) (hts : ∀ w ∈ TB, w.before args s = true) (hown : s.vm.findClass own = some m.cls) (hK : KK E s) (hP : va_P E.1 vwCl ws H) (hl : lv_has ls nL lv) (h0 : rm.cells = 0 ∧ rm.slots = 0) (hR : rm.frames + 1 ≤ R.frames ∧ 8 + (maxL + 11) + rm.locals ≤ R.locals) (hf : cells ≤ R.cells ∧ slots ≤ R.slots) (hn : As.length = n) (hW : (rest.map fun v => v.category).sum ≤ 8) (hst : st = As.reverse ++ rest) (hdg : decode cc pc = .ok (.invokestatic index, 3))
    (kk : W p l e R s m args below meth c H locs cells slots Q (F0 m (pc + 3) ls (.long T :: rest))) : W p l e R s m args below meth c H locs cells slots Q (F0 m pc ls st) :=
  vp_callSl (k_run_of (va_runSN ⟨hx, hb, hml, hown, hts⟩ hM ⟨tb_cn hts mi.1 hK hlk h0 hR, hts _ mi.2, trivial⟩ ⟨fb_R, fun U hU hW => ⟨rfl, by rw [hU]; exact hP, hK.warm hW⟩⟩ rfl hn hl.1 hst (lv_room hW) hdg hf)) (fun r hr => by rw [hr]; exact kk)
/-! calls that change the world -/
theorem k_mvi {T : Int32 × St} (hM : Met l y (Cond.code y bytes maxL (some rt) :: TB) rm (va_Pc (.ref b :: As) (preM E A Wf S)) (va_Qi (fun r u => (r, u) = T) (fun u t => va_P E.1 vwCl (Wf u) t.heap) A) 0 0 A) (mi : MIv y n bytes maxL (some rt)) (hlk : Cond.methodLink own index y ∈ TB) (hx : p.tables.exec = Jvm.exec) (hb : c.code = cc) (hml : c.maxLocals = nL) (hts : ∀ w ∈ TB, w.before args s = true) (hown : s.vm.findClass own = some m.cls) (hK : KK E s) (hP : va_P E.1 vwCl (Wf S) H) (hD : ∀ S' : St, va_D A (Wf S')) (hS : va_S A H0 H locs) (hrv : RV (Wf S) b y.cls) (hl : lv_has ls nL lv) (h0 : rm.cells = 0 ∧ rm.slots = 0) (hR : rm.frames + 1 ≤ R.frames ∧ 8 + (maxL + 11) + rm.locals ≤ R.locals) (hf : cells ≤ R.cells ∧ slots ≤ R.slots) (hn : As.length = n) (hW : (rest.map fun v => v.category).sum ≤ 8) (hst : st = As.reverse ++ .ref b :: rest) (hdg : decode cc pc = .ok (.invokevirtual index, 3))
    (kk : ∀ (H1 : Heap) (locs1 : List Loc), va_P E.1 vwCl (Wf T.2) H1 → va_S A H0 H1 locs1 → W p l e R s m args below meth c H1 locs1 cells slots Q (F0 m (pc + 3) ls (.int T.1 :: rest))) : W p l e R s m args below meth c H locs cells slots Q (F0 m pc ls st) :=
  va_calli (va_runV ⟨hx, hb, hml, hown, hts⟩ hM ⟨tb_cb hts mi.1 hlk h0 hR, hts _ mi.2.1, hts _ mi.2.2⟩ ⟨fb_M, hrv.recv hK hP, fun U hU hW => ⟨rfl, by rw [hU]; exact hP, hK.warm hW, hD⟩⟩ rfl hn hl.1 hst (lv_room hW) hdg hf) hS (fun _ _ h => h) (fun _ h => h) (fun r u t H1 locs1 ht _ hw hB _ _ hS1 => by
    subst hw
    rw [ht] at hB
    exact kk H1 locs1 hB hS1)
theorem k_mvl {T : Int64 × St} (hM : Met l y (Cond.code y bytes maxL (some rt) :: TB) rm (va_Pc (.ref b :: As) (preM E A Wf S)) (va_Ql (fun r u => (r, u) = T) (fun u t => va_P E.1 vwCl (Wf u) t.heap) A) 0 0 A) (mi : MIv y n bytes maxL (some rt)) (hlk : Cond.methodLink own index y ∈ TB) (hx : p.tables.exec = Jvm.exec) (hb : c.code = cc) (hml : c.maxLocals = nL) (hts : ∀ w ∈ TB, w.before args s = true) (hown : s.vm.findClass own = some m.cls) (hK : KK E s) (hP : va_P E.1 vwCl (Wf S) H) (hD : ∀ S' : St, va_D A (Wf S')) (hS : va_S A H0 H locs) (hrv : RV (Wf S) b y.cls) (hl : lv_has ls nL lv) (h0 : rm.cells = 0 ∧ rm.slots = 0) (hR : rm.frames + 1 ≤ R.frames ∧ 8 + (maxL + 11) + rm.locals ≤ R.locals) (hf : cells ≤ R.cells ∧ slots ≤ R.slots) (hn : As.length = n) (hW : (rest.map fun v => v.category).sum ≤ 8) (hst : st = As.reverse ++ .ref b :: rest) (hdg : decode cc pc = .ok (.invokevirtual index, 3))
    (kk : ∀ (H1 : Heap) (locs1 : List Loc), va_P E.1 vwCl (Wf T.2) H1 → va_S A H0 H1 locs1 → W p l e R s m args below meth c H1 locs1 cells slots Q (F0 m (pc + 3) ls (.long T.1 :: rest))) : W p l e R s m args below meth c H locs cells slots Q (F0 m pc ls st) :=
  va_calll (va_runV ⟨hx, hb, hml, hown, hts⟩ hM ⟨tb_cb hts mi.1 hlk h0 hR, hts _ mi.2.1, hts _ mi.2.2⟩ ⟨fb_M, hrv.recv hK hP, fun U hU hW => ⟨rfl, by rw [hU]; exact hP, hK.warm hW, hD⟩⟩ rfl hn hl.1 hst (lv_room hW) hdg hf) hS (fun _ _ h => h) (fun _ h => h) (fun r u t H1 locs1 ht _ hw hB _ _ hS1 => by
    subst hw
    rw [ht] at hB
    exact kk H1 locs1 hB hS1)
theorem k_mvv {T : St} (hM : Met l y (Cond.code y bytes maxL none :: TB) rm (va_Pc (.ref b :: As) (preM E A Wf S)) (va_Qv (fun u => u = T) (fun u t => va_P E.1 vwCl (Wf u) t.heap) A) 0 0 A) (mi : MIv y n bytes maxL none) (hlk : Cond.methodLink own index y ∈ TB) (hx : p.tables.exec = Jvm.exec) (hb : c.code = cc) (hml : c.maxLocals = nL) (hts : ∀ w ∈ TB, w.before args s = true) (hown : s.vm.findClass own = some m.cls) (hK : KK E s) (hP : va_P E.1 vwCl (Wf S) H) (hD : ∀ S' : St, va_D A (Wf S')) (hS : va_S A H0 H locs) (hrv : RV (Wf S) b y.cls) (hl : lv_has ls nL lv) (h0 : rm.cells = 0 ∧ rm.slots = 0) (hR : rm.frames + 1 ≤ R.frames ∧ 8 + (maxL + 11) + rm.locals ≤ R.locals) (hf : cells ≤ R.cells ∧ slots ≤ R.slots) (hn : As.length = n) (hW : (rest.map fun v => v.category).sum ≤ 8) (hst : st = As.reverse ++ .ref b :: rest) (hdg : decode cc pc = .ok (.invokevirtual index, 3))
    (kk : ∀ (H1 : Heap) (locs1 : List Loc), va_P E.1 vwCl (Wf T) H1 → va_S A H0 H1 locs1 → W p l e R s m args below meth c H1 locs1 cells slots Q (F0 m (pc + 3) ls rest)) : W p l e R s m args below meth c H locs cells slots Q (F0 m pc ls st) :=
  va_callv (va_runV ⟨hx, hb, hml, hown, hts⟩ hM ⟨tb_cb hts mi.1 hlk h0 hR, hts _ mi.2.1, hts _ mi.2.2⟩ ⟨fb_M, hrv.recv hK hP, fun U hU hW => ⟨rfl, by rw [hU]; exact hP, hK.warm hW, hD⟩⟩ rfl hn hl.1 hst (lv_room hW) hdg hf) hS (fun _ _ h => h) (fun _ h => h) (fun u t H1 locs1 ht _ hw hB _ _ hS1 => by
    subst hw
    rw [ht] at hB
    exact kk H1 locs1 hB hS1)
theorem k_msv {T : St} (hM : Met l y (Cond.code y bytes maxL none :: TB) rm (va_Pc As (preM E A Wf S)) (va_Qv (fun u => u = T) (fun u t => va_P E.1 vwCl (Wf u) t.heap) A) 0 0 A) (mi : MIs y n bytes maxL none) (hlk : Cond.methodLink own index y ∈ TB) (hx : p.tables.exec = Jvm.exec) (hb : c.code = cc) (hml : c.maxLocals = nL) (hts : ∀ w ∈ TB, w.before args s = true) (hown : s.vm.findClass own = some m.cls) (hK : KK E s) (hP : va_P E.1 vwCl (Wf S) H) (hD : ∀ S' : St, va_D A (Wf S')) (hS : va_S A H0 H locs) (hl : lv_has ls nL lv) (h0 : rm.cells = 0 ∧ rm.slots = 0) (hR : rm.frames + 1 ≤ R.frames ∧ 8 + (maxL + 11) + rm.locals ≤ R.locals) (hf : cells ≤ R.cells ∧ slots ≤ R.slots) (hn : As.length = n) (hW : (rest.map fun v => v.category).sum ≤ 8) (hst : st = As.reverse ++ rest) (hdg : decode cc pc = .ok (.invokestatic index, 3))
    (kk : ∀ (H1 : Heap) (locs1 : List Loc), va_P E.1 vwCl (Wf T) H1 → va_S A H0 H1 locs1 → W p l e R s m args below meth c H1 locs1 cells slots Q (F0 m (pc + 3) ls rest)) : W p l e R s m args below meth c H locs cells slots Q (F0 m pc ls st) :=
  va_callv (va_runS ⟨hx, hb, hml, hown, hts⟩ hM ⟨tb_cb hts mi.1 hlk h0 hR, hts _ mi.2⟩ ⟨fb_M, fun U hU hW => ⟨rfl, by rw [hU]; exact hP, hK.warm hW, hD⟩⟩ rfl hn hl.1 hst (lv_room hW) hdg hf) hS (fun _ _ h => h) (fun _ h => h) (fun u t H1 locs1 ht _ hw hB _ _ hS1 => by
    subst hw
    rw [ht] at hB
    exact kk H1 locs1 hB hS1)
theorem k_vq {T : Option Nat} (hM : Met l y (Cond.code y bytes maxL (some rt) :: TB) rm (va_Pc (.ref b :: As) (preR E ws)) (va_Sq (fun r => r = T)) 0 0 (fun _ => False)) (mi : MIv y n bytes maxL (some rt)) (hlk : Cond.methodLink own index y ∈ TB) (hx : p.tables.exec = Jvm.exec) (hb : c.code = cc) (hml : c.maxLocals = nL) (hts : ∀ w ∈ TB, w.before args s = true) (hown : s.vm.findClass own = some m.cls) (hK : KK E s) (hP : va_P E.1 vwCl ws H) (hrv : RV ws b y.cls) (hl : lv_has ls nL lv) (h0 : rm.cells = 0 ∧ rm.slots = 0) (hR : rm.frames + 1 ≤ R.frames ∧ 8 + (maxL + 11) + rm.locals ≤ R.locals) (hf : cells ≤ R.cells ∧ slots ≤ R.slots) (hn : As.length = n) (hW : (rest.map fun v => v.category).sum ≤ 8) (hst : st = As.reverse ++ .ref b :: rest) (hdg : decode cc pc = .ok (.invokevirtual index, 3))
    (kk : W p l e R s m args below meth c H locs cells slots Q (F0 m (pc + 3) ls (va_rf T :: rest))) : W p l e R s m args below meth c H locs cells slots Q (F0 m pc ls st) := by
  have hr := W.runV (e := e) (below := below) (meth := meth) (locs := locs) ⟨hx, hb, hml, hown, hts⟩ hM ⟨tb_cb hts mi.1 hlk h0 hR, hts _ mi.2.1, hts _ mi.2.2⟩ ⟨fb_R, hrv.recv hK hP, fun U hU hW => ⟨rfl, by rw [hU]; exact hP, hK.warm hW⟩⟩ (g := F0 m pc ls st) rfl hn hl.1 hst (lv_room hW) hdg hf
  intro T1 hT X
  obtain ⟨v, st₀, t, T', L, h0, X', hL, e1, ⟨r, hv, hp, hh⟩, hs⟩ := hr T1 hT X
  cases hv
  subst hp
  obtain ⟨t2, a1, b1⟩ := kk T' (by rw [e1, hh, h0]) (Stand.forget X' (fun q h => (hL q h).elim))
  exact ⟨t2, hs t2 a1, b1⟩
end CALLS
/-! wrappers: a contract out of one walk -/
theorem w_roI {l : Launch} {y : MethodName} {cc : ByteArray} {maxL : Nat} {rt : FieldType} {rm : Room} {av : List Value} {E : Cx} {ws : va_W} {T : Int32} (hy : plainName y.cls = true) (hsl : (lg_sl av).length ≤ maxL) (hn : narrow rt (.int T) = .int T)
    (body : ∀ (p : Program) (e : Env) (s : State) (m : MethodId) (args : Array Value) (below : List Frame) (meth : Method) (c : Code) (Q : State → Prop) (ls : Array Slot), p.tables.exec = Jvm.exec → c.code = cc → c.maxLocals = maxL → (∀ w ∈ TB, w.before args s = true) → s.vm.findClass y.cls = some m.cls → va_P E.1 vwCl ws s.heap → KK E s → lv_has ls maxL (lv_args 0 av) →
      (∀ (pc : Nat) (ls : Array Slot) (r : Int32), r = T → decode cc pc = .ok (.ireturn, 1) → W p l e rm s m args below meth c s.heap [] 0 0 Q (F0 m pc ls [.int r])) → W p l e rm s m args below meth c s.heap [] 0 0 Q (F0 m 0 ls [])) :
    Met l y (Cond.code y cc maxL (some rt) :: TB) rm (va_Pc av (preR E ws)) (vp_Si (fun r => r = T)) 0 0 (fun _ => False) := by
  refine Met.ofW (cc := cc) (maxL := maxL) (ret := some rt) hy rfl ?_
  intro p e s m args below meth c s₁ B hml hv
  obtain ⟨rfl, hP, hK⟩ := hv
  have hts0 := atoms_spec (ws := Cond.code y cc maxL (some rt) :: TB) B.pre
  have hown : s.vm.findClass y.cls = some m.cls := findClass_of_methodNamed B.named
  rw [lg_entry_eq]
  exact body p e s m _ below meth c _ _ B.exec B.bytes hml (fun w h => hts0 w (List.mem_cons_of_mem _ h)) hown hP hK (lv_entry av hsl) (fun pc ls r hrT hdg => W.zret B.exec B.bytes B.returns (by rw [hrT]; exact hn) (fun t ht hW => ⟨r, rfl, hrT, ht⟩) (fun q h => by cases h) hdg (hlocks := B.notSynchronized))
theorem w_roL {l : Launch} {y : MethodName} {cc : ByteArray} {maxL : Nat} {rm : Room} {av : List Value} {E : Cx} {ws : va_W} {T : Int64} (hy : plainName y.cls = true) (hsl : (lg_sl av).length ≤ maxL)
    (body : ∀ (p : Program) (e : Env) (s : State) (m : MethodId) (args : Array Value) (below : List Frame) (meth : Method) (c : Code) (Q : State → Prop) (ls : Array Slot), p.tables.exec = Jvm.exec → c.code = cc → c.maxLocals = maxL → (∀ w ∈ TB, w.before args s = true) → s.vm.findClass y.cls = some m.cls → va_P E.1 vwCl ws s.heap → KK E s → lv_has ls maxL (lv_args 0 av) →
      (∀ (pc : Nat) (ls : Array Slot) (r : Int64), r = T → decode cc pc = .ok (.lreturn, 1) → W p l e rm s m args below meth c s.heap [] 0 0 Q (F0 m pc ls [.long r])) → W p l e rm s m args below meth c s.heap [] 0 0 Q (F0 m 0 ls [])) :
    Met l y (Cond.code y cc maxL (some .long) :: TB) rm (va_Pc av (preR E ws)) (vp_Sl (fun r => r = T)) 0 0 (fun _ => False) := by
  refine Met.ofW (cc := cc) (maxL := maxL) (ret := some .long) hy rfl ?_
  intro p e s m args below meth c s₁ B hml hv
  obtain ⟨rfl, hP, hK⟩ := hv
  have hts0 := atoms_spec (ws := Cond.code y cc maxL (some .long) :: TB) B.pre
  have hown : s.vm.findClass y.cls = some m.cls := findClass_of_methodNamed B.named
  rw [lg_entry_eq]
  exact body p e s m _ below meth c _ _ B.exec B.bytes hml (fun w h => hts0 w (List.mem_cons_of_mem _ h)) hown hP hK (lv_entry av hsl) (fun pc ls r hrT hdg => W.lret B.exec B.bytes B.returns (fun t ht hW => ⟨r, rfl, hrT, ht⟩) (fun q h => by cases h) hdg (hlocks := B.notSynchronized))
theorem w_roQ {l : Launch} {y : MethodName} {cc : ByteArray} {maxL : Nat} {rt : FieldType} {rm : Room} {av : List Value} {E : Cx} {ws : va_W} {T : Option Nat} (hy : plainName y.cls = true) (hsl : (lg_sl av).length ≤ maxL) (hrt : (∃ n, rt = .object n) ∨ ∃ t, rt = .array t)
    (body : ∀ (p : Program) (e : Env) (s : State) (m : MethodId) (args : Array Value) (below : List Frame) (meth : Method) (c : Code) (Q : State → Prop) (ls : Array Slot), p.tables.exec = Jvm.exec → c.code = cc → c.maxLocals = maxL → (∀ w ∈ TB, w.before args s = true) → s.vm.findClass y.cls = some m.cls → va_P E.1 vwCl ws s.heap → KK E s → lv_has ls maxL (lv_args 0 av) →
      (∀ (pc : Nat) (ls : Array Slot) (r : Value), r = va_rf T → decode cc pc = .ok (.areturn, 1) → W p l e rm s m args below meth c s.heap [] 0 0 Q (F0 m pc ls [r])) → W p l e rm s m args below meth c s.heap [] 0 0 Q (F0 m 0 ls [])) :
    Met l y (Cond.code y cc maxL (some rt) :: TB) rm (va_Pc av (preR E ws)) (va_Sq (fun r => r = T)) 0 0 (fun _ => False) := by
  refine Met.ofW (cc := cc) (maxL := maxL) (ret := some rt) hy rfl ?_
  intro p e s m args below meth c s₁ B hml hv
  obtain ⟨rfl, hP, hK⟩ := hv
  have hts0 := atoms_spec (ws := Cond.code y cc maxL (some rt) :: TB) B.pre
  have hown : s.vm.findClass y.cls = some m.cls := findClass_of_methodNamed B.named
  rw [lg_entry_eq]
  exact body p e s m _ below meth c _ _ B.exec B.bytes hml (fun w h => hts0 w (List.mem_cons_of_mem _ h)) hown hP hK (lv_entry av hsl) (fun pc ls r hrT hdg => W.aret B.exec B.bytes B.returns hrt (by rw [hrT]; cases T with
    | none => exact Or.inl rfl
    | some a => exact Or.inr ⟨a, rfl⟩) (fun t ht hW => ⟨T, by rw [hrT], rfl, ht⟩) (fun q h => by cases h) hdg (hlocks := B.notSynchronized))
theorem w_muI {l : Launch} {y : MethodName} {cc : ByteArray} {maxL : Nat} {rt : FieldType} {rm : Room} {av : List Value} {E : Cx} {A : Nat → Prop} {Wf : St → va_W} {S : St} {T : Int32 × St} (hy : plainName y.cls = true) (hsl : (lg_sl av).length ≤ maxL) (hn : narrow rt (.int T.1) = .int T.1)
    (body : ∀ (p : Program) (e : Env) (s : State) (m : MethodId) (args : Array Value) (below : List Frame) (meth : Method) (c : Code) (Q : State → Prop) (ls : Array Slot), p.tables.exec = Jvm.exec → c.code = cc → c.maxLocals = maxL → (∀ w ∈ TB, w.before args s = true) → s.vm.findClass y.cls = some m.cls → va_P E.1 vwCl (Wf S) s.heap → KK E s → (∀ S' : St, va_D A (Wf S')) → va_S A s.heap s.heap [] → lv_has ls maxL (lv_args 0 av) →
      (∀ (pc : Nat) (ls : Array Slot) (r : Int32) (u : St) (H : Heap) (locs : List Loc), (r, u) = T → va_P E.1 vwCl (Wf u) H → va_S A s.heap H locs → decode cc pc = .ok (.ireturn, 1) → W p l e rm s m args below meth c H locs 0 0 Q (F0 m pc ls [.int r])) → W p l e rm s m args below meth c s.heap [] 0 0 Q (F0 m 0 ls [])) :
    Met l y (Cond.code y cc maxL (some rt) :: TB) rm (va_Pc av (preM E A Wf S)) (va_Qi (fun r u => (r, u) = T) (fun u t => va_P E.1 vwCl (Wf u) t.heap) A) 0 0 A := by
  refine Met.ofW (cc := cc) (maxL := maxL) (ret := some rt) hy rfl ?_
  intro p e s m args below meth c s₁ B hml hv
  obtain ⟨rfl, hP, hK, hD⟩ := hv
  have hts0 := atoms_spec (ws := Cond.code y cc maxL (some rt) :: TB) B.pre
  have hown : s.vm.findClass y.cls = some m.cls := findClass_of_methodNamed B.named
  rw [lg_entry_eq]
  exact body p e s m _ below meth c _ _ B.exec B.bytes hml (fun w h => hts0 w (List.mem_cons_of_mem _ h)) hown hP hK hD va_S.rf (lv_entry av hsl) (fun pc ls r u H locs hrT hP1 hS1 hdg => W.zret B.exec B.bytes B.returns (by rw [← hrT] at hn; exact hn) (fun t ht hW => ⟨⟨r, u, rfl, hrT, by show va_P E.1 vwCl (Wf u) t.heap; rw [ht]; exact hP1⟩, hS1.F ht⟩) hS1.2.2 hdg (hlocks := B.notSynchronized))
theorem w_muL {l : Launch} {y : MethodName} {cc : ByteArray} {maxL : Nat} {rm : Room} {av : List Value} {E : Cx} {A : Nat → Prop} {Wf : St → va_W} {S : St} {T : Int64 × St} (hy : plainName y.cls = true) (hsl : (lg_sl av).length ≤ maxL)
    (body : ∀ (p : Program) (e : Env) (s : State) (m : MethodId) (args : Array Value) (below : List Frame) (meth : Method) (c : Code) (Q : State → Prop) (ls : Array Slot), p.tables.exec = Jvm.exec → c.code = cc → c.maxLocals = maxL → (∀ w ∈ TB, w.before args s = true) → s.vm.findClass y.cls = some m.cls → va_P E.1 vwCl (Wf S) s.heap → KK E s → (∀ S' : St, va_D A (Wf S')) → va_S A s.heap s.heap [] → lv_has ls maxL (lv_args 0 av) →
      (∀ (pc : Nat) (ls : Array Slot) (r : Int64) (u : St) (H : Heap) (locs : List Loc), (r, u) = T → va_P E.1 vwCl (Wf u) H → va_S A s.heap H locs → decode cc pc = .ok (.lreturn, 1) → W p l e rm s m args below meth c H locs 0 0 Q (F0 m pc ls [.long r])) → W p l e rm s m args below meth c s.heap [] 0 0 Q (F0 m 0 ls [])) :
    Met l y (Cond.code y cc maxL (some .long) :: TB) rm (va_Pc av (preM E A Wf S)) (va_Ql (fun r u => (r, u) = T) (fun u t => va_P E.1 vwCl (Wf u) t.heap) A) 0 0 A := by
  refine Met.ofW (cc := cc) (maxL := maxL) (ret := some .long) hy rfl ?_
  intro p e s m args below meth c s₁ B hml hv
  obtain ⟨rfl, hP, hK, hD⟩ := hv
  have hts0 := atoms_spec (ws := Cond.code y cc maxL (some .long) :: TB) B.pre
  have hown : s.vm.findClass y.cls = some m.cls := findClass_of_methodNamed B.named
  rw [lg_entry_eq]
  exact body p e s m _ below meth c _ _ B.exec B.bytes hml (fun w h => hts0 w (List.mem_cons_of_mem _ h)) hown hP hK hD va_S.rf (lv_entry av hsl) (fun pc ls r u H locs hrT hP1 hS1 hdg => W.lret B.exec B.bytes B.returns (fun t ht hW => ⟨⟨r, u, rfl, hrT, by show va_P E.1 vwCl (Wf u) t.heap; rw [ht]; exact hP1⟩, hS1.F ht⟩) hS1.2.2 hdg (hlocks := B.notSynchronized))
theorem w_muV {l : Launch} {y : MethodName} {cc : ByteArray} {maxL : Nat} {rm : Room} {av : List Value} {E : Cx} {A : Nat → Prop} {Wf : St → va_W} {S : St} {T : St} (hy : plainName y.cls = true) (hsl : (lg_sl av).length ≤ maxL)
    (body : ∀ (p : Program) (e : Env) (s : State) (m : MethodId) (args : Array Value) (below : List Frame) (meth : Method) (c : Code) (Q : State → Prop) (ls : Array Slot), p.tables.exec = Jvm.exec → c.code = cc → c.maxLocals = maxL → (∀ w ∈ TB, w.before args s = true) → s.vm.findClass y.cls = some m.cls → va_P E.1 vwCl (Wf S) s.heap → KK E s → (∀ S' : St, va_D A (Wf S')) → va_S A s.heap s.heap [] → lv_has ls maxL (lv_args 0 av) →
      (∀ (pc : Nat) (ls : Array Slot) (u : St) (H : Heap) (locs : List Loc), u = T → va_P E.1 vwCl (Wf u) H → va_S A s.heap H locs → decode cc pc = .ok (.return_, 1) → W p l e rm s m args below meth c H locs 0 0 Q (F0 m pc ls [])) → W p l e rm s m args below meth c s.heap [] 0 0 Q (F0 m 0 ls [])) :
    Met l y (Cond.code y cc maxL none :: TB) rm (va_Pc av (preM E A Wf S)) (va_Qv (fun u => u = T) (fun u t => va_P E.1 vwCl (Wf u) t.heap) A) 0 0 A := by
  refine Met.ofW (cc := cc) (maxL := maxL) (ret := none) hy rfl ?_
  intro p e s m args below meth c s₁ B hml hv
  obtain ⟨rfl, hP, hK, hD⟩ := hv
  have hts0 := atoms_spec (ws := Cond.code y cc maxL none :: TB) B.pre
  have hown : s.vm.findClass y.cls = some m.cls := findClass_of_methodNamed B.named
  rw [lg_entry_eq]
  exact body p e s m _ below meth c _ _ B.exec B.bytes hml (fun w h => hts0 w (List.mem_cons_of_mem _ h)) hown hP hK hD va_S.rf (lv_entry av hsl) (fun pc ls u H locs hrT hP1 hS1 hdg => W.vret B.exec B.bytes B.returns (fun t ht hW => ⟨⟨u, rfl, hrT, by show va_P E.1 vwCl (Wf u) t.heap; rw [ht]; exact hP1⟩, hS1.F ht⟩) hS1.2.2 hdg (hlocks := B.notSynchronized))
theorem k_nb {x : Int32} (h : x = 0 ∨ x = 1) : narrow .boolean (.int x) = .int x := by rcases h with rfl | rfl <;> rfl
end
section
/-! the pictures: by program (wip/whole/world.py) -/
def cap (i : Nat) : Nat := [16, 16, 9, 9, 16, 16, 9, 9, 16, 16, 9, 9, 80, 40, 40, 40].getD i 0
/-- the picture of a bench: 16 rows of ints, 3 rows of longs, the rows, the bench, three states, the tape, the search -/
def wb (E : Cx) (ad : Nat → Nat) (S : St) : va_W := [
  (ad 0, .inr (1, [.ref (ad 1), .int (S.1 0)])),
  (ad 1, .inl (E.2.1, 16, .inl (S.2.1 0))),
  (ad 2, .inr (1, [.ref (ad 3), .int (S.1 1)])),
  (ad 3, .inl (E.2.1, 16, .inl (S.2.1 1))),
  (ad 4, .inr (1, [.ref (ad 5), .int (S.1 2)])),
  (ad 5, .inl (E.2.1, 9, .inl (S.2.1 2))),
  (ad 6, .inr (1, [.ref (ad 7), .int (S.1 3)])),
  (ad 7, .inl (E.2.1, 9, .inl (S.2.1 3))),
  (ad 8, .inr (1, [.ref (ad 9), .int (S.1 4)])),
  (ad 9, .inl (E.2.1, 16, .inl (S.2.1 4))),
  (ad 10, .inr (1, [.ref (ad 11), .int (S.1 5)])),
  (ad 11, .inl (E.2.1, 16, .inl (S.2.1 5))),
  (ad 12, .inr (1, [.ref (ad 13), .int (S.1 6)])),
  (ad 13, .inl (E.2.1, 9, .inl (S.2.1 6))),
  (ad 14, .inr (1, [.ref (ad 15), .int (S.1 7)])),
  (ad 15, .inl (E.2.1, 9, .inl (S.2.1 7))),
  (ad 16, .inr (1, [.ref (ad 17), .int (S.1 8)])),
  (ad 17, .inl (E.2.1, 16, .inl (S.2.1 8))),
  (ad 18, .inr (1, [.ref (ad 19), .int (S.1 9)])),
  (ad 19, .inl (E.2.1, 16, .inl (S.2.1 9))),
  (ad 20, .inr (1, [.ref (ad 21), .int (S.1 10)])),
  (ad 21, .inl (E.2.1, 9, .inl (S.2.1 10))),
  (ad 22, .inr (1, [.ref (ad 23), .int (S.1 11)])),
  (ad 23, .inl (E.2.1, 9, .inl (S.2.1 11))),
  (ad 24, .inr (1, [.ref (ad 25), .int (S.1 12)])),
  (ad 25, .inl (E.2.1, 80, .inl (S.2.1 12))),
  (ad 26, .inr (1, [.ref (ad 27), .int (S.1 13)])),
  (ad 27, .inl (E.2.1, 40, .inl (S.2.1 13))),
  (ad 28, .inr (1, [.ref (ad 29), .int (S.1 14)])),
  (ad 29, .inl (E.2.1, 40, .inl (S.2.1 14))),
  (ad 30, .inr (1, [.ref (ad 31), .int (S.1 15)])),
  (ad 31, .inl (E.2.1, 40, .inl (S.2.1 15))),
  (ad 32, .inr (2, [.ref (ad 33), .int (S.1 16)])),
  (ad 33, .inl (E.2.2.1, 20, .inr (.inl (S.2.2 0)))),
  (ad 34, .inr (2, [.ref (ad 35), .int (S.1 17)])),
  (ad 35, .inl (E.2.2.1, 20, .inr (.inl (S.2.2 1)))),
  (ad 36, .inr (2, [.ref (ad 37), .int (S.1 18)])),
  (ad 37, .inl (E.2.2.1, 20, .inr (.inl (S.2.2 2)))),
  (ad 38, .inl (E.2.2.2, 3, .inr (.inr (.inr (.inr (fun j => some (ad (32 + 2 * j)))))))),
  (ad 39, .inr (5, [.ref (ad 40), .ref (ad 41), .ref (ad 42), .int (S.1 22), .ref (ad 43), .ref (ad 38), .ref (ad 44)])),
  (ad 40, .inr (0, [.ref (ad 0), .ref (ad 2), .ref (ad 4), .ref (ad 6), .int (S.1 19)])),
  (ad 41, .inr (0, [.ref (ad 8), .ref (ad 10), .ref (ad 12), .ref (ad 14), .int (S.1 20)])),
  (ad 42, .inr (0, [.ref (ad 16), .ref (ad 18), .ref (ad 20), .ref (ad 22), .int (S.1 21)])),
  (ad 43, .inr (4, [.ref (ad 24), .ref (ad 26), .ref (ad 28), .ref (ad 30), .int (S.1 23), .int (S.1 24)])),
  (ad 44, .inr (3, [.int (S.1 25), .int (S.1 26), .int (S.1 27), .int (S.1 28), .int (S.1 29), .int (S.1 30), .int (S.1 31)]))]
def sqF (j : Nat) : Int32 := [627, 1170, 1786].getD j 0
def snF (j : Nat) : Int32 := [0, 0, 1000, 866, 707, 587, 500, 433, 382].getD j 0
/-- the picture of the reference -/
def wm (E : Cx) (ad : Nat → Nat) (S : St) : va_W := [
  (ad 0, .inr (6, [.ref (ad 1), .ref (ad 2), .ref (ad 3), .ref (ad 4), .ref (ad 5), .int (S.1 0), .long (S.2.2 1 0), .long (S.2.2 1 1), .int (S.1 1), .int (S.1 2), .int (S.1 3), .ref (ad 6), .ref (ad 7), .ref (ad 8), .ref (ad 9), .int (S.1 4), .int (S.1 5), .int (S.1 6), .ref (ad 10), .ref (ad 11)])),
  (ad 1, .inl (E.2.1, 53, .inl (S.2.1 0))),
  (ad 2, .inl (E.2.1, 53, .inl (S.2.1 1))),
  (ad 3, .inl (E.2.1, 53, .inl (S.2.1 2))),
  (ad 4, .inl (E.2.1, 3, .inl sqF)),
  (ad 5, .inl (E.2.1, 9, .inl snF)),
  (ad 6, .inl (E.2.1, 80, .inl (S.2.1 3))),
  (ad 7, .inl (E.2.1, 41, .inl (S.2.1 4))),
  (ad 8, .inl (E.2.1, 41, .inl (S.2.1 5))),
  (ad 9, .inl (E.2.1, 41, .inl (S.2.1 6))),
  (ad 10, .inl (E.2.1, 3, .inl (S.2.1 7))),
  (ad 11, .inl (E.2.2.1, 60, .inr (.inl (S.2.2 0))))]
theorem wbo {E : Cx} {ad : Nat → Nat} {S : St} {X : va_W} {i : Nat} (hi : i < 16) : (wb E ad S ++ X)[2 * i]? = some (ad (2 * i), .inr (1, [.ref (ad (2 * i + 1)), .int (S.1 i)])) := match i, hi with | 0, _ => rfl | 1, _ => rfl | 2, _ => rfl | 3, _ => rfl | 4, _ => rfl | 5, _ => rfl | 6, _ => rfl | 7, _ => rfl | 8, _ => rfl | 9, _ => rfl | 10, _ => rfl | 11, _ => rfl | 12, _ => rfl | 13, _ => rfl | 14, _ => rfl | 15, _ => rfl | k + 16, h => absurd h (by omega)
theorem wba {E : Cx} {ad : Nat → Nat} {S : St} {X : va_W} {i : Nat} (hi : i < 16) : (wb E ad S ++ X)[2 * i + 1]? = some (ad (2 * i + 1), .inl (E.2.1, cap i, .inl (S.2.1 i))) := match i, hi with | 0, _ => rfl | 1, _ => rfl | 2, _ => rfl | 3, _ => rfl | 4, _ => rfl | 5, _ => rfl | 6, _ => rfl | 7, _ => rfl | 8, _ => rfl | 9, _ => rfl | 10, _ => rfl | 11, _ => rfl | 12, _ => rfl | 13, _ => rfl | 14, _ => rfl | 15, _ => rfl | k + 16, h => absurd h (by omega)
theorem wboS {E : Cx} {ad : Nat → Nat} {S : St} {X : va_W} {i : Nat} (hi : i < 16) {x : Int32} : (wb E ad S ++ X).set (2 * i) (ad (2 * i), .inr (1, [.ref (ad (2 * i + 1)), .int x])) = wb E ad (sV S i x) ++ X := match i, hi with | 0, _ => rfl | 1, _ => rfl | 2, _ => rfl | 3, _ => rfl | 4, _ => rfl | 5, _ => rfl | 6, _ => rfl | 7, _ => rfl | 8, _ => rfl | 9, _ => rfl | 10, _ => rfl | 11, _ => rfl | 12, _ => rfl | 13, _ => rfl | 14, _ => rfl | 15, _ => rfl | k + 16, h => absurd h (by omega)
theorem wbaS {E : Cx} {ad : Nat → Nat} {S : St} {X : va_W} {i : Nat} (hi : i < 16) {f : Nat → Int32} : (wb E ad S ++ X).set (2 * i + 1) (ad (2 * i + 1), .inl (E.2.1, cap i, .inl f)) = wb E ad (sF S i f) ++ X := match i, hi with | 0, _ => rfl | 1, _ => rfl | 2, _ => rfl | 3, _ => rfl | 4, _ => rfl | 5, _ => rfl | 6, _ => rfl | 7, _ => rfl | 8, _ => rfl | 9, _ => rfl | 10, _ => rfl | 11, _ => rfl | 12, _ => rfl | 13, _ => rfl | 14, _ => rfl | 15, _ => rfl | k + 16, h => absurd h (by omega)
theorem wro {E : Cx} {ad : Nat → Nat} {S : St} {X : va_W} {i : Nat} (hi : i < 3) : (wb E ad S ++ X)[32 + 2 * i]? = some (ad (32 + 2 * i), .inr (2, [.ref (ad (33 + 2 * i)), .int (S.1 (16 + i))])) := match i, hi with | 0, _ => rfl | 1, _ => rfl | 2, _ => rfl | k + 3, h => absurd h (by omega)
theorem wra {E : Cx} {ad : Nat → Nat} {S : St} {X : va_W} {i : Nat} (hi : i < 3) : (wb E ad S ++ X)[33 + 2 * i]? = some (ad (33 + 2 * i), .inl (E.2.2.1, 20, .inr (.inl (S.2.2 i)))) := match i, hi with | 0, _ => rfl | 1, _ => rfl | 2, _ => rfl | k + 3, h => absurd h (by omega)
theorem wroS {E : Cx} {ad : Nat → Nat} {S : St} {X : va_W} {i : Nat} (hi : i < 3) {x : Int32} : (wb E ad S ++ X).set (32 + 2 * i) (ad (32 + 2 * i), .inr (2, [.ref (ad (33 + 2 * i)), .int x])) = wb E ad (sV S (16 + i) x) ++ X := match i, hi with | 0, _ => rfl | 1, _ => rfl | 2, _ => rfl | k + 3, h => absurd h (by omega)
theorem wraS {E : Cx} {ad : Nat → Nat} {S : St} {X : va_W} {i : Nat} (hi : i < 3) {f : Nat → Int64} : (wb E ad S ++ X).set (33 + 2 * i) (ad (33 + 2 * i), .inl (E.2.2.1, 20, .inr (.inl f))) = wb E ad (sG S i f) ++ X := match i, hi with | 0, _ => rfl | 1, _ => rfl | 2, _ => rfl | k + 3, h => absurd h (by omega)
theorem rvN {E : Cx} {ad : Nat → Nat} {S : St} {X : va_W} {i : Nat} (hi : i < 16) : RV (wb E ad S ++ X) (ad (2 * i)) R_N := ⟨2 * i, 1, _, _, wbo hi, rfl, rfl⟩
theorem rvO {E : Cx} {ad : Nat → Nat} {S : St} {X : va_W} {i : Nat} (hi : i < 3) : RV (wb E ad S ++ X) (ad (32 + 2 * i)) R_O := ⟨32 + 2 * i, 2, _, _, wro hi, rfl, rfl⟩
theorem rvB0 {E : Cx} {ad : Nat → Nat} {S : St} {X : va_W} : RV (wb E ad S ++ X) (ad 40) R_B := ⟨40, 0, _, _, rfl, rfl, rfl⟩
theorem rvB1 {E : Cx} {ad : Nat → Nat} {S : St} {X : va_W} : RV (wb E ad S ++ X) (ad 41) R_B := ⟨41, 0, _, _, rfl, rfl, rfl⟩
theorem rvB2 {E : Cx} {ad : Nat → Nat} {S : St} {X : va_W} : RV (wb E ad S ++ X) (ad 42) R_B := ⟨42, 0, _, _, rfl, rfl, rfl⟩
theorem rvX {E : Cx} {ad : Nat → Nat} {S : St} {X : va_W} : RV (wb E ad S ++ X) (ad 43) R_X := ⟨43, 4, _, _, rfl, rfl, rfl⟩
theorem rvP {E : Cx} {ad : Nat → Nat} {S : St} {X : va_W} : RV (wb E ad S ++ X) (ad 39) R_P := ⟨39, 5, _, _, rfl, rfl, rfl⟩
theorem rvH {E : Cx} {ad : Nat → Nat} {S : St} {X : va_W} : RV (wb E ad S ++ X) (ad 44) R_H := ⟨44, 3, _, _, rfl, rfl, rfl⟩
theorem rvM {E : Cx} {ad : Nat → Nat} {S : St} {X : va_W} : RV (wm E ad S ++ X) (ad 0) R_M := ⟨0, 6, _, _, rfl, rfl, rfl⟩
theorem g_N_numbers {p : Program} {l : Launch} {e : Env} {R : Room} {s : State} {m : MethodId} {args : Array Value} {below : List Frame} {meth : Method} {c : Code} {H : Heap} {locs : List Loc} {cells slots : Nat} {Q : State → Prop} {cc : ByteArray} {pc : Nat} {ls : Array Slot} {rest : List Value} {E : Cx} {ad : Nat → Nat} {S : St} {X : va_W} {i : Nat} (hi : i < 16) (hx : p.tables.exec = Jvm.exec) (hb : c.code = cc) (hts : ∀ w ∈ TB, w.before args s = true) (hown : s.vm.findClass R_N = some m.cls) (hK : KK E s) (hP : va_P E.1 vwCl (wb E ad S ++ X) H) (hdg : decode cc pc = .ok (.getfield 13, 3)) (kk : W p l e R s m args below meth c H locs cells slots Q (F0 m (pc + 3) ls (.ref (ad (2 * i + 1)) :: rest))) : W p l e R s m args below meth c H locs cells slots Q (F0 m pc ls (.ref (ad (2 * i)) :: rest)) :=
  va_get hx hb hts i_N hown hK.1 hP (2 * i) (wbo hi) rfl 0 (by decide) (hts _ fl_N_13) (fun _ h => h) rfl hdg kk
theorem g_N_size {p : Program} {l : Launch} {e : Env} {R : Room} {s : State} {m : MethodId} {args : Array Value} {below : List Frame} {meth : Method} {c : Code} {H : Heap} {locs : List Loc} {cells slots : Nat} {Q : State → Prop} {cc : ByteArray} {pc : Nat} {ls : Array Slot} {rest : List Value} {E : Cx} {ad : Nat → Nat} {S : St} {X : va_W} {i : Nat} (hi : i < 16) (hx : p.tables.exec = Jvm.exec) (hb : c.code = cc) (hts : ∀ w ∈ TB, w.before args s = true) (hown : s.vm.findClass R_N = some m.cls) (hK : KK E s) (hP : va_P E.1 vwCl (wb E ad S ++ X) H) (hdg : decode cc pc = .ok (.getfield 7, 3)) (kk : W p l e R s m args below meth c H locs cells slots Q (F0 m (pc + 3) ls (.int (S.1 i) :: rest))) : W p l e R s m args below meth c H locs cells slots Q (F0 m pc ls (.ref (ad (2 * i)) :: rest)) :=
  va_get hx hb hts i_N hown hK.1 hP (2 * i) (wbo hi) rfl 1 (by decide) (hts _ fl_N_7) (fun _ h => h) rfl hdg kk
theorem p_N_size {p : Program} {l : Launch} {e : Env} {R : Room} {s : State} {m : MethodId} {args : Array Value} {below : List Frame} {meth : Method} {c : Code} {H : Heap} {locs : List Loc} {cells slots : Nat} {Q : State → Prop} {cc : ByteArray} {pc : Nat} {ls : Array Slot} {rest : List Value} {E : Cx} {ad : Nat → Nat} {S : St} {X : va_W} {A : Nat → Prop} {H0 : Heap} {x : Int32} {i : Nat} (hi : i < 16) (hx : p.tables.exec = Jvm.exec) (hb : c.code = cc) (hts : ∀ w ∈ TB, w.before args s = true) (hown : s.vm.findClass R_N = some m.cls) (hK : KK E s) (hP : va_P E.1 vwCl (wb E ad S ++ X) H) (hD : ∀ S' : St, va_D A (wb E ad S' ++ X)) (hS : va_S A H0 H locs) (hdg : decode cc pc = .ok (.putfield 7, 3)) (kk : ∀ (H1 : Heap) (locs1 : List Loc), va_P E.1 vwCl (wb E ad (sV S (i) x) ++ X) H1 → va_S A H0 H1 locs1 → W p l e R s m args below meth c H1 locs1 cells slots Q (F0 m (pc + 3) ls rest)) : W p l e R s m args below meth c H locs cells slots Q (F0 m pc ls (.int x :: .ref (ad (2 * i)) :: rest)) :=
  va_put hx hb hts i_N t_N t_N_ok n_N hown hK.1 hP (hD S) hS (2 * i) (wbo hi) rfl 1 (by decide) (hts _ fl_N_7) (fun _ h => h) rfl (ty := .int) rfl rfl rfl (Nat.le_of_ble_eq_true rfl) hdg (fun H1 locs1 hP1 _ hS1 => kk H1 locs1 (by rw [← wboS hi]; exact hP1) hS1)
theorem g_O_places {p : Program} {l : Launch} {e : Env} {R : Room} {s : State} {m : MethodId} {args : Array Value} {below : List Frame} {meth : Method} {c : Code} {H : Heap} {locs : List Loc} {cells slots : Nat} {Q : State → Prop} {cc : ByteArray} {pc : Nat} {ls : Array Slot} {rest : List Value} {E : Cx} {ad : Nat → Nat} {S : St} {X : va_W} {i : Nat} (hi : i < 3) (hx : p.tables.exec = Jvm.exec) (hb : c.code = cc) (hts : ∀ w ∈ TB, w.before args s = true) (hown : s.vm.findClass R_O = some m.cls) (hK : KK E s) (hP : va_P E.1 vwCl (wb E ad S ++ X) H) (hdg : decode cc pc = .ok (.getfield 9, 3)) (kk : W p l e R s m args below meth c H locs cells slots Q (F0 m (pc + 3) ls (.ref (ad (33 + 2 * i)) :: rest))) : W p l e R s m args below meth c H locs cells slots Q (F0 m pc ls (.ref (ad (32 + 2 * i)) :: rest)) :=
  va_get hx hb hts i_O hown hK.1 hP (32 + 2 * i) (wro hi) rfl 0 (by decide) (hts _ fl_O_9) (fun _ h => h) rfl hdg kk
theorem g_O_size {p : Program} {l : Launch} {e : Env} {R : Room} {s : State} {m : MethodId} {args : Array Value} {below : List Frame} {meth : Method} {c : Code} {H : Heap} {locs : List Loc} {cells slots : Nat} {Q : State → Prop} {cc : ByteArray} {pc : Nat} {ls : Array Slot} {rest : List Value} {E : Cx} {ad : Nat → Nat} {S : St} {X : va_W} {i : Nat} (hi : i < 3) (hx : p.tables.exec = Jvm.exec) (hb : c.code = cc) (hts : ∀ w ∈ TB, w.before args s = true) (hown : s.vm.findClass R_O = some m.cls) (hK : KK E s) (hP : va_P E.1 vwCl (wb E ad S ++ X) H) (hdg : decode cc pc = .ok (.getfield 15, 3)) (kk : W p l e R s m args below meth c H locs cells slots Q (F0 m (pc + 3) ls (.int (S.1 (16 + i)) :: rest))) : W p l e R s m args below meth c H locs cells slots Q (F0 m pc ls (.ref (ad (32 + 2 * i)) :: rest)) :=
  va_get hx hb hts i_O hown hK.1 hP (32 + 2 * i) (wro hi) rfl 1 (by decide) (hts _ fl_O_15) (fun _ h => h) rfl hdg kk
theorem p_O_size {p : Program} {l : Launch} {e : Env} {R : Room} {s : State} {m : MethodId} {args : Array Value} {below : List Frame} {meth : Method} {c : Code} {H : Heap} {locs : List Loc} {cells slots : Nat} {Q : State → Prop} {cc : ByteArray} {pc : Nat} {ls : Array Slot} {rest : List Value} {E : Cx} {ad : Nat → Nat} {S : St} {X : va_W} {A : Nat → Prop} {H0 : Heap} {x : Int32} {i : Nat} (hi : i < 3) (hx : p.tables.exec = Jvm.exec) (hb : c.code = cc) (hts : ∀ w ∈ TB, w.before args s = true) (hown : s.vm.findClass R_O = some m.cls) (hK : KK E s) (hP : va_P E.1 vwCl (wb E ad S ++ X) H) (hD : ∀ S' : St, va_D A (wb E ad S' ++ X)) (hS : va_S A H0 H locs) (hdg : decode cc pc = .ok (.putfield 15, 3)) (kk : ∀ (H1 : Heap) (locs1 : List Loc), va_P E.1 vwCl (wb E ad (sV S (16 + i) x) ++ X) H1 → va_S A H0 H1 locs1 → W p l e R s m args below meth c H1 locs1 cells slots Q (F0 m (pc + 3) ls rest)) : W p l e R s m args below meth c H locs cells slots Q (F0 m pc ls (.int x :: .ref (ad (32 + 2 * i)) :: rest)) :=
  va_put hx hb hts i_O t_O t_O_ok n_O hown hK.1 hP (hD S) hS (32 + 2 * i) (wro hi) rfl 1 (by decide) (hts _ fl_O_15) (fun _ h => h) rfl (ty := .int) rfl rfl rfl (Nat.le_of_ble_eq_true rfl) hdg (fun H1 locs1 hP1 _ hS1 => kk H1 locs1 (by rw [← wroS hi]; exact hP1) hS1)
theorem g_B0_teeth {p : Program} {l : Launch} {e : Env} {R : Room} {s : State} {m : MethodId} {args : Array Value} {below : List Frame} {meth : Method} {c : Code} {H : Heap} {locs : List Loc} {cells slots : Nat} {Q : State → Prop} {cc : ByteArray} {pc : Nat} {ls : Array Slot} {rest : List Value} {E : Cx} {ad : Nat → Nat} {S : St} {X : va_W} (hx : p.tables.exec = Jvm.exec) (hb : c.code = cc) (hts : ∀ w ∈ TB, w.before args s = true) (hown : s.vm.findClass R_B = some m.cls) (hK : KK E s) (hP : va_P E.1 vwCl (wb E ad S ++ X) H) (hdg : decode cc pc = .ok (.getfield 14, 3)) (kk : W p l e R s m args below meth c H locs cells slots Q (F0 m (pc + 3) ls (.ref (ad 0) :: rest))) : W p l e R s m args below meth c H locs cells slots Q (F0 m pc ls (.ref (ad 40) :: rest)) :=
  va_get hx hb hts i_B hown hK.1 hP 40 rfl rfl 0 (by decide) (hts _ fl_B_14) (fun _ h => h) rfl hdg kk
theorem g_B0_shifts {p : Program} {l : Launch} {e : Env} {R : Room} {s : State} {m : MethodId} {args : Array Value} {below : List Frame} {meth : Method} {c : Code} {H : Heap} {locs : List Loc} {cells slots : Nat} {Q : State → Prop} {cc : ByteArray} {pc : Nat} {ls : Array Slot} {rest : List Value} {E : Cx} {ad : Nat → Nat} {S : St} {X : va_W} (hx : p.tables.exec = Jvm.exec) (hb : c.code = cc) (hts : ∀ w ∈ TB, w.before args s = true) (hown : s.vm.findClass R_B = some m.cls) (hK : KK E s) (hP : va_P E.1 vwCl (wb E ad S ++ X) H) (hdg : decode cc pc = .ok (.getfield 20, 3)) (kk : W p l e R s m args below meth c H locs cells slots Q (F0 m (pc + 3) ls (.ref (ad 2) :: rest))) : W p l e R s m args below meth c H locs cells slots Q (F0 m pc ls (.ref (ad 40) :: rest)) :=
  va_get hx hb hts i_B hown hK.1 hP 40 rfl rfl 1 (by decide) (hts _ fl_B_20) (fun _ h => h) rfl hdg kk
theorem g_B0_drivers {p : Program} {l : Launch} {e : Env} {R : Room} {s : State} {m : MethodId} {args : Array Value} {below : List Frame} {meth : Method} {c : Code} {H : Heap} {locs : List Loc} {cells slots : Nat} {Q : State → Prop} {cc : ByteArray} {pc : Nat} {ls : Array Slot} {rest : List Value} {E : Cx} {ad : Nat → Nat} {S : St} {X : va_W} (hx : p.tables.exec = Jvm.exec) (hb : c.code = cc) (hts : ∀ w ∈ TB, w.before args s = true) (hown : s.vm.findClass R_B = some m.cls) (hK : KK E s) (hP : va_P E.1 vwCl (wb E ad S ++ X) H) (hdg : decode cc pc = .ok (.getfield 23, 3)) (kk : W p l e R s m args below meth c H locs cells slots Q (F0 m (pc + 3) ls (.ref (ad 4) :: rest))) : W p l e R s m args below meth c H locs cells slots Q (F0 m pc ls (.ref (ad 40) :: rest)) :=
  va_get hx hb hts i_B hown hK.1 hP 40 rfl rfl 2 (by decide) (hts _ fl_B_23) (fun _ h => h) rfl hdg kk
theorem g_B0_driven {p : Program} {l : Launch} {e : Env} {R : Room} {s : State} {m : MethodId} {args : Array Value} {below : List Frame} {meth : Method} {c : Code} {H : Heap} {locs : List Loc} {cells slots : Nat} {Q : State → Prop} {cc : ByteArray} {pc : Nat} {ls : Array Slot} {rest : List Value} {E : Cx} {ad : Nat → Nat} {S : St} {X : va_W} (hx : p.tables.exec = Jvm.exec) (hb : c.code = cc) (hts : ∀ w ∈ TB, w.before args s = true) (hown : s.vm.findClass R_B = some m.cls) (hK : KK E s) (hP : va_P E.1 vwCl (wb E ad S ++ X) H) (hdg : decode cc pc = .ok (.getfield 26, 3)) (kk : W p l e R s m args below meth c H locs cells slots Q (F0 m (pc + 3) ls (.ref (ad 6) :: rest))) : W p l e R s m args below meth c H locs cells slots Q (F0 m pc ls (.ref (ad 40) :: rest)) :=
  va_get hx hb hts i_B hown hK.1 hP 40 rfl rfl 3 (by decide) (hts _ fl_B_26) (fun _ h => h) rfl hdg kk
theorem g_B0_pressure {p : Program} {l : Launch} {e : Env} {R : Room} {s : State} {m : MethodId} {args : Array Value} {below : List Frame} {meth : Method} {c : Code} {H : Heap} {locs : List Loc} {cells slots : Nat} {Q : State → Prop} {cc : ByteArray} {pc : Nat} {ls : Array Slot} {rest : List Value} {E : Cx} {ad : Nat → Nat} {S : St} {X : va_W} (hx : p.tables.exec = Jvm.exec) (hb : c.code = cc) (hts : ∀ w ∈ TB, w.before args s = true) (hown : s.vm.findClass R_B = some m.cls) (hK : KK E s) (hP : va_P E.1 vwCl (wb E ad S ++ X) H) (hdg : decode cc pc = .ok (.getfield 29, 3)) (kk : W p l e R s m args below meth c H locs cells slots Q (F0 m (pc + 3) ls (.int (S.1 19) :: rest))) : W p l e R s m args below meth c H locs cells slots Q (F0 m pc ls (.ref (ad 40) :: rest)) :=
  va_get hx hb hts i_B hown hK.1 hP 40 rfl rfl 4 (by decide) (hts _ fl_B_29) (fun _ h => h) rfl hdg kk
theorem p_B0_pressure {p : Program} {l : Launch} {e : Env} {R : Room} {s : State} {m : MethodId} {args : Array Value} {below : List Frame} {meth : Method} {c : Code} {H : Heap} {locs : List Loc} {cells slots : Nat} {Q : State → Prop} {cc : ByteArray} {pc : Nat} {ls : Array Slot} {rest : List Value} {E : Cx} {ad : Nat → Nat} {S : St} {X : va_W} {A : Nat → Prop} {H0 : Heap} {x : Int32} (hx : p.tables.exec = Jvm.exec) (hb : c.code = cc) (hts : ∀ w ∈ TB, w.before args s = true) (hown : s.vm.findClass R_B = some m.cls) (hK : KK E s) (hP : va_P E.1 vwCl (wb E ad S ++ X) H) (hD : ∀ S' : St, va_D A (wb E ad S' ++ X)) (hS : va_S A H0 H locs) (hdg : decode cc pc = .ok (.putfield 29, 3)) (kk : ∀ (H1 : Heap) (locs1 : List Loc), va_P E.1 vwCl (wb E ad (sV S (19) x) ++ X) H1 → va_S A H0 H1 locs1 → W p l e R s m args below meth c H1 locs1 cells slots Q (F0 m (pc + 3) ls rest)) : W p l e R s m args below meth c H locs cells slots Q (F0 m pc ls (.int x :: .ref (ad 40) :: rest)) :=
  va_put hx hb hts i_B t_B t_B_ok n_B hown hK.1 hP (hD S) hS 40 rfl rfl 4 (by decide) (hts _ fl_B_29) (fun _ h => h) rfl (ty := .int) rfl rfl rfl (Nat.le_of_ble_eq_true rfl) hdg (fun H1 locs1 hP1 _ hS1 => kk H1 locs1 (hP1) hS1)
theorem g_B1_teeth {p : Program} {l : Launch} {e : Env} {R : Room} {s : State} {m : MethodId} {args : Array Value} {below : List Frame} {meth : Method} {c : Code} {H : Heap} {locs : List Loc} {cells slots : Nat} {Q : State → Prop} {cc : ByteArray} {pc : Nat} {ls : Array Slot} {rest : List Value} {E : Cx} {ad : Nat → Nat} {S : St} {X : va_W} (hx : p.tables.exec = Jvm.exec) (hb : c.code = cc) (hts : ∀ w ∈ TB, w.before args s = true) (hown : s.vm.findClass R_B = some m.cls) (hK : KK E s) (hP : va_P E.1 vwCl (wb E ad S ++ X) H) (hdg : decode cc pc = .ok (.getfield 14, 3)) (kk : W p l e R s m args below meth c H locs cells slots Q (F0 m (pc + 3) ls (.ref (ad 8) :: rest))) : W p l e R s m args below meth c H locs cells slots Q (F0 m pc ls (.ref (ad 41) :: rest)) :=
  va_get hx hb hts i_B hown hK.1 hP 41 rfl rfl 0 (by decide) (hts _ fl_B_14) (fun _ h => h) rfl hdg kk
theorem g_B1_shifts {p : Program} {l : Launch} {e : Env} {R : Room} {s : State} {m : MethodId} {args : Array Value} {below : List Frame} {meth : Method} {c : Code} {H : Heap} {locs : List Loc} {cells slots : Nat} {Q : State → Prop} {cc : ByteArray} {pc : Nat} {ls : Array Slot} {rest : List Value} {E : Cx} {ad : Nat → Nat} {S : St} {X : va_W} (hx : p.tables.exec = Jvm.exec) (hb : c.code = cc) (hts : ∀ w ∈ TB, w.before args s = true) (hown : s.vm.findClass R_B = some m.cls) (hK : KK E s) (hP : va_P E.1 vwCl (wb E ad S ++ X) H) (hdg : decode cc pc = .ok (.getfield 20, 3)) (kk : W p l e R s m args below meth c H locs cells slots Q (F0 m (pc + 3) ls (.ref (ad 10) :: rest))) : W p l e R s m args below meth c H locs cells slots Q (F0 m pc ls (.ref (ad 41) :: rest)) :=
  va_get hx hb hts i_B hown hK.1 hP 41 rfl rfl 1 (by decide) (hts _ fl_B_20) (fun _ h => h) rfl hdg kk
theorem g_B1_drivers {p : Program} {l : Launch} {e : Env} {R : Room} {s : State} {m : MethodId} {args : Array Value} {below : List Frame} {meth : Method} {c : Code} {H : Heap} {locs : List Loc} {cells slots : Nat} {Q : State → Prop} {cc : ByteArray} {pc : Nat} {ls : Array Slot} {rest : List Value} {E : Cx} {ad : Nat → Nat} {S : St} {X : va_W} (hx : p.tables.exec = Jvm.exec) (hb : c.code = cc) (hts : ∀ w ∈ TB, w.before args s = true) (hown : s.vm.findClass R_B = some m.cls) (hK : KK E s) (hP : va_P E.1 vwCl (wb E ad S ++ X) H) (hdg : decode cc pc = .ok (.getfield 23, 3)) (kk : W p l e R s m args below meth c H locs cells slots Q (F0 m (pc + 3) ls (.ref (ad 12) :: rest))) : W p l e R s m args below meth c H locs cells slots Q (F0 m pc ls (.ref (ad 41) :: rest)) :=
  va_get hx hb hts i_B hown hK.1 hP 41 rfl rfl 2 (by decide) (hts _ fl_B_23) (fun _ h => h) rfl hdg kk
theorem g_B1_driven {p : Program} {l : Launch} {e : Env} {R : Room} {s : State} {m : MethodId} {args : Array Value} {below : List Frame} {meth : Method} {c : Code} {H : Heap} {locs : List Loc} {cells slots : Nat} {Q : State → Prop} {cc : ByteArray} {pc : Nat} {ls : Array Slot} {rest : List Value} {E : Cx} {ad : Nat → Nat} {S : St} {X : va_W} (hx : p.tables.exec = Jvm.exec) (hb : c.code = cc) (hts : ∀ w ∈ TB, w.before args s = true) (hown : s.vm.findClass R_B = some m.cls) (hK : KK E s) (hP : va_P E.1 vwCl (wb E ad S ++ X) H) (hdg : decode cc pc = .ok (.getfield 26, 3)) (kk : W p l e R s m args below meth c H locs cells slots Q (F0 m (pc + 3) ls (.ref (ad 14) :: rest))) : W p l e R s m args below meth c H locs cells slots Q (F0 m pc ls (.ref (ad 41) :: rest)) :=
  va_get hx hb hts i_B hown hK.1 hP 41 rfl rfl 3 (by decide) (hts _ fl_B_26) (fun _ h => h) rfl hdg kk
theorem g_B1_pressure {p : Program} {l : Launch} {e : Env} {R : Room} {s : State} {m : MethodId} {args : Array Value} {below : List Frame} {meth : Method} {c : Code} {H : Heap} {locs : List Loc} {cells slots : Nat} {Q : State → Prop} {cc : ByteArray} {pc : Nat} {ls : Array Slot} {rest : List Value} {E : Cx} {ad : Nat → Nat} {S : St} {X : va_W} (hx : p.tables.exec = Jvm.exec) (hb : c.code = cc) (hts : ∀ w ∈ TB, w.before args s = true) (hown : s.vm.findClass R_B = some m.cls) (hK : KK E s) (hP : va_P E.1 vwCl (wb E ad S ++ X) H) (hdg : decode cc pc = .ok (.getfield 29, 3)) (kk : W p l e R s m args below meth c H locs cells slots Q (F0 m (pc + 3) ls (.int (S.1 20) :: rest))) : W p l e R s m args below meth c H locs cells slots Q (F0 m pc ls (.ref (ad 41) :: rest)) :=
  va_get hx hb hts i_B hown hK.1 hP 41 rfl rfl 4 (by decide) (hts _ fl_B_29) (fun _ h => h) rfl hdg kk
theorem p_B1_pressure {p : Program} {l : Launch} {e : Env} {R : Room} {s : State} {m : MethodId} {args : Array Value} {below : List Frame} {meth : Method} {c : Code} {H : Heap} {locs : List Loc} {cells slots : Nat} {Q : State → Prop} {cc : ByteArray} {pc : Nat} {ls : Array Slot} {rest : List Value} {E : Cx} {ad : Nat → Nat} {S : St} {X : va_W} {A : Nat → Prop} {H0 : Heap} {x : Int32} (hx : p.tables.exec = Jvm.exec) (hb : c.code = cc) (hts : ∀ w ∈ TB, w.before args s = true) (hown : s.vm.findClass R_B = some m.cls) (hK : KK E s) (hP : va_P E.1 vwCl (wb E ad S ++ X) H) (hD : ∀ S' : St, va_D A (wb E ad S' ++ X)) (hS : va_S A H0 H locs) (hdg : decode cc pc = .ok (.putfield 29, 3)) (kk : ∀ (H1 : Heap) (locs1 : List Loc), va_P E.1 vwCl (wb E ad (sV S (20) x) ++ X) H1 → va_S A H0 H1 locs1 → W p l e R s m args below meth c H1 locs1 cells slots Q (F0 m (pc + 3) ls rest)) : W p l e R s m args below meth c H locs cells slots Q (F0 m pc ls (.int x :: .ref (ad 41) :: rest)) :=
  va_put hx hb hts i_B t_B t_B_ok n_B hown hK.1 hP (hD S) hS 41 rfl rfl 4 (by decide) (hts _ fl_B_29) (fun _ h => h) rfl (ty := .int) rfl rfl rfl (Nat.le_of_ble_eq_true rfl) hdg (fun H1 locs1 hP1 _ hS1 => kk H1 locs1 (hP1) hS1)
theorem g_B2_teeth {p : Program} {l : Launch} {e : Env} {R : Room} {s : State} {m : MethodId} {args : Array Value} {below : List Frame} {meth : Method} {c : Code} {H : Heap} {locs : List Loc} {cells slots : Nat} {Q : State → Prop} {cc : ByteArray} {pc : Nat} {ls : Array Slot} {rest : List Value} {E : Cx} {ad : Nat → Nat} {S : St} {X : va_W} (hx : p.tables.exec = Jvm.exec) (hb : c.code = cc) (hts : ∀ w ∈ TB, w.before args s = true) (hown : s.vm.findClass R_B = some m.cls) (hK : KK E s) (hP : va_P E.1 vwCl (wb E ad S ++ X) H) (hdg : decode cc pc = .ok (.getfield 14, 3)) (kk : W p l e R s m args below meth c H locs cells slots Q (F0 m (pc + 3) ls (.ref (ad 16) :: rest))) : W p l e R s m args below meth c H locs cells slots Q (F0 m pc ls (.ref (ad 42) :: rest)) :=
  va_get hx hb hts i_B hown hK.1 hP 42 rfl rfl 0 (by decide) (hts _ fl_B_14) (fun _ h => h) rfl hdg kk
theorem g_B2_shifts {p : Program} {l : Launch} {e : Env} {R : Room} {s : State} {m : MethodId} {args : Array Value} {below : List Frame} {meth : Method} {c : Code} {H : Heap} {locs : List Loc} {cells slots : Nat} {Q : State → Prop} {cc : ByteArray} {pc : Nat} {ls : Array Slot} {rest : List Value} {E : Cx} {ad : Nat → Nat} {S : St} {X : va_W} (hx : p.tables.exec = Jvm.exec) (hb : c.code = cc) (hts : ∀ w ∈ TB, w.before args s = true) (hown : s.vm.findClass R_B = some m.cls) (hK : KK E s) (hP : va_P E.1 vwCl (wb E ad S ++ X) H) (hdg : decode cc pc = .ok (.getfield 20, 3)) (kk : W p l e R s m args below meth c H locs cells slots Q (F0 m (pc + 3) ls (.ref (ad 18) :: rest))) : W p l e R s m args below meth c H locs cells slots Q (F0 m pc ls (.ref (ad 42) :: rest)) :=
  va_get hx hb hts i_B hown hK.1 hP 42 rfl rfl 1 (by decide) (hts _ fl_B_20) (fun _ h => h) rfl hdg kk
theorem g_B2_drivers {p : Program} {l : Launch} {e : Env} {R : Room} {s : State} {m : MethodId} {args : Array Value} {below : List Frame} {meth : Method} {c : Code} {H : Heap} {locs : List Loc} {cells slots : Nat} {Q : State → Prop} {cc : ByteArray} {pc : Nat} {ls : Array Slot} {rest : List Value} {E : Cx} {ad : Nat → Nat} {S : St} {X : va_W} (hx : p.tables.exec = Jvm.exec) (hb : c.code = cc) (hts : ∀ w ∈ TB, w.before args s = true) (hown : s.vm.findClass R_B = some m.cls) (hK : KK E s) (hP : va_P E.1 vwCl (wb E ad S ++ X) H) (hdg : decode cc pc = .ok (.getfield 23, 3)) (kk : W p l e R s m args below meth c H locs cells slots Q (F0 m (pc + 3) ls (.ref (ad 20) :: rest))) : W p l e R s m args below meth c H locs cells slots Q (F0 m pc ls (.ref (ad 42) :: rest)) :=
  va_get hx hb hts i_B hown hK.1 hP 42 rfl rfl 2 (by decide) (hts _ fl_B_23) (fun _ h => h) rfl hdg kk
theorem g_B2_driven {p : Program} {l : Launch} {e : Env} {R : Room} {s : State} {m : MethodId} {args : Array Value} {below : List Frame} {meth : Method} {c : Code} {H : Heap} {locs : List Loc} {cells slots : Nat} {Q : State → Prop} {cc : ByteArray} {pc : Nat} {ls : Array Slot} {rest : List Value} {E : Cx} {ad : Nat → Nat} {S : St} {X : va_W} (hx : p.tables.exec = Jvm.exec) (hb : c.code = cc) (hts : ∀ w ∈ TB, w.before args s = true) (hown : s.vm.findClass R_B = some m.cls) (hK : KK E s) (hP : va_P E.1 vwCl (wb E ad S ++ X) H) (hdg : decode cc pc = .ok (.getfield 26, 3)) (kk : W p l e R s m args below meth c H locs cells slots Q (F0 m (pc + 3) ls (.ref (ad 22) :: rest))) : W p l e R s m args below meth c H locs cells slots Q (F0 m pc ls (.ref (ad 42) :: rest)) :=
  va_get hx hb hts i_B hown hK.1 hP 42 rfl rfl 3 (by decide) (hts _ fl_B_26) (fun _ h => h) rfl hdg kk
theorem g_B2_pressure {p : Program} {l : Launch} {e : Env} {R : Room} {s : State} {m : MethodId} {args : Array Value} {below : List Frame} {meth : Method} {c : Code} {H : Heap} {locs : List Loc} {cells slots : Nat} {Q : State → Prop} {cc : ByteArray} {pc : Nat} {ls : Array Slot} {rest : List Value} {E : Cx} {ad : Nat → Nat} {S : St} {X : va_W} (hx : p.tables.exec = Jvm.exec) (hb : c.code = cc) (hts : ∀ w ∈ TB, w.before args s = true) (hown : s.vm.findClass R_B = some m.cls) (hK : KK E s) (hP : va_P E.1 vwCl (wb E ad S ++ X) H) (hdg : decode cc pc = .ok (.getfield 29, 3)) (kk : W p l e R s m args below meth c H locs cells slots Q (F0 m (pc + 3) ls (.int (S.1 21) :: rest))) : W p l e R s m args below meth c H locs cells slots Q (F0 m pc ls (.ref (ad 42) :: rest)) :=
  va_get hx hb hts i_B hown hK.1 hP 42 rfl rfl 4 (by decide) (hts _ fl_B_29) (fun _ h => h) rfl hdg kk
theorem p_B2_pressure {p : Program} {l : Launch} {e : Env} {R : Room} {s : State} {m : MethodId} {args : Array Value} {below : List Frame} {meth : Method} {c : Code} {H : Heap} {locs : List Loc} {cells slots : Nat} {Q : State → Prop} {cc : ByteArray} {pc : Nat} {ls : Array Slot} {rest : List Value} {E : Cx} {ad : Nat → Nat} {S : St} {X : va_W} {A : Nat → Prop} {H0 : Heap} {x : Int32} (hx : p.tables.exec = Jvm.exec) (hb : c.code = cc) (hts : ∀ w ∈ TB, w.before args s = true) (hown : s.vm.findClass R_B = some m.cls) (hK : KK E s) (hP : va_P E.1 vwCl (wb E ad S ++ X) H) (hD : ∀ S' : St, va_D A (wb E ad S' ++ X)) (hS : va_S A H0 H locs) (hdg : decode cc pc = .ok (.putfield 29, 3)) (kk : ∀ (H1 : Heap) (locs1 : List Loc), va_P E.1 vwCl (wb E ad (sV S (21) x) ++ X) H1 → va_S A H0 H1 locs1 → W p l e R s m args below meth c H1 locs1 cells slots Q (F0 m (pc + 3) ls rest)) : W p l e R s m args below meth c H locs cells slots Q (F0 m pc ls (.int x :: .ref (ad 42) :: rest)) :=
  va_put hx hb hts i_B t_B t_B_ok n_B hown hK.1 hP (hD S) hS 42 rfl rfl 4 (by decide) (hts _ fl_B_29) (fun _ h => h) rfl (ty := .int) rfl rfl rfl (Nat.le_of_ble_eq_true rfl) hdg (fun H1 locs1 hP1 _ hS1 => kk H1 locs1 (hP1) hS1)
theorem g_X_bytes {p : Program} {l : Launch} {e : Env} {R : Room} {s : State} {m : MethodId} {args : Array Value} {below : List Frame} {meth : Method} {c : Code} {H : Heap} {locs : List Loc} {cells slots : Nat} {Q : State → Prop} {cc : ByteArray} {pc : Nat} {ls : Array Slot} {rest : List Value} {E : Cx} {ad : Nat → Nat} {S : St} {X : va_W} (hx : p.tables.exec = Jvm.exec) (hb : c.code = cc) (hts : ∀ w ∈ TB, w.before args s = true) (hown : s.vm.findClass R_X = some m.cls) (hK : KK E s) (hP : va_P E.1 vwCl (wb E ad S ++ X) H) (hdg : decode cc pc = .ok (.getfield 14, 3)) (kk : W p l e R s m args below meth c H locs cells slots Q (F0 m (pc + 3) ls (.ref (ad 24) :: rest))) : W p l e R s m args below meth c H locs cells slots Q (F0 m pc ls (.ref (ad 43) :: rest)) :=
  va_get hx hb hts i_X hown hK.1 hP 43 rfl rfl 0 (by decide) (hts _ fl_X_14) (fun _ h => h) rfl hdg kk
theorem g_X_letters {p : Program} {l : Launch} {e : Env} {R : Room} {s : State} {m : MethodId} {args : Array Value} {below : List Frame} {meth : Method} {c : Code} {H : Heap} {locs : List Loc} {cells slots : Nat} {Q : State → Prop} {cc : ByteArray} {pc : Nat} {ls : Array Slot} {rest : List Value} {E : Cx} {ad : Nat → Nat} {S : St} {X : va_W} (hx : p.tables.exec = Jvm.exec) (hb : c.code = cc) (hts : ∀ w ∈ TB, w.before args s = true) (hown : s.vm.findClass R_X = some m.cls) (hK : KK E s) (hP : va_P E.1 vwCl (wb E ad S ++ X) H) (hdg : decode cc pc = .ok (.getfield 20, 3)) (kk : W p l e R s m args below meth c H locs cells slots Q (F0 m (pc + 3) ls (.ref (ad 26) :: rest))) : W p l e R s m args below meth c H locs cells slots Q (F0 m pc ls (.ref (ad 43) :: rest)) :=
  va_get hx hb hts i_X hown hK.1 hP 43 rfl rfl 1 (by decide) (hts _ fl_X_20) (fun _ h => h) rfl hdg kk
theorem g_X_firsts {p : Program} {l : Launch} {e : Env} {R : Room} {s : State} {m : MethodId} {args : Array Value} {below : List Frame} {meth : Method} {c : Code} {H : Heap} {locs : List Loc} {cells slots : Nat} {Q : State → Prop} {cc : ByteArray} {pc : Nat} {ls : Array Slot} {rest : List Value} {E : Cx} {ad : Nat → Nat} {S : St} {X : va_W} (hx : p.tables.exec = Jvm.exec) (hb : c.code = cc) (hts : ∀ w ∈ TB, w.before args s = true) (hown : s.vm.findClass R_X = some m.cls) (hK : KK E s) (hP : va_P E.1 vwCl (wb E ad S ++ X) H) (hdg : decode cc pc = .ok (.getfield 23, 3)) (kk : W p l e R s m args below meth c H locs cells slots Q (F0 m (pc + 3) ls (.ref (ad 28) :: rest))) : W p l e R s m args below meth c H locs cells slots Q (F0 m pc ls (.ref (ad 43) :: rest)) :=
  va_get hx hb hts i_X hown hK.1 hP 43 rfl rfl 2 (by decide) (hts _ fl_X_23) (fun _ h => h) rfl hdg kk
theorem g_X_seconds {p : Program} {l : Launch} {e : Env} {R : Room} {s : State} {m : MethodId} {args : Array Value} {below : List Frame} {meth : Method} {c : Code} {H : Heap} {locs : List Loc} {cells slots : Nat} {Q : State → Prop} {cc : ByteArray} {pc : Nat} {ls : Array Slot} {rest : List Value} {E : Cx} {ad : Nat → Nat} {S : St} {X : va_W} (hx : p.tables.exec = Jvm.exec) (hb : c.code = cc) (hts : ∀ w ∈ TB, w.before args s = true) (hown : s.vm.findClass R_X = some m.cls) (hK : KK E s) (hP : va_P E.1 vwCl (wb E ad S ++ X) H) (hdg : decode cc pc = .ok (.getfield 26, 3)) (kk : W p l e R s m args below meth c H locs cells slots Q (F0 m (pc + 3) ls (.ref (ad 30) :: rest))) : W p l e R s m args below meth c H locs cells slots Q (F0 m pc ls (.ref (ad 43) :: rest)) :=
  va_get hx hb hts i_X hown hK.1 hP 43 rfl rfl 3 (by decide) (hts _ fl_X_26) (fun _ h => h) rfl hdg kk
theorem g_X_place {p : Program} {l : Launch} {e : Env} {R : Room} {s : State} {m : MethodId} {args : Array Value} {below : List Frame} {meth : Method} {c : Code} {H : Heap} {locs : List Loc} {cells slots : Nat} {Q : State → Prop} {cc : ByteArray} {pc : Nat} {ls : Array Slot} {rest : List Value} {E : Cx} {ad : Nat → Nat} {S : St} {X : va_W} (hx : p.tables.exec = Jvm.exec) (hb : c.code = cc) (hts : ∀ w ∈ TB, w.before args s = true) (hown : s.vm.findClass R_X = some m.cls) (hK : KK E s) (hP : va_P E.1 vwCl (wb E ad S ++ X) H) (hdg : decode cc pc = .ok (.getfield 29, 3)) (kk : W p l e R s m args below meth c H locs cells slots Q (F0 m (pc + 3) ls (.int (S.1 23) :: rest))) : W p l e R s m args below meth c H locs cells slots Q (F0 m pc ls (.ref (ad 43) :: rest)) :=
  va_get hx hb hts i_X hown hK.1 hP 43 rfl rfl 4 (by decide) (hts _ fl_X_29) (fun _ h => h) rfl hdg kk
theorem g_X_number {p : Program} {l : Launch} {e : Env} {R : Room} {s : State} {m : MethodId} {args : Array Value} {below : List Frame} {meth : Method} {c : Code} {H : Heap} {locs : List Loc} {cells slots : Nat} {Q : State → Prop} {cc : ByteArray} {pc : Nat} {ls : Array Slot} {rest : List Value} {E : Cx} {ad : Nat → Nat} {S : St} {X : va_W} (hx : p.tables.exec = Jvm.exec) (hb : c.code = cc) (hts : ∀ w ∈ TB, w.before args s = true) (hown : s.vm.findClass R_X = some m.cls) (hK : KK E s) (hP : va_P E.1 vwCl (wb E ad S ++ X) H) (hdg : decode cc pc = .ok (.getfield 33, 3)) (kk : W p l e R s m args below meth c H locs cells slots Q (F0 m (pc + 3) ls (.int (S.1 24) :: rest))) : W p l e R s m args below meth c H locs cells slots Q (F0 m pc ls (.ref (ad 43) :: rest)) :=
  va_get hx hb hts i_X hown hK.1 hP 43 rfl rfl 5 (by decide) (hts _ fl_X_33) (fun _ h => h) rfl hdg kk
theorem p_X_place {p : Program} {l : Launch} {e : Env} {R : Room} {s : State} {m : MethodId} {args : Array Value} {below : List Frame} {meth : Method} {c : Code} {H : Heap} {locs : List Loc} {cells slots : Nat} {Q : State → Prop} {cc : ByteArray} {pc : Nat} {ls : Array Slot} {rest : List Value} {E : Cx} {ad : Nat → Nat} {S : St} {X : va_W} {A : Nat → Prop} {H0 : Heap} {x : Int32} (hx : p.tables.exec = Jvm.exec) (hb : c.code = cc) (hts : ∀ w ∈ TB, w.before args s = true) (hown : s.vm.findClass R_X = some m.cls) (hK : KK E s) (hP : va_P E.1 vwCl (wb E ad S ++ X) H) (hD : ∀ S' : St, va_D A (wb E ad S' ++ X)) (hS : va_S A H0 H locs) (hdg : decode cc pc = .ok (.putfield 29, 3)) (kk : ∀ (H1 : Heap) (locs1 : List Loc), va_P E.1 vwCl (wb E ad (sV S (23) x) ++ X) H1 → va_S A H0 H1 locs1 → W p l e R s m args below meth c H1 locs1 cells slots Q (F0 m (pc + 3) ls rest)) : W p l e R s m args below meth c H locs cells slots Q (F0 m pc ls (.int x :: .ref (ad 43) :: rest)) :=
  va_put hx hb hts i_X t_X t_X_ok n_X hown hK.1 hP (hD S) hS 43 rfl rfl 4 (by decide) (hts _ fl_X_29) (fun _ h => h) rfl (ty := .int) rfl rfl rfl (Nat.le_of_ble_eq_true rfl) hdg (fun H1 locs1 hP1 _ hS1 => kk H1 locs1 (hP1) hS1)
theorem p_X_number {p : Program} {l : Launch} {e : Env} {R : Room} {s : State} {m : MethodId} {args : Array Value} {below : List Frame} {meth : Method} {c : Code} {H : Heap} {locs : List Loc} {cells slots : Nat} {Q : State → Prop} {cc : ByteArray} {pc : Nat} {ls : Array Slot} {rest : List Value} {E : Cx} {ad : Nat → Nat} {S : St} {X : va_W} {A : Nat → Prop} {H0 : Heap} {x : Int32} (hx : p.tables.exec = Jvm.exec) (hb : c.code = cc) (hts : ∀ w ∈ TB, w.before args s = true) (hown : s.vm.findClass R_X = some m.cls) (hK : KK E s) (hP : va_P E.1 vwCl (wb E ad S ++ X) H) (hD : ∀ S' : St, va_D A (wb E ad S' ++ X)) (hS : va_S A H0 H locs) (hdg : decode cc pc = .ok (.putfield 33, 3)) (kk : ∀ (H1 : Heap) (locs1 : List Loc), va_P E.1 vwCl (wb E ad (sV S (24) x) ++ X) H1 → va_S A H0 H1 locs1 → W p l e R s m args below meth c H1 locs1 cells slots Q (F0 m (pc + 3) ls rest)) : W p l e R s m args below meth c H locs cells slots Q (F0 m pc ls (.int x :: .ref (ad 43) :: rest)) :=
  va_put hx hb hts i_X t_X t_X_ok n_X hown hK.1 hP (hD S) hS 43 rfl rfl 5 (by decide) (hts _ fl_X_33) (fun _ h => h) rfl (ty := .int) rfl rfl rfl (Nat.le_of_ble_eq_true rfl) hdg (fun H1 locs1 hP1 _ hS1 => kk H1 locs1 (hP1) hS1)
theorem g_P_now {p : Program} {l : Launch} {e : Env} {R : Room} {s : State} {m : MethodId} {args : Array Value} {below : List Frame} {meth : Method} {c : Code} {H : Heap} {locs : List Loc} {cells slots : Nat} {Q : State → Prop} {cc : ByteArray} {pc : Nat} {ls : Array Slot} {rest : List Value} {E : Cx} {ad : Nat → Nat} {S : St} {X : va_W} (hx : p.tables.exec = Jvm.exec) (hb : c.code = cc) (hts : ∀ w ∈ TB, w.before args s = true) (hown : s.vm.findClass R_P = some m.cls) (hK : KK E s) (hP : va_P E.1 vwCl (wb E ad S ++ X) H) (hdg : decode cc pc = .ok (.getfield 14, 3)) (kk : W p l e R s m args below meth c H locs cells slots Q (F0 m (pc + 3) ls (.ref (ad 40) :: rest))) : W p l e R s m args below meth c H locs cells slots Q (F0 m pc ls (.ref (ad 39) :: rest)) :=
  va_get hx hb hts i_P hown hK.1 hP 39 rfl rfl 0 (by decide) (hts _ fl_P_14) (fun _ h => h) rfl hdg kk
theorem g_P_kept {p : Program} {l : Launch} {e : Env} {R : Room} {s : State} {m : MethodId} {args : Array Value} {below : List Frame} {meth : Method} {c : Code} {H : Heap} {locs : List Loc} {cells slots : Nat} {Q : State → Prop} {cc : ByteArray} {pc : Nat} {ls : Array Slot} {rest : List Value} {E : Cx} {ad : Nat → Nat} {S : St} {X : va_W} (hx : p.tables.exec = Jvm.exec) (hb : c.code = cc) (hts : ∀ w ∈ TB, w.before args s = true) (hown : s.vm.findClass R_P = some m.cls) (hK : KK E s) (hP : va_P E.1 vwCl (wb E ad S ++ X) H) (hdg : decode cc pc = .ok (.getfield 18, 3)) (kk : W p l e R s m args below meth c H locs cells slots Q (F0 m (pc + 3) ls (.ref (ad 41) :: rest))) : W p l e R s m args below meth c H locs cells slots Q (F0 m pc ls (.ref (ad 39) :: rest)) :=
  va_get hx hb hts i_P hown hK.1 hP 39 rfl rfl 1 (by decide) (hts _ fl_P_18) (fun _ h => h) rfl hdg kk
theorem g_P_ahead {p : Program} {l : Launch} {e : Env} {R : Room} {s : State} {m : MethodId} {args : Array Value} {below : List Frame} {meth : Method} {c : Code} {H : Heap} {locs : List Loc} {cells slots : Nat} {Q : State → Prop} {cc : ByteArray} {pc : Nat} {ls : Array Slot} {rest : List Value} {E : Cx} {ad : Nat → Nat} {S : St} {X : va_W} (hx : p.tables.exec = Jvm.exec) (hb : c.code = cc) (hts : ∀ w ∈ TB, w.before args s = true) (hown : s.vm.findClass R_P = some m.cls) (hK : KK E s) (hP : va_P E.1 vwCl (wb E ad S ++ X) H) (hdg : decode cc pc = .ok (.getfield 21, 3)) (kk : W p l e R s m args below meth c H locs cells slots Q (F0 m (pc + 3) ls (.ref (ad 42) :: rest))) : W p l e R s m args below meth c H locs cells slots Q (F0 m pc ls (.ref (ad 39) :: rest)) :=
  va_get hx hb hts i_P hown hK.1 hP 39 rfl rfl 2 (by decide) (hts _ fl_P_21) (fun _ h => h) rfl hdg kk
theorem g_P_isKept {p : Program} {l : Launch} {e : Env} {R : Room} {s : State} {m : MethodId} {args : Array Value} {below : List Frame} {meth : Method} {c : Code} {H : Heap} {locs : List Loc} {cells slots : Nat} {Q : State → Prop} {cc : ByteArray} {pc : Nat} {ls : Array Slot} {rest : List Value} {E : Cx} {ad : Nat → Nat} {S : St} {X : va_W} (hx : p.tables.exec = Jvm.exec) (hb : c.code = cc) (hts : ∀ w ∈ TB, w.before args s = true) (hown : s.vm.findClass R_P = some m.cls) (hK : KK E s) (hP : va_P E.1 vwCl (wb E ad S ++ X) H) (hdg : decode cc pc = .ok (.getfield 24, 3)) (kk : W p l e R s m args below meth c H locs cells slots Q (F0 m (pc + 3) ls (.int (S.1 22) :: rest))) : W p l e R s m args below meth c H locs cells slots Q (F0 m pc ls (.ref (ad 39) :: rest)) :=
  va_get hx hb hts i_P hown hK.1 hP 39 rfl rfl 3 (by decide) (hts _ fl_P_24) (fun _ h => h) rfl hdg kk
theorem g_P_tape {p : Program} {l : Launch} {e : Env} {R : Room} {s : State} {m : MethodId} {args : Array Value} {below : List Frame} {meth : Method} {c : Code} {H : Heap} {locs : List Loc} {cells slots : Nat} {Q : State → Prop} {cc : ByteArray} {pc : Nat} {ls : Array Slot} {rest : List Value} {E : Cx} {ad : Nat → Nat} {S : St} {X : va_W} (hx : p.tables.exec = Jvm.exec) (hb : c.code = cc) (hts : ∀ w ∈ TB, w.before args s = true) (hown : s.vm.findClass R_P = some m.cls) (hK : KK E s) (hP : va_P E.1 vwCl (wb E ad S ++ X) H) (hdg : decode cc pc = .ok (.getfield 31, 3)) (kk : W p l e R s m args below meth c H locs cells slots Q (F0 m (pc + 3) ls (.ref (ad 43) :: rest))) : W p l e R s m args below meth c H locs cells slots Q (F0 m pc ls (.ref (ad 39) :: rest)) :=
  va_get hx hb hts i_P hown hK.1 hP 39 rfl rfl 4 (by decide) (hts _ fl_P_31) (fun _ h => h) rfl hdg kk
theorem g_P_rows {p : Program} {l : Launch} {e : Env} {R : Room} {s : State} {m : MethodId} {args : Array Value} {below : List Frame} {meth : Method} {c : Code} {H : Heap} {locs : List Loc} {cells slots : Nat} {Q : State → Prop} {cc : ByteArray} {pc : Nat} {ls : Array Slot} {rest : List Value} {E : Cx} {ad : Nat → Nat} {S : St} {X : va_W} (hx : p.tables.exec = Jvm.exec) (hb : c.code = cc) (hts : ∀ w ∈ TB, w.before args s = true) (hown : s.vm.findClass R_P = some m.cls) (hK : KK E s) (hP : va_P E.1 vwCl (wb E ad S ++ X) H) (hdg : decode cc pc = .ok (.getfield 38, 3)) (kk : W p l e R s m args below meth c H locs cells slots Q (F0 m (pc + 3) ls (.ref (ad 38) :: rest))) : W p l e R s m args below meth c H locs cells slots Q (F0 m pc ls (.ref (ad 39) :: rest)) :=
  va_get hx hb hts i_P hown hK.1 hP 39 rfl rfl 5 (by decide) (hts _ fl_P_38) (fun _ h => h) rfl hdg kk
theorem g_P_search {p : Program} {l : Launch} {e : Env} {R : Room} {s : State} {m : MethodId} {args : Array Value} {below : List Frame} {meth : Method} {c : Code} {H : Heap} {locs : List Loc} {cells slots : Nat} {Q : State → Prop} {cc : ByteArray} {pc : Nat} {ls : Array Slot} {rest : List Value} {E : Cx} {ad : Nat → Nat} {S : St} {X : va_W} (hx : p.tables.exec = Jvm.exec) (hb : c.code = cc) (hts : ∀ w ∈ TB, w.before args s = true) (hown : s.vm.findClass R_P = some m.cls) (hK : KK E s) (hP : va_P E.1 vwCl (wb E ad S ++ X) H) (hdg : decode cc pc = .ok (.getfield 45, 3)) (kk : W p l e R s m args below meth c H locs cells slots Q (F0 m (pc + 3) ls (.ref (ad 44) :: rest))) : W p l e R s m args below meth c H locs cells slots Q (F0 m pc ls (.ref (ad 39) :: rest)) :=
  va_get hx hb hts i_P hown hK.1 hP 39 rfl rfl 6 (by decide) (hts _ fl_P_45) (fun _ h => h) rfl hdg kk
theorem p_P_isKept {p : Program} {l : Launch} {e : Env} {R : Room} {s : State} {m : MethodId} {args : Array Value} {below : List Frame} {meth : Method} {c : Code} {H : Heap} {locs : List Loc} {cells slots : Nat} {Q : State → Prop} {cc : ByteArray} {pc : Nat} {ls : Array Slot} {rest : List Value} {E : Cx} {ad : Nat → Nat} {S : St} {X : va_W} {A : Nat → Prop} {H0 : Heap} {x : Int32} (hx : p.tables.exec = Jvm.exec) (hb : c.code = cc) (hts : ∀ w ∈ TB, w.before args s = true) (hown : s.vm.findClass R_P = some m.cls) (hK : KK E s) (hP : va_P E.1 vwCl (wb E ad S ++ X) H) (hD : ∀ S' : St, va_D A (wb E ad S' ++ X)) (hS : va_S A H0 H locs) (hn : x = 0 ∨ x = 1) (hdg : decode cc pc = .ok (.putfield 24, 3)) (kk : ∀ (H1 : Heap) (locs1 : List Loc), va_P E.1 vwCl (wb E ad (sV S (22) x) ++ X) H1 → va_S A H0 H1 locs1 → W p l e R s m args below meth c H1 locs1 cells slots Q (F0 m (pc + 3) ls rest)) : W p l e R s m args below meth c H locs cells slots Q (F0 m pc ls (.int x :: .ref (ad 39) :: rest)) :=
  va_put hx hb hts i_P t_P t_P_ok n_P hown hK.1 hP (hD S) hS 39 rfl rfl 3 (by decide) (hts _ fl_P_24) (fun _ h => h) rfl (ty := .boolean) rfl (k_nb hn) (by rcases hn with rfl | rfl <;> rfl) (Nat.le_of_ble_eq_true rfl) hdg (fun H1 locs1 hP1 _ hS1 => kk H1 locs1 (hP1) hS1)
theorem g_H_k {p : Program} {l : Launch} {e : Env} {R : Room} {s : State} {m : MethodId} {args : Array Value} {below : List Frame} {meth : Method} {c : Code} {H : Heap} {locs : List Loc} {cells slots : Nat} {Q : State → Prop} {cc : ByteArray} {pc : Nat} {ls : Array Slot} {rest : List Value} {E : Cx} {ad : Nat → Nat} {S : St} {X : va_W} (hx : p.tables.exec = Jvm.exec) (hb : c.code = cc) (hts : ∀ w ∈ TB, w.before args s = true) (hown : s.vm.findClass R_H = some m.cls) (hK : KK E s) (hP : va_P E.1 vwCl (wb E ad S ++ X) H) (hdg : decode cc pc = .ok (.getfield 9, 3)) (kk : W p l e R s m args below meth c H locs cells slots Q (F0 m (pc + 3) ls (.int (S.1 25) :: rest))) : W p l e R s m args below meth c H locs cells slots Q (F0 m pc ls (.ref (ad 44) :: rest)) :=
  va_get hx hb hts i_H hown hK.1 hP 44 rfl rfl 0 (by decide) (hts _ fl_H_9) (fun _ h => h) rfl hdg kk
theorem p_H_k {p : Program} {l : Launch} {e : Env} {R : Room} {s : State} {m : MethodId} {args : Array Value} {below : List Frame} {meth : Method} {c : Code} {H : Heap} {locs : List Loc} {cells slots : Nat} {Q : State → Prop} {cc : ByteArray} {pc : Nat} {ls : Array Slot} {rest : List Value} {E : Cx} {ad : Nat → Nat} {S : St} {X : va_W} {A : Nat → Prop} {H0 : Heap} {x : Int32} (hx : p.tables.exec = Jvm.exec) (hb : c.code = cc) (hts : ∀ w ∈ TB, w.before args s = true) (hown : s.vm.findClass R_H = some m.cls) (hK : KK E s) (hP : va_P E.1 vwCl (wb E ad S ++ X) H) (hD : ∀ S' : St, va_D A (wb E ad S' ++ X)) (hS : va_S A H0 H locs) (hdg : decode cc pc = .ok (.putfield 9, 3)) (kk : ∀ (H1 : Heap) (locs1 : List Loc), va_P E.1 vwCl (wb E ad (sV S (25) x) ++ X) H1 → va_S A H0 H1 locs1 → W p l e R s m args below meth c H1 locs1 cells slots Q (F0 m (pc + 3) ls rest)) : W p l e R s m args below meth c H locs cells slots Q (F0 m pc ls (.int x :: .ref (ad 44) :: rest)) :=
  va_put hx hb hts i_H t_H t_H_ok n_H hown hK.1 hP (hD S) hS 44 rfl rfl 0 (by decide) (hts _ fl_H_9) (fun _ h => h) rfl (ty := .int) rfl rfl rfl (Nat.le_of_ble_eq_true rfl) hdg (fun H1 locs1 hP1 _ hS1 => kk H1 locs1 (hP1) hS1)
theorem g_H_u {p : Program} {l : Launch} {e : Env} {R : Room} {s : State} {m : MethodId} {args : Array Value} {below : List Frame} {meth : Method} {c : Code} {H : Heap} {locs : List Loc} {cells slots : Nat} {Q : State → Prop} {cc : ByteArray} {pc : Nat} {ls : Array Slot} {rest : List Value} {E : Cx} {ad : Nat → Nat} {S : St} {X : va_W} (hx : p.tables.exec = Jvm.exec) (hb : c.code = cc) (hts : ∀ w ∈ TB, w.before args s = true) (hown : s.vm.findClass R_H = some m.cls) (hK : KK E s) (hP : va_P E.1 vwCl (wb E ad S ++ X) H) (hdg : decode cc pc = .ok (.getfield 15, 3)) (kk : W p l e R s m args below meth c H locs cells slots Q (F0 m (pc + 3) ls (.int (S.1 26) :: rest))) : W p l e R s m args below meth c H locs cells slots Q (F0 m pc ls (.ref (ad 44) :: rest)) :=
  va_get hx hb hts i_H hown hK.1 hP 44 rfl rfl 1 (by decide) (hts _ fl_H_15) (fun _ h => h) rfl hdg kk
theorem p_H_u {p : Program} {l : Launch} {e : Env} {R : Room} {s : State} {m : MethodId} {args : Array Value} {below : List Frame} {meth : Method} {c : Code} {H : Heap} {locs : List Loc} {cells slots : Nat} {Q : State → Prop} {cc : ByteArray} {pc : Nat} {ls : Array Slot} {rest : List Value} {E : Cx} {ad : Nat → Nat} {S : St} {X : va_W} {A : Nat → Prop} {H0 : Heap} {x : Int32} (hx : p.tables.exec = Jvm.exec) (hb : c.code = cc) (hts : ∀ w ∈ TB, w.before args s = true) (hown : s.vm.findClass R_H = some m.cls) (hK : KK E s) (hP : va_P E.1 vwCl (wb E ad S ++ X) H) (hD : ∀ S' : St, va_D A (wb E ad S' ++ X)) (hS : va_S A H0 H locs) (hdg : decode cc pc = .ok (.putfield 15, 3)) (kk : ∀ (H1 : Heap) (locs1 : List Loc), va_P E.1 vwCl (wb E ad (sV S (26) x) ++ X) H1 → va_S A H0 H1 locs1 → W p l e R s m args below meth c H1 locs1 cells slots Q (F0 m (pc + 3) ls rest)) : W p l e R s m args below meth c H locs cells slots Q (F0 m pc ls (.int x :: .ref (ad 44) :: rest)) :=
  va_put hx hb hts i_H t_H t_H_ok n_H hown hK.1 hP (hD S) hS 44 rfl rfl 1 (by decide) (hts _ fl_H_15) (fun _ h => h) rfl (ty := .int) rfl rfl rfl (Nat.le_of_ble_eq_true rfl) hdg (fun H1 locs1 hP1 _ hS1 => kk H1 locs1 (hP1) hS1)
theorem g_H_w {p : Program} {l : Launch} {e : Env} {R : Room} {s : State} {m : MethodId} {args : Array Value} {below : List Frame} {meth : Method} {c : Code} {H : Heap} {locs : List Loc} {cells slots : Nat} {Q : State → Prop} {cc : ByteArray} {pc : Nat} {ls : Array Slot} {rest : List Value} {E : Cx} {ad : Nat → Nat} {S : St} {X : va_W} (hx : p.tables.exec = Jvm.exec) (hb : c.code = cc) (hts : ∀ w ∈ TB, w.before args s = true) (hown : s.vm.findClass R_H = some m.cls) (hK : KK E s) (hP : va_P E.1 vwCl (wb E ad S ++ X) H) (hdg : decode cc pc = .ok (.getfield 18, 3)) (kk : W p l e R s m args below meth c H locs cells slots Q (F0 m (pc + 3) ls (.int (S.1 27) :: rest))) : W p l e R s m args below meth c H locs cells slots Q (F0 m pc ls (.ref (ad 44) :: rest)) :=
  va_get hx hb hts i_H hown hK.1 hP 44 rfl rfl 2 (by decide) (hts _ fl_H_18) (fun _ h => h) rfl hdg kk
theorem p_H_w {p : Program} {l : Launch} {e : Env} {R : Room} {s : State} {m : MethodId} {args : Array Value} {below : List Frame} {meth : Method} {c : Code} {H : Heap} {locs : List Loc} {cells slots : Nat} {Q : State → Prop} {cc : ByteArray} {pc : Nat} {ls : Array Slot} {rest : List Value} {E : Cx} {ad : Nat → Nat} {S : St} {X : va_W} {A : Nat → Prop} {H0 : Heap} {x : Int32} (hx : p.tables.exec = Jvm.exec) (hb : c.code = cc) (hts : ∀ w ∈ TB, w.before args s = true) (hown : s.vm.findClass R_H = some m.cls) (hK : KK E s) (hP : va_P E.1 vwCl (wb E ad S ++ X) H) (hD : ∀ S' : St, va_D A (wb E ad S' ++ X)) (hS : va_S A H0 H locs) (hdg : decode cc pc = .ok (.putfield 18, 3)) (kk : ∀ (H1 : Heap) (locs1 : List Loc), va_P E.1 vwCl (wb E ad (sV S (27) x) ++ X) H1 → va_S A H0 H1 locs1 → W p l e R s m args below meth c H1 locs1 cells slots Q (F0 m (pc + 3) ls rest)) : W p l e R s m args below meth c H locs cells slots Q (F0 m pc ls (.int x :: .ref (ad 44) :: rest)) :=
  va_put hx hb hts i_H t_H t_H_ok n_H hown hK.1 hP (hD S) hS 44 rfl rfl 2 (by decide) (hts _ fl_H_18) (fun _ h => h) rfl (ty := .int) rfl rfl rfl (Nat.le_of_ble_eq_true rfl) hdg (fun H1 locs1 hP1 _ hS1 => kk H1 locs1 (hP1) hS1)
theorem g_H_t {p : Program} {l : Launch} {e : Env} {R : Room} {s : State} {m : MethodId} {args : Array Value} {below : List Frame} {meth : Method} {c : Code} {H : Heap} {locs : List Loc} {cells slots : Nat} {Q : State → Prop} {cc : ByteArray} {pc : Nat} {ls : Array Slot} {rest : List Value} {E : Cx} {ad : Nat → Nat} {S : St} {X : va_W} (hx : p.tables.exec = Jvm.exec) (hb : c.code = cc) (hts : ∀ w ∈ TB, w.before args s = true) (hown : s.vm.findClass R_H = some m.cls) (hK : KK E s) (hP : va_P E.1 vwCl (wb E ad S ++ X) H) (hdg : decode cc pc = .ok (.getfield 21, 3)) (kk : W p l e R s m args below meth c H locs cells slots Q (F0 m (pc + 3) ls (.int (S.1 28) :: rest))) : W p l e R s m args below meth c H locs cells slots Q (F0 m pc ls (.ref (ad 44) :: rest)) :=
  va_get hx hb hts i_H hown hK.1 hP 44 rfl rfl 3 (by decide) (hts _ fl_H_21) (fun _ h => h) rfl hdg kk
theorem p_H_t {p : Program} {l : Launch} {e : Env} {R : Room} {s : State} {m : MethodId} {args : Array Value} {below : List Frame} {meth : Method} {c : Code} {H : Heap} {locs : List Loc} {cells slots : Nat} {Q : State → Prop} {cc : ByteArray} {pc : Nat} {ls : Array Slot} {rest : List Value} {E : Cx} {ad : Nat → Nat} {S : St} {X : va_W} {A : Nat → Prop} {H0 : Heap} {x : Int32} (hx : p.tables.exec = Jvm.exec) (hb : c.code = cc) (hts : ∀ w ∈ TB, w.before args s = true) (hown : s.vm.findClass R_H = some m.cls) (hK : KK E s) (hP : va_P E.1 vwCl (wb E ad S ++ X) H) (hD : ∀ S' : St, va_D A (wb E ad S' ++ X)) (hS : va_S A H0 H locs) (hdg : decode cc pc = .ok (.putfield 21, 3)) (kk : ∀ (H1 : Heap) (locs1 : List Loc), va_P E.1 vwCl (wb E ad (sV S (28) x) ++ X) H1 → va_S A H0 H1 locs1 → W p l e R s m args below meth c H1 locs1 cells slots Q (F0 m (pc + 3) ls rest)) : W p l e R s m args below meth c H locs cells slots Q (F0 m pc ls (.int x :: .ref (ad 44) :: rest)) :=
  va_put hx hb hts i_H t_H t_H_ok n_H hown hK.1 hP (hD S) hS 44 rfl rfl 3 (by decide) (hts _ fl_H_21) (fun _ h => h) rfl (ty := .int) rfl rfl rfl (Nat.le_of_ble_eq_true rfl) hdg (fun H1 locs1 hP1 _ hS1 => kk H1 locs1 (hP1) hS1)
theorem g_H_found {p : Program} {l : Launch} {e : Env} {R : Room} {s : State} {m : MethodId} {args : Array Value} {below : List Frame} {meth : Method} {c : Code} {H : Heap} {locs : List Loc} {cells slots : Nat} {Q : State → Prop} {cc : ByteArray} {pc : Nat} {ls : Array Slot} {rest : List Value} {E : Cx} {ad : Nat → Nat} {S : St} {X : va_W} (hx : p.tables.exec = Jvm.exec) (hb : c.code = cc) (hts : ∀ w ∈ TB, w.before args s = true) (hown : s.vm.findClass R_H = some m.cls) (hK : KK E s) (hP : va_P E.1 vwCl (wb E ad S ++ X) H) (hdg : decode cc pc = .ok (.getfield 24, 3)) (kk : W p l e R s m args below meth c H locs cells slots Q (F0 m (pc + 3) ls (.int (S.1 29) :: rest))) : W p l e R s m args below meth c H locs cells slots Q (F0 m pc ls (.ref (ad 44) :: rest)) :=
  va_get hx hb hts i_H hown hK.1 hP 44 rfl rfl 4 (by decide) (hts _ fl_H_24) (fun _ h => h) rfl hdg kk
theorem p_H_found {p : Program} {l : Launch} {e : Env} {R : Room} {s : State} {m : MethodId} {args : Array Value} {below : List Frame} {meth : Method} {c : Code} {H : Heap} {locs : List Loc} {cells slots : Nat} {Q : State → Prop} {cc : ByteArray} {pc : Nat} {ls : Array Slot} {rest : List Value} {E : Cx} {ad : Nat → Nat} {S : St} {X : va_W} {A : Nat → Prop} {H0 : Heap} {x : Int32} (hx : p.tables.exec = Jvm.exec) (hb : c.code = cc) (hts : ∀ w ∈ TB, w.before args s = true) (hown : s.vm.findClass R_H = some m.cls) (hK : KK E s) (hP : va_P E.1 vwCl (wb E ad S ++ X) H) (hD : ∀ S' : St, va_D A (wb E ad S' ++ X)) (hS : va_S A H0 H locs) (hdg : decode cc pc = .ok (.putfield 24, 3)) (kk : ∀ (H1 : Heap) (locs1 : List Loc), va_P E.1 vwCl (wb E ad (sV S (29) x) ++ X) H1 → va_S A H0 H1 locs1 → W p l e R s m args below meth c H1 locs1 cells slots Q (F0 m (pc + 3) ls rest)) : W p l e R s m args below meth c H locs cells slots Q (F0 m pc ls (.int x :: .ref (ad 44) :: rest)) :=
  va_put hx hb hts i_H t_H t_H_ok n_H hown hK.1 hP (hD S) hS 44 rfl rfl 4 (by decide) (hts _ fl_H_24) (fun _ h => h) rfl (ty := .int) rfl rfl rfl (Nat.le_of_ble_eq_true rfl) hdg (fun H1 locs1 hP1 _ hS1 => kk H1 locs1 (hP1) hS1)
theorem g_H_sun {p : Program} {l : Launch} {e : Env} {R : Room} {s : State} {m : MethodId} {args : Array Value} {below : List Frame} {meth : Method} {c : Code} {H : Heap} {locs : List Loc} {cells slots : Nat} {Q : State → Prop} {cc : ByteArray} {pc : Nat} {ls : Array Slot} {rest : List Value} {E : Cx} {ad : Nat → Nat} {S : St} {X : va_W} (hx : p.tables.exec = Jvm.exec) (hb : c.code = cc) (hts : ∀ w ∈ TB, w.before args s = true) (hown : s.vm.findClass R_H = some m.cls) (hK : KK E s) (hP : va_P E.1 vwCl (wb E ad S ++ X) H) (hdg : decode cc pc = .ok (.getfield 27, 3)) (kk : W p l e R s m args below meth c H locs cells slots Q (F0 m (pc + 3) ls (.int (S.1 30) :: rest))) : W p l e R s m args below meth c H locs cells slots Q (F0 m pc ls (.ref (ad 44) :: rest)) :=
  va_get hx hb hts i_H hown hK.1 hP 44 rfl rfl 5 (by decide) (hts _ fl_H_27) (fun _ h => h) rfl hdg kk
theorem p_H_sun {p : Program} {l : Launch} {e : Env} {R : Room} {s : State} {m : MethodId} {args : Array Value} {below : List Frame} {meth : Method} {c : Code} {H : Heap} {locs : List Loc} {cells slots : Nat} {Q : State → Prop} {cc : ByteArray} {pc : Nat} {ls : Array Slot} {rest : List Value} {E : Cx} {ad : Nat → Nat} {S : St} {X : va_W} {A : Nat → Prop} {H0 : Heap} {x : Int32} (hx : p.tables.exec = Jvm.exec) (hb : c.code = cc) (hts : ∀ w ∈ TB, w.before args s = true) (hown : s.vm.findClass R_H = some m.cls) (hK : KK E s) (hP : va_P E.1 vwCl (wb E ad S ++ X) H) (hD : ∀ S' : St, va_D A (wb E ad S' ++ X)) (hS : va_S A H0 H locs) (hdg : decode cc pc = .ok (.putfield 27, 3)) (kk : ∀ (H1 : Heap) (locs1 : List Loc), va_P E.1 vwCl (wb E ad (sV S (30) x) ++ X) H1 → va_S A H0 H1 locs1 → W p l e R s m args below meth c H1 locs1 cells slots Q (F0 m (pc + 3) ls rest)) : W p l e R s m args below meth c H locs cells slots Q (F0 m pc ls (.int x :: .ref (ad 44) :: rest)) :=
  va_put hx hb hts i_H t_H t_H_ok n_H hown hK.1 hP (hD S) hS 44 rfl rfl 5 (by decide) (hts _ fl_H_27) (fun _ h => h) rfl (ty := .int) rfl rfl rfl (Nat.le_of_ble_eq_true rfl) hdg (fun H1 locs1 hP1 _ hS1 => kk H1 locs1 (hP1) hS1)
theorem g_H_planet {p : Program} {l : Launch} {e : Env} {R : Room} {s : State} {m : MethodId} {args : Array Value} {below : List Frame} {meth : Method} {c : Code} {H : Heap} {locs : List Loc} {cells slots : Nat} {Q : State → Prop} {cc : ByteArray} {pc : Nat} {ls : Array Slot} {rest : List Value} {E : Cx} {ad : Nat → Nat} {S : St} {X : va_W} (hx : p.tables.exec = Jvm.exec) (hb : c.code = cc) (hts : ∀ w ∈ TB, w.before args s = true) (hown : s.vm.findClass R_H = some m.cls) (hK : KK E s) (hP : va_P E.1 vwCl (wb E ad S ++ X) H) (hdg : decode cc pc = .ok (.getfield 30, 3)) (kk : W p l e R s m args below meth c H locs cells slots Q (F0 m (pc + 3) ls (.int (S.1 31) :: rest))) : W p l e R s m args below meth c H locs cells slots Q (F0 m pc ls (.ref (ad 44) :: rest)) :=
  va_get hx hb hts i_H hown hK.1 hP 44 rfl rfl 6 (by decide) (hts _ fl_H_30) (fun _ h => h) rfl hdg kk
theorem p_H_planet {p : Program} {l : Launch} {e : Env} {R : Room} {s : State} {m : MethodId} {args : Array Value} {below : List Frame} {meth : Method} {c : Code} {H : Heap} {locs : List Loc} {cells slots : Nat} {Q : State → Prop} {cc : ByteArray} {pc : Nat} {ls : Array Slot} {rest : List Value} {E : Cx} {ad : Nat → Nat} {S : St} {X : va_W} {A : Nat → Prop} {H0 : Heap} {x : Int32} (hx : p.tables.exec = Jvm.exec) (hb : c.code = cc) (hts : ∀ w ∈ TB, w.before args s = true) (hown : s.vm.findClass R_H = some m.cls) (hK : KK E s) (hP : va_P E.1 vwCl (wb E ad S ++ X) H) (hD : ∀ S' : St, va_D A (wb E ad S' ++ X)) (hS : va_S A H0 H locs) (hdg : decode cc pc = .ok (.putfield 30, 3)) (kk : ∀ (H1 : Heap) (locs1 : List Loc), va_P E.1 vwCl (wb E ad (sV S (31) x) ++ X) H1 → va_S A H0 H1 locs1 → W p l e R s m args below meth c H1 locs1 cells slots Q (F0 m (pc + 3) ls rest)) : W p l e R s m args below meth c H locs cells slots Q (F0 m pc ls (.int x :: .ref (ad 44) :: rest)) :=
  va_put hx hb hts i_H t_H t_H_ok n_H hown hK.1 hP (hD S) hS 44 rfl rfl 6 (by decide) (hts _ fl_H_30) (fun _ h => h) rfl (ty := .int) rfl rfl rfl (Nat.le_of_ble_eq_true rfl) hdg (fun H1 locs1 hP1 _ hS1 => kk H1 locs1 (hP1) hS1)
theorem g_M_g {p : Program} {l : Launch} {e : Env} {R : Room} {s : State} {m : MethodId} {args : Array Value} {below : List Frame} {meth : Method} {c : Code} {H : Heap} {locs : List Loc} {cells slots : Nat} {Q : State → Prop} {cc : ByteArray} {pc : Nat} {ls : Array Slot} {rest : List Value} {E : Cx} {ad : Nat → Nat} {S : St} {X : va_W} (hx : p.tables.exec = Jvm.exec) (hb : c.code = cc) (hts : ∀ w ∈ TB, w.before args s = true) (hown : s.vm.findClass R_M = some m.cls) (hK : KK E s) (hP : va_P E.1 vwCl (wm E ad S ++ X) H) (hdg : decode cc pc = .ok (.getfield 11, 3)) (kk : W p l e R s m args below meth c H locs cells slots Q (F0 m (pc + 3) ls (.ref (ad 1) :: rest))) : W p l e R s m args below meth c H locs cells slots Q (F0 m pc ls (.ref (ad 0) :: rest)) :=
  va_get hx hb hts i_M hown hK.1 hP 0 rfl rfl 0 (by decide) (hts _ fl_M_11) (fun _ h => h) rfl hdg kk
theorem g_M_kept {p : Program} {l : Launch} {e : Env} {R : Room} {s : State} {m : MethodId} {args : Array Value} {below : List Frame} {meth : Method} {c : Code} {H : Heap} {locs : List Loc} {cells slots : Nat} {Q : State → Prop} {cc : ByteArray} {pc : Nat} {ls : Array Slot} {rest : List Value} {E : Cx} {ad : Nat → Nat} {S : St} {X : va_W} (hx : p.tables.exec = Jvm.exec) (hb : c.code = cc) (hts : ∀ w ∈ TB, w.before args s = true) (hown : s.vm.findClass R_M = some m.cls) (hK : KK E s) (hP : va_P E.1 vwCl (wm E ad S ++ X) H) (hdg : decode cc pc = .ok (.getfield 15, 3)) (kk : W p l e R s m args below meth c H locs cells slots Q (F0 m (pc + 3) ls (.ref (ad 2) :: rest))) : W p l e R s m args below meth c H locs cells slots Q (F0 m pc ls (.ref (ad 0) :: rest)) :=
  va_get hx hb hts i_M hown hK.1 hP 0 rfl rfl 1 (by decide) (hts _ fl_M_15) (fun _ h => h) rfl hdg kk
theorem g_M_ahead {p : Program} {l : Launch} {e : Env} {R : Room} {s : State} {m : MethodId} {args : Array Value} {below : List Frame} {meth : Method} {c : Code} {H : Heap} {locs : List Loc} {cells slots : Nat} {Q : State → Prop} {cc : ByteArray} {pc : Nat} {ls : Array Slot} {rest : List Value} {E : Cx} {ad : Nat → Nat} {S : St} {X : va_W} (hx : p.tables.exec = Jvm.exec) (hb : c.code = cc) (hts : ∀ w ∈ TB, w.before args s = true) (hown : s.vm.findClass R_M = some m.cls) (hK : KK E s) (hP : va_P E.1 vwCl (wm E ad S ++ X) H) (hdg : decode cc pc = .ok (.getfield 18, 3)) (kk : W p l e R s m args below meth c H locs cells slots Q (F0 m (pc + 3) ls (.ref (ad 3) :: rest))) : W p l e R s m args below meth c H locs cells slots Q (F0 m pc ls (.ref (ad 0) :: rest)) :=
  va_get hx hb hts i_M hown hK.1 hP 0 rfl rfl 2 (by decide) (hts _ fl_M_18) (fun _ h => h) rfl hdg kk
theorem g_M_squares {p : Program} {l : Launch} {e : Env} {R : Room} {s : State} {m : MethodId} {args : Array Value} {below : List Frame} {meth : Method} {c : Code} {H : Heap} {locs : List Loc} {cells slots : Nat} {Q : State → Prop} {cc : ByteArray} {pc : Nat} {ls : Array Slot} {rest : List Value} {E : Cx} {ad : Nat → Nat} {S : St} {X : va_W} (hx : p.tables.exec = Jvm.exec) (hb : c.code = cc) (hts : ∀ w ∈ TB, w.before args s = true) (hown : s.vm.findClass R_M = some m.cls) (hK : KK E s) (hP : va_P E.1 vwCl (wm E ad S ++ X) H) (hdg : decode cc pc = .ok (.getfield 21, 3)) (kk : W p l e R s m args below meth c H locs cells slots Q (F0 m (pc + 3) ls (.ref (ad 4) :: rest))) : W p l e R s m args below meth c H locs cells slots Q (F0 m pc ls (.ref (ad 0) :: rest)) :=
  va_get hx hb hts i_M hown hK.1 hP 0 rfl rfl 3 (by decide) (hts _ fl_M_21) (fun _ h => h) rfl hdg kk
theorem g_M_sines {p : Program} {l : Launch} {e : Env} {R : Room} {s : State} {m : MethodId} {args : Array Value} {below : List Frame} {meth : Method} {c : Code} {H : Heap} {locs : List Loc} {cells slots : Nat} {Q : State → Prop} {cc : ByteArray} {pc : Nat} {ls : Array Slot} {rest : List Value} {E : Cx} {ad : Nat → Nat} {S : St} {X : va_W} (hx : p.tables.exec = Jvm.exec) (hb : c.code = cc) (hts : ∀ w ∈ TB, w.before args s = true) (hown : s.vm.findClass R_M = some m.cls) (hK : KK E s) (hP : va_P E.1 vwCl (wm E ad S ++ X) H) (hdg : decode cc pc = .ok (.getfield 24, 3)) (kk : W p l e R s m args below meth c H locs cells slots Q (F0 m (pc + 3) ls (.ref (ad 5) :: rest))) : W p l e R s m args below meth c H locs cells slots Q (F0 m pc ls (.ref (ad 0) :: rest)) :=
  va_get hx hb hts i_M hown hK.1 hP 0 rfl rfl 4 (by decide) (hts _ fl_M_24) (fun _ h => h) rfl hdg kk
theorem g_M_isKept {p : Program} {l : Launch} {e : Env} {R : Room} {s : State} {m : MethodId} {args : Array Value} {below : List Frame} {meth : Method} {c : Code} {H : Heap} {locs : List Loc} {cells slots : Nat} {Q : State → Prop} {cc : ByteArray} {pc : Nat} {ls : Array Slot} {rest : List Value} {E : Cx} {ad : Nat → Nat} {S : St} {X : va_W} (hx : p.tables.exec = Jvm.exec) (hb : c.code = cc) (hts : ∀ w ∈ TB, w.before args s = true) (hown : s.vm.findClass R_M = some m.cls) (hK : KK E s) (hP : va_P E.1 vwCl (wm E ad S ++ X) H) (hdg : decode cc pc = .ok (.getfield 267, 3)) (kk : W p l e R s m args below meth c H locs cells slots Q (F0 m (pc + 3) ls (.int (S.1 0) :: rest))) : W p l e R s m args below meth c H locs cells slots Q (F0 m pc ls (.ref (ad 0) :: rest)) :=
  va_get hx hb hts i_M hown hK.1 hP 0 rfl rfl 5 (by decide) (hts _ fl_M_267) (fun _ h => h) rfl hdg kk
theorem p_M_isKept {p : Program} {l : Launch} {e : Env} {R : Room} {s : State} {m : MethodId} {args : Array Value} {below : List Frame} {meth : Method} {c : Code} {H : Heap} {locs : List Loc} {cells slots : Nat} {Q : State → Prop} {cc : ByteArray} {pc : Nat} {ls : Array Slot} {rest : List Value} {E : Cx} {ad : Nat → Nat} {S : St} {X : va_W} {A : Nat → Prop} {H0 : Heap} {x : Int32} (hx : p.tables.exec = Jvm.exec) (hb : c.code = cc) (hts : ∀ w ∈ TB, w.before args s = true) (hown : s.vm.findClass R_M = some m.cls) (hK : KK E s) (hP : va_P E.1 vwCl (wm E ad S ++ X) H) (hD : ∀ S' : St, va_D A (wm E ad S' ++ X)) (hS : va_S A H0 H locs) (hn : x = 0 ∨ x = 1) (hdg : decode cc pc = .ok (.putfield 267, 3)) (kk : ∀ (H1 : Heap) (locs1 : List Loc), va_P E.1 vwCl (wm E ad (sV S (0) x) ++ X) H1 → va_S A H0 H1 locs1 → W p l e R s m args below meth c H1 locs1 cells slots Q (F0 m (pc + 3) ls rest)) : W p l e R s m args below meth c H locs cells slots Q (F0 m pc ls (.int x :: .ref (ad 0) :: rest)) :=
  va_put hx hb hts i_M t_M t_M_ok n_M hown hK.1 hP (hD S) hS 0 rfl rfl 5 (by decide) (hts _ fl_M_267) (fun _ h => h) rfl (ty := .boolean) rfl (k_nb hn) (by rcases hn with rfl | rfl <;> rfl) (Nat.le_of_ble_eq_true rfl) hdg (fun H1 locs1 hP1 _ hS1 => kk H1 locs1 (hP1) hS1)
theorem g_M_above {p : Program} {l : Launch} {e : Env} {R : Room} {s : State} {m : MethodId} {args : Array Value} {below : List Frame} {meth : Method} {c : Code} {H : Heap} {locs : List Loc} {cells slots : Nat} {Q : State → Prop} {cc : ByteArray} {pc : Nat} {ls : Array Slot} {rest : List Value} {E : Cx} {ad : Nat → Nat} {S : St} {X : va_W} (hx : p.tables.exec = Jvm.exec) (hb : c.code = cc) (hts : ∀ w ∈ TB, w.before args s = true) (hown : s.vm.findClass R_M = some m.cls) (hK : KK E s) (hP : va_P E.1 vwCl (wm E ad S ++ X) H) (hdg : decode cc pc = .ok (.getfield 107, 3)) (kk : W p l e R s m args below meth c H locs cells slots Q (F0 m (pc + 3) ls (.long (S.2.2 1 0) :: rest))) : W p l e R s m args below meth c H locs cells slots Q (F0 m pc ls (.ref (ad 0) :: rest)) :=
  va_get hx hb hts i_M hown hK.1 hP 0 rfl rfl 6 (by decide) (hts _ fl_M_107) (fun _ h => h) rfl hdg kk
theorem p_M_above {p : Program} {l : Launch} {e : Env} {R : Room} {s : State} {m : MethodId} {args : Array Value} {below : List Frame} {meth : Method} {c : Code} {H : Heap} {locs : List Loc} {cells slots : Nat} {Q : State → Prop} {cc : ByteArray} {pc : Nat} {ls : Array Slot} {rest : List Value} {E : Cx} {ad : Nat → Nat} {S : St} {X : va_W} {A : Nat → Prop} {H0 : Heap} {x : Int64} (hx : p.tables.exec = Jvm.exec) (hb : c.code = cc) (hts : ∀ w ∈ TB, w.before args s = true) (hown : s.vm.findClass R_M = some m.cls) (hK : KK E s) (hP : va_P E.1 vwCl (wm E ad S ++ X) H) (hD : ∀ S' : St, va_D A (wm E ad S' ++ X)) (hS : va_S A H0 H locs) (hdg : decode cc pc = .ok (.putfield 107, 3)) (kk : ∀ (H1 : Heap) (locs1 : List Loc), va_P E.1 vwCl (wm E ad (sL S 1 0 x) ++ X) H1 → va_S A H0 H1 locs1 → W p l e R s m args below meth c H1 locs1 cells slots Q (F0 m (pc + 3) ls rest)) : W p l e R s m args below meth c H locs cells slots Q (F0 m pc ls (.long x :: .ref (ad 0) :: rest)) :=
  va_put hx hb hts i_M t_M t_M_ok n_M hown hK.1 hP (hD S) hS 0 rfl rfl 6 (by decide) (hts _ fl_M_107) (fun _ h => h) rfl (ty := .long) rfl rfl rfl (Nat.le_of_ble_eq_true rfl) hdg (fun H1 locs1 hP1 _ hS1 => kk H1 locs1 (hP1) hS1)
theorem g_M_below {p : Program} {l : Launch} {e : Env} {R : Room} {s : State} {m : MethodId} {args : Array Value} {below : List Frame} {meth : Method} {c : Code} {H : Heap} {locs : List Loc} {cells slots : Nat} {Q : State → Prop} {cc : ByteArray} {pc : Nat} {ls : Array Slot} {rest : List Value} {E : Cx} {ad : Nat → Nat} {S : St} {X : va_W} (hx : p.tables.exec = Jvm.exec) (hb : c.code = cc) (hts : ∀ w ∈ TB, w.before args s = true) (hown : s.vm.findClass R_M = some m.cls) (hK : KK E s) (hP : va_P E.1 vwCl (wm E ad S ++ X) H) (hdg : decode cc pc = .ok (.getfield 111, 3)) (kk : W p l e R s m args below meth c H locs cells slots Q (F0 m (pc + 3) ls (.long (S.2.2 1 1) :: rest))) : W p l e R s m args below meth c H locs cells slots Q (F0 m pc ls (.ref (ad 0) :: rest)) :=
  va_get hx hb hts i_M hown hK.1 hP 0 rfl rfl 7 (by decide) (hts _ fl_M_111) (fun _ h => h) rfl hdg kk
theorem p_M_below {p : Program} {l : Launch} {e : Env} {R : Room} {s : State} {m : MethodId} {args : Array Value} {below : List Frame} {meth : Method} {c : Code} {H : Heap} {locs : List Loc} {cells slots : Nat} {Q : State → Prop} {cc : ByteArray} {pc : Nat} {ls : Array Slot} {rest : List Value} {E : Cx} {ad : Nat → Nat} {S : St} {X : va_W} {A : Nat → Prop} {H0 : Heap} {x : Int64} (hx : p.tables.exec = Jvm.exec) (hb : c.code = cc) (hts : ∀ w ∈ TB, w.before args s = true) (hown : s.vm.findClass R_M = some m.cls) (hK : KK E s) (hP : va_P E.1 vwCl (wm E ad S ++ X) H) (hD : ∀ S' : St, va_D A (wm E ad S' ++ X)) (hS : va_S A H0 H locs) (hdg : decode cc pc = .ok (.putfield 111, 3)) (kk : ∀ (H1 : Heap) (locs1 : List Loc), va_P E.1 vwCl (wm E ad (sL S 1 1 x) ++ X) H1 → va_S A H0 H1 locs1 → W p l e R s m args below meth c H1 locs1 cells slots Q (F0 m (pc + 3) ls rest)) : W p l e R s m args below meth c H locs cells slots Q (F0 m pc ls (.long x :: .ref (ad 0) :: rest)) :=
  va_put hx hb hts i_M t_M t_M_ok n_M hown hK.1 hP (hD S) hS 0 rfl rfl 7 (by decide) (hts _ fl_M_111) (fun _ h => h) rfl (ty := .long) rfl rfl rfl (Nat.le_of_ble_eq_true rfl) hdg (fun H1 locs1 hP1 _ hS1 => kk H1 locs1 (hP1) hS1)
theorem g_M_searchedMany {p : Program} {l : Launch} {e : Env} {R : Room} {s : State} {m : MethodId} {args : Array Value} {below : List Frame} {meth : Method} {c : Code} {H : Heap} {locs : List Loc} {cells slots : Nat} {Q : State → Prop} {cc : ByteArray} {pc : Nat} {ls : Array Slot} {rest : List Value} {E : Cx} {ad : Nat → Nat} {S : St} {X : va_W} (hx : p.tables.exec = Jvm.exec) (hb : c.code = cc) (hts : ∀ w ∈ TB, w.before args s = true) (hown : s.vm.findClass R_M = some m.cls) (hK : KK E s) (hP : va_P E.1 vwCl (wm E ad S ++ X) H) (hdg : decode cc pc = .ok (.getfield 175, 3)) (kk : W p l e R s m args below meth c H locs cells slots Q (F0 m (pc + 3) ls (.int (S.1 1) :: rest))) : W p l e R s m args below meth c H locs cells slots Q (F0 m pc ls (.ref (ad 0) :: rest)) :=
  va_get hx hb hts i_M hown hK.1 hP 0 rfl rfl 8 (by decide) (hts _ fl_M_175) (fun _ h => h) rfl hdg kk
theorem p_M_searchedMany {p : Program} {l : Launch} {e : Env} {R : Room} {s : State} {m : MethodId} {args : Array Value} {below : List Frame} {meth : Method} {c : Code} {H : Heap} {locs : List Loc} {cells slots : Nat} {Q : State → Prop} {cc : ByteArray} {pc : Nat} {ls : Array Slot} {rest : List Value} {E : Cx} {ad : Nat → Nat} {S : St} {X : va_W} {A : Nat → Prop} {H0 : Heap} {x : Int32} (hx : p.tables.exec = Jvm.exec) (hb : c.code = cc) (hts : ∀ w ∈ TB, w.before args s = true) (hown : s.vm.findClass R_M = some m.cls) (hK : KK E s) (hP : va_P E.1 vwCl (wm E ad S ++ X) H) (hD : ∀ S' : St, va_D A (wm E ad S' ++ X)) (hS : va_S A H0 H locs) (hdg : decode cc pc = .ok (.putfield 175, 3)) (kk : ∀ (H1 : Heap) (locs1 : List Loc), va_P E.1 vwCl (wm E ad (sV S (1) x) ++ X) H1 → va_S A H0 H1 locs1 → W p l e R s m args below meth c H1 locs1 cells slots Q (F0 m (pc + 3) ls rest)) : W p l e R s m args below meth c H locs cells slots Q (F0 m pc ls (.int x :: .ref (ad 0) :: rest)) :=
  va_put hx hb hts i_M t_M t_M_ok n_M hown hK.1 hP (hD S) hS 0 rfl rfl 8 (by decide) (hts _ fl_M_175) (fun _ h => h) rfl (ty := .int) rfl rfl rfl (Nat.le_of_ble_eq_true rfl) hdg (fun H1 locs1 hP1 _ hS1 => kk H1 locs1 (hP1) hS1)
theorem g_M_bestSun {p : Program} {l : Launch} {e : Env} {R : Room} {s : State} {m : MethodId} {args : Array Value} {below : List Frame} {meth : Method} {c : Code} {H : Heap} {locs : List Loc} {cells slots : Nat} {Q : State → Prop} {cc : ByteArray} {pc : Nat} {ls : Array Slot} {rest : List Value} {E : Cx} {ad : Nat → Nat} {S : St} {X : va_W} (hx : p.tables.exec = Jvm.exec) (hb : c.code = cc) (hts : ∀ w ∈ TB, w.before args s = true) (hown : s.vm.findClass R_M = some m.cls) (hK : KK E s) (hP : va_P E.1 vwCl (wm E ad S ++ X) H) (hdg : decode cc pc = .ok (.getfield 189, 3)) (kk : W p l e R s m args below meth c H locs cells slots Q (F0 m (pc + 3) ls (.int (S.1 2) :: rest))) : W p l e R s m args below meth c H locs cells slots Q (F0 m pc ls (.ref (ad 0) :: rest)) :=
  va_get hx hb hts i_M hown hK.1 hP 0 rfl rfl 9 (by decide) (hts _ fl_M_189) (fun _ h => h) rfl hdg kk
theorem p_M_bestSun {p : Program} {l : Launch} {e : Env} {R : Room} {s : State} {m : MethodId} {args : Array Value} {below : List Frame} {meth : Method} {c : Code} {H : Heap} {locs : List Loc} {cells slots : Nat} {Q : State → Prop} {cc : ByteArray} {pc : Nat} {ls : Array Slot} {rest : List Value} {E : Cx} {ad : Nat → Nat} {S : St} {X : va_W} {A : Nat → Prop} {H0 : Heap} {x : Int32} (hx : p.tables.exec = Jvm.exec) (hb : c.code = cc) (hts : ∀ w ∈ TB, w.before args s = true) (hown : s.vm.findClass R_M = some m.cls) (hK : KK E s) (hP : va_P E.1 vwCl (wm E ad S ++ X) H) (hD : ∀ S' : St, va_D A (wm E ad S' ++ X)) (hS : va_S A H0 H locs) (hdg : decode cc pc = .ok (.putfield 189, 3)) (kk : ∀ (H1 : Heap) (locs1 : List Loc), va_P E.1 vwCl (wm E ad (sV S (2) x) ++ X) H1 → va_S A H0 H1 locs1 → W p l e R s m args below meth c H1 locs1 cells slots Q (F0 m (pc + 3) ls rest)) : W p l e R s m args below meth c H locs cells slots Q (F0 m pc ls (.int x :: .ref (ad 0) :: rest)) :=
  va_put hx hb hts i_M t_M t_M_ok n_M hown hK.1 hP (hD S) hS 0 rfl rfl 9 (by decide) (hts _ fl_M_189) (fun _ h => h) rfl (ty := .int) rfl rfl rfl (Nat.le_of_ble_eq_true rfl) hdg (fun H1 locs1 hP1 _ hS1 => kk H1 locs1 (hP1) hS1)
theorem g_M_bestPlanet {p : Program} {l : Launch} {e : Env} {R : Room} {s : State} {m : MethodId} {args : Array Value} {below : List Frame} {meth : Method} {c : Code} {H : Heap} {locs : List Loc} {cells slots : Nat} {Q : State → Prop} {cc : ByteArray} {pc : Nat} {ls : Array Slot} {rest : List Value} {E : Cx} {ad : Nat → Nat} {S : St} {X : va_W} (hx : p.tables.exec = Jvm.exec) (hb : c.code = cc) (hts : ∀ w ∈ TB, w.before args s = true) (hown : s.vm.findClass R_M = some m.cls) (hK : KK E s) (hP : va_P E.1 vwCl (wm E ad S ++ X) H) (hdg : decode cc pc = .ok (.getfield 192, 3)) (kk : W p l e R s m args below meth c H locs cells slots Q (F0 m (pc + 3) ls (.int (S.1 3) :: rest))) : W p l e R s m args below meth c H locs cells slots Q (F0 m pc ls (.ref (ad 0) :: rest)) :=
  va_get hx hb hts i_M hown hK.1 hP 0 rfl rfl 10 (by decide) (hts _ fl_M_192) (fun _ h => h) rfl hdg kk
theorem p_M_bestPlanet {p : Program} {l : Launch} {e : Env} {R : Room} {s : State} {m : MethodId} {args : Array Value} {below : List Frame} {meth : Method} {c : Code} {H : Heap} {locs : List Loc} {cells slots : Nat} {Q : State → Prop} {cc : ByteArray} {pc : Nat} {ls : Array Slot} {rest : List Value} {E : Cx} {ad : Nat → Nat} {S : St} {X : va_W} {A : Nat → Prop} {H0 : Heap} {x : Int32} (hx : p.tables.exec = Jvm.exec) (hb : c.code = cc) (hts : ∀ w ∈ TB, w.before args s = true) (hown : s.vm.findClass R_M = some m.cls) (hK : KK E s) (hP : va_P E.1 vwCl (wm E ad S ++ X) H) (hD : ∀ S' : St, va_D A (wm E ad S' ++ X)) (hS : va_S A H0 H locs) (hdg : decode cc pc = .ok (.putfield 192, 3)) (kk : ∀ (H1 : Heap) (locs1 : List Loc), va_P E.1 vwCl (wm E ad (sV S (3) x) ++ X) H1 → va_S A H0 H1 locs1 → W p l e R s m args below meth c H1 locs1 cells slots Q (F0 m (pc + 3) ls rest)) : W p l e R s m args below meth c H locs cells slots Q (F0 m pc ls (.int x :: .ref (ad 0) :: rest)) :=
  va_put hx hb hts i_M t_M t_M_ok n_M hown hK.1 hP (hD S) hS 0 rfl rfl 10 (by decide) (hts _ fl_M_192) (fun _ h => h) rfl (ty := .int) rfl rfl rfl (Nat.le_of_ble_eq_true rfl) hdg (fun H1 locs1 hP1 _ hS1 => kk H1 locs1 (hP1) hS1)
theorem g_M_tape {p : Program} {l : Launch} {e : Env} {R : Room} {s : State} {m : MethodId} {args : Array Value} {below : List Frame} {meth : Method} {c : Code} {H : Heap} {locs : List Loc} {cells slots : Nat} {Q : State → Prop} {cc : ByteArray} {pc : Nat} {ls : Array Slot} {rest : List Value} {E : Cx} {ad : Nat → Nat} {S : St} {X : va_W} (hx : p.tables.exec = Jvm.exec) (hb : c.code = cc) (hts : ∀ w ∈ TB, w.before args s = true) (hown : s.vm.findClass R_M = some m.cls) (hK : KK E s) (hP : va_P E.1 vwCl (wm E ad S ++ X) H) (hdg : decode cc pc = .ok (.getfield 27, 3)) (kk : W p l e R s m args below meth c H locs cells slots Q (F0 m (pc + 3) ls (.ref (ad 6) :: rest))) : W p l e R s m args below meth c H locs cells slots Q (F0 m pc ls (.ref (ad 0) :: rest)) :=
  va_get hx hb hts i_M hown hK.1 hP 0 rfl rfl 11 (by decide) (hts _ fl_M_27) (fun _ h => h) rfl hdg kk
theorem g_M_letters {p : Program} {l : Launch} {e : Env} {R : Room} {s : State} {m : MethodId} {args : Array Value} {below : List Frame} {meth : Method} {c : Code} {H : Heap} {locs : List Loc} {cells slots : Nat} {Q : State → Prop} {cc : ByteArray} {pc : Nat} {ls : Array Slot} {rest : List Value} {E : Cx} {ad : Nat → Nat} {S : St} {X : va_W} (hx : p.tables.exec = Jvm.exec) (hb : c.code = cc) (hts : ∀ w ∈ TB, w.before args s = true) (hown : s.vm.findClass R_M = some m.cls) (hK : KK E s) (hP : va_P E.1 vwCl (wm E ad S ++ X) H) (hdg : decode cc pc = .ok (.getfield 30, 3)) (kk : W p l e R s m args below meth c H locs cells slots Q (F0 m (pc + 3) ls (.ref (ad 7) :: rest))) : W p l e R s m args below meth c H locs cells slots Q (F0 m pc ls (.ref (ad 0) :: rest)) :=
  va_get hx hb hts i_M hown hK.1 hP 0 rfl rfl 12 (by decide) (hts _ fl_M_30) (fun _ h => h) rfl hdg kk
theorem g_M_firsts {p : Program} {l : Launch} {e : Env} {R : Room} {s : State} {m : MethodId} {args : Array Value} {below : List Frame} {meth : Method} {c : Code} {H : Heap} {locs : List Loc} {cells slots : Nat} {Q : State → Prop} {cc : ByteArray} {pc : Nat} {ls : Array Slot} {rest : List Value} {E : Cx} {ad : Nat → Nat} {S : St} {X : va_W} (hx : p.tables.exec = Jvm.exec) (hb : c.code = cc) (hts : ∀ w ∈ TB, w.before args s = true) (hown : s.vm.findClass R_M = some m.cls) (hK : KK E s) (hP : va_P E.1 vwCl (wm E ad S ++ X) H) (hdg : decode cc pc = .ok (.getfield 33, 3)) (kk : W p l e R s m args below meth c H locs cells slots Q (F0 m (pc + 3) ls (.ref (ad 8) :: rest))) : W p l e R s m args below meth c H locs cells slots Q (F0 m pc ls (.ref (ad 0) :: rest)) :=
  va_get hx hb hts i_M hown hK.1 hP 0 rfl rfl 13 (by decide) (hts _ fl_M_33) (fun _ h => h) rfl hdg kk
theorem g_M_seconds {p : Program} {l : Launch} {e : Env} {R : Room} {s : State} {m : MethodId} {args : Array Value} {below : List Frame} {meth : Method} {c : Code} {H : Heap} {locs : List Loc} {cells slots : Nat} {Q : State → Prop} {cc : ByteArray} {pc : Nat} {ls : Array Slot} {rest : List Value} {E : Cx} {ad : Nat → Nat} {S : St} {X : va_W} (hx : p.tables.exec = Jvm.exec) (hb : c.code = cc) (hts : ∀ w ∈ TB, w.before args s = true) (hown : s.vm.findClass R_M = some m.cls) (hK : KK E s) (hP : va_P E.1 vwCl (wm E ad S ++ X) H) (hdg : decode cc pc = .ok (.getfield 36, 3)) (kk : W p l e R s m args below meth c H locs cells slots Q (F0 m (pc + 3) ls (.ref (ad 9) :: rest))) : W p l e R s m args below meth c H locs cells slots Q (F0 m pc ls (.ref (ad 0) :: rest)) :=
  va_get hx hb hts i_M hown hK.1 hP 0 rfl rfl 14 (by decide) (hts _ fl_M_36) (fun _ h => h) rfl hdg kk
theorem g_M_fed {p : Program} {l : Launch} {e : Env} {R : Room} {s : State} {m : MethodId} {args : Array Value} {below : List Frame} {meth : Method} {c : Code} {H : Heap} {locs : List Loc} {cells slots : Nat} {Q : State → Prop} {cc : ByteArray} {pc : Nat} {ls : Array Slot} {rest : List Value} {E : Cx} {ad : Nat → Nat} {S : St} {X : va_W} (hx : p.tables.exec = Jvm.exec) (hb : c.code = cc) (hts : ∀ w ∈ TB, w.before args s = true) (hown : s.vm.findClass R_M = some m.cls) (hK : KK E s) (hP : va_P E.1 vwCl (wm E ad S ++ X) H) (hdg : decode cc pc = .ok (.getfield 210, 3)) (kk : W p l e R s m args below meth c H locs cells slots Q (F0 m (pc + 3) ls (.int (S.1 4) :: rest))) : W p l e R s m args below meth c H locs cells slots Q (F0 m pc ls (.ref (ad 0) :: rest)) :=
  va_get hx hb hts i_M hown hK.1 hP 0 rfl rfl 15 (by decide) (hts _ fl_M_210) (fun _ h => h) rfl hdg kk
theorem p_M_fed {p : Program} {l : Launch} {e : Env} {R : Room} {s : State} {m : MethodId} {args : Array Value} {below : List Frame} {meth : Method} {c : Code} {H : Heap} {locs : List Loc} {cells slots : Nat} {Q : State → Prop} {cc : ByteArray} {pc : Nat} {ls : Array Slot} {rest : List Value} {E : Cx} {ad : Nat → Nat} {S : St} {X : va_W} {A : Nat → Prop} {H0 : Heap} {x : Int32} (hx : p.tables.exec = Jvm.exec) (hb : c.code = cc) (hts : ∀ w ∈ TB, w.before args s = true) (hown : s.vm.findClass R_M = some m.cls) (hK : KK E s) (hP : va_P E.1 vwCl (wm E ad S ++ X) H) (hD : ∀ S' : St, va_D A (wm E ad S' ++ X)) (hS : va_S A H0 H locs) (hdg : decode cc pc = .ok (.putfield 210, 3)) (kk : ∀ (H1 : Heap) (locs1 : List Loc), va_P E.1 vwCl (wm E ad (sV S (4) x) ++ X) H1 → va_S A H0 H1 locs1 → W p l e R s m args below meth c H1 locs1 cells slots Q (F0 m (pc + 3) ls rest)) : W p l e R s m args below meth c H locs cells slots Q (F0 m pc ls (.int x :: .ref (ad 0) :: rest)) :=
  va_put hx hb hts i_M t_M t_M_ok n_M hown hK.1 hP (hD S) hS 0 rfl rfl 15 (by decide) (hts _ fl_M_210) (fun _ h => h) rfl (ty := .int) rfl rfl rfl (Nat.le_of_ble_eq_true rfl) hdg (fun H1 locs1 hP1 _ hS1 => kk H1 locs1 (hP1) hS1)
theorem g_M_at {p : Program} {l : Launch} {e : Env} {R : Room} {s : State} {m : MethodId} {args : Array Value} {below : List Frame} {meth : Method} {c : Code} {H : Heap} {locs : List Loc} {cells slots : Nat} {Q : State → Prop} {cc : ByteArray} {pc : Nat} {ls : Array Slot} {rest : List Value} {E : Cx} {ad : Nat → Nat} {S : St} {X : va_W} (hx : p.tables.exec = Jvm.exec) (hb : c.code = cc) (hts : ∀ w ∈ TB, w.before args s = true) (hown : s.vm.findClass R_M = some m.cls) (hK : KK E s) (hP : va_P E.1 vwCl (wm E ad S ++ X) H) (hdg : decode cc pc = .ok (.getfield 213, 3)) (kk : W p l e R s m args below meth c H locs cells slots Q (F0 m (pc + 3) ls (.int (S.1 5) :: rest))) : W p l e R s m args below meth c H locs cells slots Q (F0 m pc ls (.ref (ad 0) :: rest)) :=
  va_get hx hb hts i_M hown hK.1 hP 0 rfl rfl 16 (by decide) (hts _ fl_M_213) (fun _ h => h) rfl hdg kk
theorem p_M_at {p : Program} {l : Launch} {e : Env} {R : Room} {s : State} {m : MethodId} {args : Array Value} {below : List Frame} {meth : Method} {c : Code} {H : Heap} {locs : List Loc} {cells slots : Nat} {Q : State → Prop} {cc : ByteArray} {pc : Nat} {ls : Array Slot} {rest : List Value} {E : Cx} {ad : Nat → Nat} {S : St} {X : va_W} {A : Nat → Prop} {H0 : Heap} {x : Int32} (hx : p.tables.exec = Jvm.exec) (hb : c.code = cc) (hts : ∀ w ∈ TB, w.before args s = true) (hown : s.vm.findClass R_M = some m.cls) (hK : KK E s) (hP : va_P E.1 vwCl (wm E ad S ++ X) H) (hD : ∀ S' : St, va_D A (wm E ad S' ++ X)) (hS : va_S A H0 H locs) (hdg : decode cc pc = .ok (.putfield 213, 3)) (kk : ∀ (H1 : Heap) (locs1 : List Loc), va_P E.1 vwCl (wm E ad (sV S (5) x) ++ X) H1 → va_S A H0 H1 locs1 → W p l e R s m args below meth c H1 locs1 cells slots Q (F0 m (pc + 3) ls rest)) : W p l e R s m args below meth c H locs cells slots Q (F0 m pc ls (.int x :: .ref (ad 0) :: rest)) :=
  va_put hx hb hts i_M t_M t_M_ok n_M hown hK.1 hP (hD S) hS 0 rfl rfl 16 (by decide) (hts _ fl_M_213) (fun _ h => h) rfl (ty := .int) rfl rfl rfl (Nat.le_of_ble_eq_true rfl) hdg (fun H1 locs1 hP1 _ hS1 => kk H1 locs1 (hP1) hS1)
theorem g_M_goes {p : Program} {l : Launch} {e : Env} {R : Room} {s : State} {m : MethodId} {args : Array Value} {below : List Frame} {meth : Method} {c : Code} {H : Heap} {locs : List Loc} {cells slots : Nat} {Q : State → Prop} {cc : ByteArray} {pc : Nat} {ls : Array Slot} {rest : List Value} {E : Cx} {ad : Nat → Nat} {S : St} {X : va_W} (hx : p.tables.exec = Jvm.exec) (hb : c.code = cc) (hts : ∀ w ∈ TB, w.before args s = true) (hown : s.vm.findClass R_M = some m.cls) (hK : KK E s) (hP : va_P E.1 vwCl (wm E ad S ++ X) H) (hdg : decode cc pc = .ok (.getfield 216, 3)) (kk : W p l e R s m args below meth c H locs cells slots Q (F0 m (pc + 3) ls (.int (S.1 6) :: rest))) : W p l e R s m args below meth c H locs cells slots Q (F0 m pc ls (.ref (ad 0) :: rest)) :=
  va_get hx hb hts i_M hown hK.1 hP 0 rfl rfl 17 (by decide) (hts _ fl_M_216) (fun _ h => h) rfl hdg kk
theorem p_M_goes {p : Program} {l : Launch} {e : Env} {R : Room} {s : State} {m : MethodId} {args : Array Value} {below : List Frame} {meth : Method} {c : Code} {H : Heap} {locs : List Loc} {cells slots : Nat} {Q : State → Prop} {cc : ByteArray} {pc : Nat} {ls : Array Slot} {rest : List Value} {E : Cx} {ad : Nat → Nat} {S : St} {X : va_W} {A : Nat → Prop} {H0 : Heap} {x : Int32} (hx : p.tables.exec = Jvm.exec) (hb : c.code = cc) (hts : ∀ w ∈ TB, w.before args s = true) (hown : s.vm.findClass R_M = some m.cls) (hK : KK E s) (hP : va_P E.1 vwCl (wm E ad S ++ X) H) (hD : ∀ S' : St, va_D A (wm E ad S' ++ X)) (hS : va_S A H0 H locs) (hn : x = 0 ∨ x = 1) (hdg : decode cc pc = .ok (.putfield 216, 3)) (kk : ∀ (H1 : Heap) (locs1 : List Loc), va_P E.1 vwCl (wm E ad (sV S (6) x) ++ X) H1 → va_S A H0 H1 locs1 → W p l e R s m args below meth c H1 locs1 cells slots Q (F0 m (pc + 3) ls rest)) : W p l e R s m args below meth c H locs cells slots Q (F0 m pc ls (.int x :: .ref (ad 0) :: rest)) :=
  va_put hx hb hts i_M t_M t_M_ok n_M hown hK.1 hP (hD S) hS 0 rfl rfl 17 (by decide) (hts _ fl_M_216) (fun _ h => h) rfl (ty := .boolean) rfl (k_nb hn) (by rcases hn with rfl | rfl <;> rfl) (Nat.le_of_ble_eq_true rfl) hdg (fun H1 locs1 hP1 _ hS1 => kk H1 locs1 (hP1) hS1)
theorem g_M_sizes {p : Program} {l : Launch} {e : Env} {R : Room} {s : State} {m : MethodId} {args : Array Value} {below : List Frame} {meth : Method} {c : Code} {H : Heap} {locs : List Loc} {cells slots : Nat} {Q : State → Prop} {cc : ByteArray} {pc : Nat} {ls : Array Slot} {rest : List Value} {E : Cx} {ad : Nat → Nat} {S : St} {X : va_W} (hx : p.tables.exec = Jvm.exec) (hb : c.code = cc) (hts : ∀ w ∈ TB, w.before args s = true) (hown : s.vm.findClass R_M = some m.cls) (hK : KK E s) (hP : va_P E.1 vwCl (wm E ad S ++ X) H) (hdg : decode cc pc = .ok (.getfield 39, 3)) (kk : W p l e R s m args below meth c H locs cells slots Q (F0 m (pc + 3) ls (.ref (ad 10) :: rest))) : W p l e R s m args below meth c H locs cells slots Q (F0 m pc ls (.ref (ad 0) :: rest)) :=
  va_get hx hb hts i_M hown hK.1 hP 0 rfl rfl 18 (by decide) (hts _ fl_M_39) (fun _ h => h) rfl hdg kk
theorem g_M_items {p : Program} {l : Launch} {e : Env} {R : Room} {s : State} {m : MethodId} {args : Array Value} {below : List Frame} {meth : Method} {c : Code} {H : Heap} {locs : List Loc} {cells slots : Nat} {Q : State → Prop} {cc : ByteArray} {pc : Nat} {ls : Array Slot} {rest : List Value} {E : Cx} {ad : Nat → Nat} {S : St} {X : va_W} (hx : p.tables.exec = Jvm.exec) (hb : c.code = cc) (hts : ∀ w ∈ TB, w.before args s = true) (hown : s.vm.findClass R_M = some m.cls) (hK : KK E s) (hP : va_P E.1 vwCl (wm E ad S ++ X) H) (hdg : decode cc pc = .ok (.getfield 42, 3)) (kk : W p l e R s m args below meth c H locs cells slots Q (F0 m (pc + 3) ls (.ref (ad 11) :: rest))) : W p l e R s m args below meth c H locs cells slots Q (F0 m pc ls (.ref (ad 0) :: rest)) :=
  va_get hx hb hts i_M hown hK.1 hP 0 rfl rfl 19 (by decide) (hts _ fl_M_42) (fun _ h => h) rfl hdg kk
theorem l_N {p : Program} {l : Launch} {e : Env} {R : Room} {s : State} {m : MethodId} {args : Array Value} {below : List Frame} {meth : Method} {c : Code} {H : Heap} {locs : List Loc} {cells slots : Nat} {Q : State → Prop} {cc : ByteArray} {pc : Nat} {ls : Array Slot} {rest : List Value} {E : Cx} {ad : Nat → Nat} {S : St} {X : va_W} {i : Nat} (hi : i < 16) (hx : p.tables.exec = Jvm.exec) (hb : c.code = cc) (hK : KK E s) (hP : va_P E.1 vwCl (wb E ad S ++ X) H) {j : Int32} (hin : vp_in j (cap i)) (hdg : decode cc pc = .ok (.iaload, 1)) (kk : W p l e R s m args below meth c H locs cells slots Q (F0 m (pc + 1) ls (.int (S.2.1 i j.toNatClampNeg) :: rest))) : W p l e R s m args below meth c H locs cells slots Q (F0 m pc ls (.int j :: .ref (ad (2 * i + 1)) :: rest)) := va_iald hx hb hK.1 hP (2 * i + 1) 0 (wba hi) rfl hin hdg kk
theorem a_N {p : Program} {l : Launch} {e : Env} {R : Room} {s : State} {m : MethodId} {args : Array Value} {below : List Frame} {meth : Method} {c : Code} {H : Heap} {locs : List Loc} {cells slots : Nat} {Q : State → Prop} {cc : ByteArray} {pc : Nat} {ls : Array Slot} {rest : List Value} {E : Cx} {ad : Nat → Nat} {S : St} {X : va_W} {A : Nat → Prop} {H0 : Heap} {i : Nat} (hi : i < 16) (hx : p.tables.exec = Jvm.exec) (hb : c.code = cc) (hK : KK E s) (hP : va_P E.1 vwCl (wb E ad S ++ X) H) (hD : ∀ S' : St, va_D A (wb E ad S' ++ X)) (hS : va_S A H0 H locs) {j : Int32} {x : Int32} (hin : vp_in j (cap i)) (hdg : decode cc pc = .ok (.iastore, 1)) (kk : ∀ (H1 : Heap) (locs1 : List Loc), va_P E.1 vwCl (wb E ad (sA S i j.toNatClampNeg x) ++ X) H1 → va_S A H0 H1 locs1 → W p l e R s m args below meth c H1 locs1 cells slots Q (F0 m (pc + 1) ls rest)) : W p l e R s m args below meth c H locs cells slots Q (F0 m pc ls (.int x :: .int j :: .ref (ad (2 * i + 1)) :: rest)) := va_iast hx hb hK.1 hP (hD S) hS (2 * i + 1) 0 (wba hi) rfl hin hdg (fun H1 locs1 hP1 _ hS1 => kk H1 locs1 (by rw [sA, ← wbaS hi]; exact hP1) hS1)
theorem n_N_len {p : Program} {l : Launch} {e : Env} {R : Room} {s : State} {m : MethodId} {args : Array Value} {below : List Frame} {meth : Method} {c : Code} {H : Heap} {locs : List Loc} {cells slots : Nat} {Q : State → Prop} {cc : ByteArray} {pc : Nat} {ls : Array Slot} {rest : List Value} {E : Cx} {ad : Nat → Nat} {S : St} {X : va_W} {i : Nat} (hi : i < 16) (hx : p.tables.exec = Jvm.exec) (hb : c.code = cc) (hK : KK E s) (hP : va_P E.1 vwCl (wb E ad S ++ X) H) (hdg : decode cc pc = .ok (.arraylength, 1)) (kk : W p l e R s m args below meth c H locs cells slots Q (F0 m (pc + 1) ls (.int (nI (cap i)) :: rest))) : W p l e R s m args below meth c H locs cells slots Q (F0 m pc ls (.ref (ad (2 * i + 1)) :: rest)) := va_alen hx hb hK.1 hP (2 * i + 1) 0 (wba hi) rfl rfl hdg kk
theorem l_O {p : Program} {l : Launch} {e : Env} {R : Room} {s : State} {m : MethodId} {args : Array Value} {below : List Frame} {meth : Method} {c : Code} {H : Heap} {locs : List Loc} {cells slots : Nat} {Q : State → Prop} {cc : ByteArray} {pc : Nat} {ls : Array Slot} {rest : List Value} {E : Cx} {ad : Nat → Nat} {S : St} {X : va_W} {i : Nat} (hi : i < 3) (hx : p.tables.exec = Jvm.exec) (hb : c.code = cc) (hK : KK E s) (hP : va_P E.1 vwCl (wb E ad S ++ X) H) {j : Int32} (hin : vp_in j 20) (hdg : decode cc pc = .ok (.laload, 1)) (kk : W p l e R s m args below meth c H locs cells slots Q (F0 m (pc + 1) ls (.long (S.2.2 i j.toNatClampNeg) :: rest))) : W p l e R s m args below meth c H locs cells slots Q (F0 m pc ls (.int j :: .ref (ad (33 + 2 * i)) :: rest)) := va_lald hx hb hK.1 hP (33 + 2 * i) 1 (wra hi) rfl hin hdg kk
theorem a_O {p : Program} {l : Launch} {e : Env} {R : Room} {s : State} {m : MethodId} {args : Array Value} {below : List Frame} {meth : Method} {c : Code} {H : Heap} {locs : List Loc} {cells slots : Nat} {Q : State → Prop} {cc : ByteArray} {pc : Nat} {ls : Array Slot} {rest : List Value} {E : Cx} {ad : Nat → Nat} {S : St} {X : va_W} {A : Nat → Prop} {H0 : Heap} {i : Nat} (hi : i < 3) (hx : p.tables.exec = Jvm.exec) (hb : c.code = cc) (hK : KK E s) (hP : va_P E.1 vwCl (wb E ad S ++ X) H) (hD : ∀ S' : St, va_D A (wb E ad S' ++ X)) (hS : va_S A H0 H locs) {j : Int32} {x : Int64} (hin : vp_in j 20) (hdg : decode cc pc = .ok (.lastore, 1)) (kk : ∀ (H1 : Heap) (locs1 : List Loc), va_P E.1 vwCl (wb E ad (sL S i j.toNatClampNeg x) ++ X) H1 → va_S A H0 H1 locs1 → W p l e R s m args below meth c H1 locs1 cells slots Q (F0 m (pc + 1) ls rest)) : W p l e R s m args below meth c H locs cells slots Q (F0 m pc ls (.long x :: .int j :: .ref (ad (33 + 2 * i)) :: rest)) := va_last hx hb hK.1 hP (hD S) hS (33 + 2 * i) 1 (wra hi) rfl hin hdg (fun H1 locs1 hP1 _ hS1 => kk H1 locs1 (by rw [sL, ← wraS hi]; exact hP1) hS1)
theorem n_O_len {p : Program} {l : Launch} {e : Env} {R : Room} {s : State} {m : MethodId} {args : Array Value} {below : List Frame} {meth : Method} {c : Code} {H : Heap} {locs : List Loc} {cells slots : Nat} {Q : State → Prop} {cc : ByteArray} {pc : Nat} {ls : Array Slot} {rest : List Value} {E : Cx} {ad : Nat → Nat} {S : St} {X : va_W} {i : Nat} (hi : i < 3) (hx : p.tables.exec = Jvm.exec) (hb : c.code = cc) (hK : KK E s) (hP : va_P E.1 vwCl (wb E ad S ++ X) H) (hdg : decode cc pc = .ok (.arraylength, 1)) (kk : W p l e R s m args below meth c H locs cells slots Q (F0 m (pc + 1) ls (.int (20) :: rest))) : W p l e R s m args below meth c H locs cells slots Q (F0 m pc ls (.ref (ad (33 + 2 * i)) :: rest)) := va_alen hx hb hK.1 hP (33 + 2 * i) 1 (wra hi) rfl rfl hdg kk
theorem n_P_rows {p : Program} {l : Launch} {e : Env} {R : Room} {s : State} {m : MethodId} {args : Array Value} {below : List Frame} {meth : Method} {c : Code} {H : Heap} {locs : List Loc} {cells slots : Nat} {Q : State → Prop} {cc : ByteArray} {pc : Nat} {ls : Array Slot} {rest : List Value} {E : Cx} {ad : Nat → Nat} {S : St} {X : va_W} (hx : p.tables.exec = Jvm.exec) (hb : c.code = cc) (hK : KK E s) (hP : va_P E.1 vwCl (wb E ad S ++ X) H) (hdg : decode cc pc = .ok (.arraylength, 1)) (kk : W p l e R s m args below meth c H locs cells slots Q (F0 m (pc + 1) ls (.int (3) :: rest))) : W p l e R s m args below meth c H locs cells slots Q (F0 m pc ls (.ref (ad 38) :: rest)) := va_alen hx hb hK.1 hP 38 2 rfl rfl rfl hdg kk
theorem l_P_rows {p : Program} {l : Launch} {e : Env} {R : Room} {s : State} {m : MethodId} {args : Array Value} {below : List Frame} {meth : Method} {c : Code} {H : Heap} {locs : List Loc} {cells slots : Nat} {Q : State → Prop} {cc : ByteArray} {pc : Nat} {ls : Array Slot} {rest : List Value} {E : Cx} {ad : Nat → Nat} {S : St} {X : va_W} (hx : p.tables.exec = Jvm.exec) (hb : c.code = cc) (hK : KK E s) (hP : va_P E.1 vwCl (wb E ad S ++ X) H) {j : Int32} (hin : vp_in j 3) (hdg : decode cc pc = .ok (.aaload, 1)) (kk : W p l e R s m args below meth c H locs cells slots Q (F0 m (pc + 1) ls (.ref (ad (32 + 2 * j.toNatClampNeg)) :: rest))) : W p l e R s m args below meth c H locs cells slots Q (F0 m pc ls (.int j :: .ref (ad 38) :: rest)) := va_aldq hx hb hK.1 hP 38 2 rfl rfl hin hdg kk
theorem l_M_g {p : Program} {l : Launch} {e : Env} {R : Room} {s : State} {m : MethodId} {args : Array Value} {below : List Frame} {meth : Method} {c : Code} {H : Heap} {locs : List Loc} {cells slots : Nat} {Q : State → Prop} {cc : ByteArray} {pc : Nat} {ls : Array Slot} {rest : List Value} {E : Cx} {ad : Nat → Nat} {S : St} {X : va_W} (hx : p.tables.exec = Jvm.exec) (hb : c.code = cc) (hK : KK E s) (hP : va_P E.1 vwCl (wm E ad S ++ X) H) {j : Int32} (hin : vp_in j 53) (hdg : decode cc pc = .ok (.iaload, 1)) (kk : W p l e R s m args below meth c H locs cells slots Q (F0 m (pc + 1) ls (.int (S.2.1 0 j.toNatClampNeg) :: rest))) : W p l e R s m args below meth c H locs cells slots Q (F0 m pc ls (.int j :: .ref (ad 1) :: rest)) := va_iald hx hb hK.1 hP 1 0 rfl rfl hin hdg kk
theorem a_M_g {p : Program} {l : Launch} {e : Env} {R : Room} {s : State} {m : MethodId} {args : Array Value} {below : List Frame} {meth : Method} {c : Code} {H : Heap} {locs : List Loc} {cells slots : Nat} {Q : State → Prop} {cc : ByteArray} {pc : Nat} {ls : Array Slot} {rest : List Value} {E : Cx} {ad : Nat → Nat} {S : St} {X : va_W} {A : Nat → Prop} {H0 : Heap} (hx : p.tables.exec = Jvm.exec) (hb : c.code = cc) (hK : KK E s) (hP : va_P E.1 vwCl (wm E ad S ++ X) H) (hD : ∀ S' : St, va_D A (wm E ad S' ++ X)) (hS : va_S A H0 H locs) {j : Int32} {x : Int32} (hin : vp_in j 53) (hdg : decode cc pc = .ok (.iastore, 1)) (kk : ∀ (H1 : Heap) (locs1 : List Loc), va_P E.1 vwCl (wm E ad (sA S 0 j.toNatClampNeg x) ++ X) H1 → va_S A H0 H1 locs1 → W p l e R s m args below meth c H1 locs1 cells slots Q (F0 m (pc + 1) ls rest)) : W p l e R s m args below meth c H locs cells slots Q (F0 m pc ls (.int x :: .int j :: .ref (ad 1) :: rest)) := va_iast hx hb hK.1 hP (hD S) hS 1 0 rfl rfl hin hdg (fun H1 locs1 hP1 _ hS1 => kk H1 locs1 (hP1) hS1)
theorem l_M_kept {p : Program} {l : Launch} {e : Env} {R : Room} {s : State} {m : MethodId} {args : Array Value} {below : List Frame} {meth : Method} {c : Code} {H : Heap} {locs : List Loc} {cells slots : Nat} {Q : State → Prop} {cc : ByteArray} {pc : Nat} {ls : Array Slot} {rest : List Value} {E : Cx} {ad : Nat → Nat} {S : St} {X : va_W} (hx : p.tables.exec = Jvm.exec) (hb : c.code = cc) (hK : KK E s) (hP : va_P E.1 vwCl (wm E ad S ++ X) H) {j : Int32} (hin : vp_in j 53) (hdg : decode cc pc = .ok (.iaload, 1)) (kk : W p l e R s m args below meth c H locs cells slots Q (F0 m (pc + 1) ls (.int (S.2.1 1 j.toNatClampNeg) :: rest))) : W p l e R s m args below meth c H locs cells slots Q (F0 m pc ls (.int j :: .ref (ad 2) :: rest)) := va_iald hx hb hK.1 hP 2 0 rfl rfl hin hdg kk
theorem a_M_kept {p : Program} {l : Launch} {e : Env} {R : Room} {s : State} {m : MethodId} {args : Array Value} {below : List Frame} {meth : Method} {c : Code} {H : Heap} {locs : List Loc} {cells slots : Nat} {Q : State → Prop} {cc : ByteArray} {pc : Nat} {ls : Array Slot} {rest : List Value} {E : Cx} {ad : Nat → Nat} {S : St} {X : va_W} {A : Nat → Prop} {H0 : Heap} (hx : p.tables.exec = Jvm.exec) (hb : c.code = cc) (hK : KK E s) (hP : va_P E.1 vwCl (wm E ad S ++ X) H) (hD : ∀ S' : St, va_D A (wm E ad S' ++ X)) (hS : va_S A H0 H locs) {j : Int32} {x : Int32} (hin : vp_in j 53) (hdg : decode cc pc = .ok (.iastore, 1)) (kk : ∀ (H1 : Heap) (locs1 : List Loc), va_P E.1 vwCl (wm E ad (sA S 1 j.toNatClampNeg x) ++ X) H1 → va_S A H0 H1 locs1 → W p l e R s m args below meth c H1 locs1 cells slots Q (F0 m (pc + 1) ls rest)) : W p l e R s m args below meth c H locs cells slots Q (F0 m pc ls (.int x :: .int j :: .ref (ad 2) :: rest)) := va_iast hx hb hK.1 hP (hD S) hS 2 0 rfl rfl hin hdg (fun H1 locs1 hP1 _ hS1 => kk H1 locs1 (hP1) hS1)
theorem l_M_ahead {p : Program} {l : Launch} {e : Env} {R : Room} {s : State} {m : MethodId} {args : Array Value} {below : List Frame} {meth : Method} {c : Code} {H : Heap} {locs : List Loc} {cells slots : Nat} {Q : State → Prop} {cc : ByteArray} {pc : Nat} {ls : Array Slot} {rest : List Value} {E : Cx} {ad : Nat → Nat} {S : St} {X : va_W} (hx : p.tables.exec = Jvm.exec) (hb : c.code = cc) (hK : KK E s) (hP : va_P E.1 vwCl (wm E ad S ++ X) H) {j : Int32} (hin : vp_in j 53) (hdg : decode cc pc = .ok (.iaload, 1)) (kk : W p l e R s m args below meth c H locs cells slots Q (F0 m (pc + 1) ls (.int (S.2.1 2 j.toNatClampNeg) :: rest))) : W p l e R s m args below meth c H locs cells slots Q (F0 m pc ls (.int j :: .ref (ad 3) :: rest)) := va_iald hx hb hK.1 hP 3 0 rfl rfl hin hdg kk
theorem a_M_ahead {p : Program} {l : Launch} {e : Env} {R : Room} {s : State} {m : MethodId} {args : Array Value} {below : List Frame} {meth : Method} {c : Code} {H : Heap} {locs : List Loc} {cells slots : Nat} {Q : State → Prop} {cc : ByteArray} {pc : Nat} {ls : Array Slot} {rest : List Value} {E : Cx} {ad : Nat → Nat} {S : St} {X : va_W} {A : Nat → Prop} {H0 : Heap} (hx : p.tables.exec = Jvm.exec) (hb : c.code = cc) (hK : KK E s) (hP : va_P E.1 vwCl (wm E ad S ++ X) H) (hD : ∀ S' : St, va_D A (wm E ad S' ++ X)) (hS : va_S A H0 H locs) {j : Int32} {x : Int32} (hin : vp_in j 53) (hdg : decode cc pc = .ok (.iastore, 1)) (kk : ∀ (H1 : Heap) (locs1 : List Loc), va_P E.1 vwCl (wm E ad (sA S 2 j.toNatClampNeg x) ++ X) H1 → va_S A H0 H1 locs1 → W p l e R s m args below meth c H1 locs1 cells slots Q (F0 m (pc + 1) ls rest)) : W p l e R s m args below meth c H locs cells slots Q (F0 m pc ls (.int x :: .int j :: .ref (ad 3) :: rest)) := va_iast hx hb hK.1 hP (hD S) hS 3 0 rfl rfl hin hdg (fun H1 locs1 hP1 _ hS1 => kk H1 locs1 (hP1) hS1)
theorem l_M_squares {p : Program} {l : Launch} {e : Env} {R : Room} {s : State} {m : MethodId} {args : Array Value} {below : List Frame} {meth : Method} {c : Code} {H : Heap} {locs : List Loc} {cells slots : Nat} {Q : State → Prop} {cc : ByteArray} {pc : Nat} {ls : Array Slot} {rest : List Value} {E : Cx} {ad : Nat → Nat} {S : St} {X : va_W} (hx : p.tables.exec = Jvm.exec) (hb : c.code = cc) (hK : KK E s) (hP : va_P E.1 vwCl (wm E ad S ++ X) H) {j : Int32} (hin : vp_in j 3) (hdg : decode cc pc = .ok (.iaload, 1)) (kk : W p l e R s m args below meth c H locs cells slots Q (F0 m (pc + 1) ls (.int (sqF j.toNatClampNeg) :: rest))) : W p l e R s m args below meth c H locs cells slots Q (F0 m pc ls (.int j :: .ref (ad 4) :: rest)) := va_iald hx hb hK.1 hP 4 0 rfl rfl hin hdg kk
theorem l_M_sines {p : Program} {l : Launch} {e : Env} {R : Room} {s : State} {m : MethodId} {args : Array Value} {below : List Frame} {meth : Method} {c : Code} {H : Heap} {locs : List Loc} {cells slots : Nat} {Q : State → Prop} {cc : ByteArray} {pc : Nat} {ls : Array Slot} {rest : List Value} {E : Cx} {ad : Nat → Nat} {S : St} {X : va_W} (hx : p.tables.exec = Jvm.exec) (hb : c.code = cc) (hK : KK E s) (hP : va_P E.1 vwCl (wm E ad S ++ X) H) {j : Int32} (hin : vp_in j 9) (hdg : decode cc pc = .ok (.iaload, 1)) (kk : W p l e R s m args below meth c H locs cells slots Q (F0 m (pc + 1) ls (.int (snF j.toNatClampNeg) :: rest))) : W p l e R s m args below meth c H locs cells slots Q (F0 m pc ls (.int j :: .ref (ad 5) :: rest)) := va_iald hx hb hK.1 hP 5 0 rfl rfl hin hdg kk
theorem l_M_tape {p : Program} {l : Launch} {e : Env} {R : Room} {s : State} {m : MethodId} {args : Array Value} {below : List Frame} {meth : Method} {c : Code} {H : Heap} {locs : List Loc} {cells slots : Nat} {Q : State → Prop} {cc : ByteArray} {pc : Nat} {ls : Array Slot} {rest : List Value} {E : Cx} {ad : Nat → Nat} {S : St} {X : va_W} (hx : p.tables.exec = Jvm.exec) (hb : c.code = cc) (hK : KK E s) (hP : va_P E.1 vwCl (wm E ad S ++ X) H) {j : Int32} (hin : vp_in j 80) (hdg : decode cc pc = .ok (.iaload, 1)) (kk : W p l e R s m args below meth c H locs cells slots Q (F0 m (pc + 1) ls (.int (S.2.1 3 j.toNatClampNeg) :: rest))) : W p l e R s m args below meth c H locs cells slots Q (F0 m pc ls (.int j :: .ref (ad 6) :: rest)) := va_iald hx hb hK.1 hP 6 0 rfl rfl hin hdg kk
theorem a_M_tape {p : Program} {l : Launch} {e : Env} {R : Room} {s : State} {m : MethodId} {args : Array Value} {below : List Frame} {meth : Method} {c : Code} {H : Heap} {locs : List Loc} {cells slots : Nat} {Q : State → Prop} {cc : ByteArray} {pc : Nat} {ls : Array Slot} {rest : List Value} {E : Cx} {ad : Nat → Nat} {S : St} {X : va_W} {A : Nat → Prop} {H0 : Heap} (hx : p.tables.exec = Jvm.exec) (hb : c.code = cc) (hK : KK E s) (hP : va_P E.1 vwCl (wm E ad S ++ X) H) (hD : ∀ S' : St, va_D A (wm E ad S' ++ X)) (hS : va_S A H0 H locs) {j : Int32} {x : Int32} (hin : vp_in j 80) (hdg : decode cc pc = .ok (.iastore, 1)) (kk : ∀ (H1 : Heap) (locs1 : List Loc), va_P E.1 vwCl (wm E ad (sA S 3 j.toNatClampNeg x) ++ X) H1 → va_S A H0 H1 locs1 → W p l e R s m args below meth c H1 locs1 cells slots Q (F0 m (pc + 1) ls rest)) : W p l e R s m args below meth c H locs cells slots Q (F0 m pc ls (.int x :: .int j :: .ref (ad 6) :: rest)) := va_iast hx hb hK.1 hP (hD S) hS 6 0 rfl rfl hin hdg (fun H1 locs1 hP1 _ hS1 => kk H1 locs1 (hP1) hS1)
theorem l_M_letters {p : Program} {l : Launch} {e : Env} {R : Room} {s : State} {m : MethodId} {args : Array Value} {below : List Frame} {meth : Method} {c : Code} {H : Heap} {locs : List Loc} {cells slots : Nat} {Q : State → Prop} {cc : ByteArray} {pc : Nat} {ls : Array Slot} {rest : List Value} {E : Cx} {ad : Nat → Nat} {S : St} {X : va_W} (hx : p.tables.exec = Jvm.exec) (hb : c.code = cc) (hK : KK E s) (hP : va_P E.1 vwCl (wm E ad S ++ X) H) {j : Int32} (hin : vp_in j 41) (hdg : decode cc pc = .ok (.iaload, 1)) (kk : W p l e R s m args below meth c H locs cells slots Q (F0 m (pc + 1) ls (.int (S.2.1 4 j.toNatClampNeg) :: rest))) : W p l e R s m args below meth c H locs cells slots Q (F0 m pc ls (.int j :: .ref (ad 7) :: rest)) := va_iald hx hb hK.1 hP 7 0 rfl rfl hin hdg kk
theorem a_M_letters {p : Program} {l : Launch} {e : Env} {R : Room} {s : State} {m : MethodId} {args : Array Value} {below : List Frame} {meth : Method} {c : Code} {H : Heap} {locs : List Loc} {cells slots : Nat} {Q : State → Prop} {cc : ByteArray} {pc : Nat} {ls : Array Slot} {rest : List Value} {E : Cx} {ad : Nat → Nat} {S : St} {X : va_W} {A : Nat → Prop} {H0 : Heap} (hx : p.tables.exec = Jvm.exec) (hb : c.code = cc) (hK : KK E s) (hP : va_P E.1 vwCl (wm E ad S ++ X) H) (hD : ∀ S' : St, va_D A (wm E ad S' ++ X)) (hS : va_S A H0 H locs) {j : Int32} {x : Int32} (hin : vp_in j 41) (hdg : decode cc pc = .ok (.iastore, 1)) (kk : ∀ (H1 : Heap) (locs1 : List Loc), va_P E.1 vwCl (wm E ad (sA S 4 j.toNatClampNeg x) ++ X) H1 → va_S A H0 H1 locs1 → W p l e R s m args below meth c H1 locs1 cells slots Q (F0 m (pc + 1) ls rest)) : W p l e R s m args below meth c H locs cells slots Q (F0 m pc ls (.int x :: .int j :: .ref (ad 7) :: rest)) := va_iast hx hb hK.1 hP (hD S) hS 7 0 rfl rfl hin hdg (fun H1 locs1 hP1 _ hS1 => kk H1 locs1 (hP1) hS1)
theorem l_M_firsts {p : Program} {l : Launch} {e : Env} {R : Room} {s : State} {m : MethodId} {args : Array Value} {below : List Frame} {meth : Method} {c : Code} {H : Heap} {locs : List Loc} {cells slots : Nat} {Q : State → Prop} {cc : ByteArray} {pc : Nat} {ls : Array Slot} {rest : List Value} {E : Cx} {ad : Nat → Nat} {S : St} {X : va_W} (hx : p.tables.exec = Jvm.exec) (hb : c.code = cc) (hK : KK E s) (hP : va_P E.1 vwCl (wm E ad S ++ X) H) {j : Int32} (hin : vp_in j 41) (hdg : decode cc pc = .ok (.iaload, 1)) (kk : W p l e R s m args below meth c H locs cells slots Q (F0 m (pc + 1) ls (.int (S.2.1 5 j.toNatClampNeg) :: rest))) : W p l e R s m args below meth c H locs cells slots Q (F0 m pc ls (.int j :: .ref (ad 8) :: rest)) := va_iald hx hb hK.1 hP 8 0 rfl rfl hin hdg kk
theorem a_M_firsts {p : Program} {l : Launch} {e : Env} {R : Room} {s : State} {m : MethodId} {args : Array Value} {below : List Frame} {meth : Method} {c : Code} {H : Heap} {locs : List Loc} {cells slots : Nat} {Q : State → Prop} {cc : ByteArray} {pc : Nat} {ls : Array Slot} {rest : List Value} {E : Cx} {ad : Nat → Nat} {S : St} {X : va_W} {A : Nat → Prop} {H0 : Heap} (hx : p.tables.exec = Jvm.exec) (hb : c.code = cc) (hK : KK E s) (hP : va_P E.1 vwCl (wm E ad S ++ X) H) (hD : ∀ S' : St, va_D A (wm E ad S' ++ X)) (hS : va_S A H0 H locs) {j : Int32} {x : Int32} (hin : vp_in j 41) (hdg : decode cc pc = .ok (.iastore, 1)) (kk : ∀ (H1 : Heap) (locs1 : List Loc), va_P E.1 vwCl (wm E ad (sA S 5 j.toNatClampNeg x) ++ X) H1 → va_S A H0 H1 locs1 → W p l e R s m args below meth c H1 locs1 cells slots Q (F0 m (pc + 1) ls rest)) : W p l e R s m args below meth c H locs cells slots Q (F0 m pc ls (.int x :: .int j :: .ref (ad 8) :: rest)) := va_iast hx hb hK.1 hP (hD S) hS 8 0 rfl rfl hin hdg (fun H1 locs1 hP1 _ hS1 => kk H1 locs1 (hP1) hS1)
theorem l_M_seconds {p : Program} {l : Launch} {e : Env} {R : Room} {s : State} {m : MethodId} {args : Array Value} {below : List Frame} {meth : Method} {c : Code} {H : Heap} {locs : List Loc} {cells slots : Nat} {Q : State → Prop} {cc : ByteArray} {pc : Nat} {ls : Array Slot} {rest : List Value} {E : Cx} {ad : Nat → Nat} {S : St} {X : va_W} (hx : p.tables.exec = Jvm.exec) (hb : c.code = cc) (hK : KK E s) (hP : va_P E.1 vwCl (wm E ad S ++ X) H) {j : Int32} (hin : vp_in j 41) (hdg : decode cc pc = .ok (.iaload, 1)) (kk : W p l e R s m args below meth c H locs cells slots Q (F0 m (pc + 1) ls (.int (S.2.1 6 j.toNatClampNeg) :: rest))) : W p l e R s m args below meth c H locs cells slots Q (F0 m pc ls (.int j :: .ref (ad 9) :: rest)) := va_iald hx hb hK.1 hP 9 0 rfl rfl hin hdg kk
theorem a_M_seconds {p : Program} {l : Launch} {e : Env} {R : Room} {s : State} {m : MethodId} {args : Array Value} {below : List Frame} {meth : Method} {c : Code} {H : Heap} {locs : List Loc} {cells slots : Nat} {Q : State → Prop} {cc : ByteArray} {pc : Nat} {ls : Array Slot} {rest : List Value} {E : Cx} {ad : Nat → Nat} {S : St} {X : va_W} {A : Nat → Prop} {H0 : Heap} (hx : p.tables.exec = Jvm.exec) (hb : c.code = cc) (hK : KK E s) (hP : va_P E.1 vwCl (wm E ad S ++ X) H) (hD : ∀ S' : St, va_D A (wm E ad S' ++ X)) (hS : va_S A H0 H locs) {j : Int32} {x : Int32} (hin : vp_in j 41) (hdg : decode cc pc = .ok (.iastore, 1)) (kk : ∀ (H1 : Heap) (locs1 : List Loc), va_P E.1 vwCl (wm E ad (sA S 6 j.toNatClampNeg x) ++ X) H1 → va_S A H0 H1 locs1 → W p l e R s m args below meth c H1 locs1 cells slots Q (F0 m (pc + 1) ls rest)) : W p l e R s m args below meth c H locs cells slots Q (F0 m pc ls (.int x :: .int j :: .ref (ad 9) :: rest)) := va_iast hx hb hK.1 hP (hD S) hS 9 0 rfl rfl hin hdg (fun H1 locs1 hP1 _ hS1 => kk H1 locs1 (hP1) hS1)
theorem l_M_sizes {p : Program} {l : Launch} {e : Env} {R : Room} {s : State} {m : MethodId} {args : Array Value} {below : List Frame} {meth : Method} {c : Code} {H : Heap} {locs : List Loc} {cells slots : Nat} {Q : State → Prop} {cc : ByteArray} {pc : Nat} {ls : Array Slot} {rest : List Value} {E : Cx} {ad : Nat → Nat} {S : St} {X : va_W} (hx : p.tables.exec = Jvm.exec) (hb : c.code = cc) (hK : KK E s) (hP : va_P E.1 vwCl (wm E ad S ++ X) H) {j : Int32} (hin : vp_in j 3) (hdg : decode cc pc = .ok (.iaload, 1)) (kk : W p l e R s m args below meth c H locs cells slots Q (F0 m (pc + 1) ls (.int (S.2.1 7 j.toNatClampNeg) :: rest))) : W p l e R s m args below meth c H locs cells slots Q (F0 m pc ls (.int j :: .ref (ad 10) :: rest)) := va_iald hx hb hK.1 hP 10 0 rfl rfl hin hdg kk
theorem a_M_sizes {p : Program} {l : Launch} {e : Env} {R : Room} {s : State} {m : MethodId} {args : Array Value} {below : List Frame} {meth : Method} {c : Code} {H : Heap} {locs : List Loc} {cells slots : Nat} {Q : State → Prop} {cc : ByteArray} {pc : Nat} {ls : Array Slot} {rest : List Value} {E : Cx} {ad : Nat → Nat} {S : St} {X : va_W} {A : Nat → Prop} {H0 : Heap} (hx : p.tables.exec = Jvm.exec) (hb : c.code = cc) (hK : KK E s) (hP : va_P E.1 vwCl (wm E ad S ++ X) H) (hD : ∀ S' : St, va_D A (wm E ad S' ++ X)) (hS : va_S A H0 H locs) {j : Int32} {x : Int32} (hin : vp_in j 3) (hdg : decode cc pc = .ok (.iastore, 1)) (kk : ∀ (H1 : Heap) (locs1 : List Loc), va_P E.1 vwCl (wm E ad (sA S 7 j.toNatClampNeg x) ++ X) H1 → va_S A H0 H1 locs1 → W p l e R s m args below meth c H1 locs1 cells slots Q (F0 m (pc + 1) ls rest)) : W p l e R s m args below meth c H locs cells slots Q (F0 m pc ls (.int x :: .int j :: .ref (ad 10) :: rest)) := va_iast hx hb hK.1 hP (hD S) hS 10 0 rfl rfl hin hdg (fun H1 locs1 hP1 _ hS1 => kk H1 locs1 (hP1) hS1)
theorem l_M_items {p : Program} {l : Launch} {e : Env} {R : Room} {s : State} {m : MethodId} {args : Array Value} {below : List Frame} {meth : Method} {c : Code} {H : Heap} {locs : List Loc} {cells slots : Nat} {Q : State → Prop} {cc : ByteArray} {pc : Nat} {ls : Array Slot} {rest : List Value} {E : Cx} {ad : Nat → Nat} {S : St} {X : va_W} (hx : p.tables.exec = Jvm.exec) (hb : c.code = cc) (hK : KK E s) (hP : va_P E.1 vwCl (wm E ad S ++ X) H) {j : Int32} (hin : vp_in j 60) (hdg : decode cc pc = .ok (.laload, 1)) (kk : W p l e R s m args below meth c H locs cells slots Q (F0 m (pc + 1) ls (.long (S.2.2 0 j.toNatClampNeg) :: rest))) : W p l e R s m args below meth c H locs cells slots Q (F0 m pc ls (.int j :: .ref (ad 11) :: rest)) := va_lald hx hb hK.1 hP 11 1 rfl rfl hin hdg kk
theorem a_M_items {p : Program} {l : Launch} {e : Env} {R : Room} {s : State} {m : MethodId} {args : Array Value} {below : List Frame} {meth : Method} {c : Code} {H : Heap} {locs : List Loc} {cells slots : Nat} {Q : State → Prop} {cc : ByteArray} {pc : Nat} {ls : Array Slot} {rest : List Value} {E : Cx} {ad : Nat → Nat} {S : St} {X : va_W} {A : Nat → Prop} {H0 : Heap} (hx : p.tables.exec = Jvm.exec) (hb : c.code = cc) (hK : KK E s) (hP : va_P E.1 vwCl (wm E ad S ++ X) H) (hD : ∀ S' : St, va_D A (wm E ad S' ++ X)) (hS : va_S A H0 H locs) {j : Int32} {x : Int64} (hin : vp_in j 60) (hdg : decode cc pc = .ok (.lastore, 1)) (kk : ∀ (H1 : Heap) (locs1 : List Loc), va_P E.1 vwCl (wm E ad (sL S 0 j.toNatClampNeg x) ++ X) H1 → va_S A H0 H1 locs1 → W p l e R s m args below meth c H1 locs1 cells slots Q (F0 m (pc + 1) ls rest)) : W p l e R s m args below meth c H locs cells slots Q (F0 m pc ls (.long x :: .int j :: .ref (ad 11) :: rest)) := va_last hx hb hK.1 hP (hD S) hS 11 1 rfl rfl hin hdg (fun H1 locs1 hP1 _ hS1 => kk H1 locs1 (hP1) hS1)
end
section
/-! the library's Math by its words; loops' measures; small facts of the walks -/
theorem st_mabs : Cond.static Lib.Math.abs.name ∈ TB := tb_t 334 (by decide +kernel) rfl
theorem co_mabs : Cond.code Lib.Math.abs.name Lib.Math.abs.code 1 (some .int) ∈ TB := tb_t 335 (by decide +kernel) rfl
theorem st_mabsl : Cond.static Lib.MathLoose.abs_long.x ∈ TB := tb_t 341 (by decide +kernel) rfl
theorem co_mabsl : Cond.code Lib.MathLoose.abs_long.x Lib.MathLoose.abs_long.code 2 (some .long) ∈ TB := tb_t 342 (by decide +kernel) rfl
theorem st_mmaxl : Cond.static Lib.MathLoose.max_long.x ∈ TB := tb_t 388 (by decide +kernel) rfl
theorem co_mmaxl : Cond.code Lib.MathLoose.max_long.x Lib.MathLoose.max_long.code 4 (some .long) ∈ TB := tb_t 389 (by decide +kernel) rfl
theorem st_mmin : Cond.static Lib.Math.min.name ∈ TB := tb_t 696 (by decide +kernel) rfl
theorem co_mmin : Cond.code Lib.Math.min.name Lib.Math.min.code 2 (some .int) ∈ TB := tb_t 697 (by decide +kernel) rfl
theorem st_mmax : Cond.static Lib.Math.max.name ∈ TB := tb_t 731 (by decide +kernel) rfl
theorem co_mmax : Cond.code Lib.Math.max.name Lib.Math.max.code 2 (some .int) ∈ TB := tb_t 732 (by decide +kernel) rfl
def UP (n : Nat) (B x : Int32) : Prop := 0 < n ∧ B.toInt - x.toInt < (n : Int) ∧ 0 ≤ x.toInt
def UE (n : Nat) (B x : Int32) : Prop := 0 < n ∧ B.toInt + 1 - x.toInt < (n : Int) ∧ B.toInt < 1000
def DN (n : Nat) (x : Int32) : Prop := 0 < n ∧ x.toInt + 1 < (n : Int)
theorem UP_z {B x : Int32} : ¬ UP 0 B x := fun h => Nat.lt_irrefl 0 h.1
theorem UE_z {B x : Int32} : ¬ UE 0 B x := fun h => Nat.lt_irrefl 0 h.1
theorem DN_z {x : Int32} : ¬ DN 0 x := fun h => Nat.lt_irrefl 0 h.1
theorem i32_lo (x : Int32) : -2147483648 ≤ x.toInt := by have h := Int32.le_toInt x; simpa using h
theorem i32_hi (x : Int32) : x.toInt < 2147483648 := by have h := Int32.toInt_lt x; simpa using h
theorem i32_add {x y : Int32} (h1 : -2147483648 ≤ x.toInt + y.toInt) (h2 : x.toInt + y.toInt < 2147483648) : (x + y).toInt = x.toInt + y.toInt := by
  rw [Int32.toInt_add]
  exact Int.bmod_eq_of_le (by omega) (by omega)
theorem i32_suc {x : Int32} (h : x.toInt < 2147483647) : (x + 1).toInt = x.toInt + 1 := by
  have h1 := i32_lo x
  have e : (1 : Int32).toInt = 1 := by decide
  rw [i32_add (by rw [e]; omega) (by rw [e]; omega), e]
theorem UP_in {B x : Int32} (h : 0 ≤ x.toInt) : UP (B.toInt.toNat + 1) B x := ⟨by omega, by omega, h⟩
theorem UP_up {n : Nat} {B x : Int32} (h : UP (n + 1) B x) (c : ¬ B ≤ x) : UP n B (x + 1) := by
  obtain ⟨h1, h2, h3⟩ := h
  have hb := i32_hi B
  rw [Int32.le_iff_toInt_le] at c
  have e : (x + 1).toInt = x.toInt + 1 := i32_suc (by omega)
  exact ⟨by omega, by rw [e]; omega, by rw [e]; omega⟩
theorem UP_in' {B x : Int32} (h : 0 ≤ x.toInt) {n : Nat} (hn : B.toInt.toNat + 1 ≤ n) : UP n B x := ⟨by omega, by omega, h⟩
theorem UE_in {B x : Int32} (h : B.toInt < 1000) : UE ((B.toInt + 1 - x.toInt).toNat + 1) B x := ⟨by omega, by omega, h⟩
theorem UE_up {n : Nat} {B x : Int32} (h : UE (n + 1) B x) (c : ¬ B < x) : UE n B (x + 1) := by
  obtain ⟨h1, h2, h3⟩ := h
  rw [Int32.lt_iff_toInt_lt] at c
  have e : (x + 1).toInt = x.toInt + 1 := i32_suc (by omega)
  exact ⟨by omega, by rw [e]; omega, h3⟩
theorem DN_in {x : Int32} : DN (x.toInt.toNat + 2) x := ⟨by omega, by omega⟩
theorem DN_dn {n : Nat} {x : Int32} (h : DN (n + 1) x) (c : ¬ x < 0) : DN n (x + (-1)) := by
  obtain ⟨h1, h2⟩ := h
  have hb := i32_hi x
  rw [Int32.lt_iff_toInt_lt] at c
  have z : (0 : Int32).toInt = 0 := by decide
  rw [z] at c
  have e1 : (-1 : Int32).toInt = -1 := by decide
  have e : (x + (-1)).toInt = x.toInt - 1 := by rw [i32_add (by rw [e1]; omega) (by rw [e1]; omega), e1]; omega
  exact ⟨by omega, by rw [e]; omega⟩
theorem DN_dn1 {n : Nat} {x : Int32} (h : DN (n + 1) x) (c : ¬ x ≤ 1) : DN n (x + (-1)) := DN_dn h (fun q => c (by
  rw [Int32.lt_iff_toInt_lt] at q
  rw [Int32.le_iff_toInt_le]
  have z : (0 : Int32).toInt = 0 := by decide
  have o : (1 : Int32).toInt = 1 := by decide
  rw [z] at q; rw [o]; omega))
theorem vin_c {n : Nat} {M x : Int32} (hM : M.toInt = (n : Int)) (h0 : ¬ x < 0) (h1 : ¬ M ≤ x) : vp_in x n := by
  rw [vp_in_iff]
  rw [Int32.lt_iff_toInt_lt] at h0
  rw [Int32.le_iff_toInt_le, hM] at h1
  have z : (0 : Int32).toInt = 0 := by decide
  rw [z] at h0
  omega
theorem vin_p {n : Nat} {M x : Int32} (hM : M.toInt = (n : Int)) (h0 : 0 ≤ x.toInt) (h1 : ¬ M ≤ x) : vp_in x n := by
  rw [vp_in_iff]
  rw [Int32.le_iff_toInt_le, hM] at h1
  omega
theorem cap_lt (i : Nat) : cap i ≤ 80 := by
  unfold cap
  rcases Nat.lt_or_ge i 16 with h | h
  · match i, h with
    | 0, _ => decide
    | 1, _ => decide
    | 2, _ => decide
    | 3, _ => decide
    | 4, _ => decide
    | 5, _ => decide
    | 6, _ => decide
    | 7, _ => decide
    | 8, _ => decide
    | 9, _ => decide
    | 10, _ => decide
    | 11, _ => decide
    | 12, _ => decide
    | 13, _ => decide
    | 14, _ => decide
    | 15, _ => decide
    | k + 16, h => exact absurd h (by omega)
  · have : ([16, 16, 9, 9, 16, 16, 9, 9, 16, 16, 9, 9, 80, 40, 40, 40] : List Nat)[i]? = none := List.getElem?_eq_none (by simpa using h)
    rw [List.getD_eq_getElem?_getD, this]; decide
theorem cap_i (i : Nat) : (nI (cap i)).toInt = (cap i : Int) := nI_toInt (by have := cap_lt i; omega)
theorem lcmp_ne {x : Int64} (h : ¬ lg_cmp x 0 = 0) : ¬ x = 0 := fun e => h (by rw [e]; decide)
theorem lcmp_gt1 {x : Int64} (h : ¬ lg_cmp x 1 ≤ 0) : ¬ x = 0 := fun e => h (by rw [e]; decide)
theorem i32_div {x y : Int32} (hy : 0 < y.toInt) : (x / y).toInt = x.toInt.tdiv y.toInt := Int32.toInt_div_of_ne_right x y (fun e => by rw [e] at hy; exact absurd hy (by decide))
theorem tq_b {x y : Int} (hy : 0 < y) : y * x.tdiv y + x.tmod y = x ∧ (0 ≤ x → 0 ≤ y * x.tdiv y ∧ 0 ≤ x.tmod y) ∧ (x ≤ 0 → y * x.tdiv y ≤ 0 ∧ x.tmod y ≤ 0) ∧ x.tmod y < y ∧ -y < x.tmod y := by
  have e := Int.mul_tdiv_add_tmod x y
  refine ⟨e, fun h => ⟨Int.mul_nonneg (by omega) (Int.tdiv_nonneg h (by omega)), Int.tmod_nonneg y h⟩, fun h => ?_, Int.tmod_lt_of_pos x hy, Int.lt_tmod_of_pos x hy⟩
  have h1 : 0 ≤ (-x).tdiv y := Int.tdiv_nonneg (by omega) (by omega)
  have h2 : 0 ≤ (-x).tmod y := Int.tmod_nonneg y (by omega)
  rw [Int.neg_tdiv] at h1
  rw [Int.neg_tmod] at h2
  have h3 : 0 ≤ y * (-(x.tdiv y)) := Int.mul_nonneg (by omega) h1
  rw [Int.mul_neg] at h3
  exact ⟨by omega, by omega⟩
theorem i32_rem {x y : Int32} (hy : 0 < y.toInt) : (x - x / y * y).toInt = x.toInt.tmod y.toInt := by
  obtain ⟨e, h1, h2, h3, h4⟩ := tq_b (x := x.toInt) hy
  have hl := i32_lo x
  have hh := i32_hi x
  have hb : (x / y * y).toInt = y.toInt * x.toInt.tdiv y.toInt := by
    rw [Int32.toInt_mul, i32_div hy, Int.mul_comm]
    refine Int.bmod_eq_of_le ?_ ?_ <;> rcases Int.le_total 0 x.toInt with h | h <;> (have q1 := h1; have q2 := h2; first | (have q := h1 h; omega) | (have q := h2 h; omega))
  rw [Int32.toInt_sub, hb]
  have : x.toInt - y.toInt * x.toInt.tdiv y.toInt = x.toInt.tmod y.toInt := by omega
  rw [this]
  have hyh := i32_hi y
  exact Int.bmod_eq_of_le (by omega) (by omega)
theorem rem100_lt (x : Int32) : (x - x / 100 * 100).toInt < 1000 := by
  have h : (100 : Int32).toInt = 100 := by decide
  rw [i32_rem (by rw [h]; decide), h]
  have := Int.tmod_lt_of_pos x.toInt (show (0 : Int) < 100 by decide)
  omega
theorem ra_lt {x : Int32} (h : 0 ≤ x ∧ x < 3) : x.toNatClampNeg < 3 := by
  have h2 := h.2
  rw [Int32.lt_iff_toInt_lt] at h2
  have e : (3 : Int32).toInt = 3 := by decide
  rw [e] at h2
  unfold Int32.toNatClampNeg
  omega
end
section
/-! by program (wip/whole/cls.py) -/
def s_N_size (S : St) (i : Nat) : Int32 := (S.1 i)
set_option maxRecDepth 20000 in
theorem c_N_size (l : Launch) (E : Cx) (ad : Nat → Nat) (X : va_W) (S : St) (i : Nat) (hi : i < 16) : Met l y_N_size (Cond.code y_N_size b_N_size 1 (some .int) :: TB) (rk 0 0) (va_Pc [.ref (ad (2 * i))] (preR E (wb E ad S ++ X))) (vp_Si (fun r => r = (s_N_size S i))) 0 0 (fun _ => False) := by
  refine w_roI rfl (Nat.le_of_ble_eq_true rfl) rfl ?_
  intro p e s m args below meth c Q ls hx hb hml hts hown hP hK hl hend
  have hl : lv_has ls 1 [(0, .ref (ad (2 * i)))] := hl
  have hP : va_P E.1 vwCl (wb E ad S ++ X) s.heap := hP
  have hown : s.vm.findClass R_N = some m.cls := hown
  refine lv_aload_n hx hb d_N_size_0 rfl (lv_at hl 0 rfl) ?_
  refine g_N_size hi hx hb hts hown hK hP d_N_size_1 ?_
  exact hend _ _ _ (by rw [s_N_size]) d_N_size_4

def s_N_isFull (S : St) (i : Nat) : Int32 := (if (S.1 i) < (nI (cap i)) then (0 : Int32) else (1 : Int32))
theorem z_N_isFull (S : St) (i : Nat) : (s_N_isFull S i) = 0 ∨ (s_N_isFull S i) = 1 := by unfold s_N_isFull; (repeat' split) <;> first | with_reducible exact Or.inl rfl | with_reducible exact Or.inr rfl
set_option maxRecDepth 20000 in
theorem c_N_isFull (l : Launch) (E : Cx) (ad : Nat → Nat) (X : va_W) (S : St) (i : Nat) (hi : i < 16) : Met l y_N_isFull (Cond.code y_N_isFull b_N_isFull 1 (some .boolean) :: TB) (rk 0 0) (va_Pc [.ref (ad (2 * i))] (preR E (wb E ad S ++ X))) (vp_Si (fun r => r = (s_N_isFull S i))) 0 0 (fun _ => False) := by
  refine w_roI rfl (Nat.le_of_ble_eq_true rfl) (k_nb (z_N_isFull S i)) ?_
  intro p e s m args below meth c Q ls hx hb hml hts hown hP hK hl hend
  have hl : lv_has ls 1 [(0, .ref (ad (2 * i)))] := hl
  have hP : va_P E.1 vwCl (wb E ad S ++ X) s.heap := hP
  have hown : s.vm.findClass R_N = some m.cls := hown
  refine lv_aload_n hx hb d_N_isFull_0 rfl (lv_at hl 0 rfl) ?_
  refine g_N_size hi hx hb hts hown hK hP d_N_isFull_1 ?_
  refine lv_aload_n hx hb d_N_isFull_4 rfl (lv_at hl 0 rfl) ?_
  refine g_N_numbers hi hx hb hts hown hK hP d_N_isFull_5 ?_
  refine n_N_len hi hx hb hK hP d_N_isFull_8 ?_
  refine lv_icmp_lt (tgt := 16) hx hb d_N_isFull_9 (by decide) (fun c_9 => ?_) (fun c_9 => ?_)
  · refine lv_iconst (v := (0 : Int32)) hx hb d_N_isFull_16 rfl ?_
    exact hend _ _ _ (by rw [s_N_isFull, if_pos c_9]) d_N_isFull_17
  · refine lv_iconst (v := (1 : Int32)) hx hb d_N_isFull_12 rfl ?_
    refine lv_goto (tgt := 17) hx hb d_N_isFull_13 (by decide) ?_
    exact hend _ _ _ (by rw [s_N_isFull, if_neg c_9]) d_N_isFull_17

def s_N_has (S : St) (i : Nat) (a1 : Int32) : Int32 := (if a1 < 0 then (0 : Int32) else (if (S.1 i) ≤ a1 then (0 : Int32) else (if (nI (cap i)) ≤ a1 then (0 : Int32) else (1 : Int32))))
theorem z_N_has (S : St) (i : Nat) (a1 : Int32) : (s_N_has S i a1) = 0 ∨ (s_N_has S i a1) = 1 := by unfold s_N_has; (repeat' split) <;> first | with_reducible exact Or.inl rfl | with_reducible exact Or.inr rfl
set_option maxRecDepth 20000 in
theorem c_N_has (l : Launch) (E : Cx) (ad : Nat → Nat) (X : va_W) (S : St) (i : Nat) (hi : i < 16) (a1 : Int32) : Met l y_N_has (Cond.code y_N_has b_N_has 2 (some .boolean) :: TB) (rk 0 0) (va_Pc [.ref (ad (2 * i)), .int a1] (preR E (wb E ad S ++ X))) (vp_Si (fun r => r = (s_N_has S i a1))) 0 0 (fun _ => False) := by
  refine w_roI rfl (Nat.le_of_ble_eq_true rfl) (k_nb (z_N_has S i a1)) ?_
  intro p e s m args below meth c Q ls hx hb hml hts hown hP hK hl hend
  have hl : lv_has ls 2 [(0, .ref (ad (2 * i))), (1, .int a1)] := hl
  have hP : va_P E.1 vwCl (wb E ad S ++ X) s.heap := hP
  have hown : s.vm.findClass R_N = some m.cls := hown
  refine lv_iload_n hx hb d_N_has_0 rfl (lv_at hl 1 rfl) ?_
  refine lv_if_lt (tgt := 25) hx hb d_N_has_1 (by decide) (fun c_1 => ?_) (fun c_1 => ?_)
  · refine lv_iconst (v := (0 : Int32)) hx hb d_N_has_25 rfl ?_
    exact hend _ _ _ (by rw [s_N_has, if_pos c_1]) d_N_has_26
  · refine lv_iload_n hx hb d_N_has_4 rfl (lv_at hl 1 rfl) ?_
    refine lv_aload_n hx hb d_N_has_5 rfl (lv_at hl 0 rfl) ?_
    refine g_N_size hi hx hb hts hown hK hP d_N_has_6 ?_
    refine lv_icmp_ge (tgt := 25) hx hb d_N_has_9 (by decide) (fun c_9 => ?_) (fun c_9 => ?_)
    · refine lv_iconst (v := (0 : Int32)) hx hb d_N_has_25 rfl ?_
      exact hend _ _ _ (by rw [s_N_has, if_neg c_1, if_pos c_9]) d_N_has_26
    · refine lv_iload_n hx hb d_N_has_12 rfl (lv_at hl 1 rfl) ?_
      refine lv_aload_n hx hb d_N_has_13 rfl (lv_at hl 0 rfl) ?_
      refine g_N_numbers hi hx hb hts hown hK hP d_N_has_14 ?_
      refine n_N_len hi hx hb hK hP d_N_has_17 ?_
      refine lv_icmp_ge (tgt := 25) hx hb d_N_has_18 (by decide) (fun c_18 => ?_) (fun c_18 => ?_)
      · refine lv_iconst (v := (0 : Int32)) hx hb d_N_has_25 rfl ?_
        exact hend _ _ _ (by rw [s_N_has, if_neg c_1, if_neg c_9, if_pos c_18]) d_N_has_26
      · refine lv_iconst (v := (1 : Int32)) hx hb d_N_has_21 rfl ?_
        refine lv_goto (tgt := 26) hx hb d_N_has_22 (by decide) ?_
        exact hend _ _ _ (by rw [s_N_has, if_neg c_1, if_neg c_9, if_neg c_18]) d_N_has_26

def s_N_at (S : St) (i : Nat) (a1 : Int32) : Int32 := (if a1 < 0 then (0 : Int32) else (if (S.1 i) ≤ a1 then (0 : Int32) else (if (nI (cap i)) ≤ a1 then (0 : Int32) else (S.2.1 i a1.toNatClampNeg))))
set_option maxRecDepth 20000 in
theorem c_N_at (l : Launch) (E : Cx) (ad : Nat → Nat) (X : va_W) (S : St) (i : Nat) (hi : i < 16) (a1 : Int32) : Met l y_N_at (Cond.code y_N_at b_N_at 2 (some .int) :: TB) (rk 0 0) (va_Pc [.ref (ad (2 * i)), .int a1] (preR E (wb E ad S ++ X))) (vp_Si (fun r => r = (s_N_at S i a1))) 0 0 (fun _ => False) := by
  refine w_roI rfl (Nat.le_of_ble_eq_true rfl) rfl ?_
  intro p e s m args below meth c Q ls hx hb hml hts hown hP hK hl hend
  have hl : lv_has ls 2 [(0, .ref (ad (2 * i))), (1, .int a1)] := hl
  have hP : va_P E.1 vwCl (wb E ad S ++ X) s.heap := hP
  have hown : s.vm.findClass R_N = some m.cls := hown
  refine lv_iload_n hx hb d_N_at_0 rfl (lv_at hl 1 rfl) ?_
  refine lv_if_lt (tgt := 30) hx hb d_N_at_1 (by decide) (fun c_1 => ?_) (fun c_1 => ?_)
  · refine lv_iconst (v := (0 : Int32)) hx hb d_N_at_30 rfl ?_
    exact hend _ _ _ (by rw [s_N_at, if_pos c_1]) d_N_at_31
  · refine lv_iload_n hx hb d_N_at_4 rfl (lv_at hl 1 rfl) ?_
    refine lv_aload_n hx hb d_N_at_5 rfl (lv_at hl 0 rfl) ?_
    refine g_N_size hi hx hb hts hown hK hP d_N_at_6 ?_
    refine lv_icmp_ge (tgt := 30) hx hb d_N_at_9 (by decide) (fun c_9 => ?_) (fun c_9 => ?_)
    · refine lv_iconst (v := (0 : Int32)) hx hb d_N_at_30 rfl ?_
      exact hend _ _ _ (by rw [s_N_at, if_neg c_1, if_pos c_9]) d_N_at_31
    · refine lv_iload_n hx hb d_N_at_12 rfl (lv_at hl 1 rfl) ?_
      refine lv_aload_n hx hb d_N_at_13 rfl (lv_at hl 0 rfl) ?_
      refine g_N_numbers hi hx hb hts hown hK hP d_N_at_14 ?_
      refine n_N_len hi hx hb hK hP d_N_at_17 ?_
      refine lv_icmp_ge (tgt := 30) hx hb d_N_at_18 (by decide) (fun c_18 => ?_) (fun c_18 => ?_)
      · refine lv_iconst (v := (0 : Int32)) hx hb d_N_at_30 rfl ?_
        exact hend _ _ _ (by rw [s_N_at, if_neg c_1, if_neg c_9, if_pos c_18]) d_N_at_31
      · refine lv_aload_n hx hb d_N_at_21 rfl (lv_at hl 0 rfl) ?_
        refine g_N_numbers hi hx hb hts hown hK hP d_N_at_22 ?_
        refine lv_iload_n hx hb d_N_at_25 rfl (lv_at hl 1 rfl) ?_
        refine l_N hi hx hb hK hP (vin_c (cap_i i) c_1 c_18) d_N_at_26 ?_
        refine lv_goto (tgt := 31) hx hb d_N_at_27 (by decide) ?_
        exact hend _ _ _ (by rw [s_N_at, if_neg c_1, if_neg c_9, if_neg c_18]) d_N_at_31

def s_N_set (S : St) (i : Nat) (a1 : Int32) (a2 : Int32) : St := (if a1 < 0 then S else (if (S.1 i) ≤ a1 then S else (if (nI (cap i)) ≤ a1 then S else (sA S i a1.toNatClampNeg a2))))
set_option maxRecDepth 20000 in
theorem c_N_set (l : Launch) (E : Cx) (ad : Nat → Nat) (X : va_W) (S : St) (A : Nat → Prop) (i : Nat) (hi : i < 16) (a1 : Int32) (a2 : Int32) : Met l y_N_set (Cond.code y_N_set b_N_set 3 none :: TB) (rk 0 0) (va_Pc [.ref (ad (2 * i)), .int a1, .int a2] (preM E A (fun S => wb E ad S ++ X) S)) (va_Qv (fun u => u = (s_N_set S i a1 a2)) (fun u t => va_P E.1 vwCl ((fun S => wb E ad S ++ X) u) t.heap) A) 0 0 A := by
  refine w_muV rfl (Nat.le_of_ble_eq_true rfl) ?_
  intro p e s m args below meth c Q ls hx hb hml hts hown hP hK hD hS hl hend
  have hl : lv_has ls 3 [(0, .ref (ad (2 * i))), (1, .int a1), (2, .int a2)] := hl
  have hP : va_P E.1 vwCl (wb E ad S ++ X) s.heap := hP
  have hown : s.vm.findClass R_N = some m.cls := hown
  have hD : ∀ S' : St, va_D A (wb E ad S' ++ X) := hD
  refine lv_iload_n hx hb d_N_set_0 rfl (lv_at hl 1 rfl) ?_
  refine lv_if_lt (tgt := 28) hx hb d_N_set_1 (by decide) (fun c_1 => ?_) (fun c_1 => ?_)
  · exact hend _ _ _ _ _ (by rw [s_N_set, if_pos c_1]) hP hS d_N_set_28
  · refine lv_iload_n hx hb d_N_set_4 rfl (lv_at hl 1 rfl) ?_
    refine lv_aload_n hx hb d_N_set_5 rfl (lv_at hl 0 rfl) ?_
    refine g_N_size hi hx hb hts hown hK hP d_N_set_6 ?_
    refine lv_icmp_ge (tgt := 28) hx hb d_N_set_9 (by decide) (fun c_9 => ?_) (fun c_9 => ?_)
    · exact hend _ _ _ _ _ (by rw [s_N_set, if_neg c_1, if_pos c_9]) hP hS d_N_set_28
    · refine lv_iload_n hx hb d_N_set_12 rfl (lv_at hl 1 rfl) ?_
      refine lv_aload_n hx hb d_N_set_13 rfl (lv_at hl 0 rfl) ?_
      refine g_N_numbers hi hx hb hts hown hK hP d_N_set_14 ?_
      refine n_N_len hi hx hb hK hP d_N_set_17 ?_
      refine lv_icmp_ge (tgt := 28) hx hb d_N_set_18 (by decide) (fun c_18 => ?_) (fun c_18 => ?_)
      · exact hend _ _ _ _ _ (by rw [s_N_set, if_neg c_1, if_neg c_9, if_pos c_18]) hP hS d_N_set_28
      · refine lv_aload_n hx hb d_N_set_21 rfl (lv_at hl 0 rfl) ?_
        refine g_N_numbers hi hx hb hts hown hK hP d_N_set_22 ?_
        refine lv_iload_n hx hb d_N_set_25 rfl (lv_at hl 1 rfl) ?_
        refine lv_iload_n hx hb d_N_set_26 rfl (lv_at hl 2 rfl) ?_
        refine a_N hi hx hb hK hP hD hS (vin_c (cap_i i) c_1 c_18) d_N_set_27 (fun H locs hP hS => ?_)
        have hP : va_P E.1 vwCl (wb E ad (sA S i a1.toNatClampNeg a2) ++ X) H := hP
        exact hend _ _ _ _ _ (by rw [s_N_set, if_neg c_1, if_neg c_9, if_neg c_18]) hP hS d_N_set_28

def s_N_empty (S : St) (i : Nat) : St := (sV S i (0 : Int32))
set_option maxRecDepth 20000 in
theorem c_N_empty (l : Launch) (E : Cx) (ad : Nat → Nat) (X : va_W) (S : St) (A : Nat → Prop) (i : Nat) (hi : i < 16) : Met l y_N_empty (Cond.code y_N_empty b_N_empty 1 none :: TB) (rk 0 0) (va_Pc [.ref (ad (2 * i))] (preM E A (fun S => wb E ad S ++ X) S)) (va_Qv (fun u => u = (s_N_empty S i)) (fun u t => va_P E.1 vwCl ((fun S => wb E ad S ++ X) u) t.heap) A) 0 0 A := by
  refine w_muV rfl (Nat.le_of_ble_eq_true rfl) ?_
  intro p e s m args below meth c Q ls hx hb hml hts hown hP hK hD hS hl hend
  have hl : lv_has ls 1 [(0, .ref (ad (2 * i)))] := hl
  have hP : va_P E.1 vwCl (wb E ad S ++ X) s.heap := hP
  have hown : s.vm.findClass R_N = some m.cls := hown
  have hD : ∀ S' : St, va_D A (wb E ad S' ++ X) := hD
  refine lv_aload_n hx hb d_N_empty_0 rfl (lv_at hl 0 rfl) ?_
  refine lv_iconst (v := (0 : Int32)) hx hb d_N_empty_1 rfl ?_
  refine p_N_size hi hx hb hts hown hK hP hD hS d_N_empty_2 (fun H locs hP hS => ?_)
  have hP : va_P E.1 vwCl (wb E ad (sV S i (0 : Int32)) ++ X) H := hP
  exact hend _ _ _ _ _ (by rw [s_N_empty]) hP hS d_N_empty_5

def s_N_add (S : St) (i : Nat) (a1 : Int32) : St := (if (S.1 i) < 0 then S else (if (nI (cap i)) ≤ (S.1 i) then S else (sV (sA S i (S.1 i).toNatClampNeg a1) i (((sA S i (S.1 i).toNatClampNeg a1).1 i) + (1 : Int32)))))
set_option maxRecDepth 20000 in
theorem c_N_add (l : Launch) (E : Cx) (ad : Nat → Nat) (X : va_W) (S : St) (A : Nat → Prop) (i : Nat) (hi : i < 16) (a1 : Int32) : Met l y_N_add (Cond.code y_N_add b_N_add 2 none :: TB) (rk 0 0) (va_Pc [.ref (ad (2 * i)), .int a1] (preM E A (fun S => wb E ad S ++ X) S)) (va_Qv (fun u => u = (s_N_add S i a1)) (fun u t => va_P E.1 vwCl ((fun S => wb E ad S ++ X) u) t.heap) A) 0 0 A := by
  refine w_muV rfl (Nat.le_of_ble_eq_true rfl) ?_
  intro p e s m args below meth c Q ls hx hb hml hts hown hP hK hD hS hl hend
  have hl : lv_has ls 2 [(0, .ref (ad (2 * i))), (1, .int a1)] := hl
  have hP : va_P E.1 vwCl (wb E ad S ++ X) s.heap := hP
  have hown : s.vm.findClass R_N = some m.cls := hown
  have hD : ∀ S' : St, va_D A (wb E ad S' ++ X) := hD
  refine lv_aload_n hx hb d_N_add_0 rfl (lv_at hl 0 rfl) ?_
  refine g_N_size hi hx hb hts hown hK hP d_N_add_1 ?_
  refine lv_if_lt (tgt := 39) hx hb d_N_add_4 (by decide) (fun c_4 => ?_) (fun c_4 => ?_)
  · exact hend _ _ _ _ _ (by rw [s_N_add, if_pos c_4]) hP hS d_N_add_39
  · refine lv_aload_n hx hb d_N_add_7 rfl (lv_at hl 0 rfl) ?_
    refine g_N_size hi hx hb hts hown hK hP d_N_add_8 ?_
    refine lv_aload_n hx hb d_N_add_11 rfl (lv_at hl 0 rfl) ?_
    refine g_N_numbers hi hx hb hts hown hK hP d_N_add_12 ?_
    refine n_N_len hi hx hb hK hP d_N_add_15 ?_
    refine lv_icmp_ge (tgt := 39) hx hb d_N_add_16 (by decide) (fun c_16 => ?_) (fun c_16 => ?_)
    · exact hend _ _ _ _ _ (by rw [s_N_add, if_neg c_4, if_pos c_16]) hP hS d_N_add_39
    · refine lv_aload_n hx hb d_N_add_19 rfl (lv_at hl 0 rfl) ?_
      refine g_N_numbers hi hx hb hts hown hK hP d_N_add_20 ?_
      refine lv_aload_n hx hb d_N_add_23 rfl (lv_at hl 0 rfl) ?_
      refine g_N_size hi hx hb hts hown hK hP d_N_add_24 ?_
      refine lv_iload_n hx hb d_N_add_27 rfl (lv_at hl 1 rfl) ?_
      refine a_N hi hx hb hK hP hD hS (vin_c (cap_i i) c_4 c_16) d_N_add_28 (fun H locs hP hS => ?_)
      have hP : va_P E.1 vwCl (wb E ad (sA S i (S.1 i).toNatClampNeg a1) ++ X) H := hP
      refine lv_aload_n hx hb d_N_add_29 rfl (lv_at hl 0 rfl) ?_
      refine lv_dup hx hb d_N_add_30 rfl ?_
      refine g_N_size hi hx hb hts hown hK hP d_N_add_31 ?_
      refine lv_iconst (v := (1 : Int32)) hx hb d_N_add_34 rfl ?_
      refine lv_iadd hx hb d_N_add_35 ?_
      refine p_N_size hi hx hb hts hown hK hP hD hS d_N_add_36 (fun H locs hP hS => ?_)
      have hP : va_P E.1 vwCl (wb E ad (sV (sA S i (S.1 i).toNatClampNeg a1) i (((sA S i (S.1 i).toNatClampNeg a1).1 i) + (1 : Int32))) ++ X) H := hP
      exact hend _ _ _ _ _ (by rw [s_N_add, if_neg c_4, if_neg c_16]) hP hS d_N_add_39
theorem N_add_ne {S : St} {i j : Nat} {x : Int32} (h : i ≠ j) : (s_N_add S i x).1 j = S.1 j := by
  unfold s_N_add
  (repeat' split) <;> first | rfl | simp [sV, sA, sF, upd, Ne.symm h]
theorem N_empty_ne {S : St} {i j : Nat} (h : i ≠ j) : (s_N_empty S i).1 j = S.1 j := by
  unfold s_N_empty
  simp [sV, upd, Ne.symm h]

def s_N_become_b6 (i : Nat) (j : Nat) : Nat → St → Int32 → St
  | 0, Z, _ => Z
  | n + 1, Z, x2 => (if (s_N_size Z j) ≤ x2 then Z else (s_N_become_b6 i j n (s_N_add Z i (s_N_at Z j x2)) (x2 + 1)))
def s_N_become (S : St) (i : Nat) (j : Nat) : St := (s_N_become_b6 i j ((S.1 j).toInt.toNat + 1) (s_N_empty S i) (0 : Int32))
set_option maxRecDepth 20000 in
theorem c_N_become (l : Launch) (E : Cx) (ad : Nat → Nat) (X : va_W) (S : St) (A : Nat → Prop) (i : Nat) (hi : i < 16) (j : Nat) (hj : j < 16) (hij : i ≠ j) : Met l y_N_become (Cond.code y_N_become b_N_become 3 none :: TB) (rk 1 21) (va_Pc [.ref (ad (2 * i)), .ref (ad (2 * j))] (preM E A (fun S => wb E ad S ++ X) S)) (va_Qv (fun u => u = (s_N_become S i j)) (fun u t => va_P E.1 vwCl ((fun S => wb E ad S ++ X) u) t.heap) A) 0 0 A := by
  refine w_muV rfl (Nat.le_of_ble_eq_true rfl) ?_
  intro p e s m args below meth c Q ls hx hb hml hts hown hP hK hD hS hl hend
  have hl : lv_has ls 3 [(0, .ref (ad (2 * i))), (1, .ref (ad (2 * j)))] := hl
  have hP : va_P E.1 vwCl (wb E ad S ++ X) s.heap := hP
  have hown : s.vm.findClass R_N = some m.cls := hown
  have hD : ∀ S' : St, va_D A (wb E ad S' ++ X) := hD
  have b6 : ∀ (n : Nat) (Z : St) (x2 : Int32) (H : Heap) (locs : List Loc), va_P E.1 vwCl (wb E ad Z ++ X) H → va_S A s.heap H locs → (UP n (Z.1 j) x2) → ∀ (ls : Array Slot), lv_has ls 3 [(0, .ref (ad (2 * i))), (1, .ref (ad (2 * j))), (2, .int x2)] → (s_N_become S i j) = s_N_become_b6 i j n Z x2 → W p l e (rk 1 21) s m args below meth c H locs 0 0 Q (F0 m 6 ls []) := by
    intro n6
    induction n6 with
    | zero => intro Z x2 H locs hP hS hv; exact absurd hv (UP_z)
    | succ n6 ih6 =>
      intro Z x2 H locs hP hS hv ls hl hq
      refine lv_iload_n hx hb d_N_become_6 rfl (lv_at hl 2 rfl) ?_
      refine lv_aload_n hx hb d_N_become_7 rfl (lv_at hl 1 rfl) ?_
      refine k_vi (rest := [.int x2]) (c_N_size l E ad X Z j hj) mi_N_size ml_N_20 hx hb hml hts hown hK hP (rvN hj) hl ⟨rfl, rfl⟩ ⟨(Nat.le_of_ble_eq_true rfl), (Nat.le_of_ble_eq_true rfl)⟩ ⟨Nat.zero_le _, Nat.zero_le _⟩ rfl (Nat.le_of_ble_eq_true rfl) rfl d_N_become_8 ?_
      refine lv_icmp_ge (tgt := 29) hx hb d_N_become_11 (by decide) (fun c_11 => ?_) (fun c_11 => ?_)
      · exact hend _ _ _ _ _ (by rw [hq, s_N_become_b6, if_pos c_11]) hP hS d_N_become_29
      · refine lv_aload_n hx hb d_N_become_14 rfl (lv_at hl 0 rfl) ?_
        refine lv_aload_n hx hb d_N_become_15 rfl (lv_at hl 1 rfl) ?_
        refine lv_iload_n hx hb d_N_become_16 rfl (lv_at hl 2 rfl) ?_
        refine k_vi (rest := [.ref (ad (2 * i))]) (c_N_at l E ad X Z j hj x2) mi_N_at ml_N_23 hx hb hml hts hown hK hP (rvN hj) hl ⟨rfl, rfl⟩ ⟨(Nat.le_of_ble_eq_true rfl), (Nat.le_of_ble_eq_true rfl)⟩ ⟨Nat.zero_le _, Nat.zero_le _⟩ rfl (Nat.le_of_ble_eq_true rfl) rfl d_N_become_17 ?_
        refine k_mvv (rest := []) (c_N_add l E ad X Z A i hi (s_N_at Z j x2)) mi_N_add ml_N_27 hx hb hml hts hown hK hP hD hS (rvN hi) hl ⟨rfl, rfl⟩ ⟨(Nat.le_of_ble_eq_true rfl), (Nat.le_of_ble_eq_true rfl)⟩ ⟨Nat.zero_le _, Nat.zero_le _⟩ rfl (Nat.le_of_ble_eq_true rfl) rfl d_N_become_20 (fun H locs hP hS => ?_)
        have hP : va_P E.1 vwCl (wb E ad (s_N_add Z i (s_N_at Z j x2)) ++ X) H := hP
        refine lv_iinc (v := (x2 + 1)) (lv' := [(2, .int (x2 + 1)), (0, .ref (ad (2 * i))), (1, .ref (ad (2 * j)))]) hx hb d_N_become_23 hl (k := 2) rfl rfl (by decide) rfl (fun ls hl => ?_)
        refine lv_goto (tgt := 6) hx hb d_N_become_26 (by decide) ?_
        exact ih6 (s_N_add Z i (s_N_at Z j x2)) (x2 + 1) H locs hP hS (by rw [N_add_ne hij]; exact UP_up hv c_11) ls (lv_sub hl [1, 2, 0] rfl) (by rw [hq, s_N_become_b6, if_neg c_11])
  refine lv_aload_n hx hb d_N_become_0 rfl (lv_at hl 0 rfl) ?_
  refine k_mvv (rest := []) (c_N_empty l E ad X S A i hi) mi_N_empty ml_N_17 hx hb hml hts hown hK hP hD hS (rvN hi) hl ⟨rfl, rfl⟩ ⟨(Nat.le_of_ble_eq_true rfl), (Nat.le_of_ble_eq_true rfl)⟩ ⟨Nat.zero_le _, Nat.zero_le _⟩ rfl (Nat.le_of_ble_eq_true rfl) rfl d_N_become_1 (fun H locs hP hS => ?_)
  have hP : va_P E.1 vwCl (wb E ad (s_N_empty S i) ++ X) H := hP
  refine lv_iconst (v := (0 : Int32)) hx hb d_N_become_4 rfl ?_
  refine lv_istore_n (lv' := [(2, .int (0 : Int32)), (0, .ref (ad (2 * i))), (1, .ref (ad (2 * j)))]) hx hb d_N_become_5 rfl hl (by decide) rfl (fun ls hl => ?_)
  exact b6 ((S.1 j).toInt.toNat + 1) (s_N_empty S i) (0 : Int32) H locs hP hS (by rw [N_empty_ne hij]; exact UP_in (by decide)) ls (lv_sub hl [1, 2, 0] rfl) (by rw [s_N_become])
end
section
/-! by program (wip/whole/cls.py) -/
def s_O_isMissing (S : St) (k : Nat) : Int32 := (if 0 ≤ (S.1 (16 + k)) then (0 : Int32) else (1 : Int32))
theorem z_O_isMissing (S : St) (k : Nat) : (s_O_isMissing S k) = 0 ∨ (s_O_isMissing S k) = 1 := by unfold s_O_isMissing; (repeat' split) <;> first | with_reducible exact Or.inl rfl | with_reducible exact Or.inr rfl
set_option maxRecDepth 20000 in
theorem c_O_isMissing (l : Launch) (E : Cx) (ad : Nat → Nat) (X : va_W) (S : St) (k : Nat) (hk : k < 3) : Met l y_O_isMissing (Cond.code y_O_isMissing b_O_isMissing 1 (some .boolean) :: TB) (rk 0 0) (va_Pc [.ref (ad (32 + 2 * k))] (preR E (wb E ad S ++ X))) (vp_Si (fun r => r = (s_O_isMissing S k))) 0 0 (fun _ => False) := by
  refine w_roI rfl (Nat.le_of_ble_eq_true rfl) (k_nb (z_O_isMissing S k)) ?_
  intro p e s m args below meth c Q ls hx hb hml hts hown hP hK hl hend
  have hl : lv_has ls 1 [(0, .ref (ad (32 + 2 * k)))] := hl
  have hP : va_P E.1 vwCl (wb E ad S ++ X) s.heap := hP
  have hown : s.vm.findClass R_O = some m.cls := hown
  refine lv_aload_n hx hb d_O_isMissing_0 rfl (lv_at hl 0 rfl) ?_
  refine g_O_size hk hx hb hts hown hK hP d_O_isMissing_1 ?_
  refine lv_if_ge (tgt := 11) hx hb d_O_isMissing_4 (by decide) (fun c_4 => ?_) (fun c_4 => ?_)
  · refine lv_iconst (v := (0 : Int32)) hx hb d_O_isMissing_11 rfl ?_
    exact hend _ _ _ (by rw [s_O_isMissing, if_pos c_4]) d_O_isMissing_12
  · refine lv_iconst (v := (1 : Int32)) hx hb d_O_isMissing_7 rfl ?_
    refine lv_goto (tgt := 12) hx hb d_O_isMissing_8 (by decide) ?_
    exact hend _ _ _ (by rw [s_O_isMissing, if_neg c_4]) d_O_isMissing_12

def s_O_size (S : St) (k : Nat) : Int32 := (S.1 (16 + k))
set_option maxRecDepth 20000 in
theorem c_O_size (l : Launch) (E : Cx) (ad : Nat → Nat) (X : va_W) (S : St) (k : Nat) (hk : k < 3) : Met l y_O_size (Cond.code y_O_size b_O_size 1 (some .int) :: TB) (rk 0 0) (va_Pc [.ref (ad (32 + 2 * k))] (preR E (wb E ad S ++ X))) (vp_Si (fun r => r = (s_O_size S k))) 0 0 (fun _ => False) := by
  refine w_roI rfl (Nat.le_of_ble_eq_true rfl) rfl ?_
  intro p e s m args below meth c Q ls hx hb hml hts hown hP hK hl hend
  have hl : lv_has ls 1 [(0, .ref (ad (32 + 2 * k)))] := hl
  have hP : va_P E.1 vwCl (wb E ad S ++ X) s.heap := hP
  have hown : s.vm.findClass R_O = some m.cls := hown
  refine lv_aload_n hx hb d_O_size_0 rfl (lv_at hl 0 rfl) ?_
  refine g_O_size hk hx hb hts hown hK hP d_O_size_1 ?_
  exact hend _ _ _ (by rw [s_O_size]) d_O_size_4

def s_O_hasPlace (S : St) (k : Nat) (a1 : Int32) : Int32 := (if a1 < 0 then (0 : Int32) else (if (S.1 (16 + k)) ≤ a1 then (0 : Int32) else (if (20 : Int32) ≤ a1 then (0 : Int32) else (1 : Int32))))
theorem z_O_hasPlace (S : St) (k : Nat) (a1 : Int32) : (s_O_hasPlace S k a1) = 0 ∨ (s_O_hasPlace S k a1) = 1 := by unfold s_O_hasPlace; (repeat' split) <;> first | with_reducible exact Or.inl rfl | with_reducible exact Or.inr rfl
set_option maxRecDepth 20000 in
theorem c_O_hasPlace (l : Launch) (E : Cx) (ad : Nat → Nat) (X : va_W) (S : St) (k : Nat) (hk : k < 3) (a1 : Int32) : Met l y_O_hasPlace (Cond.code y_O_hasPlace b_O_hasPlace 2 (some .boolean) :: TB) (rk 0 0) (va_Pc [.ref (ad (32 + 2 * k)), .int a1] (preR E (wb E ad S ++ X))) (vp_Si (fun r => r = (s_O_hasPlace S k a1))) 0 0 (fun _ => False) := by
  refine w_roI rfl (Nat.le_of_ble_eq_true rfl) (k_nb (z_O_hasPlace S k a1)) ?_
  intro p e s m args below meth c Q ls hx hb hml hts hown hP hK hl hend
  have hl : lv_has ls 2 [(0, .ref (ad (32 + 2 * k))), (1, .int a1)] := hl
  have hP : va_P E.1 vwCl (wb E ad S ++ X) s.heap := hP
  have hown : s.vm.findClass R_O = some m.cls := hown
  refine lv_iload_n hx hb d_O_hasPlace_0 rfl (lv_at hl 1 rfl) ?_
  refine lv_if_lt (tgt := 25) hx hb d_O_hasPlace_1 (by decide) (fun c_1 => ?_) (fun c_1 => ?_)
  · refine lv_iconst (v := (0 : Int32)) hx hb d_O_hasPlace_25 rfl ?_
    exact hend _ _ _ (by rw [s_O_hasPlace, if_pos c_1]) d_O_hasPlace_26
  · refine lv_iload_n hx hb d_O_hasPlace_4 rfl (lv_at hl 1 rfl) ?_
    refine lv_aload_n hx hb d_O_hasPlace_5 rfl (lv_at hl 0 rfl) ?_
    refine g_O_size hk hx hb hts hown hK hP d_O_hasPlace_6 ?_
    refine lv_icmp_ge (tgt := 25) hx hb d_O_hasPlace_9 (by decide) (fun c_9 => ?_) (fun c_9 => ?_)
    · refine lv_iconst (v := (0 : Int32)) hx hb d_O_hasPlace_25 rfl ?_
      exact hend _ _ _ (by rw [s_O_hasPlace, if_neg c_1, if_pos c_9]) d_O_hasPlace_26
    · refine lv_iload_n hx hb d_O_hasPlace_12 rfl (lv_at hl 1 rfl) ?_
      refine lv_aload_n hx hb d_O_hasPlace_13 rfl (lv_at hl 0 rfl) ?_
      refine g_O_places hk hx hb hts hown hK hP d_O_hasPlace_14 ?_
      refine n_O_len hk hx hb hK hP d_O_hasPlace_17 ?_
      refine lv_icmp_ge (tgt := 25) hx hb d_O_hasPlace_18 (by decide) (fun c_18 => ?_) (fun c_18 => ?_)
      · refine lv_iconst (v := (0 : Int32)) hx hb d_O_hasPlace_25 rfl ?_
        exact hend _ _ _ (by rw [s_O_hasPlace, if_neg c_1, if_neg c_9, if_pos c_18]) d_O_hasPlace_26
      · refine lv_iconst (v := (1 : Int32)) hx hb d_O_hasPlace_21 rfl ?_
        refine lv_goto (tgt := 26) hx hb d_O_hasPlace_22 (by decide) ?_
        exact hend _ _ _ (by rw [s_O_hasPlace, if_neg c_1, if_neg c_9, if_neg c_18]) d_O_hasPlace_26
theorem O_hp_in {S : St} {k : Nat} {x : Int32} (h : ¬ s_O_hasPlace S k x = 0) : vp_in x 20 := by
  unfold s_O_hasPlace at h
  by_cases c1 : x < 0
  · rw [if_pos c1] at h; exact absurd rfl h
  · by_cases c2 : S.1 (16 + k) ≤ x
    · rw [if_neg c1, if_pos c2] at h; exact absurd rfl h
    · by_cases c3 : (20 : Int32) ≤ x
      · rw [if_neg c1, if_neg c2, if_pos c3] at h; exact absurd rfl h
      · exact vin_c (M := 20) (by decide) c1 c3

def s_O_at (S : St) (k : Nat) (a1 : Int32) : Int64 := (if (s_O_hasPlace S k a1) = 0 then (-9223372036854775808 : Int64) else (S.2.2 k a1.toNatClampNeg))
set_option maxRecDepth 20000 in
theorem c_O_at (l : Launch) (E : Cx) (ad : Nat → Nat) (X : va_W) (S : St) (k : Nat) (hk : k < 3) (a1 : Int32) : Met l y_O_at (Cond.code y_O_at b_O_at 2 (some .long) :: TB) (rk 1 21) (va_Pc [.ref (ad (32 + 2 * k)), .int a1] (preR E (wb E ad S ++ X))) (vp_Sl (fun r => r = (s_O_at S k a1))) 0 0 (fun _ => False) := by
  refine w_roL rfl (Nat.le_of_ble_eq_true rfl) ?_
  intro p e s m args below meth c Q ls hx hb hml hts hown hP hK hl hend
  have hl : lv_has ls 2 [(0, .ref (ad (32 + 2 * k))), (1, .int a1)] := hl
  have hP : va_P E.1 vwCl (wb E ad S ++ X) s.heap := hP
  have hown : s.vm.findClass R_O = some m.cls := hown
  refine lv_aload_n hx hb d_O_at_0 rfl (lv_at hl 0 rfl) ?_
  refine lv_iload_n hx hb d_O_at_1 rfl (lv_at hl 1 rfl) ?_
  refine k_vi (rest := []) (c_O_hasPlace l E ad X S k hk a1) mi_O_hasPlace ml_O_19 hx hb hml hts hown hK hP (rvO hk) hl ⟨rfl, rfl⟩ ⟨(Nat.le_of_ble_eq_true rfl), (Nat.le_of_ble_eq_true rfl)⟩ ⟨Nat.zero_le _, Nat.zero_le _⟩ rfl (Nat.le_of_ble_eq_true rfl) rfl d_O_at_2 ?_
  refine lv_if_eq (tgt := 17) hx hb d_O_at_5 (by decide) (fun c_5 => ?_) (fun c_5 => ?_)
  · refine lv_ldc2 (v := (-9223372036854775808 : Int64)) hx hb hown (hts _ kl_O_23) d_O_at_17 ?_
    exact hend _ _ _ (by rw [s_O_at, if_pos c_5]) d_O_at_20
  · refine lv_aload_n hx hb d_O_at_8 rfl (lv_at hl 0 rfl) ?_
    refine g_O_places hk hx hb hts hown hK hP d_O_at_9 ?_
    refine lv_iload_n hx hb d_O_at_12 rfl (lv_at hl 1 rfl) ?_
    refine l_O hk hx hb hK hP (O_hp_in c_5) d_O_at_13 ?_
    refine lv_goto (tgt := 20) hx hb d_O_at_14 (by decide) ?_
    exact hend _ _ _ (by rw [s_O_at, if_neg c_5]) d_O_at_20

def s_O_set (S : St) (k : Nat) (a1 : Int32) (a2 : Int64) : Int32 × St := (if (s_O_hasPlace S k a1) = 0 then ((s_O_hasPlace S k a1), S) else ((s_O_hasPlace S k a1), (sL S k a1.toNatClampNeg a2)))
theorem z_O_set (S : St) (k : Nat) (a1 : Int32) (a2 : Int64) : (s_O_set S k a1 a2).1 = 0 ∨ (s_O_set S k a1 a2).1 = 1 := by unfold s_O_set; (repeat' split) <;> first | with_reducible exact Or.inl rfl | with_reducible exact Or.inr rfl | with_reducible apply z_O_hasPlace
set_option maxRecDepth 20000 in
theorem c_O_set (l : Launch) (E : Cx) (ad : Nat → Nat) (X : va_W) (S : St) (A : Nat → Prop) (k : Nat) (hk : k < 3) (a1 : Int32) (a2 : Int64) : Met l y_O_set (Cond.code y_O_set b_O_set 5 (some .boolean) :: TB) (rk 1 21) (va_Pc [.ref (ad (32 + 2 * k)), .int a1, .long a2] (preM E A (fun S => wb E ad S ++ X) S)) (va_Qi (fun r u => (r, u) = (s_O_set S k a1 a2)) (fun u t => va_P E.1 vwCl ((fun S => wb E ad S ++ X) u) t.heap) A) 0 0 A := by
  refine w_muI rfl (Nat.le_of_ble_eq_true rfl) (k_nb (z_O_set S k a1 a2)) ?_
  intro p e s m args below meth c Q ls hx hb hml hts hown hP hK hD hS hl hend
  have hl : lv_has ls 5 [(0, .ref (ad (32 + 2 * k))), (1, .int a1), (2, .long a2)] := hl
  have hP : va_P E.1 vwCl (wb E ad S ++ X) s.heap := hP
  have hown : s.vm.findClass R_O = some m.cls := hown
  have hD : ∀ S' : St, va_D A (wb E ad S' ++ X) := hD
  refine lv_aload_n hx hb d_O_set_0 rfl (lv_at hl 0 rfl) ?_
  refine lv_iload_n hx hb d_O_set_1 rfl (lv_at hl 1 rfl) ?_
  refine k_vi (rest := []) (c_O_hasPlace l E ad X S k hk a1) mi_O_hasPlace ml_O_19 hx hb hml hts hown hK hP (rvO hk) hl ⟨rfl, rfl⟩ ⟨(Nat.le_of_ble_eq_true rfl), (Nat.le_of_ble_eq_true rfl)⟩ ⟨Nat.zero_le _, Nat.zero_le _⟩ rfl (Nat.le_of_ble_eq_true rfl) rfl d_O_set_2 ?_
  refine lv_istore (lv' := [(4, .int (s_O_hasPlace S k a1)), (0, .ref (ad (32 + 2 * k))), (1, .int a1), (2, .long a2)]) hx hb d_O_set_5 hl (by decide) rfl (fun ls hl => ?_)
  refine lv_iload hx hb d_O_set_7 (lv_at hl 0 rfl) ?_
  refine lv_if_eq (tgt := 19) hx hb d_O_set_9 (by decide) (fun c_9 => ?_) (fun c_9 => ?_)
  · refine lv_iload hx hb d_O_set_19 (lv_at hl 0 rfl) ?_
    exact hend _ _ _ _ _ _ (by rw [s_O_set, if_pos c_9]) hP hS d_O_set_21
  · refine lv_aload_n hx hb d_O_set_12 rfl (lv_at hl 1 rfl) ?_
    refine g_O_places hk hx hb hts hown hK hP d_O_set_13 ?_
    refine lv_iload_n hx hb d_O_set_16 rfl (lv_at hl 2 rfl) ?_
    refine lv_lload_n hx hb d_O_set_17 rfl (lv_at hl 3 rfl) ?_
    refine a_O hk hx hb hK hP hD hS (O_hp_in c_9) d_O_set_18 (fun H locs hP hS => ?_)
    have hP : va_P E.1 vwCl (wb E ad (sL S k a1.toNatClampNeg a2) ++ X) H := hP
    refine lv_iload hx hb d_O_set_19 (lv_at hl 0 rfl) ?_
    exact hend _ _ _ _ _ _ (by rw [s_O_set, if_neg c_9]) hP hS d_O_set_21

def s_O_resize_b23 (k : Nat) : Nat → St → Int32 → Int32 × St
  | 0, Z, _ => (0, Z)
  | n + 1, Z, x2 => (if (20 : Int32) ≤ x2 then ((1 : Int32), Z) else (s_O_resize_b23 k n (sL Z k x2.toNatClampNeg (0 : Int64)) (x2 + 1)))
def s_O_resize (S : St) (k : Nat) (a1 : Int32) : Int32 × St := (if a1 < (-1 : Int32) then ((0 : Int32), S) else (if a1 ≤ (20 : Int32) then (s_O_resize_b23 k (21) (sV S (16 + k) a1) (0 : Int32)) else ((0 : Int32), S)))
theorem z_O_resize_b23 (k : Nat) (n : Nat) (Z : St) (x2 : Int32) : (s_O_resize_b23 k n Z x2).1 = 0 ∨ (s_O_resize_b23 k n Z x2).1 = 1 := by
  induction n generalizing Z x2 with
  | zero => exact Or.inl rfl
  | succ n ih => unfold s_O_resize_b23; (repeat' split) <;> first | with_reducible exact Or.inl rfl | with_reducible exact Or.inr rfl | with_reducible apply ih
theorem z_O_resize (S : St) (k : Nat) (a1 : Int32) : (s_O_resize S k a1).1 = 0 ∨ (s_O_resize S k a1).1 = 1 := by unfold s_O_resize; (repeat' split) <;> first | with_reducible exact Or.inl rfl | with_reducible exact Or.inr rfl | with_reducible apply z_O_resize_b23
set_option maxRecDepth 20000 in
theorem c_O_resize (l : Launch) (E : Cx) (ad : Nat → Nat) (X : va_W) (S : St) (A : Nat → Prop) (k : Nat) (hk : k < 3) (a1 : Int32) : Met l y_O_resize (Cond.code y_O_resize b_O_resize 3 (some .boolean) :: TB) (rk 0 0) (va_Pc [.ref (ad (32 + 2 * k)), .int a1] (preM E A (fun S => wb E ad S ++ X) S)) (va_Qi (fun r u => (r, u) = (s_O_resize S k a1)) (fun u t => va_P E.1 vwCl ((fun S => wb E ad S ++ X) u) t.heap) A) 0 0 A := by
  refine w_muI rfl (Nat.le_of_ble_eq_true rfl) (k_nb (z_O_resize S k a1)) ?_
  intro p e s m args below meth c Q ls hx hb hml hts hown hP hK hD hS hl hend
  have hl : lv_has ls 3 [(0, .ref (ad (32 + 2 * k))), (1, .int a1)] := hl
  have hP : va_P E.1 vwCl (wb E ad S ++ X) s.heap := hP
  have hown : s.vm.findClass R_O = some m.cls := hown
  have hD : ∀ S' : St, va_D A (wb E ad S' ++ X) := hD
  have b23 : ∀ (n : Nat) (Z : St) (x2 : Int32) (H : Heap) (locs : List Loc), va_P E.1 vwCl (wb E ad Z ++ X) H → va_S A s.heap H locs → (UP n 20 x2) → ∀ (ls : Array Slot), lv_has ls 3 [(0, .ref (ad (32 + 2 * k))), (2, .int x2)] → (s_O_resize S k a1) = s_O_resize_b23 k n Z x2 → W p l e (rk 0 0) s m args below meth c H locs 0 0 Q (F0 m 23 ls []) := by
    intro n23
    induction n23 with
    | zero => intro Z x2 H locs hP hS hv; exact absurd hv (UP_z)
    | succ n23 ih23 =>
      intro Z x2 H locs hP hS hv ls hl hq
      refine lv_iload_n hx hb d_O_resize_23 rfl (lv_at hl 1 rfl) ?_
      refine lv_aload_n hx hb d_O_resize_24 rfl (lv_at hl 0 rfl) ?_
      refine g_O_places hk hx hb hts hown hK hP d_O_resize_25 ?_
      refine n_O_len hk hx hb hK hP d_O_resize_28 ?_
      refine lv_icmp_ge (tgt := 45) hx hb d_O_resize_29 (by decide) (fun c_29 => ?_) (fun c_29 => ?_)
      · refine lv_iconst (v := (1 : Int32)) hx hb d_O_resize_45 rfl ?_
        exact hend _ _ _ _ _ _ (by rw [hq, s_O_resize_b23, if_pos c_29]) hP hS d_O_resize_46
      · refine lv_aload_n hx hb d_O_resize_32 rfl (lv_at hl 0 rfl) ?_
        refine g_O_places hk hx hb hts hown hK hP d_O_resize_33 ?_
        refine lv_iload_n hx hb d_O_resize_36 rfl (lv_at hl 1 rfl) ?_
        refine lv_lconst (v := (0 : Int64)) hx hb d_O_resize_37 rfl ?_
        refine a_O hk hx hb hK hP hD hS (vin_p (M := 20) (by decide) hv.2.2 c_29) d_O_resize_38 (fun H locs hP hS => ?_)
        have hP : va_P E.1 vwCl (wb E ad (sL Z k x2.toNatClampNeg (0 : Int64)) ++ X) H := hP
        refine lv_iinc (v := (x2 + 1)) (lv' := [(2, .int (x2 + 1)), (0, .ref (ad (32 + 2 * k)))]) hx hb d_O_resize_39 hl (k := 1) rfl rfl (by decide) rfl (fun ls hl => ?_)
        refine lv_goto (tgt := 23) hx hb d_O_resize_42 (by decide) ?_
        exact ih23 (sL Z k x2.toNatClampNeg (0 : Int64)) (x2 + 1) H locs hP hS (UP_up hv c_29) ls (lv_sub hl [1, 0] rfl) (by rw [hq, s_O_resize_b23, if_neg c_29])
  refine lv_iload_n hx hb d_O_resize_0 rfl (lv_at hl 1 rfl) ?_
  refine lv_iconst (v := (-1 : Int32)) hx hb d_O_resize_1 rfl ?_
  refine lv_icmp_lt (tgt := 14) hx hb d_O_resize_2 (by decide) (fun c_2 => ?_) (fun c_2 => ?_)
  · refine lv_iconst (v := (0 : Int32)) hx hb d_O_resize_14 rfl ?_
    exact hend _ _ _ _ _ _ (by rw [s_O_resize, if_pos c_2]) hP hS d_O_resize_15
  · refine lv_iload_n hx hb d_O_resize_5 rfl (lv_at hl 1 rfl) ?_
    refine lv_aload_n hx hb d_O_resize_6 rfl (lv_at hl 0 rfl) ?_
    refine g_O_places hk hx hb hts hown hK hP d_O_resize_7 ?_
    refine n_O_len hk hx hb hK hP d_O_resize_10 ?_
    refine lv_icmp_le (tgt := 16) hx hb d_O_resize_11 (by decide) (fun c_11 => ?_) (fun c_11 => ?_)
    · refine lv_aload_n hx hb d_O_resize_16 rfl (lv_at hl 0 rfl) ?_
      refine lv_iload_n hx hb d_O_resize_17 rfl (lv_at hl 1 rfl) ?_
      refine p_O_size hk hx hb hts hown hK hP hD hS d_O_resize_18 (fun H locs hP hS => ?_)
      have hP : va_P E.1 vwCl (wb E ad (sV S (16 + k) a1) ++ X) H := hP
      refine lv_iconst (v := (0 : Int32)) hx hb d_O_resize_21 rfl ?_
      refine lv_istore_n (lv' := [(2, .int (0 : Int32)), (0, .ref (ad (32 + 2 * k))), (1, .int a1)]) hx hb d_O_resize_22 rfl hl (by decide) rfl (fun ls hl => ?_)
      exact b23 (21) (sV S (16 + k) a1) (0 : Int32) H locs hP hS (UP_in' (by decide) (by decide)) ls (lv_sub hl [1, 0] rfl) (by rw [s_O_resize, if_neg c_2, if_pos c_11])
    · refine lv_iconst (v := (0 : Int32)) hx hb d_O_resize_14 rfl ?_
      exact hend _ _ _ _ _ _ (by rw [s_O_resize, if_neg c_2, if_neg c_11]) hP hS d_O_resize_15
end
section
/-! by program (wip/whole/cls.py) -/
def s_P_isOutward (a0 : Int32) : Int32 := (if a0 < (5 : Int32) then (0 : Int32) else (if (99 : Int32) < a0 then (0 : Int32) else (1 : Int32)))
theorem z_P_isOutward (a0 : Int32) : (s_P_isOutward a0) = 0 ∨ (s_P_isOutward a0) = 1 := by unfold s_P_isOutward; (repeat' split) <;> first | with_reducible exact Or.inl rfl | with_reducible exact Or.inr rfl
set_option maxRecDepth 20000 in
theorem c_P_isOutward (l : Launch) (E : Cx) (a0 : Int32) : Met l y_P_isOutward (Cond.code y_P_isOutward b_P_isOutward 1 (some .boolean) :: TB) (rk 0 0) (va_Pc [.int a0] (preR E [])) (vp_Si (fun r => r = (s_P_isOutward a0))) 0 0 (fun _ => False) := by
  refine w_roI rfl (Nat.le_of_ble_eq_true rfl) (k_nb (z_P_isOutward a0)) ?_
  intro p e s m args below meth c Q ls hx hb hml hts hown hP hK hl hend
  have hl : lv_has ls 1 [(0, .int a0)] := hl
  have hown : s.vm.findClass R_P = some m.cls := hown
  refine lv_iload_n hx hb d_P_isOutward_0 rfl (lv_at hl 0 rfl) ?_
  refine lv_iconst (v := (5 : Int32)) hx hb d_P_isOutward_1 rfl ?_
  refine lv_icmp_lt (tgt := 15) hx hb d_P_isOutward_2 (by decide) (fun c_2 => ?_) (fun c_2 => ?_)
  · refine lv_iconst (v := (0 : Int32)) hx hb d_P_isOutward_15 rfl ?_
    exact hend _ _ _ (by rw [s_P_isOutward, if_pos c_2]) d_P_isOutward_16
  · refine lv_iload_n hx hb d_P_isOutward_5 rfl (lv_at hl 0 rfl) ?_
    refine lv_bipush (v := (99 : Int32)) hx hb d_P_isOutward_6 rfl ?_
    refine lv_icmp_gt (tgt := 15) hx hb d_P_isOutward_8 (by decide) (fun c_8 => ?_) (fun c_8 => ?_)
    · refine lv_iconst (v := (0 : Int32)) hx hb d_P_isOutward_15 rfl ?_
      exact hend _ _ _ (by rw [s_P_isOutward, if_neg c_2, if_pos c_8]) d_P_isOutward_16
    · refine lv_iconst (v := (1 : Int32)) hx hb d_P_isOutward_11 rfl ?_
      refine lv_goto (tgt := 16) hx hb d_P_isOutward_12 (by decide) ?_
      exact hend _ _ _ (by rw [s_P_isOutward, if_neg c_2, if_neg c_8]) d_P_isOutward_16

def s_P_isTeeth (a0 : Int32) : Int32 := (if (s_P_isOutward a0) = 0 then (if a0 < (-99 : Int32) then (0 : Int32) else (if (-20 : Int32) < a0 then (0 : Int32) else (1 : Int32))) else (1 : Int32))
theorem z_P_isTeeth (a0 : Int32) : (s_P_isTeeth a0) = 0 ∨ (s_P_isTeeth a0) = 1 := by unfold s_P_isTeeth; (repeat' split) <;> first | with_reducible exact Or.inl rfl | with_reducible exact Or.inr rfl | with_reducible apply z_P_isOutward
set_option maxRecDepth 20000 in
theorem c_P_isTeeth (l : Launch) (E : Cx) (a0 : Int32) : Met l y_P_isTeeth (Cond.code y_P_isTeeth b_P_isTeeth 1 (some .boolean) :: TB) (rk 1 20) (va_Pc [.int a0] (preR E [])) (vp_Si (fun r => r = (s_P_isTeeth a0))) 0 0 (fun _ => False) := by
  refine w_roI rfl (Nat.le_of_ble_eq_true rfl) (k_nb (z_P_isTeeth a0)) ?_
  intro p e s m args below meth c Q ls hx hb hml hts hown hP hK hl hend
  have hl : lv_has ls 1 [(0, .int a0)] := hl
  have hown : s.vm.findClass R_P = some m.cls := hown
  refine lv_iload_n hx hb d_P_isTeeth_0 rfl (lv_at hl 0 rfl) ?_
  refine k_si (rest := []) (c_P_isOutward l E a0) mi_P_isOutward ml_P_142 hx hb hml hts hown hK va_nil hl ⟨rfl, rfl⟩ ⟨(Nat.le_of_ble_eq_true rfl), (Nat.le_of_ble_eq_true rfl)⟩ ⟨Nat.zero_le _, Nat.zero_le _⟩ rfl (Nat.le_of_ble_eq_true rfl) rfl d_P_isTeeth_1 ?_
  refine lv_if_ne (tgt := 19) hx hb d_P_isTeeth_4 (by decide) (fun c_4 => ?_) (fun c_4 => ?_)
  · refine lv_iconst (v := (1 : Int32)) hx hb d_P_isTeeth_19 rfl ?_
    refine lv_goto (tgt := 24) hx hb d_P_isTeeth_20 (by decide) ?_
    exact hend _ _ _ (by rw [s_P_isTeeth, if_neg c_4]) d_P_isTeeth_24
  · refine lv_iload_n hx hb d_P_isTeeth_7 rfl (lv_at hl 0 rfl) ?_
    refine lv_bipush (v := (-99 : Int32)) hx hb d_P_isTeeth_8 rfl ?_
    refine lv_icmp_lt (tgt := 23) hx hb d_P_isTeeth_10 (by decide) (fun c_10 => ?_) (fun c_10 => ?_)
    · refine lv_iconst (v := (0 : Int32)) hx hb d_P_isTeeth_23 rfl ?_
      exact hend _ _ _ (by rw [s_P_isTeeth, if_pos c_4, if_pos c_10]) d_P_isTeeth_24
    · refine lv_iload_n hx hb d_P_isTeeth_13 rfl (lv_at hl 0 rfl) ?_
      refine lv_bipush (v := (-20 : Int32)) hx hb d_P_isTeeth_14 rfl ?_
      refine lv_icmp_gt (tgt := 23) hx hb d_P_isTeeth_16 (by decide) (fun c_16 => ?_) (fun c_16 => ?_)
      · refine lv_iconst (v := (0 : Int32)) hx hb d_P_isTeeth_23 rfl ?_
        exact hend _ _ _ (by rw [s_P_isTeeth, if_pos c_4, if_neg c_10, if_pos c_16]) d_P_isTeeth_24
      · refine lv_iconst (v := (1 : Int32)) hx hb d_P_isTeeth_19 rfl ?_
        refine lv_goto (tgt := 24) hx hb d_P_isTeeth_20 (by decide) ?_
        exact hend _ _ _ (by rw [s_P_isTeeth, if_pos c_4, if_neg c_10, if_neg c_16]) d_P_isTeeth_24

def s_P_isShift (a0 : Int32) : Int32 := (if a0 < (-50 : Int32) then (0 : Int32) else (if (100 : Int32) < a0 then (0 : Int32) else (1 : Int32)))
theorem z_P_isShift (a0 : Int32) : (s_P_isShift a0) = 0 ∨ (s_P_isShift a0) = 1 := by unfold s_P_isShift; (repeat' split) <;> first | with_reducible exact Or.inl rfl | with_reducible exact Or.inr rfl
set_option maxRecDepth 20000 in
theorem c_P_isShift (l : Launch) (E : Cx) (a0 : Int32) : Met l y_P_isShift (Cond.code y_P_isShift b_P_isShift 1 (some .boolean) :: TB) (rk 0 0) (va_Pc [.int a0] (preR E [])) (vp_Si (fun r => r = (s_P_isShift a0))) 0 0 (fun _ => False) := by
  refine w_roI rfl (Nat.le_of_ble_eq_true rfl) (k_nb (z_P_isShift a0)) ?_
  intro p e s m args below meth c Q ls hx hb hml hts hown hP hK hl hend
  have hl : lv_has ls 1 [(0, .int a0)] := hl
  have hown : s.vm.findClass R_P = some m.cls := hown
  refine lv_iload_n hx hb d_P_isShift_0 rfl (lv_at hl 0 rfl) ?_
  refine lv_bipush (v := (-50 : Int32)) hx hb d_P_isShift_1 rfl ?_
  refine lv_icmp_lt (tgt := 16) hx hb d_P_isShift_3 (by decide) (fun c_3 => ?_) (fun c_3 => ?_)
  · refine lv_iconst (v := (0 : Int32)) hx hb d_P_isShift_16 rfl ?_
    exact hend _ _ _ (by rw [s_P_isShift, if_pos c_3]) d_P_isShift_17
  · refine lv_iload_n hx hb d_P_isShift_6 rfl (lv_at hl 0 rfl) ?_
    refine lv_bipush (v := (100 : Int32)) hx hb d_P_isShift_7 rfl ?_
    refine lv_icmp_gt (tgt := 16) hx hb d_P_isShift_9 (by decide) (fun c_9 => ?_) (fun c_9 => ?_)
    · refine lv_iconst (v := (0 : Int32)) hx hb d_P_isShift_16 rfl ?_
      exact hend _ _ _ (by rw [s_P_isShift, if_neg c_3, if_pos c_9]) d_P_isShift_17
    · refine lv_iconst (v := (1 : Int32)) hx hb d_P_isShift_12 rfl ?_
      refine lv_goto (tgt := 17) hx hb d_P_isShift_13 (by decide) ?_
      exact hend _ _ _ (by rw [s_P_isShift, if_neg c_3, if_neg c_9]) d_P_isShift_17

def s_P_isPart (a0 : Int32) : Int32 := (if a0 = 0 then (1 : Int32) else (if a0 = (1 : Int32) then (1 : Int32) else (0 : Int32)))
theorem z_P_isPart (a0 : Int32) : (s_P_isPart a0) = 0 ∨ (s_P_isPart a0) = 1 := by unfold s_P_isPart; (repeat' split) <;> first | with_reducible exact Or.inl rfl | with_reducible exact Or.inr rfl
set_option maxRecDepth 20000 in
theorem c_P_isPart (l : Launch) (E : Cx) (a0 : Int32) : Met l y_P_isPart (Cond.code y_P_isPart b_P_isPart 1 (some .boolean) :: TB) (rk 0 0) (va_Pc [.int a0] (preR E [])) (vp_Si (fun r => r = (s_P_isPart a0))) 0 0 (fun _ => False) := by
  refine w_roI rfl (Nat.le_of_ble_eq_true rfl) (k_nb (z_P_isPart a0)) ?_
  intro p e s m args below meth c Q ls hx hb hml hts hown hP hK hl hend
  have hl : lv_has ls 1 [(0, .int a0)] := hl
  have hown : s.vm.findClass R_P = some m.cls := hown
  refine lv_iload_n hx hb d_P_isPart_0 rfl (lv_at hl 0 rfl) ?_
  refine lv_if_eq (tgt := 9) hx hb d_P_isPart_1 (by decide) (fun c_1 => ?_) (fun c_1 => ?_)
  · refine lv_iconst (v := (1 : Int32)) hx hb d_P_isPart_9 rfl ?_
    refine lv_goto (tgt := 14) hx hb d_P_isPart_10 (by decide) ?_
    exact hend _ _ _ (by rw [s_P_isPart, if_pos c_1]) d_P_isPart_14
  · refine lv_iload_n hx hb d_P_isPart_4 rfl (lv_at hl 0 rfl) ?_
    refine lv_iconst (v := (1 : Int32)) hx hb d_P_isPart_5 rfl ?_
    refine lv_icmp_ne (tgt := 13) hx hb d_P_isPart_6 (by decide) (fun c_6 => ?_) (fun c_6 => ?_)
    · refine lv_iconst (v := (0 : Int32)) hx hb d_P_isPart_13 rfl ?_
      exact hend _ _ _ (by rw [s_P_isPart, if_neg c_1, if_neg c_6]) d_P_isPart_14
    · refine lv_iconst (v := (1 : Int32)) hx hb d_P_isPart_9 rfl ?_
      refine lv_goto (tgt := 14) hx hb d_P_isPart_10 (by decide) ?_
      exact hend _ _ _ (by rw [s_P_isPart, if_neg c_1, if_pos c_6]) d_P_isPart_14

def s_P_commonDivisor_b9 : Nat → Int64 → Int64 → Int32 → Int64
  | 0, _, _, _ => 0
  | n + 1, x4, x6, x8 => (if (200 : Int32) ≤ x8 then x4 else (if (lg_cmp x6 (0 : Int64)) = 0 then x4 else (s_P_commonDivisor_b9 n x6 (x4 - x4 / x6 * x6) (x8 + 1))))
def s_P_commonDivisor (a0 : Int64) (a2 : Int64) : Int64 := (s_P_commonDivisor_b9 (201) a0 a2 (0 : Int32))
set_option maxRecDepth 20000 in
theorem c_P_commonDivisor (l : Launch) (E : Cx) (a0 : Int64) (a2 : Int64) : Met l y_P_commonDivisor (Cond.code y_P_commonDivisor b_P_commonDivisor 11 (some .long) :: TB) (rk 0 0) (va_Pc [.long a0, .long a2] (preR E [])) (vp_Sl (fun r => r = (s_P_commonDivisor a0 a2))) 0 0 (fun _ => False) := by
  refine w_roL rfl (Nat.le_of_ble_eq_true rfl) ?_
  intro p e s m args below meth c Q ls hx hb hml hts hown hP hK hl hend
  have hl : lv_has ls 11 [(0, .long a0), (2, .long a2)] := hl
  have hown : s.vm.findClass R_P = some m.cls := hown
  have b9 : ∀ (n : Nat) (x4 : Int64) (x6 : Int64) (x8 : Int32), (UP n 200 x8) → ∀ (ls : Array Slot), lv_has ls 11 [(4, .long x4), (6, .long x6), (8, .int x8)] → (s_P_commonDivisor a0 a2) = s_P_commonDivisor_b9 n x4 x6 x8 → W p l e (rk 0 0) s m args below meth c s.heap [] 0 0 Q (F0 m 9 ls []) := by
    intro n9
    induction n9 with
    | zero => intro x4 x6 x8 hv; exact absurd hv (UP_z)
    | succ n9 ih9 =>
      intro x4 x6 x8 hv ls hl hq
      refine lv_iload hx hb d_P_commonDivisor_9 (lv_at hl 2 rfl) ?_
      refine lv_sipush (v := (200 : Int32)) hx hb d_P_commonDivisor_11 rfl ?_
      refine lv_icmp_ge (tgt := 45) hx hb d_P_commonDivisor_14 (by decide) (fun c_14 => ?_) (fun c_14 => ?_)
      · refine lv_lload hx hb d_P_commonDivisor_45 (lv_at hl 0 rfl) ?_
        exact hend _ _ _ (by rw [hq, s_P_commonDivisor_b9, if_pos c_14]) d_P_commonDivisor_47
      · refine lv_lload hx hb d_P_commonDivisor_17 (lv_at hl 1 rfl) ?_
        refine lv_lconst (v := (0 : Int64)) hx hb d_P_commonDivisor_19 rfl ?_
        refine W.lcmp hx hb d_P_commonDivisor_20 ?_
        refine lv_if_eq (tgt := 45) hx hb d_P_commonDivisor_21 (by decide) (fun c_21 => ?_) (fun c_21 => ?_)
        · refine lv_lload hx hb d_P_commonDivisor_45 (lv_at hl 0 rfl) ?_
          exact hend _ _ _ (by rw [hq, s_P_commonDivisor_b9, if_neg c_14, if_pos c_21]) d_P_commonDivisor_47
        · refine lv_lload hx hb d_P_commonDivisor_24 (lv_at hl 0 rfl) ?_
          refine lv_lload hx hb d_P_commonDivisor_26 (lv_at hl 1 rfl) ?_
          refine lv_lrem hx hb d_P_commonDivisor_28 (lcmp_ne c_21) ?_
          refine lv_lstore (lv' := [(9, .long (x4 - x4 / x6 * x6)), (4, .long x4), (6, .long x6), (8, .int x8)]) hx hb d_P_commonDivisor_29 hl (by decide) rfl (fun ls hl => ?_)
          refine lv_lload hx hb d_P_commonDivisor_31 (lv_at hl 2 rfl) ?_
          refine lv_lstore (lv' := [(4, .long x6), (9, .long (x4 - x4 / x6 * x6)), (6, .long x6), (8, .int x8)]) hx hb d_P_commonDivisor_33 hl (by decide) rfl (fun ls hl => ?_)
          refine lv_lload hx hb d_P_commonDivisor_35 (lv_at hl 1 rfl) ?_
          refine lv_lstore (lv' := [(6, .long (x4 - x4 / x6 * x6)), (4, .long x6), (9, .long (x4 - x4 / x6 * x6)), (8, .int x8)]) hx hb d_P_commonDivisor_37 hl (by decide) rfl (fun ls hl => ?_)
          refine lv_iinc (v := (x8 + 1)) (lv' := [(8, .int (x8 + 1)), (6, .long (x4 - x4 / x6 * x6)), (4, .long x6), (9, .long (x4 - x4 / x6 * x6))]) hx hb d_P_commonDivisor_39 hl (k := 3) rfl rfl (by decide) rfl (fun ls hl => ?_)
          refine lv_goto (tgt := 9) hx hb d_P_commonDivisor_42 (by decide) ?_
          exact ih9 x6 (x4 - x4 / x6 * x6) (x8 + 1) (UP_up hv c_14) ls (lv_sub hl [2, 1, 0] rfl) (by rw [hq, s_P_commonDivisor_b9, if_neg c_14, if_neg c_21])
  refine lv_lload_n hx hb d_P_commonDivisor_0 rfl (lv_at hl 0 rfl) ?_
  refine lv_lstore (lv' := [(4, .long a0), (0, .long a0), (2, .long a2)]) hx hb d_P_commonDivisor_1 hl (by decide) rfl (fun ls hl => ?_)
  refine lv_lload_n hx hb d_P_commonDivisor_3 rfl (lv_at hl 2 rfl) ?_
  refine lv_lstore (lv' := [(6, .long a2), (4, .long a0), (0, .long a0), (2, .long a2)]) hx hb d_P_commonDivisor_4 hl (by decide) rfl (fun ls hl => ?_)
  refine lv_iconst (v := (0 : Int32)) hx hb d_P_commonDivisor_6 rfl ?_
  refine lv_istore (lv' := [(8, .int (0 : Int32)), (6, .long a2), (4, .long a0), (0, .long a0), (2, .long a2)]) hx hb d_P_commonDivisor_7 hl (by decide) rfl (fun ls hl => ?_)
  exact b9 (201) a0 a2 (0 : Int32) (UP_in' (by decide) (by decide)) ls (lv_sub hl [2, 1, 0] rfl) (by rw [s_P_commonDivisor])

def s_P_partOf_b20 (x5 : Int64) (t0 : Int64) : Int64 := (if (lg_cmp x5 (1 : Int64)) ≤ 0 then t0 else (t0 / x5))
def s_P_partOf (a0 : Int64) (a2 : Int64) (a4 : Int32) : Int64 := (if a4 = 0 then (s_P_partOf_b20 (s_P_commonDivisor (if 0 < a0 then a0 else -a0) a2) a0) else (s_P_partOf_b20 (s_P_commonDivisor (if 0 < a0 then a0 else -a0) a2) a2))
set_option maxRecDepth 20000 in
theorem c_P_partOf (l : Launch) (E : Cx) (a0 : Int64) (a2 : Int64) (a4 : Int32) : Met l y_P_partOf (Cond.code y_P_partOf b_P_partOf 9 (some .long) :: TB) (rk 1 30) (va_Pc [.long a0, .long a2, .int a4] (preR E [])) (vp_Sl (fun r => r = (s_P_partOf a0 a2 a4))) 0 0 (fun _ => False) := by
  refine w_roL rfl (Nat.le_of_ble_eq_true rfl) ?_
  intro p e s m args below meth c Q ls hx hb hml hts hown hP hK hl hend
  have hl : lv_has ls 9 [(0, .long a0), (2, .long a2), (4, .int a4)] := hl
  have hown : s.vm.findClass R_P = some m.cls := hown
  have b20 : ∀ (x5 : Int64) (t0 : Int64), ∀ (ls : Array Slot), lv_has ls 9 [(5, .long x5)] → (s_P_partOf a0 a2 a4) = s_P_partOf_b20 x5 t0 → W p l e (rk 1 30) s m args below meth c s.heap [] 0 0 Q (F0 m 20 ls [.long t0]) := by
    intro x5 t0 ls hl hq
    refine lv_lstore (lv' := [(7, .long t0), (5, .long x5)]) hx hb d_P_partOf_20 hl (by decide) rfl (fun ls hl => ?_)
    refine lv_lload hx hb d_P_partOf_22 (lv_at hl 1 rfl) ?_
    refine lv_lconst (v := (1 : Int64)) hx hb d_P_partOf_24 rfl ?_
    refine W.lcmp hx hb d_P_partOf_25 ?_
    refine lv_if_le (tgt := 37) hx hb d_P_partOf_26 (by decide) (fun c_26 => ?_) (fun c_26 => ?_)
    · refine lv_lload hx hb d_P_partOf_37 (lv_at hl 0 rfl) ?_
      exact hend _ _ _ (by rw [hq, s_P_partOf_b20, if_pos c_26]) d_P_partOf_39
    · refine lv_lload hx hb d_P_partOf_29 (lv_at hl 0 rfl) ?_
      refine lv_lload hx hb d_P_partOf_31 (lv_at hl 1 rfl) ?_
      refine lv_ldiv hx hb d_P_partOf_33 (lcmp_gt1 c_26) ?_
      refine lv_goto (tgt := 39) hx hb d_P_partOf_34 (by decide) ?_
      exact hend _ _ _ (by rw [hq, s_P_partOf_b20, if_neg c_26]) d_P_partOf_39
  refine lv_lload_n hx hb d_P_partOf_0 rfl (lv_at hl 0 rfl) ?_
  refine va_mabs_long hx hb (hml.trans hl.1.symm) hown (hts _ ml_P_244) (hts _ st_mabsl) (hts _ iz_Math) (hts _ co_mabsl) (Nat.le_of_ble_eq_true rfl) (Nat.le_of_ble_eq_true rfl) (Nat.zero_le _) (Nat.zero_le _) d_P_partOf_1 ?_
  refine lv_lload_n hx hb d_P_partOf_4 rfl (lv_at hl 1 rfl) ?_
  refine k_sl (rest := []) (c_P_commonDivisor l E (if 0 < a0 then a0 else -a0) a2) mi_P_commonDivisor ml_P_248 hx hb hml hts hown hK va_nil hl ⟨rfl, rfl⟩ ⟨(Nat.le_of_ble_eq_true rfl), (Nat.le_of_ble_eq_true rfl)⟩ ⟨Nat.zero_le _, Nat.zero_le _⟩ rfl (Nat.le_of_ble_eq_true rfl) rfl d_P_partOf_5 ?_
  refine lv_lstore (lv' := [(5, .long (s_P_commonDivisor (if 0 < a0 then a0 else -a0) a2)), (0, .long a0), (2, .long a2), (4, .int a4)]) hx hb d_P_partOf_8 hl (by decide) rfl (fun ls hl => ?_)
  refine lv_iload hx hb d_P_partOf_10 (lv_at hl 3 rfl) ?_
  refine lv_if_ne (tgt := 19) hx hb d_P_partOf_12 (by decide) (fun c_12 => ?_) (fun c_12 => ?_)
  · refine lv_lload_n hx hb d_P_partOf_19 rfl (lv_at hl 2 rfl) ?_
    exact b20 (s_P_commonDivisor (if 0 < a0 then a0 else -a0) a2) a2 ls (lv_sub hl [0] rfl) (by rw [s_P_partOf, if_neg c_12])
  · refine lv_lload_n hx hb d_P_partOf_15 rfl (lv_at hl 1 rfl) ?_
    refine lv_goto (tgt := 20) hx hb d_P_partOf_16 (by decide) ?_
    exact b20 (s_P_commonDivisor (if 0 < a0 then a0 else -a0) a2) a0 ls (lv_sub hl [0] rfl) (by rw [s_P_partOf, if_pos c_12])

def s_P_root_b6 : Nat → Int64 → Int64 → Int32 → Int64
  | 0, _, _, _ => 0
  | n + 1, x0, x2, x4 => (if x4 < 0 then x2 else (if 0 < (lg_cmp ((x2 + ((1 : Int64) <<< (x4.toInt64 &&& 63))) * (x2 + ((1 : Int64) <<< (x4.toInt64 &&& 63)))) x0) then (s_P_root_b6 n x0 x2 (x4 + (-1))) else (s_P_root_b6 n x0 (x2 + ((1 : Int64) <<< (x4.toInt64 &&& 63))) (x4 + (-1)))))
def s_P_root (a0 : Int64) : Int64 := (s_P_root_b6 (32) a0 (0 : Int64) (30 : Int32))
set_option maxRecDepth 20000 in
theorem c_P_root (l : Launch) (E : Cx) (a0 : Int64) : Met l y_P_root (Cond.code y_P_root b_P_root 7 (some .long) :: TB) (rk 0 0) (va_Pc [.long a0] (preR E [])) (vp_Sl (fun r => r = (s_P_root a0))) 0 0 (fun _ => False) := by
  refine w_roL rfl (Nat.le_of_ble_eq_true rfl) ?_
  intro p e s m args below meth c Q ls hx hb hml hts hown hP hK hl hend
  have hl : lv_has ls 7 [(0, .long a0)] := hl
  have hown : s.vm.findClass R_P = some m.cls := hown
  have b6 : ∀ (n : Nat) (x0 : Int64) (x2 : Int64) (x4 : Int32), (DN n x4) → ∀ (ls : Array Slot), lv_has ls 7 [(0, .long x0), (2, .long x2), (4, .int x4)] → (s_P_root a0) = s_P_root_b6 n x0 x2 x4 → W p l e (rk 0 0) s m args below meth c s.heap [] 0 0 Q (F0 m 6 ls []) := by
    intro n6
    induction n6 with
    | zero => intro x0 x2 x4 hv; exact absurd hv (DN_z)
    | succ n6 ih6 =>
      intro x0 x2 x4 hv ls hl hq
      refine lv_iload hx hb d_P_root_6 (lv_at hl 2 rfl) ?_
      refine lv_if_lt (tgt := 38) hx hb d_P_root_8 (by decide) (fun c_8 => ?_) (fun c_8 => ?_)
      · refine lv_lload_n hx hb d_P_root_38 rfl (lv_at hl 1 rfl) ?_
        exact hend _ _ _ (by rw [hq, s_P_root_b6, if_pos c_8]) d_P_root_39
      · refine lv_lload_n hx hb d_P_root_11 rfl (lv_at hl 1 rfl) ?_
        refine lv_lconst (v := (1 : Int64)) hx hb d_P_root_12 rfl ?_
        refine lv_iload hx hb d_P_root_13 (lv_at hl 2 rfl) ?_
        refine lv_lshl hx hb d_P_root_15 rfl ?_
        refine lv_ladd hx hb d_P_root_16 ?_
        refine lv_lstore (lv' := [(5, .long (x2 + ((1 : Int64) <<< (x4.toInt64 &&& 63)))), (0, .long x0), (2, .long x2), (4, .int x4)]) hx hb d_P_root_17 hl (by decide) rfl (fun ls hl => ?_)
        refine lv_lload hx hb d_P_root_19 (lv_at hl 0 rfl) ?_
        refine lv_lload hx hb d_P_root_21 (lv_at hl 0 rfl) ?_
        refine lv_lmul hx hb d_P_root_23 ?_
        refine lv_lload_n hx hb d_P_root_24 rfl (lv_at hl 1 rfl) ?_
        refine W.lcmp hx hb d_P_root_25 ?_
        refine lv_if_gt (tgt := 32) hx hb d_P_root_26 (by decide) (fun c_26 => ?_) (fun c_26 => ?_)
        · refine lv_iinc (v := (x4 + (-1))) (lv' := [(4, .int (x4 + (-1))), (5, .long (x2 + ((1 : Int64) <<< (x4.toInt64 &&& 63)))), (0, .long x0), (2, .long x2)]) hx hb d_P_root_32 hl (k := 3) rfl rfl (by decide) rfl (fun ls hl => ?_)
          refine lv_goto (tgt := 6) hx hb d_P_root_35 (by decide) ?_
          exact ih6 x0 x2 (x4 + (-1)) (DN_dn hv c_8) ls (lv_sub hl [2, 3, 0] rfl) (by rw [hq, s_P_root_b6, if_neg c_8, if_pos c_26])
        · refine lv_lload hx hb d_P_root_29 (lv_at hl 0 rfl) ?_
          refine lv_lstore_n (lv' := [(2, .long (x2 + ((1 : Int64) <<< (x4.toInt64 &&& 63)))), (5, .long (x2 + ((1 : Int64) <<< (x4.toInt64 &&& 63)))), (0, .long x0), (4, .int x4)]) hx hb d_P_root_31 rfl hl (by decide) rfl (fun ls hl => ?_)
          refine lv_iinc (v := (x4 + (-1))) (lv' := [(4, .int (x4 + (-1))), (2, .long (x2 + ((1 : Int64) <<< (x4.toInt64 &&& 63)))), (5, .long (x2 + ((1 : Int64) <<< (x4.toInt64 &&& 63)))), (0, .long x0)]) hx hb d_P_root_32 hl (k := 3) rfl rfl (by decide) rfl (fun ls hl => ?_)
          refine lv_goto (tgt := 6) hx hb d_P_root_35 (by decide) ?_
          exact ih6 x0 (x2 + ((1 : Int64) <<< (x4.toInt64 &&& 63))) (x4 + (-1)) (DN_dn hv c_8) ls (lv_sub hl [3, 1, 0] rfl) (by rw [hq, s_P_root_b6, if_neg c_8, if_neg c_26])
  refine lv_lconst (v := (0 : Int64)) hx hb d_P_root_0 rfl ?_
  refine lv_lstore_n (lv' := [(2, .long (0 : Int64)), (0, .long a0)]) hx hb d_P_root_1 rfl hl (by decide) rfl (fun ls hl => ?_)
  refine lv_bipush (v := (30 : Int32)) hx hb d_P_root_2 rfl ?_
  refine lv_istore (lv' := [(4, .int (30 : Int32)), (2, .long (0 : Int64)), (0, .long a0)]) hx hb d_P_root_4 hl (by decide) rfl (fun ls hl => ?_)
  exact b6 (32) a0 (0 : Int64) (30 : Int32) (DN_in (x := 30)) ls (lv_sub hl [2, 1, 0] rfl) (by rw [s_P_root])

def s_T_ring (a0 : Int32) (a1 : Int32) : Int32 := (a0 + ((2 : Int32) * a1))
set_option maxRecDepth 20000 in
theorem c_T_ring (l : Launch) (E : Cx) (a0 : Int32) (a1 : Int32) : Met l y_T_ring (Cond.code y_T_ring b_T_ring 2 (some .int) :: TB) (rk 0 0) (va_Pc [.int a0, .int a1] (preR E [])) (vp_Si (fun r => r = (s_T_ring a0 a1))) 0 0 (fun _ => False) := by
  refine w_roI rfl (Nat.le_of_ble_eq_true rfl) rfl ?_
  intro p e s m args below meth c Q ls hx hb hml hts hown hP hK hl hend
  have hl : lv_has ls 2 [(0, .int a0), (1, .int a1)] := hl
  have hown : s.vm.findClass R_T = some m.cls := hown
  refine lv_iload_n hx hb d_T_ring_0 rfl (lv_at hl 0 rfl) ?_
  refine lv_iconst (v := (2 : Int32)) hx hb d_T_ring_1 rfl ?_
  refine lv_iload_n hx hb d_T_ring_2 rfl (lv_at hl 1 rfl) ?_
  refine lv_imul hx hb d_T_ring_3 ?_
  refine lv_iadd hx hb d_T_ring_4 ?_
  exact hend _ _ _ (by rw [s_T_ring]) d_T_ring_5

def s_T_divides (a0 : Int32) (a1 : Int32) (a2 : Int32) : Int32 := (if a2 = 0 then (0 : Int32) else (if ((a0 + (s_T_ring a0 a1)) - (a0 + (s_T_ring a0 a1)) / a2 * a2) = 0 then (1 : Int32) else (0 : Int32)))
theorem z_T_divides (a0 : Int32) (a1 : Int32) (a2 : Int32) : (s_T_divides a0 a1 a2) = 0 ∨ (s_T_divides a0 a1 a2) = 1 := by unfold s_T_divides; (repeat' split) <;> first | with_reducible exact Or.inl rfl | with_reducible exact Or.inr rfl
set_option maxRecDepth 20000 in
theorem c_T_divides (l : Launch) (E : Cx) (a0 : Int32) (a1 : Int32) (a2 : Int32) : Met l y_T_divides (Cond.code y_T_divides b_T_divides 3 (some .boolean) :: TB) (rk 1 21) (va_Pc [.int a0, .int a1, .int a2] (preR E [])) (vp_Si (fun r => r = (s_T_divides a0 a1 a2))) 0 0 (fun _ => False) := by
  refine w_roI rfl (Nat.le_of_ble_eq_true rfl) (k_nb (z_T_divides a0 a1 a2)) ?_
  intro p e s m args below meth c Q ls hx hb hml hts hown hP hK hl hend
  have hl : lv_has ls 3 [(0, .int a0), (1, .int a1), (2, .int a2)] := hl
  have hown : s.vm.findClass R_T = some m.cls := hown
  refine lv_iload_n hx hb d_T_divides_0 rfl (lv_at hl 2 rfl) ?_
  refine lv_if_eq (tgt := 20) hx hb d_T_divides_1 (by decide) (fun c_1 => ?_) (fun c_1 => ?_)
  · refine lv_iconst (v := (0 : Int32)) hx hb d_T_divides_20 rfl ?_
    exact hend _ _ _ (by rw [s_T_divides, if_pos c_1]) d_T_divides_21
  · refine lv_iload_n hx hb d_T_divides_4 rfl (lv_at hl 0 rfl) ?_
    refine lv_iload_n hx hb d_T_divides_5 rfl (lv_at hl 0 rfl) ?_
    refine lv_iload_n hx hb d_T_divides_6 rfl (lv_at hl 1 rfl) ?_
    refine k_si (rest := [.int a0]) (c_T_ring l E a0 a1) mi_T_ring ml_T_9 hx hb hml hts hown hK va_nil hl ⟨rfl, rfl⟩ ⟨(Nat.le_of_ble_eq_true rfl), (Nat.le_of_ble_eq_true rfl)⟩ ⟨Nat.zero_le _, Nat.zero_le _⟩ rfl (Nat.le_of_ble_eq_true rfl) rfl d_T_divides_7 ?_
    refine lv_iadd hx hb d_T_divides_10 ?_
    refine lv_iload_n hx hb d_T_divides_11 rfl (lv_at hl 2 rfl) ?_
    refine lv_irem hx hb d_T_divides_12 c_1 ?_
    refine lv_if_ne (tgt := 20) hx hb d_T_divides_13 (by decide) (fun c_13 => ?_) (fun c_13 => ?_)
    · refine lv_iconst (v := (0 : Int32)) hx hb d_T_divides_20 rfl ?_
      exact hend _ _ _ (by rw [s_T_divides, if_neg c_1, if_neg c_13]) d_T_divides_21
    · refine lv_iconst (v := (1 : Int32)) hx hb d_T_divides_16 rfl ?_
      refine lv_goto (tgt := 21) hx hb d_T_divides_17 (by decide) ?_
      exact hend _ _ _ (by rw [s_T_divides, if_neg c_1, if_pos c_13]) d_T_divides_21

def s_T_sine (a0 : Int32) : Int32 := (if a0 = 2 then (1000 : Int32) else (if a0 = 3 then (866 : Int32) else (if a0 = 4 then (707 : Int32) else (if a0 = 5 then (587 : Int32) else (if a0 = 6 then (500 : Int32) else (if a0 = 7 then (433 : Int32) else (if a0 = 8 then (382 : Int32) else (0 : Int32))))))))
set_option maxRecDepth 20000 in
theorem c_T_sine (l : Launch) (E : Cx) (a0 : Int32) : Met l y_T_sine (Cond.code y_T_sine b_T_sine 1 (some .int) :: TB) (rk 0 0) (va_Pc [.int a0] (preR E [])) (vp_Si (fun r => r = (s_T_sine a0))) 0 0 (fun _ => False) := by
  refine w_roI rfl (Nat.le_of_ble_eq_true rfl) rfl ?_
  intro p e s m args below meth c Q ls hx hb hml hts hown hP hK hl hend
  have hl : lv_has ls 1 [(0, .int a0)] := hl
  have hown : s.vm.findClass R_T = some m.cls := hown
  refine lv_iload_n hx hb d_T_sine_0 rfl (lv_at hl 0 rfl) ?_
  by_cases c_1_2 : a0 = (2 : Int32)
  · refine lv_tableIn (x := a0) (off := 43) (tgt := 44) hx hb d_T_sine_1 (by rw [c_1_2]; decide) (by rw [c_1_2]; decide) (by rw [c_1_2]; rfl) (by decide) ?_
    refine lv_sipush (v := (1000 : Int32)) hx hb d_T_sine_44 rfl ?_
    exact hend _ _ _ (by rw [s_T_sine, if_pos c_1_2]) d_T_sine_47
  by_cases c_1_3 : a0 = (3 : Int32)
  · refine lv_tableIn (x := a0) (off := 47) (tgt := 48) hx hb d_T_sine_1 (by rw [c_1_3]; decide) (by rw [c_1_3]; decide) (by rw [c_1_3]; rfl) (by decide) ?_
    refine lv_sipush (v := (866 : Int32)) hx hb d_T_sine_48 rfl ?_
    exact hend _ _ _ (by rw [s_T_sine, if_neg c_1_2, if_pos c_1_3]) d_T_sine_51
  by_cases c_1_4 : a0 = (4 : Int32)
  · refine lv_tableIn (x := a0) (off := 51) (tgt := 52) hx hb d_T_sine_1 (by rw [c_1_4]; decide) (by rw [c_1_4]; decide) (by rw [c_1_4]; rfl) (by decide) ?_
    refine lv_sipush (v := (707 : Int32)) hx hb d_T_sine_52 rfl ?_
    exact hend _ _ _ (by rw [s_T_sine, if_neg c_1_2, if_neg c_1_3, if_pos c_1_4]) d_T_sine_55
  by_cases c_1_5 : a0 = (5 : Int32)
  · refine lv_tableIn (x := a0) (off := 55) (tgt := 56) hx hb d_T_sine_1 (by rw [c_1_5]; decide) (by rw [c_1_5]; decide) (by rw [c_1_5]; rfl) (by decide) ?_
    refine lv_sipush (v := (587 : Int32)) hx hb d_T_sine_56 rfl ?_
    exact hend _ _ _ (by rw [s_T_sine, if_neg c_1_2, if_neg c_1_3, if_neg c_1_4, if_pos c_1_5]) d_T_sine_59
  by_cases c_1_6 : a0 = (6 : Int32)
  · refine lv_tableIn (x := a0) (off := 59) (tgt := 60) hx hb d_T_sine_1 (by rw [c_1_6]; decide) (by rw [c_1_6]; decide) (by rw [c_1_6]; rfl) (by decide) ?_
    refine lv_sipush (v := (500 : Int32)) hx hb d_T_sine_60 rfl ?_
    exact hend _ _ _ (by rw [s_T_sine, if_neg c_1_2, if_neg c_1_3, if_neg c_1_4, if_neg c_1_5, if_pos c_1_6]) d_T_sine_63
  by_cases c_1_7 : a0 = (7 : Int32)
  · refine lv_tableIn (x := a0) (off := 63) (tgt := 64) hx hb d_T_sine_1 (by rw [c_1_7]; decide) (by rw [c_1_7]; decide) (by rw [c_1_7]; rfl) (by decide) ?_
    refine lv_sipush (v := (433 : Int32)) hx hb d_T_sine_64 rfl ?_
    exact hend _ _ _ (by rw [s_T_sine, if_neg c_1_2, if_neg c_1_3, if_neg c_1_4, if_neg c_1_5, if_neg c_1_6, if_pos c_1_7]) d_T_sine_67
  by_cases c_1_8 : a0 = (8 : Int32)
  · refine lv_tableIn (x := a0) (off := 67) (tgt := 68) hx hb d_T_sine_1 (by rw [c_1_8]; decide) (by rw [c_1_8]; decide) (by rw [c_1_8]; rfl) (by decide) ?_
    refine lv_sipush (v := (382 : Int32)) hx hb d_T_sine_68 rfl ?_
    exact hend _ _ _ (by rw [s_T_sine, if_neg c_1_2, if_neg c_1_3, if_neg c_1_4, if_neg c_1_5, if_neg c_1_6, if_neg c_1_7, if_pos c_1_8]) d_T_sine_71
  have kd : W p l e (rk 0 0) s m args below meth c s.heap [] 0 0 Q (F0 m 72 ls []) := by
    refine lv_iconst (v := (0 : Int32)) hx hb d_T_sine_72 rfl ?_
    exact hend _ _ _ (by rw [s_T_sine, if_neg c_1_2, if_neg c_1_3, if_neg c_1_4, if_neg c_1_5, if_neg c_1_6, if_neg c_1_7, if_neg c_1_8]) d_T_sine_73
  have n_0 := lv_neT c_1_2 (a := 2) rfl
  have n_1 := lv_neT c_1_3 (a := 3) rfl
  have n_2 := lv_neT c_1_4 (a := 4) rfl
  have n_3 := lv_neT c_1_5 (a := 5) rfl
  have n_4 := lv_neT c_1_6 (a := 6) rfl
  have n_5 := lv_neT c_1_7 (a := 7) rfl
  have n_6 := lv_neT c_1_8 (a := 8) rfl
  exact lv_tableOut (x := a0) (tgt := 72) hx hb d_T_sine_1 (by omega) (by decide) kd

def s_T_touch (a0 : Int32) (a1 : Int32) (a2 : Int32) : Int32 := (if a2 = (1 : Int32) then (0 : Int32) else (if ((1000 : Int32) * (a1 + (2 : Int32))) < ((a0 + a1) * (s_T_sine a2)) then (0 : Int32) else (1 : Int32)))
theorem z_T_touch (a0 : Int32) (a1 : Int32) (a2 : Int32) : (s_T_touch a0 a1 a2) = 0 ∨ (s_T_touch a0 a1 a2) = 1 := by unfold s_T_touch; (repeat' split) <;> first | with_reducible exact Or.inl rfl | with_reducible exact Or.inr rfl
set_option maxRecDepth 20000 in
theorem c_T_touch (l : Launch) (E : Cx) (a0 : Int32) (a1 : Int32) (a2 : Int32) : Met l y_T_touch (Cond.code y_T_touch b_T_touch 3 (some .boolean) :: TB) (rk 1 20) (va_Pc [.int a0, .int a1, .int a2] (preR E [])) (vp_Si (fun r => r = (s_T_touch a0 a1 a2))) 0 0 (fun _ => False) := by
  refine w_roI rfl (Nat.le_of_ble_eq_true rfl) (k_nb (z_T_touch a0 a1 a2)) ?_
  intro p e s m args below meth c Q ls hx hb hml hts hown hP hK hl hend
  have hl : lv_has ls 3 [(0, .int a0), (1, .int a1), (2, .int a2)] := hl
  have hown : s.vm.findClass R_T = some m.cls := hown
  refine lv_iload_n hx hb d_T_touch_0 rfl (lv_at hl 2 rfl) ?_
  refine lv_iconst (v := (1 : Int32)) hx hb d_T_touch_1 rfl ?_
  refine lv_icmp_eq (tgt := 27) hx hb d_T_touch_2 (by decide) (fun c_2 => ?_) (fun c_2 => ?_)
  · refine lv_iconst (v := (0 : Int32)) hx hb d_T_touch_27 rfl ?_
    exact hend _ _ _ (by rw [s_T_touch, if_pos c_2]) d_T_touch_28
  · refine lv_iload_n hx hb d_T_touch_5 rfl (lv_at hl 0 rfl) ?_
    refine lv_iload_n hx hb d_T_touch_6 rfl (lv_at hl 1 rfl) ?_
    refine lv_iadd hx hb d_T_touch_7 ?_
    refine lv_iload_n hx hb d_T_touch_8 rfl (lv_at hl 2 rfl) ?_
    refine k_si (rest := [.int (a0 + a1)]) (c_T_sine l E a2) mi_T_sine ml_T_15 hx hb hml hts hown hK va_nil hl ⟨rfl, rfl⟩ ⟨(Nat.le_of_ble_eq_true rfl), (Nat.le_of_ble_eq_true rfl)⟩ ⟨Nat.zero_le _, Nat.zero_le _⟩ rfl (Nat.le_of_ble_eq_true rfl) rfl d_T_touch_9 ?_
    refine lv_imul hx hb d_T_touch_12 ?_
    refine lv_sipush (v := (1000 : Int32)) hx hb d_T_touch_13 rfl ?_
    refine lv_iload_n hx hb d_T_touch_16 rfl (lv_at hl 1 rfl) ?_
    refine lv_iconst (v := (2 : Int32)) hx hb d_T_touch_17 rfl ?_
    refine lv_iadd hx hb d_T_touch_18 ?_
    refine lv_imul hx hb d_T_touch_19 ?_
    refine lv_icmp_gt (tgt := 27) hx hb d_T_touch_20 (by decide) (fun c_20 => ?_) (fun c_20 => ?_)
    · refine lv_iconst (v := (0 : Int32)) hx hb d_T_touch_27 rfl ?_
      exact hend _ _ _ (by rw [s_T_touch, if_neg c_2, if_pos c_20]) d_T_touch_28
    · refine lv_iconst (v := (1 : Int32)) hx hb d_T_touch_23 rfl ?_
      refine lv_goto (tgt := 28) hx hb d_T_touch_24 (by decide) ?_
      exact hend _ _ _ (by rw [s_T_touch, if_neg c_2, if_neg c_20]) d_T_touch_28

def s_T_canBe (a0 : Int32) (a1 : Int32) (a2 : Int32) : Int32 := (if (s_T_divides a0 a1 a2) = 0 then (0 : Int32) else (if (s_T_touch a0 a1 a2) = 0 then (1 : Int32) else (0 : Int32)))
theorem z_T_canBe (a0 : Int32) (a1 : Int32) (a2 : Int32) : (s_T_canBe a0 a1 a2) = 0 ∨ (s_T_canBe a0 a1 a2) = 1 := by unfold s_T_canBe; (repeat' split) <;> first | with_reducible exact Or.inl rfl | with_reducible exact Or.inr rfl | with_reducible apply z_T_divides | with_reducible apply z_T_touch
set_option maxRecDepth 20000 in
theorem c_T_canBe (l : Launch) (E : Cx) (a0 : Int32) (a1 : Int32) (a2 : Int32) : Met l y_T_canBe (Cond.code y_T_canBe b_T_canBe 3 (some .boolean) :: TB) (rk 2 43) (va_Pc [.int a0, .int a1, .int a2] (preR E [])) (vp_Si (fun r => r = (s_T_canBe a0 a1 a2))) 0 0 (fun _ => False) := by
  refine w_roI rfl (Nat.le_of_ble_eq_true rfl) (k_nb (z_T_canBe a0 a1 a2)) ?_
  intro p e s m args below meth c Q ls hx hb hml hts hown hP hK hl hend
  have hl : lv_has ls 3 [(0, .int a0), (1, .int a1), (2, .int a2)] := hl
  have hown : s.vm.findClass R_T = some m.cls := hown
  refine lv_iload_n hx hb d_T_canBe_0 rfl (lv_at hl 0 rfl) ?_
  refine lv_iload_n hx hb d_T_canBe_1 rfl (lv_at hl 1 rfl) ?_
  refine lv_iload_n hx hb d_T_canBe_2 rfl (lv_at hl 2 rfl) ?_
  refine k_si (rest := []) (c_T_divides l E a0 a1 a2) mi_T_divides ml_T_19 hx hb hml hts hown hK va_nil hl ⟨rfl, rfl⟩ ⟨(Nat.le_of_ble_eq_true rfl), (Nat.le_of_ble_eq_true rfl)⟩ ⟨Nat.zero_le _, Nat.zero_le _⟩ rfl (Nat.le_of_ble_eq_true rfl) rfl d_T_canBe_3 ?_
  refine lv_if_eq (tgt := 22) hx hb d_T_canBe_6 (by decide) (fun c_6 => ?_) (fun c_6 => ?_)
  · refine lv_iconst (v := (0 : Int32)) hx hb d_T_canBe_22 rfl ?_
    exact hend _ _ _ (by rw [s_T_canBe, if_pos c_6]) d_T_canBe_23
  · refine lv_iload_n hx hb d_T_canBe_9 rfl (lv_at hl 0 rfl) ?_
    refine lv_iload_n hx hb d_T_canBe_10 rfl (lv_at hl 1 rfl) ?_
    refine lv_iload_n hx hb d_T_canBe_11 rfl (lv_at hl 2 rfl) ?_
    refine k_si (rest := []) (c_T_touch l E a0 a1 a2) mi_T_touch ml_T_23 hx hb hml hts hown hK va_nil hl ⟨rfl, rfl⟩ ⟨(Nat.le_of_ble_eq_true rfl), (Nat.le_of_ble_eq_true rfl)⟩ ⟨Nat.zero_le _, Nat.zero_le _⟩ rfl (Nat.le_of_ble_eq_true rfl) rfl d_T_canBe_12 ?_
    refine lv_if_ne (tgt := 22) hx hb d_T_canBe_15 (by decide) (fun c_15 => ?_) (fun c_15 => ?_)
    · refine lv_iconst (v := (0 : Int32)) hx hb d_T_canBe_22 rfl ?_
      exact hend _ _ _ (by rw [s_T_canBe, if_neg c_6, if_neg c_15]) d_T_canBe_23
    · refine lv_iconst (v := (1 : Int32)) hx hb d_T_canBe_18 rfl ?_
      refine lv_goto (tgt := 23) hx hb d_T_canBe_19 (by decide) ?_
      exact hend _ _ _ (by rw [s_T_canBe, if_neg c_6, if_pos c_15]) d_T_canBe_23

def s_T_teethTogether (a0 : Int32) (a1 : Int32) (a2 : Int32) : Int32 := ((a0 + (a2 * a1)) + (s_T_ring a0 a1))
set_option maxRecDepth 20000 in
theorem c_T_teethTogether (l : Launch) (E : Cx) (a0 : Int32) (a1 : Int32) (a2 : Int32) : Met l y_T_teethTogether (Cond.code y_T_teethTogether b_T_teethTogether 3 (some .int) :: TB) (rk 1 21) (va_Pc [.int a0, .int a1, .int a2] (preR E [])) (vp_Si (fun r => r = (s_T_teethTogether a0 a1 a2))) 0 0 (fun _ => False) := by
  refine w_roI rfl (Nat.le_of_ble_eq_true rfl) rfl ?_
  intro p e s m args below meth c Q ls hx hb hml hts hown hP hK hl hend
  have hl : lv_has ls 3 [(0, .int a0), (1, .int a1), (2, .int a2)] := hl
  have hown : s.vm.findClass R_T = some m.cls := hown
  refine lv_iload_n hx hb d_T_teethTogether_0 rfl (lv_at hl 0 rfl) ?_
  refine lv_iload_n hx hb d_T_teethTogether_1 rfl (lv_at hl 2 rfl) ?_
  refine lv_iload_n hx hb d_T_teethTogether_2 rfl (lv_at hl 1 rfl) ?_
  refine lv_imul hx hb d_T_teethTogether_3 ?_
  refine lv_iadd hx hb d_T_teethTogether_4 ?_
  refine lv_iload_n hx hb d_T_teethTogether_5 rfl (lv_at hl 0 rfl) ?_
  refine lv_iload_n hx hb d_T_teethTogether_6 rfl (lv_at hl 1 rfl) ?_
  refine k_si (rest := [.int (a0 + (a2 * a1))]) (c_T_ring l E a0 a1) mi_T_ring ml_T_9 hx hb hml hts hown hK va_nil hl ⟨rfl, rfl⟩ ⟨(Nat.le_of_ble_eq_true rfl), (Nat.le_of_ble_eq_true rfl)⟩ ⟨Nat.zero_le _, Nat.zero_le _⟩ rfl (Nat.le_of_ble_eq_true rfl) rfl d_T_teethTogether_7 ?_
  refine lv_iadd hx hb d_T_teethTogether_10 ?_
  exact hend _ _ _ (by rw [s_T_teethTogether]) d_T_teethTogether_11

def s_T_mostPlanets_b3 : Nat → Int32 → Int32 → Int32 → Int32
  | 0, _, _, _ => 0
  | n + 1, x0, x1, x2 => (if x2 ≤ (1 : Int32) then (1 : Int32) else (if (s_T_canBe x0 x1 x2) = 0 then (s_T_mostPlanets_b3 n x0 x1 (x2 + (-1))) else x2))
def s_T_mostPlanets (a0 : Int32) (a1 : Int32) : Int32 := (s_T_mostPlanets_b3 (10) a0 a1 (8 : Int32))
set_option maxRecDepth 20000 in
theorem c_T_mostPlanets (l : Launch) (E : Cx) (a0 : Int32) (a1 : Int32) : Met l y_T_mostPlanets (Cond.code y_T_mostPlanets b_T_mostPlanets 3 (some .int) :: TB) (rk 3 65) (va_Pc [.int a0, .int a1] (preR E [])) (vp_Si (fun r => r = (s_T_mostPlanets a0 a1))) 0 0 (fun _ => False) := by
  refine w_roI rfl (Nat.le_of_ble_eq_true rfl) rfl ?_
  intro p e s m args below meth c Q ls hx hb hml hts hown hP hK hl hend
  have hl : lv_has ls 3 [(0, .int a0), (1, .int a1)] := hl
  have hown : s.vm.findClass R_T = some m.cls := hown
  have b3 : ∀ (n : Nat) (x0 : Int32) (x1 : Int32) (x2 : Int32), (DN n x2) → ∀ (ls : Array Slot), lv_has ls 3 [(0, .int x0), (1, .int x1), (2, .int x2)] → (s_T_mostPlanets a0 a1) = s_T_mostPlanets_b3 n x0 x1 x2 → W p l e (rk 3 65) s m args below meth c s.heap [] 0 0 Q (F0 m 3 ls []) := by
    intro n3
    induction n3 with
    | zero => intro x0 x1 x2 hv; exact absurd hv (DN_z)
    | succ n3 ih3 =>
      intro x0 x1 x2 hv ls hl hq
      refine lv_iload_n hx hb d_T_mostPlanets_3 rfl (lv_at hl 2 rfl) ?_
      refine lv_iconst (v := (1 : Int32)) hx hb d_T_mostPlanets_4 rfl ?_
      refine lv_icmp_le (tgt := 25) hx hb d_T_mostPlanets_5 (by decide) (fun c_5 => ?_) (fun c_5 => ?_)
      · refine lv_iconst (v := (1 : Int32)) hx hb d_T_mostPlanets_25 rfl ?_
        exact hend _ _ _ (by rw [hq, s_T_mostPlanets_b3, if_pos c_5]) d_T_mostPlanets_26
      · refine lv_iload_n hx hb d_T_mostPlanets_8 rfl (lv_at hl 0 rfl) ?_
        refine lv_iload_n hx hb d_T_mostPlanets_9 rfl (lv_at hl 1 rfl) ?_
        refine lv_iload_n hx hb d_T_mostPlanets_10 rfl (lv_at hl 2 rfl) ?_
        refine k_si (rest := []) (c_T_canBe l E x0 x1 x2) mi_T_canBe ml_T_26 hx hb hml hts hown hK va_nil hl ⟨rfl, rfl⟩ ⟨(Nat.le_of_ble_eq_true rfl), (Nat.le_of_ble_eq_true rfl)⟩ ⟨Nat.zero_le _, Nat.zero_le _⟩ rfl (Nat.le_of_ble_eq_true rfl) rfl d_T_mostPlanets_11 ?_
        refine lv_if_eq (tgt := 19) hx hb d_T_mostPlanets_14 (by decide) (fun c_14 => ?_) (fun c_14 => ?_)
        · refine lv_iinc (v := (x2 + (-1))) (lv' := [(2, .int (x2 + (-1))), (0, .int x0), (1, .int x1)]) hx hb d_T_mostPlanets_19 hl (k := 2) rfl rfl (by decide) rfl (fun ls hl => ?_)
          refine lv_goto (tgt := 3) hx hb d_T_mostPlanets_22 (by decide) ?_
          exact ih3 x0 x1 (x2 + (-1)) (DN_dn1 hv c_5) ls (lv_sub hl [1, 2, 0] rfl) (by rw [hq, s_T_mostPlanets_b3, if_neg c_5, if_pos c_14])
        · refine lv_iload_n hx hb d_T_mostPlanets_17 rfl (lv_at hl 2 rfl) ?_
          exact hend _ _ _ (by rw [hq, s_T_mostPlanets_b3, if_neg c_5, if_neg c_14]) d_T_mostPlanets_18
  refine lv_bipush (v := (8 : Int32)) hx hb d_T_mostPlanets_0 rfl ?_
  refine lv_istore_n (lv' := [(2, .int (8 : Int32)), (0, .int a0), (1, .int a1)]) hx hb d_T_mostPlanets_2 rfl hl (by decide) rfl (fun ls hl => ?_)
  exact b3 (10) a0 a1 (8 : Int32) (DN_in (x := 8)) ls (lv_sub hl [1, 2, 0] rfl) (by rw [s_T_mostPlanets])

def s_T_weight (a0 : Int32) (a1 : Int32) (a2 : Int32) : Int32 := (if a2 = 0 then a0 else (if a2 = 1 then (a0 + (s_T_ring a0 a1)) else (if a2 = 2 then (s_T_ring a0 a1) else (0 : Int32))))
set_option maxRecDepth 20000 in
theorem c_T_weight (l : Launch) (E : Cx) (a0 : Int32) (a1 : Int32) (a2 : Int32) : Met l y_T_weight (Cond.code y_T_weight b_T_weight 3 (some .int) :: TB) (rk 1 21) (va_Pc [.int a0, .int a1, .int a2] (preR E [])) (vp_Si (fun r => r = (s_T_weight a0 a1 a2))) 0 0 (fun _ => False) := by
  refine w_roI rfl (Nat.le_of_ble_eq_true rfl) rfl ?_
  intro p e s m args below meth c Q ls hx hb hml hts hown hP hK hl hend
  have hl : lv_has ls 3 [(0, .int a0), (1, .int a1), (2, .int a2)] := hl
  have hown : s.vm.findClass R_T = some m.cls := hown
  refine lv_iload_n hx hb d_T_weight_0 rfl (lv_at hl 2 rfl) ?_
  by_cases c_1_0 : a2 = (0 : Int32)
  · refine lv_tableIn (x := a2) (off := 27) (tgt := 28) hx hb d_T_weight_1 (by rw [c_1_0]; decide) (by rw [c_1_0]; decide) (by rw [c_1_0]; rfl) (by decide) ?_
    refine lv_iload_n hx hb d_T_weight_28 rfl (lv_at hl 0 rfl) ?_
    exact hend _ _ _ (by rw [s_T_weight, if_pos c_1_0]) d_T_weight_29
  by_cases c_1_1 : a2 = (1 : Int32)
  · refine lv_tableIn (x := a2) (off := 29) (tgt := 30) hx hb d_T_weight_1 (by rw [c_1_1]; decide) (by rw [c_1_1]; decide) (by rw [c_1_1]; rfl) (by decide) ?_
    refine lv_iload_n hx hb d_T_weight_30 rfl (lv_at hl 0 rfl) ?_
    refine lv_iload_n hx hb d_T_weight_31 rfl (lv_at hl 0 rfl) ?_
    refine lv_iload_n hx hb d_T_weight_32 rfl (lv_at hl 1 rfl) ?_
    refine k_si (rest := [.int a0]) (c_T_ring l E a0 a1) mi_T_ring ml_T_9 hx hb hml hts hown hK va_nil hl ⟨rfl, rfl⟩ ⟨(Nat.le_of_ble_eq_true rfl), (Nat.le_of_ble_eq_true rfl)⟩ ⟨Nat.zero_le _, Nat.zero_le _⟩ rfl (Nat.le_of_ble_eq_true rfl) rfl d_T_weight_33 ?_
    refine lv_iadd hx hb d_T_weight_36 ?_
    exact hend _ _ _ (by rw [s_T_weight, if_neg c_1_0, if_pos c_1_1]) d_T_weight_37
  by_cases c_1_2 : a2 = (2 : Int32)
  · refine lv_tableIn (x := a2) (off := 37) (tgt := 38) hx hb d_T_weight_1 (by rw [c_1_2]; decide) (by rw [c_1_2]; decide) (by rw [c_1_2]; rfl) (by decide) ?_
    refine lv_iload_n hx hb d_T_weight_38 rfl (lv_at hl 0 rfl) ?_
    refine lv_iload_n hx hb d_T_weight_39 rfl (lv_at hl 1 rfl) ?_
    refine k_si (rest := []) (c_T_ring l E a0 a1) mi_T_ring ml_T_9 hx hb hml hts hown hK va_nil hl ⟨rfl, rfl⟩ ⟨(Nat.le_of_ble_eq_true rfl), (Nat.le_of_ble_eq_true rfl)⟩ ⟨Nat.zero_le _, Nat.zero_le _⟩ rfl (Nat.le_of_ble_eq_true rfl) rfl d_T_weight_40 ?_
    exact hend _ _ _ (by rw [s_T_weight, if_neg c_1_0, if_neg c_1_1, if_pos c_1_2]) d_T_weight_43
  have kd : W p l e (rk 1 21) s m args below meth c s.heap [] 0 0 Q (F0 m 44 ls []) := by
    refine lv_iconst (v := (0 : Int32)) hx hb d_T_weight_44 rfl ?_
    exact hend _ _ _ (by rw [s_T_weight, if_neg c_1_0, if_neg c_1_1, if_neg c_1_2]) d_T_weight_45
  have n_0 := lv_neT c_1_0 (a := 0) rfl
  have n_1 := lv_neT c_1_1 (a := 1) rfl
  have n_2 := lv_neT c_1_2 (a := 2) rfl
  exact lv_tableOut (x := a2) (tgt := 44) hx hb d_T_weight_1 (by omega) (by decide) kd

def s_T_ratioPart_b10 (x0 : Int32) (x1 : Int32) (x2 : Int32) (x3 : Int32) (x4 : Int32) (t0 : Int32) : Int64 := (if (s_T_weight x0 x1 x2) ≤ 0 then (-9223372036854775808 : Int64) else (s_P_partOf ((t0 * (s_T_weight x0 x1 (((3 : Int32) - x2) - x3))).toInt64) ((s_T_weight x0 x1 x2).toInt64) x4))
def s_T_ratioPart (a0 : Int32) (a1 : Int32) (a2 : Int32) (a3 : Int32) (a4 : Int32) : Int64 := (if a3 = (1 : Int32) then (s_T_ratioPart_b10 a0 a1 a2 a3 a4 (-1 : Int32)) else (s_T_ratioPart_b10 a0 a1 a2 a3 a4 (1 : Int32)))
set_option maxRecDepth 20000 in
theorem c_T_ratioPart (l : Launch) (E : Cx) (a0 : Int32) (a1 : Int32) (a2 : Int32) (a3 : Int32) (a4 : Int32) : Met l y_T_ratioPart (Cond.code y_T_ratioPart b_T_ratioPart 8 (some .long) :: TB) (rk 2 58) (va_Pc [.int a0, .int a1, .int a2, .int a3, .int a4] (preR E [])) (vp_Sl (fun r => r = (s_T_ratioPart a0 a1 a2 a3 a4))) 0 0 (fun _ => False) := by
  refine w_roL rfl (Nat.le_of_ble_eq_true rfl) ?_
  intro p e s m args below meth c Q ls hx hb hml hts hown hP hK hl hend
  have hl : lv_has ls 8 [(0, .int a0), (1, .int a1), (2, .int a2), (3, .int a3), (4, .int a4)] := hl
  have hown : s.vm.findClass R_T = some m.cls := hown
  have b10 : ∀ (x0 : Int32) (x1 : Int32) (x2 : Int32) (x3 : Int32) (x4 : Int32) (t0 : Int32), ∀ (ls : Array Slot), lv_has ls 8 [(0, .int x0), (1, .int x1), (2, .int x2), (3, .int x3), (4, .int x4)] → (s_T_ratioPart a0 a1 a2 a3 a4) = s_T_ratioPart_b10 x0 x1 x2 x3 x4 t0 → W p l e (rk 2 58) s m args below meth c s.heap [] 0 0 Q (F0 m 10 ls [.int t0]) := by
    intro x0 x1 x2 x3 x4 t0 ls hl hq
    refine lv_istore (lv' := [(5, .int t0), (0, .int x0), (1, .int x1), (2, .int x2), (3, .int x3), (4, .int x4)]) hx hb d_T_ratioPart_10 hl (by decide) rfl (fun ls hl => ?_)
    refine lv_iload_n hx hb d_T_ratioPart_12 rfl (lv_at hl 1 rfl) ?_
    refine lv_iload_n hx hb d_T_ratioPart_13 rfl (lv_at hl 2 rfl) ?_
    refine lv_iconst (v := (3 : Int32)) hx hb d_T_ratioPart_14 rfl ?_
    refine lv_iload_n hx hb d_T_ratioPart_15 rfl (lv_at hl 3 rfl) ?_
    refine lv_isub hx hb d_T_ratioPart_16 ?_
    refine lv_iload_n hx hb d_T_ratioPart_17 rfl (lv_at hl 4 rfl) ?_
    refine lv_isub hx hb d_T_ratioPart_18 ?_
    refine k_si (rest := []) (c_T_weight l E x0 x1 (((3 : Int32) - x2) - x3)) mi_T_weight ml_T_29 hx hb hml hts hown hK va_nil hl ⟨rfl, rfl⟩ ⟨(Nat.le_of_ble_eq_true rfl), (Nat.le_of_ble_eq_true rfl)⟩ ⟨Nat.zero_le _, Nat.zero_le _⟩ rfl (Nat.le_of_ble_eq_true rfl) rfl d_T_ratioPart_19 ?_
    refine lv_istore (lv' := [(6, .int (s_T_weight x0 x1 (((3 : Int32) - x2) - x3))), (5, .int t0), (0, .int x0), (1, .int x1), (2, .int x2), (3, .int x3), (4, .int x4)]) hx hb d_T_ratioPart_22 hl (by decide) rfl (fun ls hl => ?_)
    refine lv_iload_n hx hb d_T_ratioPart_24 rfl (lv_at hl 2 rfl) ?_
    refine lv_iload_n hx hb d_T_ratioPart_25 rfl (lv_at hl 3 rfl) ?_
    refine lv_iload_n hx hb d_T_ratioPart_26 rfl (lv_at hl 4 rfl) ?_
    refine k_si (rest := []) (c_T_weight l E x0 x1 x2) mi_T_weight ml_T_29 hx hb hml hts hown hK va_nil hl ⟨rfl, rfl⟩ ⟨(Nat.le_of_ble_eq_true rfl), (Nat.le_of_ble_eq_true rfl)⟩ ⟨Nat.zero_le _, Nat.zero_le _⟩ rfl (Nat.le_of_ble_eq_true rfl) rfl d_T_ratioPart_27 ?_
    refine lv_istore (lv' := [(7, .int (s_T_weight x0 x1 x2)), (6, .int (s_T_weight x0 x1 (((3 : Int32) - x2) - x3))), (5, .int t0), (0, .int x0), (1, .int x1), (2, .int x2), (3, .int x3), (4, .int x4)]) hx hb d_T_ratioPart_30 hl (by decide) rfl (fun ls hl => ?_)
    refine lv_iload hx hb d_T_ratioPart_32 (lv_at hl 0 rfl) ?_
    refine lv_if_le (tgt := 54) hx hb d_T_ratioPart_34 (by decide) (fun c_34 => ?_) (fun c_34 => ?_)
    · refine lv_ldc2 (v := (-9223372036854775808 : Int64)) hx hb hown (hts _ kl_T_37) d_T_ratioPart_54 ?_
      exact hend _ _ _ (by rw [hq, s_T_ratioPart_b10, if_pos c_34]) d_T_ratioPart_57
    · refine lv_iload hx hb d_T_ratioPart_37 (lv_at hl 2 rfl) ?_
      refine lv_iload hx hb d_T_ratioPart_39 (lv_at hl 1 rfl) ?_
      refine lv_imul hx hb d_T_ratioPart_41 ?_
      refine lv_i2l hx hb d_T_ratioPart_42 rfl ?_
      refine lv_iload hx hb d_T_ratioPart_43 (lv_at hl 0 rfl) ?_
      refine lv_i2l hx hb d_T_ratioPart_45 rfl ?_
      refine lv_iload hx hb d_T_ratioPart_46 (lv_at hl 7 rfl) ?_
      refine k_nl (rest := []) (c_P_partOf l E ((t0 * (s_T_weight x0 x1 (((3 : Int32) - x2) - x3))).toInt64) ((s_T_weight x0 x1 x2).toInt64) x4) mi_P_partOf nw_T_33 hx hb hml hts hown hK va_nil hl ⟨rfl, rfl⟩ ⟨(Nat.le_of_ble_eq_true rfl), (Nat.le_of_ble_eq_true rfl)⟩ ⟨Nat.zero_le _, Nat.zero_le _⟩ rfl (Nat.le_of_ble_eq_true rfl) rfl d_T_ratioPart_48 ?_
      refine lv_goto (tgt := 57) hx hb d_T_ratioPart_51 (by decide) ?_
      exact hend _ _ _ (by rw [hq, s_T_ratioPart_b10, if_neg c_34]) d_T_ratioPart_57
  refine lv_iload_n hx hb d_T_ratioPart_0 rfl (lv_at hl 3 rfl) ?_
  refine lv_iconst (v := (1 : Int32)) hx hb d_T_ratioPart_1 rfl ?_
  refine lv_icmp_ne (tgt := 9) hx hb d_T_ratioPart_2 (by decide) (fun c_2 => ?_) (fun c_2 => ?_)
  · refine lv_iconst (v := (1 : Int32)) hx hb d_T_ratioPart_9 rfl ?_
    exact b10 a0 a1 a2 a3 a4 (1 : Int32) ls (lv_sub hl [0, 1, 2, 3, 4] rfl) (by rw [s_T_ratioPart, if_neg c_2])
  · refine lv_iconst (v := (-1 : Int32)) hx hb d_T_ratioPart_5 rfl ?_
    refine lv_goto (tgt := 10) hx hb d_T_ratioPart_6 (by decide) ?_
    exact b10 a0 a1 a2 a3 a4 (-1 : Int32) ls (lv_sub hl [0, 1, 2, 3, 4] rfl) (by rw [s_T_ratioPart, if_pos c_2])

def s_H_isAsked_b75 (x1 : Int32) (x3 : Int32) (x8 : Int32) (t0 : Int32) : Int32 := (if x8 = 0 then (0 : Int32) else (if t0 = 0 then (0 : Int32) else (if x1 < (1 : Int32) then (0 : Int32) else (if (8 : Int32) < x1 then (0 : Int32) else (if x3 < 0 then (0 : Int32) else (if (200 : Int32) < x3 then (0 : Int32) else (1 : Int32)))))))
def s_H_isAsked_b74 (x1 : Int32) (x3 : Int32) (x8 : Int32) : Int32 := (s_H_isAsked_b75 x1 x3 x8 (0 : Int32))
def s_H_isAsked_b49 (x1 : Int32) (x3 : Int32) (x6 : Int32) (x7 : Int32) (t0 : Int32) : Int32 := (if x6 < (1 : Int32) then (s_H_isAsked_b74 x1 x3 t0) else (if (99 : Int32) < x6 then (s_H_isAsked_b74 x1 x3 t0) else (if x7 < (1 : Int32) then (s_H_isAsked_b74 x1 x3 t0) else (s_H_isAsked_b75 x1 x3 t0 (1 : Int32)))))
def s_H_isAsked_b48 (x1 : Int32) (x3 : Int32) (x6 : Int32) (x7 : Int32) : Int32 := (s_H_isAsked_b49 x1 x3 x6 x7 (0 : Int32))
def s_H_isAsked (a0 : Int32) (a1 : Int32) (a2 : Int32) (a3 : Int32) : Int32 := (if (a0 / (100 : Int32)) < (5 : Int32) then (s_H_isAsked_b48 a1 a3 (a2 / (100 : Int32)) (a2 - a2 / (100 : Int32) * (100 : Int32))) else (if (60 : Int32) < (a0 - a0 / (100 : Int32) * (100 : Int32)) then (s_H_isAsked_b48 a1 a3 (a2 / (100 : Int32)) (a2 - a2 / (100 : Int32) * (100 : Int32))) else (if (a0 - a0 / (100 : Int32) * (100 : Int32)) < (a0 / (100 : Int32)) then (s_H_isAsked_b48 a1 a3 (a2 / (100 : Int32)) (a2 - a2 / (100 : Int32) * (100 : Int32))) else (s_H_isAsked_b49 a1 a3 (a2 / (100 : Int32)) (a2 - a2 / (100 : Int32) * (100 : Int32)) (1 : Int32)))))
theorem z_H_isAsked_b75 (x1 : Int32) (x3 : Int32) (x8 : Int32) (t0 : Int32) : (s_H_isAsked_b75 x1 x3 x8 t0) = 0 ∨ (s_H_isAsked_b75 x1 x3 x8 t0) = 1 := by unfold s_H_isAsked_b75; (repeat' split) <;> first | with_reducible exact Or.inl rfl | with_reducible exact Or.inr rfl
theorem z_H_isAsked_b74 (x1 : Int32) (x3 : Int32) (x8 : Int32) : (s_H_isAsked_b74 x1 x3 x8) = 0 ∨ (s_H_isAsked_b74 x1 x3 x8) = 1 := by unfold s_H_isAsked_b74; (repeat' split) <;> first | with_reducible exact Or.inl rfl | with_reducible exact Or.inr rfl | with_reducible apply z_H_isAsked_b75
theorem z_H_isAsked_b49 (x1 : Int32) (x3 : Int32) (x6 : Int32) (x7 : Int32) (t0 : Int32) : (s_H_isAsked_b49 x1 x3 x6 x7 t0) = 0 ∨ (s_H_isAsked_b49 x1 x3 x6 x7 t0) = 1 := by unfold s_H_isAsked_b49; (repeat' split) <;> first | with_reducible exact Or.inl rfl | with_reducible exact Or.inr rfl | with_reducible apply z_H_isAsked_b75 | with_reducible apply z_H_isAsked_b74
theorem z_H_isAsked_b48 (x1 : Int32) (x3 : Int32) (x6 : Int32) (x7 : Int32) : (s_H_isAsked_b48 x1 x3 x6 x7) = 0 ∨ (s_H_isAsked_b48 x1 x3 x6 x7) = 1 := by unfold s_H_isAsked_b48; (repeat' split) <;> first | with_reducible exact Or.inl rfl | with_reducible exact Or.inr rfl | with_reducible apply z_H_isAsked_b75 | with_reducible apply z_H_isAsked_b74 | with_reducible apply z_H_isAsked_b49
theorem z_H_isAsked (a0 : Int32) (a1 : Int32) (a2 : Int32) (a3 : Int32) : (s_H_isAsked a0 a1 a2 a3) = 0 ∨ (s_H_isAsked a0 a1 a2 a3) = 1 := by unfold s_H_isAsked; (repeat' split) <;> first | with_reducible exact Or.inl rfl | with_reducible exact Or.inr rfl | with_reducible apply z_H_isAsked_b75 | with_reducible apply z_H_isAsked_b74 | with_reducible apply z_H_isAsked_b49 | with_reducible apply z_H_isAsked_b48
set_option maxRecDepth 20000 in
theorem c_H_isAsked (l : Launch) (E : Cx) (a0 : Int32) (a1 : Int32) (a2 : Int32) (a3 : Int32) : Met l y_H_isAsked (Cond.code y_H_isAsked b_H_isAsked 10 (some .boolean) :: TB) (rk 0 0) (va_Pc [.int a0, .int a1, .int a2, .int a3] (preR E [])) (vp_Si (fun r => r = (s_H_isAsked a0 a1 a2 a3))) 0 0 (fun _ => False) := by
  refine w_roI rfl (Nat.le_of_ble_eq_true rfl) (k_nb (z_H_isAsked a0 a1 a2 a3)) ?_
  intro p e s m args below meth c Q ls hx hb hml hts hown hP hK hl hend
  have hl : lv_has ls 10 [(0, .int a0), (1, .int a1), (2, .int a2), (3, .int a3)] := hl
  have hown : s.vm.findClass R_H = some m.cls := hown
  have b75 : ∀ (x1 : Int32) (x3 : Int32) (x8 : Int32) (t0 : Int32), ∀ (ls : Array Slot), lv_has ls 10 [(1, .int x1), (3, .int x3), (8, .int x8)] → (s_H_isAsked a0 a1 a2 a3) = s_H_isAsked_b75 x1 x3 x8 t0 → W p l e (rk 0 0) s m args below meth c s.heap [] 0 0 Q (F0 m 75 ls [.int t0]) := by
    intro x1 x3 x8 t0 ls hl hq
    refine lv_istore (lv' := [(9, .int t0), (1, .int x1), (3, .int x3), (8, .int x8)]) hx hb d_H_isAsked_75 hl (by decide) rfl (fun ls hl => ?_)
    refine lv_iload hx hb d_H_isAsked_77 (lv_at hl 3 rfl) ?_
    refine lv_if_eq (tgt := 113) hx hb d_H_isAsked_79 (by decide) (fun c_79 => ?_) (fun c_79 => ?_)
    · refine lv_iconst (v := (0 : Int32)) hx hb d_H_isAsked_113 rfl ?_
      exact hend _ _ _ (by rw [hq, s_H_isAsked_b75, if_pos c_79]) d_H_isAsked_114
    · refine lv_iload hx hb d_H_isAsked_82 (lv_at hl 0 rfl) ?_
      refine lv_if_eq (tgt := 113) hx hb d_H_isAsked_84 (by decide) (fun c_84 => ?_) (fun c_84 => ?_)
      · refine lv_iconst (v := (0 : Int32)) hx hb d_H_isAsked_113 rfl ?_
        exact hend _ _ _ (by rw [hq, s_H_isAsked_b75, if_neg c_79, if_pos c_84]) d_H_isAsked_114
      · refine lv_iload_n hx hb d_H_isAsked_87 rfl (lv_at hl 1 rfl) ?_
        refine lv_iconst (v := (1 : Int32)) hx hb d_H_isAsked_88 rfl ?_
        refine lv_icmp_lt (tgt := 113) hx hb d_H_isAsked_89 (by decide) (fun c_89 => ?_) (fun c_89 => ?_)
        · refine lv_iconst (v := (0 : Int32)) hx hb d_H_isAsked_113 rfl ?_
          exact hend _ _ _ (by rw [hq, s_H_isAsked_b75, if_neg c_79, if_neg c_84, if_pos c_89]) d_H_isAsked_114
        · refine lv_iload_n hx hb d_H_isAsked_92 rfl (lv_at hl 1 rfl) ?_
          refine lv_bipush (v := (8 : Int32)) hx hb d_H_isAsked_93 rfl ?_
          refine lv_icmp_gt (tgt := 113) hx hb d_H_isAsked_95 (by decide) (fun c_95 => ?_) (fun c_95 => ?_)
          · refine lv_iconst (v := (0 : Int32)) hx hb d_H_isAsked_113 rfl ?_
            exact hend _ _ _ (by rw [hq, s_H_isAsked_b75, if_neg c_79, if_neg c_84, if_neg c_89, if_pos c_95]) d_H_isAsked_114
          · refine lv_iload_n hx hb d_H_isAsked_98 rfl (lv_at hl 2 rfl) ?_
            refine lv_if_lt (tgt := 113) hx hb d_H_isAsked_99 (by decide) (fun c_99 => ?_) (fun c_99 => ?_)
            · refine lv_iconst (v := (0 : Int32)) hx hb d_H_isAsked_113 rfl ?_
              exact hend _ _ _ (by rw [hq, s_H_isAsked_b75, if_neg c_79, if_neg c_84, if_neg c_89, if_neg c_95, if_pos c_99]) d_H_isAsked_114
            · refine lv_iload_n hx hb d_H_isAsked_102 rfl (lv_at hl 2 rfl) ?_
              refine lv_sipush (v := (200 : Int32)) hx hb d_H_isAsked_103 rfl ?_
              refine lv_icmp_gt (tgt := 113) hx hb d_H_isAsked_106 (by decide) (fun c_106 => ?_) (fun c_106 => ?_)
              · refine lv_iconst (v := (0 : Int32)) hx hb d_H_isAsked_113 rfl ?_
                exact hend _ _ _ (by rw [hq, s_H_isAsked_b75, if_neg c_79, if_neg c_84, if_neg c_89, if_neg c_95, if_neg c_99, if_pos c_106]) d_H_isAsked_114
              · refine lv_iconst (v := (1 : Int32)) hx hb d_H_isAsked_109 rfl ?_
                refine lv_goto (tgt := 114) hx hb d_H_isAsked_110 (by decide) ?_
                exact hend _ _ _ (by rw [hq, s_H_isAsked_b75, if_neg c_79, if_neg c_84, if_neg c_89, if_neg c_95, if_neg c_99, if_neg c_106]) d_H_isAsked_114
  have b74 : ∀ (x1 : Int32) (x3 : Int32) (x8 : Int32), ∀ (ls : Array Slot), lv_has ls 10 [(1, .int x1), (3, .int x3), (8, .int x8)] → (s_H_isAsked a0 a1 a2 a3) = s_H_isAsked_b74 x1 x3 x8 → W p l e (rk 0 0) s m args below meth c s.heap [] 0 0 Q (F0 m 74 ls []) := by
    intro x1 x3 x8 ls hl hq
    refine lv_iconst (v := (0 : Int32)) hx hb d_H_isAsked_74 rfl ?_
    exact b75 x1 x3 x8 (0 : Int32) ls (lv_sub hl [0, 1, 2] rfl) (by rw [hq, s_H_isAsked_b74])
  have b49 : ∀ (x1 : Int32) (x3 : Int32) (x6 : Int32) (x7 : Int32) (t0 : Int32), ∀ (ls : Array Slot), lv_has ls 10 [(1, .int x1), (3, .int x3), (6, .int x6), (7, .int x7)] → (s_H_isAsked a0 a1 a2 a3) = s_H_isAsked_b49 x1 x3 x6 x7 t0 → W p l e (rk 0 0) s m args below meth c s.heap [] 0 0 Q (F0 m 49 ls [.int t0]) := by
    intro x1 x3 x6 x7 t0 ls hl hq
    refine lv_istore (lv' := [(8, .int t0), (1, .int x1), (3, .int x3), (6, .int x6), (7, .int x7)]) hx hb d_H_isAsked_49 hl (by decide) rfl (fun ls hl => ?_)
    refine lv_iload hx hb d_H_isAsked_51 (lv_at hl 3 rfl) ?_
    refine lv_iconst (v := (1 : Int32)) hx hb d_H_isAsked_53 rfl ?_
    refine lv_icmp_lt (tgt := 74) hx hb d_H_isAsked_54 (by decide) (fun c_54 => ?_) (fun c_54 => ?_)
    · exact b74 x1 x3 t0 ls (lv_sub hl [1, 2, 0] rfl) (by rw [hq, s_H_isAsked_b49, if_pos c_54])
    · refine lv_iload hx hb d_H_isAsked_57 (lv_at hl 3 rfl) ?_
      refine lv_bipush (v := (99 : Int32)) hx hb d_H_isAsked_59 rfl ?_
      refine lv_icmp_gt (tgt := 74) hx hb d_H_isAsked_61 (by decide) (fun c_61 => ?_) (fun c_61 => ?_)
      · exact b74 x1 x3 t0 ls (lv_sub hl [1, 2, 0] rfl) (by rw [hq, s_H_isAsked_b49, if_neg c_54, if_pos c_61])
      · refine lv_iload hx hb d_H_isAsked_64 (lv_at hl 4 rfl) ?_
        refine lv_iconst (v := (1 : Int32)) hx hb d_H_isAsked_66 rfl ?_
        refine lv_icmp_lt (tgt := 74) hx hb d_H_isAsked_67 (by decide) (fun c_67 => ?_) (fun c_67 => ?_)
        · exact b74 x1 x3 t0 ls (lv_sub hl [1, 2, 0] rfl) (by rw [hq, s_H_isAsked_b49, if_neg c_54, if_neg c_61, if_pos c_67])
        · refine lv_iconst (v := (1 : Int32)) hx hb d_H_isAsked_70 rfl ?_
          refine lv_goto (tgt := 75) hx hb d_H_isAsked_71 (by decide) ?_
          exact b75 x1 x3 t0 (1 : Int32) ls (lv_sub hl [1, 2, 0] rfl) (by rw [hq, s_H_isAsked_b49, if_neg c_54, if_neg c_61, if_neg c_67])
  have b48 : ∀ (x1 : Int32) (x3 : Int32) (x6 : Int32) (x7 : Int32), ∀ (ls : Array Slot), lv_has ls 10 [(1, .int x1), (3, .int x3), (6, .int x6), (7, .int x7)] → (s_H_isAsked a0 a1 a2 a3) = s_H_isAsked_b48 x1 x3 x6 x7 → W p l e (rk 0 0) s m args below meth c s.heap [] 0 0 Q (F0 m 48 ls []) := by
    intro x1 x3 x6 x7 ls hl hq
    refine lv_iconst (v := (0 : Int32)) hx hb d_H_isAsked_48 rfl ?_
    exact b49 x1 x3 x6 x7 (0 : Int32) ls (lv_sub hl [0, 1, 2, 3] rfl) (by rw [hq, s_H_isAsked_b48])
  refine lv_iload_n hx hb d_H_isAsked_0 rfl (lv_at hl 0 rfl) ?_
  refine lv_bipush (v := (100 : Int32)) hx hb d_H_isAsked_1 rfl ?_
  refine lv_idiv hx hb d_H_isAsked_3 (by decide) ?_
  refine lv_istore (lv' := [(4, .int (a0 / (100 : Int32))), (0, .int a0), (1, .int a1), (2, .int a2), (3, .int a3)]) hx hb d_H_isAsked_4 hl (by decide) rfl (fun ls hl => ?_)
  refine lv_iload_n hx hb d_H_isAsked_6 rfl (lv_at hl 1 rfl) ?_
  refine lv_bipush (v := (100 : Int32)) hx hb d_H_isAsked_7 rfl ?_
  refine lv_irem hx hb d_H_isAsked_9 (by decide) ?_
  refine lv_istore (lv' := [(5, .int (a0 - a0 / (100 : Int32) * (100 : Int32))), (4, .int (a0 / (100 : Int32))), (0, .int a0), (1, .int a1), (2, .int a2), (3, .int a3)]) hx hb d_H_isAsked_10 hl (by decide) rfl (fun ls hl => ?_)
  refine lv_iload_n hx hb d_H_isAsked_12 rfl (lv_at hl 4 rfl) ?_
  refine lv_bipush (v := (100 : Int32)) hx hb d_H_isAsked_13 rfl ?_
  refine lv_idiv hx hb d_H_isAsked_15 (by decide) ?_
  refine lv_istore (lv' := [(6, .int (a2 / (100 : Int32))), (5, .int (a0 - a0 / (100 : Int32) * (100 : Int32))), (4, .int (a0 / (100 : Int32))), (0, .int a0), (1, .int a1), (2, .int a2), (3, .int a3)]) hx hb d_H_isAsked_16 hl (by decide) rfl (fun ls hl => ?_)
  refine lv_iload_n hx hb d_H_isAsked_18 rfl (lv_at hl 5 rfl) ?_
  refine lv_bipush (v := (100 : Int32)) hx hb d_H_isAsked_19 rfl ?_
  refine lv_irem hx hb d_H_isAsked_21 (by decide) ?_
  refine lv_istore (lv' := [(7, .int (a2 - a2 / (100 : Int32) * (100 : Int32))), (6, .int (a2 / (100 : Int32))), (5, .int (a0 - a0 / (100 : Int32) * (100 : Int32))), (4, .int (a0 / (100 : Int32))), (0, .int a0), (1, .int a1), (2, .int a2), (3, .int a3)]) hx hb d_H_isAsked_22 hl (by decide) rfl (fun ls hl => ?_)
  refine lv_iload hx hb d_H_isAsked_24 (lv_at hl 3 rfl) ?_
  refine lv_iconst (v := (5 : Int32)) hx hb d_H_isAsked_26 rfl ?_
  refine lv_icmp_lt (tgt := 48) hx hb d_H_isAsked_27 (by decide) (fun c_27 => ?_) (fun c_27 => ?_)
  · exact b48 a1 a3 (a2 / (100 : Int32)) (a2 - a2 / (100 : Int32) * (100 : Int32)) ls (lv_sub hl [5, 7, 1, 0] rfl) (by rw [s_H_isAsked, if_pos c_27])
  · refine lv_iload hx hb d_H_isAsked_30 (lv_at hl 2 rfl) ?_
    refine lv_bipush (v := (60 : Int32)) hx hb d_H_isAsked_32 rfl ?_
    refine lv_icmp_gt (tgt := 48) hx hb d_H_isAsked_34 (by decide) (fun c_34 => ?_) (fun c_34 => ?_)
    · exact b48 a1 a3 (a2 / (100 : Int32)) (a2 - a2 / (100 : Int32) * (100 : Int32)) ls (lv_sub hl [5, 7, 1, 0] rfl) (by rw [s_H_isAsked, if_neg c_27, if_pos c_34])
    · refine lv_iload hx hb d_H_isAsked_37 (lv_at hl 3 rfl) ?_
      refine lv_iload hx hb d_H_isAsked_39 (lv_at hl 2 rfl) ?_
      refine lv_icmp_gt (tgt := 48) hx hb d_H_isAsked_41 (by decide) (fun c_41 => ?_) (fun c_41 => ?_)
      · exact b48 a1 a3 (a2 / (100 : Int32)) (a2 - a2 / (100 : Int32) * (100 : Int32)) ls (lv_sub hl [5, 7, 1, 0] rfl) (by rw [s_H_isAsked, if_neg c_27, if_neg c_34, if_pos c_41])
      · refine lv_iconst (v := (1 : Int32)) hx hb d_H_isAsked_44 rfl ?_
        refine lv_goto (tgt := 49) hx hb d_H_isAsked_45 (by decide) ?_
        exact b49 a1 a3 (a2 / (100 : Int32)) (a2 - a2 / (100 : Int32) * (100 : Int32)) (1 : Int32) ls (lv_sub hl [5, 7, 1, 0] rfl) (by rw [s_H_isAsked, if_neg c_27, if_neg c_34, if_neg c_41])

def s_X_isLetter (a0 : Int32) : Int32 := (if a0 = (119 : Int32) then (1 : Int32) else (if a0 = (115 : Int32) then (1 : Int32) else (if a0 = (112 : Int32) then (1 : Int32) else (if a0 = (116 : Int32) then (1 : Int32) else (if a0 = (120 : Int32) then (1 : Int32) else (0 : Int32))))))
theorem z_X_isLetter (a0 : Int32) : (s_X_isLetter a0) = 0 ∨ (s_X_isLetter a0) = 1 := by unfold s_X_isLetter; (repeat' split) <;> first | with_reducible exact Or.inl rfl | with_reducible exact Or.inr rfl
set_option maxRecDepth 20000 in
theorem c_X_isLetter (l : Launch) (E : Cx) (a0 : Int32) : Met l y_X_isLetter (Cond.code y_X_isLetter b_X_isLetter 1 (some .boolean) :: TB) (rk 0 0) (va_Pc [.int a0] (preR E [])) (vp_Si (fun r => r = (s_X_isLetter a0))) 0 0 (fun _ => False) := by
  refine w_roI rfl (Nat.le_of_ble_eq_true rfl) (k_nb (z_X_isLetter a0)) ?_
  intro p e s m args below meth c Q ls hx hb hml hts hown hP hK hl hend
  have hl : lv_has ls 1 [(0, .int a0)] := hl
  have hown : s.vm.findClass R_X = some m.cls := hown
  refine lv_iload_n hx hb d_X_isLetter_0 rfl (lv_at hl 0 rfl) ?_
  refine lv_bipush (v := (119 : Int32)) hx hb d_X_isLetter_1 rfl ?_
  refine lv_icmp_eq (tgt := 30) hx hb d_X_isLetter_3 (by decide) (fun c_3 => ?_) (fun c_3 => ?_)
  · refine lv_iconst (v := (1 : Int32)) hx hb d_X_isLetter_30 rfl ?_
    refine lv_goto (tgt := 35) hx hb d_X_isLetter_31 (by decide) ?_
    exact hend _ _ _ (by rw [s_X_isLetter, if_pos c_3]) d_X_isLetter_35
  · refine lv_iload_n hx hb d_X_isLetter_6 rfl (lv_at hl 0 rfl) ?_
    refine lv_bipush (v := (115 : Int32)) hx hb d_X_isLetter_7 rfl ?_
    refine lv_icmp_eq (tgt := 30) hx hb d_X_isLetter_9 (by decide) (fun c_9 => ?_) (fun c_9 => ?_)
    · refine lv_iconst (v := (1 : Int32)) hx hb d_X_isLetter_30 rfl ?_
      refine lv_goto (tgt := 35) hx hb d_X_isLetter_31 (by decide) ?_
      exact hend _ _ _ (by rw [s_X_isLetter, if_neg c_3, if_pos c_9]) d_X_isLetter_35
    · refine lv_iload_n hx hb d_X_isLetter_12 rfl (lv_at hl 0 rfl) ?_
      refine lv_bipush (v := (112 : Int32)) hx hb d_X_isLetter_13 rfl ?_
      refine lv_icmp_eq (tgt := 30) hx hb d_X_isLetter_15 (by decide) (fun c_15 => ?_) (fun c_15 => ?_)
      · refine lv_iconst (v := (1 : Int32)) hx hb d_X_isLetter_30 rfl ?_
        refine lv_goto (tgt := 35) hx hb d_X_isLetter_31 (by decide) ?_
        exact hend _ _ _ (by rw [s_X_isLetter, if_neg c_3, if_neg c_9, if_pos c_15]) d_X_isLetter_35
      · refine lv_iload_n hx hb d_X_isLetter_18 rfl (lv_at hl 0 rfl) ?_
        refine lv_bipush (v := (116 : Int32)) hx hb d_X_isLetter_19 rfl ?_
        refine lv_icmp_eq (tgt := 30) hx hb d_X_isLetter_21 (by decide) (fun c_21 => ?_) (fun c_21 => ?_)
        · refine lv_iconst (v := (1 : Int32)) hx hb d_X_isLetter_30 rfl ?_
          refine lv_goto (tgt := 35) hx hb d_X_isLetter_31 (by decide) ?_
          exact hend _ _ _ (by rw [s_X_isLetter, if_neg c_3, if_neg c_9, if_neg c_15, if_pos c_21]) d_X_isLetter_35
        · refine lv_iload_n hx hb d_X_isLetter_24 rfl (lv_at hl 0 rfl) ?_
          refine lv_bipush (v := (120 : Int32)) hx hb d_X_isLetter_25 rfl ?_
          refine lv_icmp_ne (tgt := 34) hx hb d_X_isLetter_27 (by decide) (fun c_27 => ?_) (fun c_27 => ?_)
          · refine lv_iconst (v := (0 : Int32)) hx hb d_X_isLetter_34 rfl ?_
            exact hend _ _ _ (by rw [s_X_isLetter, if_neg c_3, if_neg c_9, if_neg c_15, if_neg c_21, if_neg c_27]) d_X_isLetter_35
          · refine lv_iconst (v := (1 : Int32)) hx hb d_X_isLetter_30 rfl ?_
            refine lv_goto (tgt := 35) hx hb d_X_isLetter_31 (by decide) ?_
            exact hend _ _ _ (by rw [s_X_isLetter, if_neg c_3, if_neg c_9, if_neg c_15, if_neg c_21, if_pos c_27]) d_X_isLetter_35

def s_X_isFigure (a0 : Int32) : Int32 := (if a0 < (48 : Int32) then (0 : Int32) else (if (57 : Int32) < a0 then (0 : Int32) else (1 : Int32)))
theorem z_X_isFigure (a0 : Int32) : (s_X_isFigure a0) = 0 ∨ (s_X_isFigure a0) = 1 := by unfold s_X_isFigure; (repeat' split) <;> first | with_reducible exact Or.inl rfl | with_reducible exact Or.inr rfl
set_option maxRecDepth 20000 in
theorem c_X_isFigure (l : Launch) (E : Cx) (a0 : Int32) : Met l y_X_isFigure (Cond.code y_X_isFigure b_X_isFigure 1 (some .boolean) :: TB) (rk 0 0) (va_Pc [.int a0] (preR E [])) (vp_Si (fun r => r = (s_X_isFigure a0))) 0 0 (fun _ => False) := by
  refine w_roI rfl (Nat.le_of_ble_eq_true rfl) (k_nb (z_X_isFigure a0)) ?_
  intro p e s m args below meth c Q ls hx hb hml hts hown hP hK hl hend
  have hl : lv_has ls 1 [(0, .int a0)] := hl
  have hown : s.vm.findClass R_X = some m.cls := hown
  refine lv_iload_n hx hb d_X_isFigure_0 rfl (lv_at hl 0 rfl) ?_
  refine lv_bipush (v := (48 : Int32)) hx hb d_X_isFigure_1 rfl ?_
  refine lv_icmp_lt (tgt := 16) hx hb d_X_isFigure_3 (by decide) (fun c_3 => ?_) (fun c_3 => ?_)
  · refine lv_iconst (v := (0 : Int32)) hx hb d_X_isFigure_16 rfl ?_
    exact hend _ _ _ (by rw [s_X_isFigure, if_pos c_3]) d_X_isFigure_17
  · refine lv_iload_n hx hb d_X_isFigure_6 rfl (lv_at hl 0 rfl) ?_
    refine lv_bipush (v := (57 : Int32)) hx hb d_X_isFigure_7 rfl ?_
    refine lv_icmp_gt (tgt := 16) hx hb d_X_isFigure_9 (by decide) (fun c_9 => ?_) (fun c_9 => ?_)
    · refine lv_iconst (v := (0 : Int32)) hx hb d_X_isFigure_16 rfl ?_
      exact hend _ _ _ (by rw [s_X_isFigure, if_neg c_3, if_pos c_9]) d_X_isFigure_17
    · refine lv_iconst (v := (1 : Int32)) hx hb d_X_isFigure_12 rfl ?_
      refine lv_goto (tgt := 17) hx hb d_X_isFigure_13 (by decide) ?_
      exact hend _ _ _ (by rw [s_X_isFigure, if_neg c_3, if_neg c_9]) d_X_isFigure_17
end
section
/-! by program (wip/whole/cls.py) -/
def s_B_size (S : St) : Int32 := (s_N_size S 0)
set_option maxRecDepth 20000 in
theorem c_B_size (l : Launch) (E : Cx) (ad : Nat → Nat) (X : va_W) (S : St) : Met l y_B_size (Cond.code y_B_size b_B_size 1 (some .int) :: TB) (rk 1 20) (va_Pc [.ref (ad 40)] (preR E (wb E ad S ++ X))) (vp_Si (fun r => r = (s_B_size S))) 0 0 (fun _ => False) := by
  refine w_roI rfl (Nat.le_of_ble_eq_true rfl) rfl ?_
  intro p e s m args below meth c Q ls hx hb hml hts hown hP hK hl hend
  have hl : lv_has ls 1 [(0, .ref (ad 40))] := hl
  have hP : va_P E.1 vwCl (wb E ad S ++ X) s.heap := hP
  have hown : s.vm.findClass R_B = some m.cls := hown
  refine lv_aload_n hx hb d_B_size_0 rfl (lv_at hl 0 rfl) ?_
  refine g_B0_teeth hx hb hts hown hK hP d_B_size_1 ?_
  refine k_vi (rest := []) (c_N_size l E ad X S 0 (Nat.le_of_ble_eq_true rfl)) mi_N_size ml_B_37 hx hb hml hts hown hK hP (rvN (Nat.le_of_ble_eq_true rfl)) hl ⟨rfl, rfl⟩ ⟨(Nat.le_of_ble_eq_true rfl), (Nat.le_of_ble_eq_true rfl)⟩ ⟨Nat.zero_le _, Nat.zero_le _⟩ rfl (Nat.le_of_ble_eq_true rfl) rfl d_B_size_4 ?_
  exact hend _ _ _ (by rw [s_B_size]) d_B_size_7

def s_B_hasWheel (S : St) (a1 : Int32) : Int32 := (s_N_has S 0 a1)
theorem z_B_hasWheel (S : St) (a1 : Int32) : (s_B_hasWheel S a1) = 0 ∨ (s_B_hasWheel S a1) = 1 := by unfold s_B_hasWheel; (repeat' split) <;> first | with_reducible exact Or.inl rfl | with_reducible exact Or.inr rfl | with_reducible apply z_N_has
set_option maxRecDepth 20000 in
theorem c_B_hasWheel (l : Launch) (E : Cx) (ad : Nat → Nat) (X : va_W) (S : St) (a1 : Int32) : Met l y_B_hasWheel (Cond.code y_B_hasWheel b_B_hasWheel 2 (some .boolean) :: TB) (rk 1 21) (va_Pc [.ref (ad 40), .int a1] (preR E (wb E ad S ++ X))) (vp_Si (fun r => r = (s_B_hasWheel S a1))) 0 0 (fun _ => False) := by
  refine w_roI rfl (Nat.le_of_ble_eq_true rfl) (k_nb (z_B_hasWheel S a1)) ?_
  intro p e s m args below meth c Q ls hx hb hml hts hown hP hK hl hend
  have hl : lv_has ls 2 [(0, .ref (ad 40)), (1, .int a1)] := hl
  have hP : va_P E.1 vwCl (wb E ad S ++ X) s.heap := hP
  have hown : s.vm.findClass R_B = some m.cls := hown
  refine lv_aload_n hx hb d_B_hasWheel_0 rfl (lv_at hl 0 rfl) ?_
  refine g_B0_teeth hx hb hts hown hK hP d_B_hasWheel_1 ?_
  refine lv_iload_n hx hb d_B_hasWheel_4 rfl (lv_at hl 1 rfl) ?_
  refine k_vi (rest := []) (c_N_has l E ad X S 0 (Nat.le_of_ble_eq_true rfl) a1) mi_N_has ml_B_41 hx hb hml hts hown hK hP (rvN (Nat.le_of_ble_eq_true rfl)) hl ⟨rfl, rfl⟩ ⟨(Nat.le_of_ble_eq_true rfl), (Nat.le_of_ble_eq_true rfl)⟩ ⟨Nat.zero_le _, Nat.zero_le _⟩ rfl (Nat.le_of_ble_eq_true rfl) rfl d_B_hasWheel_5 ?_
  exact hend _ _ _ (by rw [s_B_hasWheel]) d_B_hasWheel_8

def s_B_teethOf (S : St) (a1 : Int32) : Int32 := (s_N_at S 0 a1)
set_option maxRecDepth 20000 in
theorem c_B_teethOf (l : Launch) (E : Cx) (ad : Nat → Nat) (X : va_W) (S : St) (a1 : Int32) : Met l y_B_teethOf (Cond.code y_B_teethOf b_B_teethOf 2 (some .int) :: TB) (rk 1 21) (va_Pc [.ref (ad 40), .int a1] (preR E (wb E ad S ++ X))) (vp_Si (fun r => r = (s_B_teethOf S a1))) 0 0 (fun _ => False) := by
  refine w_roI rfl (Nat.le_of_ble_eq_true rfl) rfl ?_
  intro p e s m args below meth c Q ls hx hb hml hts hown hP hK hl hend
  have hl : lv_has ls 2 [(0, .ref (ad 40)), (1, .int a1)] := hl
  have hP : va_P E.1 vwCl (wb E ad S ++ X) s.heap := hP
  have hown : s.vm.findClass R_B = some m.cls := hown
  refine lv_aload_n hx hb d_B_teethOf_0 rfl (lv_at hl 0 rfl) ?_
  refine g_B0_teeth hx hb hts hown hK hP d_B_teethOf_1 ?_
  refine lv_iload_n hx hb d_B_teethOf_4 rfl (lv_at hl 1 rfl) ?_
  refine k_vi (rest := []) (c_N_at l E ad X S 0 (Nat.le_of_ble_eq_true rfl) a1) mi_N_at ml_B_45 hx hb hml hts hown hK hP (rvN (Nat.le_of_ble_eq_true rfl)) hl ⟨rfl, rfl⟩ ⟨(Nat.le_of_ble_eq_true rfl), (Nat.le_of_ble_eq_true rfl)⟩ ⟨Nat.zero_le _, Nat.zero_le _⟩ rfl (Nat.le_of_ble_eq_true rfl) rfl d_B_teethOf_5 ?_
  exact hend _ _ _ (by rw [s_B_teethOf]) d_B_teethOf_8

def s_B_pressureNow (S : St) : Int32 := (S.1 19)
set_option maxRecDepth 20000 in
theorem c_B_pressureNow (l : Launch) (E : Cx) (ad : Nat → Nat) (X : va_W) (S : St) : Met l y_B_pressureNow (Cond.code y_B_pressureNow b_B_pressureNow 1 (some .int) :: TB) (rk 0 0) (va_Pc [.ref (ad 40)] (preR E (wb E ad S ++ X))) (vp_Si (fun r => r = (s_B_pressureNow S))) 0 0 (fun _ => False) := by
  refine w_roI rfl (Nat.le_of_ble_eq_true rfl) rfl ?_
  intro p e s m args below meth c Q ls hx hb hml hts hown hP hK hl hend
  have hl : lv_has ls 1 [(0, .ref (ad 40))] := hl
  have hP : va_P E.1 vwCl (wb E ad S ++ X) s.heap := hP
  have hown : s.vm.findClass R_B = some m.cls := hown
  refine lv_aload_n hx hb d_B_pressureNow_0 rfl (lv_at hl 0 rfl) ?_
  refine g_B0_pressure hx hb hts hown hK hP d_B_pressureNow_1 ?_
  exact hend _ _ _ (by rw [s_B_pressureNow]) d_B_pressureNow_4

def s_B_pairsInTrain (S : St) : Int32 := (s_N_size S 2)
set_option maxRecDepth 20000 in
theorem c_B_pairsInTrain (l : Launch) (E : Cx) (ad : Nat → Nat) (X : va_W) (S : St) : Met l y_B_pairsInTrain (Cond.code y_B_pairsInTrain b_B_pairsInTrain 1 (some .int) :: TB) (rk 1 20) (va_Pc [.ref (ad 40)] (preR E (wb E ad S ++ X))) (vp_Si (fun r => r = (s_B_pairsInTrain S))) 0 0 (fun _ => False) := by
  refine w_roI rfl (Nat.le_of_ble_eq_true rfl) rfl ?_
  intro p e s m args below meth c Q ls hx hb hml hts hown hP hK hl hend
  have hl : lv_has ls 1 [(0, .ref (ad 40))] := hl
  have hP : va_P E.1 vwCl (wb E ad S ++ X) s.heap := hP
  have hown : s.vm.findClass R_B = some m.cls := hown
  refine lv_aload_n hx hb d_B_pairsInTrain_0 rfl (lv_at hl 0 rfl) ?_
  refine g_B0_drivers hx hb hts hown hK hP d_B_pairsInTrain_1 ?_
  refine k_vi (rest := []) (c_N_size l E ad X S 2 (Nat.le_of_ble_eq_true rfl)) mi_N_size ml_B_37 hx hb hml hts hown hK hP (rvN (Nat.le_of_ble_eq_true rfl)) hl ⟨rfl, rfl⟩ ⟨(Nat.le_of_ble_eq_true rfl), (Nat.le_of_ble_eq_true rfl)⟩ ⟨Nat.zero_le _, Nat.zero_le _⟩ rfl (Nat.le_of_ble_eq_true rfl) rfl d_B_pairsInTrain_4 ?_
  exact hend _ _ _ (by rw [s_B_pairsInTrain]) d_B_pairsInTrain_7

def s_B_square (S : St) : Int32 := (if (S.1 19) = 0 then (627 : Int32) else (if (S.1 19) = 1 then (1170 : Int32) else (1786 : Int32)))
set_option maxRecDepth 20000 in
theorem c_B_square (l : Launch) (E : Cx) (ad : Nat → Nat) (X : va_W) (S : St) : Met l y_B_square (Cond.code y_B_square b_B_square 1 (some .int) :: TB) (rk 0 0) (va_Pc [.ref (ad 40)] (preR E (wb E ad S ++ X))) (vp_Si (fun r => r = (s_B_square S))) 0 0 (fun _ => False) := by
  refine w_roI rfl (Nat.le_of_ble_eq_true rfl) rfl ?_
  intro p e s m args below meth c Q ls hx hb hml hts hown hP hK hl hend
  have hl : lv_has ls 1 [(0, .ref (ad 40))] := hl
  have hP : va_P E.1 vwCl (wb E ad S ++ X) s.heap := hP
  have hown : s.vm.findClass R_B = some m.cls := hown
  refine lv_aload_n hx hb d_B_square_0 rfl (lv_at hl 0 rfl) ?_
  refine g_B0_pressure hx hb hts hown hK hP d_B_square_1 ?_
  by_cases c_4_0 : (S.1 19) = (0 : Int32)
  · refine lv_lookup (x := (S.1 19)) (off := 28) (tgt := 32) hx hb d_B_square_4 (by decide) (by rw [c_4_0]; rfl) (by decide) ?_
    refine lv_sipush (v := (627 : Int32)) hx hb d_B_square_32 rfl ?_
    exact hend _ _ _ (by rw [s_B_square, if_pos c_4_0]) d_B_square_35
  by_cases c_4_1 : (S.1 19) = (1 : Int32)
  · refine lv_lookup (x := (S.1 19)) (off := 32) (tgt := 36) hx hb d_B_square_4 (by decide) (by rw [c_4_1]; rfl) (by decide) ?_
    refine lv_sipush (v := (1170 : Int32)) hx hb d_B_square_36 rfl ?_
    exact hend _ _ _ (by rw [s_B_square, if_neg c_4_0, if_pos c_4_1]) d_B_square_39
  refine lv_lookup (x := (S.1 19)) (off := 36) (tgt := 40) hx hb d_B_square_4 (by decide) (by show Op.lookupswitch.offset [(0, 28), (1, 32)] 36 _ = _; rw [lv_osw (a := 0) (k := 0) c_4_0 (by decide), lv_osw (a := 1) (k := 1) c_4_1 (by decide), Op.lookupswitch.offset_nil]) (by decide) ?_
  refine lv_sipush (v := (1786 : Int32)) hx hb d_B_square_40 rfl ?_
  exact hend _ _ _ (by rw [s_B_square, if_neg c_4_0, if_neg c_4_1]) d_B_square_43

def s_B_isRing (S : St) (a1 : Int32) : Int32 := (if 0 ≤ (s_N_at S 0 a1) then (0 : Int32) else (1 : Int32))
theorem z_B_isRing (S : St) (a1 : Int32) : (s_B_isRing S a1) = 0 ∨ (s_B_isRing S a1) = 1 := by unfold s_B_isRing; (repeat' split) <;> first | with_reducible exact Or.inl rfl | with_reducible exact Or.inr rfl
set_option maxRecDepth 20000 in
theorem c_B_isRing (l : Launch) (E : Cx) (ad : Nat → Nat) (X : va_W) (S : St) (a1 : Int32) : Met l y_B_isRing (Cond.code y_B_isRing b_B_isRing 2 (some .boolean) :: TB) (rk 1 21) (va_Pc [.ref (ad 40), .int a1] (preR E (wb E ad S ++ X))) (vp_Si (fun r => r = (s_B_isRing S a1))) 0 0 (fun _ => False) := by
  refine w_roI rfl (Nat.le_of_ble_eq_true rfl) (k_nb (z_B_isRing S a1)) ?_
  intro p e s m args below meth c Q ls hx hb hml hts hown hP hK hl hend
  have hl : lv_has ls 2 [(0, .ref (ad 40)), (1, .int a1)] := hl
  have hP : va_P E.1 vwCl (wb E ad S ++ X) s.heap := hP
  have hown : s.vm.findClass R_B = some m.cls := hown
  refine lv_aload_n hx hb d_B_isRing_0 rfl (lv_at hl 0 rfl) ?_
  refine g_B0_teeth hx hb hts hown hK hP d_B_isRing_1 ?_
  refine lv_iload_n hx hb d_B_isRing_4 rfl (lv_at hl 1 rfl) ?_
  refine k_vi (rest := []) (c_N_at l E ad X S 0 (Nat.le_of_ble_eq_true rfl) a1) mi_N_at ml_B_45 hx hb hml hts hown hK hP (rvN (Nat.le_of_ble_eq_true rfl)) hl ⟨rfl, rfl⟩ ⟨(Nat.le_of_ble_eq_true rfl), (Nat.le_of_ble_eq_true rfl)⟩ ⟨Nat.zero_le _, Nat.zero_le _⟩ rfl (Nat.le_of_ble_eq_true rfl) rfl d_B_isRing_5 ?_
  refine lv_if_ge (tgt := 15) hx hb d_B_isRing_8 (by decide) (fun c_8 => ?_) (fun c_8 => ?_)
  · refine lv_iconst (v := (0 : Int32)) hx hb d_B_isRing_15 rfl ?_
    exact hend _ _ _ (by rw [s_B_isRing, if_pos c_8]) d_B_isRing_16
  · refine lv_iconst (v := (1 : Int32)) hx hb d_B_isRing_11 rfl ?_
    refine lv_goto (tgt := 16) hx hb d_B_isRing_12 (by decide) ?_
    exact hend _ _ _ (by rw [s_B_isRing, if_neg c_8]) d_B_isRing_16

def s_B_keepsLimit (S : St) (a1 : Int32) (a2 : Int32) : Int32 := (if (a1 * (s_B_square S)) < ((200 : Int32) * ((100 : Int32) - a2)) then (0 : Int32) else (1 : Int32))
theorem z_B_keepsLimit (S : St) (a1 : Int32) (a2 : Int32) : (s_B_keepsLimit S a1 a2) = 0 ∨ (s_B_keepsLimit S a1 a2) = 1 := by unfold s_B_keepsLimit; (repeat' split) <;> first | with_reducible exact Or.inl rfl | with_reducible exact Or.inr rfl
set_option maxRecDepth 20000 in
theorem c_B_keepsLimit (l : Launch) (E : Cx) (ad : Nat → Nat) (X : va_W) (S : St) (a1 : Int32) (a2 : Int32) : Met l y_B_keepsLimit (Cond.code y_B_keepsLimit b_B_keepsLimit 3 (some .boolean) :: TB) (rk 1 20) (va_Pc [.ref (ad 40), .int a1, .int a2] (preR E (wb E ad S ++ X))) (vp_Si (fun r => r = (s_B_keepsLimit S a1 a2))) 0 0 (fun _ => False) := by
  refine w_roI rfl (Nat.le_of_ble_eq_true rfl) (k_nb (z_B_keepsLimit S a1 a2)) ?_
  intro p e s m args below meth c Q ls hx hb hml hts hown hP hK hl hend
  have hl : lv_has ls 3 [(0, .ref (ad 40)), (1, .int a1), (2, .int a2)] := hl
  have hP : va_P E.1 vwCl (wb E ad S ++ X) s.heap := hP
  have hown : s.vm.findClass R_B = some m.cls := hown
  refine lv_iload_n hx hb d_B_keepsLimit_0 rfl (lv_at hl 1 rfl) ?_
  refine lv_aload_n hx hb d_B_keepsLimit_1 rfl (lv_at hl 0 rfl) ?_
  refine k_vi (rest := [.int a1]) (c_B_square l E ad X S) mi_B_square ml_B_101 hx hb hml hts hown hK hP rvB0 hl ⟨rfl, rfl⟩ ⟨(Nat.le_of_ble_eq_true rfl), (Nat.le_of_ble_eq_true rfl)⟩ ⟨Nat.zero_le _, Nat.zero_le _⟩ rfl (Nat.le_of_ble_eq_true rfl) rfl d_B_keepsLimit_2 ?_
  refine lv_imul hx hb d_B_keepsLimit_5 ?_
  refine lv_sipush (v := (200 : Int32)) hx hb d_B_keepsLimit_6 rfl ?_
  refine lv_bipush (v := (100 : Int32)) hx hb d_B_keepsLimit_9 rfl ?_
  refine lv_iload_n hx hb d_B_keepsLimit_11 rfl (lv_at hl 2 rfl) ?_
  refine lv_isub hx hb d_B_keepsLimit_12 ?_
  refine lv_imul hx hb d_B_keepsLimit_13 ?_
  refine lv_icmp_lt (tgt := 21) hx hb d_B_keepsLimit_14 (by decide) (fun c_14 => ?_) (fun c_14 => ?_)
  · refine lv_iconst (v := (0 : Int32)) hx hb d_B_keepsLimit_21 rfl ?_
    exact hend _ _ _ (by rw [s_B_keepsLimit, if_pos c_14]) d_B_keepsLimit_22
  · refine lv_iconst (v := (1 : Int32)) hx hb d_B_keepsLimit_17 rfl ?_
    refine lv_goto (tgt := 22) hx hb d_B_keepsLimit_18 (by decide) ?_
    exact hend _ _ _ (by rw [s_B_keepsLimit, if_neg c_14]) d_B_keepsLimit_22

def s_B_isUndercut (S : St) (a1 : Int32) : Int32 := (if (s_B_isRing S a1) = 0 then (if (s_B_keepsLimit S (s_N_at S 0 a1) (s_N_at S 1 a1)) = 0 then (1 : Int32) else (0 : Int32)) else (0 : Int32))
theorem z_B_isUndercut (S : St) (a1 : Int32) : (s_B_isUndercut S a1) = 0 ∨ (s_B_isUndercut S a1) = 1 := by unfold s_B_isUndercut; (repeat' split) <;> first | with_reducible exact Or.inl rfl | with_reducible exact Or.inr rfl | with_reducible apply z_B_isRing | with_reducible apply z_B_keepsLimit
set_option maxRecDepth 20000 in
theorem c_B_isUndercut (l : Launch) (E : Cx) (ad : Nat → Nat) (X : va_W) (S : St) (a1 : Int32) : Met l y_B_isUndercut (Cond.code y_B_isUndercut b_B_isUndercut 2 (some .boolean) :: TB) (rk 2 42) (va_Pc [.ref (ad 40), .int a1] (preR E (wb E ad S ++ X))) (vp_Si (fun r => r = (s_B_isUndercut S a1))) 0 0 (fun _ => False) := by
  refine w_roI rfl (Nat.le_of_ble_eq_true rfl) (k_nb (z_B_isUndercut S a1)) ?_
  intro p e s m args below meth c Q ls hx hb hml hts hown hP hK hl hend
  have hl : lv_has ls 2 [(0, .ref (ad 40)), (1, .int a1)] := hl
  have hP : va_P E.1 vwCl (wb E ad S ++ X) s.heap := hP
  have hown : s.vm.findClass R_B = some m.cls := hown
  refine lv_aload_n hx hb d_B_isUndercut_0 rfl (lv_at hl 0 rfl) ?_
  refine lv_iload_n hx hb d_B_isUndercut_1 rfl (lv_at hl 1 rfl) ?_
  refine k_vi (rest := []) (c_B_isRing l E ad X S a1) mi_B_isRing ml_B_104 hx hb hml hts hown hK hP rvB0 hl ⟨rfl, rfl⟩ ⟨(Nat.le_of_ble_eq_true rfl), (Nat.le_of_ble_eq_true rfl)⟩ ⟨Nat.zero_le _, Nat.zero_le _⟩ rfl (Nat.le_of_ble_eq_true rfl) rfl d_B_isUndercut_2 ?_
  refine lv_if_ne (tgt := 35) hx hb d_B_isUndercut_5 (by decide) (fun c_5 => ?_) (fun c_5 => ?_)
  · refine lv_iconst (v := (0 : Int32)) hx hb d_B_isUndercut_35 rfl ?_
    exact hend _ _ _ (by rw [s_B_isUndercut, if_neg c_5]) d_B_isUndercut_36
  · refine lv_aload_n hx hb d_B_isUndercut_8 rfl (lv_at hl 0 rfl) ?_
    refine lv_aload_n hx hb d_B_isUndercut_9 rfl (lv_at hl 0 rfl) ?_
    refine g_B0_teeth hx hb hts hown hK hP d_B_isUndercut_10 ?_
    refine lv_iload_n hx hb d_B_isUndercut_13 rfl (lv_at hl 1 rfl) ?_
    refine k_vi (rest := [.ref (ad 40)]) (c_N_at l E ad X S 0 (Nat.le_of_ble_eq_true rfl) a1) mi_N_at ml_B_45 hx hb hml hts hown hK hP (rvN (Nat.le_of_ble_eq_true rfl)) hl ⟨rfl, rfl⟩ ⟨(Nat.le_of_ble_eq_true rfl), (Nat.le_of_ble_eq_true rfl)⟩ ⟨Nat.zero_le _, Nat.zero_le _⟩ rfl (Nat.le_of_ble_eq_true rfl) rfl d_B_isUndercut_14 ?_
    refine lv_aload_n hx hb d_B_isUndercut_17 rfl (lv_at hl 0 rfl) ?_
    refine g_B0_shifts hx hb hts hown hK hP d_B_isUndercut_18 ?_
    refine lv_iload_n hx hb d_B_isUndercut_21 rfl (lv_at hl 1 rfl) ?_
    refine k_vi (rest := [.int (s_N_at S 0 a1), .ref (ad 40)]) (c_N_at l E ad X S 1 (Nat.le_of_ble_eq_true rfl) a1) mi_N_at ml_B_45 hx hb hml hts hown hK hP (rvN (Nat.le_of_ble_eq_true rfl)) hl ⟨rfl, rfl⟩ ⟨(Nat.le_of_ble_eq_true rfl), (Nat.le_of_ble_eq_true rfl)⟩ ⟨Nat.zero_le _, Nat.zero_le _⟩ rfl (Nat.le_of_ble_eq_true rfl) rfl d_B_isUndercut_22 ?_
    refine k_vi (rest := []) (c_B_keepsLimit l E ad X S (s_N_at S 0 a1) (s_N_at S 1 a1)) mi_B_keepsLimit ml_B_107 hx hb hml hts hown hK hP rvB0 hl ⟨rfl, rfl⟩ ⟨(Nat.le_of_ble_eq_true rfl), (Nat.le_of_ble_eq_true rfl)⟩ ⟨Nat.zero_le _, Nat.zero_le _⟩ rfl (Nat.le_of_ble_eq_true rfl) rfl d_B_isUndercut_25 ?_
    refine lv_if_ne (tgt := 35) hx hb d_B_isUndercut_28 (by decide) (fun c_28 => ?_) (fun c_28 => ?_)
    · refine lv_iconst (v := (0 : Int32)) hx hb d_B_isUndercut_35 rfl ?_
      exact hend _ _ _ (by rw [s_B_isUndercut, if_pos c_5, if_neg c_28]) d_B_isUndercut_36
    · refine lv_iconst (v := (1 : Int32)) hx hb d_B_isUndercut_31 rfl ?_
      refine lv_goto (tgt := 36) hx hb d_B_isUndercut_32 (by decide) ?_
      exact hend _ _ _ (by rw [s_B_isUndercut, if_pos c_5, if_pos c_28]) d_B_isUndercut_36

def s_B_isPointed (S : St) (a1 : Int32) : Int32 := (if (s_B_isRing S a1) = 0 then (if (s_N_at S 1 a1) ≤ (((5 : Int32) * (s_N_at S 0 a1)) - (10 : Int32)) then (0 : Int32) else (1 : Int32)) else (0 : Int32))
theorem z_B_isPointed (S : St) (a1 : Int32) : (s_B_isPointed S a1) = 0 ∨ (s_B_isPointed S a1) = 1 := by unfold s_B_isPointed; (repeat' split) <;> first | with_reducible exact Or.inl rfl | with_reducible exact Or.inr rfl | with_reducible apply z_B_isRing
set_option maxRecDepth 20000 in
theorem c_B_isPointed (l : Launch) (E : Cx) (ad : Nat → Nat) (X : va_W) (S : St) (a1 : Int32) : Met l y_B_isPointed (Cond.code y_B_isPointed b_B_isPointed 2 (some .boolean) :: TB) (rk 2 42) (va_Pc [.ref (ad 40), .int a1] (preR E (wb E ad S ++ X))) (vp_Si (fun r => r = (s_B_isPointed S a1))) 0 0 (fun _ => False) := by
  refine w_roI rfl (Nat.le_of_ble_eq_true rfl) (k_nb (z_B_isPointed S a1)) ?_
  intro p e s m args below meth c Q ls hx hb hml hts hown hP hK hl hend
  have hl : lv_has ls 2 [(0, .ref (ad 40)), (1, .int a1)] := hl
  have hP : va_P E.1 vwCl (wb E ad S ++ X) s.heap := hP
  have hown : s.vm.findClass R_B = some m.cls := hown
  refine lv_aload_n hx hb d_B_isPointed_0 rfl (lv_at hl 0 rfl) ?_
  refine lv_iload_n hx hb d_B_isPointed_1 rfl (lv_at hl 1 rfl) ?_
  refine k_vi (rest := []) (c_B_isRing l E ad X S a1) mi_B_isRing ml_B_104 hx hb hml hts hown hK hP rvB0 hl ⟨rfl, rfl⟩ ⟨(Nat.le_of_ble_eq_true rfl), (Nat.le_of_ble_eq_true rfl)⟩ ⟨Nat.zero_le _, Nat.zero_le _⟩ rfl (Nat.le_of_ble_eq_true rfl) rfl d_B_isPointed_2 ?_
  refine lv_if_ne (tgt := 36) hx hb d_B_isPointed_5 (by decide) (fun c_5 => ?_) (fun c_5 => ?_)
  · refine lv_iconst (v := (0 : Int32)) hx hb d_B_isPointed_36 rfl ?_
    exact hend _ _ _ (by rw [s_B_isPointed, if_neg c_5]) d_B_isPointed_37
  · refine lv_aload_n hx hb d_B_isPointed_8 rfl (lv_at hl 0 rfl) ?_
    refine g_B0_shifts hx hb hts hown hK hP d_B_isPointed_9 ?_
    refine lv_iload_n hx hb d_B_isPointed_12 rfl (lv_at hl 1 rfl) ?_
    refine k_vi (rest := []) (c_N_at l E ad X S 1 (Nat.le_of_ble_eq_true rfl) a1) mi_N_at ml_B_45 hx hb hml hts hown hK hP (rvN (Nat.le_of_ble_eq_true rfl)) hl ⟨rfl, rfl⟩ ⟨(Nat.le_of_ble_eq_true rfl), (Nat.le_of_ble_eq_true rfl)⟩ ⟨Nat.zero_le _, Nat.zero_le _⟩ rfl (Nat.le_of_ble_eq_true rfl) rfl d_B_isPointed_13 ?_
    refine lv_iconst (v := (5 : Int32)) hx hb d_B_isPointed_16 rfl ?_
    refine lv_aload_n hx hb d_B_isPointed_17 rfl (lv_at hl 0 rfl) ?_
    refine g_B0_teeth hx hb hts hown hK hP d_B_isPointed_18 ?_
    refine lv_iload_n hx hb d_B_isPointed_21 rfl (lv_at hl 1 rfl) ?_
    refine k_vi (rest := [.int (5 : Int32), .int (s_N_at S 1 a1)]) (c_N_at l E ad X S 0 (Nat.le_of_ble_eq_true rfl) a1) mi_N_at ml_B_45 hx hb hml hts hown hK hP (rvN (Nat.le_of_ble_eq_true rfl)) hl ⟨rfl, rfl⟩ ⟨(Nat.le_of_ble_eq_true rfl), (Nat.le_of_ble_eq_true rfl)⟩ ⟨Nat.zero_le _, Nat.zero_le _⟩ rfl (Nat.le_of_ble_eq_true rfl) rfl d_B_isPointed_22 ?_
    refine lv_imul hx hb d_B_isPointed_25 ?_
    refine lv_bipush (v := (10 : Int32)) hx hb d_B_isPointed_26 rfl ?_
    refine lv_isub hx hb d_B_isPointed_28 ?_
    refine lv_icmp_le (tgt := 36) hx hb d_B_isPointed_29 (by decide) (fun c_29 => ?_) (fun c_29 => ?_)
    · refine lv_iconst (v := (0 : Int32)) hx hb d_B_isPointed_36 rfl ?_
      exact hend _ _ _ (by rw [s_B_isPointed, if_pos c_5, if_pos c_29]) d_B_isPointed_37
    · refine lv_iconst (v := (1 : Int32)) hx hb d_B_isPointed_32 rfl ?_
      refine lv_goto (tgt := 37) hx hb d_B_isPointed_33 (by decide) ?_
      exact hend _ _ _ (by rw [s_B_isPointed, if_pos c_5, if_neg c_29]) d_B_isPointed_37

def s_B_leastShift_b15 (S : St) : Nat → Int32 → Int32 → Int32
  | 0, _, _ => 0
  | n + 1, x1, x2 => (if (100 : Int32) < x2 then (-1001 : Int32) else (if (s_B_keepsLimit S (s_N_at S 0 x1) x2) = 0 then (s_B_leastShift_b15 S n x1 (x2 + 1)) else x2))
def s_B_leastShift (S : St) (a1 : Int32) : Int32 := (if (s_B_isRing S a1) = 0 then (s_B_leastShift_b15 S (152) a1 (-50 : Int32)) else (-1001 : Int32))
set_option maxRecDepth 20000 in
theorem c_B_leastShift (l : Launch) (E : Cx) (ad : Nat → Nat) (X : va_W) (S : St) (a1 : Int32) : Met l y_B_leastShift (Cond.code y_B_leastShift b_B_leastShift 3 (some .int) :: TB) (rk 2 42) (va_Pc [.ref (ad 40), .int a1] (preR E (wb E ad S ++ X))) (vp_Si (fun r => r = (s_B_leastShift S a1))) 0 0 (fun _ => False) := by
  refine w_roI rfl (Nat.le_of_ble_eq_true rfl) rfl ?_
  intro p e s m args below meth c Q ls hx hb hml hts hown hP hK hl hend
  have hl : lv_has ls 3 [(0, .ref (ad 40)), (1, .int a1)] := hl
  have hP : va_P E.1 vwCl (wb E ad S ++ X) s.heap := hP
  have hown : s.vm.findClass R_B = some m.cls := hown
  have b15 : ∀ (n : Nat) (x1 : Int32) (x2 : Int32), (UE n 100 x2) → ∀ (ls : Array Slot), lv_has ls 3 [(0, .ref (ad 40)), (1, .int x1), (2, .int x2)] → (s_B_leastShift S a1) = s_B_leastShift_b15 S n x1 x2 → W p l e (rk 2 42) s m args below meth c s.heap [] 0 0 Q (F0 m 15 ls []) := by
    intro n15
    induction n15 with
    | zero => intro x1 x2 hv; exact absurd hv (UE_z)
    | succ n15 ih15 =>
      intro x1 x2 hv ls hl hq
      refine lv_iload_n hx hb d_B_leastShift_15 rfl (lv_at hl 2 rfl) ?_
      refine lv_bipush (v := (100 : Int32)) hx hb d_B_leastShift_16 rfl ?_
      refine lv_icmp_gt (tgt := 45) hx hb d_B_leastShift_18 (by decide) (fun c_18 => ?_) (fun c_18 => ?_)
      · refine lv_sipush (v := (-1001 : Int32)) hx hb d_B_leastShift_45 rfl ?_
        exact hend _ _ _ (by rw [hq, s_B_leastShift_b15, if_pos c_18]) d_B_leastShift_48
      · refine lv_aload_n hx hb d_B_leastShift_21 rfl (lv_at hl 0 rfl) ?_
        refine lv_aload_n hx hb d_B_leastShift_22 rfl (lv_at hl 0 rfl) ?_
        refine g_B0_teeth hx hb hts hown hK hP d_B_leastShift_23 ?_
        refine lv_iload_n hx hb d_B_leastShift_26 rfl (lv_at hl 1 rfl) ?_
        refine k_vi (rest := [.ref (ad 40)]) (c_N_at l E ad X S 0 (Nat.le_of_ble_eq_true rfl) x1) mi_N_at ml_B_45 hx hb hml hts hown hK hP (rvN (Nat.le_of_ble_eq_true rfl)) hl ⟨rfl, rfl⟩ ⟨(Nat.le_of_ble_eq_true rfl), (Nat.le_of_ble_eq_true rfl)⟩ ⟨Nat.zero_le _, Nat.zero_le _⟩ rfl (Nat.le_of_ble_eq_true rfl) rfl d_B_leastShift_27 ?_
        refine lv_iload_n hx hb d_B_leastShift_30 rfl (lv_at hl 2 rfl) ?_
        refine k_vi (rest := []) (c_B_keepsLimit l E ad X S (s_N_at S 0 x1) x2) mi_B_keepsLimit ml_B_107 hx hb hml hts hown hK hP rvB0 hl ⟨rfl, rfl⟩ ⟨(Nat.le_of_ble_eq_true rfl), (Nat.le_of_ble_eq_true rfl)⟩ ⟨Nat.zero_le _, Nat.zero_le _⟩ rfl (Nat.le_of_ble_eq_true rfl) rfl d_B_leastShift_31 ?_
        refine lv_if_eq (tgt := 39) hx hb d_B_leastShift_34 (by decide) (fun c_34 => ?_) (fun c_34 => ?_)
        · refine lv_iinc (v := (x2 + 1)) (lv' := [(2, .int (x2 + 1)), (0, .ref (ad 40)), (1, .int x1)]) hx hb d_B_leastShift_39 hl (k := 2) rfl rfl (by decide) rfl (fun ls hl => ?_)
          refine lv_goto (tgt := 15) hx hb d_B_leastShift_42 (by decide) ?_
          exact ih15 x1 (x2 + 1) (UE_up hv c_18) ls (lv_sub hl [1, 2, 0] rfl) (by rw [hq, s_B_leastShift_b15, if_neg c_18, if_pos c_34])
        · refine lv_iload_n hx hb d_B_leastShift_37 rfl (lv_at hl 2 rfl) ?_
          exact hend _ _ _ (by rw [hq, s_B_leastShift_b15, if_neg c_18, if_neg c_34]) d_B_leastShift_38
  refine lv_aload_n hx hb d_B_leastShift_0 rfl (lv_at hl 0 rfl) ?_
  refine lv_iload_n hx hb d_B_leastShift_1 rfl (lv_at hl 1 rfl) ?_
  refine k_vi (rest := []) (c_B_isRing l E ad X S a1) mi_B_isRing ml_B_104 hx hb hml hts hown hK hP rvB0 hl ⟨rfl, rfl⟩ ⟨(Nat.le_of_ble_eq_true rfl), (Nat.le_of_ble_eq_true rfl)⟩ ⟨Nat.zero_le _, Nat.zero_le _⟩ rfl (Nat.le_of_ble_eq_true rfl) rfl d_B_leastShift_2 ?_
  refine lv_if_eq (tgt := 12) hx hb d_B_leastShift_5 (by decide) (fun c_5 => ?_) (fun c_5 => ?_)
  · refine lv_bipush (v := (-50 : Int32)) hx hb d_B_leastShift_12 rfl ?_
    refine lv_istore_n (lv' := [(2, .int (-50 : Int32)), (0, .ref (ad 40)), (1, .int a1)]) hx hb d_B_leastShift_14 rfl hl (by decide) rfl (fun ls hl => ?_)
    exact b15 (152) a1 (-50 : Int32) (UE_in (B := 100) (x := -50) (by decide)) ls (lv_sub hl [1, 2, 0] rfl) (by rw [s_B_leastShift, if_pos c_5])
  · refine lv_sipush (v := (-1001 : Int32)) hx hb d_B_leastShift_8 rfl ?_
    exact hend _ _ _ (by rw [s_B_leastShift, if_neg c_5]) d_B_leastShift_11

def s_B_pairsWith_b4 (S : St) : Nat → Int32 → Int32 → Int32 → Int32
  | 0, _, _, _ => 0
  | n + 1, x1, x2, x3 => (if (s_N_size S 2) ≤ x3 then x2 else (if (s_N_at S 2 x3) = x1 then (s_B_pairsWith_b4 S n x1 (x2 + 1) (x3 + 1)) else (if (s_N_at S 3 x3) = x1 then (s_B_pairsWith_b4 S n x1 (x2 + 1) (x3 + 1)) else (s_B_pairsWith_b4 S n x1 x2 (x3 + 1)))))
def s_B_pairsWith (S : St) (a1 : Int32) : Int32 := (s_B_pairsWith_b4 S ((S.1 2).toInt.toNat + 1) a1 (0 : Int32) (0 : Int32))
set_option maxRecDepth 20000 in
theorem c_B_pairsWith (l : Launch) (E : Cx) (ad : Nat → Nat) (X : va_W) (S : St) (a1 : Int32) : Met l y_B_pairsWith (Cond.code y_B_pairsWith b_B_pairsWith 4 (some .int) :: TB) (rk 1 21) (va_Pc [.ref (ad 40), .int a1] (preR E (wb E ad S ++ X))) (vp_Si (fun r => r = (s_B_pairsWith S a1))) 0 0 (fun _ => False) := by
  refine w_roI rfl (Nat.le_of_ble_eq_true rfl) rfl ?_
  intro p e s m args below meth c Q ls hx hb hml hts hown hP hK hl hend
  have hl : lv_has ls 4 [(0, .ref (ad 40)), (1, .int a1)] := hl
  have hP : va_P E.1 vwCl (wb E ad S ++ X) s.heap := hP
  have hown : s.vm.findClass R_B = some m.cls := hown
  have b4 : ∀ (n : Nat) (x1 : Int32) (x2 : Int32) (x3 : Int32), (UP n (S.1 2) x3) → ∀ (ls : Array Slot), lv_has ls 4 [(0, .ref (ad 40)), (1, .int x1), (2, .int x2), (3, .int x3)] → (s_B_pairsWith S a1) = s_B_pairsWith_b4 S n x1 x2 x3 → W p l e (rk 1 21) s m args below meth c s.heap [] 0 0 Q (F0 m 4 ls []) := by
    intro n4
    induction n4 with
    | zero => intro x1 x2 x3 hv; exact absurd hv (UP_z)
    | succ n4 ih4 =>
      intro x1 x2 x3 hv ls hl hq
      refine lv_iload_n hx hb d_B_pairsWith_4 rfl (lv_at hl 3 rfl) ?_
      refine lv_aload_n hx hb d_B_pairsWith_5 rfl (lv_at hl 0 rfl) ?_
      refine g_B0_drivers hx hb hts hown hK hP d_B_pairsWith_6 ?_
      refine k_vi (rest := [.int x3]) (c_N_size l E ad X S 2 (Nat.le_of_ble_eq_true rfl)) mi_N_size ml_B_37 hx hb hml hts hown hK hP (rvN (Nat.le_of_ble_eq_true rfl)) hl ⟨rfl, rfl⟩ ⟨(Nat.le_of_ble_eq_true rfl), (Nat.le_of_ble_eq_true rfl)⟩ ⟨Nat.zero_le _, Nat.zero_le _⟩ rfl (Nat.le_of_ble_eq_true rfl) rfl d_B_pairsWith_9 ?_
      refine lv_icmp_ge (tgt := 48) hx hb d_B_pairsWith_12 (by decide) (fun c_12 => ?_) (fun c_12 => ?_)
      · refine lv_iload_n hx hb d_B_pairsWith_48 rfl (lv_at hl 2 rfl) ?_
        exact hend _ _ _ (by rw [hq, s_B_pairsWith_b4, if_pos c_12]) d_B_pairsWith_49
      · refine lv_aload_n hx hb d_B_pairsWith_15 rfl (lv_at hl 0 rfl) ?_
        refine g_B0_drivers hx hb hts hown hK hP d_B_pairsWith_16 ?_
        refine lv_iload_n hx hb d_B_pairsWith_19 rfl (lv_at hl 3 rfl) ?_
        refine k_vi (rest := []) (c_N_at l E ad X S 2 (Nat.le_of_ble_eq_true rfl) x3) mi_N_at ml_B_45 hx hb hml hts hown hK hP (rvN (Nat.le_of_ble_eq_true rfl)) hl ⟨rfl, rfl⟩ ⟨(Nat.le_of_ble_eq_true rfl), (Nat.le_of_ble_eq_true rfl)⟩ ⟨Nat.zero_le _, Nat.zero_le _⟩ rfl (Nat.le_of_ble_eq_true rfl) rfl d_B_pairsWith_20 ?_
        refine lv_iload_n hx hb d_B_pairsWith_23 rfl (lv_at hl 1 rfl) ?_
        refine lv_icmp_eq (tgt := 39) hx hb d_B_pairsWith_24 (by decide) (fun c_24 => ?_) (fun c_24 => ?_)
        · refine lv_iinc (v := (x2 + 1)) (lv' := [(2, .int (x2 + 1)), (0, .ref (ad 40)), (1, .int x1), (3, .int x3)]) hx hb d_B_pairsWith_39 hl (k := 2) rfl rfl (by decide) rfl (fun ls hl => ?_)
          refine lv_iinc (v := (x3 + 1)) (lv' := [(3, .int (x3 + 1)), (2, .int (x2 + 1)), (0, .ref (ad 40)), (1, .int x1)]) hx hb d_B_pairsWith_42 hl (k := 3) rfl rfl (by decide) rfl (fun ls hl => ?_)
          refine lv_goto (tgt := 4) hx hb d_B_pairsWith_45 (by decide) ?_
          exact ih4 x1 (x2 + 1) (x3 + 1) (UP_up hv c_12) ls (lv_sub hl [2, 3, 1, 0] rfl) (by rw [hq, s_B_pairsWith_b4, if_neg c_12, if_pos c_24])
        · refine lv_aload_n hx hb d_B_pairsWith_27 rfl (lv_at hl 0 rfl) ?_
          refine g_B0_driven hx hb hts hown hK hP d_B_pairsWith_28 ?_
          refine lv_iload_n hx hb d_B_pairsWith_31 rfl (lv_at hl 3 rfl) ?_
          refine k_vi (rest := []) (c_N_at l E ad X S 3 (Nat.le_of_ble_eq_true rfl) x3) mi_N_at ml_B_45 hx hb hml hts hown hK hP (rvN (Nat.le_of_ble_eq_true rfl)) hl ⟨rfl, rfl⟩ ⟨(Nat.le_of_ble_eq_true rfl), (Nat.le_of_ble_eq_true rfl)⟩ ⟨Nat.zero_le _, Nat.zero_le _⟩ rfl (Nat.le_of_ble_eq_true rfl) rfl d_B_pairsWith_32 ?_
          refine lv_iload_n hx hb d_B_pairsWith_35 rfl (lv_at hl 1 rfl) ?_
          refine lv_icmp_ne (tgt := 42) hx hb d_B_pairsWith_36 (by decide) (fun c_36 => ?_) (fun c_36 => ?_)
          · refine lv_iinc (v := (x3 + 1)) (lv' := [(3, .int (x3 + 1)), (0, .ref (ad 40)), (1, .int x1), (2, .int x2)]) hx hb d_B_pairsWith_42 hl (k := 3) rfl rfl (by decide) rfl (fun ls hl => ?_)
            refine lv_goto (tgt := 4) hx hb d_B_pairsWith_45 (by decide) ?_
            exact ih4 x1 x2 (x3 + 1) (UP_up hv c_12) ls (lv_sub hl [1, 2, 3, 0] rfl) (by rw [hq, s_B_pairsWith_b4, if_neg c_12, if_neg c_24, if_neg c_36])
          · refine lv_iinc (v := (x2 + 1)) (lv' := [(2, .int (x2 + 1)), (0, .ref (ad 40)), (1, .int x1), (3, .int x3)]) hx hb d_B_pairsWith_39 hl (k := 2) rfl rfl (by decide) rfl (fun ls hl => ?_)
            refine lv_iinc (v := (x3 + 1)) (lv' := [(3, .int (x3 + 1)), (2, .int (x2 + 1)), (0, .ref (ad 40)), (1, .int x1)]) hx hb d_B_pairsWith_42 hl (k := 3) rfl rfl (by decide) rfl (fun ls hl => ?_)
            refine lv_goto (tgt := 4) hx hb d_B_pairsWith_45 (by decide) ?_
            exact ih4 x1 (x2 + 1) (x3 + 1) (UP_up hv c_12) ls (lv_sub hl [2, 3, 1, 0] rfl) (by rw [hq, s_B_pairsWith_b4, if_neg c_12, if_neg c_24, if_pos c_36])
  refine lv_iconst (v := (0 : Int32)) hx hb d_B_pairsWith_0 rfl ?_
  refine lv_istore_n (lv' := [(2, .int (0 : Int32)), (0, .ref (ad 40)), (1, .int a1)]) hx hb d_B_pairsWith_1 rfl hl (by decide) rfl (fun ls hl => ?_)
  refine lv_iconst (v := (0 : Int32)) hx hb d_B_pairsWith_2 rfl ?_
  refine lv_istore_n (lv' := [(3, .int (0 : Int32)), (2, .int (0 : Int32)), (0, .ref (ad 40)), (1, .int a1)]) hx hb d_B_pairsWith_3 rfl hl (by decide) rfl (fun ls hl => ?_)
  exact b4 ((S.1 2).toInt.toNat + 1) a1 (0 : Int32) (0 : Int32) (UP_in (by decide)) ls (lv_sub hl [2, 3, 1, 0] rfl) (by rw [s_B_pairsWith])

def s_B_fewestTeeth_b2 (S : St) : Nat → Int32 → Int32 → Int32
  | 0, _, _ => 0
  | n + 1, x1, x2 => (if (99 : Int32) < x2 then (-2 : Int32) else (if (s_B_keepsLimit S x2 x1) = 0 then (s_B_fewestTeeth_b2 S n x1 (x2 + 1)) else x2))
def s_B_fewestTeeth (S : St) (a1 : Int32) : Int32 := (s_B_fewestTeeth_b2 S (96) a1 (5 : Int32))
set_option maxRecDepth 20000 in
theorem c_B_fewestTeeth (l : Launch) (E : Cx) (ad : Nat → Nat) (X : va_W) (S : St) (a1 : Int32) : Met l y_B_fewestTeeth (Cond.code y_B_fewestTeeth b_B_fewestTeeth 3 (some .int) :: TB) (rk 2 42) (va_Pc [.ref (ad 40), .int a1] (preR E (wb E ad S ++ X))) (vp_Si (fun r => r = (s_B_fewestTeeth S a1))) 0 0 (fun _ => False) := by
  refine w_roI rfl (Nat.le_of_ble_eq_true rfl) rfl ?_
  intro p e s m args below meth c Q ls hx hb hml hts hown hP hK hl hend
  have hl : lv_has ls 3 [(0, .ref (ad 40)), (1, .int a1)] := hl
  have hP : va_P E.1 vwCl (wb E ad S ++ X) s.heap := hP
  have hown : s.vm.findClass R_B = some m.cls := hown
  have b2 : ∀ (n : Nat) (x1 : Int32) (x2 : Int32), (UE n 99 x2) → ∀ (ls : Array Slot), lv_has ls 3 [(0, .ref (ad 40)), (1, .int x1), (2, .int x2)] → (s_B_fewestTeeth S a1) = s_B_fewestTeeth_b2 S n x1 x2 → W p l e (rk 2 42) s m args below meth c s.heap [] 0 0 Q (F0 m 2 ls []) := by
    intro n2
    induction n2 with
    | zero => intro x1 x2 hv; exact absurd hv (UE_z)
    | succ n2 ih2 =>
      intro x1 x2 hv ls hl hq
      refine lv_iload_n hx hb d_B_fewestTeeth_2 rfl (lv_at hl 2 rfl) ?_
      refine lv_bipush (v := (99 : Int32)) hx hb d_B_fewestTeeth_3 rfl ?_
      refine lv_icmp_gt (tgt := 25) hx hb d_B_fewestTeeth_5 (by decide) (fun c_5 => ?_) (fun c_5 => ?_)
      · refine lv_bipush (v := (-2 : Int32)) hx hb d_B_fewestTeeth_25 rfl ?_
        exact hend _ _ _ (by rw [hq, s_B_fewestTeeth_b2, if_pos c_5]) d_B_fewestTeeth_27
      · refine lv_aload_n hx hb d_B_fewestTeeth_8 rfl (lv_at hl 0 rfl) ?_
        refine lv_iload_n hx hb d_B_fewestTeeth_9 rfl (lv_at hl 2 rfl) ?_
        refine lv_iload_n hx hb d_B_fewestTeeth_10 rfl (lv_at hl 1 rfl) ?_
        refine k_vi (rest := []) (c_B_keepsLimit l E ad X S x2 x1) mi_B_keepsLimit ml_B_107 hx hb hml hts hown hK hP rvB0 hl ⟨rfl, rfl⟩ ⟨(Nat.le_of_ble_eq_true rfl), (Nat.le_of_ble_eq_true rfl)⟩ ⟨Nat.zero_le _, Nat.zero_le _⟩ rfl (Nat.le_of_ble_eq_true rfl) rfl d_B_fewestTeeth_11 ?_
        refine lv_if_eq (tgt := 19) hx hb d_B_fewestTeeth_14 (by decide) (fun c_14 => ?_) (fun c_14 => ?_)
        · refine lv_iinc (v := (x2 + 1)) (lv' := [(2, .int (x2 + 1)), (0, .ref (ad 40)), (1, .int x1)]) hx hb d_B_fewestTeeth_19 hl (k := 2) rfl rfl (by decide) rfl (fun ls hl => ?_)
          refine lv_goto (tgt := 2) hx hb d_B_fewestTeeth_22 (by decide) ?_
          exact ih2 x1 (x2 + 1) (UE_up hv c_5) ls (lv_sub hl [1, 2, 0] rfl) (by rw [hq, s_B_fewestTeeth_b2, if_neg c_5, if_pos c_14])
        · refine lv_iload_n hx hb d_B_fewestTeeth_17 rfl (lv_at hl 2 rfl) ?_
          exact hend _ _ _ (by rw [hq, s_B_fewestTeeth_b2, if_neg c_5, if_neg c_14]) d_B_fewestTeeth_18
  refine lv_iconst (v := (5 : Int32)) hx hb d_B_fewestTeeth_0 rfl ?_
  refine lv_istore_n (lv' := [(2, .int (5 : Int32)), (0, .ref (ad 40)), (1, .int a1)]) hx hb d_B_fewestTeeth_1 rfl hl (by decide) rfl (fun ls hl => ?_)
  exact b2 (96) a1 (5 : Int32) (UE_in (B := 99) (x := 5) (by decide)) ls (lv_sub hl [1, 2, 0] rfl) (by rw [s_B_fewestTeeth])

def s_B_isFirstOfItsTeeth_b2 (S : St) : Nat → Int32 → Int32 → Int32
  | 0, _, _ => 0
  | n + 1, x1, x2 => (if x1 ≤ x2 then (1 : Int32) else (if (s_N_at S 0 x2) = (s_N_at S 0 x1) then (0 : Int32) else (s_B_isFirstOfItsTeeth_b2 S n x1 (x2 + 1))))
def s_B_isFirstOfItsTeeth (S : St) (a1 : Int32) : Int32 := (s_B_isFirstOfItsTeeth_b2 S ((a1).toInt.toNat + 1) a1 (0 : Int32))
theorem z_B_isFirstOfItsTeeth_b2 (S : St) (n : Nat) (x1 : Int32) (x2 : Int32) : (s_B_isFirstOfItsTeeth_b2 S n x1 x2) = 0 ∨ (s_B_isFirstOfItsTeeth_b2 S n x1 x2) = 1 := by
  induction n generalizing x1 x2 with
  | zero => exact Or.inl rfl
  | succ n ih => unfold s_B_isFirstOfItsTeeth_b2; (repeat' split) <;> first | with_reducible exact Or.inl rfl | with_reducible exact Or.inr rfl | with_reducible apply ih
theorem z_B_isFirstOfItsTeeth (S : St) (a1 : Int32) : (s_B_isFirstOfItsTeeth S a1) = 0 ∨ (s_B_isFirstOfItsTeeth S a1) = 1 := by unfold s_B_isFirstOfItsTeeth; (repeat' split) <;> first | with_reducible exact Or.inl rfl | with_reducible exact Or.inr rfl | with_reducible apply z_B_isFirstOfItsTeeth_b2
set_option maxRecDepth 20000 in
theorem c_B_isFirstOfItsTeeth (l : Launch) (E : Cx) (ad : Nat → Nat) (X : va_W) (S : St) (a1 : Int32) : Met l y_B_isFirstOfItsTeeth (Cond.code y_B_isFirstOfItsTeeth b_B_isFirstOfItsTeeth 3 (some .boolean) :: TB) (rk 1 21) (va_Pc [.ref (ad 40), .int a1] (preR E (wb E ad S ++ X))) (vp_Si (fun r => r = (s_B_isFirstOfItsTeeth S a1))) 0 0 (fun _ => False) := by
  refine w_roI rfl (Nat.le_of_ble_eq_true rfl) (k_nb (z_B_isFirstOfItsTeeth S a1)) ?_
  intro p e s m args below meth c Q ls hx hb hml hts hown hP hK hl hend
  have hl : lv_has ls 3 [(0, .ref (ad 40)), (1, .int a1)] := hl
  have hP : va_P E.1 vwCl (wb E ad S ++ X) s.heap := hP
  have hown : s.vm.findClass R_B = some m.cls := hown
  have b2 : ∀ (n : Nat) (x1 : Int32) (x2 : Int32), (UP n x1 x2) → ∀ (ls : Array Slot), lv_has ls 3 [(0, .ref (ad 40)), (1, .int x1), (2, .int x2)] → (s_B_isFirstOfItsTeeth S a1) = s_B_isFirstOfItsTeeth_b2 S n x1 x2 → W p l e (rk 1 21) s m args below meth c s.heap [] 0 0 Q (F0 m 2 ls []) := by
    intro n2
    induction n2 with
    | zero => intro x1 x2 hv; exact absurd hv (UP_z)
    | succ n2 ih2 =>
      intro x1 x2 hv ls hl hq
      refine lv_iload_n hx hb d_B_isFirstOfItsTeeth_2 rfl (lv_at hl 2 rfl) ?_
      refine lv_iload_n hx hb d_B_isFirstOfItsTeeth_3 rfl (lv_at hl 1 rfl) ?_
      refine lv_icmp_ge (tgt := 34) hx hb d_B_isFirstOfItsTeeth_4 (by decide) (fun c_4 => ?_) (fun c_4 => ?_)
      · refine lv_iconst (v := (1 : Int32)) hx hb d_B_isFirstOfItsTeeth_34 rfl ?_
        exact hend _ _ _ (by rw [hq, s_B_isFirstOfItsTeeth_b2, if_pos c_4]) d_B_isFirstOfItsTeeth_35
      · refine lv_aload_n hx hb d_B_isFirstOfItsTeeth_7 rfl (lv_at hl 0 rfl) ?_
        refine g_B0_teeth hx hb hts hown hK hP d_B_isFirstOfItsTeeth_8 ?_
        refine lv_iload_n hx hb d_B_isFirstOfItsTeeth_11 rfl (lv_at hl 2 rfl) ?_
        refine k_vi (rest := []) (c_N_at l E ad X S 0 (Nat.le_of_ble_eq_true rfl) x2) mi_N_at ml_B_45 hx hb hml hts hown hK hP (rvN (Nat.le_of_ble_eq_true rfl)) hl ⟨rfl, rfl⟩ ⟨(Nat.le_of_ble_eq_true rfl), (Nat.le_of_ble_eq_true rfl)⟩ ⟨Nat.zero_le _, Nat.zero_le _⟩ rfl (Nat.le_of_ble_eq_true rfl) rfl d_B_isFirstOfItsTeeth_12 ?_
        refine lv_aload_n hx hb d_B_isFirstOfItsTeeth_15 rfl (lv_at hl 0 rfl) ?_
        refine g_B0_teeth hx hb hts hown hK hP d_B_isFirstOfItsTeeth_16 ?_
        refine lv_iload_n hx hb d_B_isFirstOfItsTeeth_19 rfl (lv_at hl 1 rfl) ?_
        refine k_vi (rest := [.int (s_N_at S 0 x2)]) (c_N_at l E ad X S 0 (Nat.le_of_ble_eq_true rfl) x1) mi_N_at ml_B_45 hx hb hml hts hown hK hP (rvN (Nat.le_of_ble_eq_true rfl)) hl ⟨rfl, rfl⟩ ⟨(Nat.le_of_ble_eq_true rfl), (Nat.le_of_ble_eq_true rfl)⟩ ⟨Nat.zero_le _, Nat.zero_le _⟩ rfl (Nat.le_of_ble_eq_true rfl) rfl d_B_isFirstOfItsTeeth_20 ?_
        refine lv_icmp_ne (tgt := 28) hx hb d_B_isFirstOfItsTeeth_23 (by decide) (fun c_23 => ?_) (fun c_23 => ?_)
        · refine lv_iinc (v := (x2 + 1)) (lv' := [(2, .int (x2 + 1)), (0, .ref (ad 40)), (1, .int x1)]) hx hb d_B_isFirstOfItsTeeth_28 hl (k := 2) rfl rfl (by decide) rfl (fun ls hl => ?_)
          refine lv_goto (tgt := 2) hx hb d_B_isFirstOfItsTeeth_31 (by decide) ?_
          exact ih2 x1 (x2 + 1) (UP_up hv c_4) ls (lv_sub hl [1, 2, 0] rfl) (by rw [hq, s_B_isFirstOfItsTeeth_b2, if_neg c_4, if_neg c_23])
        · refine lv_iconst (v := (0 : Int32)) hx hb d_B_isFirstOfItsTeeth_26 rfl ?_
          exact hend _ _ _ (by rw [hq, s_B_isFirstOfItsTeeth_b2, if_neg c_4, if_pos c_23]) d_B_isFirstOfItsTeeth_27
  refine lv_iconst (v := (0 : Int32)) hx hb d_B_isFirstOfItsTeeth_0 rfl ?_
  refine lv_istore_n (lv' := [(2, .int (0 : Int32)), (0, .ref (ad 40)), (1, .int a1)]) hx hb d_B_isFirstOfItsTeeth_1 rfl hl (by decide) rfl (fun ls hl => ?_)
  exact b2 ((a1).toInt.toNat + 1) a1 (0 : Int32) (UP_in (by decide)) ls (lv_sub hl [1, 2, 0] rfl) (by rw [s_B_isFirstOfItsTeeth])

def s_B_is (S : St) (a1 : Int32) (a2 : Int32) : Int32 := (if a2 = 0 then (s_B_isUndercut S a1) else (if a2 = 1 then (s_B_isPointed S a1) else (if a2 = 2 then (s_B_isRing S a1) else (s_B_isFirstOfItsTeeth S a1))))
theorem z_B_is (S : St) (a1 : Int32) (a2 : Int32) : (s_B_is S a1 a2) = 0 ∨ (s_B_is S a1 a2) = 1 := by unfold s_B_is; (repeat' split) <;> first | with_reducible exact Or.inl rfl | with_reducible exact Or.inr rfl | with_reducible apply z_B_isUndercut | with_reducible apply z_B_isPointed | with_reducible apply z_B_isRing | with_reducible apply z_B_isFirstOfItsTeeth
set_option maxRecDepth 20000 in
theorem c_B_is (l : Launch) (E : Cx) (ad : Nat → Nat) (X : va_W) (S : St) (a1 : Int32) (a2 : Int32) : Met l y_B_is (Cond.code y_B_is b_B_is 3 (some .boolean) :: TB) (rk 3 63) (va_Pc [.ref (ad 40), .int a1, .int a2] (preR E (wb E ad S ++ X))) (vp_Si (fun r => r = (s_B_is S a1 a2))) 0 0 (fun _ => False) := by
  refine w_roI rfl (Nat.le_of_ble_eq_true rfl) (k_nb (z_B_is S a1 a2)) ?_
  intro p e s m args below meth c Q ls hx hb hml hts hown hP hK hl hend
  have hl : lv_has ls 3 [(0, .ref (ad 40)), (1, .int a1), (2, .int a2)] := hl
  have hP : va_P E.1 vwCl (wb E ad S ++ X) s.heap := hP
  have hown : s.vm.findClass R_B = some m.cls := hown
  refine lv_iload_n hx hb d_B_is_0 rfl (lv_at hl 2 rfl) ?_
  by_cases c_1_0 : a2 = (0 : Int32)
  · refine lv_tableIn (x := a2) (off := 27) (tgt := 28) hx hb d_B_is_1 (by rw [c_1_0]; decide) (by rw [c_1_0]; decide) (by rw [c_1_0]; rfl) (by decide) ?_
    refine lv_aload_n hx hb d_B_is_28 rfl (lv_at hl 0 rfl) ?_
    refine lv_iload_n hx hb d_B_is_29 rfl (lv_at hl 1 rfl) ?_
    refine k_vi (rest := []) (c_B_isUndercut l E ad X S a1) mi_B_isUndercut ml_B_89 hx hb hml hts hown hK hP rvB0 hl ⟨rfl, rfl⟩ ⟨(Nat.le_of_ble_eq_true rfl), (Nat.le_of_ble_eq_true rfl)⟩ ⟨Nat.zero_le _, Nat.zero_le _⟩ rfl (Nat.le_of_ble_eq_true rfl) rfl d_B_is_30 ?_
    exact hend _ _ _ (by rw [s_B_is, if_pos c_1_0]) d_B_is_33
  by_cases c_1_1 : a2 = (1 : Int32)
  · refine lv_tableIn (x := a2) (off := 33) (tgt := 34) hx hb d_B_is_1 (by rw [c_1_1]; decide) (by rw [c_1_1]; decide) (by rw [c_1_1]; rfl) (by decide) ?_
    refine lv_aload_n hx hb d_B_is_34 rfl (lv_at hl 0 rfl) ?_
    refine lv_iload_n hx hb d_B_is_35 rfl (lv_at hl 1 rfl) ?_
    refine k_vi (rest := []) (c_B_isPointed l E ad X S a1) mi_B_isPointed ml_B_92 hx hb hml hts hown hK hP rvB0 hl ⟨rfl, rfl⟩ ⟨(Nat.le_of_ble_eq_true rfl), (Nat.le_of_ble_eq_true rfl)⟩ ⟨Nat.zero_le _, Nat.zero_le _⟩ rfl (Nat.le_of_ble_eq_true rfl) rfl d_B_is_36 ?_
    exact hend _ _ _ (by rw [s_B_is, if_neg c_1_0, if_pos c_1_1]) d_B_is_39
  by_cases c_1_2 : a2 = (2 : Int32)
  · refine lv_tableIn (x := a2) (off := 39) (tgt := 40) hx hb d_B_is_1 (by rw [c_1_2]; decide) (by rw [c_1_2]; decide) (by rw [c_1_2]; rfl) (by decide) ?_
    refine lv_aload_n hx hb d_B_is_40 rfl (lv_at hl 0 rfl) ?_
    refine lv_iload_n hx hb d_B_is_41 rfl (lv_at hl 1 rfl) ?_
    refine k_vi (rest := []) (c_B_isRing l E ad X S a1) mi_B_isRing ml_B_104 hx hb hml hts hown hK hP rvB0 hl ⟨rfl, rfl⟩ ⟨(Nat.le_of_ble_eq_true rfl), (Nat.le_of_ble_eq_true rfl)⟩ ⟨Nat.zero_le _, Nat.zero_le _⟩ rfl (Nat.le_of_ble_eq_true rfl) rfl d_B_is_42 ?_
    exact hend _ _ _ (by rw [s_B_is, if_neg c_1_0, if_neg c_1_1, if_pos c_1_2]) d_B_is_45
  have kd : W p l e (rk 3 63) s m args below meth c s.heap [] 0 0 Q (F0 m 46 ls []) := by
    refine lv_aload_n hx hb d_B_is_46 rfl (lv_at hl 0 rfl) ?_
    refine lv_iload_n hx hb d_B_is_47 rfl (lv_at hl 1 rfl) ?_
    refine k_vi (rest := []) (c_B_isFirstOfItsTeeth l E ad X S a1) mi_B_isFirstOfItsTeeth ml_B_113 hx hb hml hts hown hK hP rvB0 hl ⟨rfl, rfl⟩ ⟨(Nat.le_of_ble_eq_true rfl), (Nat.le_of_ble_eq_true rfl)⟩ ⟨Nat.zero_le _, Nat.zero_le _⟩ rfl (Nat.le_of_ble_eq_true rfl) rfl d_B_is_48 ?_
    exact hend _ _ _ (by rw [s_B_is, if_neg c_1_0, if_neg c_1_1, if_neg c_1_2]) d_B_is_51
  have n_0 := lv_neT c_1_0 (a := 0) rfl
  have n_1 := lv_neT c_1_1 (a := 1) rfl
  have n_2 := lv_neT c_1_2 (a := 2) rfl
  exact lv_tableOut (x := a2) (tgt := 46) hx hb d_B_is_1 (by omega) (by decide) kd

def s_B_wheelsThatAre_b4 (S : St) : Nat → Int32 → Int32 → Int32 → Int32
  | 0, _, _, _ => 0
  | n + 1, x1, x2, x3 => (if (s_N_size S 0) ≤ x3 then x2 else (if (s_B_is S x3 x1) = 0 then (s_B_wheelsThatAre_b4 S n x1 x2 (x3 + 1)) else (s_B_wheelsThatAre_b4 S n x1 (x2 + 1) (x3 + 1))))
def s_B_wheelsThatAre (S : St) (a1 : Int32) : Int32 := (s_B_wheelsThatAre_b4 S ((S.1 0).toInt.toNat + 1) a1 (0 : Int32) (0 : Int32))
set_option maxRecDepth 20000 in
theorem c_B_wheelsThatAre (l : Launch) (E : Cx) (ad : Nat → Nat) (X : va_W) (S : St) (a1 : Int32) : Met l y_B_wheelsThatAre (Cond.code y_B_wheelsThatAre b_B_wheelsThatAre 4 (some .int) :: TB) (rk 4 85) (va_Pc [.ref (ad 40), .int a1] (preR E (wb E ad S ++ X))) (vp_Si (fun r => r = (s_B_wheelsThatAre S a1))) 0 0 (fun _ => False) := by
  refine w_roI rfl (Nat.le_of_ble_eq_true rfl) rfl ?_
  intro p e s m args below meth c Q ls hx hb hml hts hown hP hK hl hend
  have hl : lv_has ls 4 [(0, .ref (ad 40)), (1, .int a1)] := hl
  have hP : va_P E.1 vwCl (wb E ad S ++ X) s.heap := hP
  have hown : s.vm.findClass R_B = some m.cls := hown
  have b4 : ∀ (n : Nat) (x1 : Int32) (x2 : Int32) (x3 : Int32), (UP n (S.1 0) x3) → ∀ (ls : Array Slot), lv_has ls 4 [(0, .ref (ad 40)), (1, .int x1), (2, .int x2), (3, .int x3)] → (s_B_wheelsThatAre S a1) = s_B_wheelsThatAre_b4 S n x1 x2 x3 → W p l e (rk 4 85) s m args below meth c s.heap [] 0 0 Q (F0 m 4 ls []) := by
    intro n4
    induction n4 with
    | zero => intro x1 x2 x3 hv; exact absurd hv (UP_z)
    | succ n4 ih4 =>
      intro x1 x2 x3 hv ls hl hq
      refine lv_iload_n hx hb d_B_wheelsThatAre_4 rfl (lv_at hl 3 rfl) ?_
      refine lv_aload_n hx hb d_B_wheelsThatAre_5 rfl (lv_at hl 0 rfl) ?_
      refine g_B0_teeth hx hb hts hown hK hP d_B_wheelsThatAre_6 ?_
      refine k_vi (rest := [.int x3]) (c_N_size l E ad X S 0 (Nat.le_of_ble_eq_true rfl)) mi_N_size ml_B_37 hx hb hml hts hown hK hP (rvN (Nat.le_of_ble_eq_true rfl)) hl ⟨rfl, rfl⟩ ⟨(Nat.le_of_ble_eq_true rfl), (Nat.le_of_ble_eq_true rfl)⟩ ⟨Nat.zero_le _, Nat.zero_le _⟩ rfl (Nat.le_of_ble_eq_true rfl) rfl d_B_wheelsThatAre_9 ?_
      refine lv_icmp_ge (tgt := 33) hx hb d_B_wheelsThatAre_12 (by decide) (fun c_12 => ?_) (fun c_12 => ?_)
      · refine lv_iload_n hx hb d_B_wheelsThatAre_33 rfl (lv_at hl 2 rfl) ?_
        exact hend _ _ _ (by rw [hq, s_B_wheelsThatAre_b4, if_pos c_12]) d_B_wheelsThatAre_34
      · refine lv_aload_n hx hb d_B_wheelsThatAre_15 rfl (lv_at hl 0 rfl) ?_
        refine lv_iload_n hx hb d_B_wheelsThatAre_16 rfl (lv_at hl 3 rfl) ?_
        refine lv_iload_n hx hb d_B_wheelsThatAre_17 rfl (lv_at hl 1 rfl) ?_
        refine k_vi (rest := []) (c_B_is l E ad X S x3 x1) mi_B_is ml_B_110 hx hb hml hts hown hK hP rvB0 hl ⟨rfl, rfl⟩ ⟨(Nat.le_of_ble_eq_true rfl), (Nat.le_of_ble_eq_true rfl)⟩ ⟨Nat.zero_le _, Nat.zero_le _⟩ rfl (Nat.le_of_ble_eq_true rfl) rfl d_B_wheelsThatAre_18 ?_
        refine lv_if_eq (tgt := 27) hx hb d_B_wheelsThatAre_21 (by decide) (fun c_21 => ?_) (fun c_21 => ?_)
        · refine lv_iinc (v := (x3 + 1)) (lv' := [(3, .int (x3 + 1)), (0, .ref (ad 40)), (1, .int x1), (2, .int x2)]) hx hb d_B_wheelsThatAre_27 hl (k := 3) rfl rfl (by decide) rfl (fun ls hl => ?_)
          refine lv_goto (tgt := 4) hx hb d_B_wheelsThatAre_30 (by decide) ?_
          exact ih4 x1 x2 (x3 + 1) (UP_up hv c_12) ls (lv_sub hl [1, 2, 3, 0] rfl) (by rw [hq, s_B_wheelsThatAre_b4, if_neg c_12, if_pos c_21])
        · refine lv_iinc (v := (x2 + 1)) (lv' := [(2, .int (x2 + 1)), (0, .ref (ad 40)), (1, .int x1), (3, .int x3)]) hx hb d_B_wheelsThatAre_24 hl (k := 2) rfl rfl (by decide) rfl (fun ls hl => ?_)
          refine lv_iinc (v := (x3 + 1)) (lv' := [(3, .int (x3 + 1)), (2, .int (x2 + 1)), (0, .ref (ad 40)), (1, .int x1)]) hx hb d_B_wheelsThatAre_27 hl (k := 3) rfl rfl (by decide) rfl (fun ls hl => ?_)
          refine lv_goto (tgt := 4) hx hb d_B_wheelsThatAre_30 (by decide) ?_
          exact ih4 x1 (x2 + 1) (x3 + 1) (UP_up hv c_12) ls (lv_sub hl [2, 3, 1, 0] rfl) (by rw [hq, s_B_wheelsThatAre_b4, if_neg c_12, if_neg c_21])
  refine lv_iconst (v := (0 : Int32)) hx hb d_B_wheelsThatAre_0 rfl ?_
  refine lv_istore_n (lv' := [(2, .int (0 : Int32)), (0, .ref (ad 40)), (1, .int a1)]) hx hb d_B_wheelsThatAre_1 rfl hl (by decide) rfl (fun ls hl => ?_)
  refine lv_iconst (v := (0 : Int32)) hx hb d_B_wheelsThatAre_2 rfl ?_
  refine lv_istore_n (lv' := [(3, .int (0 : Int32)), (2, .int (0 : Int32)), (0, .ref (ad 40)), (1, .int a1)]) hx hb d_B_wheelsThatAre_3 rfl hl (by decide) rfl (fun ls hl => ?_)
  exact b4 ((S.1 0).toInt.toNat + 1) a1 (0 : Int32) (0 : Int32) (UP_in (by decide)) ls (lv_sub hl [2, 3, 1, 0] rfl) (by rw [s_B_wheelsThatAre])

def s_B_outwardTeeth_b4 (S : St) : Nat → Int32 → Int32 → Int32
  | 0, _, _ => 0
  | n + 1, x1, x2 => (if (s_N_size S 0) ≤ x2 then x1 else (s_B_outwardTeeth_b4 S n (x1 + (if (0 : Int32) < (s_N_at S 0 x2) then (s_N_at S 0 x2) else (0 : Int32))) (x2 + 1)))
def s_B_outwardTeeth (S : St) : Int32 := (s_B_outwardTeeth_b4 S ((S.1 0).toInt.toNat + 1) (0 : Int32) (0 : Int32))
set_option maxRecDepth 20000 in
theorem c_B_outwardTeeth (l : Launch) (E : Cx) (ad : Nat → Nat) (X : va_W) (S : St) : Met l y_B_outwardTeeth (Cond.code y_B_outwardTeeth b_B_outwardTeeth 3 (some .int) :: TB) (rk 1 21) (va_Pc [.ref (ad 40)] (preR E (wb E ad S ++ X))) (vp_Si (fun r => r = (s_B_outwardTeeth S))) 0 0 (fun _ => False) := by
  refine w_roI rfl (Nat.le_of_ble_eq_true rfl) rfl ?_
  intro p e s m args below meth c Q ls hx hb hml hts hown hP hK hl hend
  have hl : lv_has ls 3 [(0, .ref (ad 40))] := hl
  have hP : va_P E.1 vwCl (wb E ad S ++ X) s.heap := hP
  have hown : s.vm.findClass R_B = some m.cls := hown
  have b4 : ∀ (n : Nat) (x1 : Int32) (x2 : Int32), (UP n (S.1 0) x2) → ∀ (ls : Array Slot), lv_has ls 3 [(0, .ref (ad 40)), (1, .int x1), (2, .int x2)] → (s_B_outwardTeeth S) = s_B_outwardTeeth_b4 S n x1 x2 → W p l e (rk 1 21) s m args below meth c s.heap [] 0 0 Q (F0 m 4 ls []) := by
    intro n4
    induction n4 with
    | zero => intro x1 x2 hv; exact absurd hv (UP_z)
    | succ n4 ih4 =>
      intro x1 x2 hv ls hl hq
      refine lv_iload_n hx hb d_B_outwardTeeth_4 rfl (lv_at hl 2 rfl) ?_
      refine lv_aload_n hx hb d_B_outwardTeeth_5 rfl (lv_at hl 0 rfl) ?_
      refine g_B0_teeth hx hb hts hown hK hP d_B_outwardTeeth_6 ?_
      refine k_vi (rest := [.int x2]) (c_N_size l E ad X S 0 (Nat.le_of_ble_eq_true rfl)) mi_N_size ml_B_37 hx hb hml hts hown hK hP (rvN (Nat.le_of_ble_eq_true rfl)) hl ⟨rfl, rfl⟩ ⟨(Nat.le_of_ble_eq_true rfl), (Nat.le_of_ble_eq_true rfl)⟩ ⟨Nat.zero_le _, Nat.zero_le _⟩ rfl (Nat.le_of_ble_eq_true rfl) rfl d_B_outwardTeeth_9 ?_
      refine lv_icmp_ge (tgt := 36) hx hb d_B_outwardTeeth_12 (by decide) (fun c_12 => ?_) (fun c_12 => ?_)
      · refine lv_iload_n hx hb d_B_outwardTeeth_36 rfl (lv_at hl 1 rfl) ?_
        exact hend _ _ _ (by rw [hq, s_B_outwardTeeth_b4, if_pos c_12]) d_B_outwardTeeth_37
      · refine lv_iload_n hx hb d_B_outwardTeeth_15 rfl (lv_at hl 1 rfl) ?_
        refine lv_iconst (v := (0 : Int32)) hx hb d_B_outwardTeeth_16 rfl ?_
        refine lv_aload_n hx hb d_B_outwardTeeth_17 rfl (lv_at hl 0 rfl) ?_
        refine g_B0_teeth hx hb hts hown hK hP d_B_outwardTeeth_18 ?_
        refine lv_iload_n hx hb d_B_outwardTeeth_21 rfl (lv_at hl 2 rfl) ?_
        refine k_vi (rest := [.int (0 : Int32), .int x1]) (c_N_at l E ad X S 0 (Nat.le_of_ble_eq_true rfl) x2) mi_N_at ml_B_45 hx hb hml hts hown hK hP (rvN (Nat.le_of_ble_eq_true rfl)) hl ⟨rfl, rfl⟩ ⟨(Nat.le_of_ble_eq_true rfl), (Nat.le_of_ble_eq_true rfl)⟩ ⟨Nat.zero_le _, Nat.zero_le _⟩ rfl (Nat.le_of_ble_eq_true rfl) rfl d_B_outwardTeeth_22 ?_
        refine va_mmax hx hb (hml.trans hl.1.symm) hown (hts _ ml_B_116) (hts _ st_mmax) (hts _ iz_Math) (hts _ co_mmax) (Nat.le_of_ble_eq_true rfl) (Nat.le_of_ble_eq_true rfl) (Nat.zero_le _) (Nat.zero_le _) d_B_outwardTeeth_25 ?_
        refine lv_iadd hx hb d_B_outwardTeeth_28 ?_
        refine lv_istore_n (lv' := [(1, .int (x1 + (if (0 : Int32) < (s_N_at S 0 x2) then (s_N_at S 0 x2) else (0 : Int32)))), (0, .ref (ad 40)), (2, .int x2)]) hx hb d_B_outwardTeeth_29 rfl hl (by decide) rfl (fun ls hl => ?_)
        refine lv_iinc (v := (x2 + 1)) (lv' := [(2, .int (x2 + 1)), (1, .int (x1 + (if (0 : Int32) < (s_N_at S 0 x2) then (s_N_at S 0 x2) else (0 : Int32)))), (0, .ref (ad 40))]) hx hb d_B_outwardTeeth_30 hl (k := 2) rfl rfl (by decide) rfl (fun ls hl => ?_)
        refine lv_goto (tgt := 4) hx hb d_B_outwardTeeth_33 (by decide) ?_
        exact ih4 (x1 + (if (0 : Int32) < (s_N_at S 0 x2) then (s_N_at S 0 x2) else (0 : Int32))) (x2 + 1) (UP_up hv c_12) ls (lv_sub hl [2, 1, 0] rfl) (by rw [hq, s_B_outwardTeeth_b4, if_neg c_12])
  refine lv_iconst (v := (0 : Int32)) hx hb d_B_outwardTeeth_0 rfl ?_
  refine lv_istore_n (lv' := [(1, .int (0 : Int32)), (0, .ref (ad 40))]) hx hb d_B_outwardTeeth_1 rfl hl (by decide) rfl (fun ls hl => ?_)
  refine lv_iconst (v := (0 : Int32)) hx hb d_B_outwardTeeth_2 rfl ?_
  refine lv_istore_n (lv' := [(2, .int (0 : Int32)), (1, .int (0 : Int32)), (0, .ref (ad 40))]) hx hb d_B_outwardTeeth_3 rfl hl (by decide) rfl (fun ls hl => ?_)
  exact b4 ((S.1 0).toInt.toNat + 1) (0 : Int32) (0 : Int32) (UP_in (by decide)) ls (lv_sub hl [2, 1, 0] rfl) (by rw [s_B_outwardTeeth])
end
