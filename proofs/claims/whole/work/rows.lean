section
-- ===== PART A: goes FIRST, ahead of the names: the tables' words, and 'selects' of the private methods out of them =====
/-- a private method of a class that the tables say can be made, by its rows of tables_1 -/
def lw_okq (q : MethodName × Nat) : Prop := (q.1.cls ≠ "java/lang/invoke/MethodHandle" ∧ q.1.cls ≠ "java/lang/invoke/VarHandle") ∧ Cond.instantiable q.1.cls q.2 ∈ tables_1 ∧ Cond.privateMethod q.1 ∈ tables_1 ∧ Cond.instanceMethod q.1 ∈ tables_1
theorem lw_p0 : lw_okq (⟨"java/lang/Throwable", "fillInStackTrace", "(I)Ljava/lang/Throwable;"⟩, 6) := ⟨⟨by decide +kernel, by decide +kernel⟩, List.mem_of_getElem? (i := 373) (by decide +kernel), List.mem_of_getElem? (i := 371) (by decide +kernel), List.mem_of_getElem? (i := 372) (by decide +kernel)⟩
theorem lw_p1 : lw_okq (⟨"AllocationProfiler$Checker", "wrongDepth", "(LAllocationProfiler$Code;)I"⟩, 3) := ⟨⟨by decide +kernel, by decide +kernel⟩, List.mem_of_getElem? (i := 270) (by decide +kernel), List.mem_of_getElem? (i := 540) (by decide +kernel), List.mem_of_getElem? (i := 541) (by decide +kernel)⟩
theorem lw_p2 : lw_okq (⟨"AllocationProfiler$Checker", "reach", "(II)V"⟩, 3) := ⟨⟨by decide +kernel, by decide +kernel⟩, List.mem_of_getElem? (i := 270) (by decide +kernel), List.mem_of_getElem? (i := 547) (by decide +kernel), List.mem_of_getElem? (i := 548) (by decide +kernel)⟩
theorem lw_p3 : lw_okq (⟨"AllocationProfiler$Checker", "follow", "(LAllocationProfiler$Code;II)V"⟩, 3) := ⟨⟨by decide +kernel, by decide +kernel⟩, List.mem_of_getElem? (i := 270) (by decide +kernel), List.mem_of_getElem? (i := 551) (by decide +kernel), List.mem_of_getElem? (i := 552) (by decide +kernel)⟩
theorem lw_p4 : lw_okq (⟨"AllocationProfiler", "needMethod", "(I)V"⟩, 10) := ⟨⟨by decide +kernel, by decide +kernel⟩, List.mem_of_getElem? (i := 22) (by decide +kernel), List.mem_of_getElem? (i := 592) (by decide +kernel), List.mem_of_getElem? (i := 593) (by decide +kernel)⟩
theorem lw_p5 : lw_okq (⟨"AllocationProfiler$Method", "findPlaces", "()V"⟩, 5) := ⟨⟨by decide +kernel, by decide +kernel⟩, List.mem_of_getElem? (i := 123) (by decide +kernel), List.mem_of_getElem? (i := 612) (by decide +kernel), List.mem_of_getElem? (i := 613) (by decide +kernel)⟩
theorem lw_p6 : lw_okq (⟨"AllocationProfiler$Method", "placeOf", "(I)I"⟩, 5) := ⟨⟨by decide +kernel, by decide +kernel⟩, List.mem_of_getElem? (i := 123) (by decide +kernel), List.mem_of_getElem? (i := 619) (by decide +kernel), List.mem_of_getElem? (i := 620) (by decide +kernel)⟩
theorem lw_p7 : lw_okq (⟨"AllocationProfiler$Machine", "perform", "(LAllocationProfiler$Strand;)V"⟩, 7) := ⟨⟨by decide +kernel, by decide +kernel⟩, List.mem_of_getElem? (i := 30) (by decide +kernel), List.mem_of_getElem? (i := 743) (by decide +kernel), List.mem_of_getElem? (i := 744) (by decide +kernel)⟩
theorem lw_p8 : lw_okq (⟨"AllocationProfiler$Machine", "codeOf", "(LAllocationProfiler$Frame;)LAllocationProfiler$Code;"⟩, 7) := ⟨⟨by decide +kernel, by decide +kernel⟩, List.mem_of_getElem? (i := 30) (by decide +kernel), List.mem_of_getElem? (i := 751) (by decide +kernel), List.mem_of_getElem? (i := 752) (by decide +kernel)⟩
theorem lw_p9 : lw_okq (⟨"AllocationProfiler$Machine", "make", "(LAllocationProfiler$Strand;J)V"⟩, 7) := ⟨⟨by decide +kernel, by decide +kernel⟩, List.mem_of_getElem? (i := 30) (by decide +kernel), List.mem_of_getElem? (i := 766) (by decide +kernel), List.mem_of_getElem? (i := 767) (by decide +kernel)⟩
theorem lw_p10 : lw_okq (⟨"AllocationProfiler$Machine", "raise", "(LAllocationProfiler$Strand;I)V"⟩, 7) := ⟨⟨by decide +kernel, by decide +kernel⟩, List.mem_of_getElem? (i := 30) (by decide +kernel), List.mem_of_getElem? (i := 775) (by decide +kernel), List.mem_of_getElem? (i := 776) (by decide +kernel)⟩
theorem lw_p11 : lw_okq (⟨"AllocationProfiler$Ledger", "drawSamples", "(II)I"⟩, 12) := ⟨⟨by decide +kernel, by decide +kernel⟩, List.mem_of_getElem? (i := 66) (by decide +kernel), List.mem_of_getElem? (i := 809) (by decide +kernel), List.mem_of_getElem? (i := 810) (by decide +kernel)⟩
theorem lw_p12 : lw_okq (⟨"AllocationProfiler$Ledger", "countInEntry", "(III)V"⟩, 12) := ⟨⟨by decide +kernel, by decide +kernel⟩, List.mem_of_getElem? (i := 66) (by decide +kernel), List.mem_of_getElem? (i := 813) (by decide +kernel), List.mem_of_getElem? (i := 814) (by decide +kernel)⟩
theorem lw_p13 : lw_okq (⟨"AllocationProfiler$Ledger", "entryOf", "(II)I"⟩, 12) := ⟨⟨by decide +kernel, by decide +kernel⟩, List.mem_of_getElem? (i := 66) (by decide +kernel), List.mem_of_getElem? (i := 817) (by decide +kernel), List.mem_of_getElem? (i := 818) (by decide +kernel)⟩
theorem lw_p14 : lw_okq (⟨"AllocationProfiler$Machine", "callMethod", "(LAllocationProfiler$Strand;II)V"⟩, 7) := ⟨⟨by decide +kernel, by decide +kernel⟩, List.mem_of_getElem? (i := 30) (by decide +kernel), List.mem_of_getElem? (i := 828) (by decide +kernel), List.mem_of_getElem? (i := 829) (by decide +kernel)⟩
theorem lw_p15 : lw_okq (⟨"AllocationProfiler$Machine", "giveBack", "(LAllocationProfiler$Strand;I)V"⟩, 7) := ⟨⟨by decide +kernel, by decide +kernel⟩, List.mem_of_getElem? (i := 30) (by decide +kernel), List.mem_of_getElem? (i := 834) (by decide +kernel), List.mem_of_getElem? (i := 835) (by decide +kernel)⟩
def lw_privs_1 : List (MethodName × Nat) := [(⟨"java/lang/Throwable", "fillInStackTrace", "(I)Ljava/lang/Throwable;"⟩, 6), (⟨"AllocationProfiler$Checker", "wrongDepth", "(LAllocationProfiler$Code;)I"⟩, 3), (⟨"AllocationProfiler$Checker", "reach", "(II)V"⟩, 3), (⟨"AllocationProfiler$Checker", "follow", "(LAllocationProfiler$Code;II)V"⟩, 3), (⟨"AllocationProfiler", "needMethod", "(I)V"⟩, 10), (⟨"AllocationProfiler$Method", "findPlaces", "()V"⟩, 5), (⟨"AllocationProfiler$Method", "placeOf", "(I)I"⟩, 5), (⟨"AllocationProfiler$Machine", "perform", "(LAllocationProfiler$Strand;)V"⟩, 7), (⟨"AllocationProfiler$Machine", "codeOf", "(LAllocationProfiler$Frame;)LAllocationProfiler$Code;"⟩, 7), (⟨"AllocationProfiler$Machine", "make", "(LAllocationProfiler$Strand;J)V"⟩, 7), (⟨"AllocationProfiler$Machine", "raise", "(LAllocationProfiler$Strand;I)V"⟩, 7), (⟨"AllocationProfiler$Ledger", "drawSamples", "(II)I"⟩, 12), (⟨"AllocationProfiler$Ledger", "countInEntry", "(III)V"⟩, 12), (⟨"AllocationProfiler$Ledger", "entryOf", "(II)I"⟩, 12), (⟨"AllocationProfiler$Machine", "callMethod", "(LAllocationProfiler$Strand;II)V"⟩, 7), (⟨"AllocationProfiler$Machine", "giveBack", "(LAllocationProfiler$Strand;I)V"⟩, 7)]
theorem lw_r1 : ∀ q ∈ lw_privs_1, lw_okq q := List.forall_mem_cons.mpr ⟨lw_p0, List.forall_mem_cons.mpr ⟨lw_p1, List.forall_mem_cons.mpr ⟨lw_p2, List.forall_mem_cons.mpr ⟨lw_p3, List.forall_mem_cons.mpr ⟨lw_p4, List.forall_mem_cons.mpr ⟨lw_p5, List.forall_mem_cons.mpr ⟨lw_p6, List.forall_mem_cons.mpr ⟨lw_p7, List.forall_mem_cons.mpr ⟨lw_p8, List.forall_mem_cons.mpr ⟨lw_p9, List.forall_mem_cons.mpr ⟨lw_p10, List.forall_mem_cons.mpr ⟨lw_p11, List.forall_mem_cons.mpr ⟨lw_p12, List.forall_mem_cons.mpr ⟨lw_p13, List.forall_mem_cons.mpr ⟨lw_p14, List.forall_mem_cons.mpr ⟨lw_p15, fun _ h => absurd h List.not_mem_nil⟩⟩⟩⟩⟩⟩⟩⟩⟩⟩⟩⟩⟩⟩⟩⟩
theorem lw_p16 : lw_okq (⟨"AllocationProfiler$Frame", "store", "(II)V"⟩, 5) := ⟨⟨by decide +kernel, by decide +kernel⟩, List.mem_of_getElem? (i := 197) (by decide +kernel), List.mem_of_getElem? (i := 843) (by decide +kernel), List.mem_of_getElem? (i := 844) (by decide +kernel)⟩
theorem lw_p17 : lw_okq (⟨"AllocationProfiler$Frame", "duplicate", "()V"⟩, 5) := ⟨⟨by decide +kernel, by decide +kernel⟩, List.mem_of_getElem? (i := 197) (by decide +kernel), List.mem_of_getElem? (i := 847) (by decide +kernel), List.mem_of_getElem? (i := 848) (by decide +kernel)⟩
theorem lw_p18 : lw_okq (⟨"AllocationProfiler$Frame", "combine", "(I)V"⟩, 5) := ⟨⟨by decide +kernel, by decide +kernel⟩, List.mem_of_getElem? (i := 197) (by decide +kernel), List.mem_of_getElem? (i := 851) (by decide +kernel), List.mem_of_getElem? (i := 852) (by decide +kernel)⟩
theorem lw_p19 : lw_okq (⟨"AllocationProfiler$Machine", "countStep", "()V"⟩, 7) := ⟨⟨by decide +kernel, by decide +kernel⟩, List.mem_of_getElem? (i := 30) (by decide +kernel), List.mem_of_getElem? (i := 855) (by decide +kernel), List.mem_of_getElem? (i := 856) (by decide +kernel)⟩
theorem lw_p20 : lw_okq (⟨"AllocationProfiler", "needSite", "(I)V"⟩, 10) := ⟨⟨by decide +kernel, by decide +kernel⟩, List.mem_of_getElem? (i := 22) (by decide +kernel), List.mem_of_getElem? (i := 904) (by decide +kernel), List.mem_of_getElem? (i := 905) (by decide +kernel)⟩
theorem lw_p21 : lw_okq (⟨"AllocationProfiler$Ledger", "bytesOfAll", "()J"⟩, 12) := ⟨⟨by decide +kernel, by decide +kernel⟩, List.mem_of_getElem? (i := 66) (by decide +kernel), List.mem_of_getElem? (i := 944) (by decide +kernel), List.mem_of_getElem? (i := 945) (by decide +kernel)⟩
theorem lw_p22 : lw_okq (⟨"AllocationProfiler$Ledger", "samplesOfAll", "()J"⟩, 12) := ⟨⟨by decide +kernel, by decide +kernel⟩, List.mem_of_getElem? (i := 66) (by decide +kernel), List.mem_of_getElem? (i := 960) (by decide +kernel), List.mem_of_getElem? (i := 961) (by decide +kernel)⟩
theorem lw_p23 : lw_okq (⟨"AllocationProfilerModel", "fail", "(I)I"⟩, 48) := ⟨⟨by decide +kernel, by decide +kernel⟩, List.mem_of_getElem? (i := 972) (by decide +kernel), List.mem_of_getElem? (i := 1142) (by decide +kernel), List.mem_of_getElem? (i := 1143) (by decide +kernel)⟩
theorem lw_p24 : lw_okq (⟨"AllocationProfilerModel", "malformed", "()I"⟩, 48) := ⟨⟨by decide +kernel, by decide +kernel⟩, List.mem_of_getElem? (i := 972) (by decide +kernel), List.mem_of_getElem? (i := 1158) (by decide +kernel), List.mem_of_getElem? (i := 1159) (by decide +kernel)⟩
theorem lw_p25 : lw_okq (⟨"AllocationProfilerModel", "fits", "(II)Z"⟩, 48) := ⟨⟨by decide +kernel, by decide +kernel⟩, List.mem_of_getElem? (i := 972) (by decide +kernel), List.mem_of_getElem? (i := 1162) (by decide +kernel), List.mem_of_getElem? (i := 1163) (by decide +kernel)⟩
theorem lw_p26 : lw_okq (⟨"AllocationProfilerModel", "badDepth", "()I"⟩, 48) := ⟨⟨by decide +kernel, by decide +kernel⟩, List.mem_of_getElem? (i := 972) (by decide +kernel), List.mem_of_getElem? (i := 1172) (by decide +kernel), List.mem_of_getElem? (i := 1173) (by decide +kernel)⟩
theorem lw_p27 : lw_okq (⟨"AllocationProfilerModel", "follow", "(II)Z"⟩, 48) := ⟨⟨by decide +kernel, by decide +kernel⟩, List.mem_of_getElem? (i := 972) (by decide +kernel), List.mem_of_getElem? (i := 1176) (by decide +kernel), List.mem_of_getElem? (i := 1177) (by decide +kernel)⟩
theorem lw_p28 : lw_okq (⟨"AllocationProfilerModel", "reach", "(II)Z"⟩, 48) := ⟨⟨by decide +kernel, by decide +kernel⟩, List.mem_of_getElem? (i := 972) (by decide +kernel), List.mem_of_getElem? (i := 1186) (by decide +kernel), List.mem_of_getElem? (i := 1187) (by decide +kernel)⟩
theorem lw_p29 : lw_okq (⟨"AllocationProfilerModel", "same", "(I)V"⟩, 48) := ⟨⟨by decide +kernel, by decide +kernel⟩, List.mem_of_getElem? (i := 972) (by decide +kernel), List.mem_of_getElem? (i := 1190) (by decide +kernel), List.mem_of_getElem? (i := 1191) (by decide +kernel)⟩
theorem lw_p30 : lw_okq (⟨"AllocationProfilerModel", "weaveOne", "(I)V"⟩, 48) := ⟨⟨by decide +kernel, by decide +kernel⟩, List.mem_of_getElem? (i := 972) (by decide +kernel), List.mem_of_getElem? (i := 1207) (by decide +kernel), List.mem_of_getElem? (i := 1208) (by decide +kernel)⟩
theorem lw_p31 : lw_okq (⟨"AllocationProfilerModel", "moved", "(II)I"⟩, 48) := ⟨⟨by decide +kernel, by decide +kernel⟩, List.mem_of_getElem? (i := 972) (by decide +kernel), List.mem_of_getElem? (i := 1211) (by decide +kernel), List.mem_of_getElem? (i := 1212) (by decide +kernel)⟩
def lw_privs_2 : List (MethodName × Nat) := [(⟨"AllocationProfiler$Frame", "store", "(II)V"⟩, 5), (⟨"AllocationProfiler$Frame", "duplicate", "()V"⟩, 5), (⟨"AllocationProfiler$Frame", "combine", "(I)V"⟩, 5), (⟨"AllocationProfiler$Machine", "countStep", "()V"⟩, 7), (⟨"AllocationProfiler", "needSite", "(I)V"⟩, 10), (⟨"AllocationProfiler$Ledger", "bytesOfAll", "()J"⟩, 12), (⟨"AllocationProfiler$Ledger", "samplesOfAll", "()J"⟩, 12), (⟨"AllocationProfilerModel", "fail", "(I)I"⟩, 48), (⟨"AllocationProfilerModel", "malformed", "()I"⟩, 48), (⟨"AllocationProfilerModel", "fits", "(II)Z"⟩, 48), (⟨"AllocationProfilerModel", "badDepth", "()I"⟩, 48), (⟨"AllocationProfilerModel", "follow", "(II)Z"⟩, 48), (⟨"AllocationProfilerModel", "reach", "(II)Z"⟩, 48), (⟨"AllocationProfilerModel", "same", "(I)V"⟩, 48), (⟨"AllocationProfilerModel", "weaveOne", "(I)V"⟩, 48), (⟨"AllocationProfilerModel", "moved", "(II)I"⟩, 48)]
theorem lw_r2 : ∀ q ∈ lw_privs_2, lw_okq q := List.forall_mem_cons.mpr ⟨lw_p16, List.forall_mem_cons.mpr ⟨lw_p17, List.forall_mem_cons.mpr ⟨lw_p18, List.forall_mem_cons.mpr ⟨lw_p19, List.forall_mem_cons.mpr ⟨lw_p20, List.forall_mem_cons.mpr ⟨lw_p21, List.forall_mem_cons.mpr ⟨lw_p22, List.forall_mem_cons.mpr ⟨lw_p23, List.forall_mem_cons.mpr ⟨lw_p24, List.forall_mem_cons.mpr ⟨lw_p25, List.forall_mem_cons.mpr ⟨lw_p26, List.forall_mem_cons.mpr ⟨lw_p27, List.forall_mem_cons.mpr ⟨lw_p28, List.forall_mem_cons.mpr ⟨lw_p29, List.forall_mem_cons.mpr ⟨lw_p30, List.forall_mem_cons.mpr ⟨lw_p31, fun _ h => absurd h List.not_mem_nil⟩⟩⟩⟩⟩⟩⟩⟩⟩⟩⟩⟩⟩⟩⟩⟩
theorem lw_p32 : lw_okq (⟨"AllocationProfilerModel", "enter", "(III)V"⟩, 48) := ⟨⟨by decide +kernel, by decide +kernel⟩, List.mem_of_getElem? (i := 972) (by decide +kernel), List.mem_of_getElem? (i := 1234) (by decide +kernel), List.mem_of_getElem? (i := 1235) (by decide +kernel)⟩
theorem lw_p33 : lw_okq (⟨"AllocationProfilerModel", "next", "()I"⟩, 48) := ⟨⟨by decide +kernel, by decide +kernel⟩, List.mem_of_getElem? (i := 972) (by decide +kernel), List.mem_of_getElem? (i := 1242) (by decide +kernel), List.mem_of_getElem? (i := 1243) (by decide +kernel)⟩
theorem lw_p34 : lw_okq (⟨"AllocationProfilerModel", "execute", "(I)V"⟩, 48) := ⟨⟨by decide +kernel, by decide +kernel⟩, List.mem_of_getElem? (i := 972) (by decide +kernel), List.mem_of_getElem? (i := 1246) (by decide +kernel), List.mem_of_getElem? (i := 1247) (by decide +kernel)⟩
theorem lw_p35 : lw_okq (⟨"AllocationProfilerModel", "push", "(II)V"⟩, 48) := ⟨⟨by decide +kernel, by decide +kernel⟩, List.mem_of_getElem? (i := 972) (by decide +kernel), List.mem_of_getElem? (i := 1250) (by decide +kernel), List.mem_of_getElem? (i := 1251) (by decide +kernel)⟩
theorem lw_p36 : lw_okq (⟨"AllocationProfilerModel", "pop", "(I)I"⟩, 48) := ⟨⟨by decide +kernel, by decide +kernel⟩, List.mem_of_getElem? (i := 972) (by decide +kernel), List.mem_of_getElem? (i := 1254) (by decide +kernel), List.mem_of_getElem? (i := 1255) (by decide +kernel)⟩
theorem lw_p37 : lw_okq (⟨"AllocationProfilerModel", "reckon", "(III)V"⟩, 48) := ⟨⟨by decide +kernel, by decide +kernel⟩, List.mem_of_getElem? (i := 972) (by decide +kernel), List.mem_of_getElem? (i := 1258) (by decide +kernel), List.mem_of_getElem? (i := 1259) (by decide +kernel)⟩
theorem lw_p38 : lw_okq (⟨"AllocationProfilerModel", "allocate", "(IIJ)V"⟩, 48) := ⟨⟨by decide +kernel, by decide +kernel⟩, List.mem_of_getElem? (i := 972) (by decide +kernel), List.mem_of_getElem? (i := 1262) (by decide +kernel), List.mem_of_getElem? (i := 1263) (by decide +kernel)⟩
theorem lw_p39 : lw_okq (⟨"AllocationProfilerModel", "raise", "(II)V"⟩, 48) := ⟨⟨by decide +kernel, by decide +kernel⟩, List.mem_of_getElem? (i := 972) (by decide +kernel), List.mem_of_getElem? (i := 1267) (by decide +kernel), List.mem_of_getElem? (i := 1268) (by decide +kernel)⟩
theorem lw_p40 : lw_okq (⟨"AllocationProfilerModel", "handler", "(II)I"⟩, 48) := ⟨⟨by decide +kernel, by decide +kernel⟩, List.mem_of_getElem? (i := 972) (by decide +kernel), List.mem_of_getElem? (i := 1271) (by decide +kernel), List.mem_of_getElem? (i := 1272) (by decide +kernel)⟩
theorem lw_p41 : lw_okq (⟨"AllocationProfilerModel", "report", "(III)V"⟩, 48) := ⟨⟨by decide +kernel, by decide +kernel⟩, List.mem_of_getElem? (i := 972) (by decide +kernel), List.mem_of_getElem? (i := 1275) (by decide +kernel), List.mem_of_getElem? (i := 1276) (by decide +kernel)⟩
theorem lw_p42 : lw_okq (⟨"AllocationProfilerModel", "stackOf", "(I)I"⟩, 48) := ⟨⟨by decide +kernel, by decide +kernel⟩, List.mem_of_getElem? (i := 972) (by decide +kernel), List.mem_of_getElem? (i := 1279) (by decide +kernel), List.mem_of_getElem? (i := 1280) (by decide +kernel)⟩
theorem lw_p43 : lw_okq (⟨"AllocationProfilerModel", "sample", "(II)V"⟩, 48) := ⟨⟨by decide +kernel, by decide +kernel⟩, List.mem_of_getElem? (i := 972) (by decide +kernel), List.mem_of_getElem? (i := 1283) (by decide +kernel), List.mem_of_getElem? (i := 1284) (by decide +kernel)⟩
theorem lw_p44 : lw_okq (⟨"AllocationProfilerModel", "take", "(IIIII)V"⟩, 48) := ⟨⟨by decide +kernel, by decide +kernel⟩, List.mem_of_getElem? (i := 972) (by decide +kernel), List.mem_of_getElem? (i := 1287) (by decide +kernel), List.mem_of_getElem? (i := 1288) (by decide +kernel)⟩
theorem lw_p45 : lw_okq (⟨"AllocationProfilerModel", "leave", "(II)V"⟩, 48) := ⟨⟨by decide +kernel, by decide +kernel⟩, List.mem_of_getElem? (i := 972) (by decide +kernel), List.mem_of_getElem? (i := 1297) (by decide +kernel), List.mem_of_getElem? (i := 1298) (by decide +kernel)⟩
theorem lw_p46 : lw_okq (⟨"AllocationProfilerModel", "fade", "()V"⟩, 48) := ⟨⟨by decide +kernel, by decide +kernel⟩, List.mem_of_getElem? (i := 972) (by decide +kernel), List.mem_of_getElem? (i := 1301) (by decide +kernel), List.mem_of_getElem? (i := 1302) (by decide +kernel)⟩
theorem lw_p47 : lw_okq (⟨"AllocationProfilerModel", "allBytes", "()J"⟩, 48) := ⟨⟨by decide +kernel, by decide +kernel⟩, List.mem_of_getElem? (i := 972) (by decide +kernel), List.mem_of_getElem? (i := 1338) (by decide +kernel), List.mem_of_getElem? (i := 1339) (by decide +kernel)⟩
def lw_privs_3 : List (MethodName × Nat) := [(⟨"AllocationProfilerModel", "enter", "(III)V"⟩, 48), (⟨"AllocationProfilerModel", "next", "()I"⟩, 48), (⟨"AllocationProfilerModel", "execute", "(I)V"⟩, 48), (⟨"AllocationProfilerModel", "push", "(II)V"⟩, 48), (⟨"AllocationProfilerModel", "pop", "(I)I"⟩, 48), (⟨"AllocationProfilerModel", "reckon", "(III)V"⟩, 48), (⟨"AllocationProfilerModel", "allocate", "(IIJ)V"⟩, 48), (⟨"AllocationProfilerModel", "raise", "(II)V"⟩, 48), (⟨"AllocationProfilerModel", "handler", "(II)I"⟩, 48), (⟨"AllocationProfilerModel", "report", "(III)V"⟩, 48), (⟨"AllocationProfilerModel", "stackOf", "(I)I"⟩, 48), (⟨"AllocationProfilerModel", "sample", "(II)V"⟩, 48), (⟨"AllocationProfilerModel", "take", "(IIIII)V"⟩, 48), (⟨"AllocationProfilerModel", "leave", "(II)V"⟩, 48), (⟨"AllocationProfilerModel", "fade", "()V"⟩, 48), (⟨"AllocationProfilerModel", "allBytes", "()J"⟩, 48)]
theorem lw_r3 : ∀ q ∈ lw_privs_3, lw_okq q := List.forall_mem_cons.mpr ⟨lw_p32, List.forall_mem_cons.mpr ⟨lw_p33, List.forall_mem_cons.mpr ⟨lw_p34, List.forall_mem_cons.mpr ⟨lw_p35, List.forall_mem_cons.mpr ⟨lw_p36, List.forall_mem_cons.mpr ⟨lw_p37, List.forall_mem_cons.mpr ⟨lw_p38, List.forall_mem_cons.mpr ⟨lw_p39, List.forall_mem_cons.mpr ⟨lw_p40, List.forall_mem_cons.mpr ⟨lw_p41, List.forall_mem_cons.mpr ⟨lw_p42, List.forall_mem_cons.mpr ⟨lw_p43, List.forall_mem_cons.mpr ⟨lw_p44, List.forall_mem_cons.mpr ⟨lw_p45, List.forall_mem_cons.mpr ⟨lw_p46, List.forall_mem_cons.mpr ⟨lw_p47, fun _ h => absurd h List.not_mem_nil⟩⟩⟩⟩⟩⟩⟩⟩⟩⟩⟩⟩⟩⟩⟩⟩
theorem lw_p48 : lw_okq (⟨"AllocationProfilerModel", "estimated", "(I)D"⟩, 48) := ⟨⟨by decide +kernel, by decide +kernel⟩, List.mem_of_getElem? (i := 972) (by decide +kernel), List.mem_of_getElem? (i := 1346) (by decide +kernel), List.mem_of_getElem? (i := 1347) (by decide +kernel)⟩
def lw_privs_4 : List (MethodName × Nat) := [(⟨"AllocationProfilerModel", "estimated", "(I)D"⟩, 48)]
theorem lw_r4 : ∀ q ∈ lw_privs_4, lw_okq q := List.forall_mem_cons.mpr ⟨lw_p48, fun _ h => absurd h List.not_mem_nil⟩
def lw_privs : List (MethodName × Nat) := lw_privs_1 ++ (lw_privs_2 ++ (lw_privs_3 ++ (lw_privs_4)))
def lw_tbl : List Cond := k2_sels lw_privs ++ tables_1
theorem lw_privs_ok : ∀ q ∈ lw_privs, lw_okq q := by
  show ∀ q ∈ lw_privs_1 ++ (lw_privs_2 ++ (lw_privs_3 ++ (lw_privs_4))), lw_okq q
  exact List.forall_mem_append.mpr ⟨lw_r1, List.forall_mem_append.mpr ⟨lw_r2, List.forall_mem_append.mpr ⟨lw_r3, lw_r4⟩⟩⟩
end
section
/-! names: classes, their fields in an order, their methods -/
def R_Checker : String := "AllocationProfiler$Checker"
def R_Code : String := "AllocationProfiler$Code"
def R_Frame : String := "AllocationProfiler$Frame"
def R_Heap : String := "AllocationProfiler$Heap"
def R_Ledger : String := "AllocationProfiler$Ledger"
def R_Machine : String := "AllocationProfiler$Machine"
def R_Method : String := "AllocationProfiler$Method"
def R_Strand : String := "AllocationProfiler$Strand"
def R_Types : String := "AllocationProfiler$Types"
def R_AP : String := "AllocationProfiler"
def R_Mo : String := "AllocationProfilerModel"
def T_Checker : u_T := fun k => match k with
  | 0 => ("AllocationProfiler$Checker", "reached", "[I", true)
  | 1 => ("AllocationProfiler$Checker", "waiting", "[I", true)
  | _ => ("AllocationProfiler$Checker", "waitingCount", "I", false)
def t_Checker : Nat → FieldType := fun k => match k with
  | 0 => .array .int
  | 1 => .array .int
  | _ => .int
theorem n_Checker : ∀ a, a < 3 → ∀ b, b < 3 → a ≠ b → (T_Checker a).2.1 ≠ (T_Checker b).2.1 := by decide +kernel
theorem t_Checker_ok : ∀ k, k < 3 → parseFieldDescriptor (T_Checker k).2.2.1 = some (t_Checker k) := by decide +kernel
def T_Code : u_T := fun k => match k with
  | 0 => ("AllocationProfiler$Code", "operations", "[I", true)
  | 1 => ("AllocationProfiler$Code", "arguments", "[I", true)
  | 2 => ("AllocationProfiler$Code", "begins", "[I", true)
  | 3 => ("AllocationProfiler$Code", "ends", "[I", true)
  | 4 => ("AllocationProfiler$Code", "handlers", "[I", true)
  | 5 => ("AllocationProfiler$Code", "instructions", "I", false)
  | _ => ("AllocationProfiler$Code", "ranges", "I", false)
def t_Code : Nat → FieldType := fun k => match k with
  | 0 => .array .int
  | 1 => .array .int
  | 2 => .array .int
  | 3 => .array .int
  | 4 => .array .int
  | 5 => .int
  | _ => .int
theorem n_Code : ∀ a, a < 7 → ∀ b, b < 7 → a ≠ b → (T_Code a).2.1 ≠ (T_Code b).2.1 := by decide +kernel
theorem t_Code_ok : ∀ k, k < 7 → parseFieldDescriptor (T_Code k).2.2.1 = some (t_Code k) := by decide +kernel
def T_Frame : u_T := fun k => match k with
  | 0 => ("AllocationProfiler$Frame", "locals", "[I", true)
  | 1 => ("AllocationProfiler$Frame", "stack", "[I", true)
  | 2 => ("AllocationProfiler$Frame", "method", "I", false)
  | 3 => ("AllocationProfiler$Frame", "at", "I", false)
  | _ => ("AllocationProfiler$Frame", "depth", "I", false)
def t_Frame : Nat → FieldType := fun k => match k with
  | 0 => .array .int
  | 1 => .array .int
  | 2 => .int
  | 3 => .int
  | _ => .int
theorem n_Frame : ∀ a, a < 5 → ∀ b, b < 5 → a ≠ b → (T_Frame a).2.1 ≠ (T_Frame b).2.1 := by decide +kernel
theorem t_Frame_ok : ∀ k, k < 5 → parseFieldDescriptor (T_Frame k).2.2.1 = some (t_Frame k) := by decide +kernel
def T_Heap : u_T := fun k => match k with
  | 0 => ("AllocationProfiler$Heap", "sizes", "[I", true)
  | _ => ("AllocationProfiler$Heap", "made", "I", false)
def t_Heap : Nat → FieldType := fun k => match k with
  | 0 => .array .int
  | _ => .int
theorem n_Heap : ∀ a, a < 2 → ∀ b, b < 2 → a ≠ b → (T_Heap a).2.1 ≠ (T_Heap b).2.1 := by decide +kernel
theorem t_Heap_ok : ∀ k, k < 2 → parseFieldDescriptor (T_Heap k).2.2.1 = some (t_Heap k) := by decide +kernel
def T_Ledger : u_T := fun k => match k with
  | 0 => ("AllocationProfiler$Ledger", "objects", "[[I", true)
  | 1 => ("AllocationProfiler$Ledger", "bytes", "[[J", true)
  | 2 => ("AllocationProfiler$Ledger", "freshBytes", "[J", true)
  | 3 => ("AllocationProfiler$Ledger", "samples", "[I", true)
  | 4 => ("AllocationProfiler$Ledger", "rates", "[F", true)
  | 5 => ("AllocationProfiler$Ledger", "countdowns", "[I", true)
  | 6 => ("AllocationProfiler$Ledger", "entrySites", "[I", true)
  | 7 => ("AllocationProfiler$Ledger", "entryStacks", "[I", true)
  | 8 => ("AllocationProfiler$Ledger", "entrySamples", "[I", true)
  | 9 => ("AllocationProfiler$Ledger", "sites", "I", false)
  | 10 => ("AllocationProfiler$Ledger", "entries", "I", false)
  | _ => ("AllocationProfiler$Ledger", "interval", "I", false)
def t_Ledger : Nat → FieldType := fun k => match k with
  | 0 => .array (.array .int)
  | 1 => .array (.array .long)
  | 2 => .array .long
  | 3 => .array .int
  | 4 => .array .float
  | 5 => .array .int
  | 6 => .array .int
  | 7 => .array .int
  | 8 => .array .int
  | 9 => .int
  | 10 => .int
  | _ => .int
theorem n_Ledger : ∀ a, a < 12 → ∀ b, b < 12 → a ≠ b → (T_Ledger a).2.1 ≠ (T_Ledger b).2.1 := by decide +kernel
theorem t_Ledger_ok : ∀ k, k < 12 → parseFieldDescriptor (T_Ledger k).2.2.1 = some (t_Ledger k) := by decide +kernel
def T_Machine : u_T := fun k => match k with
  | 0 => ("AllocationProfiler$Machine", "types", "LAllocationProfiler$Types;", true)
  | 1 => ("AllocationProfiler$Machine", "methods", "[LAllocationProfiler$Method;", true)
  | 2 => ("AllocationProfiler$Machine", "heap", "LAllocationProfiler$Heap;", true)
  | 3 => ("AllocationProfiler$Machine", "ledger", "LAllocationProfiler$Ledger;", true)
  | 4 => ("AllocationProfiler$Machine", "strands", "[LAllocationProfiler$Strand;", true)
  | 5 => ("AllocationProfiler$Machine", "turn", "I", false)
  | _ => ("AllocationProfiler$Machine", "stepsSinceFade", "I", false)
def t_Machine : Nat → FieldType := fun k => match k with
  | 0 => .object "AllocationProfiler$Types"
  | 1 => .array (.object "AllocationProfiler$Method")
  | 2 => .object "AllocationProfiler$Heap"
  | 3 => .object "AllocationProfiler$Ledger"
  | 4 => .array (.object "AllocationProfiler$Strand")
  | 5 => .int
  | _ => .int
theorem n_Machine : ∀ a, a < 7 → ∀ b, b < 7 → a ≠ b → (T_Machine a).2.1 ≠ (T_Machine b).2.1 := by decide +kernel
theorem t_Machine_ok : ∀ k, k < 7 → parseFieldDescriptor (T_Machine k).2.2.1 = some (t_Machine k) := by decide +kernel
def T_Method : u_T := fun k => match k with
  | 0 => ("AllocationProfiler$Method", "original", "LAllocationProfiler$Code;", true)
  | 1 => ("AllocationProfiler$Method", "woven", "LAllocationProfiler$Code;", true)
  | 2 => ("AllocationProfiler$Method", "sites", "[I", true)
  | 3 => ("AllocationProfiler$Method", "places", "[I", true)
  | _ => ("AllocationProfiler$Method", "excluded", "Z", false)
def t_Method : Nat → FieldType := fun k => match k with
  | 0 => .object "AllocationProfiler$Code"
  | 1 => .object "AllocationProfiler$Code"
  | 2 => .array .int
  | 3 => .array .int
  | _ => .boolean
theorem n_Method : ∀ a, a < 5 → ∀ b, b < 5 → a ≠ b → (T_Method a).2.1 ≠ (T_Method b).2.1 := by decide +kernel
theorem t_Method_ok : ∀ k, k < 5 → parseFieldDescriptor (T_Method k).2.2.1 = some (t_Method k) := by decide +kernel
def T_Strand : u_T := fun k => match k with
  | 0 => ("AllocationProfiler$Strand", "frames", "[LAllocationProfiler$Frame;", true)
  | 1 => ("AllocationProfiler$Strand", "number", "I", true)
  | 2 => ("AllocationProfiler$Strand", "active", "I", false)
  | 3 => ("AllocationProfiler$Strand", "ending", "I", false)
  | _ => ("AllocationProfiler$Strand", "outcome", "I", false)
def t_Strand : Nat → FieldType := fun k => match k with
  | 0 => .array (.object "AllocationProfiler$Frame")
  | 1 => .int
  | 2 => .int
  | 3 => .int
  | _ => .int
theorem n_Strand : ∀ a, a < 5 → ∀ b, b < 5 → a ≠ b → (T_Strand a).2.1 ≠ (T_Strand b).2.1 := by decide +kernel
theorem t_Strand_ok : ∀ k, k < 5 → parseFieldDescriptor (T_Strand k).2.2.1 = some (t_Strand k) := by decide +kernel
def T_Types : u_T := fun k => match k with
  | 0 => ("AllocationProfiler$Types", "ends", "[I", true)
  | _ => ("AllocationProfiler$Types", "known", "I", false)
def t_Types : Nat → FieldType := fun k => match k with
  | 0 => .array .int
  | _ => .int
theorem n_Types : ∀ a, a < 2 → ∀ b, b < 2 → a ≠ b → (T_Types a).2.1 ≠ (T_Types b).2.1 := by decide +kernel
theorem t_Types_ok : ∀ k, k < 2 → parseFieldDescriptor (T_Types k).2.2.1 = some (t_Types k) := by decide +kernel
def T_AP : u_T := fun k => match k with
  | 0 => ("AllocationProfiler", "machine", "LAllocationProfiler$Machine;", true)
  | 1 => ("AllocationProfiler", "types", "LAllocationProfiler$Types;", true)
  | 2 => ("AllocationProfiler", "methods", "[LAllocationProfiler$Method;", true)
  | 3 => ("AllocationProfiler", "heap", "LAllocationProfiler$Heap;", true)
  | 4 => ("AllocationProfiler", "ledger", "LAllocationProfiler$Ledger;", true)
  | 5 => ("AllocationProfiler", "draft", "LAllocationProfiler$Code;", true)
  | 6 => ("AllocationProfiler", "checker", "LAllocationProfiler$Checker;", true)
  | 7 => ("AllocationProfiler", "methodCount", "I", false)
  | 8 => ("AllocationProfiler", "faultPlace", "I", false)
  | _ => ("AllocationProfiler", "wasWoven", "Z", false)
def t_AP : Nat → FieldType := fun k => match k with
  | 0 => .object "AllocationProfiler$Machine"
  | 1 => .object "AllocationProfiler$Types"
  | 2 => .array (.object "AllocationProfiler$Method")
  | 3 => .object "AllocationProfiler$Heap"
  | 4 => .object "AllocationProfiler$Ledger"
  | 5 => .object "AllocationProfiler$Code"
  | 6 => .object "AllocationProfiler$Checker"
  | 7 => .int
  | 8 => .int
  | _ => .boolean
theorem n_AP : ∀ a, a < 10 → ∀ b, b < 10 → a ≠ b → (T_AP a).2.1 ≠ (T_AP b).2.1 := by decide +kernel
theorem t_AP_ok : ∀ k, k < 10 → parseFieldDescriptor (T_AP k).2.2.1 = some (t_AP k) := by decide +kernel
def T_Mo : u_T := fun k => match k with
  | 0 => ("AllocationProfilerModel", "thrown", "I", false)
  | 1 => ("AllocationProfilerModel", "types", "I", false)
  | 2 => ("AllocationProfilerModel", "end", "[I", true)
  | 3 => ("AllocationProfilerModel", "size", "[I", true)
  | 4 => ("AllocationProfilerModel", "drafted", "I", false)
  | 5 => ("AllocationProfilerModel", "op", "[I", true)
  | 6 => ("AllocationProfilerModel", "argument", "[I", true)
  | 7 => ("AllocationProfilerModel", "draftedRanges", "I", false)
  | 8 => ("AllocationProfilerModel", "range", "[I", true)
  | 9 => ("AllocationProfilerModel", "methods", "I", false)
  | 10 => ("AllocationProfilerModel", "fault", "I", false)
  | 11 => ("AllocationProfilerModel", "woven", "Z", false)
  | 12 => ("AllocationProfilerModel", "excluded", "[Z", true)
  | 13 => ("AllocationProfilerModel", "length", "[I", true)
  | 14 => ("AllocationProfilerModel", "ops", "[I", true)
  | 15 => ("AllocationProfilerModel", "arguments", "[I", true)
  | 16 => ("AllocationProfilerModel", "rangesOf", "[I", true)
  | 17 => ("AllocationProfilerModel", "ranges", "[I", true)
  | 18 => ("AllocationProfilerModel", "wovenLength", "[I", true)
  | 19 => ("AllocationProfilerModel", "wovenOps", "[I", true)
  | 20 => ("AllocationProfilerModel", "wovenArguments", "[I", true)
  | 21 => ("AllocationProfilerModel", "wovenRanges", "[I", true)
  | 22 => ("AllocationProfilerModel", "siteOf", "[I", true)
  | 23 => ("AllocationProfilerModel", "sites", "I", false)
  | 24 => ("AllocationProfilerModel", "reached", "[Z", true)
  | 25 => ("AllocationProfilerModel", "active", "[I", true)
  | 26 => ("AllocationProfilerModel", "state", "[I", true)
  | 27 => ("AllocationProfilerModel", "result", "[I", true)
  | 28 => ("AllocationProfilerModel", "methodOf", "[I", true)
  | 29 => ("AllocationProfilerModel", "at", "[I", true)
  | 30 => ("AllocationProfilerModel", "top", "[I", true)
  | 31 => ("AllocationProfilerModel", "locals", "[I", true)
  | 32 => ("AllocationProfilerModel", "stack", "[I", true)
  | 33 => ("AllocationProfilerModel", "turn", "I", false)
  | 34 => ("AllocationProfilerModel", "steps", "I", false)
  | 35 => ("AllocationProfilerModel", "objects", "I", false)
  | 36 => ("AllocationProfilerModel", "objectSize", "[I", true)
  | 37 => ("AllocationProfilerModel", "made", "[J", true)
  | 38 => ("AllocationProfilerModel", "bytes", "[J", true)
  | 39 => ("AllocationProfilerModel", "samples", "[I", true)
  | 40 => ("AllocationProfilerModel", "rates", "[F", true)
  | 41 => ("AllocationProfilerModel", "seen", "[J", true)
  | 42 => ("AllocationProfilerModel", "interval", "I", false)
  | 43 => ("AllocationProfilerModel", "countdown", "[I", true)
  | 44 => ("AllocationProfilerModel", "entries", "I", false)
  | 45 => ("AllocationProfilerModel", "entrySite", "[I", true)
  | 46 => ("AllocationProfilerModel", "entryStack", "[I", true)
  | _ => ("AllocationProfilerModel", "entryCount", "[I", true)
def t_Mo : Nat → FieldType := fun k => match k with
  | 0 => .int
  | 1 => .int
  | 2 => .array .int
  | 3 => .array .int
  | 4 => .int
  | 5 => .array .int
  | 6 => .array .int
  | 7 => .int
  | 8 => .array .int
  | 9 => .int
  | 10 => .int
  | 11 => .boolean
  | 12 => .array .boolean
  | 13 => .array .int
  | 14 => .array .int
  | 15 => .array .int
  | 16 => .array .int
  | 17 => .array .int
  | 18 => .array .int
  | 19 => .array .int
  | 20 => .array .int
  | 21 => .array .int
  | 22 => .array .int
  | 23 => .int
  | 24 => .array .boolean
  | 25 => .array .int
  | 26 => .array .int
  | 27 => .array .int
  | 28 => .array .int
  | 29 => .array .int
  | 30 => .array .int
  | 31 => .array .int
  | 32 => .array .int
  | 33 => .int
  | 34 => .int
  | 35 => .int
  | 36 => .array .int
  | 37 => .array .long
  | 38 => .array .long
  | 39 => .array .int
  | 40 => .array .float
  | 41 => .array .long
  | 42 => .int
  | 43 => .array .int
  | 44 => .int
  | 45 => .array .int
  | 46 => .array .int
  | _ => .array .int
theorem n_Mo : ∀ a, a < 48 → ∀ b, b < 48 → a ≠ b → (T_Mo a).2.1 ≠ (T_Mo b).2.1 := by decide +kernel
theorem t_Mo_ok : ∀ k, k < 48 → parseFieldDescriptor (T_Mo k).2.2.1 = some (t_Mo k) := by decide +kernel
abbrev classes : List vw_C := [(R_Checker, T_Checker, 3), (R_Code, T_Code, 7), (R_Frame, T_Frame, 5), (R_Heap, T_Heap, 2), (R_Ledger, T_Ledger, 12), (R_Machine, T_Machine, 7), (R_Method, T_Method, 5), (R_Strand, T_Strand, 5), (R_Types, T_Types, 2), (R_AP, T_AP, 10), (R_Mo, T_Mo, 48)]
abbrev b_AP_init : ByteArray := prog_1_method_1_code
def y_AP_init : MethodName := ⟨"AllocationProfiler", "<init>", "()V"⟩
abbrev b_Machine_init : ByteArray := prog_7_method_1_code
def y_Machine_init : MethodName := ⟨"AllocationProfiler$Machine", "<init>", "()V"⟩
abbrev b_Types_init : ByteArray := prog_10_method_1_code
def y_Types_init : MethodName := ⟨"AllocationProfiler$Types", "<init>", "()V"⟩
abbrev b_Heap_init : ByteArray := prog_5_method_1_code
def y_Heap_init : MethodName := ⟨"AllocationProfiler$Heap", "<init>", "()V"⟩
abbrev b_Ledger_init : ByteArray := prog_6_method_1_code
def y_Ledger_init : MethodName := ⟨"AllocationProfiler$Ledger", "<init>", "()V"⟩
abbrev b_Method_init : ByteArray := prog_8_method_1_code
def y_Method_init : MethodName := ⟨"AllocationProfiler$Method", "<init>", "()V"⟩
abbrev b_Code_init : ByteArray := prog_3_method_1_code
def y_Code_init : MethodName := ⟨"AllocationProfiler$Code", "<init>", "(I)V"⟩
abbrev b_Strand_init : ByteArray := prog_9_method_1_code
def y_Strand_init : MethodName := ⟨"AllocationProfiler$Strand", "<init>", "(I)V"⟩
abbrev b_Frame_init : ByteArray := prog_4_method_1_code
def y_Frame_init : MethodName := ⟨"AllocationProfiler$Frame", "<init>", "()V"⟩
abbrev b_Checker_init : ByteArray := prog_2_method_1_code
def y_Checker_init : MethodName := ⟨"AllocationProfiler$Checker", "<init>", "()V"⟩
abbrev b_AP_fault : ByteArray := prog_1_method_7_code
def y_AP_fault : MethodName := ⟨"AllocationProfiler", "fault", "()I"⟩
abbrev b_Law_type : ByteArray := method_3_code
def y_Law_type : MethodName := ⟨"AllocationProfilerLaw", "type", "(LAllocationProfiler;IIIII[J)I"⟩
abbrev b_AP_type : ByteArray := prog_1_method_2_code
def y_AP_type : MethodName := ⟨"AllocationProfiler", "type", "(IIIII)I"⟩
abbrev b_Types_has : ByteArray := prog_10_method_2_code
def y_Types_has : MethodName := ⟨"AllocationProfiler$Types", "has", "(I)Z"⟩
abbrev b_AP_isFieldCount : ByteArray := prog_1_method_27_code
def y_AP_isFieldCount : MethodName := ⟨"AllocationProfiler", "isFieldCount", "(I)Z"⟩
abbrev b_Types_isFull : ByteArray := prog_10_method_3_code
def y_Types_isFull : MethodName := ⟨"AllocationProfiler$Types", "isFull", "()Z"⟩
abbrev b_Types_add : ByteArray := prog_10_method_4_code
def y_Types_add : MethodName := ⟨"AllocationProfiler$Types", "add", "(IIIII)I"⟩
abbrev b_Types_endBehind : ByteArray := prog_10_method_6_code
def y_Types_endBehind : MethodName := ⟨"AllocationProfiler$Types", "endBehind", "(III)I"⟩
abbrev b_AP_nextMultiple : ByteArray := prog_1_method_33_code
def y_AP_nextMultiple : MethodName := ⟨"AllocationProfiler", "nextMultiple", "(JI)J"⟩
abbrev b_Law_size : ByteArray := method_4_code
def y_Law_size : MethodName := ⟨"AllocationProfilerLaw", "size", "(LAllocationProfiler;I[J)I"⟩
abbrev b_AP_size : ByteArray := prog_1_method_3_code
def y_AP_size : MethodName := ⟨"AllocationProfiler", "size", "(I)I"⟩
abbrev b_Types_sizeOf : ByteArray := prog_10_method_5_code
def y_Types_sizeOf : MethodName := ⟨"AllocationProfiler$Types", "sizeOf", "(I)I"⟩
abbrev b_Law_draft : ByteArray := method_5_code
def y_Law_draft : MethodName := ⟨"AllocationProfilerLaw", "draft", "(LAllocationProfiler;II[J)I"⟩
abbrev b_AP_draft : ByteArray := prog_1_method_4_code
def y_AP_draft : MethodName := ⟨"AllocationProfiler", "draft", "(II)I"⟩
abbrev b_Code_isFull : ByteArray := prog_3_method_4_code
def y_Code_isFull : MethodName := ⟨"AllocationProfiler$Code", "isFull", "()Z"⟩
abbrev b_Code_append : ByteArray := prog_3_method_7_code
def y_Code_append : MethodName := ⟨"AllocationProfiler$Code", "append", "(II)I"⟩
abbrev b_Law_range : ByteArray := method_6_code
def y_Law_range : MethodName := ⟨"AllocationProfilerLaw", "range", "(LAllocationProfiler;III[J)I"⟩
abbrev b_AP_range : ByteArray := prog_1_method_5_code
def y_AP_range : MethodName := ⟨"AllocationProfiler", "range", "(III)I"⟩
abbrev b_Code_hasAllRanges : ByteArray := prog_3_method_6_code
def y_Code_hasAllRanges : MethodName := ⟨"AllocationProfiler$Code", "hasAllRanges", "()Z"⟩
abbrev b_Code_appendRange : ByteArray := prog_3_method_8_code
def y_Code_appendRange : MethodName := ⟨"AllocationProfiler$Code", "appendRange", "(III)I"⟩
abbrev b_Law_define : ByteArray := method_7_code
def y_Law_define : MethodName := ⟨"AllocationProfilerLaw", "define", "(LAllocationProfiler;[J)I"⟩
abbrev b_AP_define : ByteArray := prog_1_method_6_code
def y_AP_define : MethodName := ⟨"AllocationProfiler", "define", "()I"⟩
abbrev b_Code_clear : ByteArray := prog_3_method_2_code
def y_Code_clear : MethodName := ⟨"AllocationProfiler$Code", "clear", "()V"⟩
abbrev b_Checker_faultOf : ByteArray := prog_2_method_2_code
def y_Checker_faultOf : MethodName := ⟨"AllocationProfiler$Checker", "faultOf", "(LAllocationProfiler$Code;LAllocationProfiler$Types;I)I"⟩
abbrev b_Checker_wrongArgument : ByteArray := prog_2_method_3_code
def y_Checker_wrongArgument : MethodName := ⟨"AllocationProfiler$Checker", "wrongArgument", "(LAllocationProfiler$Code;LAllocationProfiler$Types;I)I"⟩
abbrev b_Checker_fits : ByteArray := prog_2_method_4_code
def y_Checker_fits : MethodName := ⟨"AllocationProfiler$Checker", "fits", "(LAllocationProfiler$Code;ILAllocationProfiler$Types;I)Z"⟩
abbrev b_Code_operationAt : ByteArray := prog_3_method_10_code
def y_Code_operationAt : MethodName := ⟨"AllocationProfiler$Code", "operationAt", "(I)I"⟩
abbrev b_Code_has : ByteArray := prog_3_method_3_code
def y_Code_has : MethodName := ⟨"AllocationProfiler$Code", "has", "(I)Z"⟩
abbrev b_Code_argumentAt : ByteArray := prog_3_method_11_code
def y_Code_argumentAt : MethodName := ⟨"AllocationProfiler$Code", "argumentAt", "(I)I"⟩
abbrev b_AP_branches : ByteArray := prog_1_method_30_code
def y_AP_branches : MethodName := ⟨"AllocationProfiler", "branches", "(I)Z"⟩
abbrev b_AP_isLocal : ByteArray := prog_1_method_28_code
def y_AP_isLocal : MethodName := ⟨"AllocationProfiler", "isLocal", "(I)Z"⟩
abbrev b_AP_isWidth : ByteArray := prog_1_method_29_code
def y_AP_isWidth : MethodName := ⟨"AllocationProfiler", "isWidth", "(I)Z"⟩
abbrev b_Checker_openEnd : ByteArray := prog_2_method_5_code
def y_Checker_openEnd : MethodName := ⟨"AllocationProfiler$Checker", "openEnd", "(LAllocationProfiler$Code;)I"⟩
abbrev b_AP_closes : ByteArray := prog_1_method_32_code
def y_AP_closes : MethodName := ⟨"AllocationProfiler", "closes", "(I)Z"⟩
abbrev b_Checker_wrongRange : ByteArray := prog_2_method_6_code
def y_Checker_wrongRange : MethodName := ⟨"AllocationProfiler$Checker", "wrongRange", "(LAllocationProfiler$Code;)I"⟩
abbrev b_Checker_wrongDepth : ByteArray := prog_2_method_7_code
def y_Checker_wrongDepth : MethodName := ⟨"AllocationProfiler$Checker", "wrongDepth", "(LAllocationProfiler$Code;)I"⟩
abbrev b_Arrays_fill : ByteArray := prog_21_method_103_code
def y_Arrays_fill : MethodName := ⟨"java/util/Arrays", "fill", "([II)V"⟩
abbrev b_Checker_reach : ByteArray := prog_2_method_8_code
def y_Checker_reach : MethodName := ⟨"AllocationProfiler$Checker", "reach", "(II)V"⟩
abbrev b_Checker_follow : ByteArray := prog_2_method_9_code
def y_Checker_follow : MethodName := ⟨"AllocationProfiler$Checker", "follow", "(LAllocationProfiler$Code;II)V"⟩
abbrev b_Code_covers : ByteArray := prog_3_method_12_code
def y_Code_covers : MethodName := ⟨"AllocationProfiler$Code", "covers", "(II)Z"⟩
abbrev b_Checker_isReachedWrongly : ByteArray := prog_2_method_10_code
def y_Checker_isReachedWrongly : MethodName := ⟨"AllocationProfiler$Checker", "isReachedWrongly", "(II)Z"⟩
abbrev b_Integer_bitCount : ByteArray := prog_17_method_49_code
def y_Integer_bitCount : MethodName := ⟨"java/lang/Integer", "bitCount", "(I)I"⟩
abbrev b_Method_become : ByteArray := prog_8_method_2_code
def y_Method_become : MethodName := ⟨"AllocationProfiler$Method", "become", "(LAllocationProfiler$Code;)V"⟩
abbrev b_Code_copy : ByteArray := prog_3_method_9_code
def y_Code_copy : MethodName := ⟨"AllocationProfiler$Code", "copy", "(LAllocationProfiler$Code;)V"⟩
abbrev b_Law_exclude : ByteArray := method_8_code
def y_Law_exclude : MethodName := ⟨"AllocationProfilerLaw", "exclude", "(LAllocationProfiler;I)I"⟩
abbrev b_AP_exclude : ByteArray := prog_1_method_8_code
def y_AP_exclude : MethodName := ⟨"AllocationProfiler", "exclude", "(I)V"⟩
abbrev b_AP_needMethod : ByteArray := prog_1_method_24_code
def y_AP_needMethod : MethodName := ⟨"AllocationProfiler", "needMethod", "(I)V"⟩
abbrev b_Law_weave : ByteArray := method_9_code
def y_Law_weave : MethodName := ⟨"AllocationProfilerLaw", "weave", "(LAllocationProfiler;I[J)I"⟩
abbrev b_AP_weave : ByteArray := prog_1_method_9_code
def y_AP_weave : MethodName := ⟨"AllocationProfiler", "weave", "(I)I"⟩
abbrev b_Method_weaveFrom : ByteArray := prog_8_method_3_code
def y_Method_weaveFrom : MethodName := ⟨"AllocationProfiler$Method", "weaveFrom", "(I)I"⟩
abbrev b_Method_findPlaces : ByteArray := prog_8_method_4_code
def y_Method_findPlaces : MethodName := ⟨"AllocationProfiler$Method", "findPlaces", "()V"⟩
abbrev b_AP_makesObject : ByteArray := prog_1_method_31_code
def y_AP_makesObject : MethodName := ⟨"AllocationProfiler", "makesObject", "(I)Z"⟩
abbrev b_Method_placeOf : ByteArray := prog_8_method_5_code
def y_Method_placeOf : MethodName := ⟨"AllocationProfiler$Method", "placeOf", "(I)I"⟩
abbrev b_Ledger_open : ByteArray := prog_6_method_2_code
def y_Ledger_open : MethodName := ⟨"AllocationProfiler$Ledger", "open", "(II)V"⟩
abbrev b_Law_length : ByteArray := method_10_code
def y_Law_length : MethodName := ⟨"AllocationProfilerLaw", "length", "(LAllocationProfiler;IZ[J)I"⟩
abbrev b_AP_length : ByteArray := prog_1_method_10_code
def y_AP_length : MethodName := ⟨"AllocationProfiler", "length", "(IZ)I"⟩
abbrev b_Law_code : ByteArray := method_11_code
def y_Law_code : MethodName := ⟨"AllocationProfilerLaw", "code", "(LAllocationProfiler;III[J)I"⟩
abbrev b_AP_code : ByteArray := prog_1_method_11_code
def y_AP_code : MethodName := ⟨"AllocationProfiler", "code", "(III)I"⟩
abbrev b_Code_hasRange : ByteArray := prog_3_method_5_code
def y_Code_hasRange : MethodName := ⟨"AllocationProfiler$Code", "hasRange", "(I)Z"⟩
abbrev b_Code_part : ByteArray := prog_3_method_14_code
def y_Code_part : MethodName := ⟨"AllocationProfiler$Code", "part", "(II)I"⟩
abbrev b_Law_site : ByteArray := method_12_code
def y_Law_site : MethodName := ⟨"AllocationProfilerLaw", "site", "(LAllocationProfiler;II[J)I"⟩
abbrev b_AP_site : ByteArray := prog_1_method_12_code
def y_AP_site : MethodName := ⟨"AllocationProfiler", "site", "(II)I"⟩
abbrev b_Law_start : ByteArray := method_13_code
def y_Law_start : MethodName := ⟨"AllocationProfilerLaw", "start", "(LAllocationProfiler;III)I"⟩
abbrev b_AP_start : ByteArray := prog_1_method_13_code
def y_AP_start : MethodName := ⟨"AllocationProfiler", "start", "(III)V"⟩
abbrev b_AP_needThread : ByteArray := prog_1_method_26_code
def y_AP_needThread : MethodName := ⟨"AllocationProfiler", "needThread", "(I)V"⟩
abbrev b_Strand_isRunning : ByteArray := prog_9_method_2_code
def y_Strand_isRunning : MethodName := ⟨"AllocationProfiler$Strand", "isRunning", "()Z"⟩
abbrev b_Strand_enter : ByteArray := prog_9_method_5_code
def y_Strand_enter : MethodName := ⟨"AllocationProfiler$Strand", "enter", "(II)V"⟩
abbrev b_Strand_isDeep : ByteArray := prog_9_method_3_code
def y_Strand_isDeep : MethodName := ⟨"AllocationProfiler$Strand", "isDeep", "()Z"⟩
abbrev b_Frame_begin : ByteArray := prog_4_method_2_code
def y_Frame_begin : MethodName := ⟨"AllocationProfiler$Frame", "begin", "(II)V"⟩
abbrev b_Law_run : ByteArray := method_14_code
def y_Law_run : MethodName := ⟨"AllocationProfilerLaw", "run", "(LAllocationProfiler;I[J)I"⟩
abbrev b_AP_run : ByteArray := prog_1_method_14_code
def y_AP_run : MethodName := ⟨"AllocationProfiler", "run", "(I)I"⟩
abbrev b_Machine_step : ByteArray := prog_7_method_2_code
def y_Machine_step : MethodName := ⟨"AllocationProfiler$Machine", "step", "()Z"⟩
abbrev b_Machine_perform : ByteArray := prog_7_method_5_code
def y_Machine_perform : MethodName := ⟨"AllocationProfiler$Machine", "perform", "(LAllocationProfiler$Strand;)V"⟩
abbrev b_Strand_top : ByteArray := prog_9_method_7_code
def y_Strand_top : MethodName := ⟨"AllocationProfiler$Strand", "top", "()LAllocationProfiler$Frame;"⟩
abbrev b_Machine_codeOf : ByteArray := prog_7_method_4_code
def y_Machine_codeOf : MethodName := ⟨"AllocationProfiler$Machine", "codeOf", "(LAllocationProfiler$Frame;)LAllocationProfiler$Code;"⟩
abbrev b_Frame_branch : ByteArray := prog_4_method_7_code
def y_Frame_branch : MethodName := ⟨"AllocationProfiler$Frame", "branch", "(II)V"⟩
abbrev b_Frame_pop : ByteArray := prog_4_method_4_code
def y_Frame_pop : MethodName := ⟨"AllocationProfiler$Frame", "pop", "()I"⟩
abbrev b_Machine_make : ByteArray := prog_7_method_7_code
def y_Machine_make : MethodName := ⟨"AllocationProfiler$Machine", "make", "(LAllocationProfiler$Strand;J)V"⟩
abbrev b_Heap_make : ByteArray := prog_5_method_2_code
def y_Heap_make : MethodName := ⟨"AllocationProfiler$Heap", "make", "(J)I"⟩
abbrev b_Machine_raise : ByteArray := prog_7_method_10_code
def y_Machine_raise : MethodName := ⟨"AllocationProfiler$Machine", "raise", "(LAllocationProfiler$Strand;I)V"⟩
abbrev b_Code_handlerFor : ByteArray := prog_3_method_13_code
def y_Code_handlerFor : MethodName := ⟨"AllocationProfiler$Code", "handlerFor", "(I)I"⟩
abbrev b_Frame_catchAt : ByteArray := prog_4_method_5_code
def y_Frame_catchAt : MethodName := ⟨"AllocationProfiler$Frame", "catchAt", "(II)V"⟩
abbrev b_Frame_push : ByteArray := prog_4_method_3_code
def y_Frame_push : MethodName := ⟨"AllocationProfiler$Frame", "push", "(I)V"⟩
abbrev b_Strand_leave : ByteArray := prog_9_method_6_code
def y_Strand_leave : MethodName := ⟨"AllocationProfiler$Strand", "leave", "()V"⟩
abbrev b_Strand_end : ByteArray := prog_9_method_8_code
def y_Strand_end : MethodName := ⟨"AllocationProfiler$Strand", "end", "(II)V"⟩
abbrev b_Strand_stackNumber : ByteArray := prog_9_method_9_code
def y_Strand_stackNumber : MethodName := ⟨"AllocationProfiler$Strand", "stackNumber", "()I"⟩
abbrev b_Ledger_report : ByteArray := prog_6_method_3_code
def y_Ledger_report : MethodName := ⟨"AllocationProfiler$Ledger", "report", "(IIII)V"⟩
abbrev b_Ledger_drawSamples : ByteArray := prog_6_method_11_code
def y_Ledger_drawSamples : MethodName := ⟨"AllocationProfiler$Ledger", "drawSamples", "(II)I"⟩
abbrev b_Ledger_countInEntry : ByteArray := prog_6_method_12_code
def y_Ledger_countInEntry : MethodName := ⟨"AllocationProfiler$Ledger", "countInEntry", "(III)V"⟩
abbrev b_Ledger_entryOf : ByteArray := prog_6_method_13_code
def y_Ledger_entryOf : MethodName := ⟨"AllocationProfiler$Ledger", "entryOf", "(II)I"⟩
abbrev b_Machine_arraySize : ByteArray := prog_7_method_6_code
def y_Machine_arraySize : MethodName := ⟨"AllocationProfiler$Machine", "arraySize", "(II)J"⟩
abbrev b_Machine_callMethod : ByteArray := prog_7_method_8_code
def y_Machine_callMethod : MethodName := ⟨"AllocationProfiler$Machine", "callMethod", "(LAllocationProfiler$Strand;II)V"⟩
abbrev b_Machine_giveBack : ByteArray := prog_7_method_9_code
def y_Machine_giveBack : MethodName := ⟨"AllocationProfiler$Machine", "giveBack", "(LAllocationProfiler$Strand;I)V"⟩
abbrev b_Frame_compute : ByteArray := prog_4_method_6_code
def y_Frame_compute : MethodName := ⟨"AllocationProfiler$Frame", "compute", "(II)V"⟩
abbrev b_Frame_store : ByteArray := prog_4_method_8_code
def y_Frame_store : MethodName := ⟨"AllocationProfiler$Frame", "store", "(II)V"⟩
abbrev b_Frame_duplicate : ByteArray := prog_4_method_9_code
def y_Frame_duplicate : MethodName := ⟨"AllocationProfiler$Frame", "duplicate", "()V"⟩
abbrev b_Frame_combine : ByteArray := prog_4_method_10_code
def y_Frame_combine : MethodName := ⟨"AllocationProfiler$Frame", "combine", "(I)V"⟩
abbrev b_Machine_countStep : ByteArray := prog_7_method_3_code
def y_Machine_countStep : MethodName := ⟨"AllocationProfiler$Machine", "countStep", "()V"⟩
abbrev b_Ledger_fade : ByteArray := prog_6_method_4_code
def y_Ledger_fade : MethodName := ⟨"AllocationProfiler$Ledger", "fade", "()V"⟩
abbrev b_Law_state : ByteArray := method_15_code
def y_Law_state : MethodName := ⟨"AllocationProfilerLaw", "state", "(LAllocationProfiler;I[J)I"⟩
abbrev b_AP_state : ByteArray := prog_1_method_15_code
def y_AP_state : MethodName := ⟨"AllocationProfiler", "state", "(I)I"⟩
abbrev b_Strand_condition : ByteArray := prog_9_method_4_code
def y_Strand_condition : MethodName := ⟨"AllocationProfiler$Strand", "condition", "()I"⟩
abbrev b_Law_result : ByteArray := method_16_code
def y_Law_result : MethodName := ⟨"AllocationProfilerLaw", "result", "(LAllocationProfiler;I[J)I"⟩
abbrev b_AP_result : ByteArray := prog_1_method_16_code
def y_AP_result : MethodName := ⟨"AllocationProfiler", "result", "(I)I"⟩
abbrev b_Law_object : ByteArray := method_17_code
def y_Law_object : MethodName := ⟨"AllocationProfilerLaw", "object", "(LAllocationProfiler;I[J)I"⟩
abbrev b_AP_object : ByteArray := prog_1_method_17_code
def y_AP_object : MethodName := ⟨"AllocationProfiler", "object", "(I)I"⟩
abbrev b_Heap_sizeOf : ByteArray := prog_5_method_3_code
def y_Heap_sizeOf : MethodName := ⟨"AllocationProfiler$Heap", "sizeOf", "(I)I"⟩
abbrev b_Law_count : ByteArray := method_18_code
def y_Law_count : MethodName := ⟨"AllocationProfilerLaw", "count", "(LAllocationProfiler;III[J)I"⟩
abbrev b_AP_count : ByteArray := prog_1_method_18_code
def y_AP_count : MethodName := ⟨"AllocationProfiler", "count", "(III)J"⟩
abbrev b_AP_needSite : ByteArray := prog_1_method_25_code
def y_AP_needSite : MethodName := ⟨"AllocationProfiler", "needSite", "(I)V"⟩
abbrev b_Ledger_objectsOf : ByteArray := prog_6_method_5_code
def y_Ledger_objectsOf : MethodName := ⟨"AllocationProfiler$Ledger", "objectsOf", "(II)J"⟩
abbrev b_Ledger_bytesOf : ByteArray := prog_6_method_6_code
def y_Ledger_bytesOf : MethodName := ⟨"AllocationProfiler$Ledger", "bytesOf", "(II)J"⟩
abbrev b_Law_entry : ByteArray := method_19_code
def y_Law_entry : MethodName := ⟨"AllocationProfilerLaw", "entry", "(LAllocationProfiler;II[J)I"⟩
abbrev b_AP_entry : ByteArray := prog_1_method_19_code
def y_AP_entry : MethodName := ⟨"AllocationProfiler", "entry", "(II)I"⟩
abbrev b_Law_rate : ByteArray := method_20_code
def y_Law_rate : MethodName := ⟨"AllocationProfilerLaw", "rate", "(LAllocationProfiler;I[D)I"⟩
abbrev b_AP_rate : ByteArray := prog_1_method_20_code
def y_AP_rate : MethodName := ⟨"AllocationProfiler", "rate", "(I)F"⟩
abbrev b_Law_share : ByteArray := method_21_code
def y_Law_share : MethodName := ⟨"AllocationProfilerLaw", "share", "(LAllocationProfiler;I[D)I"⟩
abbrev b_AP_share : ByteArray := prog_1_method_21_code
def y_AP_share : MethodName := ⟨"AllocationProfiler", "share", "(I)F"⟩
abbrev b_Ledger_shareOf : ByteArray := prog_6_method_7_code
def y_Ledger_shareOf : MethodName := ⟨"AllocationProfiler$Ledger", "shareOf", "(I)F"⟩
abbrev b_Ledger_bytesOfAll : ByteArray := prog_6_method_9_code
def y_Ledger_bytesOfAll : MethodName := ⟨"AllocationProfiler$Ledger", "bytesOfAll", "()J"⟩
abbrev b_Law_estimate : ByteArray := method_22_code
def y_Law_estimate : MethodName := ⟨"AllocationProfilerLaw", "estimate", "(LAllocationProfiler;I[D)I"⟩
abbrev b_AP_estimate : ByteArray := prog_1_method_22_code
def y_AP_estimate : MethodName := ⟨"AllocationProfiler", "estimate", "(I)D"⟩
abbrev b_Ledger_estimateOf : ByteArray := prog_6_method_8_code
def y_Ledger_estimateOf : MethodName := ⟨"AllocationProfiler$Ledger", "estimateOf", "(I)D"⟩
abbrev b_Ledger_samplesOfAll : ByteArray := prog_6_method_10_code
def y_Ledger_samplesOfAll : MethodName := ⟨"AllocationProfiler$Ledger", "samplesOfAll", "()J"⟩
abbrev b_Law_rounded : ByteArray := method_23_code
def y_Law_rounded : MethodName := ⟨"AllocationProfilerLaw", "rounded", "(LAllocationProfiler;I[J)I"⟩
abbrev b_AP_rounded : ByteArray := prog_1_method_23_code
def y_AP_rounded : MethodName := ⟨"AllocationProfiler", "rounded", "(I)J"⟩
abbrev b_Mo_init : ByteArray := prog_12_method_1_code
def y_Mo_init : MethodName := ⟨"AllocationProfilerModel", "<init>", "()V"⟩
abbrev b_Mo_thrown : ByteArray := prog_12_method_2_code
def y_Mo_thrown : MethodName := ⟨"AllocationProfilerModel", "thrown", "()I"⟩
abbrev b_Mo_type : ByteArray := prog_12_method_6_code
def y_Mo_type : MethodName := ⟨"AllocationProfilerModel", "type", "(IIIII)I"⟩
abbrev b_Mo_out : ByteArray := prog_12_method_3_code
def y_Mo_out : MethodName := ⟨"AllocationProfilerModel", "out", "(II)Z"⟩
abbrev b_Mo_upTo : ByteArray := prog_12_method_5_code
def y_Mo_upTo : MethodName := ⟨"AllocationProfilerModel", "upTo", "(II)I"⟩
abbrev b_Mo_size : ByteArray := prog_12_method_7_code
def y_Mo_size : MethodName := ⟨"AllocationProfilerModel", "size", "(I)I"⟩
abbrev b_Mo_fail : ByteArray := prog_12_method_4_code
def y_Mo_fail : MethodName := ⟨"AllocationProfilerModel", "fail", "(I)I"⟩
abbrev b_Mo_draft : ByteArray := prog_12_method_8_code
def y_Mo_draft : MethodName := ⟨"AllocationProfilerModel", "draft", "(II)I"⟩
abbrev b_Mo_range : ByteArray := prog_12_method_9_code
def y_Mo_range : MethodName := ⟨"AllocationProfilerModel", "range", "(III)I"⟩
abbrev b_Mo_define : ByteArray := prog_12_method_20_code
def y_Mo_define : MethodName := ⟨"AllocationProfilerModel", "define", "()I"⟩
abbrev b_Mo_malformed : ByteArray := prog_12_method_19_code
def y_Mo_malformed : MethodName := ⟨"AllocationProfilerModel", "malformed", "()I"⟩
abbrev b_Mo_fits : ByteArray := prog_12_method_15_code
def y_Mo_fits : MethodName := ⟨"AllocationProfilerModel", "fits", "(II)Z"⟩
abbrev b_Mo_jumps : ByteArray := prog_12_method_10_code
def y_Mo_jumps : MethodName := ⟨"AllocationProfilerModel", "jumps", "(I)Z"⟩
abbrev b_Mo_goesOn : ByteArray := prog_12_method_11_code
def y_Mo_goesOn : MethodName := ⟨"AllocationProfilerModel", "goesOn", "(I)Z"⟩
abbrev b_Mo_badDepth : ByteArray := prog_12_method_18_code
def y_Mo_badDepth : MethodName := ⟨"AllocationProfilerModel", "badDepth", "()I"⟩
abbrev b_Mo_follow : ByteArray := prog_12_method_17_code
def y_Mo_follow : MethodName := ⟨"AllocationProfilerModel", "follow", "(II)Z"⟩
abbrev b_Mo_takes : ByteArray := prog_12_method_13_code
def y_Mo_takes : MethodName := ⟨"AllocationProfilerModel", "takes", "(I)I"⟩
abbrev b_Mo_puts : ByteArray := prog_12_method_14_code
def y_Mo_puts : MethodName := ⟨"AllocationProfilerModel", "puts", "(I)I"⟩
abbrev b_Mo_reach : ByteArray := prog_12_method_16_code
def y_Mo_reach : MethodName := ⟨"AllocationProfilerModel", "reach", "(II)Z"⟩
abbrev b_Mo_same : ByteArray := prog_12_method_21_code
def y_Mo_same : MethodName := ⟨"AllocationProfilerModel", "same", "(I)V"⟩
abbrev b_Mo_fault : ByteArray := prog_12_method_22_code
def y_Mo_fault : MethodName := ⟨"AllocationProfilerModel", "fault", "()I"⟩
abbrev b_Mo_exclude : ByteArray := prog_12_method_23_code
def y_Mo_exclude : MethodName := ⟨"AllocationProfilerModel", "exclude", "(I)V"⟩
abbrev b_Mo_weave : ByteArray := prog_12_method_26_code
def y_Mo_weave : MethodName := ⟨"AllocationProfilerModel", "weave", "(I)I"⟩
abbrev b_Mo_weaveOne : ByteArray := prog_12_method_25_code
def y_Mo_weaveOne : MethodName := ⟨"AllocationProfilerModel", "weaveOne", "(I)V"⟩
abbrev b_Mo_moved : ByteArray := prog_12_method_24_code
def y_Mo_moved : MethodName := ⟨"AllocationProfilerModel", "moved", "(II)I"⟩
abbrev b_Mo_makes : ByteArray := prog_12_method_12_code
def y_Mo_makes : MethodName := ⟨"AllocationProfilerModel", "makes", "(I)Z"⟩
abbrev b_Mo_length : ByteArray := prog_12_method_27_code
def y_Mo_length : MethodName := ⟨"AllocationProfilerModel", "length", "(IZ)I"⟩
abbrev b_Mo_code : ByteArray := prog_12_method_28_code
def y_Mo_code : MethodName := ⟨"AllocationProfilerModel", "code", "(III)I"⟩
abbrev b_Mo_site : ByteArray := prog_12_method_29_code
def y_Mo_site : MethodName := ⟨"AllocationProfilerModel", "site", "(II)I"⟩
abbrev b_Mo_start : ByteArray := prog_12_method_31_code
def y_Mo_start : MethodName := ⟨"AllocationProfilerModel", "start", "(III)V"⟩
abbrev b_Mo_enter : ByteArray := prog_12_method_30_code
def y_Mo_enter : MethodName := ⟨"AllocationProfilerModel", "enter", "(III)V"⟩
abbrev b_Mo_run : ByteArray := prog_12_method_46_code
def y_Mo_run : MethodName := ⟨"AllocationProfilerModel", "run", "(I)I"⟩
abbrev b_Mo_next : ByteArray := prog_12_method_45_code
def y_Mo_next : MethodName := ⟨"AllocationProfilerModel", "next", "()I"⟩
abbrev b_Mo_execute : ByteArray := prog_12_method_41_code
def y_Mo_execute : MethodName := ⟨"AllocationProfilerModel", "execute", "(I)V"⟩
abbrev b_Mo_push : ByteArray := prog_12_method_32_code
def y_Mo_push : MethodName := ⟨"AllocationProfilerModel", "push", "(II)V"⟩
abbrev b_Mo_pop : ByteArray := prog_12_method_33_code
def y_Mo_pop : MethodName := ⟨"AllocationProfilerModel", "pop", "(I)I"⟩
abbrev b_Mo_reckon : ByteArray := prog_12_method_42_code
def y_Mo_reckon : MethodName := ⟨"AllocationProfilerModel", "reckon", "(III)V"⟩
abbrev b_Mo_allocate : ByteArray := prog_12_method_39_code
def y_Mo_allocate : MethodName := ⟨"AllocationProfilerModel", "allocate", "(IIJ)V"⟩
abbrev b_Mo_raise : ByteArray := prog_12_method_35_code
def y_Mo_raise : MethodName := ⟨"AllocationProfilerModel", "raise", "(II)V"⟩
abbrev b_Mo_handler : ByteArray := prog_12_method_34_code
def y_Mo_handler : MethodName := ⟨"AllocationProfilerModel", "handler", "(II)I"⟩
abbrev b_Mo_report : ByteArray := prog_12_method_37_code
def y_Mo_report : MethodName := ⟨"AllocationProfilerModel", "report", "(III)V"⟩
abbrev b_Mo_stackOf : ByteArray := prog_12_method_36_code
def y_Mo_stackOf : MethodName := ⟨"AllocationProfilerModel", "stackOf", "(I)I"⟩
abbrev b_Mo_sample : ByteArray := prog_12_method_38_code
def y_Mo_sample : MethodName := ⟨"AllocationProfilerModel", "sample", "(II)V"⟩
abbrev b_Mo_take : ByteArray := prog_12_method_43_code
def y_Mo_take : MethodName := ⟨"AllocationProfilerModel", "take", "(IIIII)V"⟩
abbrev b_Mo_arraySize : ByteArray := prog_12_method_40_code
def y_Mo_arraySize : MethodName := ⟨"AllocationProfilerModel", "arraySize", "(II)J"⟩
abbrev b_Mo_leave : ByteArray := prog_12_method_44_code
def y_Mo_leave : MethodName := ⟨"AllocationProfilerModel", "leave", "(II)V"⟩
abbrev b_Mo_fade : ByteArray := prog_12_method_47_code
def y_Mo_fade : MethodName := ⟨"AllocationProfilerModel", "fade", "()V"⟩
abbrev b_Mo_all : ByteArray := prog_12_method_48_code
def y_Mo_all : MethodName := ⟨"AllocationProfilerModel", "all", "([JI)J"⟩
abbrev b_Mo_state : ByteArray := prog_12_method_49_code
def y_Mo_state : MethodName := ⟨"AllocationProfilerModel", "state", "(I)I"⟩
abbrev b_Mo_result : ByteArray := prog_12_method_50_code
def y_Mo_result : MethodName := ⟨"AllocationProfilerModel", "result", "(I)I"⟩
abbrev b_Mo_object : ByteArray := prog_12_method_51_code
def y_Mo_object : MethodName := ⟨"AllocationProfilerModel", "object", "(I)I"⟩
abbrev b_Mo_count : ByteArray := prog_12_method_52_code
def y_Mo_count : MethodName := ⟨"AllocationProfilerModel", "count", "(III)J"⟩
abbrev b_Mo_entry : ByteArray := prog_12_method_53_code
def y_Mo_entry : MethodName := ⟨"AllocationProfilerModel", "entry", "(II)I"⟩
abbrev b_Mo_rate : ByteArray := prog_12_method_54_code
def y_Mo_rate : MethodName := ⟨"AllocationProfilerModel", "rate", "(I)F"⟩
abbrev b_Mo_share : ByteArray := prog_12_method_56_code
def y_Mo_share : MethodName := ⟨"AllocationProfilerModel", "share", "(I)F"⟩
abbrev b_Mo_allBytes : ByteArray := prog_12_method_55_code
def y_Mo_allBytes : MethodName := ⟨"AllocationProfilerModel", "allBytes", "()J"⟩
abbrev b_Mo_estimate : ByteArray := prog_12_method_58_code
def y_Mo_estimate : MethodName := ⟨"AllocationProfilerModel", "estimate", "(I)D"⟩
abbrev b_Mo_estimated : ByteArray := prog_12_method_57_code
def y_Mo_estimated : MethodName := ⟨"AllocationProfilerModel", "estimated", "(I)D"⟩
abbrev b_Mo_rounded : ByteArray := prog_12_method_59_code
def y_Mo_rounded : MethodName := ⟨"AllocationProfilerModel", "rounded", "(I)J"⟩
/-- the words of the tables that stay true under warmer tables; those on nest mates -/
def gT : List Cond := lw_tbl.filter goodWord
def isNest (w : Cond) : Bool := match w with
  | .fieldLinkNest .. => true
  | .methodLinkNest .. => true
  | _ => false
def nW : List Cond := lw_tbl.filter isNest
theorem gT_in {w : Cond} (i : Nat) (h : tables_1[i]? = some w) (hg : goodWord w = true) : w ∈ gT := List.mem_filter.mpr ⟨List.mem_append_right _ (List.mem_of_getElem? h), hg⟩
theorem nW_in {w : Cond} (i : Nat) (h : tables_1[i]? = some w) (hg : isNest w = true) : w ∈ nW := List.mem_filter.mpr ⟨List.mem_append_right _ (List.mem_of_getElem? h), hg⟩
theorem gT_pv {w : Cond} (i : Nat) (h : (k2_sels lw_privs)[i]? = some w) (hg : goodWord w = true) : w ∈ gT := List.mem_filter.mpr ⟨List.mem_append_left _ (List.mem_of_getElem? h), hg⟩
theorem gT_good {w : Cond} (h : w ∈ gT) : (w.onTables && w.keeps) = true ∨ ∃ ty, w = .arrayClass ty := good_of_word (List.mem_filter.mp h).2
set_option maxRecDepth 20000 in
theorem i_Checker : ∀ w ∈ u_ws R_Checker T_Checker 3, w ∈ gT := by
  intro w hw
  obtain ⟨k, hk, rfl⟩ := List.mem_map.mp hw
  have hk := List.mem_range.mp hk
  match k, hk with
  | 0, _ => exact gT_in 278 (by decide +kernel) rfl
  | 1, _ => exact gT_in 280 (by decide +kernel) rfl
  | 2, _ => exact gT_in 282 (by decide +kernel) rfl
  | k + 3, hk => omega
set_option maxRecDepth 20000 in
theorem i_Code : ∀ w ∈ u_ws R_Code T_Code 7, w ∈ gT := by
  intro w hw
  obtain ⟨k, hk, rfl⟩ := List.mem_map.mp hw
  have hk := List.mem_range.mp hk
  match k, hk with
  | 0, _ => exact gT_in 154 (by decide +kernel) rfl
  | 1, _ => exact gT_in 156 (by decide +kernel) rfl
  | 2, _ => exact gT_in 158 (by decide +kernel) rfl
  | 3, _ => exact gT_in 160 (by decide +kernel) rfl
  | 4, _ => exact gT_in 162 (by decide +kernel) rfl
  | 5, _ => exact gT_in 164 (by decide +kernel) rfl
  | 6, _ => exact gT_in 166 (by decide +kernel) rfl
  | k + 7, hk => omega
set_option maxRecDepth 20000 in
theorem i_Frame : ∀ w ∈ u_ws R_Frame T_Frame 5, w ∈ gT := by
  intro w hw
  obtain ⟨k, hk, rfl⟩ := List.mem_map.mp hw
  have hk := List.mem_range.mp hk
  match k, hk with
  | 0, _ => exact gT_in 210 (by decide +kernel) rfl
  | 1, _ => exact gT_in 212 (by decide +kernel) rfl
  | 2, _ => exact gT_in 214 (by decide +kernel) rfl
  | 3, _ => exact gT_in 216 (by decide +kernel) rfl
  | 4, _ => exact gT_in 218 (by decide +kernel) rfl
  | k + 5, hk => omega
set_option maxRecDepth 20000 in
theorem i_Heap : ∀ w ∈ u_ws R_Heap T_Heap 2, w ∈ gT := by
  intro w hw
  obtain ⟨k, hk, rfl⟩ := List.mem_map.mp hw
  have hk := List.mem_range.mp hk
  match k, hk with
  | 0, _ => exact gT_in 60 (by decide +kernel) rfl
  | 1, _ => exact gT_in 62 (by decide +kernel) rfl
  | k + 2, hk => omega
set_option maxRecDepth 20000 in
theorem i_Ledger : ∀ w ∈ u_ws R_Ledger T_Ledger 12, w ∈ gT := by
  intro w hw
  obtain ⟨k, hk, rfl⟩ := List.mem_map.mp hw
  have hk := List.mem_range.mp hk
  match k, hk with
  | 0, _ => exact gT_in 94 (by decide +kernel) rfl
  | 1, _ => exact gT_in 96 (by decide +kernel) rfl
  | 2, _ => exact gT_in 98 (by decide +kernel) rfl
  | 3, _ => exact gT_in 100 (by decide +kernel) rfl
  | 4, _ => exact gT_in 102 (by decide +kernel) rfl
  | 5, _ => exact gT_in 104 (by decide +kernel) rfl
  | 6, _ => exact gT_in 106 (by decide +kernel) rfl
  | 7, _ => exact gT_in 108 (by decide +kernel) rfl
  | 8, _ => exact gT_in 110 (by decide +kernel) rfl
  | 9, _ => exact gT_in 112 (by decide +kernel) rfl
  | 10, _ => exact gT_in 114 (by decide +kernel) rfl
  | 11, _ => exact gT_in 116 (by decide +kernel) rfl
  | k + 12, hk => omega
set_option maxRecDepth 20000 in
theorem i_Machine : ∀ w ∈ u_ws R_Machine T_Machine 7, w ∈ gT := by
  intro w hw
  obtain ⟨k, hk, rfl⟩ := List.mem_map.mp hw
  have hk := List.mem_range.mp hk
  match k, hk with
  | 0, _ => exact gT_in 252 (by decide +kernel) rfl
  | 1, _ => exact gT_in 254 (by decide +kernel) rfl
  | 2, _ => exact gT_in 256 (by decide +kernel) rfl
  | 3, _ => exact gT_in 258 (by decide +kernel) rfl
  | 4, _ => exact gT_in 260 (by decide +kernel) rfl
  | 5, _ => exact gT_in 262 (by decide +kernel) rfl
  | 6, _ => exact gT_in 264 (by decide +kernel) rfl
  | k + 7, hk => omega
set_option maxRecDepth 20000 in
theorem i_Method : ∀ w ∈ u_ws R_Method T_Method 5, w ∈ gT := by
  intro w hw
  obtain ⟨k, hk, rfl⟩ := List.mem_map.mp hw
  have hk := List.mem_range.mp hk
  match k, hk with
  | 0, _ => exact gT_in 179 (by decide +kernel) rfl
  | 1, _ => exact gT_in 181 (by decide +kernel) rfl
  | 2, _ => exact gT_in 183 (by decide +kernel) rfl
  | 3, _ => exact gT_in 185 (by decide +kernel) rfl
  | 4, _ => exact gT_in 187 (by decide +kernel) rfl
  | k + 5, hk => omega
set_option maxRecDepth 20000 in
theorem i_Strand : ∀ w ∈ u_ws R_Strand T_Strand 5, w ∈ gT := by
  intro w hw
  obtain ⟨k, hk, rfl⟩ := List.mem_map.mp hw
  have hk := List.mem_range.mp hk
  match k, hk with
  | 0, _ => exact gT_in 229 (by decide +kernel) rfl
  | 1, _ => exact gT_in 231 (by decide +kernel) rfl
  | 2, _ => exact gT_in 233 (by decide +kernel) rfl
  | 3, _ => exact gT_in 235 (by decide +kernel) rfl
  | 4, _ => exact gT_in 237 (by decide +kernel) rfl
  | k + 5, hk => omega
set_option maxRecDepth 20000 in
theorem i_Types : ∀ w ∈ u_ws R_Types T_Types 2, w ∈ gT := by
  intro w hw
  obtain ⟨k, hk, rfl⟩ := List.mem_map.mp hw
  have hk := List.mem_range.mp hk
  match k, hk with
  | 0, _ => exact gT_in 43 (by decide +kernel) rfl
  | 1, _ => exact gT_in 45 (by decide +kernel) rfl
  | k + 2, hk => omega
set_option maxRecDepth 20000 in
theorem i_AP : ∀ w ∈ u_ws R_AP T_AP 10, w ∈ gT := by
  intro w hw
  obtain ⟨k, hk, rfl⟩ := List.mem_map.mp hw
  have hk := List.mem_range.mp hk
  match k, hk with
  | 0, _ => exact gT_in 295 (by decide +kernel) rfl
  | 1, _ => exact gT_in 297 (by decide +kernel) rfl
  | 2, _ => exact gT_in 299 (by decide +kernel) rfl
  | 3, _ => exact gT_in 301 (by decide +kernel) rfl
  | 4, _ => exact gT_in 303 (by decide +kernel) rfl
  | 5, _ => exact gT_in 305 (by decide +kernel) rfl
  | 6, _ => exact gT_in 307 (by decide +kernel) rfl
  | 7, _ => exact gT_in 309 (by decide +kernel) rfl
  | 8, _ => exact gT_in 311 (by decide +kernel) rfl
  | 9, _ => exact gT_in 313 (by decide +kernel) rfl
  | k + 10, hk => omega
set_option maxRecDepth 20000 in
theorem i_Mo : ∀ w ∈ u_ws R_Mo T_Mo 48, w ∈ gT := by
  intro w hw
  obtain ⟨k, hk, rfl⟩ := List.mem_map.mp hw
  have hk := List.mem_range.mp hk
  match k, hk with
  | 0, _ => exact gT_in 1025 (by decide +kernel) rfl
  | 1, _ => exact gT_in 1027 (by decide +kernel) rfl
  | 2, _ => exact gT_in 1029 (by decide +kernel) rfl
  | 3, _ => exact gT_in 1031 (by decide +kernel) rfl
  | 4, _ => exact gT_in 1033 (by decide +kernel) rfl
  | 5, _ => exact gT_in 1035 (by decide +kernel) rfl
  | 6, _ => exact gT_in 1037 (by decide +kernel) rfl
  | 7, _ => exact gT_in 1039 (by decide +kernel) rfl
  | 8, _ => exact gT_in 1041 (by decide +kernel) rfl
  | 9, _ => exact gT_in 1043 (by decide +kernel) rfl
  | 10, _ => exact gT_in 1045 (by decide +kernel) rfl
  | 11, _ => exact gT_in 1047 (by decide +kernel) rfl
  | 12, _ => exact gT_in 1049 (by decide +kernel) rfl
  | 13, _ => exact gT_in 1051 (by decide +kernel) rfl
  | 14, _ => exact gT_in 1053 (by decide +kernel) rfl
  | 15, _ => exact gT_in 1055 (by decide +kernel) rfl
  | 16, _ => exact gT_in 1057 (by decide +kernel) rfl
  | 17, _ => exact gT_in 1059 (by decide +kernel) rfl
  | 18, _ => exact gT_in 1061 (by decide +kernel) rfl
  | 19, _ => exact gT_in 1063 (by decide +kernel) rfl
  | 20, _ => exact gT_in 1065 (by decide +kernel) rfl
  | 21, _ => exact gT_in 1067 (by decide +kernel) rfl
  | 22, _ => exact gT_in 1069 (by decide +kernel) rfl
  | 23, _ => exact gT_in 1071 (by decide +kernel) rfl
  | 24, _ => exact gT_in 1073 (by decide +kernel) rfl
  | 25, _ => exact gT_in 1075 (by decide +kernel) rfl
  | 26, _ => exact gT_in 1077 (by decide +kernel) rfl
  | 27, _ => exact gT_in 1079 (by decide +kernel) rfl
  | 28, _ => exact gT_in 1081 (by decide +kernel) rfl
  | 29, _ => exact gT_in 1083 (by decide +kernel) rfl
  | 30, _ => exact gT_in 1085 (by decide +kernel) rfl
  | 31, _ => exact gT_in 1087 (by decide +kernel) rfl
  | 32, _ => exact gT_in 1089 (by decide +kernel) rfl
  | 33, _ => exact gT_in 1091 (by decide +kernel) rfl
  | 34, _ => exact gT_in 1093 (by decide +kernel) rfl
  | 35, _ => exact gT_in 1095 (by decide +kernel) rfl
  | 36, _ => exact gT_in 1097 (by decide +kernel) rfl
  | 37, _ => exact gT_in 1099 (by decide +kernel) rfl
  | 38, _ => exact gT_in 1101 (by decide +kernel) rfl
  | 39, _ => exact gT_in 1103 (by decide +kernel) rfl
  | 40, _ => exact gT_in 1105 (by decide +kernel) rfl
  | 41, _ => exact gT_in 1107 (by decide +kernel) rfl
  | 42, _ => exact gT_in 1109 (by decide +kernel) rfl
  | 43, _ => exact gT_in 1111 (by decide +kernel) rfl
  | 44, _ => exact gT_in 1113 (by decide +kernel) rfl
  | 45, _ => exact gT_in 1115 (by decide +kernel) rfl
  | 46, _ => exact gT_in 1117 (by decide +kernel) rfl
  | 47, _ => exact gT_in 1119 (by decide +kernel) rfl
  | k + 48, hk => omega
end
section
/-! the flat memory: cell k lies at base + k; what a cell is (its shape) and what its slots hold (the memory) -/
abbrev fm_Sh : Type := (FieldType × Nat) ⊕ (FieldType × List (Option Nat)) ⊕ (Nat × List (Option (Option Nat)))
abbrev fm_M : Type := (Nat → Nat → Int32) × (Nat → Nat → Int64) × (Nat → Nat → UInt32) × (Nat → Nat → UInt64)
abbrev fm_G : Type := va_G × (FieldType → ClassId) × Nat
def fm_A (b : Nat) : Nat → Prop := fun q => b ≤ q
def fm_vl (b : Nat) (x : Int32) (f : Option (Option Nat)) : Value := match f with
  | none => .int x
  | some none => .null
  | some (some r) => .ref (b + r)
def fm_fv (b : Nat) (I : Nat → Int32) (fl : List (Option (Option Nat))) : List Value := fl.mapIdx (fun j f => fm_vl b (I j) f)
def fm_nv (k : Nat) (ty : FieldType) (M : fm_M) : (Nat → Int32) ⊕ (Nat → Int64) ⊕ (Nat → UInt32) ⊕ (Nat → UInt64) ⊕ (Nat → Option Nat) := match ty with
  | .long => .inr (.inl (M.2.1 k))
  | .float => .inr (.inr (.inl (M.2.2.1 k)))
  | .double => .inr (.inr (.inr (.inl (M.2.2.2 k))))
  | _ => .inl (M.1 k)
def fm_ct (G : fm_G) (k : Nat) (x : fm_Sh) (M : fm_M) : va_E := match x with
  | .inl (ty, n) => .inl (G.2.1 ty, n, fm_nv k ty M)
  | .inr (.inl (ty, rs)) => .inl (G.2.1 ty, rs.length, .inr (.inr (.inr (.inr (fun j => (rs.getD j none).map (fun r => G.2.2 + r))))))
  | .inr (.inr (ci, fl)) => .inr (ci, fm_fv G.2.2 (M.1 k) fl)
def fm_wl (G : fm_G) (N : Nat) (sh : Nat → fm_Sh) (M : fm_M) : va_W := (List.range N).map (fun k => (G.2.2 + k, fm_ct G k (sh k) M))
def fm_P (G : fm_G) (N : Nat) (sh : Nat → fm_Sh) (M : fm_M) (H : Heap) : Prop := va_P G.1 classes (fm_wl G N sh M) H
def fm_tyL : List FieldType := [.int, .boolean, .long, .float, .double, .array .int, .array .long, .object "AllocationProfiler$Method", .object "AllocationProfiler$Strand", .object "AllocationProfiler$Frame"]
def fm_tys (G : fm_G) : List (ClassId × FieldType) := fm_tyL.map (fun t => (G.2.1 t, t))
/-- one slot is set -/
def fm_u {α : Type} (I : Nat → Nat → α) (k j : Nat) (v : α) : Nat → Nat → α := fun i n => if i = k ∧ n = j then v else I i n
def fm_sI (M : fm_M) (k j : Nat) (v : Int32) : fm_M := (fm_u M.1 k j v, M.2)
def fm_sJ (M : fm_M) (k j : Nat) (v : Int64) : fm_M := (M.1, fm_u M.2.1 k j v, M.2.2)
def fm_sF (M : fm_M) (k j : Nat) (v : UInt32) : fm_M := (M.1, M.2.1, fm_u M.2.2.1 k j v, M.2.2.2)
def fm_sD (M : fm_M) (k j : Nat) (v : UInt64) : fm_M := (M.1, M.2.1, M.2.2.1, fm_u M.2.2.2 k j v)
theorem fm_u_ne {α : Type} {I : Nat → Nat → α} {k j i : Nat} {v : α} (h : i ≠ k) : fm_u I k j v i = I i := by
  funext n
  simp [fm_u, h]
theorem fm_u_same {I : Nat → Nat → Int32} {k j : Nat} {v : Int32} : fm_u I k j v k = upd (I k) j v := by
  funext n
  simp [fm_u, upd]
theorem fm_u_sameL {I : Nat → Nat → Int64} {k j : Nat} {v : Int64} : fm_u I k j v k = vp_updL (I k) j v := by
  funext n
  simp [fm_u, vp_updL]
theorem fm_u_sameX {α : Type} {I : Nat → Nat → α} {k j : Nat} {v : α} : fm_u I k j v k = vf_upd (I k) j v := by
  funext n
  simp [fm_u, vf_upd]
theorem fm_get (G : fm_G) (sh : Nat → fm_Sh) (M : fm_M) {N k : Nat} (h : k < N) : (fm_wl G N sh M)[k]? = some (G.2.2 + k, fm_ct G k (sh k) M) := by
  simp [fm_wl, h]
theorem fm_D (G : fm_G) (N : Nat) (sh : Nat → fm_Sh) (M : fm_M) : va_D (fm_A G.2.2) (fm_wl G N sh M) := by
  have key : ∀ (k : Nat) (q : Nat × va_E), (fm_wl G N sh M)[k]? = some q → q.1 = G.2.2 + k := by
    intro k q hk
    have hl : k < N := by
      have := (List.getElem?_eq_some_iff.mp hk).1
      simpa [fm_wl] using this
    rw [fm_get G sh M hl] at hk
    cases hk
    rfl
  refine ⟨fun i j x y hi hj hxy => ?_, fun k q hk => ?_⟩
  · have h1 := key i x hi
    have h2 := key j y hj
    omega
  · rw [key k q hk]
    exact Nat.le_add_right _ _
theorem fm_set (G : fm_G) (sh : Nat → fm_Sh) (M M' : fm_M) {N k : Nat} {e : va_E} (hk : k < N) (he : fm_ct G k (sh k) M' = e) (ho : ∀ i, i ≠ k → fm_ct G i (sh i) M' = fm_ct G i (sh i) M) : (fm_wl G N sh M).set k (G.2.2 + k, e) = fm_wl G N sh M' := by
  apply List.ext_getElem?
  intro i
  by_cases hi : i < N
  · by_cases hik : i = k
    · subst hik
      rw [List.getElem?_set_self (by simpa [fm_wl] using hi), fm_get G sh M' hi, he]
    · rw [List.getElem?_set_ne (Ne.symm hik), fm_get G sh M hi, fm_get G sh M' hi, ho i hik]
  · rw [List.getElem?_eq_none (by simp [fm_wl]; omega), List.getElem?_eq_none (by simp [fm_wl]; omega)]
theorem fm_ct_I {G : fm_G} {x : fm_Sh} {M : fm_M} {k j i : Nat} {v : Int32} (h : i ≠ k) : fm_ct G i x (fm_sI M k j v) = fm_ct G i x M := by
  rcases x with ⟨ty, n⟩ | ⟨ty, rs⟩ | ⟨ci, fl⟩
  · simp only [fm_ct, fm_nv, fm_sI, fm_u_ne h]
  · rfl
  · simp only [fm_ct, fm_sI, fm_u_ne h]
theorem fm_ct_J {G : fm_G} {x : fm_Sh} {M : fm_M} {k j i : Nat} {v : Int64} (h : i ≠ k) : fm_ct G i x (fm_sJ M k j v) = fm_ct G i x M := by
  rcases x with ⟨ty, n⟩ | ⟨ty, rs⟩ | ⟨ci, fl⟩
  · simp only [fm_ct, fm_nv, fm_sJ, fm_u_ne h]
  · rfl
  · rfl
theorem fm_ct_F {G : fm_G} {x : fm_Sh} {M : fm_M} {k j i : Nat} {v : UInt32} (h : i ≠ k) : fm_ct G i x (fm_sF M k j v) = fm_ct G i x M := by
  rcases x with ⟨ty, n⟩ | ⟨ty, rs⟩ | ⟨ci, fl⟩
  · simp only [fm_ct, fm_nv, fm_sF, fm_u_ne h]
  · rfl
  · rfl
theorem fm_ct_D {G : fm_G} {x : fm_Sh} {M : fm_M} {k j i : Nat} {v : UInt64} (h : i ≠ k) : fm_ct G i x (fm_sD M k j v) = fm_ct G i x M := by
  rcases x with ⟨ty, n⟩ | ⟨ty, rs⟩ | ⟨ci, fl⟩
  · simp only [fm_ct, fm_nv, fm_sD, fm_u_ne h]
  · rfl
  · rfl
theorem fm_fv_set {b j : Nat} {I : Nat → Nat → Int32} {q : Nat} {fl : List (Option (Option Nat))} {v : Int32} (h : fl[j]? = some none) : (fm_fv b (I q) fl).set j (.int v) = fm_fv b (fm_u I q j v q) fl := by
  apply List.ext_getElem?
  intro i
  have hl : j < (fm_fv b (I q) fl).length := by
    have := (List.getElem?_eq_some_iff.mp h).1
    simpa [fm_fv] using this
  by_cases hi : i = j
  · subst hi
    rw [List.getElem?_set_self hl]
    simp [fm_fv, h, fm_vl, fm_u]
  · rw [List.getElem?_set_ne (Ne.symm hi)]
    simp [fm_fv, fm_u, hi]
theorem fm_fv_get {b j : Nat} {I : Nat → Int32} {fl : List (Option (Option Nat))} (h : fl[j]? = some none) : (fm_fv b I fl)[j]? = some (.int (I j)) := by
  simp [fm_fv, h, fm_vl]
theorem fm_fv_getr {b j r : Nat} {I : Nat → Int32} {fl : List (Option (Option Nat))} (h : fl[j]? = some (some (some r))) : (fm_fv b I fl)[j]? = some (.ref (b + r)) := by
  simp [fm_fv, h, fm_vl]
/-! what stays true of the tables and of what lies below the base -/
def fm_tk : List Int32 := [0, 0, 1, 2, 2, 2, 1, 1, 0, 1, 1, 0, 1, 1, 1, 1, 0]
def fm_pt : List Int32 := [1, 1, 0, 1, 1, 1, 2, 0, 0, 0, 0, 1, 1, 1, 0, 0, 0]
def fm_St (n : String) (vs : List Int32) (b : Nat) (t : Nat) (U : State) (H : Heap) : Prop := va_Z "AllocationProfiler" n "[I" (.ref t) (fm_A b) U H ∧ va_T .int t vs.length (fun j => .int (vs.getD j 0)) (fm_A b) U H
def fm_S (G : fm_G) (U : State) : Prop := va_K G.1 classes (fm_tys G) U ∧ (∀ w ∈ nW, va_Nw w U) ∧ (∃ t, fm_St "TAKES" fm_tk G.2.2 t U U.heap) ∧ (∃ t, fm_St "PUTS" fm_pt G.2.2 t U U.heap)
theorem fm_nest {w : Cond} {s U : State} (hw : isNest w = true) (hW : s.WarmedH U.vm) (h : va_Nw w s) : va_Nw w U := by
  cases w <;> first | exact va_Nw.warmF hW h | exact va_Nw.warmM hW h | cases hw
theorem fm_nestT {w : Cond} (hw : isNest w = true) : w.onTables = true := by
  cases w <;> first | rfl | cases hw
theorem fm_St.to {n : String} {vs : List Int32} {b t : Nat} {s U : State} {H : Heap} {locs : List Loc} (h : fm_St n vs b t s s.heap) (hW : s.vm.Alike U.vm) (hS : va_S (fm_A b) s.heap H locs) : fm_St n vs b t U H :=
  ⟨va_Z.moved hW (va_Z.kept h.1 hS.2.1), va_T.moved hW (va_T.kept h.2 hS.2.1)⟩
theorem fm_S.to {G : fm_G} {s U : State} {H : Heap} {locs : List Loc} (h : fm_S G s) (hU : U.heap = H) (hW : s.WarmedH U.vm) (hS : va_S (fm_A G.2.2) s.heap H locs) : fm_S G U := by
  obtain ⟨h1, h2, ⟨t1, h3⟩, t2, h4⟩ := h
  refine ⟨va_K.moved hW.alike h1, fun w hw => fm_nest (List.mem_filter.mp hw).2 hW (h2 w hw), ⟨t1, ?_⟩, t2, ?_⟩
  · rw [hU]
    exact h3.to hW.alike hS
  · rw [hU]
    exact h4.to hW.alike hS
theorem fm_S.blind {G : fm_G} {U : State} (g : JFrame) (mk : MethodId) (a : Array Value) (h : fm_S G U) : fm_S G (U.calling g mk a) := by
  obtain ⟨h1, h2, ⟨t1, h3⟩, t2, h4⟩ := h
  exact ⟨va_K.moved (u := U) (U := U.calling g mk a) (Vm.Alike.refl U.vm) h1, fun w hw => va_Nw.same (fm_nestT (List.mem_filter.mp hw).2) (u := U) (U := U.calling g mk a) rfl (h2 w hw),
    ⟨t1, va_Z.moved (u := U) (U := U.calling g mk a) (Vm.Alike.refl U.vm) h3.1, va_T.moved (u := U) (U := U.calling g mk a) (Vm.Alike.refl U.vm) h3.2⟩, t2, va_Z.moved (u := U) (U := U.calling g mk a) (Vm.Alike.refl U.vm) h4.1, va_T.moved (u := U) (U := U.calling g mk a) (Vm.Alike.refl U.vm) h4.2⟩
/-! a method's start and end -/
def fm_Pc (G : fm_G) (N : Nat) (sh : Nat → fm_Sh) (M : fm_M) (av : List Value) : Array Value → State → Prop := fun v U => v = av.toArray ∧ fm_S G U ∧ fm_P G N sh M U.heap
def fm_Q (G : fm_G) (N : Nat) (sh : Nat → fm_Sh) (v : Option Value) (M : fm_M) : Array Value → State → Outcome → State → Prop := fun _ st oc t => oc = .returned v ∧ fm_P G N sh M t.heap ∧ va_F (fm_A G.2.2) st t
theorem fm_blind (G : fm_G) (N : Nat) (sh : Nat → fm_Sh) (M : fm_M) (av : List Value) : FrameBlind (fm_Pc G N sh M av) := fun a U g mk h => ⟨h.1, h.2.1.blind g mk a, h.2.2⟩
def fm_W (y : MethodName) (cc : ByteArray) (n : Nat) (ret : Option FieldType) : List Cond := .code y cc n ret :: gT
/-- what a walk of the method rests on -/
def fm_C (p : Program) (s : State) (m : MethodId) (args : Array Value) (meth : Method) (c : Code) (G : fm_G) (w0 : Cond) (own : String) (cc : ByteArray) (nL : Nat) (ret : Option FieldType) : Prop :=
  p.tables.exec = Jvm.exec ∧ c.code = cc ∧ meth.sig.returnType = ret ∧ c.maxLocals = nL ∧ s.vm.findClass own = some m.cls ∧ (∀ w ∈ w0 :: gT, w.before args s = true) ∧ fm_S G s ∧ meth.locks = false
def fm_F (own : String) (idx ci k : Nat) : Prop := ∃ (C : String) (T : u_T) (N0 : Nat), classes[ci]? = some (C, T, N0) ∧ k < N0 ∧ (∀ w ∈ u_ws C T N0, w ∈ gT) ∧ (T k).1 = C ∧ (Cond.fieldLink own idx C (T k).2.1 (T k).2.2.1 ∈ gT ∨ ∃ host, Cond.fieldLinkNest own idx C (T k).2.1 (T k).2.2.1 host ∈ nW)
def fm_Fp (own : String) (idx ci k : Nat) (ty : FieldType) : Prop := ∃ (C : String) (T : u_T) (N0 : Nat) (t0 : Nat → FieldType), classes[ci]? = some (C, T, N0) ∧ k < N0 ∧ (∀ w ∈ u_ws C T N0, w ∈ gT) ∧ (T k).1 = C ∧ (∀ k, k < N0 → parseFieldDescriptor (T k).2.2.1 = some (t0 k)) ∧ (∀ a, a < N0 → ∀ b, b < N0 → a ≠ b → (T a).2.1 ≠ (T b).2.1) ∧ t0 k = ty ∧ (T k).2.2.2 = false ∧ (Cond.fieldLink own idx C (T k).2.1 (T k).2.2.1 ∈ gT ∨ ∃ host, Cond.fieldLinkNest own idx C (T k).2.1 (T k).2.2.1 host ∈ nW)
section ROWS
variable {p : Program} {l : Launch} {e : Env} {R : Room} {s : State} {m : MethodId} {args : Array Value} {below : List Frame} {meth : Method} {c : Code} {H : Heap} {locs : List Loc} {cells slots : Nat} {Q : State → Prop}
variable {cc : ByteArray} {pc : Nat} {ls : Array Slot} {rest : List Value} {G : fm_G} {N : Nat} {sh : Nat → fm_Sh} {M : fm_M} {q : Nat} {w0 : Cond} {own : String} {nL : Nat} {ret : Option FieldType}
theorem r_get (C0 : fm_C p s m args meth c G w0 own cc nL ret) {idx ci k : Nat} (hF : fm_F own idx ci k) (hP : fm_P G N sh M H) (hq : q < N) {fl : List (Option (Option Nat))} (hs : sh q = .inr (.inr (ci, fl))) {v : Value} (hv : (fm_fv G.2.2 (M.1 q) fl)[k]? = some v) (hdg : decode cc pc = .ok (.getfield idx, 3))
    (kk : W p l e R s m args below meth c H locs cells slots Q (F0 m (pc + 3) ls (v :: rest))) : W p l e R s m args below meth c H locs cells slots Q (F0 m pc ls (.ref (G.2.2 + q) :: rest)) := by
  obtain ⟨hx, hb, -, -, hown, hts, hSx, -⟩ := C0
  obtain ⟨C, T, N0, hc, hk, hin, h1, hl⟩ := hF
  have he : (fm_wl G N sh M)[q]? = some (G.2.2 + q, .inr (ci, fm_fv G.2.2 (M.1 q) fl)) := by
    rw [fm_get G sh M hq, hs]
    rfl
  rcases hl with hl | ⟨host, hl⟩
  · exact va_get (ref := C) hx hb hts (fun w hw => List.mem_cons_of_mem _ (hin w hw)) hown hSx.1 hP q he hc k hk (hts _ (List.mem_cons_of_mem _ hl)) (fun x h => by rw [h1] at h; exact h) hv hdg kk
  · exact va_getN (ref := C) (host := host) hx hb hts (fun w hw => List.mem_cons_of_mem _ (hin w hw)) hown hSx.1 hP q he hc k hk (va_Nw.use rfl (hSx.2.1 _ hl)) (fun x h => by rw [h1] at h; exact h) hv hdg kk
theorem r_put (C0 : fm_C p s m args meth c G w0 own cc nL ret) {idx ci k : Nat} {ty : FieldType} (hF : fm_Fp own idx ci k ty) (hP : fm_P G N sh M H) (hS : va_S (fm_A G.2.2) s.heap H locs) (hq : q < N) {fl : List (Option (Option Nat))} (hs : sh q = .inr (.inr (ci, fl))) (hf : fl[k]? = some none) {v : Int32} (hn : narrow ty (.int v) = .int v) (hfit : fits ty (.int v) = true) (hdg : decode cc pc = .ok (.putfield idx, 3))
    (kk : ∀ (H1 : Heap) (locs1 : List Loc), fm_P G N sh (fm_sI M q k v) H1 → va_S (fm_A G.2.2) s.heap H1 locs1 → W p l e R s m args below meth c H1 locs1 cells slots Q (F0 m (pc + 3) ls rest)) : W p l e R s m args below meth c H locs cells slots Q (F0 m pc ls (.int v :: .ref (G.2.2 + q) :: rest)) := by
  obtain ⟨hx, hb, -, -, hown, hts, hSx, -⟩ := C0
  obtain ⟨C, T, N0, t0, hc, hk, hin, h1, hty, hnm, ht, hfin, hl⟩ := hF
  have he : (fm_wl G N sh M)[q]? = some (G.2.2 + q, .inr (ci, fm_fv G.2.2 (M.1 q) fl)) := by
    rw [fm_get G sh M hq, hs]
    rfl
  have hlen : k < (fm_fv G.2.2 (M.1 q) fl).length := by
    have := (List.getElem?_eq_some_iff.mp hf).1
    simpa [fm_fv] using this
  have hset : (fm_wl G N sh M).set q (G.2.2 + q, .inr (ci, (fm_fv G.2.2 (M.1 q) fl).set k (.int v))) = fm_wl G N sh (fm_sI M q k v) := by
    refine fm_set G sh M _ hq ?_ (fun i hi => fm_ct_I hi)
    rw [hs, fm_fv_set hf]
    rfl
  have hd : parseFieldDescriptor (T k).2.2.1 = some ty := by rw [hty k hk, ht]
  have kk' : ∀ (H1 : Heap) (locs1 : List Loc), va_P G.1 classes ((fm_wl G N sh M).set q (G.2.2 + q, .inr (ci, (fm_fv G.2.2 (M.1 q) fl).set k (.int v)))) H1 → va_D (fm_A G.2.2) ((fm_wl G N sh M).set q (G.2.2 + q, .inr (ci, (fm_fv G.2.2 (M.1 q) fl).set k (.int v)))) → va_S (fm_A G.2.2) s.heap H1 locs1 → W p l e R s m args below meth c H1 locs1 cells slots Q (F0 m (pc + 3) ls rest) := by
    intro H1 locs1 g1 _ g3
    rw [hset] at g1
    exact kk H1 locs1 g1 g3
  rcases hl with hl | ⟨host, hl⟩
  · exact va_put (ref := C) hx hb hts (fun w hw => List.mem_cons_of_mem _ (hin w hw)) t0 hty hnm hown hSx.1 hP (fm_D G N sh M) hS q he hc k hk (hts _ (List.mem_cons_of_mem _ hl)) (fun x h => by rw [h1] at h; exact h) hfin hd hn hfit hlen hdg kk'
  · exact va_putN (ref := C) (host := host) hx hb hts (fun w hw => List.mem_cons_of_mem _ (hin w hw)) t0 hty hnm hown hSx.1 hP (fm_D G N sh M) hS q he hc k hk (va_Nw.use rfl (hSx.2.1 _ hl)) (fun x h => by rw [h1] at h; exact h) hfin hd hn hfit hlen hdg kk'
theorem r_in {i : Int32} {n : Nat} (h : 0 ≤ i.toInt ∧ i.toInt < n) : vp_in i n := vp_in_iff.mpr h
theorem r_iald (C0 : fm_C p s m args meth c G w0 own cc nL ret) (hP : fm_P G N sh M H) (hq : q < N) {n : Nat} (hs : sh q = .inl (.int, n)) {i : Int32} (hin : 0 ≤ i.toInt ∧ i.toInt < n) (hdg : decode cc pc = .ok (.iaload, 1))
    (kk : W p l e R s m args below meth c H locs cells slots Q (F0 m (pc + 1) ls (.int (M.1 q i.toInt.toNat) :: rest))) : W p l e R s m args below meth c H locs cells slots Q (F0 m pc ls (.int i :: .ref (G.2.2 + q) :: rest)) :=
  va_iald C0.1 C0.2.1 C0.2.2.2.2.2.2.1.1 hP q 0 (by rw [fm_get G sh M hq, hs]; rfl) (ht := rfl) (r_in hin) hdg kk
theorem r_zald (C0 : fm_C p s m args meth c G w0 own cc nL ret) (hP : fm_P G N sh M H) (hq : q < N) {n : Nat} (hs : sh q = .inl (.boolean, n)) {i : Int32} (hin : 0 ≤ i.toInt ∧ i.toInt < n) (hdg : decode cc pc = .ok (.baload, 1))
    (kk : W p l e R s m args below meth c H locs cells slots Q (F0 m (pc + 1) ls (.int (M.1 q i.toInt.toNat) :: rest))) : W p l e R s m args below meth c H locs cells slots Q (F0 m pc ls (.int i :: .ref (G.2.2 + q) :: rest)) :=
  va_zald C0.1 C0.2.1 C0.2.2.2.2.2.2.1.1 hP q 1 (by rw [fm_get G sh M hq, hs]; rfl) (ht := rfl) (r_in hin) hdg kk
theorem r_lald (C0 : fm_C p s m args meth c G w0 own cc nL ret) (hP : fm_P G N sh M H) (hq : q < N) {n : Nat} (hs : sh q = .inl (.long, n)) {i : Int32} (hin : 0 ≤ i.toInt ∧ i.toInt < n) (hdg : decode cc pc = .ok (.laload, 1))
    (kk : W p l e R s m args below meth c H locs cells slots Q (F0 m (pc + 1) ls (.long (M.2.1 q i.toInt.toNat) :: rest))) : W p l e R s m args below meth c H locs cells slots Q (F0 m pc ls (.int i :: .ref (G.2.2 + q) :: rest)) :=
  va_lald C0.1 C0.2.1 C0.2.2.2.2.2.2.1.1 hP q 2 (by rw [fm_get G sh M hq, hs]; rfl) (ht := rfl) (r_in hin) hdg kk
theorem r_fald (C0 : fm_C p s m args meth c G w0 own cc nL ret) (hP : fm_P G N sh M H) (hq : q < N) {n : Nat} (hs : sh q = .inl (.float, n)) {i : Int32} (hin : 0 ≤ i.toInt ∧ i.toInt < n) (hdg : decode cc pc = .ok (.faload, 1))
    (kk : W p l e R s m args below meth c H locs cells slots Q (F0 m (pc + 1) ls (.float (M.2.2.1 q i.toInt.toNat) :: rest))) : W p l e R s m args below meth c H locs cells slots Q (F0 m pc ls (.int i :: .ref (G.2.2 + q) :: rest)) :=
  va_fald C0.1 C0.2.1 C0.2.2.2.2.2.2.1.1 hP q 3 (by rw [fm_get G sh M hq, hs]; rfl) (ht := rfl) (r_in hin) hdg kk
theorem r_dald (C0 : fm_C p s m args meth c G w0 own cc nL ret) (hP : fm_P G N sh M H) (hq : q < N) {n : Nat} (hs : sh q = .inl (.double, n)) {i : Int32} (hin : 0 ≤ i.toInt ∧ i.toInt < n) (hdg : decode cc pc = .ok (.daload, 1))
    (kk : W p l e R s m args below meth c H locs cells slots Q (F0 m (pc + 1) ls (.double (M.2.2.2 q i.toInt.toNat) :: rest))) : W p l e R s m args below meth c H locs cells slots Q (F0 m pc ls (.int i :: .ref (G.2.2 + q) :: rest)) :=
  va_dald C0.1 C0.2.1 C0.2.2.2.2.2.2.1.1 hP q 4 (by rw [fm_get G sh M hq, hs]; rfl) (ht := rfl) (r_in hin) hdg kk
end ROWS
end
section
/-! rows of the flat memory: stores, lengths, references, statics, calls, ends -/
def fm_LV (own : String) (idx : Nat) (C : String) (y : MethodName) (bc : ByteArray) (n : Nat) (ret : Option FieldType) (na : Nat) : Prop :=
  (Cond.methodLink own idx y ∈ gT ∧ Cond.instanceMethod y ∈ gT ∧ Cond.selects C y y ∈ gT ∧ Cond.initialized C ∈ gT ∧ Cond.code y bc n ret ∈ gT) ∧ (y.cls = C ∧ y.cls ≠ "java/lang/invoke/MethodHandle" ∧ y.cls ≠ "java/lang/invoke/VarHandle" ∧ (parseMethodDescriptor y.desc).map (fun d => d.parameters.length) = some na)
def fm_LS (own : String) (idx : Nat) (y : MethodName) (bc : ByteArray) (n : Nat) (ret : Option FieldType) (na : Nat) : Prop :=
  (Cond.methodLink own idx y ∈ gT ∧ Cond.static y ∈ gT ∧ Cond.initialized y.cls ∈ gT ∧ Cond.code y bc n ret ∈ gT) ∧ (y.cls ≠ "java/lang/invoke/MethodHandle" ∧ y.cls ≠ "java/lang/invoke/VarHandle" ∧ (parseMethodDescriptor y.desc).map (fun d => d.parameters.length) = some na)
def fm_LSN (own : String) (idx : Nat) (host : String) (y : MethodName) (bc : ByteArray) (n : Nat) (ret : Option FieldType) (na : Nat) : Prop :=
  (Cond.methodLinkNest own idx y host ∈ nW ∧ Cond.static y ∈ gT ∧ Cond.initialized y.cls ∈ gT ∧ Cond.code y bc n ret ∈ gT) ∧ (y.cls ≠ "java/lang/invoke/MethodHandle" ∧ y.cls ≠ "java/lang/invoke/VarHandle" ∧ (parseMethodDescriptor y.desc).map (fun d => d.parameters.length) = some na)
theorem fm_in {w0 w : Cond} (h : w ∈ gT) : w ∈ w0 :: gT ∧ ((w.onTables && w.keeps) = true ∨ ∃ ty, w = .arrayClass ty) := ⟨List.mem_cons_of_mem _ h, gT_good h⟩
theorem fm_good {w0 : Cond} {y : MethodName} {bc : ByteArray} {n : Nat} {ret : Option FieldType} (h : Cond.code y bc n ret ∈ gT) : GoodIn (w0 :: gT) (fm_W y bc n ret) := fun w hw => (List.mem_cons.mp hw).elim (fun e => by rw [e]; exact fm_in h) (fun h => fm_in h)
theorem fm_goodV {w0 : Cond} {own C : String} {idx : Nat} {y : MethodName} {bc : ByteArray} {n : Nat} {ret : Option FieldType} {na : Nat} (h : fm_LV own idx C y bc n ret na) : GoodIn (w0 :: gT) (wsV own idx C y (fm_W y bc n ret)) := by
  obtain ⟨⟨h1, h2, h3, h4, h5⟩, -⟩ := h
  intro w hw
  unfold wsV at hw
  rcases List.mem_append.mp hw with hw | hw
  · simp only [List.mem_cons, List.not_mem_nil, or_false] at hw
    rcases hw with e | e | e | e <;> rw [e]
    · exact fm_in h1
    · exact fm_in h2
    · exact fm_in h3
    · exact fm_in h4
  · exact fm_good h5 w hw
theorem fm_goodS {w0 : Cond} {own : String} {idx : Nat} {y : MethodName} {bc : ByteArray} {n : Nat} {ret : Option FieldType} {na : Nat} (h : fm_LS own idx y bc n ret na) : GoodIn (w0 :: gT) (va_wsS own idx y (fm_W y bc n ret)) := by
  obtain ⟨⟨h1, h2, h3, h4⟩, -⟩ := h
  intro w hw
  unfold va_wsS at hw
  rcases List.mem_append.mp hw with hw | hw
  · simp only [List.mem_cons, List.not_mem_nil, or_false] at hw
    rcases hw with e | e | e <;> rw [e]
    · exact fm_in h1
    · exact fm_in h2
    · exact fm_in h3
  · exact fm_good h4 w hw
def fm_Ly (C : String) (ci : Nat) : Prop := ∃ (T : u_T) (N0 : Nat), classes[ci]? = some (C, T, N0)
section ROWS
variable {p : Program} {l : Launch} {e : Env} {R : Room} {s : State} {m : MethodId} {args : Array Value} {below : List Frame} {meth : Method} {c : Code} {H : Heap} {locs : List Loc} {cells slots : Nat} {Q : State → Prop}
variable {cc : ByteArray} {pc : Nat} {ls : Array Slot} {rest : List Value} {G : fm_G} {N : Nat} {sh : Nat → fm_Sh} {M : fm_M} {q : Nat} {w0 : Cond} {own : String} {nL : Nat} {ret : Option FieldType}
theorem r_iast (C0 : fm_C p s m args meth c G w0 own cc nL ret) (hP : fm_P G N sh M H) (hS : va_S (fm_A G.2.2) s.heap H locs) (hq : q < N) {n : Nat} (hs : sh q = .inl (.int, n)) {i v : Int32} (hin : 0 ≤ i.toInt ∧ i.toInt < n) (hdg : decode cc pc = .ok (.iastore, 1))
    (kk : ∀ (H1 : Heap) (locs1 : List Loc), fm_P G N sh (fm_sI M q i.toInt.toNat v) H1 → va_S (fm_A G.2.2) s.heap H1 locs1 → W p l e R s m args below meth c H1 locs1 cells slots Q (F0 m (pc + 1) ls rest)) : W p l e R s m args below meth c H locs cells slots Q (F0 m pc ls (.int v :: .int i :: .ref (G.2.2 + q) :: rest)) := by
  refine va_iast C0.1 C0.2.1 C0.2.2.2.2.2.2.1.1 hP (fm_D G N sh M) hS q 0 (by rw [fm_get G sh M hq, hs]; rfl) (ht := rfl) (r_in hin) hdg (fun H1 locs1 g1 _ g3 => kk H1 locs1 ?_ g3)
  rw [fm_set G sh M (fm_sI M q i.toInt.toNat v) hq (by rw [hs]; simp only [fm_ct, fm_nv, fm_sI, fm_u_same]; rfl) (fun i hi => fm_ct_I hi)] at g1
  exact g1
theorem r_zast (C0 : fm_C p s m args meth c G w0 own cc nL ret) (hP : fm_P G N sh M H) (hS : va_S (fm_A G.2.2) s.heap H locs) (hq : q < N) {n : Nat} (hs : sh q = .inl (.boolean, n)) {i v : Int32} (hin : 0 ≤ i.toInt ∧ i.toInt < n) (hv : vp_nar .boolean v = v) (hdg : decode cc pc = .ok (.bastore, 1))
    (kk : ∀ (H1 : Heap) (locs1 : List Loc), fm_P G N sh (fm_sI M q i.toInt.toNat v) H1 → va_S (fm_A G.2.2) s.heap H1 locs1 → W p l e R s m args below meth c H1 locs1 cells slots Q (F0 m (pc + 1) ls rest)) : W p l e R s m args below meth c H locs cells slots Q (F0 m pc ls (.int v :: .int i :: .ref (G.2.2 + q) :: rest)) := by
  refine va_zast C0.1 C0.2.1 C0.2.2.2.2.2.2.1.1 hP (fm_D G N sh M) hS q 1 (by rw [fm_get G sh M hq, hs]; rfl) (ht := rfl) (r_in hin) hdg (fun H1 locs1 g1 _ g3 => kk H1 locs1 ?_ g3)
  rw [hv, fm_set G sh M (fm_sI M q i.toInt.toNat v) hq (by rw [hs]; simp only [fm_ct, fm_nv, fm_sI, fm_u_same]; rfl) (fun i hi => fm_ct_I hi)] at g1
  exact g1
theorem r_last (C0 : fm_C p s m args meth c G w0 own cc nL ret) (hP : fm_P G N sh M H) (hS : va_S (fm_A G.2.2) s.heap H locs) (hq : q < N) {n : Nat} (hs : sh q = .inl (.long, n)) {i : Int32} {v : Int64} (hin : 0 ≤ i.toInt ∧ i.toInt < n) (hdg : decode cc pc = .ok (.lastore, 1))
    (kk : ∀ (H1 : Heap) (locs1 : List Loc), fm_P G N sh (fm_sJ M q i.toInt.toNat v) H1 → va_S (fm_A G.2.2) s.heap H1 locs1 → W p l e R s m args below meth c H1 locs1 cells slots Q (F0 m (pc + 1) ls rest)) : W p l e R s m args below meth c H locs cells slots Q (F0 m pc ls (.long v :: .int i :: .ref (G.2.2 + q) :: rest)) := by
  refine va_last C0.1 C0.2.1 C0.2.2.2.2.2.2.1.1 hP (fm_D G N sh M) hS q 2 (by rw [fm_get G sh M hq, hs]; rfl) (ht := rfl) (r_in hin) hdg (fun H1 locs1 g1 _ g3 => kk H1 locs1 ?_ g3)
  rw [fm_set G sh M (fm_sJ M q i.toInt.toNat v) hq (by rw [hs]; simp only [fm_ct, fm_nv, fm_sJ, fm_u_sameL]; rfl) (fun i hi => fm_ct_J hi)] at g1
  exact g1
theorem r_fast (C0 : fm_C p s m args meth c G w0 own cc nL ret) (hP : fm_P G N sh M H) (hS : va_S (fm_A G.2.2) s.heap H locs) (hq : q < N) {n : Nat} (hs : sh q = .inl (.float, n)) {i : Int32} {v : UInt32} (hin : 0 ≤ i.toInt ∧ i.toInt < n) (hdg : decode cc pc = .ok (.fastore, 1))
    (kk : ∀ (H1 : Heap) (locs1 : List Loc), fm_P G N sh (fm_sF M q i.toInt.toNat v) H1 → va_S (fm_A G.2.2) s.heap H1 locs1 → W p l e R s m args below meth c H1 locs1 cells slots Q (F0 m (pc + 1) ls rest)) : W p l e R s m args below meth c H locs cells slots Q (F0 m pc ls (.float v :: .int i :: .ref (G.2.2 + q) :: rest)) := by
  refine va_fast C0.1 C0.2.1 C0.2.2.2.2.2.2.1.1 hP (fm_D G N sh M) hS q 3 (by rw [fm_get G sh M hq, hs]; rfl) (ht := rfl) (r_in hin) hdg (fun H1 locs1 g1 _ g3 => kk H1 locs1 ?_ g3)
  rw [fm_set G sh M (fm_sF M q i.toInt.toNat v) hq (by rw [hs]; simp only [fm_ct, fm_nv, fm_sF, fm_u_sameX]; rfl) (fun i hi => fm_ct_F hi)] at g1
  exact g1
theorem r_dast (C0 : fm_C p s m args meth c G w0 own cc nL ret) (hP : fm_P G N sh M H) (hS : va_S (fm_A G.2.2) s.heap H locs) (hq : q < N) {n : Nat} (hs : sh q = .inl (.double, n)) {i : Int32} {v : UInt64} (hin : 0 ≤ i.toInt ∧ i.toInt < n) (hdg : decode cc pc = .ok (.dastore, 1))
    (kk : ∀ (H1 : Heap) (locs1 : List Loc), fm_P G N sh (fm_sD M q i.toInt.toNat v) H1 → va_S (fm_A G.2.2) s.heap H1 locs1 → W p l e R s m args below meth c H1 locs1 cells slots Q (F0 m (pc + 1) ls rest)) : W p l e R s m args below meth c H locs cells slots Q (F0 m pc ls (.double v :: .int i :: .ref (G.2.2 + q) :: rest)) := by
  refine va_dast C0.1 C0.2.1 C0.2.2.2.2.2.2.1.1 hP (fm_D G N sh M) hS q 4 (by rw [fm_get G sh M hq, hs]; rfl) (ht := rfl) (r_in hin) hdg (fun H1 locs1 g1 _ g3 => kk H1 locs1 ?_ g3)
  rw [fm_set G sh M (fm_sD M q i.toInt.toNat v) hq (by rw [hs]; simp only [fm_ct, fm_nv, fm_sD, fm_u_sameX]; rfl) (fun i hi => fm_ct_D hi)] at g1
  exact g1
theorem r_alen (C0 : fm_C p s m args meth c G w0 own cc nL ret) (hP : fm_P G N sh M H) (hq : q < N) {ty : FieldType} {n t0 : Nat} (hs : sh q = .inl (ty, n)) (ht : fm_tyL[t0]? = some ty) (hdg : decode cc pc = .ok (.arraylength, 1))
    (kk : W p l e R s m args below meth c H locs cells slots Q (F0 m (pc + 1) ls (.int (Int32.ofNat n) :: rest))) : W p l e R s m args below meth c H locs cells slots Q (F0 m pc ls (.ref (G.2.2 + q) :: rest)) :=
  va_alen C0.1 C0.2.1 C0.2.2.2.2.2.2.1.1 hP q t0 (cA := G.2.1 ty) (ty := ty) (x := (n, fm_nv q ty M)) (by rw [fm_get G sh M hq, hs]; rfl) (by simp [fm_tys, ht]) rfl hdg kk
theorem r_aald (C0 : fm_C p s m args meth c G w0 own cc nL ret) (hP : fm_P G N sh M H) (hq : q < N) {ty : FieldType} {rs : List (Option Nat)} {t0 : Nat} (hs : sh q = .inr (.inl (ty, rs))) (ht : fm_tyL[t0]? = some ty) (hr : ty.isReference = true) {i : Int32} {r : Nat} (hin : 0 ≤ i.toInt ∧ i.toInt < rs.length) (hv : rs[i.toInt.toNat]? = some (some r)) (hdg : decode cc pc = .ok (.aaload, 1))
    (kk : W p l e R s m args below meth c H locs cells slots Q (F0 m (pc + 1) ls (.ref (G.2.2 + r) :: rest))) : W p l e R s m args below meth c H locs cells slots Q (F0 m pc ls (.int i :: .ref (G.2.2 + q) :: rest)) := by
  have he : (fm_wl G N sh M)[q]? = some (G.2.2 + q, .inl (G.2.1 ty, rs.length, .inr (.inr (.inr (.inr (fun j => (rs.getD j none).map (fun r => G.2.2 + r))))))) := by
    rw [fm_get G sh M hq, hs]
    rfl
  have hT : (fm_tys G)[t0]? = some (G.2.1 ty, ty) := by simp [fm_tys, ht]
  have hlt : i.toNatClampNeg < rs.length := by
    show i.toInt.toNat < rs.length
    omega
  refine W.aald (v := .ref (G.2.2 + r)) (ty := ty) C0.1 C0.2.1 (hP q _ he) ((C0.2.2.2.2.2.2.1.1.2 t0 _ hT).1 rs.length (fun j => va_rf ((rs.getD j none).map (fun r => G.2.2 + r)))) hr (fun q => by cases q) (by show ¬ (i < 0 ∨ (arrV _ _ _).slots.size ≤ _); rw [arrV_size]; exact r_in hin) ?_ rfl rfl hdg kk
  show (arrV _ _ _).slots[_]? = _
  rw [arrV_read _ _ hlt]
  have h2 : rs.getD i.toNatClampNeg none = some r := by
    rw [List.getD_eq_getElem?_getD, show i.toNatClampNeg = i.toInt.toNat from rfl, hv]
    rfl
  simp only [h2]
  rfl
/-- a call that has been run: the memory behind it -/
theorem r_call {mc ms : Nat} {st0 : List Value} {v : Option Value} {M' : fm_M} {a : Array Value} (hr : va_Run p l e R s m args below meth c H locs cells slots mc ms (F0 m pc ls st0) rest (fm_Q G N sh v M' a) (fm_A G.2.2)) (hS : va_S (fm_A G.2.2) s.heap H locs)
    (kk : ∀ (H1 : Heap) (locs1 : List Loc), fm_P G N sh M' H1 → va_S (fm_A G.2.2) s.heap H1 locs1 → W p l e R s m args below meth c H1 locs1 (cells + mc) (slots + ms) Q (F0 m (pc + 3) ls (v.toList ++ rest))) : W p l e R s m args below meth c H locs cells slots Q (F0 m pc ls st0) := by
  intro T hT X
  obtain ⟨v', st₀, t, T', L, h0, X', hL, e1, e2, ⟨hv, hP1, hz, hk⟩, st⟩ := hr T hT X
  cases hv
  rw [h0] at hz hk
  obtain ⟨t2, a1, b1⟩ := kk T'.heap (locs ++ L) (by rw [e1]; exact hP1) ⟨Nat.le_trans hS.1 (by rw [e1]; exact hz), fun q h1 h2 => by rw [e1, hk q (Nat.lt_of_lt_of_le h1 hS.1) h2]; exact hS.2.1 q h1 h2, fun q hq => by
      rcases List.mem_append.mp hq with h | h
      · exact hS.2.2 q h
      · exact hL q h⟩ T' rfl X'
  exact ⟨t2, st t2 a1, b1⟩
theorem r_callV (C0 : fm_C p s m args meth c G w0 own cc nL ret) {idx : Nat} {C : String} {y : MethodName} {bc : ByteArray} {n : Nat} {rt : Option FieldType} {na : Nat} (hL : fm_LV own idx C y bc n rt na) {rm : Room} {As : List Value} {M' : fm_M} {v : Option Value} (hM : Met l y (fm_W y bc n rt) rm (fm_Pc G N sh M (.ref (G.2.2 + q) :: As)) (fm_Q G N sh v M') 0 0 (fm_A G.2.2)) (hrm : rm.cells = 0 ∧ rm.slots = 0) (hR : rm.frames + 1 ≤ R.frames ∧ 8 + (n + 11) + rm.locals ≤ R.locals)
    (hP : fm_P G N sh M H) (hS : va_S (fm_A G.2.2) s.heap H locs) {ci : Nat} {fl : List (Option (Option Nat))} (hq : q < N) (hs : sh q = .inr (.inr (ci, fl))) (hc : fm_Ly C ci) (hn : As.length = na) (hsz : ls.size = nL) {st0 : List Value} (hst : st0 = As.reverse ++ .ref (G.2.2 + q) :: rest) (hw : (rest.map fun v => v.category).sum ≤ 8) (hdg : decode cc pc = .ok (.invokevirtual idx, 3)) (hf : cells ≤ R.cells ∧ slots ≤ R.slots)
    (kk : ∀ (H1 : Heap) (locs1 : List Loc), fm_P G N sh M' H1 → va_S (fm_A G.2.2) s.heap H1 locs1 → W p l e R s m args below meth c H1 locs1 cells slots Q (F0 m (pc + 3) ls (v.toList ++ rest))) : W p l e R s m args below meth c H locs cells slots Q (F0 m pc ls st0) := by
  obtain ⟨hx, hb, -, hml, hown, hts, hSx, -⟩ := C0
  obtain ⟨T, N0, hc⟩ := hc
  have he : (fm_wl G N sh M)[q]? = some (G.2.2 + q, .inr (ci, fm_fv G.2.2 (M.1 q) fl)) := by
    rw [fm_get G sh M hq, hs]
    rfl
  exact r_call (mc := 0) (ms := 0) (va_runV (As := As) (rest := rest) (b := G.2.2 + q) ⟨hx, hb, hml, hown, hts⟩ hM (cwV na hts (fm_goodV hL) rfl hrm.1 hrm.2 hL.2 hR) ⟨fm_blind G N sh M _, va_recv hSx.1 hP hc he, fun U hU hW => ⟨rfl, hSx.to hU hW hS, by rw [hU]; exact hP⟩⟩ rfl hn hsz hst (by show 2 * 0 + _ ≤ 8; omega) hdg hf) hS kk
theorem r_callS (C0 : fm_C p s m args meth c G w0 own cc nL ret) {idx : Nat} {y : MethodName} {bc : ByteArray} {n : Nat} {rt : Option FieldType} {na : Nat} (hL : fm_LS own idx y bc n rt na) {rm : Room} {As : List Value} {M' : fm_M} {v : Option Value} (hM : Met l y (fm_W y bc n rt) rm (fm_Pc G N sh M As) (fm_Q G N sh v M') 0 0 (fm_A G.2.2)) (hrm : rm.cells = 0 ∧ rm.slots = 0) (hR : rm.frames + 1 ≤ R.frames ∧ 8 + (n + 11) + rm.locals ≤ R.locals)
    (hP : fm_P G N sh M H) (hS : va_S (fm_A G.2.2) s.heap H locs) (hn : As.length = na) (hsz : ls.size = nL) {st0 : List Value} (hst : st0 = As.reverse ++ rest) (hw : (rest.map fun v => v.category).sum ≤ 8) (hdg : decode cc pc = .ok (.invokestatic idx, 3)) (hf : cells ≤ R.cells ∧ slots ≤ R.slots)
    (kk : ∀ (H1 : Heap) (locs1 : List Loc), fm_P G N sh M' H1 → va_S (fm_A G.2.2) s.heap H1 locs1 → W p l e R s m args below meth c H1 locs1 cells slots Q (F0 m (pc + 3) ls (v.toList ++ rest))) : W p l e R s m args below meth c H locs cells slots Q (F0 m pc ls st0) := by
  obtain ⟨hx, hb, -, hml, hown, hts, hSx, -⟩ := C0
  exact r_call (mc := 0) (ms := 0) (va_runS (As := As) (rest := rest) ⟨hx, hb, hml, hown, hts⟩ hM (va_cwS na hts (fm_goodS hL) rfl hrm.1 hrm.2 hL.2 hR) ⟨fm_blind G N sh M _, fun U hU hW => ⟨rfl, hSx.to hU hW hS, by rw [hU]; exact hP⟩⟩ rfl hn hsz hst (by show 2 * 0 + _ ≤ 8; omega) hdg hf) hS kk
theorem r_callSN (C0 : fm_C p s m args meth c G w0 own cc nL ret) {idx : Nat} {host : String} {y : MethodName} {bc : ByteArray} {n : Nat} {rt : Option FieldType} {na : Nat} (hL : fm_LSN own idx host y bc n rt na) {rm : Room} {As : List Value} {M' : fm_M} {v : Option Value} (hM : Met l y (fm_W y bc n rt) rm (fm_Pc G N sh M As) (fm_Q G N sh v M') 0 0 (fm_A G.2.2)) (hrm : rm.cells = 0 ∧ rm.slots = 0) (hR : rm.frames + 1 ≤ R.frames ∧ 8 + (n + 11) + rm.locals ≤ R.locals)
    (hP : fm_P G N sh M H) (hS : va_S (fm_A G.2.2) s.heap H locs) (hn : As.length = na) (hsz : ls.size = nL) {st0 : List Value} (hst : st0 = As.reverse ++ rest) (hw : (rest.map fun v => v.category).sum ≤ 8) (hdg : decode cc pc = .ok (.invokestatic idx, 3)) (hf : cells ≤ R.cells ∧ slots ≤ R.slots)
    (kk : ∀ (H1 : Heap) (locs1 : List Loc), fm_P G N sh M' H1 → va_S (fm_A G.2.2) s.heap H1 locs1 → W p l e R s m args below meth c H1 locs1 cells slots Q (F0 m (pc + 3) ls (v.toList ++ rest))) : W p l e R s m args below meth c H locs cells slots Q (F0 m pc ls st0) := by
  obtain ⟨hx, hb, -, hml, hown, hts, hSx, -⟩ := C0
  obtain ⟨⟨h1, h2, h3, h4⟩, hd⟩ := hL
  exact r_call (mc := 0) (ms := 0) (va_runSN (As := As) (rest := rest) (host := host) ⟨hx, hb, hml, hown, hts⟩ hM ⟨va_cnB na hts (fm_good h4) rfl hrm.1 hrm.2 (hSx.2.1 _ h1) (hts _ (List.mem_cons_of_mem _ h3)) hd hR, hts _ (List.mem_cons_of_mem _ h2), trivial⟩ ⟨fm_blind G N sh M _, fun U hU hW => ⟨rfl, hSx.to hU hW hS, by rw [hU]; exact hP⟩⟩ rfl hn hsz hst (by show 2 * 0 + _ ≤ 8; omega) hdg hf) hS kk
/-- TAKES and PUTS -/
theorem r_sta (C0 : fm_C p s m args meth c G w0 own cc nL ret) {n : String} {vs : List Int32} {t : Nat} (hT : fm_St n vs G.2.2 t s s.heap) (hS : va_S (fm_A G.2.2) s.heap H locs) {idx : Nat} (hl : Cond.fieldLink own idx "AllocationProfiler" n "[I" ∈ gT ∨ ∃ host, Cond.fieldLinkNest own idx "AllocationProfiler" n "[I" host ∈ nW) (hdg : decode cc pc = .ok (.getstatic idx, 3))
    (kk : W p l e R s m args below meth c H locs cells slots Q (F0 m (pc + 3) ls (.ref t :: rest))) : W p l e R s m args below meth c H locs cells slots Q (F0 m pc ls rest) := by
  obtain ⟨hx, hb, -, -, hown, hts, hSx, -⟩ := C0
  rcases hl with hl | ⟨host, hl⟩
  · exact va_gets hx hb hT.1 hS hown (hts _ (List.mem_cons_of_mem _ hl)) (fun _ h => h) hdg kk
  · exact va_getsN hx hb hT.1 hS hown (va_Nw.use rfl (hSx.2.1 _ hl)) (fun _ h => h) hdg kk
theorem r_stald (C0 : fm_C p s m args meth c G w0 own cc nL ret) {n : String} {vs : List Int32} {t : Nat} (hT : fm_St n vs G.2.2 t s s.heap) (hS : va_S (fm_A G.2.2) s.heap H locs) {i : Int32} (hin : 0 ≤ i.toInt ∧ i.toInt < vs.length) (hdg : decode cc pc = .ok (.iaload, 1))
    (kk : W p l e R s m args below meth c H locs cells slots Q (F0 m (pc + 1) ls (.int (vs.getD i.toInt.toNat 0) :: rest))) : W p l e R s m args below meth c H locs cells slots Q (F0 m pc ls (.int i :: .ref t :: rest)) :=
  va_ti C0.1 C0.2.1 hT.2 hS (r_in hin) (v := .int (vs.getD i.toInt.toNat 0)) rfl hdg kk
/-! ends -/
theorem r_end {v : Option Value} (hP : fm_P G N sh M H) (hS : va_S (fm_A G.2.2) s.heap H locs) : ∀ t : State, t.heap = H → s.WarmedH t.vm → fm_Q G N sh v M args s (.returned v) t := fun t ht _ => ⟨rfl, by rw [ht]; exact hP, hS.F ht⟩
theorem r_iret (C0 : fm_C p s m args meth c G w0 own cc nL (some .int)) (hP : fm_P G N sh M H) (hS : va_S (fm_A G.2.2) s.heap H locs) {v : Int32} (hdg : decode cc pc = .ok (.ireturn, 1)) : W p l e R s m args below meth c H locs cells slots (MQ below (fm_Q G N sh (some (.int v)) M) args s cells slots (fm_A G.2.2)) (F0 m pc ls [.int v]) :=
  W.iret C0.1 C0.2.1 C0.2.2.1 (r_end hP hS) hS.2.2 hdg C0.2.2.2.2.2.2.2
theorem r_zret (C0 : fm_C p s m args meth c G w0 own cc nL (some .boolean)) (hP : fm_P G N sh M H) (hS : va_S (fm_A G.2.2) s.heap H locs) {v : Int32} (hv : v = 0 ∨ v = 1) (hdg : decode cc pc = .ok (.ireturn, 1)) : W p l e R s m args below meth c H locs cells slots (MQ below (fm_Q G N sh (some (.int v)) M) args s cells slots (fm_A G.2.2)) (F0 m pc ls [.int v]) :=
  W.zret C0.1 C0.2.1 C0.2.2.1 (by rcases hv with h | h <;> rw [h] <;> decide) (r_end hP hS) hS.2.2 hdg C0.2.2.2.2.2.2.2
theorem r_lret (C0 : fm_C p s m args meth c G w0 own cc nL (some .long)) (hP : fm_P G N sh M H) (hS : va_S (fm_A G.2.2) s.heap H locs) {v : Int64} (hdg : decode cc pc = .ok (.lreturn, 1)) : W p l e R s m args below meth c H locs cells slots (MQ below (fm_Q G N sh (some (.long v)) M) args s cells slots (fm_A G.2.2)) (F0 m pc ls [.long v]) :=
  W.lret C0.1 C0.2.1 C0.2.2.1 (r_end hP hS) hS.2.2 hdg C0.2.2.2.2.2.2.2
theorem r_fret (C0 : fm_C p s m args meth c G w0 own cc nL (some .float)) (hP : fm_P G N sh M H) (hS : va_S (fm_A G.2.2) s.heap H locs) {v : UInt32} (hdg : decode cc pc = .ok (.freturn, 1)) : W p l e R s m args below meth c H locs cells slots (MQ below (fm_Q G N sh (some (.float v)) M) args s cells slots (fm_A G.2.2)) (F0 m pc ls [.float v]) :=
  W.fret C0.1 C0.2.1 C0.2.2.1 (r_end hP hS) hS.2.2 hdg C0.2.2.2.2.2.2.2
theorem r_dret (C0 : fm_C p s m args meth c G w0 own cc nL (some .double)) (hP : fm_P G N sh M H) (hS : va_S (fm_A G.2.2) s.heap H locs) {v : UInt64} (hdg : decode cc pc = .ok (.dreturn, 1)) : W p l e R s m args below meth c H locs cells slots (MQ below (fm_Q G N sh (some (.double v)) M) args s cells slots (fm_A G.2.2)) (F0 m pc ls [.double v]) :=
  W.dret C0.1 C0.2.1 C0.2.2.1 (r_end hP hS) hS.2.2 hdg C0.2.2.2.2.2.2.2
theorem r_vret (C0 : fm_C p s m args meth c G w0 own cc nL none) (hP : fm_P G N sh M H) (hS : va_S (fm_A G.2.2) s.heap H locs) (hdg : decode cc pc = .ok (.return_, 1)) : W p l e R s m args below meth c H locs cells slots (MQ below (fm_Q G N sh none M) args s cells slots (fm_A G.2.2)) (F0 m pc ls []) :=
  W.vret C0.1 C0.2.1 C0.2.2.1 (r_end hP hS) hS.2.2 hdg C0.2.2.2.2.2.2.2
theorem r_aret {C : String} (C0 : fm_C p s m args meth c G w0 own cc nL (some (.object C))) (hP : fm_P G N sh M H) (hS : va_S (fm_A G.2.2) s.heap H locs) {v : Nat} (hdg : decode cc pc = .ok (.areturn, 1)) : W p l e R s m args below meth c H locs cells slots (MQ below (fm_Q G N sh (some (.ref (G.2.2 + v))) M) args s cells slots (fm_A G.2.2)) (F0 m pc ls [.ref (G.2.2 + v)]) :=
  W.aret C0.1 C0.2.1 C0.2.2.1 (Or.inl ⟨_, rfl⟩) (Or.inr ⟨_, rfl⟩) (r_end hP hS) hS.2.2 hdg C0.2.2.2.2.2.2.2
end ROWS
/-- a method's contract out of its walk -/
theorem r_met {l : Launch} {y : MethodName} {bc : ByteArray} {n : Nat} {ret : Option FieldType} {rm : Room} {own : String} {G : fm_G} {N : Nat} {sh : Nat → fm_Sh} {M M' : fm_M} {av : List Value} {v : Option Value} (hy : plainName y.cls = true) (hown : y.cls = own) (hlen : (lg_sl av).length ≤ n)
    (body : ∀ (p : Program) (e : Env) (s : State) (m : MethodId) (args : Array Value) (below : List Frame) (meth : Method) (c : Code), fm_C p s m args meth c G (.code y bc n ret) own bc n ret → fm_P G N sh M s.heap → ∀ ls : Array Slot, lv_has ls n (lv_args 0 av) → W p l e rm s m args below meth c s.heap [] 0 0 (MQ below (fm_Q G N sh v M') args s 0 0 (fm_A G.2.2)) (F0 m 0 ls [])) :
    Met l y (fm_W y bc n ret) rm (fm_Pc G N sh M av) (fm_Q G N sh v M') 0 0 (fm_A G.2.2) := by
  subst hown
  refine Met.ofW (cc := bc) (maxL := n) (ret := ret) hy rfl ?_
  intro p e s m args below meth c s₁ B hml hv
  obtain ⟨rfl, hSx, hP⟩ := hv
  have hts := atoms_spec (ws := fm_W y bc n ret) B.pre
  have hown : s.vm.findClass y.cls = some m.cls := findClass_of_methodNamed B.named
  rw [lg_entry_eq]
  exact body p e s m _ below meth c ⟨B.exec, B.bytes, B.returns, hml, hown, hts, hSx, B.notSynchronized⟩ hP _ (lv_entry av hlen)
end
section
theorem zz_1 : True := by
  have := @r_met
  have := @r_callV
  trivial
end
