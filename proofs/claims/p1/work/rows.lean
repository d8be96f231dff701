section
-- ===== PART A: goes FIRST, ahead of the names: the tables' words, and 'selects' of the private methods out of them =====
/-- a private method of a class that the tables say can be made, by its rows of tables_1 -/
def lw_okq (q : MethodName × Nat) : Prop := (q.1.cls ≠ "java/lang/invoke/MethodHandle" ∧ q.1.cls ≠ "java/lang/invoke/VarHandle") ∧ Cond.instantiable q.1.cls q.2 ∈ tables_1 ∧ Cond.privateMethod q.1 ∈ tables_1 ∧ Cond.instanceMethod q.1 ∈ tables_1
theorem lw_p0 : lw_okq (⟨"java/util/ArrayList", "add", "(Ljava/lang/Object;[Ljava/lang/Object;I)V"⟩, 3) := ⟨⟨by decide +kernel, by decide +kernel⟩, List.mem_of_getElem? (i := 229) (by decide +kernel), List.mem_of_getElem? (i := 521) (by decide +kernel), List.mem_of_getElem? (i := 522) (by decide +kernel)⟩
theorem lw_p1 : lw_okq (⟨"java/util/ArrayList", "grow", "()[Ljava/lang/Object;"⟩, 3) := ⟨⟨by decide +kernel, by decide +kernel⟩, List.mem_of_getElem? (i := 229) (by decide +kernel), List.mem_of_getElem? (i := 525) (by decide +kernel), List.mem_of_getElem? (i := 526) (by decide +kernel)⟩
theorem lw_p2 : lw_okq (⟨"java/util/ArrayList", "grow", "(I)[Ljava/lang/Object;"⟩, 3) := ⟨⟨by decide +kernel, by decide +kernel⟩, List.mem_of_getElem? (i := 229) (by decide +kernel), List.mem_of_getElem? (i := 529) (by decide +kernel), List.mem_of_getElem? (i := 530) (by decide +kernel)⟩
theorem lw_p3 : lw_okq (⟨"Lanternserver", "servedMany", "()I"⟩, 17) := ⟨⟨by decide +kernel, by decide +kernel⟩, List.mem_of_getElem? (i := 46) (by decide +kernel), List.mem_of_getElem? (i := 664) (by decide +kernel), List.mem_of_getElem? (i := 665) (by decide +kernel)⟩
theorem lw_p4 : lw_okq (⟨"Lanternserver", "isServedNaively", "(I)Z"⟩, 17) := ⟨⟨by decide +kernel, by decide +kernel⟩, List.mem_of_getElem? (i := 46) (by decide +kernel), List.mem_of_getElem? (i := 668) (by decide +kernel), List.mem_of_getElem? (i := 669) (by decide +kernel)⟩
theorem lw_p5 : lw_okq (⟨"Lanternserver", "servedNumber", "(II)I"⟩, 17) := ⟨⟨by decide +kernel, by decide +kernel⟩, List.mem_of_getElem? (i := 46) (by decide +kernel), List.mem_of_getElem? (i := 672) (by decide +kernel), List.mem_of_getElem? (i := 673) (by decide +kernel)⟩
theorem lw_p6 : lw_okq (⟨"Lanternserver", "hasConnection", "(I)Z"⟩, 17) := ⟨⟨by decide +kernel, by decide +kernel⟩, List.mem_of_getElem? (i := 46) (by decide +kernel), List.mem_of_getElem? (i := 680) (by decide +kernel), List.mem_of_getElem? (i := 681) (by decide +kernel)⟩
theorem lw_p7 : lw_okq (⟨"Lanternserver$Reader", "feedBody", "(I)I"⟩, 19) := ⟨⟨by decide +kernel, by decide +kernel⟩, List.mem_of_getElem? (i := 374) (by decide +kernel), List.mem_of_getElem? (i := 712) (by decide +kernel), List.mem_of_getElem? (i := 713) (by decide +kernel)⟩
theorem lw_p8 : lw_okq (⟨"Lanternserver$Reader", "feedSize", "(I)I"⟩, 19) := ⟨⟨by decide +kernel, by decide +kernel⟩, List.mem_of_getElem? (i := 374) (by decide +kernel), List.mem_of_getElem? (i := 730) (by decide +kernel), List.mem_of_getElem? (i := 731) (by decide +kernel)⟩
theorem lw_p9 : lw_okq (⟨"Lanternserver$Reader", "expect", "(III)I"⟩, 19) := ⟨⟨by decide +kernel, by decide +kernel⟩, List.mem_of_getElem? (i := 374) (by decide +kernel), List.mem_of_getElem? (i := 735) (by decide +kernel), List.mem_of_getElem? (i := 736) (by decide +kernel)⟩
theorem lw_p10 : lw_okq (⟨"Lanternserver$Reader", "wrongInHead", "(I)I"⟩, 19) := ⟨⟨by decide +kernel, by decide +kernel⟩, List.mem_of_getElem? (i := 374) (by decide +kernel), List.mem_of_getElem? (i := 739) (by decide +kernel), List.mem_of_getElem? (i := 740) (by decide +kernel)⟩
theorem lw_p11 : lw_okq (⟨"Lanternserver$Reader", "canStand", "(I)Z"⟩, 19) := ⟨⟨by decide +kernel, by decide +kernel⟩, List.mem_of_getElem? (i := 374) (by decide +kernel), List.mem_of_getElem? (i := 743) (by decide +kernel), List.mem_of_getElem? (i := 744) (by decide +kernel)⟩
theorem lw_p12 : lw_okq (⟨"Lanternserver$Reader", "stepOn", "(I)V"⟩, 19) := ⟨⟨by decide +kernel, by decide +kernel⟩, List.mem_of_getElem? (i := 374) (by decide +kernel), List.mem_of_getElem? (i := 747) (by decide +kernel), List.mem_of_getElem? (i := 748) (by decide +kernel)⟩
theorem lw_p13 : lw_okq (⟨"Lanternserver$Reader", "methodIn", "()I"⟩, 19) := ⟨⟨by decide +kernel, by decide +kernel⟩, List.mem_of_getElem? (i := 374) (by decide +kernel), List.mem_of_getElem? (i := 751) (by decide +kernel), List.mem_of_getElem? (i := 752) (by decide +kernel)⟩
theorem lw_p14 : lw_okq (⟨"Lanternserver$Reader", "judge", "()I"⟩, 19) := ⟨⟨by decide +kernel, by decide +kernel⟩, List.mem_of_getElem? (i := 374) (by decide +kernel), List.mem_of_getElem? (i := 811) (by decide +kernel), List.mem_of_getElem? (i := 812) (by decide +kernel)⟩
theorem lw_p15 : lw_okq (⟨"Lanternserver$Reader", "noteVersion", "()V"⟩, 19) := ⟨⟨by decide +kernel, by decide +kernel⟩, List.mem_of_getElem? (i := 374) (by decide +kernel), List.mem_of_getElem? (i := 815) (by decide +kernel), List.mem_of_getElem? (i := 816) (by decide +kernel)⟩
def lw_privs_1 : List (MethodName × Nat) := [(⟨"java/util/ArrayList", "add", "(Ljava/lang/Object;[Ljava/lang/Object;I)V"⟩, 3), (⟨"java/util/ArrayList", "grow", "()[Ljava/lang/Object;"⟩, 3), (⟨"java/util/ArrayList", "grow", "(I)[Ljava/lang/Object;"⟩, 3), (⟨"Lanternserver", "servedMany", "()I"⟩, 17), (⟨"Lanternserver", "isServedNaively", "(I)Z"⟩, 17), (⟨"Lanternserver", "servedNumber", "(II)I"⟩, 17), (⟨"Lanternserver", "hasConnection", "(I)Z"⟩, 17), (⟨"Lanternserver$Reader", "feedBody", "(I)I"⟩, 19), (⟨"Lanternserver$Reader", "feedSize", "(I)I"⟩, 19), (⟨"Lanternserver$Reader", "expect", "(III)I"⟩, 19), (⟨"Lanternserver$Reader", "wrongInHead", "(I)I"⟩, 19), (⟨"Lanternserver$Reader", "canStand", "(I)Z"⟩, 19), (⟨"Lanternserver$Reader", "stepOn", "(I)V"⟩, 19), (⟨"Lanternserver$Reader", "methodIn", "()I"⟩, 19), (⟨"Lanternserver$Reader", "judge", "()I"⟩, 19), (⟨"Lanternserver$Reader", "noteVersion", "()V"⟩, 19)]
theorem lw_r1 : ∀ q ∈ lw_privs_1, lw_okq q := List.forall_mem_cons.mpr ⟨lw_p0, List.forall_mem_cons.mpr ⟨lw_p1, List.forall_mem_cons.mpr ⟨lw_p2, List.forall_mem_cons.mpr ⟨lw_p3, List.forall_mem_cons.mpr ⟨lw_p4, List.forall_mem_cons.mpr ⟨lw_p5, List.forall_mem_cons.mpr ⟨lw_p6, List.forall_mem_cons.mpr ⟨lw_p7, List.forall_mem_cons.mpr ⟨lw_p8, List.forall_mem_cons.mpr ⟨lw_p9, List.forall_mem_cons.mpr ⟨lw_p10, List.forall_mem_cons.mpr ⟨lw_p11, List.forall_mem_cons.mpr ⟨lw_p12, List.forall_mem_cons.mpr ⟨lw_p13, List.forall_mem_cons.mpr ⟨lw_p14, List.forall_mem_cons.mpr ⟨lw_p15, fun _ h => absurd h List.not_mem_nil⟩⟩⟩⟩⟩⟩⟩⟩⟩⟩⟩⟩⟩⟩⟩⟩
theorem lw_p16 : lw_okq (⟨"Lanternserver$Reader", "noteField", "()V"⟩, 19) := ⟨⟨by decide +kernel, by decide +kernel⟩, List.mem_of_getElem? (i := 374) (by decide +kernel), List.mem_of_getElem? (i := 821) (by decide +kernel), List.mem_of_getElem? (i := 822) (by decide +kernel)⟩
theorem lw_p17 : lw_okq (⟨"Lanternserver$Reader", "noteLength", "(I)V"⟩, 19) := ⟨⟨by decide +kernel, by decide +kernel⟩, List.mem_of_getElem? (i := 374) (by decide +kernel), List.mem_of_getElem? (i := 836) (by decide +kernel), List.mem_of_getElem? (i := 837) (by decide +kernel)⟩
theorem lw_p18 : lw_okq (⟨"Lanternserver$Reader", "noteValue", "(LLanternserver$Row;II)V"⟩, 19) := ⟨⟨by decide +kernel, by decide +kernel⟩, List.mem_of_getElem? (i := 374) (by decide +kernel), List.mem_of_getElem? (i := 846) (by decide +kernel), List.mem_of_getElem? (i := 847) (by decide +kernel)⟩
theorem lw_p19 : lw_okq (⟨"Lanternserver$House", "showList", "()I"⟩, 11) := ⟨⟨by decide +kernel, by decide +kernel⟩, List.mem_of_getElem? (i := 326) (by decide +kernel), List.mem_of_getElem? (i := 867) (by decide +kernel), List.mem_of_getElem? (i := 868) (by decide +kernel)⟩
theorem lw_p20 : lw_okq (⟨"Lanternserver$House", "placeOf", "(LLanternserver$Row;)I"⟩, 11) := ⟨⟨by decide +kernel, by decide +kernel⟩, List.mem_of_getElem? (i := 326) (by decide +kernel), List.mem_of_getElem? (i := 873) (by decide +kernel), List.mem_of_getElem? (i := 874) (by decide +kernel)⟩
theorem lw_p21 : lw_okq (⟨"Lanternserver$House", "show", "(LLanternserver$Reader;I)I"⟩, 11) := ⟨⟨by decide +kernel, by decide +kernel⟩, List.mem_of_getElem? (i := 326) (by decide +kernel), List.mem_of_getElem? (i := 882) (by decide +kernel), List.mem_of_getElem? (i := 883) (by decide +kernel)⟩
theorem lw_p22 : lw_okq (⟨"Lanternserver$House", "isMatched", "(LLanternserver$Row;IZ)Z"⟩, 11) := ⟨⟨by decide +kernel, by decide +kernel⟩, List.mem_of_getElem? (i := 326) (by decide +kernel), List.mem_of_getElem? (i := 886) (by decide +kernel), List.mem_of_getElem? (i := 887) (by decide +kernel)⟩
theorem lw_p23 : lw_okq (⟨"Lanternserver$House", "cutRange", "(LLanternserver$Row;)I"⟩, 11) := ⟨⟨by decide +kernel, by decide +kernel⟩, List.mem_of_getElem? (i := 326) (by decide +kernel), List.mem_of_getElem? (i := 903) (by decide +kernel), List.mem_of_getElem? (i := 904) (by decide +kernel)⟩
theorem lw_p24 : lw_okq (⟨"Lanternserver$House", "replace", "(LLanternserver$Reader;I)I"⟩, 11) := ⟨⟨by decide +kernel, by decide +kernel⟩, List.mem_of_getElem? (i := 326) (by decide +kernel), List.mem_of_getElem? (i := 912) (by decide +kernel), List.mem_of_getElem? (i := 913) (by decide +kernel)⟩
theorem lw_p25 : lw_okq (⟨"Lanternserver$House", "insert", "(LLanternserver$Row;)I"⟩, 11) := ⟨⟨by decide +kernel, by decide +kernel⟩, List.mem_of_getElem? (i := 326) (by decide +kernel), List.mem_of_getElem? (i := 916) (by decide +kernel), List.mem_of_getElem? (i := 917) (by decide +kernel)⟩
theorem lw_p26 : lw_okq (⟨"Lanternserver$House", "change", "(I)V"⟩, 11) := ⟨⟨by decide +kernel, by decide +kernel⟩, List.mem_of_getElem? (i := 326) (by decide +kernel), List.mem_of_getElem? (i := 920) (by decide +kernel), List.mem_of_getElem? (i := 921) (by decide +kernel)⟩
theorem lw_p27 : lw_okq (⟨"Lanternserver$House", "append", "(LLanternserver$Reader;I)I"⟩, 11) := ⟨⟨by decide +kernel, by decide +kernel⟩, List.mem_of_getElem? (i := 326) (by decide +kernel), List.mem_of_getElem? (i := 924) (by decide +kernel), List.mem_of_getElem? (i := 925) (by decide +kernel)⟩
theorem lw_p28 : lw_okq (⟨"Lanternserver$House", "remove", "(I)V"⟩, 11) := ⟨⟨by decide +kernel, by decide +kernel⟩, List.mem_of_getElem? (i := 326) (by decide +kernel), List.mem_of_getElem? (i := 928) (by decide +kernel), List.mem_of_getElem? (i := 929) (by decide +kernel)⟩
theorem lw_p29 : lw_okq (⟨"Lanternserver$House", "writeRange", "(ILLanternserver$Row;)V"⟩, 11) := ⟨⟨by decide +kernel, by decide +kernel⟩, List.mem_of_getElem? (i := 326) (by decide +kernel), List.mem_of_getElem? (i := 969) (by decide +kernel), List.mem_of_getElem? (i := 970) (by decide +kernel)⟩
theorem lw_p30 : lw_okq (⟨"Lanternserver", "hasReadOtherwise", "(LLanternserver$Connection;)Z"⟩, 17) := ⟨⟨by decide +kernel, by decide +kernel⟩, List.mem_of_getElem? (i := 46) (by decide +kernel), List.mem_of_getElem? (i := 1002) (by decide +kernel), List.mem_of_getElem? (i := 1003) (by decide +kernel)⟩
theorem lw_p31 : lw_okq (⟨"java/lang/Throwable", "fillInStackTrace", "(I)Ljava/lang/Throwable;"⟩, 6) := ⟨⟨by decide +kernel, by decide +kernel⟩, List.mem_of_getElem? (i := 1073) (by decide +kernel), List.mem_of_getElem? (i := 1071) (by decide +kernel), List.mem_of_getElem? (i := 1072) (by decide +kernel)⟩
def lw_privs_2 : List (MethodName × Nat) := [(⟨"Lanternserver$Reader", "noteField", "()V"⟩, 19), (⟨"Lanternserver$Reader", "noteLength", "(I)V"⟩, 19), (⟨"Lanternserver$Reader", "noteValue", "(LLanternserver$Row;II)V"⟩, 19), (⟨"Lanternserver$House", "showList", "()I"⟩, 11), (⟨"Lanternserver$House", "placeOf", "(LLanternserver$Row;)I"⟩, 11), (⟨"Lanternserver$House", "show", "(LLanternserver$Reader;I)I"⟩, 11), (⟨"Lanternserver$House", "isMatched", "(LLanternserver$Row;IZ)Z"⟩, 11), (⟨"Lanternserver$House", "cutRange", "(LLanternserver$Row;)I"⟩, 11), (⟨"Lanternserver$House", "replace", "(LLanternserver$Reader;I)I"⟩, 11), (⟨"Lanternserver$House", "insert", "(LLanternserver$Row;)I"⟩, 11), (⟨"Lanternserver$House", "change", "(I)V"⟩, 11), (⟨"Lanternserver$House", "append", "(LLanternserver$Reader;I)I"⟩, 11), (⟨"Lanternserver$House", "remove", "(I)V"⟩, 11), (⟨"Lanternserver$House", "writeRange", "(ILLanternserver$Row;)V"⟩, 11), (⟨"Lanternserver", "hasReadOtherwise", "(LLanternserver$Connection;)Z"⟩, 17), (⟨"java/lang/Throwable", "fillInStackTrace", "(I)Ljava/lang/Throwable;"⟩, 6)]
theorem lw_r2 : ∀ q ∈ lw_privs_2, lw_okq q := List.forall_mem_cons.mpr ⟨lw_p16, List.forall_mem_cons.mpr ⟨lw_p17, List.forall_mem_cons.mpr ⟨lw_p18, List.forall_mem_cons.mpr ⟨lw_p19, List.forall_mem_cons.mpr ⟨lw_p20, List.forall_mem_cons.mpr ⟨lw_p21, List.forall_mem_cons.mpr ⟨lw_p22, List.forall_mem_cons.mpr ⟨lw_p23, List.forall_mem_cons.mpr ⟨lw_p24, List.forall_mem_cons.mpr ⟨lw_p25, List.forall_mem_cons.mpr ⟨lw_p26, List.forall_mem_cons.mpr ⟨lw_p27, List.forall_mem_cons.mpr ⟨lw_p28, List.forall_mem_cons.mpr ⟨lw_p29, List.forall_mem_cons.mpr ⟨lw_p30, List.forall_mem_cons.mpr ⟨lw_p31, fun _ h => absurd h List.not_mem_nil⟩⟩⟩⟩⟩⟩⟩⟩⟩⟩⟩⟩⟩⟩⟩⟩
theorem lw_p32 : lw_okq (⟨"Lanternserver", "typeNumber", "(J)V"⟩, 17) := ⟨⟨by decide +kernel, by decide +kernel⟩, List.mem_of_getElem? (i := 46) (by decide +kernel), List.mem_of_getElem? (i := 1102) (by decide +kernel), List.mem_of_getElem? (i := 1103) (by decide +kernel)⟩
theorem lw_p33 : lw_okq (⟨"Lanternserver", "hasHost", "(I)Z"⟩, 17) := ⟨⟨by decide +kernel, by decide +kernel⟩, List.mem_of_getElem? (i := 46) (by decide +kernel), List.mem_of_getElem? (i := 1191) (by decide +kernel), List.mem_of_getElem? (i := 1192) (by decide +kernel)⟩
theorem lw_p34 : lw_okq (⟨"Lanternserver", "carryOne", "(I)I"⟩, 17) := ⟨⟨by decide +kernel, by decide +kernel⟩, List.mem_of_getElem? (i := 46) (by decide +kernel), List.mem_of_getElem? (i := 1232) (by decide +kernel), List.mem_of_getElem? (i := 1233) (by decide +kernel)⟩
theorem lw_p35 : lw_okq (⟨"Lanternserver$Host", "takeMessage", "(LLanternserver$Row;I)V"⟩, 16) := ⟨⟨by decide +kernel, by decide +kernel⟩, List.mem_of_getElem? (i := 447) (by decide +kernel), List.mem_of_getElem? (i := 1260) (by decide +kernel), List.mem_of_getElem? (i := 1261) (by decide +kernel)⟩
theorem lw_p36 : lw_okq (⟨"Lanternserver$Host", "learn", "(IIJI)V"⟩, 16) := ⟨⟨by decide +kernel, by decide +kernel⟩, List.mem_of_getElem? (i := 447) (by decide +kernel), List.mem_of_getElem? (i := 1267) (by decide +kernel), List.mem_of_getElem? (i := 1268) (by decide +kernel)⟩
theorem lw_p37 : lw_okq (⟨"Lanternserver$Host", "isDatagram", "(LLanternserver$Row;)Z"⟩, 16) := ⟨⟨by decide +kernel, by decide +kernel⟩, List.mem_of_getElem? (i := 447) (by decide +kernel), List.mem_of_getElem? (i := 1280) (by decide +kernel), List.mem_of_getElem? (i := 1281) (by decide +kernel)⟩
theorem lw_p38 : lw_okq (⟨"Lanternserver$Host", "takeDatagram", "(LLanternserver$Row;ILLanternserver$Datagram;)Z"⟩, 16) := ⟨⟨by decide +kernel, by decide +kernel⟩, List.mem_of_getElem? (i := 447) (by decide +kernel), List.mem_of_getElem? (i := 1286) (by decide +kernel), List.mem_of_getElem? (i := 1287) (by decide +kernel)⟩
theorem lw_p39 : lw_okq (⟨"Lanternserver$Host", "keptPlace", "(LLanternserver$Datagram;)I"⟩, 16) := ⟨⟨by decide +kernel, by decide +kernel⟩, List.mem_of_getElem? (i := 447) (by decide +kernel), List.mem_of_getElem? (i := 1296) (by decide +kernel), List.mem_of_getElem? (i := 1297) (by decide +kernel)⟩
theorem lw_p40 : lw_okq (⟨"Lanternserver$Host", "dropKept", "(I)V"⟩, 16) := ⟨⟨by decide +kernel, by decide +kernel⟩, List.mem_of_getElem? (i := 447) (by decide +kernel), List.mem_of_getElem? (i := 1300) (by decide +kernel), List.mem_of_getElem? (i := 1301) (by decide +kernel)⟩
theorem lw_p41 : lw_okq (⟨"Lanternserver$Host", "sendPieces", "(LLanternserver$Datagram;JLLanternserver$Wire;)V"⟩, 16) := ⟨⟨by decide +kernel, by decide +kernel⟩, List.mem_of_getElem? (i := 447) (by decide +kernel), List.mem_of_getElem? (i := 1564) (by decide +kernel), List.mem_of_getElem? (i := 1565) (by decide +kernel)⟩
theorem lw_p42 : lw_okq (⟨"Lanternserver$Host", "sendPart", "(LLanternserver$Wire;LLanternserver$Datagram;JII)V"⟩, 16) := ⟨⟨by decide +kernel, by decide +kernel⟩, List.mem_of_getElem? (i := 447) (by decide +kernel), List.mem_of_getElem? (i := 1568) (by decide +kernel), List.mem_of_getElem? (i := 1569) (by decide +kernel)⟩
theorem lw_p43 : lw_okq (⟨"Lanternserver$Host", "dropWaiting", "(I)V"⟩, 16) := ⟨⟨by decide +kernel, by decide +kernel⟩, List.mem_of_getElem? (i := 447) (by decide +kernel), List.mem_of_getElem? (i := 1593) (by decide +kernel), List.mem_of_getElem? (i := 1594) (by decide +kernel)⟩
theorem lw_p44 : lw_okq (⟨"Lanternserver$Host", "sendMessage", "(LLanternserver$Wire;IJJI)V"⟩, 16) := ⟨⟨by decide +kernel, by decide +kernel⟩, List.mem_of_getElem? (i := 447) (by decide +kernel), List.mem_of_getElem? (i := 1597) (by decide +kernel), List.mem_of_getElem? (i := 1598) (by decide +kernel)⟩
theorem lw_p45 : lw_okq (⟨"Lanternserver", "takeEcho", "(I)V"⟩, 17) := ⟨⟨by decide +kernel, by decide +kernel⟩, List.mem_of_getElem? (i := 46) (by decide +kernel), List.mem_of_getElem? (i := 1601) (by decide +kernel), List.mem_of_getElem? (i := 1602) (by decide +kernel)⟩
theorem lw_p46 : lw_okq (⟨"Lanternserver", "takeNames", "(I)V"⟩, 17) := ⟨⟨by decide +kernel, by decide +kernel⟩, List.mem_of_getElem? (i := 46) (by decide +kernel), List.mem_of_getElem? (i := 1613) (by decide +kernel), List.mem_of_getElem? (i := 1614) (by decide +kernel)⟩
theorem lw_p47 : lw_okq (⟨"Lanternserver", "answerName", "()V"⟩, 17) := ⟨⟨by decide +kernel, by decide +kernel⟩, List.mem_of_getElem? (i := 46) (by decide +kernel), List.mem_of_getElem? (i := 1622) (by decide +kernel), List.mem_of_getElem? (i := 1623) (by decide +kernel)⟩
def lw_privs_3 : List (MethodName × Nat) := [(⟨"Lanternserver", "typeNumber", "(J)V"⟩, 17), (⟨"Lanternserver", "hasHost", "(I)Z"⟩, 17), (⟨"Lanternserver", "carryOne", "(I)I"⟩, 17), (⟨"Lanternserver$Host", "takeMessage", "(LLanternserver$Row;I)V"⟩, 16), (⟨"Lanternserver$Host", "learn", "(IIJI)V"⟩, 16), (⟨"Lanternserver$Host", "isDatagram", "(LLanternserver$Row;)Z"⟩, 16), (⟨"Lanternserver$Host", "takeDatagram", "(LLanternserver$Row;ILLanternserver$Datagram;)Z"⟩, 16), (⟨"Lanternserver$Host", "keptPlace", "(LLanternserver$Datagram;)I"⟩, 16), (⟨"Lanternserver$Host", "dropKept", "(I)V"⟩, 16), (⟨"Lanternserver$Host", "sendPieces", "(LLanternserver$Datagram;JLLanternserver$Wire;)V"⟩, 16), (⟨"Lanternserver$Host", "sendPart", "(LLanternserver$Wire;LLanternserver$Datagram;JII)V"⟩, 16), (⟨"Lanternserver$Host", "dropWaiting", "(I)V"⟩, 16), (⟨"Lanternserver$Host", "sendMessage", "(LLanternserver$Wire;IJJI)V"⟩, 16), (⟨"Lanternserver", "takeEcho", "(I)V"⟩, 17), (⟨"Lanternserver", "takeNames", "(I)V"⟩, 17), (⟨"Lanternserver", "answerName", "()V"⟩, 17)]
theorem lw_r3 : ∀ q ∈ lw_privs_3, lw_okq q := List.forall_mem_cons.mpr ⟨lw_p32, List.forall_mem_cons.mpr ⟨lw_p33, List.forall_mem_cons.mpr ⟨lw_p34, List.forall_mem_cons.mpr ⟨lw_p35, List.forall_mem_cons.mpr ⟨lw_p36, List.forall_mem_cons.mpr ⟨lw_p37, List.forall_mem_cons.mpr ⟨lw_p38, List.forall_mem_cons.mpr ⟨lw_p39, List.forall_mem_cons.mpr ⟨lw_p40, List.forall_mem_cons.mpr ⟨lw_p41, List.forall_mem_cons.mpr ⟨lw_p42, List.forall_mem_cons.mpr ⟨lw_p43, List.forall_mem_cons.mpr ⟨lw_p44, List.forall_mem_cons.mpr ⟨lw_p45, List.forall_mem_cons.mpr ⟨lw_p46, List.forall_mem_cons.mpr ⟨lw_p47, fun _ h => absurd h List.not_mem_nil⟩⟩⟩⟩⟩⟩⟩⟩⟩⟩⟩⟩⟩⟩⟩⟩
theorem lw_p48 : lw_okq (⟨"Lanternserver", "ownerOf", "(LLanternserver$Row;II)I"⟩, 17) := ⟨⟨by decide +kernel, by decide +kernel⟩, List.mem_of_getElem? (i := 46) (by decide +kernel), List.mem_of_getElem? (i := 1634) (by decide +kernel), List.mem_of_getElem? (i := 1635) (by decide +kernel)⟩
theorem lw_p49 : lw_okq (⟨"Lanternserver", "takeAnswer", "(I)V"⟩, 17) := ⟨⟨by decide +kernel, by decide +kernel⟩, List.mem_of_getElem? (i := 46) (by decide +kernel), List.mem_of_getElem? (i := 1650) (by decide +kernel), List.mem_of_getElem? (i := 1651) (by decide +kernel)⟩
theorem lw_p50 : lw_okq (⟨"Lanternserver", "takeSegment", "(I)V"⟩, 17) := ⟨⟨by decide +kernel, by decide +kernel⟩, List.mem_of_getElem? (i := 46) (by decide +kernel), List.mem_of_getElem? (i := 1654) (by decide +kernel), List.mem_of_getElem? (i := 1655) (by decide +kernel)⟩
theorem lw_p51 : lw_okq (⟨"Lanternserver", "connectionOf", "(I)LLanternserver$Connection;"⟩, 17) := ⟨⟨by decide +kernel, by decide +kernel⟩, List.mem_of_getElem? (i := 46) (by decide +kernel), List.mem_of_getElem? (i := 1675) (by decide +kernel), List.mem_of_getElem? (i := 1676) (by decide +kernel)⟩
theorem lw_p52 : lw_okq (⟨"Lanternserver", "isBeginning", "(I)Z"⟩, 17) := ⟨⟨by decide +kernel, by decide +kernel⟩, List.mem_of_getElem? (i := 46) (by decide +kernel), List.mem_of_getElem? (i := 1679) (by decide +kernel), List.mem_of_getElem? (i := 1680) (by decide +kernel)⟩
theorem lw_p53 : lw_okq (⟨"Lanternserver", "openMany", "(Z)I"⟩, 17) := ⟨⟨by decide +kernel, by decide +kernel⟩, List.mem_of_getElem? (i := 46) (by decide +kernel), List.mem_of_getElem? (i := 1684) (by decide +kernel), List.mem_of_getElem? (i := 1685) (by decide +kernel)⟩
theorem lw_p54 : lw_okq (⟨"Lanternserver", "newServers", "()LLanternserver$Connection;"⟩, 17) := ⟨⟨by decide +kernel, by decide +kernel⟩, List.mem_of_getElem? (i := 46) (by decide +kernel), List.mem_of_getElem? (i := 1692) (by decide +kernel), List.mem_of_getElem? (i := 1693) (by decide +kernel)⟩
theorem lw_p55 : lw_okq (⟨"Lanternserver$Connection", "sendNew", "(II)V"⟩, 19) := ⟨⟨by decide +kernel, by decide +kernel⟩, List.mem_of_getElem? (i := 1695) (by decide +kernel), List.mem_of_getElem? (i := 1913) (by decide +kernel), List.mem_of_getElem? (i := 1914) (by decide +kernel)⟩
theorem lw_p56 : lw_okq (⟨"Lanternserver$Connection", "emit", "(IIII)V"⟩, 19) := ⟨⟨by decide +kernel, by decide +kernel⟩, List.mem_of_getElem? (i := 1695) (by decide +kernel), List.mem_of_getElem? (i := 1921) (by decide +kernel), List.mem_of_getElem? (i := 1922) (by decide +kernel)⟩
theorem lw_p57 : lw_okq (⟨"Lanternserver$Connection", "arriveAsked", "(LLanternserver$Segment;)Z"⟩, 19) := ⟨⟨by decide +kernel, by decide +kernel⟩, List.mem_of_getElem? (i := 1695) (by decide +kernel), List.mem_of_getElem? (i := 1955) (by decide +kernel), List.mem_of_getElem? (i := 1956) (by decide +kernel)⟩
theorem lw_p58 : lw_okq (⟨"Lanternserver$Connection", "end", "(I)V"⟩, 19) := ⟨⟨by decide +kernel, by decide +kernel⟩, List.mem_of_getElem? (i := 1695) (by decide +kernel), List.mem_of_getElem? (i := 1961) (by decide +kernel), List.mem_of_getElem? (i := 1962) (by decide +kernel)⟩
theorem lw_p59 : lw_okq (⟨"Lanternserver$Connection", "establish", "(LLanternserver$Segment;)V"⟩, 19) := ⟨⟨by decide +kernel, by decide +kernel⟩, List.mem_of_getElem? (i := 1695) (by decide +kernel), List.mem_of_getElem? (i := 1965) (by decide +kernel), List.mem_of_getElem? (i := 1966) (by decide +kernel)⟩
theorem lw_p60 : lw_okq (⟨"Lanternserver$Connection", "sendAgain", "()V"⟩, 19) := ⟨⟨by decide +kernel, by decide +kernel⟩, List.mem_of_getElem? (i := 1695) (by decide +kernel), List.mem_of_getElem? (i := 1969) (by decide +kernel), List.mem_of_getElem? (i := 1970) (by decide +kernel)⟩
theorem lw_p61 : lw_okq (⟨"Lanternserver$Connection", "flagsOf", "(I)I"⟩, 19) := ⟨⟨by decide +kernel, by decide +kernel⟩, List.mem_of_getElem? (i := 1695) (by decide +kernel), List.mem_of_getElem? (i := 1978) (by decide +kernel), List.mem_of_getElem? (i := 1979) (by decide +kernel)⟩
theorem lw_p62 : lw_okq (⟨"Lanternserver$Connection", "isThirdDouble", "(LLanternserver$Segment;)Z"⟩, 19) := ⟨⟨by decide +kernel, by decide +kernel⟩, List.mem_of_getElem? (i := 1695) (by decide +kernel), List.mem_of_getElem? (i := 1985) (by decide +kernel), List.mem_of_getElem? (i := 1986) (by decide +kernel)⟩
theorem lw_p63 : lw_okq (⟨"Lanternserver$Sender", "measure", "(I)V"⟩, 20) := ⟨⟨by decide +kernel, by decide +kernel⟩, List.mem_of_getElem? (i := 1741) (by decide +kernel), List.mem_of_getElem? (i := 1995) (by decide +kernel), List.mem_of_getElem? (i := 1996) (by decide +kernel)⟩
def lw_privs_4 : List (MethodName × Nat) := [(⟨"Lanternserver", "ownerOf", "(LLanternserver$Row;II)I"⟩, 17), (⟨"Lanternserver", "takeAnswer", "(I)V"⟩, 17), (⟨"Lanternserver", "takeSegment", "(I)V"⟩, 17), (⟨"Lanternserver", "connectionOf", "(I)LLanternserver$Connection;"⟩, 17), (⟨"Lanternserver", "isBeginning", "(I)Z"⟩, 17), (⟨"Lanternserver", "openMany", "(Z)I"⟩, 17), (⟨"Lanternserver", "newServers", "()LLanternserver$Connection;"⟩, 17), (⟨"Lanternserver$Connection", "sendNew", "(II)V"⟩, 19), (⟨"Lanternserver$Connection", "emit", "(IIII)V"⟩, 19), (⟨"Lanternserver$Connection", "arriveAsked", "(LLanternserver$Segment;)Z"⟩, 19), (⟨"Lanternserver$Connection", "end", "(I)V"⟩, 19), (⟨"Lanternserver$Connection", "establish", "(LLanternserver$Segment;)V"⟩, 19), (⟨"Lanternserver$Connection", "sendAgain", "()V"⟩, 19), (⟨"Lanternserver$Connection", "flagsOf", "(I)I"⟩, 19), (⟨"Lanternserver$Connection", "isThirdDouble", "(LLanternserver$Segment;)Z"⟩, 19), (⟨"Lanternserver$Sender", "measure", "(I)V"⟩, 20)]
theorem lw_r4 : ∀ q ∈ lw_privs_4, lw_okq q := List.forall_mem_cons.mpr ⟨lw_p48, List.forall_mem_cons.mpr ⟨lw_p49, List.forall_mem_cons.mpr ⟨lw_p50, List.forall_mem_cons.mpr ⟨lw_p51, List.forall_mem_cons.mpr ⟨lw_p52, List.forall_mem_cons.mpr ⟨lw_p53, List.forall_mem_cons.mpr ⟨lw_p54, List.forall_mem_cons.mpr ⟨lw_p55, List.forall_mem_cons.mpr ⟨lw_p56, List.forall_mem_cons.mpr ⟨lw_p57, List.forall_mem_cons.mpr ⟨lw_p58, List.forall_mem_cons.mpr ⟨lw_p59, List.forall_mem_cons.mpr ⟨lw_p60, List.forall_mem_cons.mpr ⟨lw_p61, List.forall_mem_cons.mpr ⟨lw_p62, List.forall_mem_cons.mpr ⟨lw_p63, fun _ h => absurd h List.not_mem_nil⟩⟩⟩⟩⟩⟩⟩⟩⟩⟩⟩⟩⟩⟩⟩⟩
theorem lw_p64 : lw_okq (⟨"Lanternserver$Connection", "isEndedByAcknowledgement", "()Z"⟩, 19) := ⟨⟨by decide +kernel, by decide +kernel⟩, List.mem_of_getElem? (i := 1695) (by decide +kernel), List.mem_of_getElem? (i := 2016) (by decide +kernel), List.mem_of_getElem? (i := 2017) (by decide +kernel)⟩
theorem lw_p65 : lw_okq (⟨"Lanternserver$Connection", "waitOut", "()V"⟩, 19) := ⟨⟨by decide +kernel, by decide +kernel⟩, List.mem_of_getElem? (i := 1695) (by decide +kernel), List.mem_of_getElem? (i := 2020) (by decide +kernel), List.mem_of_getElem? (i := 2021) (by decide +kernel)⟩
theorem lw_p66 : lw_okq (⟨"Lanternserver$Connection", "takeIn", "(LLanternserver$Segment;)V"⟩, 19) := ⟨⟨by decide +kernel, by decide +kernel⟩, List.mem_of_getElem? (i := 1695) (by decide +kernel), List.mem_of_getElem? (i := 2024) (by decide +kernel), List.mem_of_getElem? (i := 2025) (by decide +kernel)⟩
theorem lw_p67 : lw_okq (⟨"Lanternserver$Receiver", "joinPieces", "()V"⟩, 8) := ⟨⟨by decide +kernel, by decide +kernel⟩, List.mem_of_getElem? (i := 1701) (by decide +kernel), List.mem_of_getElem? (i := 2035) (by decide +kernel), List.mem_of_getElem? (i := 2036) (by decide +kernel)⟩
theorem lw_p68 : lw_okq (⟨"Lanternserver$Receiver", "firstPiece", "()I"⟩, 8) := ⟨⟨by decide +kernel, by decide +kernel⟩, List.mem_of_getElem? (i := 1701) (by decide +kernel), List.mem_of_getElem? (i := 2039) (by decide +kernel), List.mem_of_getElem? (i := 2040) (by decide +kernel)⟩
theorem lw_p69 : lw_okq (⟨"Lanternserver", "serversOf", "(LLanternserver$Connection;I)I"⟩, 17) := ⟨⟨by decide +kernel, by decide +kernel⟩, List.mem_of_getElem? (i := 46) (by decide +kernel), List.mem_of_getElem? (i := 2045) (by decide +kernel), List.mem_of_getElem? (i := 2046) (by decide +kernel)⟩
theorem lw_p70 : lw_okq (⟨"Lanternserver", "serve", "(LLanternserver$Connection;)V"⟩, 17) := ⟨⟨by decide +kernel, by decide +kernel⟩, List.mem_of_getElem? (i := 46) (by decide +kernel), List.mem_of_getElem? (i := 2049) (by decide +kernel), List.mem_of_getElem? (i := 2050) (by decide +kernel)⟩
theorem lw_p71 : lw_okq (⟨"Lanternserver", "noteServed", "(LLanternserver$Connection;II)V"⟩, 17) := ⟨⟨by decide +kernel, by decide +kernel⟩, List.mem_of_getElem? (i := 46) (by decide +kernel), List.mem_of_getElem? (i := 2075) (by decide +kernel), List.mem_of_getElem? (i := 2076) (by decide +kernel)⟩
theorem lw_p72 : lw_okq (⟨"Lanternserver$Connection", "isSending", "()Z"⟩, 19) := ⟨⟨by decide +kernel, by decide +kernel⟩, List.mem_of_getElem? (i := 1695) (by decide +kernel), List.mem_of_getElem? (i := 2083) (by decide +kernel), List.mem_of_getElem? (i := 2084) (by decide +kernel)⟩
theorem lw_p73 : lw_okq (⟨"Lanternserver$Connection", "noteProbing", "()V"⟩, 19) := ⟨⟨by decide +kernel, by decide +kernel⟩, List.mem_of_getElem? (i := 1695) (by decide +kernel), List.mem_of_getElem? (i := 2092) (by decide +kernel), List.mem_of_getElem? (i := 2093) (by decide +kernel)⟩
theorem lw_p74 : lw_okq (⟨"Lanternserver", "postAll", "()V"⟩, 17) := ⟨⟨by decide +kernel, by decide +kernel⟩, List.mem_of_getElem? (i := 46) (by decide +kernel), List.mem_of_getElem? (i := 2096) (by decide +kernel), List.mem_of_getElem? (i := 2097) (by decide +kernel)⟩
theorem lw_p75 : lw_okq (⟨"Lanternserver$Host", "ask", "(ILLanternserver$Wire;)V"⟩, 16) := ⟨⟨by decide +kernel, by decide +kernel⟩, List.mem_of_getElem? (i := 447) (by decide +kernel), List.mem_of_getElem? (i := 2105) (by decide +kernel), List.mem_of_getElem? (i := 2106) (by decide +kernel)⟩
theorem lw_p76 : lw_okq (⟨"Lanternserver", "tick", "()V"⟩, 17) := ⟨⟨by decide +kernel, by decide +kernel⟩, List.mem_of_getElem? (i := 46) (by decide +kernel), List.mem_of_getElem? (i := 2176) (by decide +kernel), List.mem_of_getElem? (i := 2177) (by decide +kernel)⟩
theorem lw_p77 : lw_okq (⟨"Lanternserver$Connection", "runOut", "()V"⟩, 19) := ⟨⟨by decide +kernel, by decide +kernel⟩, List.mem_of_getElem? (i := 1695) (by decide +kernel), List.mem_of_getElem? (i := 2192) (by decide +kernel), List.mem_of_getElem? (i := 2193) (by decide +kernel)⟩
theorem lw_p78 : lw_okq (⟨"Lanternserver", "isTimerRunning", "()Z"⟩, 17) := ⟨⟨by decide +kernel, by decide +kernel⟩, List.mem_of_getElem? (i := 46) (by decide +kernel), List.mem_of_getElem? (i := 2209) (by decide +kernel), List.mem_of_getElem? (i := 2210) (by decide +kernel)⟩
theorem lw_p79 : lw_okq (⟨"Lanternserver", "readName", "()I"⟩, 17) := ⟨⟨by decide +kernel, by decide +kernel⟩, List.mem_of_getElem? (i := 46) (by decide +kernel), List.mem_of_getElem? (i := 2258) (by decide +kernel), List.mem_of_getElem? (i := 2259) (by decide +kernel)⟩
def lw_privs_5 : List (MethodName × Nat) := [(⟨"Lanternserver$Connection", "isEndedByAcknowledgement", "()Z"⟩, 19), (⟨"Lanternserver$Connection", "waitOut", "()V"⟩, 19), (⟨"Lanternserver$Connection", "takeIn", "(LLanternserver$Segment;)V"⟩, 19), (⟨"Lanternserver$Receiver", "joinPieces", "()V"⟩, 8), (⟨"Lanternserver$Receiver", "firstPiece", "()I"⟩, 8), (⟨"Lanternserver", "serversOf", "(LLanternserver$Connection;I)I"⟩, 17), (⟨"Lanternserver", "serve", "(LLanternserver$Connection;)V"⟩, 17), (⟨"Lanternserver", "noteServed", "(LLanternserver$Connection;II)V"⟩, 17), (⟨"Lanternserver$Connection", "isSending", "()Z"⟩, 19), (⟨"Lanternserver$Connection", "noteProbing", "()V"⟩, 19), (⟨"Lanternserver", "postAll", "()V"⟩, 17), (⟨"Lanternserver$Host", "ask", "(ILLanternserver$Wire;)V"⟩, 16), (⟨"Lanternserver", "tick", "()V"⟩, 17), (⟨"Lanternserver$Connection", "runOut", "()V"⟩, 19), (⟨"Lanternserver", "isTimerRunning", "()Z"⟩, 17), (⟨"Lanternserver", "readName", "()I"⟩, 17)]
theorem lw_r5 : ∀ q ∈ lw_privs_5, lw_okq q := List.forall_mem_cons.mpr ⟨lw_p64, List.forall_mem_cons.mpr ⟨lw_p65, List.forall_mem_cons.mpr ⟨lw_p66, List.forall_mem_cons.mpr ⟨lw_p67, List.forall_mem_cons.mpr ⟨lw_p68, List.forall_mem_cons.mpr ⟨lw_p69, List.forall_mem_cons.mpr ⟨lw_p70, List.forall_mem_cons.mpr ⟨lw_p71, List.forall_mem_cons.mpr ⟨lw_p72, List.forall_mem_cons.mpr ⟨lw_p73, List.forall_mem_cons.mpr ⟨lw_p74, List.forall_mem_cons.mpr ⟨lw_p75, List.forall_mem_cons.mpr ⟨lw_p76, List.forall_mem_cons.mpr ⟨lw_p77, List.forall_mem_cons.mpr ⟨lw_p78, List.forall_mem_cons.mpr ⟨lw_p79, fun _ h => absurd h List.not_mem_nil⟩⟩⟩⟩⟩⟩⟩⟩⟩⟩⟩⟩⟩⟩⟩⟩
theorem lw_p80 : lw_okq (⟨"Lanternserver", "servedWell", "()I"⟩, 17) := ⟨⟨by decide +kernel, by decide +kernel⟩, List.mem_of_getElem? (i := 46) (by decide +kernel), List.mem_of_getElem? (i := 2401) (by decide +kernel), List.mem_of_getElem? (i := 2402) (by decide +kernel)⟩
theorem lw_p81 : lw_okq (⟨"Lanternserver", "answeredEchoes", "()I"⟩, 17) := ⟨⟨by decide +kernel, by decide +kernel⟩, List.mem_of_getElem? (i := 46) (by decide +kernel), List.mem_of_getElem? (i := 2405) (by decide +kernel), List.mem_of_getElem? (i := 2406) (by decide +kernel)⟩
theorem lw_p82 : lw_okq (⟨"LanternserverModel", "fine", "(Z)Z"⟩, 96) := ⟨⟨by decide +kernel, by decide +kernel⟩, List.mem_of_getElem? (i := 2410) (by decide +kernel), List.mem_of_getElem? (i := 2796) (by decide +kernel), List.mem_of_getElem? (i := 2797) (by decide +kernel)⟩
theorem lw_p83 : lw_okq (⟨"LanternserverModel", "puts", "(J)V"⟩, 96) := ⟨⟨by decide +kernel, by decide +kernel⟩, List.mem_of_getElem? (i := 2410) (by decide +kernel), List.mem_of_getElem? (i := 2800) (by decide +kernel), List.mem_of_getElem? (i := 2801) (by decide +kernel)⟩
theorem lw_p84 : lw_okq (⟨"LanternserverModel", "fine", "(ZZ)Z"⟩, 96) := ⟨⟨by decide +kernel, by decide +kernel⟩, List.mem_of_getElem? (i := 2410) (by decide +kernel), List.mem_of_getElem? (i := 2812) (by decide +kernel), List.mem_of_getElem? (i := 2813) (by decide +kernel)⟩
theorem lw_p85 : lw_okq (⟨"LanternserverModel", "isHost", "(I)Z"⟩, 96) := ⟨⟨by decide +kernel, by decide +kernel⟩, List.mem_of_getElem? (i := 2410) (by decide +kernel), List.mem_of_getElem? (i := 2859) (by decide +kernel), List.mem_of_getElem? (i := 2860) (by decide +kernel)⟩
theorem lw_p86 : lw_okq (⟨"LanternserverModel", "delivers", "(I)I"⟩, 96) := ⟨⟨by decide +kernel, by decide +kernel⟩, List.mem_of_getElem? (i := 2410) (by decide +kernel), List.mem_of_getElem? (i := 2883) (by decide +kernel), List.mem_of_getElem? (i := 2884) (by decide +kernel)⟩
theorem lw_p87 : lw_okq (⟨"LanternserverModel", "takenOff", "(I)LLanternserverModel$Frame;"⟩, 96) := ⟨⟨by decide +kernel, by decide +kernel⟩, List.mem_of_getElem? (i := 2410) (by decide +kernel), List.mem_of_getElem? (i := 2887) (by decide +kernel), List.mem_of_getElem? (i := 2888) (by decide +kernel)⟩
theorem lw_p88 : lw_okq (⟨"LanternserverModel", "takes", "(I[I)V"⟩, 96) := ⟨⟨by decide +kernel, by decide +kernel⟩, List.mem_of_getElem? (i := 2410) (by decide +kernel), List.mem_of_getElem? (i := 2899) (by decide +kernel), List.mem_of_getElem? (i := 2900) (by decide +kernel)⟩
theorem lw_p89 : lw_okq (⟨"LanternserverModel", "takesMessage", "(I[I)Z"⟩, 96) := ⟨⟨by decide +kernel, by decide +kernel⟩, List.mem_of_getElem? (i := 2410) (by decide +kernel), List.mem_of_getElem? (i := 2906) (by decide +kernel), List.mem_of_getElem? (i := 2907) (by decide +kernel)⟩
theorem lw_p90 : lw_okq (⟨"LanternserverModel", "keeps", "(LLanternserverModel$Host;LLanternserverModel$Known;IJ)V"⟩, 96) := ⟨⟨by decide +kernel, by decide +kernel⟩, List.mem_of_getElem? (i := 2410) (by decide +kernel), List.mem_of_getElem? (i := 2911) (by decide +kernel), List.mem_of_getElem? (i := 2912) (by decide +kernel)⟩
theorem lw_p91 : lw_okq (⟨"LanternserverModel", "sendsWaiting", "(IIJ)V"⟩, 96) := ⟨⟨by decide +kernel, by decide +kernel⟩, List.mem_of_getElem? (i := 2410) (by decide +kernel), List.mem_of_getElem? (i := 2931) (by decide +kernel), List.mem_of_getElem? (i := 2932) (by decide +kernel)⟩
theorem lw_p92 : lw_okq (⟨"LanternserverModel", "sendsRows", "(IJ[[I)V"⟩, 96) := ⟨⟨by decide +kernel, by decide +kernel⟩, List.mem_of_getElem? (i := 2410) (by decide +kernel), List.mem_of_getElem? (i := 2935) (by decide +kernel), List.mem_of_getElem? (i := 2936) (by decide +kernel)⟩
theorem lw_p93 : lw_okq (⟨"LanternserverModel", "frame", "(IJI[IZ)V"⟩, 96) := ⟨⟨by decide +kernel, by decide +kernel⟩, List.mem_of_getElem? (i := 2410) (by decide +kernel), List.mem_of_getElem? (i := 2939) (by decide +kernel), List.mem_of_getElem? (i := 2940) (by decide +kernel)⟩
theorem lw_p94 : lw_okq (⟨"LanternserverModel", "toWire", "(LLanternserverModel$Frame;)V"⟩, 96) := ⟨⟨by decide +kernel, by decide +kernel⟩, List.mem_of_getElem? (i := 2410) (by decide +kernel), List.mem_of_getElem? (i := 2964) (by decide +kernel), List.mem_of_getElem? (i := 2965) (by decide +kernel)⟩
theorem lw_p95 : lw_okq (⟨"LanternserverModel", "takesDatagram", "(I[I)Z"⟩, 96) := ⟨⟨by decide +kernel, by decide +kernel⟩, List.mem_of_getElem? (i := 2410) (by decide +kernel), List.mem_of_getElem? (i := 2972) (by decide +kernel), List.mem_of_getElem? (i := 2973) (by decide +kernel)⟩
def lw_privs_6 : List (MethodName × Nat) := [(⟨"Lanternserver", "servedWell", "()I"⟩, 17), (⟨"Lanternserver", "answeredEchoes", "()I"⟩, 17), (⟨"LanternserverModel", "fine", "(Z)Z"⟩, 96), (⟨"LanternserverModel", "puts", "(J)V"⟩, 96), (⟨"LanternserverModel", "fine", "(ZZ)Z"⟩, 96), (⟨"LanternserverModel", "isHost", "(I)Z"⟩, 96), (⟨"LanternserverModel", "delivers", "(I)I"⟩, 96), (⟨"LanternserverModel", "takenOff", "(I)LLanternserverModel$Frame;"⟩, 96), (⟨"LanternserverModel", "takes", "(I[I)V"⟩, 96), (⟨"LanternserverModel", "takesMessage", "(I[I)Z"⟩, 96), (⟨"LanternserverModel", "keeps", "(LLanternserverModel$Host;LLanternserverModel$Known;IJ)V"⟩, 96), (⟨"LanternserverModel", "sendsWaiting", "(IIJ)V"⟩, 96), (⟨"LanternserverModel", "sendsRows", "(IJ[[I)V"⟩, 96), (⟨"LanternserverModel", "frame", "(IJI[IZ)V"⟩, 96), (⟨"LanternserverModel", "toWire", "(LLanternserverModel$Frame;)V"⟩, 96), (⟨"LanternserverModel", "takesDatagram", "(I[I)Z"⟩, 96)]
theorem lw_r6 : ∀ q ∈ lw_privs_6, lw_okq q := List.forall_mem_cons.mpr ⟨lw_p80, List.forall_mem_cons.mpr ⟨lw_p81, List.forall_mem_cons.mpr ⟨lw_p82, List.forall_mem_cons.mpr ⟨lw_p83, List.forall_mem_cons.mpr ⟨lw_p84, List.forall_mem_cons.mpr ⟨lw_p85, List.forall_mem_cons.mpr ⟨lw_p86, List.forall_mem_cons.mpr ⟨lw_p87, List.forall_mem_cons.mpr ⟨lw_p88, List.forall_mem_cons.mpr ⟨lw_p89, List.forall_mem_cons.mpr ⟨lw_p90, List.forall_mem_cons.mpr ⟨lw_p91, List.forall_mem_cons.mpr ⟨lw_p92, List.forall_mem_cons.mpr ⟨lw_p93, List.forall_mem_cons.mpr ⟨lw_p94, List.forall_mem_cons.mpr ⟨lw_p95, fun _ h => absurd h List.not_mem_nil⟩⟩⟩⟩⟩⟩⟩⟩⟩⟩⟩⟩⟩⟩⟩⟩
theorem lw_p96 : lw_okq (⟨"LanternserverModel", "took", "(IIII[I)V"⟩, 96) := ⟨⟨by decide +kernel, by decide +kernel⟩, List.mem_of_getElem? (i := 2410) (by decide +kernel), List.mem_of_getElem? (i := 2977) (by decide +kernel), List.mem_of_getElem? (i := 2978) (by decide +kernel)⟩
theorem lw_p97 : lw_okq (⟨"LanternserverModel", "hostWith", "(I)I"⟩, 96) := ⟨⟨by decide +kernel, by decide +kernel⟩, List.mem_of_getElem? (i := 2410) (by decide +kernel), List.mem_of_getElem? (i := 2981) (by decide +kernel), List.mem_of_getElem? (i := 2982) (by decide +kernel)⟩
theorem lw_p98 : lw_okq (⟨"LanternserverModel", "isRight", "(III[I)Z"⟩, 96) := ⟨⟨by decide +kernel, by decide +kernel⟩, List.mem_of_getElem? (i := 2410) (by decide +kernel), List.mem_of_getElem? (i := 2986) (by decide +kernel), List.mem_of_getElem? (i := 2987) (by decide +kernel)⟩
theorem lw_p99 : lw_okq (⟨"LanternserverModel", "hasNoSum", "(I[I)Z"⟩, 96) := ⟨⟨by decide +kernel, by decide +kernel⟩, List.mem_of_getElem? (i := 2410) (by decide +kernel), List.mem_of_getElem? (i := 2990) (by decide +kernel), List.mem_of_getElem? (i := 2991) (by decide +kernel)⟩
theorem lw_p100 : lw_okq (⟨"LanternserverModel", "wasSent", "(IIII[I)Z"⟩, 96) := ⟨⟨by decide +kernel, by decide +kernel⟩, List.mem_of_getElem? (i := 2410) (by decide +kernel), List.mem_of_getElem? (i := 2998) (by decide +kernel), List.mem_of_getElem? (i := 2999) (by decide +kernel)⟩
theorem lw_p101 : lw_okq (⟨"LanternserverModel", "echoComes", "(II[I)V"⟩, 96) := ⟨⟨by decide +kernel, by decide +kernel⟩, List.mem_of_getElem? (i := 2410) (by decide +kernel), List.mem_of_getElem? (i := 3006) (by decide +kernel), List.mem_of_getElem? (i := 3007) (by decide +kernel)⟩
theorem lw_p102 : lw_okq (⟨"LanternserverModel", "datagram", "(III[IIIZ)[I"⟩, 96) := ⟨⟨by decide +kernel, by decide +kernel⟩, List.mem_of_getElem? (i := 2410) (by decide +kernel), List.mem_of_getElem? (i := 3014) (by decide +kernel), List.mem_of_getElem? (i := 3015) (by decide +kernel)⟩
theorem lw_p103 : lw_okq (⟨"LanternserverModel", "nameComes", "(II[I)V"⟩, 96) := ⟨⟨by decide +kernel, by decide +kernel⟩, List.mem_of_getElem? (i := 2410) (by decide +kernel), List.mem_of_getElem? (i := 3035) (by decide +kernel), List.mem_of_getElem? (i := 3036) (by decide +kernel)⟩
theorem lw_p104 : lw_okq (⟨"LanternserverModel", "questionComes", "(II[I)V"⟩, 96) := ⟨⟨by decide +kernel, by decide +kernel⟩, List.mem_of_getElem? (i := 2410) (by decide +kernel), List.mem_of_getElem? (i := 3039) (by decide +kernel), List.mem_of_getElem? (i := 3040) (by decide +kernel)⟩
theorem lw_p105 : lw_okq (⟨"LanternserverModel", "hostNamed", "([I)I"⟩, 96) := ⟨⟨by decide +kernel, by decide +kernel⟩, List.mem_of_getElem? (i := 2410) (by decide +kernel), List.mem_of_getElem? (i := 3050) (by decide +kernel), List.mem_of_getElem? (i := 3051) (by decide +kernel)⟩
theorem lw_p106 : lw_okq (⟨"LanternserverModel", "sendsByPorts", "(IIII[I)V"⟩, 96) := ⟨⟨by decide +kernel, by decide +kernel⟩, List.mem_of_getElem? (i := 2410) (by decide +kernel), List.mem_of_getElem? (i := 3068) (by decide +kernel), List.mem_of_getElem? (i := 3069) (by decide +kernel)⟩
theorem lw_p107 : lw_okq (⟨"LanternserverModel", "answerComes", "(II[I)V"⟩, 96) := ⟨⟨by decide +kernel, by decide +kernel⟩, List.mem_of_getElem? (i := 2410) (by decide +kernel), List.mem_of_getElem? (i := 3074) (by decide +kernel), List.mem_of_getElem? (i := 3075) (by decide +kernel)⟩
theorem lw_p108 : lw_okq (⟨"LanternserverModel", "segment", "(II[III)V"⟩, 96) := ⟨⟨by decide +kernel, by decide +kernel⟩, List.mem_of_getElem? (i := 2410) (by decide +kernel), List.mem_of_getElem? (i := 3078) (by decide +kernel), List.mem_of_getElem? (i := 3079) (by decide +kernel)⟩
theorem lw_p109 : lw_okq (⟨"LanternserverModel", "lineOf", "(IIII)LLanternserverModel$Line;"⟩, 96) := ⟨⟨by decide +kernel, by decide +kernel⟩, List.mem_of_getElem? (i := 2410) (by decide +kernel), List.mem_of_getElem? (i := 3088) (by decide +kernel), List.mem_of_getElem? (i := 3089) (by decide +kernel)⟩
theorem lw_p110 : lw_okq (⟨"LanternserverModel", "has", "(I)Z"⟩, 96) := ⟨⟨by decide +kernel, by decide +kernel⟩, List.mem_of_getElem? (i := 2410) (by decide +kernel), List.mem_of_getElem? (i := 3092) (by decide +kernel), List.mem_of_getElem? (i := 3093) (by decide +kernel)⟩
theorem lw_p111 : lw_okq (⟨"LanternserverModel", "comes", "(LLanternserverModel$Line;I)V"⟩, 96) := ⟨⟨by decide +kernel, by decide +kernel⟩, List.mem_of_getElem? (i := 2410) (by decide +kernel), List.mem_of_getElem? (i := 3099) (by decide +kernel), List.mem_of_getElem? (i := 3100) (by decide +kernel)⟩
def lw_privs_7 : List (MethodName × Nat) := [(⟨"LanternserverModel", "took", "(IIII[I)V"⟩, 96), (⟨"LanternserverModel", "hostWith", "(I)I"⟩, 96), (⟨"LanternserverModel", "isRight", "(III[I)Z"⟩, 96), (⟨"LanternserverModel", "hasNoSum", "(I[I)Z"⟩, 96), (⟨"LanternserverModel", "wasSent", "(IIII[I)Z"⟩, 96), (⟨"LanternserverModel", "echoComes", "(II[I)V"⟩, 96), (⟨"LanternserverModel", "datagram", "(III[IIIZ)[I"⟩, 96), (⟨"LanternserverModel", "nameComes", "(II[I)V"⟩, 96), (⟨"LanternserverModel", "questionComes", "(II[I)V"⟩, 96), (⟨"LanternserverModel", "hostNamed", "([I)I"⟩, 96), (⟨"LanternserverModel", "sendsByPorts", "(IIII[I)V"⟩, 96), (⟨"LanternserverModel", "answerComes", "(II[I)V"⟩, 96), (⟨"LanternserverModel", "segment", "(II[III)V"⟩, 96), (⟨"LanternserverModel", "lineOf", "(IIII)LLanternserverModel$Line;"⟩, 96), (⟨"LanternserverModel", "has", "(I)Z"⟩, 96), (⟨"LanternserverModel", "comes", "(LLanternserverModel$Line;I)V"⟩, 96)]
theorem lw_r7 : ∀ q ∈ lw_privs_7, lw_okq q := List.forall_mem_cons.mpr ⟨lw_p96, List.forall_mem_cons.mpr ⟨lw_p97, List.forall_mem_cons.mpr ⟨lw_p98, List.forall_mem_cons.mpr ⟨lw_p99, List.forall_mem_cons.mpr ⟨lw_p100, List.forall_mem_cons.mpr ⟨lw_p101, List.forall_mem_cons.mpr ⟨lw_p102, List.forall_mem_cons.mpr ⟨lw_p103, List.forall_mem_cons.mpr ⟨lw_p104, List.forall_mem_cons.mpr ⟨lw_p105, List.forall_mem_cons.mpr ⟨lw_p106, List.forall_mem_cons.mpr ⟨lw_p107, List.forall_mem_cons.mpr ⟨lw_p108, List.forall_mem_cons.mpr ⟨lw_p109, List.forall_mem_cons.mpr ⟨lw_p110, List.forall_mem_cons.mpr ⟨lw_p111, fun _ h => absurd h List.not_mem_nil⟩⟩⟩⟩⟩⟩⟩⟩⟩⟩⟩⟩⟩⟩⟩⟩
theorem lw_p112 : lw_okq (⟨"LanternserverModel", "answers", "(LLanternserverModel$Line;I)V"⟩, 96) := ⟨⟨by decide +kernel, by decide +kernel⟩, List.mem_of_getElem? (i := 2410) (by decide +kernel), List.mem_of_getElem? (i := 3103) (by decide +kernel), List.mem_of_getElem? (i := 3104) (by decide +kernel)⟩
theorem lw_p113 : lw_okq (⟨"LanternserverModel", "resets", "(LLanternserverModel$Line;I)V"⟩, 96) := ⟨⟨by decide +kernel, by decide +kernel⟩, List.mem_of_getElem? (i := 2410) (by decide +kernel), List.mem_of_getElem? (i := 3107) (by decide +kernel), List.mem_of_getElem? (i := 3108) (by decide +kernel)⟩
theorem lw_p114 : lw_okq (⟨"LanternserverModel", "sendSegment", "(IIIIIIIIILLanternserverModel$Bytes;II)V"⟩, 96) := ⟨⟨by decide +kernel, by decide +kernel⟩, List.mem_of_getElem? (i := 2410) (by decide +kernel), List.mem_of_getElem? (i := 3111) (by decide +kernel), List.mem_of_getElem? (i := 3112) (by decide +kernel)⟩
theorem lw_p115 : lw_okq (⟨"LanternserverModel", "answerer", "(LLanternserverModel$Line;)I"⟩, 96) := ⟨⟨by decide +kernel, by decide +kernel⟩, List.mem_of_getElem? (i := 2410) (by decide +kernel), List.mem_of_getElem? (i := 3122) (by decide +kernel), List.mem_of_getElem? (i := 3123) (by decide +kernel)⟩
theorem lw_p116 : lw_okq (⟨"LanternserverModel", "establishes", "(LLanternserverModel$Line;)V"⟩, 96) := ⟨⟨by decide +kernel, by decide +kernel⟩, List.mem_of_getElem? (i := 2410) (by decide +kernel), List.mem_of_getElem? (i := 3126) (by decide +kernel), List.mem_of_getElem? (i := 3127) (by decide +kernel)⟩
theorem lw_p117 : lw_okq (⟨"LanternserverModel", "acknowledges", "(LLanternserverModel$Line;)V"⟩, 96) := ⟨⟨by decide +kernel, by decide +kernel⟩, List.mem_of_getElem? (i := 2410) (by decide +kernel), List.mem_of_getElem? (i := 3130) (by decide +kernel), List.mem_of_getElem? (i := 3131) (by decide +kernel)⟩
theorem lw_p118 : lw_okq (⟨"LanternserverModel", "sendOn", "(LLanternserverModel$Line;IIII)V"⟩, 96) := ⟨⟨by decide +kernel, by decide +kernel⟩, List.mem_of_getElem? (i := 2410) (by decide +kernel), List.mem_of_getElem? (i := 3134) (by decide +kernel), List.mem_of_getElem? (i := 3135) (by decide +kernel)⟩
theorem lw_p119 : lw_okq (⟨"LanternserverModel", "sendsAll", "(LLanternserverModel$Line;)V"⟩, 96) := ⟨⟨by decide +kernel, by decide +kernel⟩, List.mem_of_getElem? (i := 2410) (by decide +kernel), List.mem_of_getElem? (i := 3150) (by decide +kernel), List.mem_of_getElem? (i := 3151) (by decide +kernel)⟩
theorem lw_p120 : lw_okq (⟨"LanternserverModel", "sendBytes", "(LLanternserverModel$Line;I)V"⟩, 96) := ⟨⟨by decide +kernel, by decide +kernel⟩, List.mem_of_getElem? (i := 2410) (by decide +kernel), List.mem_of_getElem? (i := 3168) (by decide +kernel), List.mem_of_getElem? (i := 3169) (by decide +kernel)⟩
theorem lw_p121 : lw_okq (⟨"LanternserverModel", "timesAnew", "(LLanternserverModel$Line;)V"⟩, 96) := ⟨⟨by decide +kernel, by decide +kernel⟩, List.mem_of_getElem? (i := 2410) (by decide +kernel), List.mem_of_getElem? (i := 3172) (by decide +kernel), List.mem_of_getElem? (i := 3173) (by decide +kernel)⟩
theorem lw_p122 : lw_okq (⟨"LanternserverModel", "isAcknowledged", "(LLanternserverModel$Line;)Z"⟩, 96) := ⟨⟨by decide +kernel, by decide +kernel⟩, List.mem_of_getElem? (i := 2410) (by decide +kernel), List.mem_of_getElem? (i := 3185) (by decide +kernel), List.mem_of_getElem? (i := 3186) (by decide +kernel)⟩
theorem lw_p123 : lw_okq (⟨"LanternserverModel", "measures", "(LLanternserverModel$Line;)V"⟩, 96) := ⟨⟨by decide +kernel, by decide +kernel⟩, List.mem_of_getElem? (i := 2410) (by decide +kernel), List.mem_of_getElem? (i := 3193) (by decide +kernel), List.mem_of_getElem? (i := 3194) (by decide +kernel)⟩
theorem lw_p124 : lw_okq (⟨"LanternserverModel", "sendsAgain", "(LLanternserverModel$Line;)V"⟩, 96) := ⟨⟨by decide +kernel, by decide +kernel⟩, List.mem_of_getElem? (i := 2410) (by decide +kernel), List.mem_of_getElem? (i := 3197) (by decide +kernel), List.mem_of_getElem? (i := 3198) (by decide +kernel)⟩
theorem lw_p125 : lw_okq (⟨"LanternserverModel", "shrinks", "(LLanternserverModel$Line;Z)V"⟩, 96) := ⟨⟨by decide +kernel, by decide +kernel⟩, List.mem_of_getElem? (i := 2410) (by decide +kernel), List.mem_of_getElem? (i := 3205) (by decide +kernel), List.mem_of_getElem? (i := 3206) (by decide +kernel)⟩
theorem lw_p126 : lw_okq (⟨"LanternserverModel", "isFinGone", "(LLanternserverModel$Line;)Z"⟩, 96) := ⟨⟨by decide +kernel, by decide +kernel⟩, List.mem_of_getElem? (i := 2410) (by decide +kernel), List.mem_of_getElem? (i := 3209) (by decide +kernel), List.mem_of_getElem? (i := 3210) (by decide +kernel)⟩
theorem lw_p127 : lw_okq (⟨"LanternserverModel", "takesBytes", "(LLanternserverModel$Line;)V"⟩, 96) := ⟨⟨by decide +kernel, by decide +kernel⟩, List.mem_of_getElem? (i := 2410) (by decide +kernel), List.mem_of_getElem? (i := 3213) (by decide +kernel), List.mem_of_getElem? (i := 3214) (by decide +kernel)⟩
def lw_privs_8 : List (MethodName × Nat) := [(⟨"LanternserverModel", "answers", "(LLanternserverModel$Line;I)V"⟩, 96), (⟨"LanternserverModel", "resets", "(LLanternserverModel$Line;I)V"⟩, 96), (⟨"LanternserverModel", "sendSegment", "(IIIIIIIIILLanternserverModel$Bytes;II)V"⟩, 96), (⟨"LanternserverModel", "answerer", "(LLanternserverModel$Line;)I"⟩, 96), (⟨"LanternserverModel", "establishes", "(LLanternserverModel$Line;)V"⟩, 96), (⟨"LanternserverModel", "acknowledges", "(LLanternserverModel$Line;)V"⟩, 96), (⟨"LanternserverModel", "sendOn", "(LLanternserverModel$Line;IIII)V"⟩, 96), (⟨"LanternserverModel", "sendsAll", "(LLanternserverModel$Line;)V"⟩, 96), (⟨"LanternserverModel", "sendBytes", "(LLanternserverModel$Line;I)V"⟩, 96), (⟨"LanternserverModel", "timesAnew", "(LLanternserverModel$Line;)V"⟩, 96), (⟨"LanternserverModel", "isAcknowledged", "(LLanternserverModel$Line;)Z"⟩, 96), (⟨"LanternserverModel", "measures", "(LLanternserverModel$Line;)V"⟩, 96), (⟨"LanternserverModel", "sendsAgain", "(LLanternserverModel$Line;)V"⟩, 96), (⟨"LanternserverModel", "shrinks", "(LLanternserverModel$Line;Z)V"⟩, 96), (⟨"LanternserverModel", "isFinGone", "(LLanternserverModel$Line;)Z"⟩, 96), (⟨"LanternserverModel", "takesBytes", "(LLanternserverModel$Line;)V"⟩, 96)]
theorem lw_r8 : ∀ q ∈ lw_privs_8, lw_okq q := List.forall_mem_cons.mpr ⟨lw_p112, List.forall_mem_cons.mpr ⟨lw_p113, List.forall_mem_cons.mpr ⟨lw_p114, List.forall_mem_cons.mpr ⟨lw_p115, List.forall_mem_cons.mpr ⟨lw_p116, List.forall_mem_cons.mpr ⟨lw_p117, List.forall_mem_cons.mpr ⟨lw_p118, List.forall_mem_cons.mpr ⟨lw_p119, List.forall_mem_cons.mpr ⟨lw_p120, List.forall_mem_cons.mpr ⟨lw_p121, List.forall_mem_cons.mpr ⟨lw_p122, List.forall_mem_cons.mpr ⟨lw_p123, List.forall_mem_cons.mpr ⟨lw_p124, List.forall_mem_cons.mpr ⟨lw_p125, List.forall_mem_cons.mpr ⟨lw_p126, List.forall_mem_cons.mpr ⟨lw_p127, fun _ h => absurd h List.not_mem_nil⟩⟩⟩⟩⟩⟩⟩⟩⟩⟩⟩⟩⟩⟩⟩⟩
theorem lw_p128 : lw_okq (⟨"LanternserverModel", "keeps", "(LLanternserverModel$Line;I)V"⟩, 96) := ⟨⟨by decide +kernel, by decide +kernel⟩, List.mem_of_getElem? (i := 2410) (by decide +kernel), List.mem_of_getElem? (i := 3217) (by decide +kernel), List.mem_of_getElem? (i := 3218) (by decide +kernel)⟩
theorem lw_p129 : lw_okq (⟨"LanternserverModel", "finComes", "(LLanternserverModel$Line;)V"⟩, 96) := ⟨⟨by decide +kernel, by decide +kernel⟩, List.mem_of_getElem? (i := 2410) (by decide +kernel), List.mem_of_getElem? (i := 3243) (by decide +kernel), List.mem_of_getElem? (i := 3244) (by decide +kernel)⟩
theorem lw_p130 : lw_okq (⟨"LanternserverModel", "serves", "(I)V"⟩, 96) := ⟨⟨by decide +kernel, by decide +kernel⟩, List.mem_of_getElem? (i := 2410) (by decide +kernel), List.mem_of_getElem? (i := 3247) (by decide +kernel), List.mem_of_getElem? (i := 3248) (by decide +kernel)⟩
theorem lw_p131 : lw_okq (⟨"LanternserverModel", "beginsRequest", "(I)V"⟩, 96) := ⟨⟨by decide +kernel, by decide +kernel⟩, List.mem_of_getElem? (i := 2410) (by decide +kernel), List.mem_of_getElem? (i := 3251) (by decide +kernel), List.mem_of_getElem? (i := 3252) (by decide +kernel)⟩
theorem lw_p132 : lw_okq (⟨"LanternserverModel", "isOpen", "(I)Z"⟩, 96) := ⟨⟨by decide +kernel, by decide +kernel⟩, List.mem_of_getElem? (i := 2410) (by decide +kernel), List.mem_of_getElem? (i := 3255) (by decide +kernel), List.mem_of_getElem? (i := 3256) (by decide +kernel)⟩
theorem lw_p133 : lw_okq (⟨"LanternserverModel", "writesOn", "(I)V"⟩, 96) := ⟨⟨by decide +kernel, by decide +kernel⟩, List.mem_of_getElem? (i := 2410) (by decide +kernel), List.mem_of_getElem? (i := 3259) (by decide +kernel), List.mem_of_getElem? (i := 3260) (by decide +kernel)⟩
theorem lw_p134 : lw_okq (⟨"LanternserverModel", "room", "(I)I"⟩, 96) := ⟨⟨by decide +kernel, by decide +kernel⟩, List.mem_of_getElem? (i := 2410) (by decide +kernel), List.mem_of_getElem? (i := 3263) (by decide +kernel), List.mem_of_getElem? (i := 3264) (by decide +kernel)⟩
theorem lw_p135 : lw_okq (⟨"LanternserverModel", "writes", "(II)V"⟩, 96) := ⟨⟨by decide +kernel, by decide +kernel⟩, List.mem_of_getElem? (i := 2410) (by decide +kernel), List.mem_of_getElem? (i := 3267) (by decide +kernel), List.mem_of_getElem? (i := 3268) (by decide +kernel)⟩
theorem lw_p136 : lw_okq (⟨"LanternserverModel", "closes", "(I)V"⟩, 96) := ⟨⟨by decide +kernel, by decide +kernel⟩, List.mem_of_getElem? (i := 2410) (by decide +kernel), List.mem_of_getElem? (i := 3271) (by decide +kernel), List.mem_of_getElem? (i := 3272) (by decide +kernel)⟩
theorem lw_p137 : lw_okq (⟨"LanternserverModel", "isToRead", "(I)I"⟩, 96) := ⟨⟨by decide +kernel, by decide +kernel⟩, List.mem_of_getElem? (i := 2410) (by decide +kernel), List.mem_of_getElem? (i := 3275) (by decide +kernel), List.mem_of_getElem? (i := 3276) (by decide +kernel)⟩
theorem lw_p138 : lw_okq (⟨"LanternserverModel", "takes", "(I)I"⟩, 96) := ⟨⟨by decide +kernel, by decide +kernel⟩, List.mem_of_getElem? (i := 2410) (by decide +kernel), List.mem_of_getElem? (i := 3280) (by decide +kernel), List.mem_of_getElem? (i := 3281) (by decide +kernel)⟩
theorem lw_p139 : lw_okq (⟨"LanternserverModel", "reads", "(LLanternserverModel$Line;I)V"⟩, 96) := ⟨⟨by decide +kernel, by decide +kernel⟩, List.mem_of_getElem? (i := 2410) (by decide +kernel), List.mem_of_getElem? (i := 3284) (by decide +kernel), List.mem_of_getElem? (i := 3285) (by decide +kernel)⟩
theorem lw_p140 : lw_okq (⟨"LanternserverModel", "looksAt", "(II)I"⟩, 96) := ⟨⟨by decide +kernel, by decide +kernel⟩, List.mem_of_getElem? (i := 2410) (by decide +kernel), List.mem_of_getElem? (i := 3288) (by decide +kernel), List.mem_of_getElem? (i := 3289) (by decide +kernel)⟩
theorem lw_p141 : lw_okq (⟨"LanternserverModel", "looksInLine", "(II)I"⟩, 96) := ⟨⟨by decide +kernel, by decide +kernel⟩, List.mem_of_getElem? (i := 2410) (by decide +kernel), List.mem_of_getElem? (i := 3292) (by decide +kernel), List.mem_of_getElem? (i := 3293) (by decide +kernel)⟩
theorem lw_p142 : lw_okq (⟨"LanternserverModel", "stands", "(II)Z"⟩, 96) := ⟨⟨by decide +kernel, by decide +kernel⟩, List.mem_of_getElem? (i := 2410) (by decide +kernel), List.mem_of_getElem? (i := 3296) (by decide +kernel), List.mem_of_getElem? (i := 3297) (by decide +kernel)⟩
theorem lw_p143 : lw_okq (⟨"LanternserverModel", "endsLine", "(I)V"⟩, 96) := ⟨⟨by decide +kernel, by decide +kernel⟩, List.mem_of_getElem? (i := 2410) (by decide +kernel), List.mem_of_getElem? (i := 3313) (by decide +kernel), List.mem_of_getElem? (i := 3314) (by decide +kernel)⟩
def lw_privs_9 : List (MethodName × Nat) := [(⟨"LanternserverModel", "keeps", "(LLanternserverModel$Line;I)V"⟩, 96), (⟨"LanternserverModel", "finComes", "(LLanternserverModel$Line;)V"⟩, 96), (⟨"LanternserverModel", "serves", "(I)V"⟩, 96), (⟨"LanternserverModel", "beginsRequest", "(I)V"⟩, 96), (⟨"LanternserverModel", "isOpen", "(I)Z"⟩, 96), (⟨"LanternserverModel", "writesOn", "(I)V"⟩, 96), (⟨"LanternserverModel", "room", "(I)I"⟩, 96), (⟨"LanternserverModel", "writes", "(II)V"⟩, 96), (⟨"LanternserverModel", "closes", "(I)V"⟩, 96), (⟨"LanternserverModel", "isToRead", "(I)I"⟩, 96), (⟨"LanternserverModel", "takes", "(I)I"⟩, 96), (⟨"LanternserverModel", "reads", "(LLanternserverModel$Line;I)V"⟩, 96), (⟨"LanternserverModel", "looksAt", "(II)I"⟩, 96), (⟨"LanternserverModel", "looksInLine", "(II)I"⟩, 96), (⟨"LanternserverModel", "stands", "(II)Z"⟩, 96), (⟨"LanternserverModel", "endsLine", "(I)V"⟩, 96)]
theorem lw_r9 : ∀ q ∈ lw_privs_9, lw_okq q := List.forall_mem_cons.mpr ⟨lw_p128, List.forall_mem_cons.mpr ⟨lw_p129, List.forall_mem_cons.mpr ⟨lw_p130, List.forall_mem_cons.mpr ⟨lw_p131, List.forall_mem_cons.mpr ⟨lw_p132, List.forall_mem_cons.mpr ⟨lw_p133, List.forall_mem_cons.mpr ⟨lw_p134, List.forall_mem_cons.mpr ⟨lw_p135, List.forall_mem_cons.mpr ⟨lw_p136, List.forall_mem_cons.mpr ⟨lw_p137, List.forall_mem_cons.mpr ⟨lw_p138, List.forall_mem_cons.mpr ⟨lw_p139, List.forall_mem_cons.mpr ⟨lw_p140, List.forall_mem_cons.mpr ⟨lw_p141, List.forall_mem_cons.mpr ⟨lw_p142, List.forall_mem_cons.mpr ⟨lw_p143, fun _ h => absurd h List.not_mem_nil⟩⟩⟩⟩⟩⟩⟩⟩⟩⟩⟩⟩⟩⟩⟩⟩
theorem lw_p144 : lw_okq (⟨"LanternserverModel", "tellsLength", "(I)V"⟩, 96) := ⟨⟨by decide +kernel, by decide +kernel⟩, List.mem_of_getElem? (i := 2410) (by decide +kernel), List.mem_of_getElem? (i := 3317) (by decide +kernel), List.mem_of_getElem? (i := 3318) (by decide +kernel)⟩
theorem lw_p145 : lw_okq (⟨"LanternserverModel", "number", "(II)I"⟩, 96) := ⟨⟨by decide +kernel, by decide +kernel⟩, List.mem_of_getElem? (i := 2410) (by decide +kernel), List.mem_of_getElem? (i := 3321) (by decide +kernel), List.mem_of_getElem? (i := 3322) (by decide +kernel)⟩
theorem lw_p146 : lw_okq (⟨"LanternserverModel", "valueAt", "(II)I"⟩, 96) := ⟨⟨by decide +kernel, by decide +kernel⟩, List.mem_of_getElem? (i := 2410) (by decide +kernel), List.mem_of_getElem? (i := 3325) (by decide +kernel), List.mem_of_getElem? (i := 3326) (by decide +kernel)⟩
theorem lw_p147 : lw_okq (⟨"LanternserverModel", "isValue", "(II)Z"⟩, 96) := ⟨⟨by decide +kernel, by decide +kernel⟩, List.mem_of_getElem? (i := 2410) (by decide +kernel), List.mem_of_getElem? (i := 3332) (by decide +kernel), List.mem_of_getElem? (i := 3333) (by decide +kernel)⟩
theorem lw_p148 : lw_okq (⟨"LanternserverModel", "textLong", "(I)I"⟩, 96) := ⟨⟨by decide +kernel, by decide +kernel⟩, List.mem_of_getElem? (i := 2410) (by decide +kernel), List.mem_of_getElem? (i := 3336) (by decide +kernel), List.mem_of_getElem? (i := 3337) (by decide +kernel)⟩
theorem lw_p149 : lw_okq (⟨"LanternserverModel", "textAt", "(II)I"⟩, 96) := ⟨⟨by decide +kernel, by decide +kernel⟩, List.mem_of_getElem? (i := 2410) (by decide +kernel), List.mem_of_getElem? (i := 3343) (by decide +kernel), List.mem_of_getElem? (i := 3344) (by decide +kernel)⟩
theorem lw_p150 : lw_okq (⟨"LanternserverModel", "tagOf", "(I)I"⟩, 96) := ⟨⟨by decide +kernel, by decide +kernel⟩, List.mem_of_getElem? (i := 2410) (by decide +kernel), List.mem_of_getElem? (i := 3347) (by decide +kernel), List.mem_of_getElem? (i := 3348) (by decide +kernel)⟩
theorem lw_p151 : lw_okq (⟨"LanternserverModel", "tellsRange", "(I)V"⟩, 96) := ⟨⟨by decide +kernel, by decide +kernel⟩, List.mem_of_getElem? (i := 2410) (by decide +kernel), List.mem_of_getElem? (i := 3351) (by decide +kernel), List.mem_of_getElem? (i := 3352) (by decide +kernel)⟩
theorem lw_p152 : lw_okq (⟨"LanternserverModel", "takesMethod", "(II)V"⟩, 96) := ⟨⟨by decide +kernel, by decide +kernel⟩, List.mem_of_getElem? (i := 2410) (by decide +kernel), List.mem_of_getElem? (i := 3355) (by decide +kernel), List.mem_of_getElem? (i := 3356) (by decide +kernel)⟩
theorem lw_p153 : lw_okq (⟨"LanternserverModel", "through", "(III)I"⟩, 96) := ⟨⟨by decide +kernel, by decide +kernel⟩, List.mem_of_getElem? (i := 2410) (by decide +kernel), List.mem_of_getElem? (i := 3359) (by decide +kernel), List.mem_of_getElem? (i := 3360) (by decide +kernel)⟩
theorem lw_p154 : lw_okq (⟨"LanternserverModel", "fitting", "(IIII)I"⟩, 96) := ⟨⟨by decide +kernel, by decide +kernel⟩, List.mem_of_getElem? (i := 2410) (by decide +kernel), List.mem_of_getElem? (i := 3363) (by decide +kernel), List.mem_of_getElem? (i := 3364) (by decide +kernel)⟩
theorem lw_p155 : lw_okq (⟨"LanternserverModel", "takesTarget", "(II)V"⟩, 96) := ⟨⟨by decide +kernel, by decide +kernel⟩, List.mem_of_getElem? (i := 2410) (by decide +kernel), List.mem_of_getElem? (i := 3367) (by decide +kernel), List.mem_of_getElem? (i := 3368) (by decide +kernel)⟩
theorem lw_p156 : lw_okq (⟨"LanternserverModel", "nextWord", "(III)V"⟩, 96) := ⟨⟨by decide +kernel, by decide +kernel⟩, List.mem_of_getElem? (i := 2410) (by decide +kernel), List.mem_of_getElem? (i := 3371) (by decide +kernel), List.mem_of_getElem? (i := 3372) (by decide +kernel)⟩
theorem lw_p157 : lw_okq (⟨"LanternserverModel", "takesVersion", "(II)V"⟩, 96) := ⟨⟨by decide +kernel, by decide +kernel⟩, List.mem_of_getElem? (i := 2410) (by decide +kernel), List.mem_of_getElem? (i := 3375) (by decide +kernel), List.mem_of_getElem? (i := 3376) (by decide +kernel)⟩
theorem lw_p158 : lw_okq (⟨"LanternserverModel", "takesName", "(II)V"⟩, 96) := ⟨⟨by decide +kernel, by decide +kernel⟩, List.mem_of_getElem? (i := 2410) (by decide +kernel), List.mem_of_getElem? (i := 3380) (by decide +kernel), List.mem_of_getElem? (i := 3381) (by decide +kernel)⟩
theorem lw_p159 : lw_okq (⟨"LanternserverModel", "takesValue", "(II)V"⟩, 96) := ⟨⟨by decide +kernel, by decide +kernel⟩, List.mem_of_getElem? (i := 2410) (by decide +kernel), List.mem_of_getElem? (i := 3384) (by decide +kernel), List.mem_of_getElem? (i := 3385) (by decide +kernel)⟩
def lw_privs_10 : List (MethodName × Nat) := [(⟨"LanternserverModel", "tellsLength", "(I)V"⟩, 96), (⟨"LanternserverModel", "number", "(II)I"⟩, 96), (⟨"LanternserverModel", "valueAt", "(II)I"⟩, 96), (⟨"LanternserverModel", "isValue", "(II)Z"⟩, 96), (⟨"LanternserverModel", "textLong", "(I)I"⟩, 96), (⟨"LanternserverModel", "textAt", "(II)I"⟩, 96), (⟨"LanternserverModel", "tagOf", "(I)I"⟩, 96), (⟨"LanternserverModel", "tellsRange", "(I)V"⟩, 96), (⟨"LanternserverModel", "takesMethod", "(II)V"⟩, 96), (⟨"LanternserverModel", "through", "(III)I"⟩, 96), (⟨"LanternserverModel", "fitting", "(IIII)I"⟩, 96), (⟨"LanternserverModel", "takesTarget", "(II)V"⟩, 96), (⟨"LanternserverModel", "nextWord", "(III)V"⟩, 96), (⟨"LanternserverModel", "takesVersion", "(II)V"⟩, 96), (⟨"LanternserverModel", "takesName", "(II)V"⟩, 96), (⟨"LanternserverModel", "takesValue", "(II)V"⟩, 96)]
theorem lw_r10 : ∀ q ∈ lw_privs_10, lw_okq q := List.forall_mem_cons.mpr ⟨lw_p144, List.forall_mem_cons.mpr ⟨lw_p145, List.forall_mem_cons.mpr ⟨lw_p146, List.forall_mem_cons.mpr ⟨lw_p147, List.forall_mem_cons.mpr ⟨lw_p148, List.forall_mem_cons.mpr ⟨lw_p149, List.forall_mem_cons.mpr ⟨lw_p150, List.forall_mem_cons.mpr ⟨lw_p151, List.forall_mem_cons.mpr ⟨lw_p152, List.forall_mem_cons.mpr ⟨lw_p153, List.forall_mem_cons.mpr ⟨lw_p154, List.forall_mem_cons.mpr ⟨lw_p155, List.forall_mem_cons.mpr ⟨lw_p156, List.forall_mem_cons.mpr ⟨lw_p157, List.forall_mem_cons.mpr ⟨lw_p158, List.forall_mem_cons.mpr ⟨lw_p159, fun _ h => absurd h List.not_mem_nil⟩⟩⟩⟩⟩⟩⟩⟩⟩⟩⟩⟩⟩⟩⟩⟩
theorem lw_p160 : lw_okq (⟨"LanternserverModel", "looksAtLine", "(II)I"⟩, 96) := ⟨⟨by decide +kernel, by decide +kernel⟩, List.mem_of_getElem? (i := 2410) (by decide +kernel), List.mem_of_getElem? (i := 3388) (by decide +kernel), List.mem_of_getElem? (i := 3389) (by decide +kernel)⟩
theorem lw_p161 : lw_okq (⟨"LanternserverModel", "endsHead", "(I)I"⟩, 96) := ⟨⟨by decide +kernel, by decide +kernel⟩, List.mem_of_getElem? (i := 2410) (by decide +kernel), List.mem_of_getElem? (i := 3392) (by decide +kernel), List.mem_of_getElem? (i := 3393) (by decide +kernel)⟩
theorem lw_p162 : lw_okq (⟨"LanternserverModel", "takesBody", "(II)V"⟩, 96) := ⟨⟨by decide +kernel, by decide +kernel⟩, List.mem_of_getElem? (i := 2410) (by decide +kernel), List.mem_of_getElem? (i := 3396) (by decide +kernel), List.mem_of_getElem? (i := 3397) (by decide +kernel)⟩
theorem lw_p163 : lw_okq (⟨"LanternserverModel", "looksInChunks", "(II)I"⟩, 96) := ⟨⟨by decide +kernel, by decide +kernel⟩, List.mem_of_getElem? (i := 2410) (by decide +kernel), List.mem_of_getElem? (i := 3400) (by decide +kernel), List.mem_of_getElem? (i := 3401) (by decide +kernel)⟩
theorem lw_p164 : lw_okq (⟨"LanternserverModel", "looksAtSize", "(II)I"⟩, 96) := ⟨⟨by decide +kernel, by decide +kernel⟩, List.mem_of_getElem? (i := 2410) (by decide +kernel), List.mem_of_getElem? (i := 3404) (by decide +kernel), List.mem_of_getElem? (i := 3405) (by decide +kernel)⟩
theorem lw_p165 : lw_okq (⟨"LanternserverModel", "goesTo", "(II)I"⟩, 96) := ⟨⟨by decide +kernel, by decide +kernel⟩, List.mem_of_getElem? (i := 2410) (by decide +kernel), List.mem_of_getElem? (i := 3408) (by decide +kernel), List.mem_of_getElem? (i := 3409) (by decide +kernel)⟩
theorem lw_p166 : lw_okq (⟨"LanternserverModel", "servesOne", "(II)V"⟩, 96) := ⟨⟨by decide +kernel, by decide +kernel⟩, List.mem_of_getElem? (i := 2410) (by decide +kernel), List.mem_of_getElem? (i := 3416) (by decide +kernel), List.mem_of_getElem? (i := 3417) (by decide +kernel)⟩
theorem lw_p167 : lw_okq (⟨"LanternserverModel", "isLast", "(IZ)Z"⟩, 96) := ⟨⟨by decide +kernel, by decide +kernel⟩, List.mem_of_getElem? (i := 2410) (by decide +kernel), List.mem_of_getElem? (i := 3423) (by decide +kernel), List.mem_of_getElem? (i := 3424) (by decide +kernel)⟩
theorem lw_p168 : lw_okq (⟨"LanternserverModel", "does", "(III)I"⟩, 96) := ⟨⟨by decide +kernel, by decide +kernel⟩, List.mem_of_getElem? (i := 2410) (by decide +kernel), List.mem_of_getElem? (i := 3427) (by decide +kernel), List.mem_of_getElem? (i := 3428) (by decide +kernel)⟩
theorem lw_p169 : lw_okq (⟨"LanternserverModel", "isDone", "(II)I"⟩, 96) := ⟨⟨by decide +kernel, by decide +kernel⟩, List.mem_of_getElem? (i := 2410) (by decide +kernel), List.mem_of_getElem? (i := 3431) (by decide +kernel), List.mem_of_getElem? (i := 3432) (by decide +kernel)⟩
theorem lw_p170 : lw_okq (⟨"LanternserverModel", "targetKind", "(I)I"⟩, 96) := ⟨⟨by decide +kernel, by decide +kernel⟩, List.mem_of_getElem? (i := 2410) (by decide +kernel), List.mem_of_getElem? (i := 3435) (by decide +kernel), List.mem_of_getElem? (i := 3436) (by decide +kernel)⟩
theorem lw_p171 : lw_okq (⟨"LanternserverModel", "targetAt", "(II)I"⟩, 96) := ⟨⟨by decide +kernel, by decide +kernel⟩, List.mem_of_getElem? (i := 2410) (by decide +kernel), List.mem_of_getElem? (i := 3439) (by decide +kernel), List.mem_of_getElem? (i := 3440) (by decide +kernel)⟩
theorem lw_p172 : lw_okq (⟨"LanternserverModel", "fileOf", "(II)I"⟩, 96) := ⟨⟨by decide +kernel, by decide +kernel⟩, List.mem_of_getElem? (i := 2410) (by decide +kernel), List.mem_of_getElem? (i := 3443) (by decide +kernel), List.mem_of_getElem? (i := 3444) (by decide +kernel)⟩
theorem lw_p173 : lw_okq (⟨"LanternserverModel", "compares", "(II)I"⟩, 96) := ⟨⟨by decide +kernel, by decide +kernel⟩, List.mem_of_getElem? (i := 2410) (by decide +kernel), List.mem_of_getElem? (i := 3447) (by decide +kernel), List.mem_of_getElem? (i := 3448) (by decide +kernel)⟩
theorem lw_p174 : lw_okq (⟨"LanternserverModel", "isPut", "(III)I"⟩, 96) := ⟨⟨by decide +kernel, by decide +kernel⟩, List.mem_of_getElem? (i := 2410) (by decide +kernel), List.mem_of_getElem? (i := 3451) (by decide +kernel), List.mem_of_getElem? (i := 3452) (by decide +kernel)⟩
theorem lw_p175 : lw_okq (⟨"LanternserverModel", "isRefused", "(II)Z"⟩, 96) := ⟨⟨by decide +kernel, by decide +kernel⟩, List.mem_of_getElem? (i := 2410) (by decide +kernel), List.mem_of_getElem? (i := 3455) (by decide +kernel), List.mem_of_getElem? (i := 3456) (by decide +kernel)⟩
def lw_privs_11 : List (MethodName × Nat) := [(⟨"LanternserverModel", "looksAtLine", "(II)I"⟩, 96), (⟨"LanternserverModel", "endsHead", "(I)I"⟩, 96), (⟨"LanternserverModel", "takesBody", "(II)V"⟩, 96), (⟨"LanternserverModel", "looksInChunks", "(II)I"⟩, 96), (⟨"LanternserverModel", "looksAtSize", "(II)I"⟩, 96), (⟨"LanternserverModel", "goesTo", "(II)I"⟩, 96), (⟨"LanternserverModel", "servesOne", "(II)V"⟩, 96), (⟨"LanternserverModel", "isLast", "(IZ)Z"⟩, 96), (⟨"LanternserverModel", "does", "(III)I"⟩, 96), (⟨"LanternserverModel", "isDone", "(II)I"⟩, 96), (⟨"LanternserverModel", "targetKind", "(I)I"⟩, 96), (⟨"LanternserverModel", "targetAt", "(II)I"⟩, 96), (⟨"LanternserverModel", "fileOf", "(II)I"⟩, 96), (⟨"LanternserverModel", "compares", "(II)I"⟩, 96), (⟨"LanternserverModel", "isPut", "(III)I"⟩, 96), (⟨"LanternserverModel", "isRefused", "(II)Z"⟩, 96)]
theorem lw_r11 : ∀ q ∈ lw_privs_11, lw_okq q := List.forall_mem_cons.mpr ⟨lw_p160, List.forall_mem_cons.mpr ⟨lw_p161, List.forall_mem_cons.mpr ⟨lw_p162, List.forall_mem_cons.mpr ⟨lw_p163, List.forall_mem_cons.mpr ⟨lw_p164, List.forall_mem_cons.mpr ⟨lw_p165, List.forall_mem_cons.mpr ⟨lw_p166, List.forall_mem_cons.mpr ⟨lw_p167, List.forall_mem_cons.mpr ⟨lw_p168, List.forall_mem_cons.mpr ⟨lw_p169, List.forall_mem_cons.mpr ⟨lw_p170, List.forall_mem_cons.mpr ⟨lw_p171, List.forall_mem_cons.mpr ⟨lw_p172, List.forall_mem_cons.mpr ⟨lw_p173, List.forall_mem_cons.mpr ⟨lw_p174, List.forall_mem_cons.mpr ⟨lw_p175, fun _ h => absurd h List.not_mem_nil⟩⟩⟩⟩⟩⟩⟩⟩⟩⟩⟩⟩⟩⟩⟩⟩
theorem lw_p176 : lw_okq (⟨"LanternserverModel", "fitsTag", "(II)Z"⟩, 96) := ⟨⟨by decide +kernel, by decide +kernel⟩, List.mem_of_getElem? (i := 2410) (by decide +kernel), List.mem_of_getElem? (i := 3459) (by decide +kernel), List.mem_of_getElem? (i := 3460) (by decide +kernel)⟩
theorem lw_p177 : lw_okq (⟨"LanternserverModel", "newFile", "(II)I"⟩, 96) := ⟨⟨by decide +kernel, by decide +kernel⟩, List.mem_of_getElem? (i := 2410) (by decide +kernel), List.mem_of_getElem? (i := 3463) (by decide +kernel), List.mem_of_getElem? (i := 3464) (by decide +kernel)⟩
theorem lw_p178 : lw_okq (⟨"LanternserverModel", "copiesFile", "(II)V"⟩, 96) := ⟨⟨by decide +kernel, by decide +kernel⟩, List.mem_of_getElem? (i := 2410) (by decide +kernel), List.mem_of_getElem? (i := 3467) (by decide +kernel), List.mem_of_getElem? (i := 3468) (by decide +kernel)⟩
theorem lw_p179 : lw_okq (⟨"LanternserverModel", "putsBody", "(III)V"⟩, 96) := ⟨⟨by decide +kernel, by decide +kernel⟩, List.mem_of_getElem? (i := 2410) (by decide +kernel), List.mem_of_getElem? (i := 3471) (by decide +kernel), List.mem_of_getElem? (i := 3472) (by decide +kernel)⟩
theorem lw_p180 : lw_okq (⟨"LanternserverModel", "range", "(II)I"⟩, 96) := ⟨⟨by decide +kernel, by decide +kernel⟩, List.mem_of_getElem? (i := 2410) (by decide +kernel), List.mem_of_getElem? (i := 3475) (by decide +kernel), List.mem_of_getElem? (i := 3476) (by decide +kernel)⟩
theorem lw_p181 : lw_okq (⟨"LanternserverModel", "dropsFile", "(II)V"⟩, 96) := ⟨⟨by decide +kernel, by decide +kernel⟩, List.mem_of_getElem? (i := 2410) (by decide +kernel), List.mem_of_getElem? (i := 3479) (by decide +kernel), List.mem_of_getElem? (i := 3480) (by decide +kernel)⟩
theorem lw_p182 : lw_okq (⟨"LanternserverModel", "answers", "(IIIZZ)V"⟩, 96) := ⟨⟨by decide +kernel, by decide +kernel⟩, List.mem_of_getElem? (i := 2410) (by decide +kernel), List.mem_of_getElem? (i := 3483) (by decide +kernel), List.mem_of_getElem? (i := 3484) (by decide +kernel)⟩
theorem lw_p183 : lw_okq (⟨"LanternserverModel", "wordOf", "(I)I"⟩, 96) := ⟨⟨by decide +kernel, by decide +kernel⟩, List.mem_of_getElem? (i := 2410) (by decide +kernel), List.mem_of_getElem? (i := 3487) (by decide +kernel), List.mem_of_getElem? (i := 3488) (by decide +kernel)⟩
theorem lw_p184 : lw_okq (⟨"LanternserverModel", "listLong", "(I)I"⟩, 96) := ⟨⟨by decide +kernel, by decide +kernel⟩, List.mem_of_getElem? (i := 2410) (by decide +kernel), List.mem_of_getElem? (i := 3491) (by decide +kernel), List.mem_of_getElem? (i := 3492) (by decide +kernel)⟩
theorem lw_p185 : lw_okq (⟨"LanternserverModel", "saysText", "(I)V"⟩, 96) := ⟨⟨by decide +kernel, by decide +kernel⟩, List.mem_of_getElem? (i := 2410) (by decide +kernel), List.mem_of_getElem? (i := 3495) (by decide +kernel), List.mem_of_getElem? (i := 3496) (by decide +kernel)⟩
theorem lw_p186 : lw_okq (⟨"LanternserverModel", "says", "(I)V"⟩, 96) := ⟨⟨by decide +kernel, by decide +kernel⟩, List.mem_of_getElem? (i := 2410) (by decide +kernel), List.mem_of_getElem? (i := 3499) (by decide +kernel), List.mem_of_getElem? (i := 3500) (by decide +kernel)⟩
theorem lw_p187 : lw_okq (⟨"LanternserverModel", "saysNumber", "(I)V"⟩, 96) := ⟨⟨by decide +kernel, by decide +kernel⟩, List.mem_of_getElem? (i := 2410) (by decide +kernel), List.mem_of_getElem? (i := 3503) (by decide +kernel), List.mem_of_getElem? (i := 3504) (by decide +kernel)⟩
theorem lw_p188 : lw_okq (⟨"LanternserverModel", "saysLineEnd", "()V"⟩, 96) := ⟨⟨by decide +kernel, by decide +kernel⟩, List.mem_of_getElem? (i := 2410) (by decide +kernel), List.mem_of_getElem? (i := 3507) (by decide +kernel), List.mem_of_getElem? (i := 3508) (by decide +kernel)⟩
theorem lw_p189 : lw_okq (⟨"LanternserverModel", "saysPart", "(I)V"⟩, 96) := ⟨⟨by decide +kernel, by decide +kernel⟩, List.mem_of_getElem? (i := 2410) (by decide +kernel), List.mem_of_getElem? (i := 3511) (by decide +kernel), List.mem_of_getElem? (i := 3512) (by decide +kernel)⟩
theorem lw_p190 : lw_okq (⟨"LanternserverModel", "saysList", "(I)V"⟩, 96) := ⟨⟨by decide +kernel, by decide +kernel⟩, List.mem_of_getElem? (i := 2410) (by decide +kernel), List.mem_of_getElem? (i := 3515) (by decide +kernel), List.mem_of_getElem? (i := 3516) (by decide +kernel)⟩
theorem lw_p191 : lw_okq (⟨"LanternserverModel", "hasEnded", "(I)Z"⟩, 96) := ⟨⟨by decide +kernel, by decide +kernel⟩, List.mem_of_getElem? (i := 2410) (by decide +kernel), List.mem_of_getElem? (i := 3519) (by decide +kernel), List.mem_of_getElem? (i := 3520) (by decide +kernel)⟩
def lw_privs_12 : List (MethodName × Nat) := [(⟨"LanternserverModel", "fitsTag", "(II)Z"⟩, 96), (⟨"LanternserverModel", "newFile", "(II)I"⟩, 96), (⟨"LanternserverModel", "copiesFile", "(II)V"⟩, 96), (⟨"LanternserverModel", "putsBody", "(III)V"⟩, 96), (⟨"LanternserverModel", "range", "(II)I"⟩, 96), (⟨"LanternserverModel", "dropsFile", "(II)V"⟩, 96), (⟨"LanternserverModel", "answers", "(IIIZZ)V"⟩, 96), (⟨"LanternserverModel", "wordOf", "(I)I"⟩, 96), (⟨"LanternserverModel", "listLong", "(I)I"⟩, 96), (⟨"LanternserverModel", "saysText", "(I)V"⟩, 96), (⟨"LanternserverModel", "says", "(I)V"⟩, 96), (⟨"LanternserverModel", "saysNumber", "(I)V"⟩, 96), (⟨"LanternserverModel", "saysLineEnd", "()V"⟩, 96), (⟨"LanternserverModel", "saysPart", "(I)V"⟩, 96), (⟨"LanternserverModel", "saysList", "(I)V"⟩, 96), (⟨"LanternserverModel", "hasEnded", "(I)Z"⟩, 96)]
theorem lw_r12 : ∀ q ∈ lw_privs_12, lw_okq q := List.forall_mem_cons.mpr ⟨lw_p176, List.forall_mem_cons.mpr ⟨lw_p177, List.forall_mem_cons.mpr ⟨lw_p178, List.forall_mem_cons.mpr ⟨lw_p179, List.forall_mem_cons.mpr ⟨lw_p180, List.forall_mem_cons.mpr ⟨lw_p181, List.forall_mem_cons.mpr ⟨lw_p182, List.forall_mem_cons.mpr ⟨lw_p183, List.forall_mem_cons.mpr ⟨lw_p184, List.forall_mem_cons.mpr ⟨lw_p185, List.forall_mem_cons.mpr ⟨lw_p186, List.forall_mem_cons.mpr ⟨lw_p187, List.forall_mem_cons.mpr ⟨lw_p188, List.forall_mem_cons.mpr ⟨lw_p189, List.forall_mem_cons.mpr ⟨lw_p190, List.forall_mem_cons.mpr ⟨lw_p191, fun _ h => absurd h List.not_mem_nil⟩⟩⟩⟩⟩⟩⟩⟩⟩⟩⟩⟩⟩⟩⟩⟩
theorem lw_p192 : lw_okq (⟨"LanternserverModel", "comesToNone", "(IIIII)V"⟩, 96) := ⟨⟨by decide +kernel, by decide +kernel⟩, List.mem_of_getElem? (i := 2410) (by decide +kernel), List.mem_of_getElem? (i := 3527) (by decide +kernel), List.mem_of_getElem? (i := 3528) (by decide +kernel)⟩
theorem lw_p193 : lw_okq (⟨"LanternserverModel", "openOfServer", "()I"⟩, 96) := ⟨⟨by decide +kernel, by decide +kernel⟩, List.mem_of_getElem? (i := 2410) (by decide +kernel), List.mem_of_getElem? (i := 3531) (by decide +kernel), List.mem_of_getElem? (i := 3532) (by decide +kernel)⟩
theorem lw_p194 : lw_okq (⟨"LanternserverModel", "beginner", "(LLanternserverModel$Line;)I"⟩, 96) := ⟨⟨by decide +kernel, by decide +kernel⟩, List.mem_of_getElem? (i := 2410) (by decide +kernel), List.mem_of_getElem? (i := 3703) (by decide +kernel), List.mem_of_getElem? (i := 3704) (by decide +kernel)⟩
theorem lw_p195 : lw_okq (⟨"LanternserverModel", "isLine", "(I)Z"⟩, 96) := ⟨⟨by decide +kernel, by decide +kernel⟩, List.mem_of_getElem? (i := 2410) (by decide +kernel), List.mem_of_getElem? (i := 3708) (by decide +kernel), List.mem_of_getElem? (i := 3709) (by decide +kernel)⟩
theorem lw_p196 : lw_okq (⟨"LanternserverModel", "puts", "(III[IIIZ)V"⟩, 96) := ⟨⟨by decide +kernel, by decide +kernel⟩, List.mem_of_getElem? (i := 2410) (by decide +kernel), List.mem_of_getElem? (i := 3712) (by decide +kernel), List.mem_of_getElem? (i := 3713) (by decide +kernel)⟩
theorem lw_p197 : lw_okq (⟨"LanternserverModel", "fine", "(ZZZ)Z"⟩, 96) := ⟨⟨by decide +kernel, by decide +kernel⟩, List.mem_of_getElem? (i := 2410) (by decide +kernel), List.mem_of_getElem? (i := 3783) (by decide +kernel), List.mem_of_getElem? (i := 3784) (by decide +kernel)⟩
theorem lw_p198 : lw_okq (⟨"LanternserverModel", "nameOnTape", "()[I"⟩, 96) := ⟨⟨by decide +kernel, by decide +kernel⟩, List.mem_of_getElem? (i := 2410) (by decide +kernel), List.mem_of_getElem? (i := 3798) (by decide +kernel), List.mem_of_getElem? (i := 3799) (by decide +kernel)⟩
theorem lw_p199 : lw_okq (⟨"LanternserverModel", "asks", "(I)V"⟩, 96) := ⟨⟨by decide +kernel, by decide +kernel⟩, List.mem_of_getElem? (i := 2410) (by decide +kernel), List.mem_of_getElem? (i := 3812) (by decide +kernel), List.mem_of_getElem? (i := 3813) (by decide +kernel)⟩
theorem lw_p200 : lw_okq (⟨"LanternserverModel", "tick", "()V"⟩, 96) := ⟨⟨by decide +kernel, by decide +kernel⟩, List.mem_of_getElem? (i := 2410) (by decide +kernel), List.mem_of_getElem? (i := 3829) (by decide +kernel), List.mem_of_getElem? (i := 3830) (by decide +kernel)⟩
theorem lw_p201 : lw_okq (⟨"LanternserverModel", "connectionsTick", "(I)V"⟩, 96) := ⟨⟨by decide +kernel, by decide +kernel⟩, List.mem_of_getElem? (i := 2410) (by decide +kernel), List.mem_of_getElem? (i := 3833) (by decide +kernel), List.mem_of_getElem? (i := 3834) (by decide +kernel)⟩
theorem lw_p202 : lw_okq (⟨"LanternserverModel", "isOver", "(LLanternserverModel$Line;)V"⟩, 96) := ⟨⟨by decide +kernel, by decide +kernel⟩, List.mem_of_getElem? (i := 2410) (by decide +kernel), List.mem_of_getElem? (i := 3842) (by decide +kernel), List.mem_of_getElem? (i := 3843) (by decide +kernel)⟩
theorem lw_p203 : lw_okq (⟨"LanternserverModel", "aborts", "(LLanternserverModel$Line;)V"⟩, 96) := ⟨⟨by decide +kernel, by decide +kernel⟩, List.mem_of_getElem? (i := 2410) (by decide +kernel), List.mem_of_getElem? (i := 3846) (by decide +kernel), List.mem_of_getElem? (i := 3847) (by decide +kernel)⟩
theorem lw_p204 : lw_okq (⟨"LanternserverModel", "doesATimerRun", "()Z"⟩, 96) := ⟨⟨by decide +kernel, by decide +kernel⟩, List.mem_of_getElem? (i := 2410) (by decide +kernel), List.mem_of_getElem? (i := 3854) (by decide +kernel), List.mem_of_getElem? (i := 3855) (by decide +kernel)⟩
theorem lw_p205 : lw_okq (⟨"LanternserverModel", "draw", "(I)I"⟩, 96) := ⟨⟨by decide +kernel, by decide +kernel⟩, List.mem_of_getElem? (i := 2410) (by decide +kernel), List.mem_of_getElem? (i := 3863) (by decide +kernel), List.mem_of_getElem? (i := 3864) (by decide +kernel)⟩
theorem lw_p206 : lw_okq (⟨"LanternserverModel", "canWrite", "(LLanternserverModel$Line;)Z"⟩, 96) := ⟨⟨by decide +kernel, by decide +kernel⟩, List.mem_of_getElem? (i := 2410) (by decide +kernel), List.mem_of_getElem? (i := 3880) (by decide +kernel), List.mem_of_getElem? (i := 3881) (by decide +kernel)⟩
theorem lw_p207 : lw_okq (⟨"LanternserverModel", "countOfLines", "(I)I"⟩, 96) := ⟨⟨by decide +kernel, by decide +kernel⟩, List.mem_of_getElem? (i := 2410) (by decide +kernel), List.mem_of_getElem? (i := 3935) (by decide +kernel), List.mem_of_getElem? (i := 3936) (by decide +kernel)⟩
def lw_privs_13 : List (MethodName × Nat) := [(⟨"LanternserverModel", "comesToNone", "(IIIII)V"⟩, 96), (⟨"LanternserverModel", "openOfServer", "()I"⟩, 96), (⟨"LanternserverModel", "beginner", "(LLanternserverModel$Line;)I"⟩, 96), (⟨"LanternserverModel", "isLine", "(I)Z"⟩, 96), (⟨"LanternserverModel", "puts", "(III[IIIZ)V"⟩, 96), (⟨"LanternserverModel", "fine", "(ZZZ)Z"⟩, 96), (⟨"LanternserverModel", "nameOnTape", "()[I"⟩, 96), (⟨"LanternserverModel", "asks", "(I)V"⟩, 96), (⟨"LanternserverModel", "tick", "()V"⟩, 96), (⟨"LanternserverModel", "connectionsTick", "(I)V"⟩, 96), (⟨"LanternserverModel", "isOver", "(LLanternserverModel$Line;)V"⟩, 96), (⟨"LanternserverModel", "aborts", "(LLanternserverModel$Line;)V"⟩, 96), (⟨"LanternserverModel", "doesATimerRun", "()Z"⟩, 96), (⟨"LanternserverModel", "draw", "(I)I"⟩, 96), (⟨"LanternserverModel", "canWrite", "(LLanternserverModel$Line;)Z"⟩, 96), (⟨"LanternserverModel", "countOfLines", "(I)I"⟩, 96)]
theorem lw_r13 : ∀ q ∈ lw_privs_13, lw_okq q := List.forall_mem_cons.mpr ⟨lw_p192, List.forall_mem_cons.mpr ⟨lw_p193, List.forall_mem_cons.mpr ⟨lw_p194, List.forall_mem_cons.mpr ⟨lw_p195, List.forall_mem_cons.mpr ⟨lw_p196, List.forall_mem_cons.mpr ⟨lw_p197, List.forall_mem_cons.mpr ⟨lw_p198, List.forall_mem_cons.mpr ⟨lw_p199, List.forall_mem_cons.mpr ⟨lw_p200, List.forall_mem_cons.mpr ⟨lw_p201, List.forall_mem_cons.mpr ⟨lw_p202, List.forall_mem_cons.mpr ⟨lw_p203, List.forall_mem_cons.mpr ⟨lw_p204, List.forall_mem_cons.mpr ⟨lw_p205, List.forall_mem_cons.mpr ⟨lw_p206, List.forall_mem_cons.mpr ⟨lw_p207, fun _ h => absurd h List.not_mem_nil⟩⟩⟩⟩⟩⟩⟩⟩⟩⟩⟩⟩⟩⟩⟩⟩
theorem lw_p208 : lw_okq (⟨"LanternserverModel", "servedWell", "()I"⟩, 96) := ⟨⟨by decide +kernel, by decide +kernel⟩, List.mem_of_getElem? (i := 2410) (by decide +kernel), List.mem_of_getElem? (i := 3939) (by decide +kernel), List.mem_of_getElem? (i := 3940) (by decide +kernel)⟩
theorem lw_p209 : lw_okq (⟨"LanternserverModel", "isSameRequest", "(I)Z"⟩, 96) := ⟨⟨by decide +kernel, by decide +kernel⟩, List.mem_of_getElem? (i := 2410) (by decide +kernel), List.mem_of_getElem? (i := 3951) (by decide +kernel), List.mem_of_getElem? (i := 3952) (by decide +kernel)⟩
theorem lw_p210 : lw_okq (⟨"LanternserverModel", "otherEnd", "(I)I"⟩, 96) := ⟨⟨by decide +kernel, by decide +kernel⟩, List.mem_of_getElem? (i := 2410) (by decide +kernel), List.mem_of_getElem? (i := 3955) (by decide +kernel), List.mem_of_getElem? (i := 3956) (by decide +kernel)⟩
theorem lw_p211 : lw_okq (⟨"LanternserverModel", "writtenMany", "(I)I"⟩, 96) := ⟨⟨by decide +kernel, by decide +kernel⟩, List.mem_of_getElem? (i := 2410) (by decide +kernel), List.mem_of_getElem? (i := 3959) (by decide +kernel), List.mem_of_getElem? (i := 3960) (by decide +kernel)⟩
theorem lw_p212 : lw_okq (⟨"LanternserverModel", "writtenAt", "(II)I"⟩, 96) := ⟨⟨by decide +kernel, by decide +kernel⟩, List.mem_of_getElem? (i := 2410) (by decide +kernel), List.mem_of_getElem? (i := 3963) (by decide +kernel), List.mem_of_getElem? (i := 3964) (by decide +kernel)⟩
theorem lw_p213 : lw_okq (⟨"LanternserverModel", "isReadAsAnswered", "(II)Z"⟩, 96) := ⟨⟨by decide +kernel, by decide +kernel⟩, List.mem_of_getElem? (i := 2410) (by decide +kernel), List.mem_of_getElem? (i := 3967) (by decide +kernel), List.mem_of_getElem? (i := 3968) (by decide +kernel)⟩
theorem lw_p214 : lw_okq (⟨"LanternserverModel", "readMany", "(I)I"⟩, 96) := ⟨⟨by decide +kernel, by decide +kernel⟩, List.mem_of_getElem? (i := 2410) (by decide +kernel), List.mem_of_getElem? (i := 3971) (by decide +kernel), List.mem_of_getElem? (i := 3972) (by decide +kernel)⟩
theorem lw_p215 : lw_okq (⟨"LanternserverModel", "readByte", "(II)I"⟩, 96) := ⟨⟨by decide +kernel, by decide +kernel⟩, List.mem_of_getElem? (i := 2410) (by decide +kernel), List.mem_of_getElem? (i := 3975) (by decide +kernel), List.mem_of_getElem? (i := 3976) (by decide +kernel)⟩
theorem lw_p216 : lw_okq (⟨"LanternserverModel", "hostOfLine", "(I)I"⟩, 96) := ⟨⟨by decide +kernel, by decide +kernel⟩, List.mem_of_getElem? (i := 2410) (by decide +kernel), List.mem_of_getElem? (i := 3979) (by decide +kernel), List.mem_of_getElem? (i := 3980) (by decide +kernel)⟩
theorem lw_p217 : lw_okq (⟨"LanternserverModel", "areFilesAlike", "()Z"⟩, 96) := ⟨⟨by decide +kernel, by decide +kernel⟩, List.mem_of_getElem? (i := 2410) (by decide +kernel), List.mem_of_getElem? (i := 3983) (by decide +kernel), List.mem_of_getElem? (i := 3984) (by decide +kernel)⟩
theorem lw_p218 : lw_okq (⟨"LanternserverModel", "fits", "([IZ)Z"⟩, 96) := ⟨⟨by decide +kernel, by decide +kernel⟩, List.mem_of_getElem? (i := 2410) (by decide +kernel), List.mem_of_getElem? (i := 3995) (by decide +kernel), List.mem_of_getElem? (i := 3996) (by decide +kernel)⟩
theorem lw_p219 : lw_okq (⟨"LanternserverModel", "lineErrors", "()I"⟩, 96) := ⟨⟨by decide +kernel, by decide +kernel⟩, List.mem_of_getElem? (i := 2410) (by decide +kernel), List.mem_of_getElem? (i := 3999) (by decide +kernel), List.mem_of_getElem? (i := 4000) (by decide +kernel)⟩
def lw_privs_14 : List (MethodName × Nat) := [(⟨"LanternserverModel", "servedWell", "()I"⟩, 96), (⟨"LanternserverModel", "isSameRequest", "(I)Z"⟩, 96), (⟨"LanternserverModel", "otherEnd", "(I)I"⟩, 96), (⟨"LanternserverModel", "writtenMany", "(I)I"⟩, 96), (⟨"LanternserverModel", "writtenAt", "(II)I"⟩, 96), (⟨"LanternserverModel", "isReadAsAnswered", "(II)Z"⟩, 96), (⟨"LanternserverModel", "readMany", "(I)I"⟩, 96), (⟨"LanternserverModel", "readByte", "(II)I"⟩, 96), (⟨"LanternserverModel", "hostOfLine", "(I)I"⟩, 96), (⟨"LanternserverModel", "areFilesAlike", "()Z"⟩, 96), (⟨"LanternserverModel", "fits", "([IZ)Z"⟩, 96), (⟨"LanternserverModel", "lineErrors", "()I"⟩, 96)]
theorem lw_r14 : ∀ q ∈ lw_privs_14, lw_okq q := List.forall_mem_cons.mpr ⟨lw_p208, List.forall_mem_cons.mpr ⟨lw_p209, List.forall_mem_cons.mpr ⟨lw_p210, List.forall_mem_cons.mpr ⟨lw_p211, List.forall_mem_cons.mpr ⟨lw_p212, List.forall_mem_cons.mpr ⟨lw_p213, List.forall_mem_cons.mpr ⟨lw_p214, List.forall_mem_cons.mpr ⟨lw_p215, List.forall_mem_cons.mpr ⟨lw_p216, List.forall_mem_cons.mpr ⟨lw_p217, List.forall_mem_cons.mpr ⟨lw_p218, List.forall_mem_cons.mpr ⟨lw_p219, fun _ h => absurd h List.not_mem_nil⟩⟩⟩⟩⟩⟩⟩⟩⟩⟩⟩⟩
def lw_privs : List (MethodName × Nat) := lw_privs_1 ++ (lw_privs_2 ++ (lw_privs_3 ++ (lw_privs_4 ++ (lw_privs_5 ++ (lw_privs_6 ++ (lw_privs_7 ++ (lw_privs_8 ++ (lw_privs_9 ++ (lw_privs_10 ++ (lw_privs_11 ++ (lw_privs_12 ++ (lw_privs_13 ++ (lw_privs_14)))))))))))))
def lw_tbl : List Cond := k2_sels lw_privs ++ tables_1
theorem lw_privs_ok : ∀ q ∈ lw_privs, lw_okq q := by
  show ∀ q ∈ lw_privs_1 ++ (lw_privs_2 ++ (lw_privs_3 ++ (lw_privs_4 ++ (lw_privs_5 ++ (lw_privs_6 ++ (lw_privs_7 ++ (lw_privs_8 ++ (lw_privs_9 ++ (lw_privs_10 ++ (lw_privs_11 ++ (lw_privs_12 ++ (lw_privs_13 ++ (lw_privs_14))))))))))))), lw_okq q
  exact List.forall_mem_append.mpr ⟨lw_r1, List.forall_mem_append.mpr ⟨lw_r2, List.forall_mem_append.mpr ⟨lw_r3, List.forall_mem_append.mpr ⟨lw_r4, List.forall_mem_append.mpr ⟨lw_r5, List.forall_mem_append.mpr ⟨lw_r6, List.forall_mem_append.mpr ⟨lw_r7, List.forall_mem_append.mpr ⟨lw_r8, List.forall_mem_append.mpr ⟨lw_r9, List.forall_mem_append.mpr ⟨lw_r10, List.forall_mem_append.mpr ⟨lw_r11, List.forall_mem_append.mpr ⟨lw_r12, List.forall_mem_append.mpr ⟨lw_r13, lw_r14⟩⟩⟩⟩⟩⟩⟩⟩⟩⟩⟩⟩⟩
/-- the streams that the claim lets the run draw from -/
abbrev lw_cs : List Choice := [Jvm.Choice.named "NaN.bits"]
theorem lw_bits : nanBits ∈ lw_cs := by first | decide | exact List.mem_cons_self | simp [lw_cs, nanBits]
-- ===== end of PART A; then your names; then what follows =====
-- names, fields and types of the classes; a code and a name for each method
def RX0 : String := "Lanternserver$Connection"
def TX0 : u_T := fun k => match k with
  | 0 => ("Lanternserver$Connection", "number", "I", true)
  | 1 => ("Lanternserver$Connection", "host", "I", true)
  | 2 => ("Lanternserver$Connection", "port", "I", true)
  | 3 => ("Lanternserver$Connection", "otherAddress", "I", true)
  | 4 => ("Lanternserver$Connection", "otherPort", "I", true)
  | 5 => ("Lanternserver$Connection", "wire", "LLanternserver$Wire;", true)
  | 6 => ("Lanternserver$Connection", "sender", "LLanternserver$Sender;", true)
  | 7 => ("Lanternserver$Connection", "receiver", "LLanternserver$Receiver;", true)
  | 8 => ("Lanternserver$Connection", "reader", "LLanternserver$Reader;", true)
  | 9 => ("Lanternserver$Connection", "ownMss", "I", true)
  | 10 => ("Lanternserver$Connection", "mss", "I", false)
  | 11 => ("Lanternserver$Connection", "state", "I", false)
  | 12 => ("Lanternserver$Connection", "ended", "I", false)
  | 13 => ("Lanternserver$Connection", "other", "I", false)
  | 14 => ("Lanternserver$Connection", "isClosed", "Z", false)
  | 15 => ("Lanternserver$Connection", "isLast", "Z", false)
  | 16 => ("Lanternserver$Connection", "requests", "I", false)
  | 17 => ("Lanternserver$Connection", "cameAt", "I", false)
  | _ => ("Lanternserver$Connection", "waitFrom", "I", false)
def tyX0 : Nat → FieldType := fun k => match k with
  | 0 => .int
  | 1 => .int
  | 2 => .int
  | 3 => .int
  | 4 => .int
  | 5 => .object "Lanternserver$Wire"
  | 6 => .object "Lanternserver$Sender"
  | 7 => .object "Lanternserver$Receiver"
  | 8 => .object "Lanternserver$Reader"
  | 9 => .int
  | 10 => .int
  | 11 => .int
  | 12 => .int
  | 13 => .int
  | 14 => .boolean
  | 15 => .boolean
  | 16 => .int
  | 17 => .int
  | _ => .int
theorem nmX0 : ∀ a, a < 19 → ∀ b, b < 19 → a ≠ b → (TX0 a).2.1 ≠ (TX0 b).2.1 := by decide +kernel
theorem tyX0_ok : ∀ k, k < 19 → parseFieldDescriptor (TX0 k).2.2.1 = some (tyX0 k) := by decide +kernel
abbrev cX0_init : ByteArray := prog_2_method_1_code
def yX0_init : MethodName := ⟨RX0, "<init>", "(ILLanternserver$Host;IILLanternserver$Wire;)V"⟩
abbrev cX0_isServers : ByteArray := prog_2_method_2_code
def yX0_isServers : MethodName := ⟨RX0, "isServers", "()Z"⟩
abbrev cX0_isToBeClosed : ByteArray := prog_2_method_3_code
def yX0_isToBeClosed : MethodName := ⟨RX0, "isToBeClosed", "()Z"⟩
abbrev cX0_isSending : ByteArray := prog_2_method_4_code
def yX0_isSending : MethodName := ⟨RX0, "isSending", "()Z"⟩
abbrev cX0_isTimed : ByteArray := prog_2_method_5_code
def yX0_isTimed : MethodName := ⟨RX0, "isTimed", "()Z"⟩
abbrev cX0_beginAsClient : ByteArray := prog_2_method_6_code
def yX0_beginAsClient : MethodName := ⟨RX0, "beginAsClient", "()V"⟩
abbrev cX0_beginAsServer : ByteArray := prog_2_method_7_code
def yX0_beginAsServer : MethodName := ⟨RX0, "beginAsServer", "(LLanternserver$Segment;)V"⟩
abbrev cX0_finish : ByteArray := prog_2_method_8_code
def yX0_finish : MethodName := ⟨RX0, "finish", "()V"⟩
abbrev cX0_giveUpAtOnce : ByteArray := prog_2_method_9_code
def yX0_giveUpAtOnce : MethodName := ⟨RX0, "giveUpAtOnce", "()V"⟩
abbrev cX0_end : ByteArray := prog_2_method_10_code
def yX0_end : MethodName := ⟨RX0, "end", "(I)V"⟩
abbrev cX0_emit : ByteArray := prog_2_method_11_code
def yX0_emit : MethodName := ⟨RX0, "emit", "(IIII)V"⟩
abbrev cX0_flagsOf : ByteArray := prog_2_method_12_code
def yX0_flagsOf : MethodName := ⟨RX0, "flagsOf", "(I)I"⟩
abbrev cX0_sendNew : ByteArray := prog_2_method_13_code
def yX0_sendNew : MethodName := ⟨RX0, "sendNew", "(II)V"⟩
abbrev cX0_transmit : ByteArray := prog_2_method_14_code
def yX0_transmit : MethodName := ⟨RX0, "transmit", "()V"⟩
abbrev cX0_noteProbing : ByteArray := prog_2_method_15_code
def yX0_noteProbing : MethodName := ⟨RX0, "noteProbing", "()V"⟩
abbrev cX0_sendAgain : ByteArray := prog_2_method_16_code
def yX0_sendAgain : MethodName := ⟨RX0, "sendAgain", "()V"⟩
abbrev cX0_age : ByteArray := prog_2_method_17_code
def yX0_age : MethodName := ⟨RX0, "age", "()V"⟩
abbrev cX0_runOut : ByteArray := prog_2_method_18_code
def yX0_runOut : MethodName := ⟨RX0, "runOut", "()V"⟩
abbrev cX0_arrive : ByteArray := prog_2_method_19_code
def yX0_arrive : MethodName := ⟨RX0, "arrive", "(LLanternserver$Segment;)Z"⟩
abbrev cX0_arriveAsked : ByteArray := prog_2_method_20_code
def yX0_arriveAsked : MethodName := ⟨RX0, "arriveAsked", "(LLanternserver$Segment;)Z"⟩
abbrev cX0_establish : ByteArray := prog_2_method_21_code
def yX0_establish : MethodName := ⟨RX0, "establish", "(LLanternserver$Segment;)V"⟩
abbrev cX0_isThirdDouble : ByteArray := prog_2_method_22_code
def yX0_isThirdDouble : MethodName := ⟨RX0, "isThirdDouble", "(LLanternserver$Segment;)Z"⟩
abbrev cX0_isEndedByAcknowledgement : ByteArray := prog_2_method_23_code
def yX0_isEndedByAcknowledgement : MethodName := ⟨RX0, "isEndedByAcknowledgement", "()Z"⟩
abbrev cX0_waitOut : ByteArray := prog_2_method_24_code
def yX0_waitOut : MethodName := ⟨RX0, "waitOut", "()V"⟩
abbrev cX0_takeIn : ByteArray := prog_2_method_25_code
def yX0_takeIn : MethodName := ⟨RX0, "takeIn", "(LLanternserver$Segment;)V"⟩
abbrev cX0_takeWritten : ByteArray := prog_2_method_26_code
def yX0_takeWritten : MethodName := ⟨RX0, "takeWritten", "(LLanternserver$Row;)I"⟩
abbrev cX0_hasRest : ByteArray := prog_2_method_27_code
def yX0_hasRest : MethodName := ⟨RX0, "hasRest", "()Z"⟩
abbrev cX0_writeRest : ByteArray := prog_2_method_28_code
def yX0_writeRest : MethodName := ⟨RX0, "writeRest", "()V"⟩
abbrev cX0_takeUnread : ByteArray := prog_2_method_29_code
def yX0_takeUnread : MethodName := ⟨RX0, "takeUnread", "(I)I"⟩
abbrev cX0_isEndTold : ByteArray := prog_2_method_30_code
def yX0_isEndTold : MethodName := ⟨RX0, "isEndTold", "()Z"⟩
abbrev cX0_tell : ByteArray := prog_2_method_31_code
def yX0_tell : MethodName := ⟨RX0, "tell", "(I)I"⟩
def RX1 : String := "Lanternserver$Datagram"
def TX1 : u_T := fun k => match k with
  | 0 => ("Lanternserver$Datagram", "from", "I", false)
  | 1 => ("Lanternserver$Datagram", "sender", "I", false)
  | 2 => ("Lanternserver$Datagram", "receiver", "I", false)
  | 3 => ("Lanternserver$Datagram", "protocol", "I", false)
  | 4 => ("Lanternserver$Datagram", "identification", "I", false)
  | 5 => ("Lanternserver$Datagram", "mtu", "I", false)
  | 6 => ("Lanternserver$Datagram", "time", "I", false)
  | 7 => ("Lanternserver$Datagram", "end", "I", false)
  | 8 => ("Lanternserver$Datagram", "isSpoilt", "Z", false)
  | 9 => ("Lanternserver$Datagram", "bytes", "LLanternserver$Row;", true)
  | _ => ("Lanternserver$Datagram", "present", "LLanternserver$Row;", true)
def tyX1 : Nat → FieldType := fun k => match k with
  | 0 => .int
  | 1 => .int
  | 2 => .int
  | 3 => .int
  | 4 => .int
  | 5 => .int
  | 6 => .int
  | 7 => .int
  | 8 => .boolean
  | 9 => .object "Lanternserver$Row"
  | _ => .object "Lanternserver$Row"
theorem nmX1 : ∀ a, a < 11 → ∀ b, b < 11 → a ≠ b → (TX1 a).2.1 ≠ (TX1 b).2.1 := by decide +kernel
theorem tyX1_ok : ∀ k, k < 11 → parseFieldDescriptor (TX1 k).2.2.1 = some (tyX1 k) := by decide +kernel
abbrev cX1_init : ByteArray := prog_3_method_1_code
def yX1_init : MethodName := ⟨RX1, "<init>", "()V"⟩
abbrev cX1_begin : ByteArray := prog_3_method_2_code
def yX1_begin : MethodName := ⟨RX1, "begin", "(III)V"⟩
abbrev cX1_copyOf : ByteArray := prog_3_method_3_code
def yX1_copyOf : MethodName := ⟨RX1, "copyOf", "(LLanternserver$Datagram;)V"⟩
abbrev cX1_headSum : ByteArray := prog_3_method_4_code
def yX1_headSum : MethodName := ⟨RX1, "headSum", "()I"⟩
abbrev cX1_closeNames : ByteArray := prog_3_method_5_code
def yX1_closeNames : MethodName := ⟨RX1, "closeNames", "()V"⟩
abbrev cX1_closeSegment : ByteArray := prog_3_method_6_code
def yX1_closeSegment : MethodName := ⟨RX1, "closeSegment", "()V"⟩
abbrev cX1_putPiece : ByteArray := prog_3_method_7_code
def yX1_putPiece : MethodName := ⟨RX1, "putPiece", "(LLanternserver$Row;III)V"⟩
abbrev cX1_isWhole : ByteArray := prog_3_method_8_code
def yX1_isWhole : MethodName := ⟨RX1, "isWhole", "()Z"⟩
def RX2 : String := "Lanternserver$Frame"
def TX2 : u_T := fun k => match k with
  | 0 => ("Lanternserver$Frame", "bytes", "LLanternserver$Row;", true)
  | 1 => ("Lanternserver$Frame", "sender", "I", false)
  | 2 => ("Lanternserver$Frame", "isSpoilt", "Z", false)
  | 3 => ("Lanternserver$Frame", "isPiece", "Z", false)
  | _ => ("Lanternserver$Frame", "spoiltAt", "I", false)
def tyX2 : Nat → FieldType := fun k => match k with
  | 0 => .object "Lanternserver$Row"
  | 1 => .int
  | 2 => .boolean
  | 3 => .boolean
  | _ => .int
theorem nmX2 : ∀ a, a < 5 → ∀ b, b < 5 → a ≠ b → (TX2 a).2.1 ≠ (TX2 b).2.1 := by decide +kernel
theorem tyX2_ok : ∀ k, k < 5 → parseFieldDescriptor (TX2 k).2.2.1 = some (tyX2 k) := by decide +kernel
abbrev cX2_init : ByteArray := prog_4_method_1_code
def yX2_init : MethodName := ⟨RX2, "<init>", "()V"⟩
def RX3 : String := "Lanternserver$Host"
def TX3 : u_T := fun k => match k with
  | 0 => ("Lanternserver$Host", "number", "I", true)
  | 1 => ("Lanternserver$Host", "mtu", "I", false)
  | 2 => ("Lanternserver$Host", "mss", "I", true)
  | 3 => ("Lanternserver$Host", "ownName", "LLanternserver$Row;", true)
  | 4 => ("Lanternserver$Host", "addresses", "[I", false)
  | 5 => ("Lanternserver$Host", "hardwares", "[J", false)
  | 6 => ("Lanternserver$Host", "learnedAt", "[I", false)
  | 7 => ("Lanternserver$Host", "known", "I", false)
  | 8 => ("Lanternserver$Host", "askedAt", "[I", true)
  | 9 => ("Lanternserver$Host", "waiting", "[LLanternserver$Datagram;", true)
  | 10 => ("Lanternserver$Host", "waitingMany", "I", false)
  | 11 => ("Lanternserver$Host", "kept", "[LLanternserver$Datagram;", true)
  | 12 => ("Lanternserver$Host", "keptMany", "I", false)
  | 13 => ("Lanternserver$Host", "counted", "I", false)
  | 14 => ("Lanternserver$Host", "taken", "I", false)
  | _ => ("Lanternserver$Host", "refused", "I", false)
def tyX3 : Nat → FieldType := fun k => match k with
  | 0 => .int
  | 1 => .int
  | 2 => .int
  | 3 => .object "Lanternserver$Row"
  | 4 => .array .int
  | 5 => .array .long
  | 6 => .array .int
  | 7 => .int
  | 8 => .array .int
  | 9 => .array (.object "Lanternserver$Datagram")
  | 10 => .int
  | 11 => .array (.object "Lanternserver$Datagram")
  | 12 => .int
  | 13 => .int
  | 14 => .int
  | _ => .int
theorem nmX3 : ∀ a, a < 16 → ∀ b, b < 16 → a ≠ b → (TX3 a).2.1 ≠ (TX3 b).2.1 := by decide +kernel
theorem tyX3_ok : ∀ k, k < 16 → parseFieldDescriptor (TX3 k).2.2.1 = some (tyX3 k) := by decide +kernel
abbrev cX3_init : ByteArray := prog_5_method_1_code
def yX3_init : MethodName := ⟨RX3, "<init>", "(III)V"⟩
abbrev cX3_placeOf : ByteArray := prog_5_method_2_code
def yX3_placeOf : MethodName := ⟨RX3, "placeOf", "(I)I"⟩
abbrev cX3_hardwareAt : ByteArray := prog_5_method_3_code
def yX3_hardwareAt : MethodName := ⟨RX3, "hardwareAt", "(I)J"⟩
abbrev cX3_learn : ByteArray := prog_5_method_4_code
def yX3_learn : MethodName := ⟨RX3, "learn", "(IIJI)V"⟩
abbrev cX3_dropOld : ByteArray := prog_5_method_5_code
def yX3_dropOld : MethodName := ⟨RX3, "dropOld", "(I)V"⟩
abbrev cX3_post : ByteArray := prog_5_method_6_code
def yX3_post : MethodName := ⟨RX3, "post", "(LLanternserver$Datagram;LLanternserver$Wire;)V"⟩
abbrev cX3_ask : ByteArray := prog_5_method_7_code
def yX3_ask : MethodName := ⟨RX3, "ask", "(ILLanternserver$Wire;)V"⟩
abbrev cX3_sendMessage : ByteArray := prog_5_method_8_code
def yX3_sendMessage : MethodName := ⟨RX3, "sendMessage", "(LLanternserver$Wire;IJJI)V"⟩
abbrev cX3_sendPieces : ByteArray := prog_5_method_9_code
def yX3_sendPieces : MethodName := ⟨RX3, "sendPieces", "(LLanternserver$Datagram;JLLanternserver$Wire;)V"⟩
abbrev cX3_sendPart : ByteArray := prog_5_method_10_code
def yX3_sendPart : MethodName := ⟨RX3, "sendPart", "(LLanternserver$Wire;LLanternserver$Datagram;JII)V"⟩
abbrev cX3_dropWaiting : ByteArray := prog_5_method_11_code
def yX3_dropWaiting : MethodName := ⟨RX3, "dropWaiting", "(I)V"⟩
abbrev cX3_sendLearned : ByteArray := prog_5_method_12_code
def yX3_sendLearned : MethodName := ⟨RX3, "sendLearned", "(LLanternserver$Frame;LLanternserver$Wire;)V"⟩
abbrev cX3_takeFrame : ByteArray := prog_5_method_13_code
def yX3_takeFrame : MethodName := ⟨RX3, "takeFrame", "(LLanternserver$Frame;ILLanternserver$Datagram;)I"⟩
abbrev cX3_isMessage : ByteArray := prog_5_method_14_code
def yX3_isMessage : MethodName := ⟨RX3, "isMessage", "(LLanternserver$Row;)Z"⟩
abbrev cX3_takeMessage : ByteArray := prog_5_method_15_code
def yX3_takeMessage : MethodName := ⟨RX3, "takeMessage", "(LLanternserver$Row;I)V"⟩
abbrev cX3_isDatagram : ByteArray := prog_5_method_16_code
def yX3_isDatagram : MethodName := ⟨RX3, "isDatagram", "(LLanternserver$Row;)Z"⟩
abbrev cX3_takeDatagram : ByteArray := prog_5_method_17_code
def yX3_takeDatagram : MethodName := ⟨RX3, "takeDatagram", "(LLanternserver$Row;ILLanternserver$Datagram;)Z"⟩
abbrev cX3_keptPlace : ByteArray := prog_5_method_18_code
def yX3_keptPlace : MethodName := ⟨RX3, "keptPlace", "(LLanternserver$Datagram;)I"⟩
abbrev cX3_dropKept : ByteArray := prog_5_method_19_code
def yX3_dropKept : MethodName := ⟨RX3, "dropKept", "(I)V"⟩
def RX4 : String := "Lanternserver$House"
def TX4 : u_T := fun k => match k with
  | 0 => ("Lanternserver$House", "names", "[LLanternserver$Row;", true)
  | 1 => ("Lanternserver$House", "contents", "[LLanternserver$Row;", true)
  | 2 => ("Lanternserver$House", "versions", "[I", true)
  | 3 => ("Lanternserver$House", "many", "I", false)
  | 4 => ("Lanternserver$House", "latest", "I", false)
  | 5 => ("Lanternserver$House", "list", "LLanternserver$Row;", true)
  | 6 => ("Lanternserver$House", "tagText", "LLanternserver$Row;", true)
  | 7 => ("Lanternserver$House", "tag", "I", false)
  | 8 => ("Lanternserver$House", "source", "LLanternserver$Row;", false)
  | 9 => ("Lanternserver$House", "from", "I", false)
  | _ => ("Lanternserver$House", "behind", "I", false)
def tyX4 : Nat → FieldType := fun k => match k with
  | 0 => .array (.object "Lanternserver$Row")
  | 1 => .array (.object "Lanternserver$Row")
  | 2 => .array .int
  | 3 => .int
  | 4 => .int
  | 5 => .object "Lanternserver$Row"
  | 6 => .object "Lanternserver$Row"
  | 7 => .int
  | 8 => .object "Lanternserver$Row"
  | 9 => .int
  | _ => .int
theorem nmX4 : ∀ a, a < 11 → ∀ b, b < 11 → a ≠ b → (TX4 a).2.1 ≠ (TX4 b).2.1 := by decide +kernel
theorem tyX4_ok : ∀ k, k < 11 → parseFieldDescriptor (TX4 k).2.2.1 = some (tyX4 k) := by decide +kernel
abbrev cX4_init : ByteArray := prog_6_method_1_code
def yX4_init : MethodName := ⟨RX4, "<init>", "()V"⟩
abbrev cX4_forget : ByteArray := prog_6_method_2_code
def yX4_forget : MethodName := ⟨RX4, "forget", "()V"⟩
abbrev cX4_isLike : ByteArray := prog_6_method_3_code
def yX4_isLike : MethodName := ⟨RX4, "isLike", "(LLanternserver$House;)Z"⟩
abbrev cX4_perform : ByteArray := prog_6_method_4_code
def yX4_perform : MethodName := ⟨RX4, "perform", "(LLanternserver$Reader;I)I"⟩
abbrev cX4_isFileName : ByteArray := prog_6_method_5_code
def yX4_isFileName : MethodName := ⟨RX4, "isFileName", "(LLanternserver$Row;)Z"⟩
abbrev cX4_placeOf : ByteArray := prog_6_method_6_code
def yX4_placeOf : MethodName := ⟨RX4, "placeOf", "(LLanternserver$Row;)I"⟩
abbrev cX4_isMatched : ByteArray := prog_6_method_7_code
def yX4_isMatched : MethodName := ⟨RX4, "isMatched", "(LLanternserver$Row;IZ)Z"⟩
abbrev cX4_showList : ByteArray := prog_6_method_8_code
def yX4_showList : MethodName := ⟨RX4, "showList", "()I"⟩
abbrev cX4_show : ByteArray := prog_6_method_9_code
def yX4_show : MethodName := ⟨RX4, "show", "(LLanternserver$Reader;I)I"⟩
abbrev cX4_cutRange : ByteArray := prog_6_method_10_code
def yX4_cutRange : MethodName := ⟨RX4, "cutRange", "(LLanternserver$Row;)I"⟩
abbrev cX4_replace : ByteArray := prog_6_method_11_code
def yX4_replace : MethodName := ⟨RX4, "replace", "(LLanternserver$Reader;I)I"⟩
abbrev cX4_append : ByteArray := prog_6_method_12_code
def yX4_append : MethodName := ⟨RX4, "append", "(LLanternserver$Reader;I)I"⟩
abbrev cX4_change : ByteArray := prog_6_method_13_code
def yX4_change : MethodName := ⟨RX4, "change", "(I)V"⟩
abbrev cX4_insert : ByteArray := prog_6_method_14_code
def yX4_insert : MethodName := ⟨RX4, "insert", "(LLanternserver$Row;)I"⟩
abbrev cX4_remove : ByteArray := prog_6_method_15_code
def yX4_remove : MethodName := ⟨RX4, "remove", "(I)V"⟩
abbrev cX4_writeAnswer : ByteArray := prog_6_method_16_code
def yX4_writeAnswer : MethodName := ⟨RX4, "writeAnswer", "(LLanternserver$Reader;IZLLanternserver$Row;)V"⟩
abbrev cX4_writeRange : ByteArray := prog_6_method_17_code
def yX4_writeRange : MethodName := ⟨RX4, "writeRange", "(ILLanternserver$Row;)V"⟩
abbrev cX4_wordOf : ByteArray := prog_6_method_18_code
def yX4_wordOf : MethodName := ⟨RX4, "wordOf", "(I)Ljava/lang/String;"⟩
def RX5 : String := "Lanternserver$Reader"
def TX5 : u_T := fun k => match k with
  | 0 => ("Lanternserver$Reader", "step", "I", false)
  | 1 => ("Lanternserver$Reader", "bytes", "I", false)
  | 2 => ("Lanternserver$Reader", "line", "LLanternserver$Row;", true)
  | 3 => ("Lanternserver$Reader", "lines", "I", false)
  | 4 => ("Lanternserver$Reader", "mark", "I", false)
  | 5 => ("Lanternserver$Reader", "method", "I", false)
  | 6 => ("Lanternserver$Reader", "target", "LLanternserver$Row;", true)
  | 7 => ("Lanternserver$Reader", "version", "I", false)
  | 8 => ("Lanternserver$Reader", "hostLines", "I", false)
  | 9 => ("Lanternserver$Reader", "length", "I", false)
  | 10 => ("Lanternserver$Reader", "isLengthWrong", "Z", false)
  | 11 => ("Lanternserver$Reader", "coding", "I", false)
  | 12 => ("Lanternserver$Reader", "staying", "I", false)
  | 13 => ("Lanternserver$Reader", "match", "LLanternserver$Row;", true)
  | 14 => ("Lanternserver$Reader", "noneMatch", "LLanternserver$Row;", true)
  | 15 => ("Lanternserver$Reader", "range", "LLanternserver$Row;", true)
  | 16 => ("Lanternserver$Reader", "body", "LLanternserver$Row;", true)
  | 17 => ("Lanternserver$Reader", "need", "I", false)
  | _ => ("Lanternserver$Reader", "digits", "I", false)
def tyX5 : Nat → FieldType := fun k => match k with
  | 0 => .int
  | 1 => .int
  | 2 => .object "Lanternserver$Row"
  | 3 => .int
  | 4 => .int
  | 5 => .int
  | 6 => .object "Lanternserver$Row"
  | 7 => .int
  | 8 => .int
  | 9 => .int
  | 10 => .boolean
  | 11 => .int
  | 12 => .int
  | 13 => .object "Lanternserver$Row"
  | 14 => .object "Lanternserver$Row"
  | 15 => .object "Lanternserver$Row"
  | 16 => .object "Lanternserver$Row"
  | 17 => .int
  | _ => .int
theorem nmX5 : ∀ a, a < 19 → ∀ b, b < 19 → a ≠ b → (TX5 a).2.1 ≠ (TX5 b).2.1 := by decide +kernel
theorem tyX5_ok : ∀ k, k < 19 → parseFieldDescriptor (TX5 k).2.2.1 = some (tyX5 k) := by decide +kernel
abbrev cX5_init : ByteArray := prog_7_method_1_code
def yX5_init : MethodName := ⟨RX5, "<init>", "()V"⟩
abbrev cX5_begin : ByteArray := prog_7_method_2_code
def yX5_begin : MethodName := ⟨RX5, "begin", "()V"⟩
abbrev cX5_isLast : ByteArray := prog_7_method_3_code
def yX5_isLast : MethodName := ⟨RX5, "isLast", "()Z"⟩
abbrev cX5_feed : ByteArray := prog_7_method_4_code
def yX5_feed : MethodName := ⟨RX5, "feed", "(I)I"⟩
abbrev cX5_wrongInHead : ByteArray := prog_7_method_5_code
def yX5_wrongInHead : MethodName := ⟨RX5, "wrongInHead", "(I)I"⟩
abbrev cX5_canStand : ByteArray := prog_7_method_6_code
def yX5_canStand : MethodName := ⟨RX5, "canStand", "(I)Z"⟩
abbrev cX5_stepOn : ByteArray := prog_7_method_7_code
def yX5_stepOn : MethodName := ⟨RX5, "stepOn", "(I)V"⟩
abbrev cX5_methodIn : ByteArray := prog_7_method_8_code
def yX5_methodIn : MethodName := ⟨RX5, "methodIn", "()I"⟩
abbrev cX5_noteVersion : ByteArray := prog_7_method_9_code
def yX5_noteVersion : MethodName := ⟨RX5, "noteVersion", "()V"⟩
abbrev cX5_noteField : ByteArray := prog_7_method_10_code
def yX5_noteField : MethodName := ⟨RX5, "noteField", "()V"⟩
abbrev cX5_noteLength : ByteArray := prog_7_method_11_code
def yX5_noteLength : MethodName := ⟨RX5, "noteLength", "(I)V"⟩
abbrev cX5_noteValue : ByteArray := prog_7_method_12_code
def yX5_noteValue : MethodName := ⟨RX5, "noteValue", "(LLanternserver$Row;II)V"⟩
abbrev cX5_judge : ByteArray := prog_7_method_13_code
def yX5_judge : MethodName := ⟨RX5, "judge", "()I"⟩
abbrev cX5_feedBody : ByteArray := prog_7_method_14_code
def yX5_feedBody : MethodName := ⟨RX5, "feedBody", "(I)I"⟩
abbrev cX5_expect : ByteArray := prog_7_method_15_code
def yX5_expect : MethodName := ⟨RX5, "expect", "(III)I"⟩
abbrev cX5_feedSize : ByteArray := prog_7_method_16_code
def yX5_feedSize : MethodName := ⟨RX5, "feedSize", "(I)I"⟩
def RX6 : String := "Lanternserver$Receiver"
def TX6 : u_T := fun k => match k with
  | 0 => ("Lanternserver$Receiver", "irs", "I", false)
  | 1 => ("Lanternserver$Receiver", "rcv", "I", false)
  | 2 => ("Lanternserver$Receiver", "in", "LLanternserver$Row;", true)
  | 3 => ("Lanternserver$Receiver", "taken", "I", false)
  | 4 => ("Lanternserver$Receiver", "hasFin", "Z", false)
  | 5 => ("Lanternserver$Receiver", "pieces", "[LLanternserver$Row;", true)
  | 6 => ("Lanternserver$Receiver", "begins", "[I", true)
  | _ => ("Lanternserver$Receiver", "many", "I", false)
def tyX6 : Nat → FieldType := fun k => match k with
  | 0 => .int
  | 1 => .int
  | 2 => .object "Lanternserver$Row"
  | 3 => .int
  | 4 => .boolean
  | 5 => .array (.object "Lanternserver$Row")
  | 6 => .array .int
  | _ => .int
theorem nmX6 : ∀ a, a < 8 → ∀ b, b < 8 → a ≠ b → (TX6 a).2.1 ≠ (TX6 b).2.1 := by decide +kernel
theorem tyX6_ok : ∀ k, k < 8 → parseFieldDescriptor (TX6 k).2.2.1 = some (tyX6 k) := by decide +kernel
abbrev cX6_init : ByteArray := prog_8_method_1_code
def yX6_init : MethodName := ⟨RX6, "<init>", "()V"⟩
abbrev cX6_begin : ByteArray := prog_8_method_2_code
def yX6_begin : MethodName := ⟨RX6, "begin", "(I)V"⟩
abbrev cX6_unread : ByteArray := prog_8_method_3_code
def yX6_unread : MethodName := ⟨RX6, "unread", "()I"⟩
abbrev cX6_window : ByteArray := prog_8_method_4_code
def yX6_window : MethodName := ⟨RX6, "window", "()I"⟩
abbrev cX6_takeBytes : ByteArray := prog_8_method_5_code
def yX6_takeBytes : MethodName := ⟨RX6, "takeBytes", "(LLanternserver$Segment;)V"⟩
abbrev cX6_joinPieces : ByteArray := prog_8_method_6_code
def yX6_joinPieces : MethodName := ⟨RX6, "joinPieces", "()V"⟩
abbrev cX6_firstPiece : ByteArray := prog_8_method_7_code
def yX6_firstPiece : MethodName := ⟨RX6, "firstPiece", "()I"⟩
def RX7 : String := "Lanternserver$Row"
def TX7 : u_T := fun k => match k with
  | 0 => ("Lanternserver$Row", "cells", "[I", false)
  | _ => ("Lanternserver$Row", "length", "I", false)
def tyX7 : Nat → FieldType := fun k => match k with
  | 0 => .array .int
  | _ => .int
theorem nmX7 : ∀ a, a < 2 → ∀ b, b < 2 → a ≠ b → (TX7 a).2.1 ≠ (TX7 b).2.1 := by decide +kernel
theorem tyX7_ok : ∀ k, k < 2 → parseFieldDescriptor (TX7 k).2.2.1 = some (tyX7 k) := by decide +kernel
abbrev cX7_init : ByteArray := prog_9_method_1_code
def yX7_init : MethodName := ⟨RX7, "<init>", "(I)V"⟩
abbrev cX7_length : ByteArray := prog_9_method_2_code
def yX7_length : MethodName := ⟨RX7, "length", "()I"⟩
abbrev cX7_at : ByteArray := prog_9_method_3_code
def yX7_at : MethodName := ⟨RX7, "at", "(I)I"⟩
abbrev cX7_twoAt : ByteArray := prog_9_method_4_code
def yX7_twoAt : MethodName := ⟨RX7, "twoAt", "(I)I"⟩
abbrev cX7_fourAt : ByteArray := prog_9_method_5_code
def yX7_fourAt : MethodName := ⟨RX7, "fourAt", "(I)I"⟩
abbrev cX7_hardwareAt : ByteArray := prog_9_method_6_code
def yX7_hardwareAt : MethodName := ⟨RX7, "hardwareAt", "(I)J"⟩
abbrev cX7_empty : ByteArray := prog_9_method_7_code
def yX7_empty : MethodName := ⟨RX7, "empty", "()V"⟩
abbrev cX7_setAt : ByteArray := prog_9_method_8_code
def yX7_setAt : MethodName := ⟨RX7, "setAt", "(II)V"⟩
abbrev cX7_setTwo : ByteArray := prog_9_method_9_code
def yX7_setTwo : MethodName := ⟨RX7, "setTwo", "(II)V"⟩
abbrev cX7_add : ByteArray := prog_9_method_10_code
def yX7_add : MethodName := ⟨RX7, "add", "(I)V"⟩
abbrev cX7_addTwo : ByteArray := prog_9_method_11_code
def yX7_addTwo : MethodName := ⟨RX7, "addTwo", "(I)V"⟩
abbrev cX7_addFour : ByteArray := prog_9_method_12_code
def yX7_addFour : MethodName := ⟨RX7, "addFour", "(I)V"⟩
abbrev cX7_addHardware : ByteArray := prog_9_method_13_code
def yX7_addHardware : MethodName := ⟨RX7, "addHardware", "(J)V"⟩
abbrev cX7_addRow : ByteArray := prog_9_method_14_code
def yX7_addRow : MethodName := ⟨RX7, "addRow", "(LLanternserver$Row;II)V"⟩
abbrev cX7_addZeros : ByteArray := prog_9_method_15_code
def yX7_addZeros : MethodName := ⟨RX7, "addZeros", "(I)V"⟩
abbrev cX7_addText : ByteArray := prog_9_method_16_code
def yX7_addText : MethodName := ⟨RX7, "addText", "(Ljava/lang/String;)V"⟩
abbrev cX7_addNumber : ByteArray := prog_9_method_17_code
def yX7_addNumber : MethodName := ⟨RX7, "addNumber", "(I)V"⟩
abbrev cX7_removeFirst : ByteArray := prog_9_method_18_code
def yX7_removeFirst : MethodName := ⟨RX7, "removeFirst", "(I)V"⟩
abbrev cX7_isSame : ByteArray := prog_9_method_19_code
def yX7_isSame : MethodName := ⟨RX7, "isSame", "(ILLanternserver$Row;II)Z"⟩
abbrev cX7_compare : ByteArray := prog_9_method_20_code
def yX7_compare : MethodName := ⟨RX7, "compare", "(LLanternserver$Row;)I"⟩
abbrev cX7_hasText : ByteArray := prog_9_method_21_code
def yX7_hasText : MethodName := ⟨RX7, "hasText", "(ILjava/lang/String;)Z"⟩
abbrev cX7_isWord : ByteArray := prog_9_method_22_code
def yX7_isWord : MethodName := ⟨RX7, "isWord", "(IILjava/lang/String;)Z"⟩
abbrev cX7_numberAt : ByteArray := prog_9_method_23_code
def yX7_numberAt : MethodName := ⟨RX7, "numberAt", "(II)I"⟩
abbrev cX7_behindName : ByteArray := prog_9_method_24_code
def yX7_behindName : MethodName := ⟨RX7, "behindName", "(I)I"⟩
abbrev cX7_sumOver : ByteArray := prog_9_method_25_code
def yX7_sumOver : MethodName := ⟨RX7, "sumOver", "(III)I"⟩
def RX8 : String := "Lanternserver$Segment"
def TX8 : u_T := fun k => match k with
  | 0 => ("Lanternserver$Segment", "sender", "I", false)
  | 1 => ("Lanternserver$Segment", "receiver", "I", false)
  | 2 => ("Lanternserver$Segment", "port", "I", false)
  | 3 => ("Lanternserver$Segment", "toPort", "I", false)
  | 4 => ("Lanternserver$Segment", "sequence", "I", false)
  | 5 => ("Lanternserver$Segment", "acknowledgement", "I", false)
  | 6 => ("Lanternserver$Segment", "flags", "I", false)
  | 7 => ("Lanternserver$Segment", "window", "I", false)
  | 8 => ("Lanternserver$Segment", "mss", "I", false)
  | 9 => ("Lanternserver$Segment", "bytes", "LLanternserver$Row;", false)
  | 10 => ("Lanternserver$Segment", "from", "I", false)
  | _ => ("Lanternserver$Segment", "many", "I", false)
def tyX8 : Nat → FieldType := fun k => match k with
  | 0 => .int
  | 1 => .int
  | 2 => .int
  | 3 => .int
  | 4 => .int
  | 5 => .int
  | 6 => .int
  | 7 => .int
  | 8 => .int
  | 9 => .object "Lanternserver$Row"
  | 10 => .int
  | _ => .int
theorem nmX8 : ∀ a, a < 12 → ∀ b, b < 12 → a ≠ b → (TX8 a).2.1 ≠ (TX8 b).2.1 := by decide +kernel
theorem tyX8_ok : ∀ k, k < 12 → parseFieldDescriptor (TX8 k).2.2.1 = some (tyX8 k) := by decide +kernel
abbrev cX8_init : ByteArray := prog_10_method_1_code
def yX8_init : MethodName := ⟨RX8, "<init>", "()V"⟩
abbrev cX8_has : ByteArray := prog_10_method_2_code
def yX8_has : MethodName := ⟨RX8, "has", "(I)Z"⟩
abbrev cX8_isRightIn : ByteArray := prog_10_method_3_code
def yX8_isRightIn : MethodName := ⟨RX8, "isRightIn", "(LLanternserver$Datagram;)Z"⟩
abbrev cX8_optionIn : ByteArray := prog_10_method_4_code
def yX8_optionIn : MethodName := ⟨RX8, "optionIn", "(LLanternserver$Row;I)I"⟩
def RX9 : String := "Lanternserver$Sender"
def TX9 : u_T := fun k => match k with
  | 0 => ("Lanternserver$Sender", "iss", "I", true)
  | 1 => ("Lanternserver$Sender", "una", "I", false)
  | 2 => ("Lanternserver$Sender", "nxt", "I", false)
  | 3 => ("Lanternserver$Sender", "out", "LLanternserver$Row;", true)
  | 4 => ("Lanternserver$Sender", "wrote", "I", false)
  | 5 => ("Lanternserver$Sender", "window", "I", false)
  | 6 => ("Lanternserver$Sender", "windowSequence", "I", false)
  | 7 => ("Lanternserver$Sender", "windowAcknowledgement", "I", false)
  | 8 => ("Lanternserver$Sender", "cwnd", "I", false)
  | 9 => ("Lanternserver$Sender", "threshold", "I", false)
  | 10 => ("Lanternserver$Sender", "rto", "I", false)
  | 11 => ("Lanternserver$Sender", "since", "I", false)
  | 12 => ("Lanternserver$Sender", "times", "I", false)
  | 13 => ("Lanternserver$Sender", "doubles", "I", false)
  | 14 => ("Lanternserver$Sender", "isFinSent", "Z", false)
  | 15 => ("Lanternserver$Sender", "isProbing", "Z", false)
  | 16 => ("Lanternserver$Sender", "measuredAt", "I", false)
  | 17 => ("Lanternserver$Sender", "measuredEnd", "I", false)
  | 18 => ("Lanternserver$Sender", "smooth", "I", false)
  | _ => ("Lanternserver$Sender", "spread", "I", false)
def tyX9 : Nat → FieldType := fun k => match k with
  | 0 => .int
  | 1 => .int
  | 2 => .int
  | 3 => .object "Lanternserver$Row"
  | 4 => .int
  | 5 => .int
  | 6 => .int
  | 7 => .int
  | 8 => .int
  | 9 => .int
  | 10 => .int
  | 11 => .int
  | 12 => .int
  | 13 => .int
  | 14 => .boolean
  | 15 => .boolean
  | 16 => .int
  | 17 => .int
  | 18 => .int
  | _ => .int
theorem nmX9 : ∀ a, a < 20 → ∀ b, b < 20 → a ≠ b → (TX9 a).2.1 ≠ (TX9 b).2.1 := by decide +kernel
theorem tyX9_ok : ∀ k, k < 20 → parseFieldDescriptor (TX9 k).2.2.1 = some (tyX9 k) := by decide +kernel
abbrev cX9_init : ByteArray := prog_11_method_1_code
def yX9_init : MethodName := ⟨RX9, "<init>", "(I)V"⟩
abbrev cX9_underWay : ByteArray := prog_11_method_2_code
def yX9_underWay : MethodName := ⟨RX9, "underWay", "()I"⟩
abbrev cX9_sentBytes : ByteArray := prog_11_method_3_code
def yX9_sentBytes : MethodName := ⟨RX9, "sentBytes", "()I"⟩
abbrev cX9_acknowledgedBytes : ByteArray := prog_11_method_4_code
def yX9_acknowledgedBytes : MethodName := ⟨RX9, "acknowledgedBytes", "()I"⟩
abbrev cX9_unsent : ByteArray := prog_11_method_5_code
def yX9_unsent : MethodName := ⟨RX9, "unsent", "()I"⟩
abbrev cX9_room : ByteArray := prog_11_method_6_code
def yX9_room : MethodName := ⟨RX9, "room", "()I"⟩
abbrev cX9_noteSent : ByteArray := prog_11_method_7_code
def yX9_noteSent : MethodName := ⟨RX9, "noteSent", "(II)V"⟩
abbrev cX9_noteAcknowledged : ByteArray := prog_11_method_8_code
def yX9_noteAcknowledged : MethodName := ⟨RX9, "noteAcknowledged", "(III)V"⟩
abbrev cX9_measure : ByteArray := prog_11_method_9_code
def yX9_measure : MethodName := ⟨RX9, "measure", "(I)V"⟩
abbrev cX9_noteWindow : ByteArray := prog_11_method_10_code
def yX9_noteWindow : MethodName := ⟨RX9, "noteWindow", "(LLanternserver$Segment;)V"⟩
abbrev cX9_tellWindow : ByteArray := prog_11_method_11_code
def yX9_tellWindow : MethodName := ⟨RX9, "tellWindow", "(LLanternserver$Segment;)V"⟩
abbrev cX9_lowerThreshold : ByteArray := prog_11_method_12_code
def yX9_lowerThreshold : MethodName := ⟨RX9, "lowerThreshold", "(I)V"⟩
def RX10 : String := "Lanternserver$Wire"
def TX10 : u_T := fun k => match k with
  | 0 => ("Lanternserver$Wire", "frames", "[LLanternserver$Frame;", true)
  | 1 => ("Lanternserver$Wire", "spare", "LLanternserver$Frame;", false)
  | 2 => ("Lanternserver$Wire", "lostOne", "LLanternserver$Frame;", true)
  | 3 => ("Lanternserver$Wire", "many", "I", false)
  | 4 => ("Lanternserver$Wire", "sent", "I", false)
  | 5 => ("Lanternserver$Wire", "lost", "I", false)
  | 6 => ("Lanternserver$Wire", "delivered", "I", false)
  | 7 => ("Lanternserver$Wire", "spoilings", "I", false)
  | 8 => ("Lanternserver$Wire", "time", "I", false)
  | 9 => ("Lanternserver$Wire", "outgoing", "[LLanternserver$Datagram;", true)
  | 10 => ("Lanternserver$Wire", "laidOut", "I", false)
  | 11 => ("Lanternserver$Wire", "sentAgain", "I", false)
  | 12 => ("Lanternserver$Wire", "resets", "I", false)
  | _ => ("Lanternserver$Wire", "strangers", "I", false)
def tyX10 : Nat → FieldType := fun k => match k with
  | 0 => .array (.object "Lanternserver$Frame")
  | 1 => .object "Lanternserver$Frame"
  | 2 => .object "Lanternserver$Frame"
  | 3 => .int
  | 4 => .int
  | 5 => .int
  | 6 => .int
  | 7 => .int
  | 8 => .int
  | 9 => .array (.object "Lanternserver$Datagram")
  | 10 => .int
  | 11 => .int
  | 12 => .int
  | _ => .int
theorem nmX10 : ∀ a, a < 14 → ∀ b, b < 14 → a ≠ b → (TX10 a).2.1 ≠ (TX10 b).2.1 := by decide +kernel
theorem tyX10_ok : ∀ k, k < 14 → parseFieldDescriptor (TX10 k).2.2.1 = some (tyX10 k) := by decide +kernel
abbrev cX10_init : ByteArray := prog_12_method_1_code
def yX10_init : MethodName := ⟨RX10, "<init>", "()V"⟩
abbrev cX10_open : ByteArray := prog_12_method_2_code
def yX10_open : MethodName := ⟨RX10, "open", "(IZ)LLanternserver$Frame;"⟩
abbrev cX10_takeOut : ByteArray := prog_12_method_3_code
def yX10_takeOut : MethodName := ⟨RX10, "takeOut", "(I)LLanternserver$Frame;"⟩
abbrev cX10_loseOne : ByteArray := prog_12_method_4_code
def yX10_loseOne : MethodName := ⟨RX10, "loseOne", "(I)I"⟩
abbrev cX10_doubleOne : ByteArray := prog_12_method_5_code
def yX10_doubleOne : MethodName := ⟨RX10, "doubleOne", "(I)I"⟩
abbrev cX10_spoilOne : ByteArray := prog_12_method_6_code
def yX10_spoilOne : MethodName := ⟨RX10, "spoilOne", "(III)I"⟩
abbrev cX10_letter : ByteArray := prog_12_method_7_code
def yX10_letter : MethodName := ⟨RX10, "letter", "(III)LLanternserver$Datagram;"⟩
abbrev cX10_layOut : ByteArray := prog_12_method_8_code
def yX10_layOut : MethodName := ⟨RX10, "layOut", "(LLanternserver$Datagram;)V"⟩
abbrev cX10_answerByReset : ByteArray := prog_12_method_9_code
def yX10_answerByReset : MethodName := ⟨RX10, "answerByReset", "(LLanternserver$Segment;)V"⟩
abbrev cX10_wrongSums : ByteArray := prog_12_method_10_code
def yX10_wrongSums : MethodName := ⟨RX10, "wrongSums", "()I"⟩
def RX11 : String := "Lanternserver"
def TX11 : u_T := fun k => match k with
  | 0 => ("Lanternserver", "tape", "LLanternserver$Row;", true)
  | 1 => ("Lanternserver", "wire", "LLanternserver$Wire;", true)
  | 2 => ("Lanternserver", "hosts", "Ljava/util/ArrayList;", true)
  | 3 => ("Lanternserver", "connections", "Ljava/util/ArrayList;", true)
  | 4 => ("Lanternserver", "echoes", "Ljava/util/ArrayList;", true)
  | 5 => ("Lanternserver", "isEchoAnswered", "[Z", true)
  | 6 => ("Lanternserver", "lookups", "Ljava/util/ArrayList;", true)
  | 7 => ("Lanternserver", "foundHosts", "[I", true)
  | 8 => ("Lanternserver", "nameAsked", "LLanternserver$Row;", true)
  | 9 => ("Lanternserver", "arrived", "LLanternserver$Datagram;", true)
  | 10 => ("Lanternserver", "segment", "LLanternserver$Segment;", true)
  | 11 => ("Lanternserver", "house", "LLanternserver$House;", true)
  | 12 => ("Lanternserver", "served", "LLanternserver$Row;", true)
  | 13 => ("Lanternserver", "naiveHouse", "LLanternserver$House;", true)
  | 14 => ("Lanternserver", "naiveReader", "LLanternserver$Reader;", true)
  | 15 => ("Lanternserver", "naiveAnswer", "LLanternserver$Row;", true)
  | _ => ("Lanternserver", "naivePlaces", "[I", true)
def tyX11 : Nat → FieldType := fun k => match k with
  | 0 => .object "Lanternserver$Row"
  | 1 => .object "Lanternserver$Wire"
  | 2 => .object "java/util/ArrayList"
  | 3 => .object "java/util/ArrayList"
  | 4 => .object "java/util/ArrayList"
  | 5 => .array .boolean
  | 6 => .object "java/util/ArrayList"
  | 7 => .array .int
  | 8 => .object "Lanternserver$Row"
  | 9 => .object "Lanternserver$Datagram"
  | 10 => .object "Lanternserver$Segment"
  | 11 => .object "Lanternserver$House"
  | 12 => .object "Lanternserver$Row"
  | 13 => .object "Lanternserver$House"
  | 14 => .object "Lanternserver$Reader"
  | 15 => .object "Lanternserver$Row"
  | _ => .array .int
theorem nmX11 : ∀ a, a < 17 → ∀ b, b < 17 → a ≠ b → (TX11 a).2.1 ≠ (TX11 b).2.1 := by decide +kernel
theorem tyX11_ok : ∀ k, k < 17 → parseFieldDescriptor (TX11 k).2.2.1 = some (tyX11 k) := by decide +kernel
abbrev cX11_init : ByteArray := prog_1_method_1_code
def yX11_init : MethodName := ⟨RX11, "<init>", "()V"⟩
abbrev cX11_type : ByteArray := prog_1_method_2_code
def yX11_type : MethodName := ⟨RX11, "type", "(JJJJJJ)I"⟩
abbrev cX11_put : ByteArray := prog_1_method_3_code
def yX11_put : MethodName := ⟨RX11, "put", "(II)I"⟩
abbrev cX11_piece : ByteArray := prog_1_method_4_code
def yX11_piece : MethodName := ⟨RX11, "piece", "(I)I"⟩
abbrev cX11_clear : ByteArray := prog_1_method_5_code
def yX11_clear : MethodName := ⟨RX11, "clear", "()I"⟩
abbrev cX11_sum : ByteArray := prog_1_method_6_code
def yX11_sum : MethodName := ⟨RX11, "sum", "(II)I"⟩
abbrev cX11_addHost : ByteArray := prog_1_method_7_code
def yX11_addHost : MethodName := ⟨RX11, "addHost", "(II)I"⟩
abbrev cX11_setMtu : ByteArray := prog_1_method_8_code
def yX11_setMtu : MethodName := ⟨RX11, "setMtu", "(II)I"⟩
abbrev cX11_hostAt : ByteArray := prog_1_method_9_code
def yX11_hostAt : MethodName := ⟨RX11, "hostAt", "(II)I"⟩
abbrev cX11_tableAt : ByteArray := prog_1_method_10_code
def yX11_tableAt : MethodName := ⟨RX11, "tableAt", "(II)I"⟩
abbrev cX11_deliver : ByteArray := prog_1_method_11_code
def yX11_deliver : MethodName := ⟨RX11, "deliver", "(I)I"⟩
abbrev cX11_lose : ByteArray := prog_1_method_12_code
def yX11_lose : MethodName := ⟨RX11, "lose", "(I)I"⟩
abbrev cX11_twice : ByteArray := prog_1_method_13_code
def yX11_twice : MethodName := ⟨RX11, "twice", "(I)I"⟩
abbrev cX11_spoil : ByteArray := prog_1_method_14_code
def yX11_spoil : MethodName := ⟨RX11, "spoil", "(III)I"⟩
abbrev cX11_frameAt : ByteArray := prog_1_method_15_code
def yX11_frameAt : MethodName := ⟨RX11, "frameAt", "(II)I"⟩
abbrev cX11_byteAt : ByteArray := prog_1_method_16_code
def yX11_byteAt : MethodName := ⟨RX11, "byteAt", "(II)I"⟩
abbrev cX11_pass : ByteArray := prog_1_method_17_code
def yX11_pass : MethodName := ⟨RX11, "pass", "(I)I"⟩
abbrev cX11_settle : ByteArray := prog_1_method_18_code
def yX11_settle : MethodName := ⟨RX11, "settle", "(I)I"⟩
abbrev cX11_play : ByteArray := prog_1_method_19_code
def yX11_play : MethodName := ⟨RX11, "play", "(II)I"⟩
abbrev cX11_echo : ByteArray := prog_1_method_20_code
def yX11_echo : MethodName := ⟨RX11, "echo", "(III)I"⟩
abbrev cX11_isAnswered : ByteArray := prog_1_method_21_code
def yX11_isAnswered : MethodName := ⟨RX11, "isAnswered", "(I)Z"⟩
abbrev cX11_name : ByteArray := prog_1_method_22_code
def yX11_name : MethodName := ⟨RX11, "name", "(I)I"⟩
abbrev cX11_lookUp : ByteArray := prog_1_method_23_code
def yX11_lookUp : MethodName := ⟨RX11, "lookUp", "(I)I"⟩
abbrev cX11_askAgain : ByteArray := prog_1_method_24_code
def yX11_askAgain : MethodName := ⟨RX11, "askAgain", "(I)V"⟩
abbrev cX11_found : ByteArray := prog_1_method_25_code
def yX11_found : MethodName := ⟨RX11, "found", "(I)I"⟩
abbrev cX11_connect : ByteArray := prog_1_method_26_code
def yX11_connect : MethodName := ⟨RX11, "connect", "(III)I"⟩
abbrev cX11_write : ByteArray := prog_1_method_27_code
def yX11_write : MethodName := ⟨RX11, "write", "(I)I"⟩
abbrev cX11_read : ByteArray := prog_1_method_28_code
def yX11_read : MethodName := ⟨RX11, "read", "(II)I"⟩
abbrev cX11_readAt : ByteArray := prog_1_method_29_code
def yX11_readAt : MethodName := ⟨RX11, "readAt", "(II)I"⟩
abbrev cX11_close : ByteArray := prog_1_method_30_code
def yX11_close : MethodName := ⟨RX11, "close", "(IZ)I"⟩
abbrev cX11_connectionAt : ByteArray := prog_1_method_31_code
def yX11_connectionAt : MethodName := ⟨RX11, "connectionAt", "(II)I"⟩
abbrev cX11_fileAt : ByteArray := prog_1_method_32_code
def yX11_fileAt : MethodName := ⟨RX11, "fileAt", "(II)I"⟩
abbrev cX11_fileByteAt : ByteArray := prog_1_method_33_code
def yX11_fileByteAt : MethodName := ⟨RX11, "fileByteAt", "(IZI)I"⟩
abbrev cX11_servedAt : ByteArray := prog_1_method_34_code
def yX11_servedAt : MethodName := ⟨RX11, "servedAt", "(II)I"⟩
abbrev cX11_answerAt : ByteArray := prog_1_method_35_code
def yX11_answerAt : MethodName := ⟨RX11, "answerAt", "(II)I"⟩
abbrev cX11_count : ByteArray := prog_1_method_36_code
def yX11_count : MethodName := ⟨RX11, "count", "(I)I"⟩
abbrev cX11_agrees : ByteArray := prog_1_method_37_code
def yX11_agrees : MethodName := ⟨RX11, "agrees", "()Z"⟩
abbrev cX11_errors : ByteArray := prog_1_method_38_code
def yX11_errors : MethodName := ⟨RX11, "errors", "()I"⟩
abbrev cX11_deliveredShare : ByteArray := prog_1_method_39_code
def yX11_deliveredShare : MethodName := ⟨RX11, "deliveredShare", "()D"⟩
abbrev cX11_meanAnswer : ByteArray := prog_1_method_40_code
def yX11_meanAnswer : MethodName := ⟨RX11, "meanAnswer", "()F"⟩
abbrev cX11_hasHost : ByteArray := prog_1_method_41_code
def yX11_hasHost : MethodName := ⟨RX11, "hasHost", "(I)Z"⟩
abbrev cX11_hasConnection : ByteArray := prog_1_method_42_code
def yX11_hasConnection : MethodName := ⟨RX11, "hasConnection", "(I)Z"⟩
abbrev cX11_isNoChoice : ByteArray := prog_1_method_43_code
def yX11_isNoChoice : MethodName := ⟨RX11, "isNoChoice", "(I)Z"⟩
abbrev cX11_nextSeed : ByteArray := prog_1_method_44_code
def yX11_nextSeed : MethodName := ⟨RX11, "nextSeed", "(I)I"⟩
abbrev cX11_draw : ByteArray := prog_1_method_45_code
def yX11_draw : MethodName := ⟨RX11, "draw", "(II)I"⟩
abbrev cX11_isAhead : ByteArray := prog_1_method_46_code
def yX11_isAhead : MethodName := ⟨RX11, "isAhead", "(II)Z"⟩
abbrev cX11_bytesIn : ByteArray := prog_1_method_47_code
def yX11_bytesIn : MethodName := ⟨RX11, "bytesIn", "(J)I"⟩
abbrev cX11_typeNumber : ByteArray := prog_1_method_48_code
def yX11_typeNumber : MethodName := ⟨RX11, "typeNumber", "(J)V"⟩
abbrev cX11_pieceText : ByteArray := prog_1_method_49_code
def yX11_pieceText : MethodName := ⟨RX11, "pieceText", "(I)Ljava/lang/String;"⟩
abbrev cX11_answeredEchoes : ByteArray := prog_1_method_50_code
def yX11_answeredEchoes : MethodName := ⟨RX11, "answeredEchoes", "()I"⟩
abbrev cX11_openMany : ByteArray := prog_1_method_51_code
def yX11_openMany : MethodName := ⟨RX11, "openMany", "(Z)I"⟩
abbrev cX11_isTimerRunning : ByteArray := prog_1_method_52_code
def yX11_isTimerRunning : MethodName := ⟨RX11, "isTimerRunning", "()Z"⟩
abbrev cX11_postAll : ByteArray := prog_1_method_53_code
def yX11_postAll : MethodName := ⟨RX11, "postAll", "()V"⟩
abbrev cX11_carryOne : ByteArray := prog_1_method_54_code
def yX11_carryOne : MethodName := ⟨RX11, "carryOne", "(I)I"⟩
abbrev cX11_tick : ByteArray := prog_1_method_55_code
def yX11_tick : MethodName := ⟨RX11, "tick", "()V"⟩
abbrev cX11_takeEcho : ByteArray := prog_1_method_56_code
def yX11_takeEcho : MethodName := ⟨RX11, "takeEcho", "(I)V"⟩
abbrev cX11_takeNames : ByteArray := prog_1_method_57_code
def yX11_takeNames : MethodName := ⟨RX11, "takeNames", "(I)V"⟩
abbrev cX11_answerName : ByteArray := prog_1_method_58_code
def yX11_answerName : MethodName := ⟨RX11, "answerName", "()V"⟩
abbrev cX11_isQuestionHead : ByteArray := prog_1_method_59_code
def yX11_isQuestionHead : MethodName := ⟨RX11, "isQuestionHead", "(LLanternserver$Row;)Z"⟩
abbrev cX11_takeAnswer : ByteArray := prog_1_method_60_code
def yX11_takeAnswer : MethodName := ⟨RX11, "takeAnswer", "(I)V"⟩
abbrev cX11_readName : ByteArray := prog_1_method_61_code
def yX11_readName : MethodName := ⟨RX11, "readName", "()I"⟩
abbrev cX11_ownerOf : ByteArray := prog_1_method_62_code
def yX11_ownerOf : MethodName := ⟨RX11, "ownerOf", "(LLanternserver$Row;II)I"⟩
abbrev cX11_takeSegment : ByteArray := prog_1_method_63_code
def yX11_takeSegment : MethodName := ⟨RX11, "takeSegment", "(I)V"⟩
abbrev cX11_connectionOf : ByteArray := prog_1_method_64_code
def yX11_connectionOf : MethodName := ⟨RX11, "connectionOf", "(I)LLanternserver$Connection;"⟩
abbrev cX11_isBeginning : ByteArray := prog_1_method_65_code
def yX11_isBeginning : MethodName := ⟨RX11, "isBeginning", "(I)Z"⟩
abbrev cX11_newServers : ByteArray := prog_1_method_66_code
def yX11_newServers : MethodName := ⟨RX11, "newServers", "()LLanternserver$Connection;"⟩
abbrev cX11_serversOf : ByteArray := prog_1_method_67_code
def yX11_serversOf : MethodName := ⟨RX11, "serversOf", "(LLanternserver$Connection;I)I"⟩
abbrev cX11_serve : ByteArray := prog_1_method_68_code
def yX11_serve : MethodName := ⟨RX11, "serve", "(LLanternserver$Connection;)V"⟩
abbrev cX11_noteServed : ByteArray := prog_1_method_69_code
def yX11_noteServed : MethodName := ⟨RX11, "noteServed", "(LLanternserver$Connection;II)V"⟩
abbrev cX11_servedMany : ByteArray := prog_1_method_70_code
def yX11_servedMany : MethodName := ⟨RX11, "servedMany", "()I"⟩
abbrev cX11_servedNumber : ByteArray := prog_1_method_71_code
def yX11_servedNumber : MethodName := ⟨RX11, "servedNumber", "(II)I"⟩
abbrev cX11_servedWell : ByteArray := prog_1_method_72_code
def yX11_servedWell : MethodName := ⟨RX11, "servedWell", "()I"⟩
abbrev cX11_isServedNaively : ByteArray := prog_1_method_73_code
def yX11_isServedNaively : MethodName := ⟨RX11, "isServedNaively", "(I)Z"⟩
abbrev cX11_hasReadOtherwise : ByteArray := prog_1_method_74_code
def yX11_hasReadOtherwise : MethodName := ⟨RX11, "hasReadOtherwise", "(LLanternserver$Connection;)Z"⟩
def RX12 : String := "LanternserverModel$Bytes"
def TX12 : u_T := fun k => match k with
  | 0 => ("LanternserverModel$Bytes", "row", "[I", false)
  | _ => ("LanternserverModel$Bytes", "many", "I", false)
def tyX12 : Nat → FieldType := fun k => match k with
  | 0 => .array .int
  | _ => .int
theorem nmX12 : ∀ a, a < 2 → ∀ b, b < 2 → a ≠ b → (TX12 a).2.1 ≠ (TX12 b).2.1 := by decide +kernel
theorem tyX12_ok : ∀ k, k < 2 → parseFieldDescriptor (TX12 k).2.2.1 = some (tyX12 k) := by decide +kernel
abbrev cX12_init : ByteArray := prog_15_method_1_code
def yX12_init : MethodName := ⟨RX12, "<init>", "()V"⟩
abbrev cX12_add : ByteArray := prog_15_method_2_code
def yX12_add : MethodName := ⟨RX12, "add", "(I)V"⟩
def RX13 : String := "LanternserverModel$Early"
def TX13 : u_T := fun k => match k with
  | 0 => ("LanternserverModel$Early", "begin", "I", true)
  | _ => ("LanternserverModel$Early", "row", "[I", true)
def tyX13 : Nat → FieldType := fun k => match k with
  | 0 => .int
  | _ => .array .int
theorem nmX13 : ∀ a, a < 2 → ∀ b, b < 2 → a ≠ b → (TX13 a).2.1 ≠ (TX13 b).2.1 := by decide +kernel
theorem tyX13_ok : ∀ k, k < 2 → parseFieldDescriptor (TX13 k).2.2.1 = some (tyX13 k) := by decide +kernel
abbrev cX13_init : ByteArray := prog_16_method_1_code
def yX13_init : MethodName := ⟨RX13, "<init>", "(I[I)V"⟩
def RX14 : String := "LanternserverModel$Frame"
def TX14 : u_T := fun k => match k with
  | 0 => ("LanternserverModel$Frame", "row", "[I", false)
  | 1 => ("LanternserverModel$Frame", "from", "I", false)
  | 2 => ("LanternserverModel$Frame", "isSpoilt", "Z", false)
  | _ => ("LanternserverModel$Frame", "isPiece", "Z", false)
def tyX14 : Nat → FieldType := fun k => match k with
  | 0 => .array .int
  | 1 => .int
  | 2 => .boolean
  | _ => .boolean
theorem nmX14 : ∀ a, a < 4 → ∀ b, b < 4 → a ≠ b → (TX14 a).2.1 ≠ (TX14 b).2.1 := by decide +kernel
theorem tyX14_ok : ∀ k, k < 4 → parseFieldDescriptor (TX14 k).2.2.1 = some (tyX14 k) := by decide +kernel
abbrev cX14_init : ByteArray := prog_17_method_1_code
def yX14_init : MethodName := ⟨RX14, "<init>", "()V"⟩
def RX15 : String := "LanternserverModel$Host"
def TX15 : u_T := fun k => match k with
  | 0 => ("LanternserverModel$Host", "mss", "I", true)
  | 1 => ("LanternserverModel$Host", "mtu", "I", false)
  | 2 => ("LanternserverModel$Host", "counted", "I", false)
  | 3 => ("LanternserverModel$Host", "took", "I", false)
  | 4 => ("LanternserverModel$Host", "refused", "I", false)
  | 5 => ("LanternserverModel$Host", "known", "I", false)
  | 6 => ("LanternserverModel$Host", "waiting", "I", false)
  | 7 => ("LanternserverModel$Host", "together", "I", false)
  | 8 => ("LanternserverModel$Host", "table", "[LLanternserverModel$Known;", false)
  | 9 => ("LanternserverModel$Host", "waits", "[LLanternserverModel$Waits;", true)
  | 10 => ("LanternserverModel$Host", "parts", "[LLanternserverModel$Together;", true)
  | 11 => ("LanternserverModel$Host", "asked", "[I", true)
  | 12 => ("LanternserverModel$Host", "name", "[I", false)
  | 13 => ("LanternserverModel$Host", "made", "[[I", false)
  | 14 => ("LanternserverModel$Host", "madeProtocol", "[I", false)
  | _ => ("LanternserverModel$Host", "madeTo", "[I", false)
def tyX15 : Nat → FieldType := fun k => match k with
  | 0 => .int
  | 1 => .int
  | 2 => .int
  | 3 => .int
  | 4 => .int
  | 5 => .int
  | 6 => .int
  | 7 => .int
  | 8 => .array (.object "LanternserverModel$Known")
  | 9 => .array (.object "LanternserverModel$Waits")
  | 10 => .array (.object "LanternserverModel$Together")
  | 11 => .array .int
  | 12 => .array .int
  | 13 => .array (.array .int)
  | 14 => .array .int
  | _ => .array .int
theorem nmX15 : ∀ a, a < 16 → ∀ b, b < 16 → a ≠ b → (TX15 a).2.1 ≠ (TX15 b).2.1 := by decide +kernel
theorem tyX15_ok : ∀ k, k < 16 → parseFieldDescriptor (TX15 k).2.2.1 = some (tyX15 k) := by decide +kernel
abbrev cX15_init : ByteArray := prog_18_method_1_code
def yX15_init : MethodName := ⟨RX15, "<init>", "(II)V"⟩
def RX16 : String := "LanternserverModel$Known"
def TX16 : u_T := fun k => match k with
  | 0 => ("LanternserverModel$Known", "address", "I", false)
  | 1 => ("LanternserverModel$Known", "hardware", "J", false)
  | _ => ("LanternserverModel$Known", "since", "I", false)
def tyX16 : Nat → FieldType := fun k => match k with
  | 0 => .int
  | 1 => .long
  | _ => .int
theorem nmX16 : ∀ a, a < 3 → ∀ b, b < 3 → a ≠ b → (TX16 a).2.1 ≠ (TX16 b).2.1 := by decide +kernel
theorem tyX16_ok : ∀ k, k < 3 → parseFieldDescriptor (TX16 k).2.2.1 = some (tyX16 k) := by decide +kernel
abbrev cX16_init : ByteArray := prog_19_method_1_code
def yX16_init : MethodName := ⟨RX16, "<init>", "()V"⟩
def RX17 : String := "LanternserverModel$Line"
def TX17 : u_T := fun k => match k with
  | 0 => ("LanternserverModel$Line", "number", "I", true)
  | 1 => ("LanternserverModel$Line", "host", "I", true)
  | 2 => ("LanternserverModel$Line", "port", "I", true)
  | 3 => ("LanternserverModel$Line", "other", "I", true)
  | 4 => ("LanternserverModel$Line", "otherPort", "I", true)
  | 5 => ("LanternserverModel$Line", "iss", "I", true)
  | 6 => ("LanternserverModel$Line", "state", "I", false)
  | 7 => ("LanternserverModel$Line", "una", "I", false)
  | 8 => ("LanternserverModel$Line", "nxt", "I", false)
  | 9 => ("LanternserverModel$Line", "out", "LLanternserverModel$Bytes;", true)
  | 10 => ("LanternserverModel$Line", "isClosed", "Z", false)
  | 11 => ("LanternserverModel$Line", "isFinSent", "Z", false)
  | 12 => ("LanternserverModel$Line", "window", "I", false)
  | 13 => ("LanternserverModel$Line", "windowSequence", "I", false)
  | 14 => ("LanternserverModel$Line", "windowAcknowledged", "I", false)
  | 15 => ("LanternserverModel$Line", "cwnd", "I", false)
  | 16 => ("LanternserverModel$Line", "threshold", "I", false)
  | 17 => ("LanternserverModel$Line", "mss", "I", false)
  | 18 => ("LanternserverModel$Line", "hasOther", "Z", false)
  | 19 => ("LanternserverModel$Line", "irs", "I", false)
  | 20 => ("LanternserverModel$Line", "rcv", "I", false)
  | 21 => ("LanternserverModel$Line", "got", "LLanternserverModel$Bytes;", true)
  | 22 => ("LanternserverModel$Line", "read", "I", false)
  | 23 => ("LanternserverModel$Line", "hasFin", "Z", false)
  | 24 => ("LanternserverModel$Line", "early", "[LLanternserverModel$Early;", true)
  | 25 => ("LanternserverModel$Line", "earlyMany", "I", false)
  | 26 => ("LanternserverModel$Line", "rto", "I", false)
  | 27 => ("LanternserverModel$Line", "timedFrom", "I", false)
  | 28 => ("LanternserverModel$Line", "isProbing", "Z", false)
  | 29 => ("LanternserverModel$Line", "times", "I", false)
  | 30 => ("LanternserverModel$Line", "doubles", "I", false)
  | 31 => ("LanternserverModel$Line", "isMeasured", "Z", false)
  | 32 => ("LanternserverModel$Line", "measuredEnd", "I", false)
  | 33 => ("LanternserverModel$Line", "measuredFrom", "I", false)
  | 34 => ("LanternserverModel$Line", "hasSmooth", "Z", false)
  | 35 => ("LanternserverModel$Line", "smooth", "I", false)
  | 36 => ("LanternserverModel$Line", "varies", "I", false)
  | 37 => ("LanternserverModel$Line", "ended", "I", false)
  | 38 => ("LanternserverModel$Line", "latest", "I", false)
  | 39 => ("LanternserverModel$Line", "waitsFrom", "I", false)
  | _ => ("LanternserverModel$Line", "end", "I", false)
def tyX17 : Nat → FieldType := fun k => match k with
  | 0 => .int
  | 1 => .int
  | 2 => .int
  | 3 => .int
  | 4 => .int
  | 5 => .int
  | 6 => .int
  | 7 => .int
  | 8 => .int
  | 9 => .object "LanternserverModel$Bytes"
  | 10 => .boolean
  | 11 => .boolean
  | 12 => .int
  | 13 => .int
  | 14 => .int
  | 15 => .int
  | 16 => .int
  | 17 => .int
  | 18 => .boolean
  | 19 => .int
  | 20 => .int
  | 21 => .object "LanternserverModel$Bytes"
  | 22 => .int
  | 23 => .boolean
  | 24 => .array (.object "LanternserverModel$Early")
  | 25 => .int
  | 26 => .int
  | 27 => .int
  | 28 => .boolean
  | 29 => .int
  | 30 => .int
  | 31 => .boolean
  | 32 => .int
  | 33 => .int
  | 34 => .boolean
  | 35 => .int
  | 36 => .int
  | 37 => .int
  | 38 => .int
  | 39 => .int
  | _ => .int
theorem nmX17 : ∀ a, a < 41 → ∀ b, b < 41 → a ≠ b → (TX17 a).2.1 ≠ (TX17 b).2.1 := by decide +kernel
theorem tyX17_ok : ∀ k, k < 41 → parseFieldDescriptor (TX17 k).2.2.1 = some (tyX17 k) := by decide +kernel
abbrev cX17_init : ByteArray := prog_20_method_1_code
def yX17_init : MethodName := ⟨RX17, "<init>", "(IIIIIII)V"⟩
abbrev cX17_underWay : ByteArray := prog_20_method_2_code
def yX17_underWay : MethodName := ⟨RX17, "underWay", "()I"⟩
abbrev cX17_sentBytes : ByteArray := prog_20_method_3_code
def yX17_sentBytes : MethodName := ⟨RX17, "sentBytes", "()I"⟩
abbrev cX17_goneBytes : ByteArray := prog_20_method_4_code
def yX17_goneBytes : MethodName := ⟨RX17, "goneBytes", "()I"⟩
abbrev cX17_waiting : ByteArray := prog_20_method_5_code
def yX17_waiting : MethodName := ⟨RX17, "waiting", "()I"⟩
abbrev cX17_isTold : ByteArray := prog_20_method_6_code
def yX17_isTold : MethodName := ⟨RX17, "isTold", "()Z"⟩
abbrev cX17_ownWindow : ByteArray := prog_20_method_7_code
def yX17_ownWindow : MethodName := ⟨RX17, "ownWindow", "()I"⟩
abbrev cX17_isSending : ByteArray := prog_20_method_8_code
def yX17_isSending : MethodName := ⟨RX17, "isSending", "()Z"⟩
abbrev cX17_isShut : ByteArray := prog_20_method_9_code
def yX17_isShut : MethodName := ⟨RX17, "isShut", "()Z"⟩
abbrev cX17_isTimed : ByteArray := prog_20_method_10_code
def yX17_isTimed : MethodName := ⟨RX17, "isTimed", "()Z"⟩
def RX18 : String := "LanternserverModel$Together"
def TX18 : u_T := fun k => match k with
  | 0 => ("LanternserverModel$Together", "address", "I", false)
  | 1 => ("LanternserverModel$Together", "identification", "I", false)
  | 2 => ("LanternserverModel$Together", "protocol", "I", false)
  | 3 => ("LanternserverModel$Together", "since", "I", false)
  | 4 => ("LanternserverModel$Together", "end", "I", false)
  | 5 => ("LanternserverModel$Together", "bytes", "[I", true)
  | _ => ("LanternserverModel$Together", "has", "[Z", true)
def tyX18 : Nat → FieldType := fun k => match k with
  | 0 => .int
  | 1 => .int
  | 2 => .int
  | 3 => .int
  | 4 => .int
  | 5 => .array .int
  | _ => .array .boolean
theorem nmX18 : ∀ a, a < 7 → ∀ b, b < 7 → a ≠ b → (TX18 a).2.1 ≠ (TX18 b).2.1 := by decide +kernel
theorem tyX18_ok : ∀ k, k < 7 → parseFieldDescriptor (TX18 k).2.2.1 = some (tyX18 k) := by decide +kernel
abbrev cX18_init : ByteArray := prog_21_method_1_code
def yX18_init : MethodName := ⟨RX18, "<init>", "()V"⟩
abbrev cX18_isWhole : ByteArray := prog_21_method_2_code
def yX18_isWhole : MethodName := ⟨RX18, "isWhole", "()Z"⟩
def RX19 : String := "LanternserverModel$Waits"
def TX19 : u_T := fun k => match k with
  | 0 => ("LanternserverModel$Waits", "to", "I", false)
  | _ => ("LanternserverModel$Waits", "rows", "[[I", false)
def tyX19 : Nat → FieldType := fun k => match k with
  | 0 => .int
  | _ => .array (.array .int)
theorem nmX19 : ∀ a, a < 2 → ∀ b, b < 2 → a ≠ b → (TX19 a).2.1 ≠ (TX19 b).2.1 := by decide +kernel
theorem tyX19_ok : ∀ k, k < 2 → parseFieldDescriptor (TX19 k).2.2.1 = some (tyX19 k) := by decide +kernel
abbrev cX19_init : ByteArray := prog_22_method_1_code
def yX19_init : MethodName := ⟨RX19, "<init>", "()V"⟩
def RX20 : String := "LanternserverModel"
def TX20 : u_T := fun k => match k with
  | 0 => ("LanternserverModel", "thrown", "I", false)
  | 1 => ("LanternserverModel", "time", "I", false)
  | 2 => ("LanternserverModel", "hosts", "I", false)
  | 3 => ("LanternserverModel", "tape", "[I", true)
  | 4 => ("LanternserverModel", "tapeMany", "I", false)
  | 5 => ("LanternserverModel", "host", "[LLanternserverModel$Host;", true)
  | 6 => ("LanternserverModel", "wire", "[LLanternserverModel$Frame;", true)
  | 7 => ("LanternserverModel", "frames", "I", false)
  | 8 => ("LanternserverModel", "lost", "I", false)
  | 9 => ("LanternserverModel", "spoilt", "I", false)
  | 10 => ("LanternserverModel", "framesSent", "J", false)
  | 11 => ("LanternserverModel", "delivered", "J", false)
  | 12 => ("LanternserverModel", "strange", "I", false)
  | 13 => ("LanternserverModel", "echoes", "I", false)
  | 14 => ("LanternserverModel", "answered", "I", false)
  | 15 => ("LanternserverModel", "echoHost", "[I", true)
  | 16 => ("LanternserverModel", "echoTo", "[I", true)
  | 17 => ("LanternserverModel", "echoMany", "[I", true)
  | 18 => ("LanternserverModel", "isAnswered", "[Z", true)
  | 19 => ("LanternserverModel", "lookups", "I", false)
  | 20 => ("LanternserverModel", "lookupHost", "[I", true)
  | 21 => ("LanternserverModel", "lookupFound", "[I", true)
  | 22 => ("LanternserverModel", "lookupName", "[[I", true)
  | 23 => ("LanternserverModel", "seed", "I", false)
  | 24 => ("LanternserverModel", "lines", "[LLanternserverModel$Line;", true)
  | 25 => ("LanternserverModel", "connections", "I", false)
  | 26 => ("LanternserverModel", "sentAgain", "I", false)
  | 27 => ("LanternserverModel", "answeredByRst", "I", false)
  | 28 => ("LanternserverModel", "came", "[I", false)
  | 29 => ("LanternserverModel", "cameFrom", "I", false)
  | 30 => ("LanternserverModel", "cameMany", "I", false)
  | 31 => ("LanternserverModel", "sequence", "I", false)
  | 32 => ("LanternserverModel", "acknowledgement", "I", false)
  | 33 => ("LanternserverModel", "flags", "I", false)
  | 34 => ("LanternserverModel", "cameWindow", "I", false)
  | 35 => ("LanternserverModel", "letter", "[I", true)
  | 36 => ("LanternserverModel", "letterFrom", "[I", true)
  | 37 => ("LanternserverModel", "codes", "[I", true)
  | 38 => ("LanternserverModel", "phase", "[I", true)
  | 39 => ("LanternserverModel", "bytesRead", "[I", true)
  | 40 => ("LanternserverModel", "lineLong", "[I", true)
  | 41 => ("LanternserverModel", "linesRead", "[I", true)
  | 42 => ("LanternserverModel", "fits", "[I", true)
  | 43 => ("LanternserverModel", "wordLong", "[I", true)
  | 44 => ("LanternserverModel", "method", "[I", true)
  | 45 => ("LanternserverModel", "targetLong", "[I", true)
  | 46 => ("LanternserverModel", "edition", "[I", true)
  | 47 => ("LanternserverModel", "valueLong", "[I", true)
  | 48 => ("LanternserverModel", "valueEnd", "[I", true)
  | 49 => ("LanternserverModel", "nameOfLine", "[I", true)
  | 50 => ("LanternserverModel", "hostsTold", "[I", true)
  | 51 => ("LanternserverModel", "lengthTold", "[I", true)
  | 52 => ("LanternserverModel", "coding", "[I", true)
  | 53 => ("LanternserverModel", "staying", "[I", true)
  | 54 => ("LanternserverModel", "ifMatch", "[I", true)
  | 55 => ("LanternserverModel", "ifNone", "[I", true)
  | 56 => ("LanternserverModel", "isLengthBad", "[Z", true)
  | 57 => ("LanternserverModel", "rangeKind", "[I", true)
  | 58 => ("LanternserverModel", "rangeA", "[I", true)
  | 59 => ("LanternserverModel", "rangeB", "[I", true)
  | 60 => ("LanternserverModel", "bodyLong", "[I", true)
  | 61 => ("LanternserverModel", "bodyLeft", "[I", true)
  | 62 => ("LanternserverModel", "sizeDigits", "[I", true)
  | 63 => ("LanternserverModel", "sizeTold", "[I", true)
  | 64 => ("LanternserverModel", "target", "[I", true)
  | 65 => ("LanternserverModel", "value", "[I", true)
  | 66 => ("LanternserverModel", "body", "[I", true)
  | 67 => ("LanternserverModel", "numberEnd", "I", false)
  | 68 => ("LanternserverModel", "files", "[I", true)
  | 69 => ("LanternserverModel", "version", "[I", true)
  | 70 => ("LanternserverModel", "nameLong", "[I", true)
  | 71 => ("LanternserverModel", "nameByte", "[I", true)
  | 72 => ("LanternserverModel", "fileSize", "[I", true)
  | 73 => ("LanternserverModel", "fileVersion", "[I", true)
  | 74 => ("LanternserverModel", "fileByte", "[I", true)
  | 75 => ("LanternserverModel", "partFrom", "I", false)
  | 76 => ("LanternserverModel", "partLong", "I", false)
  | 77 => ("LanternserverModel", "tagTold", "I", false)
  | 78 => ("LanternserverModel", "sizeAsked", "I", false)
  | 79 => ("LanternserverModel", "said", "[I", false)
  | 80 => ("LanternserverModel", "saidLong", "I", false)
  | 81 => ("LanternserverModel", "servedConnection", "[I", false)
  | 82 => ("LanternserverModel", "servedNumber", "[I", false)
  | 83 => ("LanternserverModel", "servedCode", "[I", false)
  | 84 => ("LanternserverModel", "servedFrom", "[I", false)
  | 85 => ("LanternserverModel", "servedMany", "[I", false)
  | 86 => ("LanternserverModel", "servedBytes", "[I", false)
  | 87 => ("LanternserverModel", "servedTime", "[I", false)
  | 88 => ("LanternserverModel", "servedLast", "[I", false)
  | 89 => ("LanternserverModel", "served", "I", false)
  | 90 => ("LanternserverModel", "servedNow", "[I", true)
  | 91 => ("LanternserverModel", "servedWritten", "[I", true)
  | 92 => ("LanternserverModel", "servedHere", "[I", true)
  | 93 => ("LanternserverModel", "isServing", "[Z", true)
  | 94 => ("LanternserverModel", "houseAt", "[I", true)
  | _ => ("LanternserverModel", "clientAt", "[I", true)
def tyX20 : Nat → FieldType := fun k => match k with
  | 0 => .int
  | 1 => .int
  | 2 => .int
  | 3 => .array .int
  | 4 => .int
  | 5 => .array (.object "LanternserverModel$Host")
  | 6 => .array (.object "LanternserverModel$Frame")
  | 7 => .int
  | 8 => .int
  | 9 => .int
  | 10 => .long
  | 11 => .long
  | 12 => .int
  | 13 => .int
  | 14 => .int
  | 15 => .array .int
  | 16 => .array .int
  | 17 => .array .int
  | 18 => .array .boolean
  | 19 => .int
  | 20 => .array .int
  | 21 => .array .int
  | 22 => .array (.array .int)
  | 23 => .int
  | 24 => .array (.object "LanternserverModel$Line")
  | 25 => .int
  | 26 => .int
  | 27 => .int
  | 28 => .array .int
  | 29 => .int
  | 30 => .int
  | 31 => .int
  | 32 => .int
  | 33 => .int
  | 34 => .int
  | 35 => .array .int
  | 36 => .array .int
  | 37 => .array .int
  | 38 => .array .int
  | 39 => .array .int
  | 40 => .array .int
  | 41 => .array .int
  | 42 => .array .int
  | 43 => .array .int
  | 44 => .array .int
  | 45 => .array .int
  | 46 => .array .int
  | 47 => .array .int
  | 48 => .array .int
  | 49 => .array .int
  | 50 => .array .int
  | 51 => .array .int
  | 52 => .array .int
  | 53 => .array .int
  | 54 => .array .int
  | 55 => .array .int
  | 56 => .array .boolean
  | 57 => .array .int
  | 58 => .array .int
  | 59 => .array .int
  | 60 => .array .int
  | 61 => .array .int
  | 62 => .array .int
  | 63 => .array .int
  | 64 => .array .int
  | 65 => .array .int
  | 66 => .array .int
  | 67 => .int
  | 68 => .array .int
  | 69 => .array .int
  | 70 => .array .int
  | 71 => .array .int
  | 72 => .array .int
  | 73 => .array .int
  | 74 => .array .int
  | 75 => .int
  | 76 => .int
  | 77 => .int
  | 78 => .int
  | 79 => .array .int
  | 80 => .int
  | 81 => .array .int
  | 82 => .array .int
  | 83 => .array .int
  | 84 => .array .int
  | 85 => .array .int
  | 86 => .array .int
  | 87 => .array .int
  | 88 => .array .int
  | 89 => .int
  | 90 => .array .int
  | 91 => .array .int
  | 92 => .array .int
  | 93 => .array .boolean
  | 94 => .array .int
  | _ => .array .int
theorem nmX20 : ∀ a, a < 96 → ∀ b, b < 96 → a ≠ b → (TX20 a).2.1 ≠ (TX20 b).2.1 := by decide +kernel
theorem tyX20_ok : ∀ k, k < 96 → parseFieldDescriptor (TX20 k).2.2.1 = some (tyX20 k) := by decide +kernel
abbrev cX20_init : ByteArray := prog_14_method_1_code
def yX20_init : MethodName := ⟨RX20, "<init>", "()V"⟩
abbrev cX20_thrown : ByteArray := prog_14_method_2_code
def yX20_thrown : MethodName := ⟨RX20, "thrown", "()I"⟩
abbrev cX20_in : ByteArray := prog_14_method_3_code
def yX20_in : MethodName := ⟨RX20, "in", "(JJJ)Z"⟩
abbrev cX20_fine : ByteArray := prog_14_method_4_code
def yX20_fine : MethodName := ⟨RX20, "fine", "(Z)Z"⟩
abbrev cX20_fine_ : ByteArray := prog_14_method_5_code
def yX20_fine_ : MethodName := ⟨RX20, "fine", "(ZZ)Z"⟩
abbrev cX20_fine__ : ByteArray := prog_14_method_6_code
def yX20_fine__ : MethodName := ⟨RX20, "fine", "(ZZZ)Z"⟩
abbrev cX20_tapeLength : ByteArray := prog_14_method_7_code
def yX20_tapeLength : MethodName := ⟨RX20, "tapeLength", "()I"⟩
abbrev cX20_tapeAt : ByteArray := prog_14_method_8_code
def yX20_tapeAt : MethodName := ⟨RX20, "tapeAt", "(I)I"⟩
abbrev cX20_tapeDrops : ByteArray := prog_14_method_9_code
def yX20_tapeDrops : MethodName := ⟨RX20, "tapeDrops", "(I)V"⟩
abbrev cX20_bytesOf : ByteArray := prog_14_method_10_code
def yX20_bytesOf : MethodName := ⟨RX20, "bytesOf", "(J)I"⟩
abbrev cX20_puts : ByteArray := prog_14_method_11_code
def yX20_puts : MethodName := ⟨RX20, "puts", "(J)V"⟩
abbrev cX20_type : ByteArray := prog_14_method_12_code
def yX20_type : MethodName := ⟨RX20, "type", "(JJJJJJ)I"⟩
abbrev cX20_put : ByteArray := prog_14_method_13_code
def yX20_put : MethodName := ⟨RX20, "put", "(II)I"⟩
abbrev cX20_pieceOf : ByteArray := prog_14_method_14_code
def yX20_pieceOf : MethodName := ⟨RX20, "pieceOf", "(I)Ljava/lang/String;"⟩
abbrev cX20_piece : ByteArray := prog_14_method_15_code
def yX20_piece : MethodName := ⟨RX20, "piece", "(I)I"⟩
abbrev cX20_clear : ByteArray := prog_14_method_16_code
def yX20_clear : MethodName := ⟨RX20, "clear", "()I"⟩
abbrev cX20_added : ByteArray := prog_14_method_17_code
def yX20_added : MethodName := ⟨RX20, "added", "(I[III)I"⟩
abbrev cX20_sumOf : ByteArray := prog_14_method_18_code
def yX20_sumOf : MethodName := ⟨RX20, "sumOf", "([III)I"⟩
abbrev cX20_sumOver : ByteArray := prog_14_method_19_code
def yX20_sumOver : MethodName := ⟨RX20, "sumOver", "(III[III)I"⟩
abbrev cX20_sum : ByteArray := prog_14_method_20_code
def yX20_sum : MethodName := ⟨RX20, "sum", "(II)I"⟩
abbrev cX20_mssOf : ByteArray := prog_14_method_21_code
def yX20_mssOf : MethodName := ⟨RX20, "mssOf", "(I)I"⟩
abbrev cX20_addHost : ByteArray := prog_14_method_22_code
def yX20_addHost : MethodName := ⟨RX20, "addHost", "(II)I"⟩
abbrev cX20_setMtu : ByteArray := prog_14_method_23_code
def yX20_setMtu : MethodName := ⟨RX20, "setMtu", "(II)I"⟩
abbrev cX20_hostAt : ByteArray := prog_14_method_24_code
def yX20_hostAt : MethodName := ⟨RX20, "hostAt", "(II)I"⟩
abbrev cX20_addressOf : ByteArray := prog_14_method_25_code
def yX20_addressOf : MethodName := ⟨RX20, "addressOf", "(I)I"⟩
abbrev cX20_hostWith : ByteArray := prog_14_method_26_code
def yX20_hostWith : MethodName := ⟨RX20, "hostWith", "(I)I"⟩
abbrev cX20_hardwareOf : ByteArray := prog_14_method_27_code
def yX20_hardwareOf : MethodName := ⟨RX20, "hardwareOf", "(I)J"⟩
abbrev cX20_knownOf : ByteArray := prog_14_method_28_code
def yX20_knownOf : MethodName := ⟨RX20, "knownOf", "(LLanternserverModel$Host;I)LLanternserverModel$Known;"⟩
abbrev cX20_tableAt : ByteArray := prog_14_method_29_code
def yX20_tableAt : MethodName := ⟨RX20, "tableAt", "(II)I"⟩
abbrev cX20_puts_ : ByteArray := prog_14_method_30_code
def yX20_puts_ : MethodName := ⟨RX20, "puts", "([IIJI)V"⟩
abbrev cX20_number : ByteArray := prog_14_method_31_code
def yX20_number : MethodName := ⟨RX20, "number", "([III)J"⟩
abbrev cX20_toWire : ByteArray := prog_14_method_32_code
def yX20_toWire : MethodName := ⟨RX20, "toWire", "(LLanternserverModel$Frame;)V"⟩
abbrev cX20_frame : ByteArray := prog_14_method_33_code
def yX20_frame : MethodName := ⟨RX20, "frame", "(IJI[IZ)V"⟩
abbrev cX20_takenOff : ByteArray := prog_14_method_34_code
def yX20_takenOff : MethodName := ⟨RX20, "takenOff", "(I)LLanternserverModel$Frame;"⟩
abbrev cX20_delivers : ByteArray := prog_14_method_35_code
def yX20_delivers : MethodName := ⟨RX20, "delivers", "(I)I"⟩
abbrev cX20_deliver : ByteArray := prog_14_method_36_code
def yX20_deliver : MethodName := ⟨RX20, "deliver", "(I)I"⟩
abbrev cX20_lose : ByteArray := prog_14_method_37_code
def yX20_lose : MethodName := ⟨RX20, "lose", "(I)I"⟩
abbrev cX20_twice : ByteArray := prog_14_method_38_code
def yX20_twice : MethodName := ⟨RX20, "twice", "(I)I"⟩
abbrev cX20_spoil : ByteArray := prog_14_method_39_code
def yX20_spoil : MethodName := ⟨RX20, "spoil", "(III)I"⟩
abbrev cX20_frameAt : ByteArray := prog_14_method_40_code
def yX20_frameAt : MethodName := ⟨RX20, "frameAt", "(II)I"⟩
abbrev cX20_byteAt : ByteArray := prog_14_method_41_code
def yX20_byteAt : MethodName := ⟨RX20, "byteAt", "(II)I"⟩
abbrev cX20_copy : ByteArray := prog_14_method_42_code
def yX20_copy : MethodName := ⟨RX20, "copy", "([III)[I"⟩
abbrev cX20_takes : ByteArray := prog_14_method_43_code
def yX20_takes : MethodName := ⟨RX20, "takes", "(I[I)V"⟩
abbrev cX20_message : ByteArray := prog_14_method_44_code
def yX20_message : MethodName := ⟨RX20, "message", "(IJIJI)[I"⟩
abbrev cX20_takesMessage : ByteArray := prog_14_method_45_code
def yX20_takesMessage : MethodName := ⟨RX20, "takesMessage", "(I[I)Z"⟩
abbrev cX20_keeps : ByteArray := prog_14_method_46_code
def yX20_keeps : MethodName := ⟨RX20, "keeps", "(LLanternserverModel$Host;LLanternserverModel$Known;IJ)V"⟩
abbrev cX20_sendsWaiting : ByteArray := prog_14_method_47_code
def yX20_sendsWaiting : MethodName := ⟨RX20, "sendsWaiting", "(IIJ)V"⟩
abbrev cX20_sendsRows : ByteArray := prog_14_method_48_code
def yX20_sendsRows : MethodName := ⟨RX20, "sendsRows", "(IJ[[I)V"⟩
abbrev cX20_datagram : ByteArray := prog_14_method_49_code
def yX20_datagram : MethodName := ⟨RX20, "datagram", "(III[IIIZ)[I"⟩
abbrev cX20_sends : ByteArray := prog_14_method_50_code
def yX20_sends : MethodName := ⟨RX20, "sends", "(III[II)V"⟩
abbrev cX20_records : ByteArray := prog_14_method_51_code
def yX20_records : MethodName := ⟨RX20, "records", "(LLanternserverModel$Host;II[I)V"⟩
abbrev cX20_takesDatagram : ByteArray := prog_14_method_52_code
def yX20_takesDatagram : MethodName := ⟨RX20, "takesDatagram", "(I[I)Z"⟩
abbrev cX20_partOf : ByteArray := prog_14_method_53_code
def yX20_partOf : MethodName := ⟨RX20, "partOf", "(LLanternserverModel$Host;III)I"⟩
abbrev cX20_forgets : ByteArray := prog_14_method_54_code
def yX20_forgets : MethodName := ⟨RX20, "forgets", "(LLanternserverModel$Host;I)V"⟩
abbrev cX20_puts__ : ByteArray := prog_14_method_55_code
def yX20_puts__ : MethodName := ⟨RX20, "puts", "(III[IIIZ)V"⟩
abbrev cX20_areLike : ByteArray := prog_14_method_56_code
def yX20_areLike : MethodName := ⟨RX20, "areLike", "([I[I)Z"⟩
abbrev cX20_hasNoSum : ByteArray := prog_14_method_57_code
def yX20_hasNoSum : MethodName := ⟨RX20, "hasNoSum", "(I[I)Z"⟩
abbrev cX20_isRight : ByteArray := prog_14_method_58_code
def yX20_isRight : MethodName := ⟨RX20, "isRight", "(III[I)Z"⟩
abbrev cX20_wasSent : ByteArray := prog_14_method_59_code
def yX20_wasSent : MethodName := ⟨RX20, "wasSent", "(IIII[I)Z"⟩
abbrev cX20_took : ByteArray := prog_14_method_60_code
def yX20_took : MethodName := ⟨RX20, "took", "(IIII[I)V"⟩
abbrev cX20_wireErrors : ByteArray := prog_14_method_61_code
def yX20_wireErrors : MethodName := ⟨RX20, "wireErrors", "()I"⟩
abbrev cX20_fits : ByteArray := prog_14_method_62_code
def yX20_fits : MethodName := ⟨RX20, "fits", "([IZ)Z"⟩
abbrev cX20_echoRow : ByteArray := prog_14_method_63_code
def yX20_echoRow : MethodName := ⟨RX20, "echoRow", "(II)[I"⟩
abbrev cX20_echo : ByteArray := prog_14_method_64_code
def yX20_echo : MethodName := ⟨RX20, "echo", "(III)I"⟩
abbrev cX20_isAnswered : ByteArray := prog_14_method_65_code
def yX20_isAnswered : MethodName := ⟨RX20, "isAnswered", "(I)Z"⟩
abbrev cX20_echoComes : ByteArray := prog_14_method_66_code
def yX20_echoComes : MethodName := ⟨RX20, "echoComes", "(II[I)V"⟩
abbrev cX20_isNameByte : ByteArray := prog_14_method_67_code
def yX20_isNameByte : MethodName := ⟨RX20, "isNameByte", "(I)Z"⟩
abbrev cX20_nameOnTape : ByteArray := prog_14_method_68_code
def yX20_nameOnTape : MethodName := ⟨RX20, "nameOnTape", "()[I"⟩
abbrev cX20_hostNamed : ByteArray := prog_14_method_69_code
def yX20_hostNamed : MethodName := ⟨RX20, "hostNamed", "([I)I"⟩
abbrev cX20_partsOf : ByteArray := prog_14_method_70_code
def yX20_partsOf : MethodName := ⟨RX20, "partsOf", "([I)I"⟩
abbrev cX20_name : ByteArray := prog_14_method_71_code
def yX20_name : MethodName := ⟨RX20, "name", "(I)I"⟩
abbrev cX20_question : ByteArray := prog_14_method_72_code
def yX20_question : MethodName := ⟨RX20, "question", "([I)[I"⟩
abbrev cX20_joined : ByteArray := prog_14_method_73_code
def yX20_joined : MethodName := ⟨RX20, "joined", "([I[I)[I"⟩
abbrev cX20_start : ByteArray := prog_14_method_74_code
def yX20_start : MethodName := ⟨RX20, "start", "(III)[I"⟩
abbrev cX20_sendsByPorts : ByteArray := prog_14_method_75_code
def yX20_sendsByPorts : MethodName := ⟨RX20, "sendsByPorts", "(IIII[I)V"⟩
abbrev cX20_asks : ByteArray := prog_14_method_76_code
def yX20_asks : MethodName := ⟨RX20, "asks", "(I)V"⟩
abbrev cX20_lookUp : ByteArray := prog_14_method_77_code
def yX20_lookUp : MethodName := ⟨RX20, "lookUp", "(I)I"⟩
abbrev cX20_askAgain : ByteArray := prog_14_method_78_code
def yX20_askAgain : MethodName := ⟨RX20, "askAgain", "(I)V"⟩
abbrev cX20_found : ByteArray := prog_14_method_79_code
def yX20_found : MethodName := ⟨RX20, "found", "(I)I"⟩
abbrev cX20_nameComes : ByteArray := prog_14_method_80_code
def yX20_nameComes : MethodName := ⟨RX20, "nameComes", "(II[I)V"⟩
abbrev cX20_nameIn : ByteArray := prog_14_method_81_code
def yX20_nameIn : MethodName := ⟨RX20, "nameIn", "([I)[I"⟩
abbrev cX20_questionComes : ByteArray := prog_14_method_82_code
def yX20_questionComes : MethodName := ⟨RX20, "questionComes", "(II[I)V"⟩
abbrev cX20_place : ByteArray := prog_14_method_83_code
def yX20_place : MethodName := ⟨RX20, "place", "(I)[I"⟩
abbrev cX20_answerComes : ByteArray := prog_14_method_84_code
def yX20_answerComes : MethodName := ⟨RX20, "answerComes", "(II[I)V"⟩
abbrev cX20_tick : ByteArray := prog_14_method_85_code
def yX20_tick : MethodName := ⟨RX20, "tick", "()V"⟩
abbrev cX20_pass : ByteArray := prog_14_method_86_code
def yX20_pass : MethodName := ⟨RX20, "pass", "(I)I"⟩
abbrev cX20_settle : ByteArray := prog_14_method_87_code
def yX20_settle : MethodName := ⟨RX20, "settle", "(I)I"⟩
abbrev cX20_draw : ByteArray := prog_14_method_88_code
def yX20_draw : MethodName := ⟨RX20, "draw", "(I)I"⟩
abbrev cX20_play : ByteArray := prog_14_method_89_code
def yX20_play : MethodName := ⟨RX20, "play", "(II)I"⟩
abbrev cX20_countOfWire : ByteArray := prog_14_method_90_code
def yX20_countOfWire : MethodName := ⟨RX20, "countOfWire", "(I)I"⟩
abbrev cX20_isAhead : ByteArray := prog_14_method_91_code
def yX20_isAhead : MethodName := ⟨RX20, "isAhead", "(II)Z"⟩
abbrev cX20_isLine : ByteArray := prog_14_method_92_code
def yX20_isLine : MethodName := ⟨RX20, "isLine", "(I)Z"⟩
abbrev cX20_two : ByteArray := prog_14_method_93_code
def yX20_two : MethodName := ⟨RX20, "two", "([III)V"⟩
abbrev cX20_four : ByteArray := prog_14_method_94_code
def yX20_four : MethodName := ⟨RX20, "four", "([III)V"⟩
abbrev cX20_twoAt : ByteArray := prog_14_method_95_code
def yX20_twoAt : MethodName := ⟨RX20, "twoAt", "([II)I"⟩
abbrev cX20_fourAt : ByteArray := prog_14_method_96_code
def yX20_fourAt : MethodName := ⟨RX20, "fourAt", "([II)I"⟩
abbrev cX20_sendSegment : ByteArray := prog_14_method_97_code
def yX20_sendSegment : MethodName := ⟨RX20, "sendSegment", "(IIIIIIIIILLanternserverModel$Bytes;II)V"⟩
abbrev cX20_sendOn : ByteArray := prog_14_method_98_code
def yX20_sendOn : MethodName := ⟨RX20, "sendOn", "(LLanternserverModel$Line;IIII)V"⟩
abbrev cX20_acknowledges : ByteArray := prog_14_method_99_code
def yX20_acknowledges : MethodName := ⟨RX20, "acknowledges", "(LLanternserverModel$Line;)V"⟩
abbrev cX20_resets : ByteArray := prog_14_method_100_code
def yX20_resets : MethodName := ⟨RX20, "resets", "(LLanternserverModel$Line;I)V"⟩
abbrev cX20_timesAnew : ByteArray := prog_14_method_101_code
def yX20_timesAnew : MethodName := ⟨RX20, "timesAnew", "(LLanternserverModel$Line;)V"⟩
abbrev cX20_sendBytes : ByteArray := prog_14_method_102_code
def yX20_sendBytes : MethodName := ⟨RX20, "sendBytes", "(LLanternserverModel$Line;I)V"⟩
abbrev cX20_sendsAll : ByteArray := prog_14_method_103_code
def yX20_sendsAll : MethodName := ⟨RX20, "sendsAll", "(LLanternserverModel$Line;)V"⟩
abbrev cX20_sendsAgain : ByteArray := prog_14_method_104_code
def yX20_sendsAgain : MethodName := ⟨RX20, "sendsAgain", "(LLanternserverModel$Line;)V"⟩
abbrev cX20_shrinks : ByteArray := prog_14_method_105_code
def yX20_shrinks : MethodName := ⟨RX20, "shrinks", "(LLanternserverModel$Line;Z)V"⟩
abbrev cX20_isOver : ByteArray := prog_14_method_106_code
def yX20_isOver : MethodName := ⟨RX20, "isOver", "(LLanternserverModel$Line;)V"⟩
abbrev cX20_doesATimerRun : ByteArray := prog_14_method_107_code
def yX20_doesATimerRun : MethodName := ⟨RX20, "doesATimerRun", "()Z"⟩
abbrev cX20_connectionsTick : ByteArray := prog_14_method_108_code
def yX20_connectionsTick : MethodName := ⟨RX20, "connectionsTick", "(I)V"⟩
abbrev cX20_lineOf : ByteArray := prog_14_method_109_code
def yX20_lineOf : MethodName := ⟨RX20, "lineOf", "(IIII)LLanternserverModel$Line;"⟩
abbrev cX20_toldMss : ByteArray := prog_14_method_110_code
def yX20_toldMss : MethodName := ⟨RX20, "toldMss", "([III)I"⟩
abbrev cX20_has : ByteArray := prog_14_method_111_code
def yX20_has : MethodName := ⟨RX20, "has", "(I)Z"⟩
abbrev cX20_segment : ByteArray := prog_14_method_112_code
def yX20_segment : MethodName := ⟨RX20, "segment", "(II[III)V"⟩
abbrev cX20_openOfServer : ByteArray := prog_14_method_113_code
def yX20_openOfServer : MethodName := ⟨RX20, "openOfServer", "()I"⟩
abbrev cX20_comesToNone : ByteArray := prog_14_method_114_code
def yX20_comesToNone : MethodName := ⟨RX20, "comesToNone", "(IIIII)V"⟩
abbrev cX20_beginner : ByteArray := prog_14_method_115_code
def yX20_beginner : MethodName := ⟨RX20, "beginner", "(LLanternserverModel$Line;)I"⟩
abbrev cX20_comes : ByteArray := prog_14_method_116_code
def yX20_comes : MethodName := ⟨RX20, "comes", "(LLanternserverModel$Line;I)V"⟩
abbrev cX20_establishes : ByteArray := prog_14_method_117_code
def yX20_establishes : MethodName := ⟨RX20, "establishes", "(LLanternserverModel$Line;)V"⟩
abbrev cX20_answers : ByteArray := prog_14_method_118_code
def yX20_answers : MethodName := ⟨RX20, "answers", "(LLanternserverModel$Line;I)V"⟩
abbrev cX20_answerer : ByteArray := prog_14_method_119_code
def yX20_answerer : MethodName := ⟨RX20, "answerer", "(LLanternserverModel$Line;)I"⟩
abbrev cX20_isAcknowledged : ByteArray := prog_14_method_120_code
def yX20_isAcknowledged : MethodName := ⟨RX20, "isAcknowledged", "(LLanternserverModel$Line;)Z"⟩
abbrev cX20_grows : ByteArray := prog_14_method_121_code
def yX20_grows : MethodName := ⟨RX20, "grows", "(LLanternserverModel$Line;)V"⟩
abbrev cX20_measures : ByteArray := prog_14_method_122_code
def yX20_measures : MethodName := ⟨RX20, "measures", "(LLanternserverModel$Line;)V"⟩
abbrev cX20_isFinGone : ByteArray := prog_14_method_123_code
def yX20_isFinGone : MethodName := ⟨RX20, "isFinGone", "(LLanternserverModel$Line;)Z"⟩
abbrev cX20_takesBytes : ByteArray := prog_14_method_124_code
def yX20_takesBytes : MethodName := ⟨RX20, "takesBytes", "(LLanternserverModel$Line;)V"⟩
abbrev cX20_keeps_ : ByteArray := prog_14_method_125_code
def yX20_keeps_ : MethodName := ⟨RX20, "keeps", "(LLanternserverModel$Line;I)V"⟩
abbrev cX20_putsInOrder : ByteArray := prog_14_method_126_code
def yX20_putsInOrder : MethodName := ⟨RX20, "putsInOrder", "(LLanternserverModel$Line;)V"⟩
abbrev cX20_finComes : ByteArray := prog_14_method_127_code
def yX20_finComes : MethodName := ⟨RX20, "finComes", "(LLanternserverModel$Line;)V"⟩
abbrev cX20_isToRead : ByteArray := prog_14_method_128_code
def yX20_isToRead : MethodName := ⟨RX20, "isToRead", "(I)I"⟩
abbrev cX20_reads : ByteArray := prog_14_method_129_code
def yX20_reads : MethodName := ⟨RX20, "reads", "(LLanternserverModel$Line;I)V"⟩
abbrev cX20_takes_ : ByteArray := prog_14_method_130_code
def yX20_takes_ : MethodName := ⟨RX20, "takes", "(I)I"⟩
abbrev cX20_hasEnded : ByteArray := prog_14_method_131_code
def yX20_hasEnded : MethodName := ⟨RX20, "hasEnded", "(I)Z"⟩
abbrev cX20_room : ByteArray := prog_14_method_132_code
def yX20_room : MethodName := ⟨RX20, "room", "(I)I"⟩
abbrev cX20_writes : ByteArray := prog_14_method_133_code
def yX20_writes : MethodName := ⟨RX20, "writes", "(II)V"⟩
abbrev cX20_isOpen : ByteArray := prog_14_method_134_code
def yX20_isOpen : MethodName := ⟨RX20, "isOpen", "(I)Z"⟩
abbrev cX20_closes : ByteArray := prog_14_method_135_code
def yX20_closes : MethodName := ⟨RX20, "closes", "(I)V"⟩
abbrev cX20_aborts : ByteArray := prog_14_method_136_code
def yX20_aborts : MethodName := ⟨RX20, "aborts", "(LLanternserverModel$Line;)V"⟩
abbrev cX20_hostOfLine : ByteArray := prog_14_method_137_code
def yX20_hostOfLine : MethodName := ⟨RX20, "hostOfLine", "(I)I"⟩
abbrev cX20_writtenMany : ByteArray := prog_14_method_138_code
def yX20_writtenMany : MethodName := ⟨RX20, "writtenMany", "(I)I"⟩
abbrev cX20_writtenAt : ByteArray := prog_14_method_139_code
def yX20_writtenAt : MethodName := ⟨RX20, "writtenAt", "(II)I"⟩
abbrev cX20_readMany : ByteArray := prog_14_method_140_code
def yX20_readMany : MethodName := ⟨RX20, "readMany", "(I)I"⟩
abbrev cX20_readByte : ByteArray := prog_14_method_141_code
def yX20_readByte : MethodName := ⟨RX20, "readByte", "(II)I"⟩
abbrev cX20_otherEnd : ByteArray := prog_14_method_142_code
def yX20_otherEnd : MethodName := ⟨RX20, "otherEnd", "(I)I"⟩
abbrev cX20_isHost : ByteArray := prog_14_method_143_code
def yX20_isHost : MethodName := ⟨RX20, "isHost", "(I)Z"⟩
abbrev cX20_connect : ByteArray := prog_14_method_144_code
def yX20_connect : MethodName := ⟨RX20, "connect", "(III)I"⟩
abbrev cX20_canWrite : ByteArray := prog_14_method_145_code
def yX20_canWrite : MethodName := ⟨RX20, "canWrite", "(LLanternserverModel$Line;)Z"⟩
abbrev cX20_write : ByteArray := prog_14_method_146_code
def yX20_write : MethodName := ⟨RX20, "write", "(I)I"⟩
abbrev cX20_read : ByteArray := prog_14_method_147_code
def yX20_read : MethodName := ⟨RX20, "read", "(II)I"⟩
abbrev cX20_readAt : ByteArray := prog_14_method_148_code
def yX20_readAt : MethodName := ⟨RX20, "readAt", "(II)I"⟩
abbrev cX20_close : ByteArray := prog_14_method_149_code
def yX20_close : MethodName := ⟨RX20, "close", "(IZ)I"⟩
abbrev cX20_connectionAt : ByteArray := prog_14_method_150_code
def yX20_connectionAt : MethodName := ⟨RX20, "connectionAt", "(II)I"⟩
abbrev cX20_countOfLines : ByteArray := prog_14_method_151_code
def yX20_countOfLines : MethodName := ⟨RX20, "countOfLines", "(I)I"⟩
abbrev cX20_lineErrors : ByteArray := prog_14_method_152_code
def yX20_lineErrors : MethodName := ⟨RX20, "lineErrors", "()I"⟩
abbrev cX20_textLong : ByteArray := prog_14_method_153_code
def yX20_textLong : MethodName := ⟨RX20, "textLong", "(I)I"⟩
abbrev cX20_textAt : ByteArray := prog_14_method_154_code
def yX20_textAt : MethodName := ⟨RX20, "textAt", "(II)I"⟩
abbrev cX20_beginsRequest : ByteArray := prog_14_method_155_code
def yX20_beginsRequest : MethodName := ⟨RX20, "beginsRequest", "(I)V"⟩
abbrev cX20_isGreat : ByteArray := prog_14_method_156_code
def yX20_isGreat : MethodName := ⟨RX20, "isGreat", "(I)Z"⟩
abbrev cX20_isSmall : ByteArray := prog_14_method_157_code
def yX20_isSmall : MethodName := ⟨RX20, "isSmall", "(I)Z"⟩
abbrev cX20_small : ByteArray := prog_14_method_158_code
def yX20_small : MethodName := ⟨RX20, "small", "(I)I"⟩
abbrev cX20_fitting : ByteArray := prog_14_method_159_code
def yX20_fitting : MethodName := ⟨RX20, "fitting", "(IIII)I"⟩
abbrev cX20_through : ByteArray := prog_14_method_160_code
def yX20_through : MethodName := ⟨RX20, "through", "(III)I"⟩
abbrev cX20_nextWord : ByteArray := prog_14_method_161_code
def yX20_nextWord : MethodName := ⟨RX20, "nextWord", "(III)V"⟩
abbrev cX20_looksAt : ByteArray := prog_14_method_162_code
def yX20_looksAt : MethodName := ⟨RX20, "looksAt", "(II)I"⟩
abbrev cX20_looksInLine : ByteArray := prog_14_method_163_code
def yX20_looksInLine : MethodName := ⟨RX20, "looksInLine", "(II)I"⟩
abbrev cX20_stands : ByteArray := prog_14_method_164_code
def yX20_stands : MethodName := ⟨RX20, "stands", "(II)Z"⟩
abbrev cX20_takesMethod : ByteArray := prog_14_method_165_code
def yX20_takesMethod : MethodName := ⟨RX20, "takesMethod", "(II)V"⟩
abbrev cX20_takesTarget : ByteArray := prog_14_method_166_code
def yX20_takesTarget : MethodName := ⟨RX20, "takesTarget", "(II)V"⟩
abbrev cX20_takesVersion : ByteArray := prog_14_method_167_code
def yX20_takesVersion : MethodName := ⟨RX20, "takesVersion", "(II)V"⟩
abbrev cX20_looksAtLine : ByteArray := prog_14_method_168_code
def yX20_looksAtLine : MethodName := ⟨RX20, "looksAtLine", "(II)I"⟩
abbrev cX20_takesName : ByteArray := prog_14_method_169_code
def yX20_takesName : MethodName := ⟨RX20, "takesName", "(II)V"⟩
abbrev cX20_takesValue : ByteArray := prog_14_method_170_code
def yX20_takesValue : MethodName := ⟨RX20, "takesValue", "(II)V"⟩
abbrev cX20_valueAt : ByteArray := prog_14_method_171_code
def yX20_valueAt : MethodName := ⟨RX20, "valueAt", "(II)I"⟩
abbrev cX20_isValue : ByteArray := prog_14_method_172_code
def yX20_isValue : MethodName := ⟨RX20, "isValue", "(II)Z"⟩
abbrev cX20_endsLine : ByteArray := prog_14_method_173_code
def yX20_endsLine : MethodName := ⟨RX20, "endsLine", "(I)V"⟩
abbrev cX20_number_ : ByteArray := prog_14_method_174_code
def yX20_number_ : MethodName := ⟨RX20, "number", "(II)I"⟩
abbrev cX20_tellsLength : ByteArray := prog_14_method_175_code
def yX20_tellsLength : MethodName := ⟨RX20, "tellsLength", "(I)V"⟩
abbrev cX20_tagOf : ByteArray := prog_14_method_176_code
def yX20_tagOf : MethodName := ⟨RX20, "tagOf", "(I)I"⟩
abbrev cX20_tellsRange : ByteArray := prog_14_method_177_code
def yX20_tellsRange : MethodName := ⟨RX20, "tellsRange", "(I)V"⟩
abbrev cX20_endsHead : ByteArray := prog_14_method_178_code
def yX20_endsHead : MethodName := ⟨RX20, "endsHead", "(I)I"⟩
abbrev cX20_takesBody : ByteArray := prog_14_method_179_code
def yX20_takesBody : MethodName := ⟨RX20, "takesBody", "(II)V"⟩
abbrev cX20_hexadecimal : ByteArray := prog_14_method_180_code
def yX20_hexadecimal : MethodName := ⟨RX20, "hexadecimal", "(I)I"⟩
abbrev cX20_goesTo : ByteArray := prog_14_method_181_code
def yX20_goesTo : MethodName := ⟨RX20, "goesTo", "(II)I"⟩
abbrev cX20_looksInChunks : ByteArray := prog_14_method_182_code
def yX20_looksInChunks : MethodName := ⟨RX20, "looksInChunks", "(II)I"⟩
abbrev cX20_looksAtSize : ByteArray := prog_14_method_183_code
def yX20_looksAtSize : MethodName := ⟨RX20, "looksAtSize", "(II)I"⟩
abbrev cX20_targetAt : ByteArray := prog_14_method_184_code
def yX20_targetAt : MethodName := ⟨RX20, "targetAt", "(II)I"⟩
abbrev cX20_targetKind : ByteArray := prog_14_method_185_code
def yX20_targetKind : MethodName := ⟨RX20, "targetKind", "(I)I"⟩
abbrev cX20_compares : ByteArray := prog_14_method_186_code
def yX20_compares : MethodName := ⟨RX20, "compares", "(II)I"⟩
abbrev cX20_fileOf : ByteArray := prog_14_method_187_code
def yX20_fileOf : MethodName := ⟨RX20, "fileOf", "(II)I"⟩
abbrev cX20_copiesFile : ByteArray := prog_14_method_188_code
def yX20_copiesFile : MethodName := ⟨RX20, "copiesFile", "(II)V"⟩
abbrev cX20_newFile : ByteArray := prog_14_method_189_code
def yX20_newFile : MethodName := ⟨RX20, "newFile", "(II)I"⟩
abbrev cX20_dropsFile : ByteArray := prog_14_method_190_code
def yX20_dropsFile : MethodName := ⟨RX20, "dropsFile", "(II)V"⟩
abbrev cX20_putsBody : ByteArray := prog_14_method_191_code
def yX20_putsBody : MethodName := ⟨RX20, "putsBody", "(III)V"⟩
abbrev cX20_fitsTag : ByteArray := prog_14_method_192_code
def yX20_fitsTag : MethodName := ⟨RX20, "fitsTag", "(II)Z"⟩
abbrev cX20_isRefused : ByteArray := prog_14_method_193_code
def yX20_isRefused : MethodName := ⟨RX20, "isRefused", "(II)Z"⟩
abbrev cX20_isDone : ByteArray := prog_14_method_194_code
def yX20_isDone : MethodName := ⟨RX20, "isDone", "(II)I"⟩
abbrev cX20_isPut : ByteArray := prog_14_method_195_code
def yX20_isPut : MethodName := ⟨RX20, "isPut", "(III)I"⟩
abbrev cX20_range : ByteArray := prog_14_method_196_code
def yX20_range : MethodName := ⟨RX20, "range", "(II)I"⟩
abbrev cX20_grown : ByteArray := prog_14_method_197_code
def yX20_grown : MethodName := ⟨RX20, "grown", "([I)[I"⟩
abbrev cX20_says : ByteArray := prog_14_method_198_code
def yX20_says : MethodName := ⟨RX20, "says", "(I)V"⟩
abbrev cX20_saysText : ByteArray := prog_14_method_199_code
def yX20_saysText : MethodName := ⟨RX20, "saysText", "(I)V"⟩
abbrev cX20_saysNumber : ByteArray := prog_14_method_200_code
def yX20_saysNumber : MethodName := ⟨RX20, "saysNumber", "(I)V"⟩
abbrev cX20_saysLineEnd : ByteArray := prog_14_method_201_code
def yX20_saysLineEnd : MethodName := ⟨RX20, "saysLineEnd", "()V"⟩
abbrev cX20_wordOf : ByteArray := prog_14_method_202_code
def yX20_wordOf : MethodName := ⟨RX20, "wordOf", "(I)I"⟩
abbrev cX20_listLong : ByteArray := prog_14_method_203_code
def yX20_listLong : MethodName := ⟨RX20, "listLong", "(I)I"⟩
abbrev cX20_answers_ : ByteArray := prog_14_method_204_code
def yX20_answers_ : MethodName := ⟨RX20, "answers", "(IIIZZ)V"⟩
abbrev cX20_saysPart : ByteArray := prog_14_method_205_code
def yX20_saysPart : MethodName := ⟨RX20, "saysPart", "(I)V"⟩
abbrev cX20_saysList : ByteArray := prog_14_method_206_code
def yX20_saysList : MethodName := ⟨RX20, "saysList", "(I)V"⟩
abbrev cX20_does : ByteArray := prog_14_method_207_code
def yX20_does : MethodName := ⟨RX20, "does", "(III)I"⟩
abbrev cX20_isLast : ByteArray := prog_14_method_208_code
def yX20_isLast : MethodName := ⟨RX20, "isLast", "(IZ)Z"⟩
abbrev cX20_serves : ByteArray := prog_14_method_209_code
def yX20_serves : MethodName := ⟨RX20, "serves", "(I)V"⟩
abbrev cX20_writesOn : ByteArray := prog_14_method_210_code
def yX20_writesOn : MethodName := ⟨RX20, "writesOn", "(I)V"⟩
abbrev cX20_servesOne : ByteArray := prog_14_method_211_code
def yX20_servesOne : MethodName := ⟨RX20, "servesOne", "(II)V"⟩
abbrev cX20_fileAt : ByteArray := prog_14_method_212_code
def yX20_fileAt : MethodName := ⟨RX20, "fileAt", "(II)I"⟩
abbrev cX20_fileByteAt : ByteArray := prog_14_method_213_code
def yX20_fileByteAt : MethodName := ⟨RX20, "fileByteAt", "(IZI)I"⟩
abbrev cX20_servedAt : ByteArray := prog_14_method_214_code
def yX20_servedAt : MethodName := ⟨RX20, "servedAt", "(II)I"⟩
abbrev cX20_answerAt : ByteArray := prog_14_method_215_code
def yX20_answerAt : MethodName := ⟨RX20, "answerAt", "(II)I"⟩
abbrev cX20_servedWell : ByteArray := prog_14_method_216_code
def yX20_servedWell : MethodName := ⟨RX20, "servedWell", "()I"⟩
abbrev cX20_count : ByteArray := prog_14_method_217_code
def yX20_count : MethodName := ⟨RX20, "count", "(I)I"⟩
abbrev cX20_isSameRequest : ByteArray := prog_14_method_218_code
def yX20_isSameRequest : MethodName := ⟨RX20, "isSameRequest", "(I)Z"⟩
abbrev cX20_isReadAsAnswered : ByteArray := prog_14_method_219_code
def yX20_isReadAsAnswered : MethodName := ⟨RX20, "isReadAsAnswered", "(II)Z"⟩
abbrev cX20_areFilesAlike : ByteArray := prog_14_method_220_code
def yX20_areFilesAlike : MethodName := ⟨RX20, "areFilesAlike", "()Z"⟩
abbrev cX20_agrees : ByteArray := prog_14_method_221_code
def yX20_agrees : MethodName := ⟨RX20, "agrees", "()Z"⟩
abbrev cX20_errors : ByteArray := prog_14_method_222_code
def yX20_errors : MethodName := ⟨RX20, "errors", "()I"⟩
abbrev cX20_deliveredShare : ByteArray := prog_14_method_223_code
def yX20_deliveredShare : MethodName := ⟨RX20, "deliveredShare", "()D"⟩
abbrev cX20_meanAnswer : ByteArray := prog_14_method_224_code
def yX20_meanAnswer : MethodName := ⟨RX20, "meanAnswer", "()F"⟩
def RJx145de : String := "java/io/Serializable"
def TJx145de : u_T := fun k => match k with
  | _ => ("", "", "", false)
def tyJx145de : Nat → FieldType := fun k => match k with
  | _ => .int
theorem nmJx145de : ∀ a, a < 0 → ∀ b, b < 0 → a ≠ b → (TJx145de a).2.1 ≠ (TJx145de b).2.1 := by decide +kernel
theorem tyJx145de_ok : ∀ k, k < 0 → parseFieldDescriptor (TJx145de k).2.2.1 = some (tyJx145de k) := by decide +kernel
def RJ5 : String := "java/lang/AbstractStringBuilder"
def TJ5 : u_T := fun k => match k with
  | _ => ("", "", "", false)
def tyJ5 : Nat → FieldType := fun k => match k with
  | _ => .int
theorem nmJ5 : ∀ a, a < 0 → ∀ b, b < 0 → a ≠ b → (TJ5 a).2.1 ≠ (TJ5 b).2.1 := by decide +kernel
theorem tyJ5_ok : ∀ k, k < 0 → parseFieldDescriptor (TJ5 k).2.2.1 = some (tyJ5 k) := by decide +kernel
abbrev cJ5_init_d00df : ByteArray := prog_24_method_2_code
def yJ5_init_d00df : MethodName := ⟨RJ5, "<init>", "(I)V"⟩
abbrev cJ5_length_8abf5 : ByteArray := prog_24_method_6_code
def yJ5_length_8abf5 : MethodName := ⟨RJ5, "length", "()I"⟩
abbrev cJ5_ensureCapacityInternal_d00df : ByteArray := prog_24_method_9_code
def yJ5_ensureCapacityInternal_d00df : MethodName := ⟨RJ5, "ensureCapacityInternal", "(I)V"⟩
abbrev cJ5_newCapacity_0f7a4 : ByteArray := prog_24_method_10_code
def yJ5_newCapacity_0f7a4 : MethodName := ⟨RJ5, "newCapacity", "(I)I"⟩
abbrev cJ5_inflate_da8c8 : ByteArray := prog_24_method_11_code
def yJ5_inflate_da8c8 : MethodName := ⟨RJ5, "inflate", "()V"⟩
abbrev cJ5_append_cf1ce : ByteArray := prog_24_method_22_code
def yJ5_append_cf1ce : MethodName := ⟨RJ5, "append", "(Ljava/lang/String;)Ljava/lang/AbstractStringBuilder;"⟩
abbrev cJ5_appendNull_278bc : ByteArray := prog_24_method_26_code
def yJ5_appendNull_278bc : MethodName := ⟨RJ5, "appendNull", "()Ljava/lang/AbstractStringBuilder;"⟩
abbrev cJ5_append_c97b9 : ByteArray := prog_24_method_32_code
def yJ5_append_c97b9 : MethodName := ⟨RJ5, "append", "(I)Ljava/lang/AbstractStringBuilder;"⟩
abbrev cJ5_getValue_6d5f1 : ByteArray := prog_24_method_64_code
def yJ5_getValue_6d5f1 : MethodName := ⟨RJ5, "getValue", "()[B"⟩
abbrev cJ5_isLatin1_aae02 : ByteArray := prog_24_method_68_code
def yJ5_isLatin1_aae02 : MethodName := ⟨RJ5, "isLatin1", "()Z"⟩
abbrev cJ5_inflateIfNeededFor_a7421 : ByteArray := prog_24_method_71_code
def yJ5_inflateIfNeededFor_a7421 : MethodName := ⟨RJ5, "inflateIfNeededFor", "(Ljava/lang/String;)V"⟩
abbrev cJ5_putStringAt_47b60 : ByteArray := prog_24_method_73_code
def yJ5_putStringAt_47b60 : MethodName := ⟨RJ5, "putStringAt", "(ILjava/lang/String;)V"⟩
def RJx2cfe8 : String := "java/lang/Appendable"
def TJx2cfe8 : u_T := fun k => match k with
  | _ => ("", "", "", false)
def tyJx2cfe8 : Nat → FieldType := fun k => match k with
  | _ => .int
theorem nmJx2cfe8 : ∀ a, a < 0 → ∀ b, b < 0 → a ≠ b → (TJx2cfe8 a).2.1 ≠ (TJx2cfe8 b).2.1 := by decide +kernel
theorem tyJx2cfe8_ok : ∀ k, k < 0 → parseFieldDescriptor (TJx2cfe8 k).2.2.1 = some (tyJx2cfe8 k) := by decide +kernel
def RJx00060 : String := "java/lang/ArrayIndexOutOfBoundsException"
def TJx00060 : u_T := fun k => match k with
  | 0 => ("java/lang/Throwable", "cause", "Ljava/lang/Throwable;", false)
  | 1 => ("java/lang/Throwable", "stackTrace", "[Ljava/lang/StackTraceElement;", false)
  | 2 => ("java/lang/Throwable", "suppressedExceptions", "Ljava/util/List;", false)
  | 3 => ("java/lang/Throwable", "detailMessage", "Ljava/lang/String;", false)
  | 4 => ("java/lang/Throwable", "backtrace", "Ljava/lang/Object;", false)
  | _ => ("java/lang/Throwable", "depth", "I", false)
def tyJx00060 : Nat → FieldType := fun k => match k with
  | 0 => .object "java/lang/Throwable"
  | 1 => .array (.object "java/lang/StackTraceElement")
  | 2 => .object "java/util/List"
  | 3 => .object "java/lang/String"
  | 4 => .object "java/lang/Object"
  | _ => .int
theorem nmJx00060 : ∀ a, a < 6 → ∀ b, b < 6 → a ≠ b → (TJx00060 a).2.1 ≠ (TJx00060 b).2.1 := by decide +kernel
theorem tyJx00060_ok : ∀ k, k < 6 → parseFieldDescriptor (TJx00060 k).2.2.1 = some (tyJx00060 k) := by decide +kernel
abbrev cJx00060_init_d00df : ByteArray := prog_26_method_3_code
def yJx00060_init_d00df : MethodName := ⟨RJx00060, "<init>", "(I)V"⟩
def RJx9f9b0 : String := "java/lang/CharSequence"
def TJx9f9b0 : u_T := fun k => match k with
  | _ => ("", "", "", false)
def tyJx9f9b0 : Nat → FieldType := fun k => match k with
  | _ => .int
theorem nmJx9f9b0 : ∀ a, a < 0 → ∀ b, b < 0 → a ≠ b → (TJx9f9b0 a).2.1 ≠ (TJx9f9b0 b).2.1 := by decide +kernel
theorem tyJx9f9b0_ok : ∀ k, k < 0 → parseFieldDescriptor (TJx9f9b0 k).2.2.1 = some (tyJx9f9b0 k) := by decide +kernel
def RJx8e188 : String := "java/lang/Cloneable"
def TJx8e188 : u_T := fun k => match k with
  | _ => ("", "", "", false)
def tyJx8e188 : Nat → FieldType := fun k => match k with
  | _ => .int
theorem nmJx8e188 : ∀ a, a < 0 → ∀ b, b < 0 → a ≠ b → (TJx8e188 a).2.1 ≠ (TJx8e188 b).2.1 := by decide +kernel
theorem tyJx8e188_ok : ∀ k, k < 0 → parseFieldDescriptor (TJx8e188 k).2.2.1 = some (tyJx8e188 k) := by decide +kernel
def RJxb160c : String := "java/lang/Comparable"
def TJxb160c : u_T := fun k => match k with
  | _ => ("", "", "", false)
def tyJxb160c : Nat → FieldType := fun k => match k with
  | _ => .int
theorem nmJxb160c : ∀ a, a < 0 → ∀ b, b < 0 → a ≠ b → (TJxb160c a).2.1 ≠ (TJxb160c b).2.1 := by decide +kernel
theorem tyJxb160c_ok : ∀ k, k < 0 → parseFieldDescriptor (TJxb160c k).2.2.1 = some (tyJxb160c k) := by decide +kernel
def RJ6 : String := "java/lang/Integer"
def TJ6 : u_T := fun k => match k with
  | _ => ("", "", "", false)
def tyJ6 : Nat → FieldType := fun k => match k with
  | _ => .int
theorem nmJ6 : ∀ a, a < 0 → ∀ b, b < 0 → a ≠ b → (TJ6 a).2.1 ≠ (TJ6 b).2.1 := by decide +kernel
theorem tyJ6_ok : ∀ k, k < 0 → parseFieldDescriptor (TJ6 k).2.2.1 = some (tyJ6 k) := by decide +kernel
abbrev cJ6_getChars_ba4f3 : ByteArray := prog_34_method_12_code
def yJ6_getChars_ba4f3 : MethodName := ⟨RJ6, "getChars", "(II[B)I"⟩
abbrev cJ6_stringSize_0f7a4 : ByteArray := prog_34_method_13_code
def yJ6_stringSize_0f7a4 : MethodName := ⟨RJ6, "stringSize", "(I)I"⟩
def RJxab1ab : String := "java/lang/Iterable"
def TJxab1ab : u_T := fun k => match k with
  | _ => ("", "", "", false)
def tyJxab1ab : Nat → FieldType := fun k => match k with
  | _ => .int
theorem nmJxab1ab : ∀ a, a < 0 → ∀ b, b < 0 → a ≠ b → (TJxab1ab a).2.1 ≠ (TJxab1ab b).2.1 := by decide +kernel
theorem tyJxab1ab_ok : ∀ k, k < 0 → parseFieldDescriptor (TJxab1ab k).2.2.1 = some (tyJxab1ab k) := by decide +kernel
def RJ9 : String := "java/lang/Math"
def TJ9 : u_T := fun k => match k with
  | _ => ("", "", "", false)
def tyJ9 : Nat → FieldType := fun k => match k with
  | _ => .int
theorem nmJ9 : ∀ a, a < 0 → ∀ b, b < 0 → a ≠ b → (TJ9 a).2.1 ≠ (TJ9 b).2.1 := by decide +kernel
theorem tyJ9_ok : ∀ k, k < 0 → parseFieldDescriptor (TJ9 k).2.2.1 = some (tyJ9 k) := by decide +kernel
abbrev cJ9_abs_0f7a4 : ByteArray := prog_36_method_59_code
def yJ9_abs_0f7a4 : MethodName := ⟨RJ9, "abs", "(I)I"⟩
abbrev cJ9_max_7cf53 : ByteArray := prog_36_method_65_code
def yJ9_max_7cf53 : MethodName := ⟨RJ9, "max", "(II)I"⟩
abbrev cJ9_min_7cf53 : ByteArray := prog_36_method_69_code
def yJ9_min_7cf53 : MethodName := ⟨RJ9, "min", "(II)I"⟩
def RJxd2413 : String := "java/lang/Number"
def TJxd2413 : u_T := fun k => match k with
  | _ => ("", "", "", false)
def tyJxd2413 : Nat → FieldType := fun k => match k with
  | _ => .int
theorem nmJxd2413 : ∀ a, a < 0 → ∀ b, b < 0 → a ≠ b → (TJxd2413 a).2.1 ≠ (TJxd2413 b).2.1 := by decide +kernel
theorem tyJxd2413_ok : ∀ k, k < 0 → parseFieldDescriptor (TJxd2413 k).2.2.1 = some (tyJxd2413 k) := by decide +kernel
def RJ0 : String := "java/lang/String"
def TJ0 : u_T := fun k => match k with
  | 0 => ("java/lang/String", "value", "[B", true)
  | 1 => ("java/lang/String", "coder", "B", true)
  | 2 => ("java/lang/String", "hash", "I", false)
  | _ => ("java/lang/String", "hashIsZero", "Z", false)
def tyJ0 : Nat → FieldType := fun k => match k with
  | 0 => .array .byte
  | 1 => .byte
  | 2 => .int
  | _ => .boolean
theorem nmJ0 : ∀ a, a < 4 → ∀ b, b < 4 → a ≠ b → (TJ0 a).2.1 ≠ (TJ0 b).2.1 := by decide +kernel
theorem tyJ0_ok : ∀ k, k < 4 → parseFieldDescriptor (TJ0 k).2.2.1 = some (tyJ0 k) := by decide +kernel
abbrev cJ0_init_81219 : ByteArray := prog_39_method_53_code
def yJ0_init_81219 : MethodName := ⟨RJ0, "<init>", "(Ljava/lang/StringBuilder;)V"⟩
abbrev cJ0_length_8abf5 : ByteArray := prog_39_method_54_code
def yJ0_length_8abf5 : MethodName := ⟨RJ0, "length", "()I"⟩
abbrev cJ0_charAt_5068e : ByteArray := prog_39_method_56_code
def yJ0_charAt_5068e : MethodName := ⟨RJ0, "charAt", "(I)C"⟩
abbrev cJ0_getBytes_840e7 : ByteArray := prog_39_method_147_code
def yJ0_getBytes_840e7 : MethodName := ⟨RJ0, "getBytes", "([BIB)V"⟩
abbrev cJ0_init_db425 : ByteArray := prog_39_method_150_code
def yJ0_init_db425 : MethodName := ⟨RJ0, "<init>", "(Ljava/lang/AbstractStringBuilder;Ljava/lang/Void;)V"⟩
abbrev cJ0_coder_7d493 : ByteArray := prog_39_method_152_code
def yJ0_coder_7d493 : MethodName := ⟨RJ0, "coder", "()B"⟩
abbrev cJ0_isLatin1_aae02 : ByteArray := prog_39_method_154_code
def yJ0_isLatin1_aae02 : MethodName := ⟨RJ0, "isLatin1", "()Z"⟩
abbrev cJ0_checkIndex_df160 : ByteArray := prog_39_method_155_code
def yJ0_checkIndex_df160 : MethodName := ⟨RJ0, "checkIndex", "(II)V"⟩
abbrev cJ0_checkBoundsOffCount_cabcc : ByteArray := prog_39_method_157_code
def yJ0_checkBoundsOffCount_cabcc : MethodName := ⟨RJ0, "checkBoundsOffCount", "(III)I"⟩
abbrev cJ0_checkBoundsBeginEnd_23922 : ByteArray := prog_39_method_158_code
def yJ0_checkBoundsBeginEnd_23922 : MethodName := ⟨RJ0, "checkBoundsBeginEnd", "(III)V"⟩
def RJ4 : String := "java/lang/StringBuilder"
def TJ4 : u_T := fun k => match k with
  | 0 => ("java/lang/AbstractStringBuilder", "value", "[B", false)
  | 1 => ("java/lang/AbstractStringBuilder", "coder", "B", false)
  | 2 => ("java/lang/AbstractStringBuilder", "maybeLatin1", "Z", false)
  | _ => ("java/lang/AbstractStringBuilder", "count", "I", false)
def tyJ4 : Nat → FieldType := fun k => match k with
  | 0 => .array .byte
  | 1 => .byte
  | 2 => .boolean
  | _ => .int
theorem nmJ4 : ∀ a, a < 4 → ∀ b, b < 4 → a ≠ b → (TJ4 a).2.1 ≠ (TJ4 b).2.1 := by decide +kernel
theorem tyJ4_ok : ∀ k, k < 4 → parseFieldDescriptor (TJ4 k).2.2.1 = some (tyJ4 k) := by decide +kernel
abbrev cJ4_init_da8c8 : ByteArray := prog_40_method_1_code
def yJ4_init_da8c8 : MethodName := ⟨RJ4, "<init>", "()V"⟩
abbrev cJ4_append_15ec4 : ByteArray := prog_40_method_7_code
def yJ4_append_15ec4 : MethodName := ⟨RJ4, "append", "(Ljava/lang/String;)Ljava/lang/StringBuilder;"⟩
abbrev cJ4_append_bf812 : ByteArray := prog_40_method_15_code
def yJ4_append_bf812 : MethodName := ⟨RJ4, "append", "(I)Ljava/lang/StringBuilder;"⟩
abbrev cJ4_toString_0e30d : ByteArray := prog_40_method_42_code
def yJ4_toString_0e30d : MethodName := ⟨RJ4, "toString", "()Ljava/lang/String;"⟩
abbrev cJ4_length_8abf5 : ByteArray := prog_40_method_93_code
def yJ4_length_8abf5 : MethodName := ⟨RJ4, "length", "()I"⟩
def RJ1 : String := "java/lang/StringLatin1"
def TJ1 : u_T := fun k => match k with
  | _ => ("", "", "", false)
def tyJ1 : Nat → FieldType := fun k => match k with
  | _ => .int
theorem nmJ1 : ∀ a, a < 0 → ∀ b, b < 0 → a ≠ b → (TJ1 a).2.1 ≠ (TJ1 b).2.1 := by decide +kernel
theorem tyJ1_ok : ∀ k, k < 0 → parseFieldDescriptor (TJ1 k).2.2.1 = some (tyJ1 k) := by decide +kernel
abbrev cJ1_charAt_3b067 : ByteArray := prog_41_method_2_code
def yJ1_charAt_3b067 : MethodName := ⟨RJ1, "charAt", "([BI)C"⟩
abbrev cJ1_inflate_0e8fd : ByteArray := prog_41_method_50_code
def yJ1_inflate_0e8fd : MethodName := ⟨RJ1, "inflate", "([BI[BII)V"⟩
def RJ2 : String := "java/lang/StringUTF16"
def TJ2 : u_T := fun k => match k with
  | _ => ("", "", "", false)
def tyJ2 : Nat → FieldType := fun k => match k with
  | _ => .int
theorem nmJ2 : ∀ a, a < 0 → ∀ b, b < 0 → a ≠ b → (TJ2 a).2.1 ≠ (TJ2 b).2.1 := by decide +kernel
theorem tyJ2_ok : ∀ k, k < 0 → parseFieldDescriptor (TJ2 k).2.2.1 = some (tyJ2 k) := by decide +kernel
abbrev cJ2_newBytesFor_77867 : ByteArray := prog_42_method_2_code
def yJ2_newBytesFor_77867 : MethodName := ⟨RJ2, "newBytesFor", "(I)[B"⟩
abbrev cJ2_newBytesLength_0f7a4 : ByteArray := prog_42_method_3_code
def yJ2_newBytesLength_0f7a4 : MethodName := ⟨RJ2, "newBytesLength", "(I)I"⟩
abbrev cJ2_putChar_b72d1 : ByteArray := prog_42_method_4_code
def yJ2_putChar_b72d1 : MethodName := ⟨RJ2, "putChar", "([BII)V"⟩
abbrev cJ2_getChar_3b067 : ByteArray := prog_42_method_5_code
def yJ2_getChar_3b067 : MethodName := ⟨RJ2, "getChar", "([BI)C"⟩
abbrev cJ2_length_9d52b : ByteArray := prog_42_method_6_code
def yJ2_length_9d52b : MethodName := ⟨RJ2, "length", "([B)I"⟩
abbrev cJ2_coderFromArrayLen_85cad : ByteArray := prog_42_method_15_code
def yJ2_coderFromArrayLen_85cad : MethodName := ⟨RJ2, "coderFromArrayLen", "([BI)B"⟩
abbrev cJ2_compress_39247 : ByteArray := prog_42_method_17_code
def yJ2_compress_39247 : MethodName := ⟨RJ2, "compress", "([BII)[B"⟩
abbrev cJ2_compress_5af95 : ByteArray := prog_42_method_22_code
def yJ2_compress_5af95 : MethodName := ⟨RJ2, "compress", "([BI[BII)I"⟩
abbrev cJ2_getChars_46870 : ByteArray := prog_42_method_77_code
def yJ2_getChars_46870 : MethodName := ⟨RJ2, "getChars", "(III[B)I"⟩
abbrev cJ2_putCharsAt_cd4e5 : ByteArray := prog_42_method_81_code
def yJ2_putCharsAt_cd4e5 : MethodName := ⟨RJ2, "putCharsAt", "([BICCCC)I"⟩
abbrev cJ2_charAt_3b067 : ByteArray := prog_42_method_83_code
def yJ2_charAt_3b067 : MethodName := ⟨RJ2, "charAt", "([BI)C"⟩
abbrev cJ2_inflate_0e8fd : ByteArray := prog_42_method_86_code
def yJ2_inflate_0e8fd : MethodName := ⟨RJ2, "inflate", "([BI[BII)V"⟩
abbrev cJ2_getChars_ba4f3 : ByteArray := prog_42_method_89_code
def yJ2_getChars_ba4f3 : MethodName := ⟨RJ2, "getChars", "(II[B)I"⟩
abbrev cJ2_checkIndex_2214a : ByteArray := prog_42_method_91_code
def yJ2_checkIndex_2214a : MethodName := ⟨RJ2, "checkIndex", "(I[B)V"⟩
abbrev cJ2_checkBoundsBeginEnd_d044e : ByteArray := prog_42_method_93_code
def yJ2_checkBoundsBeginEnd_d044e : MethodName := ⟨RJ2, "checkBoundsBeginEnd", "(II[B)V"⟩
abbrev cJ2_checkBoundsOffCount_d044e : ByteArray := prog_42_method_94_code
def yJ2_checkBoundsOffCount_d044e : MethodName := ⟨RJ2, "checkBoundsOffCount", "(II[B)V"⟩
def RJ10 : String := "java/lang/System"
def TJ10 : u_T := fun k => match k with
  | _ => ("", "", "", false)
def tyJ10 : Nat → FieldType := fun k => match k with
  | _ => .int
theorem nmJ10 : ∀ a, a < 0 → ∀ b, b < 0 → a ≠ b → (TJ10 a).2.1 ≠ (TJ10 b).2.1 := by decide +kernel
theorem tyJ10_ok : ∀ k, k < 0 → parseFieldDescriptor (TJ10 k).2.2.1 = some (tyJ10 k) := by decide +kernel
def RJxfd54e : String := "java/lang/constant/Constable"
def TJxfd54e : u_T := fun k => match k with
  | _ => ("", "", "", false)
def tyJxfd54e : Nat → FieldType := fun k => match k with
  | _ => .int
theorem nmJxfd54e : ∀ a, a < 0 → ∀ b, b < 0 → a ≠ b → (TJxfd54e a).2.1 ≠ (TJxfd54e b).2.1 := by decide +kernel
theorem tyJxfd54e_ok : ∀ k, k < 0 → parseFieldDescriptor (TJxfd54e k).2.2.1 = some (tyJxfd54e k) := by decide +kernel
def RJx3cf43 : String := "java/lang/constant/ConstantDesc"
def TJx3cf43 : u_T := fun k => match k with
  | _ => ("", "", "", false)
def tyJx3cf43 : Nat → FieldType := fun k => match k with
  | _ => .int
theorem nmJx3cf43 : ∀ a, a < 0 → ∀ b, b < 0 → a ≠ b → (TJx3cf43 a).2.1 ≠ (TJx3cf43 b).2.1 := by decide +kernel
theorem tyJx3cf43_ok : ∀ k, k < 0 → parseFieldDescriptor (TJx3cf43 k).2.2.1 = some (tyJx3cf43 k) := by decide +kernel
def RJxa1e45 : String := "java/util/AbstractCollection"
def TJxa1e45 : u_T := fun k => match k with
  | _ => ("", "", "", false)
def tyJxa1e45 : Nat → FieldType := fun k => match k with
  | _ => .int
theorem nmJxa1e45 : ∀ a, a < 0 → ∀ b, b < 0 → a ≠ b → (TJxa1e45 a).2.1 ≠ (TJxa1e45 b).2.1 := by decide +kernel
theorem tyJxa1e45_ok : ∀ k, k < 0 → parseFieldDescriptor (TJxa1e45 k).2.2.1 = some (tyJxa1e45 k) := by decide +kernel
abbrev cJxa1e45_init_da8c8 : ByteArray := prog_47_method_1_code
def yJxa1e45_init_da8c8 : MethodName := ⟨RJxa1e45, "<init>", "()V"⟩
def RJxc12de : String := "java/util/AbstractList"
def TJxc12de : u_T := fun k => match k with
  | _ => ("", "", "", false)
def tyJxc12de : Nat → FieldType := fun k => match k with
  | _ => .int
theorem nmJxc12de : ∀ a, a < 0 → ∀ b, b < 0 → a ≠ b → (TJxc12de a).2.1 ≠ (TJxc12de b).2.1 := by decide +kernel
theorem tyJxc12de_ok : ∀ k, k < 0 → parseFieldDescriptor (TJxc12de k).2.2.1 = some (tyJxc12de k) := by decide +kernel
abbrev cJxc12de_init_da8c8 : ByteArray := prog_48_method_1_code
def yJxc12de_init_da8c8 : MethodName := ⟨RJxc12de, "<init>", "()V"⟩
def RJx4a65c : String := "java/util/ArrayList"
def TJx4a65c : u_T := fun k => match k with
  | 0 => ("java/util/AbstractList", "modCount", "I", false)
  | 1 => ("java/util/ArrayList", "elementData", "[Ljava/lang/Object;", false)
  | _ => ("java/util/ArrayList", "size", "I", false)
def tyJx4a65c : Nat → FieldType := fun k => match k with
  | 0 => .int
  | 1 => .array (.object "java/lang/Object")
  | _ => .int
theorem nmJx4a65c : ∀ a, a < 3 → ∀ b, b < 3 → a ≠ b → (TJx4a65c a).2.1 ≠ (TJx4a65c b).2.1 := by decide +kernel
theorem tyJx4a65c_ok : ∀ k, k < 3 → parseFieldDescriptor (TJx4a65c k).2.2.1 = some (tyJx4a65c k) := by decide +kernel
abbrev cJx4a65c_init_da8c8 : ByteArray := prog_49_method_2_code
def yJx4a65c_init_da8c8 : MethodName := ⟨RJx4a65c, "<init>", "()V"⟩
abbrev cJx4a65c_grow_92f84 : ByteArray := prog_49_method_6_code
def yJx4a65c_grow_92f84 : MethodName := ⟨RJx4a65c, "grow", "(I)[Ljava/lang/Object;"⟩
abbrev cJx4a65c_grow_d5877 : ByteArray := prog_49_method_7_code
def yJx4a65c_grow_d5877 : MethodName := ⟨RJx4a65c, "grow", "()[Ljava/lang/Object;"⟩
abbrev cJx4a65c_size_8abf5 : ByteArray := prog_49_method_8_code
def yJx4a65c_size_8abf5 : MethodName := ⟨RJx4a65c, "size", "()I"⟩
abbrev cJx4a65c_elementData_915e3 : ByteArray := prog_49_method_18_code
def yJx4a65c_elementData_915e3 : MethodName := ⟨RJx4a65c, "elementData", "(I)Ljava/lang/Object;"⟩
abbrev cJx4a65c_get_915e3 : ByteArray := prog_49_method_20_code
def yJx4a65c_get_915e3 : MethodName := ⟨RJx4a65c, "get", "(I)Ljava/lang/Object;"⟩
abbrev cJx4a65c_add_72be8 : ByteArray := prog_49_method_24_code
def yJx4a65c_add_72be8 : MethodName := ⟨RJx4a65c, "add", "(Ljava/lang/Object;[Ljava/lang/Object;I)V"⟩
abbrev cJx4a65c_add_9ea2d : ByteArray := prog_49_method_25_code
def yJx4a65c_add_9ea2d : MethodName := ⟨RJx4a65c, "add", "(Ljava/lang/Object;)Z"⟩
def RJ7 : String := "java/util/Arrays"
def TJ7 : u_T := fun k => match k with
  | _ => ("", "", "", false)
def tyJ7 : Nat → FieldType := fun k => match k with
  | _ => .int
theorem nmJ7 : ∀ a, a < 0 → ∀ b, b < 0 → a ≠ b → (TJ7 a).2.1 ≠ (TJ7 b).2.1 := by decide +kernel
theorem tyJ7_ok : ∀ k, k < 0 → parseFieldDescriptor (TJ7 k).2.2.1 = some (tyJ7 k) := by decide +kernel
abbrev cJ7_rangeCheck_23922 : ByteArray := prog_50_method_30_code
def yJ7_rangeCheck_23922 : MethodName := ⟨RJ7, "rangeCheck", "(III)V"⟩
abbrev cJ7_fill_fda19 : ByteArray := prog_50_method_104_code
def yJ7_fill_fda19 : MethodName := ⟨RJ7, "fill", "([IIII)V"⟩
abbrev cJ7_copyOf_1904c : ByteArray := prog_50_method_119_code
def yJ7_copyOf_1904c : MethodName := ⟨RJ7, "copyOf", "([Ljava/lang/Object;I)[Ljava/lang/Object;"⟩
abbrev cJ7_copyOf_6403c : ByteArray := prog_50_method_120_code
def yJ7_copyOf_6403c : MethodName := ⟨RJ7, "copyOf", "([Ljava/lang/Object;ILjava/lang/Class;)[Ljava/lang/Object;"⟩
abbrev cJ7_copyOf_9075b : ByteArray := prog_50_method_121_code
def yJ7_copyOf_9075b : MethodName := ⟨RJ7, "copyOf", "([BI)[B"⟩
abbrev cJ7_copyOf_59c91 : ByteArray := prog_50_method_123_code
def yJ7_copyOf_59c91 : MethodName := ⟨RJ7, "copyOf", "([II)[I"⟩
abbrev cJ7_copyOf_c38d5 : ByteArray := prog_50_method_124_code
def yJ7_copyOf_c38d5 : MethodName := ⟨RJ7, "copyOf", "([JI)[J"⟩
abbrev cJ7_checkLength_df160 : ByteArray := prog_50_method_131_code
def yJ7_checkLength_df160 : MethodName := ⟨RJ7, "checkLength", "(II)V"⟩
abbrev cJ7_copyOfRange_39247 : ByteArray := prog_50_method_132_code
def yJ7_copyOfRange_39247 : MethodName := ⟨RJ7, "copyOfRange", "([BII)[B"⟩
abbrev cJ7_copyOfRangeByte_39247 : ByteArray := prog_50_method_133_code
def yJ7_copyOfRangeByte_39247 : MethodName := ⟨RJ7, "copyOfRangeByte", "([BII)[B"⟩
def RJx5ef63 : String := "java/util/Collection"
def TJx5ef63 : u_T := fun k => match k with
  | _ => ("", "", "", false)
def tyJx5ef63 : Nat → FieldType := fun k => match k with
  | _ => .int
theorem nmJx5ef63 : ∀ a, a < 0 → ∀ b, b < 0 → a ≠ b → (TJx5ef63 a).2.1 ≠ (TJx5ef63 b).2.1 := by decide +kernel
theorem tyJx5ef63_ok : ∀ k, k < 0 → parseFieldDescriptor (TJx5ef63 k).2.2.1 = some (tyJx5ef63 k) := by decide +kernel
def RJxbd725 : String := "java/util/List"
def TJxbd725 : u_T := fun k => match k with
  | _ => ("", "", "", false)
def tyJxbd725 : Nat → FieldType := fun k => match k with
  | _ => .int
theorem nmJxbd725 : ∀ a, a < 0 → ∀ b, b < 0 → a ≠ b → (TJxbd725 a).2.1 ≠ (TJxbd725 b).2.1 := by decide +kernel
theorem tyJxbd725_ok : ∀ k, k < 0 → parseFieldDescriptor (TJxbd725 k).2.2.1 = some (tyJxbd725 k) := by decide +kernel
def RJ15 : String := "java/util/Objects"
def TJ15 : u_T := fun k => match k with
  | _ => ("", "", "", false)
def tyJ15 : Nat → FieldType := fun k => match k with
  | _ => .int
theorem nmJ15 : ∀ a, a < 0 → ∀ b, b < 0 → a ≠ b → (TJ15 a).2.1 ≠ (TJ15 b).2.1 := by decide +kernel
theorem tyJ15_ok : ∀ k, k < 0 → parseFieldDescriptor (TJ15 k).2.2.1 = some (tyJ15 k) := by decide +kernel
abbrev cJ15_checkIndex_7cf53 : ByteArray := prog_53_method_17_code
def yJ15_checkIndex_7cf53 : MethodName := ⟨RJ15, "checkIndex", "(II)I"⟩
def RJxf0a74 : String := "java/util/RandomAccess"
def TJxf0a74 : u_T := fun k => match k with
  | _ => ("", "", "", false)
def tyJxf0a74 : Nat → FieldType := fun k => match k with
  | _ => .int
theorem nmJxf0a74 : ∀ a, a < 0 → ∀ b, b < 0 → a ≠ b → (TJxf0a74 a).2.1 ≠ (TJxf0a74 b).2.1 := by decide +kernel
theorem tyJxf0a74_ok : ∀ k, k < 0 → parseFieldDescriptor (TJxf0a74 k).2.2.1 = some (tyJxf0a74 k) := by decide +kernel
def RJxa66e6 : String := "java/util/SequencedCollection"
def TJxa66e6 : u_T := fun k => match k with
  | _ => ("", "", "", false)
def tyJxa66e6 : Nat → FieldType := fun k => match k with
  | _ => .int
theorem nmJxa66e6 : ∀ a, a < 0 → ∀ b, b < 0 → a ≠ b → (TJxa66e6 a).2.1 ≠ (TJxa66e6 b).2.1 := by decide +kernel
theorem tyJxa66e6_ok : ∀ k, k < 0 → parseFieldDescriptor (TJxa66e6 k).2.2.1 = some (tyJxa66e6 k) := by decide +kernel
def RJ8 : String := "jdk/internal/util/ArraysSupport"
def TJ8 : u_T := fun k => match k with
  | _ => ("", "", "", false)
def tyJ8 : Nat → FieldType := fun k => match k with
  | _ => .int
theorem nmJ8 : ∀ a, a < 0 → ∀ b, b < 0 → a ≠ b → (TJ8 a).2.1 ≠ (TJ8 b).2.1 := by decide +kernel
theorem tyJ8_ok : ∀ k, k < 0 → parseFieldDescriptor (TJ8 k).2.2.1 = some (tyJ8 k) := by decide +kernel
abbrev cJ8_newLength_cabcc : ByteArray := prog_56_method_27_code
def yJ8_newLength_cabcc : MethodName := ⟨RJ8, "newLength", "(III)I"⟩
abbrev cJ8_hugeLength_7cf53 : ByteArray := prog_56_method_28_code
def yJ8_hugeLength_7cf53 : MethodName := ⟨RJ8, "hugeLength", "(II)I"⟩
def RJ3 : String := "jdk/internal/util/Preconditions"
def TJ3 : u_T := fun k => match k with
  | _ => ("", "", "", false)
def tyJ3 : Nat → FieldType := fun k => match k with
  | _ => .int
theorem nmJ3 : ∀ a, a < 0 → ∀ b, b < 0 → a ≠ b → (TJ3 a).2.1 ≠ (TJ3 b).2.1 := by decide +kernel
theorem tyJ3_ok : ∀ k, k < 0 → parseFieldDescriptor (TJ3 k).2.2.1 = some (tyJ3 k) := by decide +kernel
abbrev cJ3_checkIndex_8e157 : ByteArray := prog_57_method_11_code
def yJ3_checkIndex_8e157 : MethodName := ⟨RJ3, "checkIndex", "(IILjava/util/function/BiFunction;)I"⟩
abbrev cJ3_checkFromToIndex_8c36e : ByteArray := prog_57_method_12_code
def yJ3_checkFromToIndex_8c36e : MethodName := ⟨RJ3, "checkFromToIndex", "(IIILjava/util/function/BiFunction;)I"⟩
abbrev cJ3_checkFromIndexSize_8c36e : ByteArray := prog_57_method_13_code
def yJ3_checkFromIndexSize_8c36e : MethodName := ⟨RJ3, "checkFromIndexSize", "(IIILjava/util/function/BiFunction;)I"⟩
def RL : String := "LanternserverLaw"
abbrev cL_type : ByteArray := method_3_code
def yL_type : MethodName := ⟨RL, "type", "(LLanternserver;JJJJJJ[J)I"⟩
abbrev cL_put : ByteArray := method_4_code
def yL_put : MethodName := ⟨RL, "put", "(LLanternserver;II[J)I"⟩
abbrev cL_piece : ByteArray := method_5_code
def yL_piece : MethodName := ⟨RL, "piece", "(LLanternserver;I[J)I"⟩
abbrev cL_sum : ByteArray := method_6_code
def yL_sum : MethodName := ⟨RL, "sum", "(LLanternserver;II[J)I"⟩
abbrev cL_addHost : ByteArray := method_7_code
def yL_addHost : MethodName := ⟨RL, "addHost", "(LLanternserver;II[J)I"⟩
abbrev cL_setMtu : ByteArray := method_8_code
def yL_setMtu : MethodName := ⟨RL, "setMtu", "(LLanternserver;II[J)I"⟩
abbrev cL_hostAt : ByteArray := method_9_code
def yL_hostAt : MethodName := ⟨RL, "hostAt", "(LLanternserver;II[J)I"⟩
abbrev cL_tableAt : ByteArray := method_10_code
def yL_tableAt : MethodName := ⟨RL, "tableAt", "(LLanternserver;II[J)I"⟩
abbrev cL_deliver : ByteArray := method_11_code
def yL_deliver : MethodName := ⟨RL, "deliver", "(LLanternserver;I[J)I"⟩
abbrev cL_lose : ByteArray := method_12_code
def yL_lose : MethodName := ⟨RL, "lose", "(LLanternserver;I[J)I"⟩
abbrev cL_twice : ByteArray := method_13_code
def yL_twice : MethodName := ⟨RL, "twice", "(LLanternserver;I[J)I"⟩
abbrev cL_spoil : ByteArray := method_14_code
def yL_spoil : MethodName := ⟨RL, "spoil", "(LLanternserver;III[J)I"⟩
abbrev cL_frameAt : ByteArray := method_15_code
def yL_frameAt : MethodName := ⟨RL, "frameAt", "(LLanternserver;II[J)I"⟩
abbrev cL_byteAt : ByteArray := method_16_code
def yL_byteAt : MethodName := ⟨RL, "byteAt", "(LLanternserver;II[J)I"⟩
abbrev cL_pass : ByteArray := method_17_code
def yL_pass : MethodName := ⟨RL, "pass", "(LLanternserver;I[J)I"⟩
abbrev cL_settle : ByteArray := method_18_code
def yL_settle : MethodName := ⟨RL, "settle", "(LLanternserver;I[J)I"⟩
abbrev cL_play : ByteArray := method_19_code
def yL_play : MethodName := ⟨RL, "play", "(LLanternserver;II[J)I"⟩
abbrev cL_echo : ByteArray := method_20_code
def yL_echo : MethodName := ⟨RL, "echo", "(LLanternserver;III[J)I"⟩
abbrev cL_isAnswered : ByteArray := method_21_code
def yL_isAnswered : MethodName := ⟨RL, "isAnswered", "(LLanternserver;I[J)I"⟩
abbrev cL_name : ByteArray := method_22_code
def yL_name : MethodName := ⟨RL, "name", "(LLanternserver;I[J)I"⟩
abbrev cL_lookUp : ByteArray := method_23_code
def yL_lookUp : MethodName := ⟨RL, "lookUp", "(LLanternserver;I[J)I"⟩
abbrev cL_askAgain : ByteArray := method_24_code
def yL_askAgain : MethodName := ⟨RL, "askAgain", "(LLanternserver;I)I"⟩
abbrev cL_found : ByteArray := method_25_code
def yL_found : MethodName := ⟨RL, "found", "(LLanternserver;I[J)I"⟩
abbrev cL_connect : ByteArray := method_26_code
def yL_connect : MethodName := ⟨RL, "connect", "(LLanternserver;III[J)I"⟩
abbrev cL_write : ByteArray := method_27_code
def yL_write : MethodName := ⟨RL, "write", "(LLanternserver;I[J)I"⟩
abbrev cL_read : ByteArray := method_28_code
def yL_read : MethodName := ⟨RL, "read", "(LLanternserver;II[J)I"⟩
abbrev cL_readAt : ByteArray := method_29_code
def yL_readAt : MethodName := ⟨RL, "readAt", "(LLanternserver;II[J)I"⟩
abbrev cL_close : ByteArray := method_30_code
def yL_close : MethodName := ⟨RL, "close", "(LLanternserver;IZ[J)I"⟩
abbrev cL_connectionAt : ByteArray := method_31_code
def yL_connectionAt : MethodName := ⟨RL, "connectionAt", "(LLanternserver;II[J)I"⟩
abbrev cL_fileAt : ByteArray := method_32_code
def yL_fileAt : MethodName := ⟨RL, "fileAt", "(LLanternserver;II[J)I"⟩
abbrev cL_fileByteAt : ByteArray := method_33_code
def yL_fileByteAt : MethodName := ⟨RL, "fileByteAt", "(LLanternserver;IZI[J)I"⟩
abbrev cL_servedAt : ByteArray := method_34_code
def yL_servedAt : MethodName := ⟨RL, "servedAt", "(LLanternserver;II[J)I"⟩
abbrev cL_answerAt : ByteArray := method_35_code
def yL_answerAt : MethodName := ⟨RL, "answerAt", "(LLanternserver;II[J)I"⟩
abbrev cL_count : ByteArray := method_36_code
def yL_count : MethodName := ⟨RL, "count", "(LLanternserver;I[J)I"⟩
abbrev cL_law : ByteArray := code
def yL_law : MethodName := ⟨RL, "law", "([I)Z"⟩
abbrev vwCl : List vw_C := [(RJ0, TJ0, 4), (RJ4, TJ4, 4), (RJx00060, TJx00060, 6), (RJx4a65c, TJx4a65c, 3), (RX0, TX0, 19), (RX1, TX1, 11), (RX2, TX2, 5), (RX3, TX3, 16), (RX4, TX4, 11), (RX5, TX5, 19), (RX6, TX6, 8), (RX7, TX7, 2), (RX8, TX8, 12), (RX9, TX9, 20), (RX10, TX10, 14), (RX11, TX11, 17), (RX12, TX12, 2), (RX13, TX13, 2), (RX14, TX14, 4), (RX15, TX15, 16), (RX16, TX16, 3), (RX17, TX17, 41), (RX18, TX18, 7), (RX19, TX19, 2), (RX20, TX20, 96)]
end
section
/-! WHAT THE LINK STANDS ON: names of classes and kinds, the words, the String constants, the links to nest mates -/
def am_clN (k : Nat) : String := match vwCl[k]? with
  | some q => q.1
  | none => ""
def am_kty (k : Nat) : FieldType := if k = 100 then .int else if k = 101 then .long else if k = 102 then .boolean else if k = 103 then .array .int else if k = 104 then .object "java/lang/Object" else .object (am_clN (k - 200))
/-- the words that every method is given -/
def am_T : List Cond := lw_tbl.filter goodWord
theorem am_inT {w : Jvm.Cond} (h : w ∈ lw_tbl) (g : goodWord w = true) : w ∈ am_T := List.mem_filter.mpr ⟨h, g⟩
theorem am_good {big ws : List Jvm.Cond} (hb : ∀ w ∈ am_T, w ∈ big) (h : ∀ w ∈ ws, w ∈ am_T) : GoodIn big ws := fun w hw => ⟨hb w (h w hw), good_of_word (List.mem_filter.mp (h w hw)).2⟩
theorem am_pl {ws : List Jvm.Cond} (ps : List Nat) (hp : (ws.map some) = ps.map (fun i => lw_tbl[i]?)) (g : ws.all goodWord = true) : ∀ w ∈ ws, w ∈ am_T := by
  intro w hw
  have h1 : some w ∈ ws.map some := List.mem_map.mpr ⟨w, hw, rfl⟩
  rw [hp] at h1
  obtain ⟨i, -, hi⟩ := List.mem_map.mp h1
  exact am_inT (List.mem_of_getElem? hi) (List.all_eq_true.mp g w hw)
/-- the String constants: the class, the entry, the text, a number -/
def am_strs : List (String × Nat × String × Nat) := [("Lanternserver$Reade\x72", 111, "GET", 0), ("Lanternserver$Reade\x72", 117, "HEAD", 1), ("Lanternserver$Reade\x72", 119, "PUT", 2), ("Lanternserver$Reade\x72", 121, "POST", 3), ("Lanternserver$Reade\x72", 123, "DELETE", 4), ("Lanternserver$Reade\x72", 125, "OPTIONS", 5), ("Lanternserver$Reade\x72", 127, "HTTP/1.0", 6), ("Lanternserver$Reade\x72", 129, "HTTP/1.1", 7), ("Lanternserver$Reade\x72", 134, "host", 8), ("Lanternserver$Reade\x72", 140, "content-length", 9), ("Lanternserver$Reade\x72", 149, "transfer-encoding", 10), ("Lanternserver$Reade\x72", 151, "chunked", 11), ("Lanternserver$Reade\x72", 153, "connection", 12), ("Lanternserver$Reade\x72", 155, "close", 13), ("Lanternserver$Reade\x72", 157, "keep-alive", 14), ("Lanternserver$Reade\x72", 159, "if-match", 15), ("Lanternserver$Reade\x72", 165, "if-none-match", 16), ("Lanternserver$Reade\x72", 167, "range", 17), ("Lanternserver$House", 113, "\"v", 18), ("Lanternserver$House", 135, "bytes=", 19), ("Lanternserver$House", 194, "OK", 20), ("Lanternserver$House", 196, "Created", 21), ("Lanternserver$House", 198, "No Content", 22), ("Lanternserver$House", 200, "Partial Content", 23), ("Lanternserver$House", 202, "Not Modified", 24), ("Lanternserver$House", 204, "Bad Request", 25), ("Lanternserver$House", 206, "Not Found", 26), ("Lanternserver$House", 208, "Method Not Allowed", 27), ("Lanternserver$House", 210, "Length Required", 28), ("Lanternserver$House", 212, "Precondition Failed", 29), ("Lanternserver$House", 214, "Content Too Large", 30), ("Lanternserver$House", 216, "URI Too Long", 31), ("Lanternserver$House", 218, "Range Not Satisfiable", 32), ("Lanternserver$House", 220, "Request Header Fields Too Large", 33), ("Lanternserver$House", 222, "Not Implemented", 34), ("Lanternserver$House", 224, "HTTP Version Not Supported", 35), ("Lanternserver$House", 226, "Insufficient Storage", 36), ("Lanternserver$House", 166, "HTTP/1.1 ", 37), ("Lanternserver$House", 171, "Content-Length: ", 38), ("Lanternserver$House", 176, "ETag: \"v", 39), ("Lanternserver$House", 178, "\"\r\n", 40), ("Lanternserver$House", 190, "Content-Range: bytes ", 41), ("Lanternserver$House", 192, "Content-Range: bytes *", 42), ("Lanternserver$House", 184, "Allow: GET, HEAD, OPTIONS\r\n", 43), ("Lanternserver$House", 186, "Allow: GET, HEAD, PUT, POST, DELETE, OPTIONS\r\n", 44), ("Lanternserver$House", 188, "Connection: close\r\n", 45), ("Lanternserve\x72", 111, "the tape has at most 400 bytes", 46), ("Lanternserve\x72", 122, "a byte is 0 to 255, many 1 to 300", 47), ("Lanternserve\x72", 127, "a piece is 0 to 5", 48), ("Lanternserve\x72", 495, "GET /a HTTP/1.1\r\nHost: h\r\n\r\n", 49), ("Lanternserve\x72", 497, "PUT /a HTTP/1.1\r\nHost: h\r\nContent-Length: 5\r\n\r\nhello", 50), ("Lanternserve\x72", 499, "GET / HTTP/1.0\r\n\r\n", 51), ("Lanternserve\x72", 501, "POST /a HTTP/1.1\r\nHost: h\r\nTransfer-Encoding: chunked\r\n\r\n3\r\nabc\r\n0\r\n\r\n", 52), ("Lanternserve\x72", 503, "DELETE /a HTTP/1.1\r\nHost: h\r\nConnection: close\r\n\r\n", 53), ("Lanternserve\x72", 505, "GET /a HTTP/1.1\r\nHost: h\r\nRange: bytes=1-3\r\nIf-None-Match: \"v2\"\r\n\r\n", 54), ("Lanternserve\x72", 144, "no such part of the tape", 55), ("Lanternserve\x72", 151, "an MTU is 100 to 600, an MSS 40 to 500", 56), ("Lanternserve\x72", 156, "there are 5 hosts", 57), ("Lanternserve\x72", 162, "no such host", 58), ("Lanternserve\x72", 164, "an MTU is 100 to 600", 59), ("Lanternserve\x72", 192, "what is 0 to 5", 60), ("Lanternserve\x72", 208, "a choice is 0 to 1000", 61), ("java/util/Arrays", 48, "fromIndex(", 62), ("java/util/Arrays", 57, ") > toIndex(", 63), ("java/util/Arrays", 59, ")", 64), ("java/util/Arrays", 337, " > ", 65), ("java/lang/ArrayIndexOutOfBoundsException", 13, "Array index out of range: ", 66), ("Lanternserve\x72", 219, "choice and at are 0 to 1000, by is 1 to 255", 67), ("Lanternserve\x72", 227, "no such frame", 68), ("Lanternserve\x72", 248, "what is 0 to 3", 69), ("Lanternserve\x72", 250, "no such byte", 70), ("Lanternserve\x72", 255, "ticks is 1 to 100", 71), ("Lanternserve\x72", 260, "the time is at most 20000", 72), ("Lanternserve\x72", 265, "ticks is 1 to 60", 73), ("Lanternserve\x72", 271, "many is 1 to 200", 74), ("Lanternserve\x72", 280, "another host, and 0 to 900 bytes", 75), ("Lanternserve\x72", 282, "there are 40 echoes", 76), ("Lanternserve\x72", 302, "no such echo", 77), ("Lanternserve\x72", 307, "the tape is no name", 78), ("Lanternserve\x72", 313, "another host has the name", 79), ("Lanternserve\x72", 322, "the server does not ask", 80), ("Lanternserve\x72", 324, "there are 40 lookups", 81), ("Lanternserve\x72", 332, "no such lookup", 82), ("Lanternserve\x72", 334, "the lookup has an answe\x72", 83), ("Lanternserve\x72", 337, "a client, another host, and a port 1 to 65535", 84), ("Lanternserve\x72", 339, "there are 60 connections", 85), ("Lanternserve\x72", 352, "no such connection", 86), ("Lanternserve\x72", 360, "nothing can be written on it", 87), ("Lanternserve\x72", 372, "many is 1 to 300", 88), ("Lanternserve\x72", 374, "it is the server's", 89), ("Lanternserve\x72", 395, "it cannot be closed", 90), ("Lanternserve\x72", 403, "what is 0 to 18", 91), ("Lanternserve\x72", 409, "no such file", 92), ("Lanternserve\x72", 421, "what is 0 to 2", 93), ("Lanternserve\x72", 426, "no such request", 94), ("Lanternserve\x72", 428, "what is 0 to 6", 95), ("Lanternserve\x72", 469, "what is 0 to 15", 96), ("LanternserverModel", 254, "GET /a HTTP/1.1|Host: h||", 97), ("LanternserverModel", 256, "PUT /a HTTP/1.1|Host: h|Content-Length: 5||hello", 98), ("LanternserverModel", 258, "GET / HTTP/1.0||", 99), ("LanternserverModel", 260, "POST /a HTTP/1.1|Host: h|Transfer-Encoding: chunked||3|abc|0||", 100), ("LanternserverModel", 262, "DELETE /a HTTP/1.1|Host: h|Connection: close||", 101), ("LanternserverModel", 264, "GET /a HTTP/1.1|Host: h|Range: bytes=1-3|If-None-Match: \"v2\"||", 102)]
/-- the types of whose arrays the tables say that their class is there -/
def am_aot : List FieldType := [.array .int, .object "java/lang/Object", .object RX1, .object RX2, .object RX7, .object RX13, .object RX14, .object RX15, .object RX16, .object RX17, .object RX18, .object RX19]
/-- links to private fields and methods of a nest mate -/
def am_nf : List (String × Nat × String × String × String × String) := [("Lanternserver$Datagram", 53, "Lanternserver$Row", "length", "I", "Lanternserve\x72"), ("Lanternserver$Receive\x72", 35, "Lanternserver$Row", "length", "I", "Lanternserve\x72"), ("LanternserverModel", 1003, "LanternserverModel$Early", "begin", "I", "LanternserverModel"), ("LanternserverModel", 1006, "LanternserverModel$Early", "row", "[I", "LanternserverModel"), ("LanternserverModel", 706, "LanternserverModel$Bytes", "row", "[I", "LanternserverModel"), ("LanternserverModel$Line", 68, "LanternserverModel$Bytes", "many", "I", "LanternserverModel"), ("LanternserverModel", 760, "LanternserverModel$Bytes", "many", "I", "LanternserverModel"), ("LanternserverModel", 949, "LanternserverModel$Line", "numbe\x72", "I", "LanternserverModel"), ("LanternserverModel", 709, "LanternserverModel$Line", "host", "I", "LanternserverModel"), ("LanternserverModel", 711, "LanternserverModel$Line", "port", "I", "LanternserverModel"), ("LanternserverModel", 714, "LanternserverModel$Line", "othe\x72", "I", "LanternserverModel"), ("LanternserverModel", 717, "LanternserverModel$Line", "otherPort", "I", "LanternserverModel"), ("LanternserverModel", 810, "LanternserverModel$Line", "iss", "I", "LanternserverModel"), ("LanternserverModel", 807, "LanternserverModel$Line", "state", "I", "LanternserverModel"), ("LanternserverModel", 753, "LanternserverModel$Line", "una", "I", "LanternserverModel"), ("LanternserverModel", 737, "LanternserverModel$Line", "nxt", "I", "LanternserverModel"), ("LanternserverModel", 729, "LanternserverModel$Line", "out", "LLanternserverModel$Bytes;", "LanternserverModel"), ("LanternserverModel", 795, "LanternserverModel$Line", "isClosed", "Z", "LanternserverModel"), ("LanternserverModel", 798, "LanternserverModel$Line", "isFinSent", "Z", "LanternserverModel"), ("LanternserverModel", 775, "LanternserverModel$Line", "window", "I", "LanternserverModel"), ("LanternserverModel", 908, "LanternserverModel$Line", "windowSequence", "I", "LanternserverModel"), ("LanternserverModel", 911, "LanternserverModel$Line", "windowAcknowledged", "I", "LanternserverModel"), ("LanternserverModel", 778, "LanternserverModel$Line", "cwnd", "I", "LanternserverModel"), ("LanternserverModel", 822, "LanternserverModel$Line", "threshold", "I", "LanternserverModel"), ("LanternserverModel", 790, "LanternserverModel$Line", "mss", "I", "LanternserverModel"), ("LanternserverModel", 902, "LanternserverModel$Line", "hasOthe\x72", "Z", "LanternserverModel"), ("LanternserverModel", 905, "LanternserverModel$Line", "irs", "I", "LanternserverModel"), ("LanternserverModel", 720, "LanternserverModel$Line", "rcv", "I", "LanternserverModel"), ("LanternserverModel", 980, "LanternserverModel$Line", "got", "LLanternserverModel$Bytes;", "LanternserverModel"), ("LanternserverModel", 1012, "LanternserverModel$Line", "read", "I", "LanternserverModel"), ("LanternserverModel", 1007, "LanternserverModel$Line", "hasFin", "Z", "LanternserverModel"), ("LanternserverModel", 995, "LanternserverModel$Line", "early", "[LLanternserverModel$Early;", "LanternserverModel"), ("LanternserverModel", 992, "LanternserverModel$Line", "earlyMany", "I", "LanternserverModel"), ("LanternserverModel", 831, "LanternserverModel$Line", "rto", "I", "LanternserverModel"), ("LanternserverModel", 747, "LanternserverModel$Line", "timedFrom", "I", "LanternserverModel"), ("LanternserverModel", 804, "LanternserverModel$Line", "isProbing", "Z", "LanternserverModel"), ("LanternserverModel", 825, "LanternserverModel$Line", "times", "I", "LanternserverModel"), ("LanternserverModel", 963, "LanternserverModel$Line", "doubles", "I", "LanternserverModel"), ("LanternserverModel", 763, "LanternserverModel$Line", "isMeasured", "Z", "LanternserverModel"), ("LanternserverModel", 766, "LanternserverModel$Line", "measuredEnd", "I", "LanternserverModel"), ("LanternserverModel", 769, "LanternserverModel$Line", "measuredFrom", "I", "LanternserverModel"), ("LanternserverModel", 969, "LanternserverModel$Line", "hasSmooth", "Z", "LanternserverModel"), ("LanternserverModel", 972, "LanternserverModel$Line", "smooth", "I", "LanternserverModel"), ("LanternserverModel", 975, "LanternserverModel$Line", "varies", "I", "LanternserverModel"), ("LanternserverModel", 828, "LanternserverModel$Line", "ended", "I", "LanternserverModel"), ("LanternserverModel", 850, "LanternserverModel$Line", "latest", "I", "LanternserverModel"), ("LanternserverModel", 844, "LanternserverModel$Line", "waitsFrom", "I", "LanternserverModel"), ("LanternserverModel", 918, "LanternserverModel$Line", "end", "I", "LanternserverModel")]
def am_nm : List (String × Nat × MethodName × String) := [("Lanternserver$Wire", 17, ⟨"Lanternserver$Frame", "<init>", "()V"⟩, "Lanternserve\x72"), ("Lanternserver$Wire", 31, ⟨"Lanternserver$Datagram", "<init>", "()V"⟩, "Lanternserve\x72"), ("Lanternserve\x72", 54, ⟨"Lanternserver$Datagram", "<init>", "()V"⟩, "Lanternserve\x72"), ("Lanternserve\x72", 61, ⟨"Lanternserver$Segment", "<init>", "()V"⟩, "Lanternserve\x72"), ("Lanternserver$Host", 53, ⟨"Lanternserver$Datagram", "<init>", "()V"⟩, "Lanternserve\x72"), ("Lanternserver$Connection", 259, ⟨"Lanternserve\x72", "isAhead", "(II)Z"⟩, "Lanternserve\x72"), ("Lanternserver$Sende\x72", 81, ⟨"Lanternserve\x72", "isAhead", "(II)Z"⟩, "Lanternserve\x72"), ("Lanternserver$Receive\x72", 53, ⟨"Lanternserve\x72", "isAhead", "(II)Z"⟩, "Lanternserve\x72"), ("LanternserverModel", 444, ⟨"LanternserverModel$Known", "<init>", "()V"⟩, "LanternserverModel"), ("LanternserverModel", 361, ⟨"LanternserverModel$Frame", "<init>", "()V"⟩, "LanternserverModel"), ("LanternserverModel", 475, ⟨"LanternserverModel$Waits", "<init>", "()V"⟩, "LanternserverModel"), ("LanternserverModel$Line", 11, ⟨"LanternserverModel$Bytes", "<init>", "()V"⟩, "LanternserverModel"), ("LanternserverModel", 517, ⟨"LanternserverModel$Togethe\x72", "<init>", "()V"⟩, "LanternserverModel")]
/-- a class of vwCl with what its rows want: its words, its types, its names -/
def am_cls (ci : Nat) (C0 : String) (T : u_T) (N : Nat) (ty0 : Nat → FieldType) : Prop :=
  ci < 100 ∧ vwCl[ci]? = some (C0, T, N) ∧ (∀ w ∈ u_ws C0 T N, w ∈ am_T) ∧ (∀ k, k < N → parseFieldDescriptor (T k).2.2.1 = some (ty0 k)) ∧ ∀ a, a < N → ∀ b, b < N → a ≠ b → (T a).2.1 ≠ (T b).2.1
end
section
/-! THE TABLES: what an entry of a class's constant pool is, by its place among the words (by program) -/
def am_own : Nat → String := fun k => match k with
  | 0 => RX0
  | 1 => RX1
  | 2 => RX2
  | 3 => RX3
  | 4 => RX4
  | 5 => RX5
  | 6 => RX6
  | 7 => RX7
  | 8 => RX8
  | 9 => RX9
  | 10 => RX10
  | 11 => RX11
  | 12 => RX12
  | 13 => RX13
  | 14 => RX14
  | 15 => RX15
  | 16 => RX16
  | 17 => RX17
  | 18 => RX18
  | 19 => RX19
  | 20 => RX20
  | 21 => RL
  | 22 => RJx4a65c
  | 23 => RJxc12de
  | 24 => RJxa1e45
  | 25 => RJ15
  | 26 => RJ3
  | 27 => RJ7
  | 28 => RJ0
  | 29 => RJ1
  | _ => RJ9
def am_tb0_0 : List (Nat × Nat × Nat × Nat) := [(3, 9, 0, 1919), (9, 3, 10, 1920), (11, 7, 93, 1922), (12, 1, 519, 2063), (18, 1, 525, 2072), (22, 1, 512, 2050), (25, 1, 896, 676), (28, 1, 513, 2052), (31, 5, 40000, 1959), (32, 1, 514, 2054), (35, 1, 515, 2056), (38, 1, 516, 2058), (41, 1, 517, 2060), (45, 3, 13, 1960), (47, 7, 129, 1962), (50, 1, 518, 2061), (54, 3, 9, 2048), (56, 7, 77, 2049), (57, 1, 520, 2065), (61, 1, 898, 681), (64, 1, 521, 2067), (67, 1, 522, 2068), (68, 1, 523, 2069), (71, 7, 130, 2221), (75, 1, 1679, 2000), (79, 7, 12, 2132), (83, 1, 1800, 407), (88, 1, 529, 2077), (91, 1, 1540, 497), (96, 7, 94, 2123)]
def am_tb0_1 : List (Nat × Nat × Nat × Nat) := [(99, 7, 139, 2127), (103, 1, 1544, 510), (104, 10, 0, 2131), (110, 1, 526, 2074), (113, 1, 1666, 1976), (116, 7, 10, 2140), (120, 7, 9, 2180), (123, 1, 524, 2071), (126, 7, 147, 2144), (130, 1, 649, 368), (136, 7, 110, 2145), (141, 7, 111, 2146), (144, 1, 1281, 1931), (147, 7, 96, 2147), (150, 1, 1667, 1978), (153, 7, 113, 2151), (157, 7, 36, 2152), (160, 1, 1668, 1981), (163, 7, 131, 2136), (166, 7, 135, 2156), (169, 1, 1680, 2002), (172, 1, 1681, 2004), (175, 7, 3, 2302), (179, 1, 1669, 1984), (181, 1, 1672, 1988), (184, 7, 133, 2306), (187, 7, 11, 2197), (191, 1, 1678, 1999), (194, 7, 14, 2311), (197, 1, 1675, 1994)]
def am_tb0_2 : List (Nat × Nat × Nat × Nat) := [(200, 7, 132, 2192), (203, 1, 1664, 1971), (206, 1, 1665, 1974), (209, 1, 1803, 414), (212, 1, 530, 2078), (215, 7, 4, 2407), (218, 1, 1674, 1992), (221, 7, 17, 2411), (224, 7, 1, 2415), (227, 7, 8, 2416), (230, 1, 1676, 1995), (233, 7, 140, 2225), (236, 7, 15, 2188), (239, 7, 19, 2174), (243, 7, 126, 2178), (247, 1, 1280, 1929), (250, 1, 1541, 504), (253, 7, 149, 2179), (256, 7, 20, 2184), (259, 8, 196, 5), (263, 7, 21, 2204), (266, 1, 1673, 1990), (269, 7, 138, 2230), (272, 7, 22, 2235), (275, 7, 24, 2243), (278, 1, 1547, 518), (281, 7, 136, 2208), (285, 1, 1543, 508), (286, 1, 1677, 1997), (289, 7, 23, 2239)]
def am_tb0_3 : List (Nat × Nat × Nat × Nat) := [(292, 7, 97, 2247), (295, 1, 1284, 1937), (298, 7, 134, 2276), (301, 7, 101, 2281), (304, 7, 95, 1229), (307, 1, 1283, 1935), (310, 1, 1287, 1941), (311, 7, 29, 2580)]
def am_tb0 : List (Nat × Nat × Nat × Nat) := am_tb0_0 ++ (am_tb0_1 ++ (am_tb0_2 ++ (am_tb0_3)))
def am_tb1_0 : List (Nat × Nat × Nat × Nat) := [(3, 9, 0, 334), (9, 3, 11, 335), (11, 7, 100, 336), (14, 1, 649, 364), (20, 1, 650, 370), (23, 1, 640, 337), (27, 5, 167772161, 1513), (28, 1, 641, 340), (31, 1, 642, 344), (34, 1, 643, 349), (37, 1, 644, 353), (40, 1, 645, 355), (43, 1, 646, 357), (46, 1, 647, 359), (49, 1, 648, 361), (53, 2, 1409, 0), (56, 7, 32, 1527), (60, 7, 101, 1528), (63, 7, 113, 1529), (67, 5, 65535, 1840), (68, 7, 108, 1866), (72, 7, 34, 1867), (75, 7, 124, 1868), (79, 7, 114, 1534), (82, 7, 102, 1769), (86, 7, 107, 1770)]
def am_tb1 : List (Nat × Nat × Nat × Nat) := am_tb1_0
def am_tb2_0 : List (Nat × Nat × Nat × Nat) := [(1, 9, 0, 301), (7, 3, 11, 302), (9, 7, 100, 303), (12, 1, 768, 304)]
def am_tb2 : List (Nat × Nat × Nat × Nat) := am_tb2_0
def am_tb3_0 : List (Nat × Nat × Nat × Nat) := [(3, 9, 0, 671), (9, 3, 11, 672), (11, 7, 100, 673), (14, 1, 899, 682), (20, 1, 900, 684), (24, 1, 901, 685), (28, 1, 902, 686), (31, 1, 904, 689), (34, 3, 5, 674), (36, 1, 905, 690), (40, 1, 907, 693), (43, 1, 896, 677), (47, 1, 897, 678), (50, 1, 898, 680), (53, 8, 31, 4), (54, 1, 903, 687), (57, 7, 521, 1490), (63, 7, 522, 1491), (66, 1, 908, 694), (69, 1, 646, 358), (72, 7, 58, 1519), (75, 1, 909, 696), (78, 5, 65535, 2323), (79, 1, 644, 354), (82, 1, 645, 356), (83, 1, 642, 346), (86, 7, 41, 1483), (90, 7, 42, 1782), (94, 7, 48, 1783), (98, 1, 906, 691)]
def am_tb3_1 : List (Nat × Nat × Nat × Nat) := [(101, 7, 50, 1812), (104, 7, 33, 1523), (107, 7, 46, 2324), (111, 5, 167772161, 1484), (112, 1, 1800, 408), (115, 6, 281474976710655, 2328), (117, 7, 47, 1816), (121, 7, 142, 1791), (125, 1, 768, 306), (130, 7, 112, 1796), (134, 6, 2199023255553, 1801), (136, 7, 110, 1802), (139, 7, 111, 1803), (142, 1, 649, 367), (143, 7, 101, 1473), (147, 7, 49, 1787), (151, 10, 0, 1811), (157, 1, 643, 351), (160, 1, 641, 342), (163, 7, 124, 1504), (167, 7, 108, 1807), (171, 7, 113, 1514), (175, 7, 104, 1474), (178, 7, 103, 1469), (181, 7, 105, 1485), (182, 7, 53, 1470), (186, 7, 54, 1479), (190, 7, 55, 1499), (193, 7, 56, 1505), (197, 1, 770, 311)]
def am_tb3_2 : List (Nat × Nat × Nat × Nat) := [(201, 1, 772, 316), (204, 1, 648, 362), (205, 1, 911, 701), (208, 5, 67584, 1478), (209, 7, 43, 1486), (213, 7, 102, 1503), (216, 7, 32, 1509), (220, 1, 910, 699), (223, 7, 57, 1515), (227, 7, 37, 1530), (231, 1, 647, 360), (234, 7, 38, 1774)]
def am_tb3 : List (Nat × Nat × Nat × Nat) := am_tb3_0 ++ (am_tb3_1 ++ (am_tb3_2))
def am_tb4_0 : List (Nat × Nat × Nat × Nat) := [(3, 9, 0, 550), (9, 3, 11, 551), (11, 1, 1024, 554), (17, 1, 1025, 556), (20, 1, 1026, 558), (24, 7, 100, 553), (27, 1, 1029, 564), (31, 1, 1030, 565), (34, 1, 1032, 567), (37, 1, 1027, 560), (41, 1, 1028, 562), (44, 7, 119, 1096), (48, 7, 101, 1081), (52, 7, 118, 1118), (56, 1, 1031, 566), (59, 7, 106, 1080), (62, 1, 1033, 568), (65, 1, 1034, 569), (68, 1, 1158, 610), (73, 1, 1157, 608), (76, 7, 102, 1082), (80, 7, 63, 1083), (84, 7, 66, 1086), (87, 7, 64, 1092), (90, 7, 67, 1101), (94, 1, 1165, 618), (97, 7, 65, 1105), (101, 1, 1166, 620), (104, 7, 69, 1131), (107, 7, 70, 1143)]
def am_tb4_1 : List (Nat × Nat × Nat × Nat) := [(110, 7, 73, 1147), (113, 13, 18, 18), (115, 7, 115, 1110), (119, 7, 116, 1114), (122, 7, 109, 1091), (125, 7, 113, 1090), (129, 1, 1167, 622), (132, 7, 68, 1122), (135, 13, 19, 19), (137, 7, 120, 1127), (141, 7, 122, 1128), (145, 11, 0, 1129), (150, 10, 0, 1130), (153, 7, 72, 1135), (156, 1, 1168, 624), (159, 7, 71, 1139), (162, 7, 76, 1159), (166, 13, 37, 37), (168, 7, 110, 1180), (171, 13, 38, 38), (173, 7, 527, 1185), (176, 13, 39, 39), (178, 13, 40, 40), (180, 7, 75, 1188), (184, 13, 43, 43), (186, 13, 44, 44), (188, 13, 45, 45), (190, 13, 41, 41), (192, 13, 42, 42), (194, 13, 20, 20)]
def am_tb4_2 : List (Nat × Nat × Nat × Nat) := [(196, 13, 21, 21), (198, 13, 22, 22), (200, 13, 23, 23), (202, 13, 24, 24), (204, 13, 25, 25), (206, 13, 26, 26), (208, 13, 27, 27), (210, 13, 28, 28), (212, 13, 29, 29), (214, 13, 30, 30), (216, 13, 31, 31), (218, 13, 32, 32), (220, 13, 33, 33), (222, 13, 34, 34), (224, 13, 35, 35), (226, 13, 36, 36)]
def am_tb4 : List (Nat × Nat × Nat × Nat) := am_tb4_0 ++ (am_tb4_1 ++ (am_tb4_2))
def am_tb5_0 : List (Nat × Nat × Nat × Nat) := [(3, 9, 0, 598), (9, 3, 11, 599), (11, 7, 100, 600), (14, 1, 1154, 604), (20, 1, 1158, 609), (23, 1, 1165, 617), (26, 1, 1166, 619), (29, 1, 1167, 621), (32, 1, 1168, 623), (35, 1, 1161, 613), (39, 1, 1152, 601), (42, 1, 1153, 602), (45, 7, 106, 926), (48, 1, 1155, 605), (51, 1, 1156, 606), (54, 1, 1157, 607), (57, 1, 1159, 611), (60, 1, 1160, 612), (63, 1, 1162, 614), (67, 1, 1163, 615), (70, 1, 1164, 616), (73, 1, 1169, 625), (76, 1, 1170, 626), (79, 7, 90, 931), (83, 7, 81, 958), (86, 7, 83, 966), (89, 7, 89, 1030), (93, 7, 85, 1034), (96, 7, 86, 1040), (99, 7, 82, 962)]
def am_tb5_1 : List (Nat × Nat × Nat × Nat) := [(103, 7, 101, 953), (105, 7, 84, 970), (108, 7, 109, 935), (111, 13, 0, 0), (113, 7, 120, 975), (117, 13, 1, 1), (119, 13, 2, 2), (121, 13, 3, 3), (123, 13, 4, 4), (125, 13, 5, 5), (127, 13, 6, 6), (129, 13, 7, 7), (131, 7, 102, 1044), (134, 13, 8, 8), (136, 7, 121, 1046), (140, 13, 9, 9), (142, 7, 122, 1051), (146, 7, 87, 1055), (149, 13, 10, 10), (151, 13, 11, 11), (153, 13, 12, 12), (155, 13, 13, 13), (157, 13, 14, 14), (159, 13, 15, 15), (161, 7, 88, 1065), (165, 13, 16, 16), (167, 13, 17, 17), (168, 7, 113, 1069), (171, 7, 92, 949), (174, 7, 91, 954)]
def am_tb5 : List (Nat × Nat × Nat × Nat) := am_tb5_0 ++ (am_tb5_1)
def am_tb6_0 : List (Nat × Nat × Nat × Nat) := [(3, 9, 0, 1925), (9, 3, 11, 1926), (11, 7, 100, 1927), (14, 1, 1282, 1932), (20, 1, 1285, 1938), (24, 1, 1286, 1939), (28, 1, 1280, 1928), (32, 1, 1281, 1930), (35, 2, 1409, 1), (38, 1, 1283, 1934), (41, 7, 96, 2251), (45, 1, 1540, 496), (50, 1, 1547, 516), (53, 8, 196, 7), (57, 1, 1546, 514), (60, 1, 1545, 512), (63, 7, 113, 2253), (67, 7, 98, 2254), (70, 1, 1287, 1940), (71, 7, 106, 2263), (74, 7, 99, 2258), (77, 7, 101, 2262)]
def am_tb6 : List (Nat × Nat × Nat × Nat) := am_tb6_0
def am_tb7_0 : List (Nat × Nat × Nat × Nat) := [(3, 9, 0, 278), (9, 1, 1408, 279), (15, 1, 1409, 280), (19, 7, 102, 1215), (23, 7, 521, 939), (29, 7, 110, 1800), (33, 12, 0, 1073), (39, 7, 517, 1538), (43, 7, 527, 979), (48, 7, 528, 989), (52, 10, 0, 1100), (58, 6, 65535, 1220)]
def am_tb7 : List (Nat × Nat × Nat × Nat) := am_tb7_0
def am_tb8_0 : List (Nat × Nat × Nat × Nat) := [(3, 9, 0, 481), (9, 3, 11, 482), (11, 7, 100, 483), (14, 1, 1545, 511), (20, 1, 1542, 505), (24, 1, 649, 365), (27, 7, 101, 1881), (31, 7, 102, 1882), (35, 7, 34, 1883), (38, 7, 124, 1884), (42, 1, 641, 341), (45, 1, 1536, 484), (46, 1, 642, 345), (49, 1, 1537, 487), (50, 7, 103, 1885), (53, 1, 1538, 489), (56, 1, 1539, 492), (59, 7, 104, 1886), (62, 1, 1540, 495), (65, 1, 1541, 501), (68, 1, 1543, 506), (71, 1, 1546, 513), (74, 1, 1547, 515), (77, 7, 126, 1887), (81, 7, 128, 1891), (85, 1, 1544, 509)]
def am_tb8 : List (Nat × Nat × Nat × Nat) := am_tb8_0
def am_tb9_0 : List (Nat × Nat × Nat × Nat) := [(3, 9, 0, 1965), (9, 3, 11, 1966), (11, 7, 100, 1967), (14, 1, 1667, 1977), (20, 1, 1673, 1989), (24, 1, 1674, 1991), (27, 1, 1680, 2001), (30, 1, 1682, 2005), (33, 6, 4294967096, 1968), (35, 6, 1048583, 1969), (37, 1, 1664, 1970), (40, 1, 1665, 1973), (43, 1, 1666, 1975), (46, 1, 1678, 1998), (50, 1, 1668, 1980), (53, 10, 0, 2196), (59, 7, 131, 2310), (63, 7, 132, 2280), (66, 1, 1675, 1993), (69, 1, 1677, 1996), (72, 1, 1672, 1987), (75, 11, 0, 2212), (78, 1, 1681, 2003), (81, 8, 196, 6), (85, 7, 137, 2214), (88, 1, 1683, 2006), (91, 7, 538, 2218), (95, 1, 1670, 1985), (98, 1, 1540, 499), (103, 1, 1541, 503)]
def am_tb9_1 : List (Nat × Nat × Nat × Nat) := [(106, 1, 1671, 1986), (109, 7, 139, 2234), (113, 1, 1543, 507), (116, 1, 1669, 1983), (117, 7, 130, 2229)]
def am_tb9 : List (Nat × Nat × Nat × Nat) := am_tb9_0 ++ (am_tb9_1)
def am_tb10_0 : List (Nat × Nat × Nat × Nat) := [(3, 9, 0, 294), (9, 3, 6, 295), (11, 1, 1792, 394), (17, 8, 39, 0), (18, 1, 1793, 396), (22, 1, 1794, 397), (25, 3, 5, 328), (27, 1, 1801, 410), (31, 8, 31, 1), (32, 1, 1796, 400), (36, 1, 1795, 398), (39, 1, 1797, 402), (42, 1, 768, 305), (46, 7, 106, 1795), (51, 1, 769, 308), (54, 1, 771, 313), (58, 1, 770, 310), (61, 1, 772, 315), (64, 7, 143, 2340), (68, 7, 101, 2341), (72, 7, 142, 2353), (76, 7, 113, 2354), (80, 7, 102, 2367), (84, 7, 107, 2368), (88, 1, 1799, 405), (91, 1, 1802, 412), (94, 7, 32, 1829), (98, 1, 640, 338), (101, 1, 642, 347), (104, 1, 643, 350)]
def am_tb10_1 : List (Nat × Nat × Nat × Nat) := [(107, 7, 147, 2165), (111, 1, 649, 366), (112, 1, 1804, 416), (115, 1, 1537, 488), (118, 5, 167772161, 2164), (119, 1, 1536, 485), (120, 7, 126, 2166), (124, 1, 1547, 517), (125, 1, 1539, 493), (128, 7, 110, 2167), (132, 1, 1538, 490), (135, 1, 1541, 502), (138, 7, 111, 2168), (141, 1, 1540, 498), (144, 7, 36, 2169), (147, 7, 103, 1211), (150, 7, 124, 1216)]
def am_tb10 : List (Nat × Nat × Nat × Nat) := am_tb10_0 ++ (am_tb10_1)
def am_tb11_0 : List (Nat × Nat × Nat × Nat) := [(1, 9, 0, 270), (7, 3, 11, 273), (11, 7, 100, 275), (14, 1, 1920, 811), (18, 3, 14, 289), (20, 7, 141, 291), (21, 1, 1921, 812), (25, 3, 3, 448), (27, 7, 502, 450), (28, 1, 1922, 813), (32, 1, 1923, 814), (35, 1, 1924, 815), (38, 1, 1925, 816), (42, 1, 1926, 817), (45, 1, 1927, 818), (49, 1, 1928, 819), (52, 3, 5, 474), (54, 8, 31, 2), (55, 1, 1929, 820), (59, 3, 12, 476), (61, 8, 125, 3), (62, 1, 1930, 821), (66, 3, 8, 545), (68, 7, 59, 547), (69, 1, 1931, 822), (73, 1, 1932, 823), (76, 1, 1933, 824), (79, 3, 9, 593), (81, 7, 77, 595), (82, 1, 1934, 825)]
def am_tb11_1 : List (Nat × Nat × Nat × Nat) := [(86, 1, 1935, 826), (89, 1, 1936, 827), (92, 3, 7, 666), (94, 7, 40, 668), (97, 7, 509, 736), (101, 7, 197, 1249), (105, 7, 101, 867), (111, 13, 46, 46), (116, 7, 198, 1321), (122, 13, 47, 47), (125, 7, 109, 1325), (127, 13, 48, 48), (129, 7, 199, 1358), (133, 7, 527, 1367), (136, 7, 115, 1368), (139, 7, 106, 871), (144, 13, 55, 55), (147, 7, 124, 1393), (151, 13, 56, 56), (153, 7, 505, 903), (156, 13, 57, 57), (158, 7, 191, 1410), (162, 13, 58, 58), (164, 13, 59, 59), (166, 7, 507, 907), (170, 1, 897, 679), (174, 1, 903, 688), (177, 1, 906, 692), (180, 1, 909, 697), (183, 1, 908, 695)]
def am_tb11_2 : List (Nat × Nat × Nat × Nat) := [(186, 1, 910, 698), (189, 1, 911, 700), (192, 13, 60, 60), (194, 5, 167772161, 1431), (195, 7, 41, 1432), (199, 7, 42, 1436), (203, 6, 255, 1252), (205, 7, 193, 1447), (208, 13, 61, 61), (210, 7, 204, 1451), (213, 7, 144, 2336), (216, 7, 145, 2349), (219, 13, 67, 67), (221, 7, 146, 2363), (224, 1, 1795, 399), (227, 13, 68, 68), (229, 1, 1792, 395), (233, 1, 768, 307), (238, 1, 769, 309), (241, 1, 770, 312), (245, 1, 771, 314), (248, 13, 69, 69), (250, 13, 70, 70), (252, 7, 102, 895), (255, 13, 71, 71), (257, 1, 1800, 409), (260, 13, 72, 72), (262, 7, 205, 2395), (265, 13, 73, 73), (267, 7, 202, 2428)]
def am_tb11_3 : List (Nat × Nat × Nat × Nat) := [(271, 13, 74, 74), (273, 7, 194, 2441), (276, 7, 195, 2445), (280, 13, 75, 75), (282, 13, 76, 76), (284, 7, 32, 2457), (287, 1, 649, 369), (288, 7, 110, 1857), (291, 7, 108, 1831), (295, 7, 148, 2458), (299, 7, 203, 2315), (302, 13, 77, 77), (304, 7, 211, 2477), (307, 13, 78, 78), (309, 7, 212, 1853), (313, 13, 79, 79), (315, 1, 899, 683), (318, 7, 113, 1830), (322, 13, 80, 80), (324, 13, 81, 81), (326, 7, 111, 1858), (329, 7, 35, 1862), (332, 13, 82, 82), (334, 13, 83, 83), (336, 5, 65535, 2515), (337, 13, 84, 84), (339, 13, 85, 85), (341, 3, 4, 921), (343, 7, 0, 1916), (346, 7, 5, 2518)]
def am_tb11_4 : List (Nat × Nat × Nat × Nat) := [(349, 7, 192, 899), (352, 13, 86, 86), (354, 7, 1, 1907), (357, 7, 2, 2530), (360, 13, 87, 87), (362, 7, 25, 2535), (366, 7, 117, 2539), (369, 7, 13, 2298), (372, 13, 88, 88), (374, 13, 89, 89), (376, 7, 28, 2290), (379, 7, 29, 1225), (382, 1, 519, 2064), (386, 1, 1283, 1936), (389, 1, 1282, 1933), (392, 1, 523, 2070), (395, 13, 90, 90), (397, 7, 8, 2567), (400, 7, 7, 2286), (403, 13, 91, 91), (405, 7, 30, 2576), (408, 1, 1027, 561), (409, 13, 92, 92), (411, 1, 1025, 557), (415, 1, 1026, 559), (418, 1, 1024, 555), (421, 13, 93, 93), (423, 7, 220, 883), (426, 13, 94, 94), (428, 13, 95, 95)]
def am_tb11_5 : List (Nat × Nat × Nat × Nat) := [(430, 7, 221, 891), (433, 1, 518, 2062), (436, 1, 1667, 1979), (441, 1, 1796, 401), (444, 1, 1797, 403), (447, 1, 1799, 406), (450, 7, 201, 1903), (454, 1, 1028, 563), (457, 7, 222, 2620), (460, 1, 1803, 415), (463, 1, 1804, 417), (466, 7, 200, 2624), (469, 13, 96, 96), (471, 7, 60, 879), (474, 7, 223, 887), (477, 7, 61, 1198), (481, 1, 1805, 418), (484, 7, 150, 1207), (487, 1, 1798, 404), (490, 7, 224, 1221), (494, 5, 1103515245, 2444), (495, 13, 49, 49), (497, 13, 50, 50), (499, 13, 51, 51), (501, 13, 52, 52), (503, 13, 53, 53), (505, 13, 54, 54), (507, 7, 4, 2432), (510, 1, 1802, 413), (513, 1, 1801, 411)]
def am_tb11_6 : List (Nat × Nat × Nat × Nat) := [(517, 1, 640, 339), (520, 7, 45, 2319), (524, 7, 143, 1455), (528, 7, 105, 1459), (529, 6, 2199023255553, 1463), (531, 6, 281474976710655, 1464), (533, 7, 52, 1465), (537, 7, 51, 1778), (541, 1, 643, 352), (544, 7, 206, 1820), (547, 7, 207, 1832), (550, 7, 213, 1873), (553, 7, 44, 2399), (556, 1, 513, 2053), (559, 7, 16, 2403), (562, 1, 648, 363), (563, 7, 103, 1824), (566, 1, 641, 343), (567, 7, 147, 1825), (571, 1, 642, 348), (573, 7, 118, 1197), (577, 7, 34, 1836), (580, 7, 208, 1841), (583, 7, 210, 1869), (586, 7, 123, 1845), (589, 7, 209, 1849), (593, 5, 34051, 1859), (594, 5, 34048, 1860), (595, 5, 49164, 1861), (596, 7, 104, 1852)]
def am_tb11_7 : List (Nat × Nat × Nat × Nat) := [(599, 7, 127, 1877), (603, 7, 214, 1894), (607, 7, 215, 1898), (610, 7, 216, 1911), (614, 7, 6, 2119), (618, 7, 126, 1902), (621, 7, 149, 2160), (624, 7, 18, 2170), (628, 1, 1540, 500), (631, 7, 217, 2264), (635, 1, 525, 2073), (638, 7, 218, 2268), (642, 1, 514, 2055), (645, 1, 1539, 494), (648, 1, 515, 2057), (651, 1, 1536, 486), (652, 1, 516, 2059), (655, 1, 1538, 491), (656, 5, 40000, 2118), (657, 1, 1664, 1972), (660, 1, 512, 2051), (663, 1, 520, 2066), (666, 7, 27, 2272), (669, 7, 26, 2282), (672, 1, 527, 2075), (675, 7, 80, 927), (678, 7, 62, 1076), (682, 7, 79, 1151), (684, 7, 74, 1155), (688, 7, 219, 2294)]
def am_tb11_8 : List (Nat × Nat × Nat × Nat) := [(692, 7, 78, 922), (694, 1, 528, 2076), (697, 1, 1153, 603), (699, 1, 1668, 1982)]
def am_tb11 : List (Nat × Nat × Nat × Nat) := am_tb11_0 ++ (am_tb11_1 ++ (am_tb11_2 ++ (am_tb11_3 ++ (am_tb11_4 ++ (am_tb11_5 ++ (am_tb11_6 ++ (am_tb11_7 ++ (am_tb11_8))))))))
def am_tb12_0 : List (Nat × Nat × Nat × Nat) := [(1, 9, 0, 3764), (7, 1, 2048, 3765), (13, 1, 2049, 3767)]
def am_tb12 : List (Nat × Nat × Nat × Nat) := am_tb12_0
def am_tb13_0 : List (Nat × Nat × Nat × Nat) := [(1, 9, 0, 3445), (7, 1, 2176, 3446), (13, 1, 2177, 3448)]
def am_tb13 : List (Nat × Nat × Nat × Nat) := am_tb13_0
def am_tb14_0 : List (Nat × Nat × Nat × Nat) := [(1, 9, 0, 3166)]
def am_tb14 : List (Nat × Nat × Nat × Nat) := am_tb14_0
def am_tb15_0 : List (Nat × Nat × Nat × Nat) := [(3, 9, 0, 2641), (9, 3, 20, 2642), (11, 1, 2440, 2660), (17, 3, 23, 2644), (19, 1, 2441, 2662), (23, 3, 22, 2646), (25, 1, 2442, 2664), (29, 1, 2443, 2666), (33, 4, 103, 2648), (34, 1, 2445, 2669), (38, 1, 2446, 2671), (41, 1, 2447, 2673), (44, 1, 2433, 2652), (48, 1, 2432, 2650)]
def am_tb15 : List (Nat × Nat × Nat × Nat) := am_tb15_0
def am_tb16_0 : List (Nat × Nat × Nat × Nat) := [(1, 9, 0, 3139)]
def am_tb16 : List (Nat × Nat × Nat × Nat) := am_tb16_0
def am_tb17_0 : List (Nat × Nat × Nat × Nat) := [(3, 9, 0, 3758), (9, 3, 16, 3759), (11, 8, 225, 11), (12, 1, 2697, 3796), (18, 1, 2704, 3805), (22, 1, 2709, 3812), (25, 3, 17, 3775), (27, 1, 2712, 3818), (31, 1, 2714, 3821), (34, 1, 2728, 3837), (37, 1, 2688, 3778), (40, 1, 2689, 3780), (43, 1, 2690, 3782), (46, 1, 2691, 3784), (49, 1, 2692, 3786), (52, 1, 2726, 3834), (55, 1, 2705, 3807), (58, 5, 1048583, 3777), (59, 1, 2693, 3788), (62, 1, 2695, 3792), (65, 1, 2696, 3794), (68, 2, 2049, 5), (71, 11, 0, 3381), (77, 10, 0, 3382), (80, 1, 2710, 3814), (83, 1, 2711, 3816), (87, 7, 235, 3361), (91, 1, 2694, 3790), (94, 7, 238, 3399), (98, 1, 2700, 3800)]
def am_tb17_1 : List (Nat × Nat × Nat × Nat) := [(101, 7, 233, 3400), (104, 7, 239, 4060)]
def am_tb17 : List (Nat × Nat × Nat × Nat) := am_tb17_0 ++ (am_tb17_1)
def am_tb18_0 : List (Nat × Nat × Nat × Nat) := [(1, 9, 0, 3946), (7, 1, 2820, 3951), (13, 1, 2821, 3953), (17, 1, 2822, 3955)]
def am_tb18 : List (Nat × Nat × Nat × Nat) := am_tb18_0
def am_tb19_0 : List (Nat × Nat × Nat × Nat) := [(1, 9, 0, 3245)]
def am_tb19 : List (Nat × Nat × Nat × Nat) := am_tb19_0
def am_tb20_0 : List (Nat × Nat × Nat × Nat) := [(1, 9, 0, 2634), (7, 1, 3074, 2716), (13, 1, 3075, 2717), (17, 3, 19, 2635), (19, 7, 229, 2638), (22, 1, 3077, 2719), (26, 3, 18, 2708), (28, 1, 3078, 2720), (32, 1, 3087, 2729), (35, 1, 3088, 2730), (38, 1, 3089, 2731), (41, 1, 3090, 2732), (45, 1, 3092, 2734), (48, 1, 3093, 2735), (51, 4, 103, 2710), (52, 1, 3094, 2736), (56, 3, 21, 2711), (58, 1, 3096, 2738), (62, 1, 3107, 2749), (65, 1, 3108, 2750), (68, 1, 3109, 2751), (71, 1, 3110, 2752), (74, 1, 3111, 2753), (77, 1, 3112, 2754), (80, 1, 3113, 2755), (83, 1, 3114, 2756), (86, 1, 3115, 2757), (89, 1, 3116, 2758), (92, 1, 3117, 2759), (95, 1, 3118, 2760)]
def am_tb20_1 : List (Nat × Nat × Nat × Nat) := [(98, 1, 3119, 2761), (101, 1, 3120, 2762), (104, 1, 3121, 2763), (107, 1, 3122, 2764), (110, 1, 3123, 2765), (113, 1, 3124, 2766), (116, 1, 3125, 2767), (119, 1, 3126, 2768), (122, 1, 3127, 2769), (125, 1, 3128, 2770), (128, 1, 3129, 2771), (131, 1, 3130, 2772), (134, 1, 3131, 2773), (137, 1, 3132, 2774), (140, 1, 3133, 2775), (143, 1, 3134, 2776), (146, 1, 3135, 2777), (149, 1, 3136, 2778), (152, 1, 3137, 2779), (155, 1, 3138, 2780), (158, 1, 3140, 2782), (161, 1, 3141, 2783), (164, 1, 3142, 2784), (167, 1, 3143, 2785), (170, 1, 3144, 2786), (173, 1, 3145, 2787), (176, 1, 3146, 2788), (179, 5, 32768, 2713), (180, 1, 3151, 2793), (183, 1, 3153, 2795)]
def am_tb20_2 : List (Nat × Nat × Nat × Nat) := [(186, 1, 3154, 2796), (189, 1, 3155, 2797), (192, 1, 3156, 2798), (195, 1, 3157, 2799), (198, 1, 3158, 2800), (201, 1, 3159, 2801), (204, 1, 3160, 2802), (207, 1, 3162, 2804), (210, 1, 3163, 2805), (213, 1, 3164, 2806), (216, 1, 3165, 2807), (219, 1, 3166, 2808), (222, 1, 3167, 2809), (225, 1, 3072, 2714), (228, 1, 3076, 2718), (231, 6, 255, 3014), (233, 7, 253, 3011), (237, 7, 247, 3015), (241, 7, 254, 3019), (245, 7, 246, 3027), (249, 6, 300, 3030), (251, 7, 248, 3031), (254, 13, 97, 97), (256, 13, 98, 98), (258, 13, 99, 99), (260, 13, 100, 100), (262, 13, 101, 101), (264, 13, 102, 102), (266, 7, 257, 3039), (270, 7, 527, 3048)]
def am_tb20_3 : List (Nat × Nat × Nat × Nat) := [(276, 7, 528, 3049), (280, 6, 5, 3050), (282, 5, 65535, 3062), (283, 7, 260, 3063), (287, 7, 261, 3059), (291, 1, 2432, 2651), (294, 6, 100, 3070), (296, 6, 600, 3071), (298, 6, 40, 3072), (300, 6, 500, 3073), (302, 7, 386, 3078), (306, 1, 2433, 2653), (309, 1, 2437, 2657), (312, 1, 2438, 2658), (315, 1, 2434, 2654), (318, 1, 2439, 2659), (321, 1, 2435, 2655), (324, 1, 2436, 2656), (327, 5, 167772160, 3093), (328, 5, 16777215, 3204), (329, 6, 2199023255552, 3117), (331, 1, 2440, 2661), (335, 1, 2560, 3140), (336, 3, 20, 3134), (340, 7, 268, 3090), (344, 7, 271, 3094), (348, 1, 2561, 3141), (352, 1, 3082, 2724), (355, 1, 3079, 2721), (358, 1, 3080, 2722)]
def am_tb20_4 : List (Nat × Nat × Nat × Nat) := [(361, 8, 228, 9), (362, 1, 2304, 3167), (365, 7, 273, 3180), (368, 7, 270, 3114), (372, 1, 2305, 3168), (375, 1, 2307, 3170), (379, 7, 275, 3183), (383, 7, 277, 3106), (387, 1, 3083, 2725), (390, 7, 274, 3110), (394, 6, 281474976710655, 3113), (396, 7, 286, 3118), (400, 6, 1000, 3101), (402, 7, 278, 3102), (405, 7, 285, 3122), (409, 1, 2306, 3169), (412, 1, 3081, 2723), (415, 6, 3, 3992), (417, 7, 288, 3125), (421, 7, 295, 3191), (424, 6, 4429186564, 3129), (426, 6, 4294967295, 3190), (428, 7, 289, 3130), (432, 7, 290, 3150), (436, 7, 287, 3187), (440, 7, 276, 3158), (444, 8, 230, 8), (445, 1, 3073, 2715), (448, 1, 2562, 3142), (451, 1, 2441, 2663)]
def am_tb20_5 : List (Nat × Nat × Nat × Nat) := [(455, 1, 2944, 3246), (456, 3, 23, 3240), (460, 1, 2945, 3247), (463, 7, 291, 3154), (467, 7, 292, 3233), (471, 7, 294, 3237), (475, 8, 243, 10), (476, 1, 2443, 2667), (479, 1, 2445, 2670), (482, 1, 2446, 2672), (485, 1, 2447, 2674), (488, 6, 20, 3195), (490, 7, 303, 3196), (493, 7, 298, 3931), (496, 1, 2442, 2665), (500, 1, 2816, 3947), (501, 3, 22, 3941), (503, 1, 2817, 3948), (506, 1, 2818, 3949), (509, 7, 296, 3935), (513, 7, 297, 3938), (517, 8, 241, 12), (518, 1, 2819, 3950), (519, 1, 2821, 3954), (522, 1, 2822, 3956), (525, 1, 2820, 3952), (528, 7, 242, 3972), (532, 7, 300, 3209), (535, 7, 262, 3213), (539, 7, 299, 3221)]
def am_tb20_6 : List (Nat × Nat × Nat × Nat) := [(543, 5, 65536, 3224), (544, 7, 269, 3200), (547, 1, 3084, 2726), (550, 7, 301, 3205), (554, 7, 302, 3217), (558, 7, 309, 3225), (562, 7, 323, 3254), (565, 7, 355, 3297), (569, 7, 305, 4214), (572, 6, 900, 4001), (574, 1, 3085, 2727), (577, 7, 249, 4002), (580, 7, 306, 4006), (584, 7, 293, 3229), (588, 6, 7, 3253), (590, 1, 3086, 2728), (593, 7, 310, 4021), (596, 1, 2444, 2668), (599, 7, 311, 4017), (603, 7, 312, 3269), (607, 7, 313, 4024), (610, 6, 65537, 3268), (612, 6, 65535, 3291), (614, 7, 317, 3262), (618, 7, 315, 3275), (622, 7, 316, 3278), (626, 7, 318, 3287), (629, 1, 3091, 2733), (632, 7, 319, 4031), (636, 7, 325, 3258)]
def am_tb20_7 : List (Nat × Nat × Nat × Nat) := [(639, 6, 5000, 3292), (641, 7, 327, 3293), (644, 7, 324, 3265), (647, 5, 34051, 3273), (648, 5, 34048, 3274), (649, 7, 326, 3281), (653, 6, 211157772206081, 3284), (655, 6, 60, 3285), (657, 6, 4, 3286), (659, 7, 351, 4052), (662, 6, 20000, 4047), (664, 7, 328, 4048), (667, 7, 350, 4073), (670, 1, 3095, 2737), (673, 5, 1103515245, 4086), (674, 6, 200, 4081), (676, 7, 331, 4082), (679, 7, 279, 4087), (682, 7, 280, 4088), (685, 7, 281, 4089), (688, 7, 282, 4090), (692, 1, 3097, 2739), (695, 7, 336, 3334), (699, 7, 338, 3304), (703, 7, 337, 3337), (706, 2, 2048, 4), (709, 2, 2689, 8), (711, 2, 2690, 9), (714, 2, 2691, 10), (717, 2, 2692, 11)]
def am_tb20_8 : List (Nat × Nat × Nat × Nat) := [(720, 2, 2708, 27), (723, 7, 237, 3357), (726, 7, 264, 3365), (729, 2, 2697, 16), (733, 7, 340, 3330), (737, 2, 2696, 15), (740, 7, 341, 3353), (744, 1, 3099, 2741), (747, 2, 2715, 34), (750, 7, 233, 3377), (753, 2, 2695, 14), (756, 7, 344, 3391), (760, 2, 2049, 6), (763, 2, 2719, 38), (766, 2, 2720, 39), (769, 2, 2721, 40), (772, 7, 238, 3373), (775, 2, 2700, 19), (778, 2, 2703, 22), (781, 10, 0, 3340), (787, 7, 232, 3383), (790, 2, 2705, 24), (791, 7, 345, 3387), (795, 2, 2698, 17), (798, 2, 2699, 18), (801, 7, 239, 3395), (804, 2, 2716, 35), (807, 2, 2694, 13), (810, 2, 2693, 12), (813, 7, 234, 3420)]
def am_tb20_9 : List (Nat × Nat × Nat × Nat) := [(816, 1, 3098, 2740), (819, 11, 0, 3411), (822, 2, 2704, 23), (825, 2, 2717, 36), (828, 2, 2725, 44), (831, 2, 2714, 33), (834, 7, 348, 3424), (838, 7, 347, 3416), (841, 7, 240, 4056), (844, 2, 2727, 46), (847, 7, 349, 4061), (850, 2, 2726, 45), (853, 7, 379, 4065), (856, 1, 3105, 2747), (859, 1, 3100, 2742), (862, 1, 3101, 2743), (865, 1, 3102, 2744), (868, 7, 339, 3301), (871, 1, 3103, 2745), (874, 1, 3104, 2746), (877, 1, 3106, 2748), (880, 7, 352, 3307), (884, 7, 354, 3311), (886, 7, 353, 3315), (889, 7, 359, 3318), (892, 7, 357, 3746), (896, 7, 356, 3750), (899, 7, 231, 3755), (902, 2, 2706, 25), (905, 2, 2707, 26)]
def am_tb20_10 : List (Nat × Nat × Nat × Nat) := [(908, 2, 2701, 20), (911, 2, 2702, 21), (914, 7, 358, 3922), (918, 2, 2728, 47), (919, 5, 40000, 3926), (920, 7, 335, 3927), (923, 7, 361, 3322), (926, 7, 342, 3349), (929, 7, 343, 3326), (932, 7, 360, 3345), (935, 7, 334, 3401), (939, 7, 363, 3404), (943, 7, 366, 3428), (946, 7, 367, 3432), (949, 2, 2688, 7), (951, 7, 452, 3466), (954, 7, 346, 3369), (957, 7, 362, 3341), (960, 7, 364, 3408), (963, 2, 2718, 37), (966, 7, 365, 3412), (969, 2, 2722, 41), (972, 2, 2723, 42), (975, 2, 2724, 43), (978, 7, 368, 3436), (980, 2, 2709, 28), (983, 7, 226, 3455), (986, 7, 369, 3459), (989, 7, 370, 3462), (992, 2, 2713, 32)]
def am_tb20_11 : List (Nat × Nat × Nat × Nat) := [(995, 2, 2712, 31), (999, 3, 17, 3440), (1001, 7, 227, 3442), (1003, 2, 2176, 2), (1006, 2, 2177, 3), (1007, 2, 2711, 30), (1010, 7, 235, 3498), (1012, 2, 2710, 29), (1015, 7, 372, 3503), (1018, 7, 236, 3742), (1021, 7, 388, 4099), (1024, 7, 250, 4103), (1027, 7, 375, 3482), (1030, 7, 251, 4107), (1033, 7, 252, 4111), (1036, 7, 378, 3490), (1039, 6, 18, 4131), (1041, 6, 65, 3522), (1043, 6, 90, 3523), (1045, 6, 97, 3529), (1047, 6, 122, 3530), (1049, 7, 399, 3519), (1052, 7, 396, 3555), (1055, 7, 397, 3562), (1058, 7, 406, 3511), (1061, 7, 411, 3607), (1064, 7, 421, 3611), (1067, 7, 422, 3615), (1070, 7, 425, 3619), (1073, 7, 407, 3515)]
def am_tb20_12 : List (Nat × Nat × Nat × Nat) := [(1076, 7, 416, 3532), (1079, 7, 408, 3574), (1082, 7, 409, 3586), (1085, 7, 410, 3594), (1088, 7, 412, 3599), (1091, 7, 413, 3603), (1094, 6, 33, 3524), (1096, 6, 126, 3525), (1098, 7, 400, 3526), (1101, 6, 32, 3531), (1103, 7, 403, 3578), (1106, 7, 402, 3582), (1110, 7, 404, 3590), (1114, 6, 48, 3548), (1116, 6, 49, 3598), (1118, 7, 401, 3559), (1121, 7, 414, 3544), (1124, 7, 418, 3536), (1127, 7, 415, 3551), (1130, 7, 419, 3566), (1133, 7, 420, 3570), (1136, 1, 3139, 2781), (1139, 6, 57, 3549), (1141, 6, 6, 3550), (1143, 7, 417, 3540), (1145, 6, 102, 3634), (1147, 7, 426, 3623), (1150, 7, 424, 3627), (1153, 7, 423, 3631), (1156, 7, 427, 3658)]
def am_tb20_13 : List (Nat × Nat × Nat × Nat) := [(1159, 7, 429, 3666), (1162, 7, 431, 3686), (1165, 7, 435, 3678), (1168, 7, 428, 3654), (1171, 7, 430, 3662), (1174, 1, 3149, 2791), (1177, 7, 438, 3670), (1180, 7, 436, 3674), (1183, 7, 439, 3694), (1186, 7, 433, 3698), (1189, 7, 434, 3690), (1192, 7, 432, 3682), (1195, 1, 3150, 2792), (1198, 1, 3147, 2789), (1201, 1, 3148, 2790), (1204, 1, 3152, 2794), (1207, 7, 440, 3639), (1210, 7, 441, 3718), (1213, 7, 445, 3706), (1216, 7, 446, 3710), (1219, 7, 442, 3714), (1222, 7, 443, 3722), (1225, 7, 444, 3726), (1228, 7, 448, 3730), (1231, 7, 449, 3734), (1234, 7, 437, 3650), (1237, 7, 451, 3642), (1241, 7, 447, 3702), (1244, 7, 398, 3470), (1247, 7, 377, 3474)]
def am_tb20_14 : List (Nat × Nat × Nat × Nat) := [(1250, 7, 453, 3478), (1253, 7, 371, 3494), (1256, 7, 373, 3499), (1258, 7, 405, 3507), (1261, 7, 454, 3635), (1264, 7, 374, 3738), (1267, 7, 376, 3486), (1270, 1, 3161, 2803), (1273, 7, 450, 3646), (1276, 6, 2, 4136), (1278, 6, 15, 4153), (1280, 7, 394, 4154), (1283, 7, 459, 4158), (1286, 7, 333, 4162), (1289, 7, 385, 4174), (1292, 7, 381, 4178), (1295, 7, 382, 4182), (1298, 7, 462, 4186), (1301, 7, 383, 4190), (1304, 7, 384, 4194), (1307, 7, 461, 4170), (1310, 7, 380, 4198), (1313, 7, 463, 4202), (1316, 7, 304, 4210), (1319, 7, 395, 4218)]
def am_tb20 : List (Nat × Nat × Nat × Nat) := am_tb20_0 ++ (am_tb20_1 ++ (am_tb20_2 ++ (am_tb20_3 ++ (am_tb20_4 ++ (am_tb20_5 ++ (am_tb20_6 ++ (am_tb20_7 ++ (am_tb20_8 ++ (am_tb20_9 ++ (am_tb20_10 ++ (am_tb20_11 ++ (am_tb20_12 ++ (am_tb20_13 ++ (am_tb20_14))))))))))))))
def am_tb21_0 : List (Nat × Nat × Nat × Nat) := [(7, 7, 152, 1245), (8, 3, 15, 265), (15, 7, 153, 1330), (21, 7, 154, 1353), (25, 7, 156, 1373), (30, 7, 157, 1397), (33, 7, 158, 1406), (36, 7, 159, 1419), (39, 7, 160, 1427), (42, 7, 161, 1443), (45, 7, 162, 2332), (48, 7, 163, 2345), (51, 7, 164, 2358), (55, 7, 165, 2372), (58, 7, 166, 2381), (61, 7, 167, 2389), (64, 7, 168, 2423), (67, 7, 169, 2436), (70, 7, 170, 2451), (73, 7, 171, 2465), (77, 7, 172, 2473), (80, 7, 173, 2486), (83, 7, 174, 2495), (87, 7, 175, 2504), (90, 7, 176, 2511), (93, 7, 177, 2525), (96, 7, 178, 2546), (99, 7, 179, 2555), (102, 7, 180, 2562), (106, 7, 181, 2571)]
def am_tb21_1 : List (Nat × Nat × Nat × Nat) := [(109, 7, 182, 2584), (112, 7, 183, 2593), (116, 7, 184, 2600), (119, 7, 185, 2609), (122, 7, 186, 2616), (125, 7, 151, 267), (126, 3, 24, 2629), (128, 7, 244, 2631), (129, 6, 4294967295, 4230), (131, 7, 468, 1241), (136, 7, 255, 3007), (137, 7, 245, 3003), (141, 7, 469, 1326), (144, 7, 256, 3023), (145, 7, 470, 1350), (148, 7, 258, 3035), (149, 7, 155, 863), (152, 7, 259, 3051), (153, 7, 471, 1369), (155, 7, 263, 3055), (156, 7, 472, 1394), (158, 7, 265, 3066), (159, 7, 473, 1403), (161, 7, 266, 3074), (162, 7, 474, 1416), (164, 7, 267, 3082), (165, 7, 475, 1424), (167, 7, 272, 3086), (168, 7, 476, 1440), (170, 7, 279, 3097)]
def am_tb21_2 : List (Nat × Nat × Nat × Nat) := [(171, 7, 477, 2329), (173, 7, 280, 3976), (174, 7, 478, 2342), (176, 7, 281, 3980), (177, 7, 479, 2355), (180, 7, 282, 3984), (181, 7, 480, 2369), (183, 7, 283, 3988), (184, 7, 481, 2378), (186, 7, 284, 3993), (187, 7, 482, 2386), (189, 7, 329, 4043), (190, 7, 483, 2420), (192, 7, 330, 4069), (193, 7, 484, 2433), (195, 7, 332, 4077), (196, 7, 485, 2448), (198, 7, 307, 3997), (199, 7, 486, 2462), (201, 7, 308, 4009), (202, 7, 487, 2470), (204, 7, 314, 4013), (205, 7, 488, 2483), (207, 7, 320, 4027), (208, 7, 489, 2492), (211, 7, 321, 4035), (212, 7, 490, 2501), (214, 7, 322, 4039), (215, 7, 491, 2508), (217, 7, 387, 4091)]
def am_tb21_3 : List (Nat × Nat × Nat × Nat) := [(218, 7, 492, 2522), (220, 7, 389, 4095), (221, 7, 493, 2543), (223, 7, 390, 4115), (224, 7, 494, 2552), (226, 7, 391, 4119), (227, 7, 495, 2559), (230, 7, 392, 4123), (231, 7, 496, 2568), (233, 7, 393, 4127), (234, 7, 497, 2581), (236, 7, 455, 4132), (237, 7, 498, 2590), (240, 7, 456, 4137), (241, 7, 499, 2597), (243, 7, 457, 4141), (244, 7, 500, 2606), (246, 7, 458, 4145), (247, 7, 501, 2613), (249, 7, 460, 4149), (250, 7, 187, 875), (254, 7, 464, 4166), (255, 7, 188, 1203), (258, 7, 465, 4206), (259, 7, 189, 1233), (263, 7, 466, 4222), (264, 7, 190, 1237), (268, 7, 467, 4226)]
def am_tb21 : List (Nat × Nat × Nat × Nat) := am_tb21_0 ++ (am_tb21_1 ++ (am_tb21_2 ++ (am_tb21_3)))
def am_tb22_0 : List (Nat × Nat × Nat × Nat) := [(1, 7, 510, 453), (7, 4, 104, 810), (9, 1, 385, 462), (39, 15, 1, 460), (48, 1, 386, 463), (63, 14, 384, 465), (66, 7, 518, 762), (69, 7, 503, 748), (79, 11, 0, 809), (118, 7, 512, 911), (123, 7, 506, 917), (129, 7, 504, 744), (131, 7, 508, 740)]
def am_tb22 : List (Nat × Nat × Nat × Nat) := am_tb22_0
def am_tb23_0 : List (Nat × Nat × Nat × Nat) := [(1, 7, 511, 456), (7, 1, 384, 464)]
def am_tb23 : List (Nat × Nat × Nat × Nat) := am_tb23_0
def am_tb24_0 : List (Nat × Nat × Nat × Nat) := [(1, 9, 0, 459)]
def am_tb24 : List (Nat × Nat × Nat × Nat) := am_tb24_0
def am_tb25_0 : List (Nat × Nat × Nat × Nat) := [(105, 7, 513, 914)]
def am_tb25 : List (Nat × Nat × Nat × Nat) := am_tb25_0
def am_tb26_0 : List (Nat × Nat × Nat × Nat) := []
def am_tb26 : List (Nat × Nat × Nat × Nat) := am_tb26_0
def am_tb27_0 : List (Nat × Nat × Nat × Nat) := []
def am_tb27 : List (Nat × Nat × Nat × Nat) := am_tb27_0
def am_tb28_0 : List (Nat × Nat × Nat × Nat) := [(1, 9, 0, 1699), (9, 16, 0, 1735), (15, 16, 1, 1736), (38, 15, 0, 987), (212, 12, 0, 1658), (335, 7, 531, 983), (492, 7, 532, 993), (495, 7, 536, 997), (1053, 15, 2, 1003), (1059, 7, 513, 1005)]
def am_tb28 : List (Nat × Nat × Nat × Nat) := am_tb28_0
def am_tb29_0 : List (Nat × Nat × Nat × Nat) := [(9, 7, 533, 1000)]
def am_tb29 : List (Nat × Nat × Nat × Nat) := am_tb29_0
def am_tb30_0 : List (Nat × Nat × Nat × Nat) := []
def am_tb30 : List (Nat × Nat × Nat × Nat) := am_tb30_0
def am_tb : Nat → List (Nat × Nat × Nat × Nat) := fun k => match k with
  | 0 => am_tb0
  | 1 => am_tb1
  | 2 => am_tb2
  | 3 => am_tb3
  | 4 => am_tb4
  | 5 => am_tb5
  | 6 => am_tb6
  | 7 => am_tb7
  | 8 => am_tb8
  | 9 => am_tb9
  | 10 => am_tb10
  | 11 => am_tb11
  | 12 => am_tb12
  | 13 => am_tb13
  | 14 => am_tb14
  | 15 => am_tb15
  | 16 => am_tb16
  | 17 => am_tb17
  | 18 => am_tb18
  | 19 => am_tb19
  | 20 => am_tb20
  | 21 => am_tb21
  | 22 => am_tb22
  | 23 => am_tb23
  | 24 => am_tb24
  | 25 => am_tb25
  | 26 => am_tb26
  | 27 => am_tb27
  | 28 => am_tb28
  | 29 => am_tb29
  | 30 => am_tb30
  | _ => []
/-- statics of the JDK, fields of a String -/
def am_gs (k : Nat) : String × String × String := if k = 0 then ("java/lang/String", "COMPACT_STRINGS", "Z") else if k = 1 then ("java/util/ArrayList", "DEFAULTCAPACITY_EMPTY_ELEMENTDATA", "[Ljava/lang/Object;") else ("jdk/internal/util/Preconditions", "SIOOBE_FORMATTER", "Ljava/util/function/BiFunction;")
def am_sf (k : Nat) : String × String := if k = 0 then ("value", "[B") else ("coder", "B")
theorem am_same : Jvm.Cond.sameField "java/util/ArrayList" "java/util/AbstractList" "modCount" "I" ∈ am_T := am_inT (List.mem_of_getElem? (i := 466) (by decide +kernel)) rfl
def am_fty : Nat → Nat → FieldType := fun k => match k with
  | 0 => tyJ0
  | 1 => tyJ4
  | 2 => tyJx00060
  | 3 => tyJx4a65c
  | 4 => tyX0
  | 5 => tyX1
  | 6 => tyX2
  | 7 => tyX3
  | 8 => tyX4
  | 9 => tyX5
  | 10 => tyX6
  | 11 => tyX7
  | 12 => tyX8
  | 13 => tyX9
  | 14 => tyX10
  | 15 => tyX11
  | 16 => tyX12
  | 17 => tyX13
  | 18 => tyX14
  | 19 => tyX15
  | 20 => tyX16
  | 21 => tyX17
  | 22 => tyX18
  | 23 => tyX19
  | _ => tyX20
def am_df : Nat → List Value := fun k => match k with
  | 0 => [.null, .int 0, .int 0, .int 0]
  | 1 => [.null, .int 0, .int 0, .int 0]
  | 2 => [.null, .null, .null, .null, .null, .int 0]
  | 3 => [.int 0, .null, .int 0]
  | 4 => [.int 0, .int 0, .int 0, .int 0, .int 0, .null, .null, .null, .null, .int 0, .int 0, .int 0, .int 0, .int 0, .int 0, .int 0, .int 0, .int 0, .int 0]
  | 5 => [.int 0, .int 0, .int 0, .int 0, .int 0, .int 0, .int 0, .int 0, .int 0, .null, .null]
  | 6 => [.null, .int 0, .int 0, .int 0, .int 0]
  | 7 => [.int 0, .int 0, .int 0, .null, .null, .null, .null, .int 0, .null, .null, .int 0, .null, .int 0, .int 0, .int 0, .int 0]
  | 8 => [.null, .null, .null, .int 0, .int 0, .null, .null, .int 0, .null, .int 0, .int 0]
  | 9 => [.int 0, .int 0, .null, .int 0, .int 0, .int 0, .null, .int 0, .int 0, .int 0, .int 0, .int 0, .int 0, .null, .null, .null, .null, .int 0, .int 0]
  | 10 => [.int 0, .int 0, .null, .int 0, .int 0, .null, .null, .int 0]
  | 11 => [.null, .int 0]
  | 12 => [.int 0, .int 0, .int 0, .int 0, .int 0, .int 0, .int 0, .int 0, .int 0, .null, .int 0, .int 0]
  | 13 => [.int 0, .int 0, .int 0, .null, .int 0, .int 0, .int 0, .int 0, .int 0, .int 0, .int 0, .int 0, .int 0, .int 0, .int 0, .int 0, .int 0, .int 0, .int 0, .int 0]
  | 14 => [.null, .null, .null, .int 0, .int 0, .int 0, .int 0, .int 0, .int 0, .null, .int 0, .int 0, .int 0, .int 0]
  | 15 => [.null, .null, .null, .null, .null, .null, .null, .null, .null, .null, .null, .null, .null, .null, .null, .null, .null]
  | 16 => [.null, .int 0]
  | 17 => [.int 0, .null]
  | 18 => [.null, .int 0, .int 0, .int 0]
  | 19 => [.int 0, .int 0, .int 0, .int 0, .int 0, .int 0, .int 0, .int 0, .null, .null, .null, .null, .null, .null, .null, .null]
  | 20 => [.int 0, .long 0, .int 0]
  | 21 => [.int 0, .int 0, .int 0, .int 0, .int 0, .int 0, .int 0, .int 0, .int 0, .null, .int 0, .int 0, .int 0, .int 0, .int 0, .int 0, .int 0, .int 0, .int 0, .int 0, .int 0, .null, .int 0, .int 0, .null, .int 0, .int 0, .int 0, .int 0, .int 0, .int 0, .int 0, .int 0, .int 0, .int 0, .int 0, .int 0, .int 0, .int 0, .int 0, .int 0]
  | 22 => [.int 0, .int 0, .int 0, .int 0, .int 0, .null, .null]
  | 23 => [.int 0, .null]
  | _ => [.int 0, .int 0, .int 0, .null, .int 0, .null, .null, .int 0, .int 0, .int 0, .long 0, .long 0, .int 0, .int 0, .int 0, .null, .null, .null, .null, .int 0, .null, .null, .null, .int 0, .null, .int 0, .int 0, .int 0, .null, .int 0, .int 0, .int 0, .int 0, .int 0, .int 0, .null, .null, .null, .null, .null, .null, .null, .null, .null, .null, .null, .null, .null, .null, .null, .null, .null, .null, .null, .null, .null, .null, .null, .null, .null, .null, .null, .null, .null, .null, .null, .null, .int 0, .null, .null, .null, .null, .null, .null, .null, .int 0, .int 0, .int 0, .int 0, .null, .int 0, .null, .null, .null, .null, .null, .null, .null, .null, .int 0, .null, .null, .null, .null, .null, .null]
theorem am_cls3 : am_cls 3 RJx4a65c TJx4a65c 3 (am_fty 3) := ⟨by decide, rfl, am_pl [471, 467, 469] (by decide +kernel) (by decide +kernel), tyJx4a65c_ok, nmJx4a65c⟩
theorem am_cls4 : am_cls 4 RX0 TX0 19 (am_fty 4) := ⟨by decide, rfl, am_pl [2079, 2081, 2083, 2085, 2087, 2089, 2091, 2093, 2095, 2097, 2099, 2101, 2103, 2105, 2107, 2109, 2111, 2113, 2115] (by decide +kernel) (by decide +kernel), tyX0_ok, nmX0⟩
theorem am_cls5 : am_cls 5 RX1 TX1 11 (am_fty 5) := ⟨by decide, rfl, am_pl [371, 373, 375, 377, 379, 381, 383, 385, 387, 389, 391] (by decide +kernel) (by decide +kernel), tyX1_ok, nmX1⟩
theorem am_cls6 : am_cls 6 RX2 TX2 5 (am_fty 6) := ⟨by decide, rfl, am_pl [317, 319, 321, 323, 325] (by decide +kernel) (by decide +kernel), tyX2_ok, nmX2⟩
theorem am_cls7 : am_cls 7 RX3 TX3 16 (am_fty 7) := ⟨by decide, rfl, am_pl [702, 704, 706, 708, 710, 712, 714, 716, 718, 720, 722, 724, 726, 728, 730, 732] (by decide +kernel) (by decide +kernel), tyX3_ok, nmX3⟩
theorem am_cls8 : am_cls 8 RX4 TX4 11 (am_fty 8) := ⟨by decide, rfl, am_pl [570, 572, 574, 576, 578, 580, 582, 584, 586, 588, 590] (by decide +kernel) (by decide +kernel), tyX4_ok, nmX4⟩
theorem am_cls9 : am_cls 9 RX5 TX5 19 (am_fty 9) := ⟨by decide, rfl, am_pl [627, 629, 631, 633, 635, 637, 639, 641, 643, 645, 647, 649, 651, 653, 655, 657, 659, 661, 663] (by decide +kernel) (by decide +kernel), tyX5_ok, nmX5⟩
theorem am_cls10 : am_cls 10 RX6 TX6 8 (am_fty 10) := ⟨by decide, rfl, am_pl [1942, 1944, 1946, 1948, 1950, 1952, 1954, 1956] (by decide +kernel) (by decide +kernel), tyX6_ok, nmX6⟩
theorem am_cls11 : am_cls 11 RX7 TX7 2 (am_fty 11) := ⟨by decide, rfl, am_pl [283, 285] (by decide +kernel) (by decide +kernel), tyX7_ok, nmX7⟩
theorem am_cls12 : am_cls 12 RX8 TX8 12 (am_fty 12) := ⟨by decide, rfl, am_pl [519, 521, 523, 525, 527, 529, 531, 533, 535, 537, 539, 541] (by decide +kernel) (by decide +kernel), tyX8_ok, nmX8⟩
theorem am_cls13 : am_cls 13 RX9 TX9 20 (am_fty 13) := ⟨by decide, rfl, am_pl [2007, 2009, 2011, 2013, 2015, 2017, 2019, 2021, 2023, 2025, 2027, 2029, 2031, 2033, 2035, 2037, 2039, 2041, 2043, 2045] (by decide +kernel) (by decide +kernel), tyX9_ok, nmX9⟩
theorem am_cls14 : am_cls 14 RX10 TX10 14 (am_fty 14) := ⟨by decide, rfl, am_pl [419, 421, 423, 425, 427, 429, 431, 433, 435, 437, 439, 441, 443, 445] (by decide +kernel) (by decide +kernel), tyX10_ok, nmX10⟩
theorem am_cls15 : am_cls 15 RX11 TX11 17 (am_fty 15) := ⟨by decide, rfl, am_pl [828, 830, 832, 834, 836, 838, 840, 842, 844, 846, 848, 850, 852, 854, 856, 858, 860] (by decide +kernel) (by decide +kernel), tyX11_ok, nmX11⟩
theorem am_cls16 : am_cls 16 RX12 TX12 2 (am_fty 16) := ⟨by decide, rfl, am_pl [3770, 3772] (by decide +kernel) (by decide +kernel), tyX12_ok, nmX12⟩
theorem am_cls17 : am_cls 17 RX13 TX13 2 (am_fty 17) := ⟨by decide, rfl, am_pl [3450, 3452] (by decide +kernel) (by decide +kernel), tyX13_ok, nmX13⟩
theorem am_cls18 : am_cls 18 RX14 TX14 4 (am_fty 18) := ⟨by decide, rfl, am_pl [3171, 3173, 3175, 3177] (by decide +kernel) (by decide +kernel), tyX14_ok, nmX14⟩
theorem am_cls19 : am_cls 19 RX15 TX15 16 (am_fty 19) := ⟨by decide, rfl, am_pl [2675, 2677, 2679, 2681, 2683, 2685, 2687, 2689, 2691, 2693, 2695, 2697, 2699, 2701, 2703, 2705] (by decide +kernel) (by decide +kernel), tyX15_ok, nmX15⟩
theorem am_cls20 : am_cls 20 RX16 TX16 3 (am_fty 20) := ⟨by decide, rfl, am_pl [3143, 3145, 3147] (by decide +kernel) (by decide +kernel), tyX16_ok, nmX16⟩
theorem am_cls21 : am_cls 21 RX17 TX17 41 (am_fty 21) := ⟨by decide, rfl, am_pl [3839, 3841, 3843, 3845, 3847, 3849, 3851, 3853, 3855, 3857, 3859, 3861, 3863, 3865, 3867, 3869, 3871, 3873, 3875, 3877, 3879, 3881, 3883, 3885, 3887, 3889, 3891, 3893, 3895, 3897, 3899, 3901, 3903, 3905, 3907, 3909, 3911, 3913, 3915, 3917, 3919] (by decide +kernel) (by decide +kernel), tyX17_ok, nmX17⟩
theorem am_cls22 : am_cls 22 RX18 TX18 7 (am_fty 22) := ⟨by decide, rfl, am_pl [3957, 3959, 3961, 3963, 3965, 3967, 3969] (by decide +kernel) (by decide +kernel), tyX18_ok, nmX18⟩
theorem am_cls23 : am_cls 23 RX19 TX19 2 (am_fty 23) := ⟨by decide, rfl, am_pl [3248, 3250] (by decide +kernel) (by decide +kernel), tyX19_ok, nmX19⟩
theorem am_cls24 : am_cls 24 RX20 TX20 96 (am_fty 24) := ⟨by decide, rfl, am_pl [2810, 2812, 2814, 2816, 2818, 2820, 2822, 2824, 2826, 2828, 2830, 2832, 2834, 2836, 2838, 2840, 2842, 2844, 2846, 2848, 2850, 2852, 2854, 2856, 2858, 2860, 2862, 2864, 2866, 2868, 2870, 2872, 2874, 2876, 2878, 2880, 2882, 2884, 2886, 2888, 2890, 2892, 2894, 2896, 2898, 2900, 2902, 2904, 2906, 2908, 2910, 2912, 2914, 2916, 2918, 2920, 2922, 2924, 2926, 2928, 2930, 2932, 2934, 2936, 2938, 2940, 2942, 2944, 2946, 2948, 2950, 2952, 2954, 2956, 2958, 2960, 2962, 2964, 2966, 2968, 2970, 2972, 2974, 2976, 2978, 2980, 2982, 2984, 2986, 2988, 2990, 2992, 2994, 2996, 2998, 3000] (by decide +kernel) (by decide +kernel), tyX20_ok, nmX20⟩
theorem am_cls_of {ci : Nat} {C0 : String} {T : u_T} {N : Nat} (h : vwCl[ci]? = some (C0, T, N)) (h3 : 3 ≤ ci) : am_cls ci C0 T N (am_fty ci) := by
  match ci, h, h3 with
  | 3, h, _ => cases h; exact am_cls3
  | 4, h, _ => cases h; exact am_cls4
  | 5, h, _ => cases h; exact am_cls5
  | 6, h, _ => cases h; exact am_cls6
  | 7, h, _ => cases h; exact am_cls7
  | 8, h, _ => cases h; exact am_cls8
  | 9, h, _ => cases h; exact am_cls9
  | 10, h, _ => cases h; exact am_cls10
  | 11, h, _ => cases h; exact am_cls11
  | 12, h, _ => cases h; exact am_cls12
  | 13, h, _ => cases h; exact am_cls13
  | 14, h, _ => cases h; exact am_cls14
  | 15, h, _ => cases h; exact am_cls15
  | 16, h, _ => cases h; exact am_cls16
  | 17, h, _ => cases h; exact am_cls17
  | 18, h, _ => cases h; exact am_cls18
  | 19, h, _ => cases h; exact am_cls19
  | 20, h, _ => cases h; exact am_cls20
  | 21, h, _ => cases h; exact am_cls21
  | 22, h, _ => cases h; exact am_cls22
  | 23, h, _ => cases h; exact am_cls23
  | 24, h, _ => cases h; exact am_cls24
  | k + 25, h, _ => simp [vwCl] at h
theorem am_df_ok {ci : Nat} {C0 : String} {T : u_T} {N : Nat} (h : vwCl[ci]? = some (C0, T, N)) (h3 : 3 ≤ ci) : (am_df ci).length = N ∧ ∀ j, j < N → (am_df ci)[j]? = some (defaultValue (am_fty ci j)) := by
  match ci, h, h3 with
  | 3, h, _ => cases h; exact ⟨rfl, by decide +kernel⟩
  | 4, h, _ => cases h; exact ⟨rfl, by decide +kernel⟩
  | 5, h, _ => cases h; exact ⟨rfl, by decide +kernel⟩
  | 6, h, _ => cases h; exact ⟨rfl, by decide +kernel⟩
  | 7, h, _ => cases h; exact ⟨rfl, by decide +kernel⟩
  | 8, h, _ => cases h; exact ⟨rfl, by decide +kernel⟩
  | 9, h, _ => cases h; exact ⟨rfl, by decide +kernel⟩
  | 10, h, _ => cases h; exact ⟨rfl, by decide +kernel⟩
  | 11, h, _ => cases h; exact ⟨rfl, by decide +kernel⟩
  | 12, h, _ => cases h; exact ⟨rfl, by decide +kernel⟩
  | 13, h, _ => cases h; exact ⟨rfl, by decide +kernel⟩
  | 14, h, _ => cases h; exact ⟨rfl, by decide +kernel⟩
  | 15, h, _ => cases h; exact ⟨rfl, by decide +kernel⟩
  | 16, h, _ => cases h; exact ⟨rfl, by decide +kernel⟩
  | 17, h, _ => cases h; exact ⟨rfl, by decide +kernel⟩
  | 18, h, _ => cases h; exact ⟨rfl, by decide +kernel⟩
  | 19, h, _ => cases h; exact ⟨rfl, by decide +kernel⟩
  | 20, h, _ => cases h; exact ⟨rfl, by decide +kernel⟩
  | 21, h, _ => cases h; exact ⟨rfl, by decide +kernel⟩
  | 22, h, _ => cases h; exact ⟨rfl, by decide +kernel⟩
  | 23, h, _ => cases h; exact ⟨rfl, by decide +kernel⟩
  | 24, h, _ => cases h; exact ⟨rfl, by decide +kernel⟩
  | k + 25, h, _ => simp [vwCl] at h
theorem am_ini {ci : Nat} {C0 : String} {T : u_T} {N : Nat} (h : vwCl[ci]? = some (C0, T, N)) (h3 : 3 ≤ ci) : Jvm.Cond.instantiable C0 N ∈ am_T ∧ Jvm.Cond.initialized C0 ∈ am_T := by
  match ci, h, h3 with
  | 3, h, _ => cases h; exact ⟨am_inT (List.mem_of_getElem? (i := 449) (by decide +kernel)) rfl, am_inT (List.mem_of_getElem? (i := 228) (by decide +kernel)) rfl⟩
  | 4, h, _ => cases h; exact ⟨am_inT (List.mem_of_getElem? (i := 1915) (by decide +kernel)) rfl, am_inT (List.mem_of_getElem? (i := 255) (by decide +kernel)) rfl⟩
  | 5, h, _ => cases h; exact ⟨am_inT (List.mem_of_getElem? (i := 330) (by decide +kernel)) rfl, am_inT (List.mem_of_getElem? (i := 225) (by decide +kernel)) rfl⟩
  | 6, h, _ => cases h; exact ⟨am_inT (List.mem_of_getElem? (i := 297) (by decide +kernel)) rfl, am_inT (List.mem_of_getElem? (i := 224) (by decide +kernel)) rfl⟩
  | 7, h, _ => cases h; exact ⟨am_inT (List.mem_of_getElem? (i := 667) (by decide +kernel)) rfl, am_inT (List.mem_of_getElem? (i := 232) (by decide +kernel)) rfl⟩
  | 8, h, _ => cases h; exact ⟨am_inT (List.mem_of_getElem? (i := 546) (by decide +kernel)) rfl, am_inT (List.mem_of_getElem? (i := 230) (by decide +kernel)) rfl⟩
  | 9, h, _ => cases h; exact ⟨am_inT (List.mem_of_getElem? (i := 594) (by decide +kernel)) rfl, am_inT (List.mem_of_getElem? (i := 231) (by decide +kernel)) rfl⟩
  | 10, h, _ => cases h; exact ⟨am_inT (List.mem_of_getElem? (i := 1921) (by decide +kernel)) rfl, am_inT (List.mem_of_getElem? (i := 256) (by decide +kernel)) rfl⟩
  | 11, h, _ => cases h; exact ⟨am_inT (List.mem_of_getElem? (i := 274) (by decide +kernel)) rfl, am_inT (List.mem_of_getElem? (i := 222) (by decide +kernel)) rfl⟩
  | 12, h, _ => cases h; exact ⟨am_inT (List.mem_of_getElem? (i := 477) (by decide +kernel)) rfl, am_inT (List.mem_of_getElem? (i := 229) (by decide +kernel)) rfl⟩
  | 13, h, _ => cases h; exact ⟨am_inT (List.mem_of_getElem? (i := 1961) (by decide +kernel)) rfl, am_inT (List.mem_of_getElem? (i := 257) (by decide +kernel)) rfl⟩
  | 14, h, _ => cases h; exact ⟨am_inT (List.mem_of_getElem? (i := 290) (by decide +kernel)) rfl, am_inT (List.mem_of_getElem? (i := 223) (by decide +kernel)) rfl⟩
  | 15, h, _ => cases h; exact ⟨am_inT (List.mem_of_getElem? (i := 266) (by decide +kernel)) rfl, am_inT (List.mem_of_getElem? (i := 221) (by decide +kernel)) rfl⟩
  | 16, h, _ => cases h; exact ⟨am_inT (List.mem_of_getElem? (i := 3760) (by decide +kernel)) rfl, am_inT (List.mem_of_getElem? (i := 263) (by decide +kernel)) rfl⟩
  | 17, h, _ => cases h; exact ⟨am_inT (List.mem_of_getElem? (i := 3441) (by decide +kernel)) rfl, am_inT (List.mem_of_getElem? (i := 261) (by decide +kernel)) rfl⟩
  | 18, h, _ => cases h; exact ⟨am_inT (List.mem_of_getElem? (i := 3162) (by decide +kernel)) rfl, am_inT (List.mem_of_getElem? (i := 259) (by decide +kernel)) rfl⟩
  | 19, h, _ => cases h; exact ⟨am_inT (List.mem_of_getElem? (i := 2637) (by decide +kernel)) rfl, am_inT (List.mem_of_getElem? (i := 238) (by decide +kernel)) rfl⟩
  | 20, h, _ => cases h; exact ⟨am_inT (List.mem_of_getElem? (i := 3135) (by decide +kernel)) rfl, am_inT (List.mem_of_getElem? (i := 258) (by decide +kernel)) rfl⟩
  | 21, h, _ => cases h; exact ⟨am_inT (List.mem_of_getElem? (i := 3754) (by decide +kernel)) rfl, am_inT (List.mem_of_getElem? (i := 262) (by decide +kernel)) rfl⟩
  | 22, h, _ => cases h; exact ⟨am_inT (List.mem_of_getElem? (i := 3942) (by decide +kernel)) rfl, am_inT (List.mem_of_getElem? (i := 264) (by decide +kernel)) rfl⟩
  | 23, h, _ => cases h; exact ⟨am_inT (List.mem_of_getElem? (i := 3241) (by decide +kernel)) rfl, am_inT (List.mem_of_getElem? (i := 260) (by decide +kernel)) rfl⟩
  | 24, h, _ => cases h; exact ⟨am_inT (List.mem_of_getElem? (i := 2630) (by decide +kernel)) rfl, am_inT (List.mem_of_getElem? (i := 237) (by decide +kernel)) rfl⟩
  | k + 25, h, _ => simp [vwCl] at h
/-- the kinds of arrays of references that are made -/
theorem am_ao_ok {k : Nat} (h : (decide (104 ≤ k) && decide (k ≠ 199) && decide (am_kty k ∈ am_aot)) = true) : 104 ≤ k ∧ k ≠ 199 ∧ ∃ C0, am_kty k = .object C0 ∧ FieldType.object C0 ∈ am_aot := by
  simp only [Bool.and_eq_true, decide_eq_true_eq] at h
  obtain ⟨⟨h1, h2⟩, h3⟩ := h
  have hty : ∃ Cx, am_kty k = .object Cx := by
    unfold am_kty
    rw [if_neg (by omega), if_neg (by omega), if_neg (by omega), if_neg (by omega)]
    split
    · exact ⟨_, rfl⟩
    · exact ⟨_, rfl⟩
  obtain ⟨Cx, hCx⟩ := hty
  exact ⟨h1, h2, Cx, hCx, by rw [← hCx]; exact h3⟩
theorem am_w_AI : FieldType.array .int ∈ am_aot := by decide
theorem am_w_int : Jvm.Cond.arrayClass .int ∈ am_T := am_inT (List.mem_of_getElem? (i := 288) (by decide +kernel)) rfl
theorem am_w_long : Jvm.Cond.arrayClass .long ∈ am_T := am_inT (List.mem_of_getElem? (i := 735) (by decide +kernel)) rfl
theorem am_w_boolean : Jvm.Cond.arrayClass .boolean ∈ am_T := am_inT (List.mem_of_getElem? (i := 544) (by decide +kernel)) rfl
theorem am_w_oi : Jvm.Cond.instanceMethod Lib.objectInit ∈ am_T := am_inT (List.mem_of_getElem? (i := 271) (by decide +kernel)) rfl
theorem am_w_oc : Jvm.Cond.code Lib.objectInit ⟨#[0xb1]⟩ 1 none ∈ am_T := am_inT (List.mem_of_getElem? (i := 272) (by decide +kernel)) rfl
theorem am_w_mins : Jvm.Cond.static Lib.Math.min.name ∈ am_T := am_inT (List.mem_of_getElem? (i := 804) (by decide +kernel)) rfl
theorem am_w_minc : Jvm.Cond.code Lib.Math.min.name Lib.Math.min.code 2 (some .int) ∈ am_T := am_inT (List.mem_of_getElem? (i := 805) (by decide +kernel)) rfl
theorem am_w_maxs : Jvm.Cond.static Lib.Math.max.name ∈ am_T := am_inT (List.mem_of_getElem? (i := 756) (by decide +kernel)) rfl
theorem am_w_maxc : Jvm.Cond.code Lib.Math.max.name Lib.Math.max.code 2 (some .int) ∈ am_T := am_inT (List.mem_of_getElem? (i := 757) (by decide +kernel)) rfl
theorem am_w_math : Jvm.Cond.initialized "java/lang/Math" ∈ am_T := am_inT (List.mem_of_getElem? (i := 234) (by decide +kernel)) rfl
def am_ck (own : String) (q : Nat × Nat × Nat × Nat) : Bool :=
  match q.2.1 with
  | 1 => match vwCl[q.2.2.1 / 128]? with
    | some r => decide (3 ≤ q.2.2.1 / 128) && decide (q.2.2.1 % 128 < r.2.2) && decide (lw_tbl[q.2.2.2]? = some (Jvm.Cond.fieldLink own q.1 (r.2.1 (q.2.2.1 % 128)).1 (r.2.1 (q.2.2.1 % 128)).2.1 (r.2.1 (q.2.2.1 % 128)).2.2.1))
    | none => false
  | 2 => match vwCl[q.2.2.1 / 128]? with
    | some r => match am_nf[q.2.2.2]? with
      | some z => decide (3 ≤ q.2.2.1 / 128) && decide (q.2.2.1 % 128 < r.2.2) && decide ((z.1, z.2.1, z.2.2.1, z.2.2.2.1, z.2.2.2.2.1) = (own, q.1, (r.2.1 (q.2.2.1 % 128)).1, (r.2.1 (q.2.2.1 % 128)).2.1, (r.2.1 (q.2.2.1 % 128)).2.2.1))
      | none => false
    | none => false
  | 3 => match vwCl[q.2.2.1]? with
    | some r => decide (3 ≤ q.2.2.1) && decide (lw_tbl[q.2.2.2]? = some (Jvm.Cond.classLink own q.1 r.1))
    | none => false
  | 4 => decide (q.2.2.1 = 103) && decide (lw_tbl[q.2.2.2]? = some (Jvm.Cond.classLink own q.1 "[I")) || decide (q.2.2.1 = 104) && decide (lw_tbl[q.2.2.2]? = some (Jvm.Cond.classLink own q.1 "java/lang/Object"))
  | 5 => decide (lw_tbl[q.2.2.2]? = some (Jvm.Cond.constant own q.1 (Int32.ofNat q.2.2.1)))
  | 6 => decide (lw_tbl[q.2.2.2]? = some (Jvm.Cond.constantLong own q.1 (Int64.ofNat q.2.2.1)))
  | 7 => true
  | 8 => true
  | 9 => decide (lw_tbl[q.2.2.2]? = some (Jvm.Cond.methodLink own q.1 Lib.objectInit))
  | 10 => decide (lw_tbl[q.2.2.2]? = some (Jvm.Cond.methodLink own q.1 Lib.Math.min.name))
  | 11 => decide (lw_tbl[q.2.2.2]? = some (Jvm.Cond.methodLink own q.1 Lib.Math.max.name))
  | 12 => decide (lw_tbl[q.2.2.2]? = some (Jvm.Cond.methodLink own q.1 arraycopyName))
  | 14 => decide (q.2.2.1 = 384) && decide (lw_tbl[q.2.2.2]? = some (Jvm.Cond.fieldLink own q.1 "java/util/ArrayList" "modCount" "I"))
  | 15 => decide (lw_tbl[q.2.2.2]? = some (Jvm.Cond.fieldLink own q.1 (am_gs q.2.2.1).1 (am_gs q.2.2.1).2.1 (am_gs q.2.2.1).2.2))
  | 16 => decide (lw_tbl[q.2.2.2]? = some (Jvm.Cond.fieldLink own q.1 "java/lang/String" (am_sf q.2.2.1).1 (am_sf q.2.2.1).2))
  | 13 => match am_strs[q.2.2.2]? with
    | some r => decide (r.1 = own) && decide (r.2.1 = q.1) && decide (r.2.2.2 = q.2.2.1)
    | none => false
  | _ => false
theorem am_ck0_0 : am_tb0_0.all (am_ck RX0) = true := by decide +kernel
theorem am_ck0_1 : am_tb0_1.all (am_ck RX0) = true := by decide +kernel
theorem am_ck0_2 : am_tb0_2.all (am_ck RX0) = true := by decide +kernel
theorem am_ck0_3 : am_tb0_3.all (am_ck RX0) = true := by decide +kernel
theorem am_ck0 : am_tb0.all (am_ck RX0) = true := by simp only [am_tb0, List.all_append, am_ck0_0, am_ck0_1, am_ck0_2, am_ck0_3, Bool.and_self]
theorem am_ck1_0 : am_tb1_0.all (am_ck RX1) = true := by decide +kernel
theorem am_ck1 : am_tb1.all (am_ck RX1) = true := by simp only [am_tb1, List.all_append, am_ck1_0, Bool.and_self]
theorem am_ck2_0 : am_tb2_0.all (am_ck RX2) = true := by decide +kernel
theorem am_ck2 : am_tb2.all (am_ck RX2) = true := by simp only [am_tb2, List.all_append, am_ck2_0, Bool.and_self]
theorem am_ck3_0 : am_tb3_0.all (am_ck RX3) = true := by decide +kernel
theorem am_ck3_1 : am_tb3_1.all (am_ck RX3) = true := by decide +kernel
theorem am_ck3_2 : am_tb3_2.all (am_ck RX3) = true := by decide +kernel
theorem am_ck3 : am_tb3.all (am_ck RX3) = true := by simp only [am_tb3, List.all_append, am_ck3_0, am_ck3_1, am_ck3_2, Bool.and_self]
theorem am_ck4_0 : am_tb4_0.all (am_ck RX4) = true := by decide +kernel
theorem am_ck4_1 : am_tb4_1.all (am_ck RX4) = true := by decide +kernel
theorem am_ck4_2 : am_tb4_2.all (am_ck RX4) = true := by decide +kernel
theorem am_ck4 : am_tb4.all (am_ck RX4) = true := by simp only [am_tb4, List.all_append, am_ck4_0, am_ck4_1, am_ck4_2, Bool.and_self]
theorem am_ck5_0 : am_tb5_0.all (am_ck RX5) = true := by decide +kernel
theorem am_ck5_1 : am_tb5_1.all (am_ck RX5) = true := by decide +kernel
theorem am_ck5 : am_tb5.all (am_ck RX5) = true := by simp only [am_tb5, List.all_append, am_ck5_0, am_ck5_1, Bool.and_self]
theorem am_ck6_0 : am_tb6_0.all (am_ck RX6) = true := by decide +kernel
theorem am_ck6 : am_tb6.all (am_ck RX6) = true := by simp only [am_tb6, List.all_append, am_ck6_0, Bool.and_self]
theorem am_ck7_0 : am_tb7_0.all (am_ck RX7) = true := by decide +kernel
theorem am_ck7 : am_tb7.all (am_ck RX7) = true := by simp only [am_tb7, List.all_append, am_ck7_0, Bool.and_self]
theorem am_ck8_0 : am_tb8_0.all (am_ck RX8) = true := by decide +kernel
theorem am_ck8 : am_tb8.all (am_ck RX8) = true := by simp only [am_tb8, List.all_append, am_ck8_0, Bool.and_self]
theorem am_ck9_0 : am_tb9_0.all (am_ck RX9) = true := by decide +kernel
theorem am_ck9_1 : am_tb9_1.all (am_ck RX9) = true := by decide +kernel
theorem am_ck9 : am_tb9.all (am_ck RX9) = true := by simp only [am_tb9, List.all_append, am_ck9_0, am_ck9_1, Bool.and_self]
theorem am_ck10_0 : am_tb10_0.all (am_ck RX10) = true := by decide +kernel
theorem am_ck10_1 : am_tb10_1.all (am_ck RX10) = true := by decide +kernel
theorem am_ck10 : am_tb10.all (am_ck RX10) = true := by simp only [am_tb10, List.all_append, am_ck10_0, am_ck10_1, Bool.and_self]
theorem am_ck11_0 : am_tb11_0.all (am_ck RX11) = true := by decide +kernel
theorem am_ck11_1 : am_tb11_1.all (am_ck RX11) = true := by decide +kernel
theorem am_ck11_2 : am_tb11_2.all (am_ck RX11) = true := by decide +kernel
theorem am_ck11_3 : am_tb11_3.all (am_ck RX11) = true := by decide +kernel
theorem am_ck11_4 : am_tb11_4.all (am_ck RX11) = true := by decide +kernel
theorem am_ck11_5 : am_tb11_5.all (am_ck RX11) = true := by decide +kernel
theorem am_ck11_6 : am_tb11_6.all (am_ck RX11) = true := by decide +kernel
theorem am_ck11_7 : am_tb11_7.all (am_ck RX11) = true := by decide +kernel
theorem am_ck11_8 : am_tb11_8.all (am_ck RX11) = true := by decide +kernel
theorem am_ck11 : am_tb11.all (am_ck RX11) = true := by simp only [am_tb11, List.all_append, am_ck11_0, am_ck11_1, am_ck11_2, am_ck11_3, am_ck11_4, am_ck11_5, am_ck11_6, am_ck11_7, am_ck11_8, Bool.and_self]
theorem am_ck12_0 : am_tb12_0.all (am_ck RX12) = true := by decide +kernel
theorem am_ck12 : am_tb12.all (am_ck RX12) = true := by simp only [am_tb12, List.all_append, am_ck12_0, Bool.and_self]
theorem am_ck13_0 : am_tb13_0.all (am_ck RX13) = true := by decide +kernel
theorem am_ck13 : am_tb13.all (am_ck RX13) = true := by simp only [am_tb13, List.all_append, am_ck13_0, Bool.and_self]
theorem am_ck14_0 : am_tb14_0.all (am_ck RX14) = true := by decide +kernel
theorem am_ck14 : am_tb14.all (am_ck RX14) = true := by simp only [am_tb14, List.all_append, am_ck14_0, Bool.and_self]
theorem am_ck15_0 : am_tb15_0.all (am_ck RX15) = true := by decide +kernel
theorem am_ck15 : am_tb15.all (am_ck RX15) = true := by simp only [am_tb15, List.all_append, am_ck15_0, Bool.and_self]
theorem am_ck16_0 : am_tb16_0.all (am_ck RX16) = true := by decide +kernel
theorem am_ck16 : am_tb16.all (am_ck RX16) = true := by simp only [am_tb16, List.all_append, am_ck16_0, Bool.and_self]
theorem am_ck17_0 : am_tb17_0.all (am_ck RX17) = true := by decide +kernel
theorem am_ck17_1 : am_tb17_1.all (am_ck RX17) = true := by decide +kernel
theorem am_ck17 : am_tb17.all (am_ck RX17) = true := by simp only [am_tb17, List.all_append, am_ck17_0, am_ck17_1, Bool.and_self]
theorem am_ck18_0 : am_tb18_0.all (am_ck RX18) = true := by decide +kernel
theorem am_ck18 : am_tb18.all (am_ck RX18) = true := by simp only [am_tb18, List.all_append, am_ck18_0, Bool.and_self]
theorem am_ck19_0 : am_tb19_0.all (am_ck RX19) = true := by decide +kernel
theorem am_ck19 : am_tb19.all (am_ck RX19) = true := by simp only [am_tb19, List.all_append, am_ck19_0, Bool.and_self]
theorem am_ck20_0 : am_tb20_0.all (am_ck RX20) = true := by decide +kernel
theorem am_ck20_1 : am_tb20_1.all (am_ck RX20) = true := by decide +kernel
theorem am_ck20_2 : am_tb20_2.all (am_ck RX20) = true := by decide +kernel
theorem am_ck20_3 : am_tb20_3.all (am_ck RX20) = true := by decide +kernel
theorem am_ck20_4 : am_tb20_4.all (am_ck RX20) = true := by decide +kernel
theorem am_ck20_5 : am_tb20_5.all (am_ck RX20) = true := by decide +kernel
theorem am_ck20_6 : am_tb20_6.all (am_ck RX20) = true := by decide +kernel
theorem am_ck20_7 : am_tb20_7.all (am_ck RX20) = true := by decide +kernel
theorem am_ck20_8 : am_tb20_8.all (am_ck RX20) = true := by decide +kernel
theorem am_ck20_9 : am_tb20_9.all (am_ck RX20) = true := by decide +kernel
theorem am_ck20_10 : am_tb20_10.all (am_ck RX20) = true := by decide +kernel
theorem am_ck20_11 : am_tb20_11.all (am_ck RX20) = true := by decide +kernel
theorem am_ck20_12 : am_tb20_12.all (am_ck RX20) = true := by decide +kernel
theorem am_ck20_13 : am_tb20_13.all (am_ck RX20) = true := by decide +kernel
theorem am_ck20_14 : am_tb20_14.all (am_ck RX20) = true := by decide +kernel
theorem am_ck20 : am_tb20.all (am_ck RX20) = true := by simp only [am_tb20, List.all_append, am_ck20_0, am_ck20_1, am_ck20_2, am_ck20_3, am_ck20_4, am_ck20_5, am_ck20_6, am_ck20_7, am_ck20_8, am_ck20_9, am_ck20_10, am_ck20_11, am_ck20_12, am_ck20_13, am_ck20_14, Bool.and_self]
theorem am_ck21_0 : am_tb21_0.all (am_ck RL) = true := by decide +kernel
theorem am_ck21_1 : am_tb21_1.all (am_ck RL) = true := by decide +kernel
theorem am_ck21_2 : am_tb21_2.all (am_ck RL) = true := by decide +kernel
theorem am_ck21_3 : am_tb21_3.all (am_ck RL) = true := by decide +kernel
theorem am_ck21 : am_tb21.all (am_ck RL) = true := by simp only [am_tb21, List.all_append, am_ck21_0, am_ck21_1, am_ck21_2, am_ck21_3, Bool.and_self]
theorem am_ck22_0 : am_tb22_0.all (am_ck RJx4a65c) = true := by decide +kernel
theorem am_ck22 : am_tb22.all (am_ck RJx4a65c) = true := by simp only [am_tb22, List.all_append, am_ck22_0, Bool.and_self]
theorem am_ck23_0 : am_tb23_0.all (am_ck RJxc12de) = true := by decide +kernel
theorem am_ck23 : am_tb23.all (am_ck RJxc12de) = true := by simp only [am_tb23, List.all_append, am_ck23_0, Bool.and_self]
theorem am_ck24_0 : am_tb24_0.all (am_ck RJxa1e45) = true := by decide +kernel
theorem am_ck24 : am_tb24.all (am_ck RJxa1e45) = true := by simp only [am_tb24, List.all_append, am_ck24_0, Bool.and_self]
theorem am_ck25_0 : am_tb25_0.all (am_ck RJ15) = true := by decide +kernel
theorem am_ck25 : am_tb25.all (am_ck RJ15) = true := by simp only [am_tb25, List.all_append, am_ck25_0, Bool.and_self]
theorem am_ck26_0 : am_tb26_0.all (am_ck RJ3) = true := by decide +kernel
theorem am_ck26 : am_tb26.all (am_ck RJ3) = true := by simp only [am_tb26, List.all_append, am_ck26_0, Bool.and_self]
theorem am_ck27_0 : am_tb27_0.all (am_ck RJ7) = true := by decide +kernel
theorem am_ck27 : am_tb27.all (am_ck RJ7) = true := by simp only [am_tb27, List.all_append, am_ck27_0, Bool.and_self]
theorem am_ck28_0 : am_tb28_0.all (am_ck RJ0) = true := by decide +kernel
theorem am_ck28 : am_tb28.all (am_ck RJ0) = true := by simp only [am_tb28, List.all_append, am_ck28_0, Bool.and_self]
theorem am_ck29_0 : am_tb29_0.all (am_ck RJ1) = true := by decide +kernel
theorem am_ck29 : am_tb29.all (am_ck RJ1) = true := by simp only [am_tb29, List.all_append, am_ck29_0, Bool.and_self]
theorem am_ck30_0 : am_tb30_0.all (am_ck RJ9) = true := by decide +kernel
theorem am_ck30 : am_tb30.all (am_ck RJ9) = true := by simp only [am_tb30, List.all_append, am_ck30_0, Bool.and_self]
theorem am_ck_all (cn : Nat) : ∀ q : Nat × Nat × Nat × Nat, q ∈ am_tb cn → am_ck (am_own cn) q = true := by
  match cn with
  | 0 => exact List.all_eq_true.mp am_ck0
  | 1 => exact List.all_eq_true.mp am_ck1
  | 2 => exact List.all_eq_true.mp am_ck2
  | 3 => exact List.all_eq_true.mp am_ck3
  | 4 => exact List.all_eq_true.mp am_ck4
  | 5 => exact List.all_eq_true.mp am_ck5
  | 6 => exact List.all_eq_true.mp am_ck6
  | 7 => exact List.all_eq_true.mp am_ck7
  | 8 => exact List.all_eq_true.mp am_ck8
  | 9 => exact List.all_eq_true.mp am_ck9
  | 10 => exact List.all_eq_true.mp am_ck10
  | 11 => exact List.all_eq_true.mp am_ck11
  | 12 => exact List.all_eq_true.mp am_ck12
  | 13 => exact List.all_eq_true.mp am_ck13
  | 14 => exact List.all_eq_true.mp am_ck14
  | 15 => exact List.all_eq_true.mp am_ck15
  | 16 => exact List.all_eq_true.mp am_ck16
  | 17 => exact List.all_eq_true.mp am_ck17
  | 18 => exact List.all_eq_true.mp am_ck18
  | 19 => exact List.all_eq_true.mp am_ck19
  | 20 => exact List.all_eq_true.mp am_ck20
  | 21 => exact List.all_eq_true.mp am_ck21
  | 22 => exact List.all_eq_true.mp am_ck22
  | 23 => exact List.all_eq_true.mp am_ck23
  | 24 => exact List.all_eq_true.mp am_ck24
  | 25 => exact List.all_eq_true.mp am_ck25
  | 26 => exact List.all_eq_true.mp am_ck26
  | 27 => exact List.all_eq_true.mp am_ck27
  | 28 => exact List.all_eq_true.mp am_ck28
  | 29 => exact List.all_eq_true.mp am_ck29
  | 30 => exact List.all_eq_true.mp am_ck30
  | k + 31 => exact fun q h => absurd h List.not_mem_nil
end
section
/-! THE METHODS: name, bytes, locals, type of the answer; class of its code, kind (0 static, 1 by its receiver, 2 a constructor, 9 not in use), parameters; the places of its words: code, static or instanceMethod, initialized, selects -/
abbrev am_M : Type := MethodName × Nat × Option FieldType × Nat × Nat × Nat × Nat × Nat × Nat × Nat
def am_mds0 : List am_M := [(yX0_init, 6, none, 0, 2, 5, 1918, 1917, 255, 0), (yX0_isServers, 1, some .boolean, 0, 1, 0, 1910, 1908, 255, 1909), (yX0_isToBeClosed, 1, some .boolean, 0, 1, 0, 2533, 2531, 255, 2532), (yX0_isSending, 1, some .boolean, 0, 1, 0, 2305, 2304, 255, 72), (yX0_isTimed, 1, some .boolean, 0, 1, 0, 2410, 2408, 255, 2409), (yX0_beginAsClient, 1, none, 0, 1, 0, 2521, 2519, 255, 2520), (yX0_beginAsServer, 2, none, 0, 1, 1, 2122, 2120, 255, 2121), (yX0_finish, 1, none, 0, 1, 0, 2289, 2287, 255, 2288), (yX0_giveUpAtOnce, 1, none, 0, 1, 0, 2419, 2417, 255, 2418), (yX0_end, 2, none, 0, 1, 1, 2183, 2182, 255, 58), (yX0_emit, 8, none, 0, 1, 4, 2143, 2142, 255, 56), (yX0_flagsOf, 2, some .int, 0, 1, 1, 2200, 2199, 255, 61), (yX0_sendNew, 4, none, 0, 1, 2, 2135, 2134, 255, 55), (yX0_transmit, 4, none, 0, 1, 0, 2301, 2299, 255, 2300), (yX0_noteProbing, 2, none, 0, 1, 0, 2314, 2313, 255, 73), (yX0_sendAgain, 3, none, 0, 1, 0, 2191, 2190, 255, 60), (yX0_age, 1, none, 0, 1, 0, 2406, 2404, 255, 2405), (yX0_runOut, 1, none, 0, 1, 0, 2414, 2413, 255, 77), (yX0_arrive, 2, some .boolean, 0, 1, 1, 2173, 2171, 255, 2172), (yX0_arriveAsked, 2, some .boolean, 0, 1, 1, 2177, 2176, 255, 57)]
def am_mds1 : List am_M := [(yX0_establish, 2, none, 0, 1, 1, 2187, 2186, 255, 59), (yX0_isThirdDouble, 3, some .boolean, 0, 1, 1, 2207, 2206, 255, 62), (yX0_isEndedByAcknowledgement, 1, some .boolean, 0, 1, 0, 2238, 2237, 255, 64), (yX0_waitOut, 1, none, 0, 1, 0, 2242, 2241, 255, 65), (yX0_takeIn, 2, none, 0, 1, 1, 2246, 2245, 255, 66), (yX0_takeWritten, 3, some .int, 0, 1, 1, 2538, 2536, 255, 2537), (yX0_hasRest, 1, some .boolean, 0, 1, 0, 2285, 2283, 255, 2284), (yX0_writeRest, 2, none, 0, 1, 0, 2275, 2273, 255, 2274), (yX0_takeUnread, 4, some .int, 0, 1, 1, 2293, 2291, 255, 2292), (yX0_isEndTold, 1, some .boolean, 0, 1, 0, 1228, 1226, 255, 1227), (yX0_tell, 2, some .int, 0, 1, 1, 2579, 2577, 255, 2578), (yX1_init, 1, none, 1, 2, 0, 333, 332, 225, 0), (yX1_begin, 4, none, 1, 1, 3, 1512, 1510, 225, 1511), (yX1_copyOf, 2, none, 1, 1, 1, 1526, 1524, 225, 1525), (yX1_headSum, 1, some .int, 1, 1, 0, 1839, 1837, 225, 1838), (yX1_closeNames, 2, none, 1, 1, 0, 1865, 1863, 225, 1864), (yX1_closeSegment, 1, none, 1, 1, 0, 2155, 2153, 225, 2154), (yX1_putPiece, 6, none, 1, 1, 4, 1533, 1531, 225, 1532), (yX1_isWhole, 2, some .boolean, 1, 1, 0, 1777, 1775, 225, 1776), (yX2_init, 1, none, 2, 2, 0, 300, 299, 224, 0)]
def am_mds2 : List am_M := [(yX3_init, 5, none, 3, 2, 3, 670, 669, 232, 0), (yX3_placeOf, 3, some .int, 3, 1, 1, 1435, 1433, 232, 1434), (yX3_hardwareAt, 2, some .long, 3, 1, 1, 1439, 1437, 232, 1438), (yX3_learn, 6, none, 3, 1, 4, 1489, 1488, 232, 36), (yX3_dropOld, 4, none, 3, 1, 1, 2402, 2400, 232, 2401), (yX3_post, 4, none, 3, 1, 2, 2322, 2320, 232, 2321), (yX3_ask, 4, none, 3, 1, 2, 2327, 2326, 232, 75), (yX3_sendMessage, 9, none, 3, 1, 5, 1819, 1818, 232, 44), (yX3_sendPieces, 8, none, 3, 1, 3, 1786, 1785, 232, 41), (yX3_sendPart, 9, none, 3, 1, 5, 1790, 1789, 232, 42), (yX3_dropWaiting, 4, none, 3, 1, 1, 1815, 1814, 232, 43), (yX3_sendLearned, 8, none, 3, 1, 2, 1781, 1779, 232, 1780), (yX3_takeFrame, 7, some .int, 3, 1, 3, 1468, 1466, 232, 1467), (yX3_isMessage, 2, some .boolean, 3, 0, 1, 1472, 1471, 232, 0), (yX3_takeMessage, 6, none, 3, 1, 2, 1482, 1481, 232, 35), (yX3_isDatagram, 4, some .boolean, 3, 1, 1, 1502, 1501, 232, 37), (yX3_takeDatagram, 9, some .boolean, 3, 1, 3, 1508, 1507, 232, 38), (yX3_keptPlace, 4, some .int, 3, 1, 1, 1518, 1517, 232, 39), (yX3_dropKept, 4, none, 3, 1, 1, 1522, 1521, 232, 40), (yX4_init, 2, none, 4, 2, 0, 549, 548, 230, 0)]
def am_mds3 : List am_M := [(yX4_forget, 1, none, 4, 1, 0, 882, 880, 230, 881), (yX4_isLike, 4, some .boolean, 4, 1, 1, 1201, 1199, 230, 1200), (yX4_perform, 8, some .int, 4, 1, 2, 1079, 1077, 230, 1078), (yX4_isFileName, 4, some .boolean, 4, 0, 1, 1085, 1084, 230, 0), (yX4_placeOf, 3, some .int, 4, 1, 1, 1095, 1094, 230, 20), (yX4_isMatched, 5, some .boolean, 4, 1, 3, 1108, 1107, 230, 22), (yX4_showList, 2, some .int, 4, 1, 0, 1089, 1088, 230, 19), (yX4_show, 5, some .int, 4, 1, 2, 1104, 1103, 230, 21), (yX4_cutRange, 9, some .int, 4, 1, 1, 1125, 1124, 230, 23), (yX4_replace, 4, some .int, 4, 1, 2, 1134, 1133, 230, 24), (yX4_append, 3, some .int, 4, 1, 2, 1146, 1145, 230, 27), (yX4_change, 2, none, 4, 1, 1, 1142, 1141, 230, 26), (yX4_insert, 5, some .int, 4, 1, 1, 1138, 1137, 230, 25), (yX4_remove, 5, none, 4, 1, 1, 1150, 1149, 230, 28), (yX4_writeAnswer, 6, none, 4, 1, 4, 1158, 1156, 230, 1157), (yX4_writeRange, 3, none, 4, 1, 2, 1191, 1190, 230, 29), (yX4_wordOf, 1, some (.object "java/lang/String"), 4, 0, 1, 1161, 1160, 230, 0), (yX5_init, 1, none, 5, 2, 0, 597, 596, 231, 0), (yX5_begin, 1, none, 5, 1, 0, 925, 923, 231, 924), (yX5_isLast, 1, some .boolean, 5, 1, 0, 1154, 1152, 231, 1153)]
def am_mds4 : List am_M := [(yX5_feed, 3, some .int, 5, 1, 1, 930, 928, 231, 929), (yX5_wrongInHead, 2, some .int, 5, 1, 1, 961, 960, 231, 10), (yX5_canStand, 6, some .boolean, 5, 1, 1, 965, 964, 231, 11), (yX5_stepOn, 2, none, 5, 1, 1, 969, 968, 231, 12), (yX5_methodIn, 2, some .int, 5, 1, 0, 973, 972, 231, 13), (yX5_noteVersion, 1, none, 5, 1, 0, 1037, 1036, 231, 15), (yX5_noteField, 3, none, 5, 1, 0, 1043, 1042, 231, 16), (yX5_noteLength, 2, none, 5, 1, 1, 1058, 1057, 231, 17), (yX5_noteValue, 4, none, 5, 1, 3, 1068, 1067, 231, 18), (yX5_judge, 1, some .int, 5, 1, 0, 1033, 1032, 231, 14), (yX5_feedBody, 2, some .int, 5, 1, 1, 934, 933, 231, 7), (yX5_expect, 4, some .int, 5, 1, 3, 957, 956, 231, 9), (yX5_feedSize, 3, some .int, 5, 1, 1, 952, 951, 231, 8), (yX6_init, 2, none, 6, 2, 0, 1924, 1923, 256, 0), (yX6_begin, 2, none, 6, 1, 1, 2126, 2124, 256, 2125), (yX6_unread, 1, some .int, 6, 1, 0, 1232, 1230, 256, 1231), (yX6_window, 1, some .int, 6, 1, 0, 2150, 2148, 256, 2149), (yX6_takeBytes, 8, none, 6, 1, 1, 2250, 2248, 256, 2249), (yX6_joinPieces, 6, none, 6, 1, 0, 2257, 2256, 256, 67), (yX6_firstPiece, 3, some .int, 6, 1, 0, 2261, 2260, 256, 68)]
def am_mds5 : List am_M := [(yX7_init, 2, none, 7, 2, 1, 277, 276, 222, 0), (yX7_length, 1, some .int, 7, 1, 0, 870, 868, 222, 869), (yX7_at, 2, some .int, 7, 1, 1, 898, 896, 222, 897), (yX7_twoAt, 2, some .int, 7, 1, 1, 1214, 1212, 222, 1213), (yX7_fourAt, 2, some .int, 7, 1, 1, 1477, 1475, 222, 1476), (yX7_hardwareAt, 5, some .long, 7, 1, 1, 1462, 1460, 222, 1461), (yX7_empty, 1, none, 7, 1, 0, 874, 872, 222, 873), (yX7_setAt, 3, none, 7, 1, 2, 1773, 1771, 222, 1772), (yX7_setTwo, 3, none, 7, 1, 2, 1810, 1808, 222, 1809), (yX7_add, 2, none, 7, 1, 1, 938, 936, 222, 937), (yX7_addTwo, 2, none, 7, 1, 1, 1183, 1181, 222, 1182), (yX7_addFour, 2, none, 7, 1, 1, 1806, 1804, 222, 1805), (yX7_addHardware, 3, none, 7, 1, 1, 1799, 1797, 222, 1798), (yX7_addRow, 4, none, 7, 1, 3, 1072, 1070, 222, 1071), (yX7_addZeros, 2, none, 7, 1, 1, 1537, 1535, 222, 1536), (yX7_addText, 4, none, 7, 1, 1, 1113, 1111, 222, 1112), (yX7_addNumber, 4, none, 7, 1, 1, 1117, 1115, 222, 1116), (yX7_removeFirst, 2, none, 7, 1, 1, 2542, 2540, 222, 2541), (yX7_isSame, 6, some .boolean, 7, 1, 4, 1121, 1119, 222, 1120), (yX7_compare, 4, some .int, 7, 1, 1, 1099, 1097, 222, 1098)]
def am_mds6 : List am_M := [(yX7_hasText, 5, some .boolean, 7, 1, 2, 978, 976, 222, 977), (yX7_isWord, 8, some .boolean, 7, 1, 3, 1049, 1047, 222, 1048), (yX7_numberAt, 7, some .int, 7, 1, 2, 1054, 1052, 222, 1053), (yX7_behindName, 5, some .int, 7, 1, 1, 1848, 1846, 222, 1847), (yX7_sumOver, 7, some .int, 7, 1, 3, 1219, 1217, 222, 1218), (yX8_init, 1, none, 8, 2, 0, 480, 479, 229, 0), (yX8_has, 2, some .boolean, 8, 1, 1, 1890, 1888, 229, 1889), (yX8_isRightIn, 5, some .boolean, 8, 1, 1, 1880, 1878, 229, 1879), (yX8_optionIn, 7, some .int, 8, 0, 2, 1893, 1892, 229, 0), (yX9_init, 2, none, 9, 2, 1, 1964, 1963, 257, 0), (yX9_underWay, 1, some .int, 9, 1, 0, 2224, 2222, 257, 2223), (yX9_sentBytes, 2, some .int, 9, 1, 0, 2139, 2137, 257, 2138), (yX9_acknowledgedBytes, 2, some .int, 9, 1, 0, 2195, 2193, 257, 2194), (yX9_unsent, 1, some .int, 9, 1, 0, 2309, 2307, 257, 2308), (yX9_room, 1, some .int, 9, 1, 0, 2279, 2277, 257, 2278), (yX9_noteSent, 3, none, 9, 1, 2, 2159, 2157, 257, 2158), (yX9_noteAcknowledged, 5, none, 9, 1, 3, 2211, 2209, 257, 2210), (yX9_measure, 3, none, 9, 1, 1, 2217, 2216, 257, 63), (yX9_noteWindow, 3, none, 9, 1, 1, 2233, 2231, 257, 2232), (yX9_tellWindow, 2, none, 9, 1, 1, 2130, 2128, 257, 2129)]
def am_mds7 : List am_M := [(yX9_lowerThreshold, 2, none, 9, 1, 1, 2228, 2226, 257, 2227), (yX10_init, 2, none, 10, 2, 0, 293, 292, 223, 0), (yX10_open, 4, some (.object "Lanternserver$Frame"), 10, 1, 2, 1794, 1792, 223, 1793), (yX10_takeOut, 4, some (.object "Lanternserver$Frame"), 10, 1, 1, 1458, 1456, 223, 1457), (yX10_loseOne, 2, some .int, 10, 1, 1, 2339, 2337, 223, 2338), (yX10_doubleOne, 4, some .int, 10, 1, 1, 2352, 2350, 223, 2351), (yX10_spoilOne, 7, some .int, 10, 1, 3, 2366, 2364, 223, 2365), (yX10_letter, 5, some (.object "Lanternserver$Datagram"), 10, 1, 3, 1828, 1826, 223, 1827), (yX10_layOut, 2, none, 10, 1, 1, 2461, 2459, 223, 2460), (yX10_answerByReset, 6, none, 10, 1, 1, 2163, 2161, 223, 2162), (yX10_wrongSums, 4, some .int, 10, 1, 0, 1210, 1208, 223, 1209), (yX11_init, 1, none, 11, 2, 0, 269, 268, 221, 0), (yX11_type, 14, some .int, 11, 1, 6, 1248, 1246, 221, 1247), (yX11_put, 4, some .int, 11, 1, 2, 1333, 1331, 221, 1332), (yX11_piece, 3, some .int, 11, 1, 1, 1356, 1354, 221, 1355), (yX11_clear, 2, some .int, 11, 1, 0, 866, 864, 221, 865), (yX11_sum, 3, some .int, 11, 1, 2, 1376, 1374, 221, 1375), (yX11_addHost, 3, some .int, 11, 1, 2, 1400, 1398, 221, 1399), (yX11_setMtu, 5, some .int, 11, 1, 2, 1409, 1407, 221, 1408), (yX11_hostAt, 4, some .int, 11, 1, 2, 1422, 1420, 221, 1421)]
def am_mds8 : List am_M := [(yX11_tableAt, 5, some .int, 11, 1, 2, 1430, 1428, 221, 1429), (yX11_deliver, 2, some .int, 11, 1, 1, 1446, 1444, 221, 1445), (yX11_lose, 2, some .int, 11, 1, 1, 2335, 2333, 221, 2334), (yX11_twice, 2, some .int, 11, 1, 1, 2348, 2346, 221, 2347), (yX11_spoil, 4, some .int, 11, 1, 3, 2361, 2359, 221, 2360), (yX11_frameAt, 4, some .int, 11, 1, 2, 2375, 2373, 221, 2374), (yX11_byteAt, 4, some .int, 11, 1, 2, 2384, 2382, 221, 2383), (yX11_pass, 3, some .int, 11, 1, 1, 2392, 2390, 221, 2391), (yX11_settle, 5, some .int, 11, 1, 1, 2426, 2424, 221, 2425), (yX11_play, 8, some .int, 11, 1, 2, 2439, 2437, 221, 2438), (yX11_echo, 8, some .int, 11, 1, 3, 2454, 2452, 221, 2453), (yX11_isAnswered, 2, some .boolean, 11, 1, 1, 2468, 2466, 221, 2467), (yX11_name, 5, some .int, 11, 1, 1, 2476, 2474, 221, 2475), (yX11_lookUp, 5, some .int, 11, 1, 1, 2489, 2487, 221, 2488), (yX11_askAgain, 2, none, 11, 1, 1, 2498, 2496, 221, 2497), (yX11_found, 2, some .int, 11, 1, 1, 2507, 2505, 221, 2506), (yX11_connect, 6, some .int, 11, 1, 3, 2514, 2512, 221, 2513), (yX11_write, 4, some .int, 11, 1, 1, 2528, 2526, 221, 2527), (yX11_read, 5, some .int, 11, 1, 2, 2549, 2547, 221, 2548), (yX11_readAt, 4, some .int, 11, 1, 2, 2558, 2556, 221, 2557)]
def am_mds9 : List am_M := [(yX11_close, 4, some .int, 11, 1, 2, 2565, 2563, 221, 2564), (yX11_connectionAt, 3, some .int, 11, 1, 2, 2574, 2572, 221, 2573), (yX11_fileAt, 3, some .int, 11, 1, 2, 2587, 2585, 221, 2586), (yX11_fileByteAt, 5, some .int, 11, 1, 3, 2596, 2594, 221, 2595), (yX11_servedAt, 3, some .int, 11, 1, 2, 2603, 2601, 221, 2602), (yX11_answerAt, 4, some .int, 11, 1, 2, 2612, 2610, 221, 2611), (yX11_count, 2, some .int, 11, 1, 1, 2619, 2617, 221, 2618), (yX11_agrees, 3, some .boolean, 11, 1, 0, 878, 876, 221, 877), (yX11_errors, 3, some .int, 11, 1, 0, 1206, 1204, 221, 1205), (yX11_deliveredShare, 1, some .double, 11, 1, 0, 1236, 1234, 221, 1235), (yX11_meanAnswer, 4, some .float, 11, 1, 0, 1240, 1238, 221, 1239), (yX11_hasHost, 2, some .boolean, 11, 1, 1, 1413, 1412, 221, 33), (yX11_hasConnection, 2, some .boolean, 11, 1, 1, 902, 901, 221, 6), (yX11_isNoChoice, 1, some .boolean, 11, 0, 1, 1449, 1448, 221, 0), (yX11_nextSeed, 1, some .int, 11, 0, 1, 2443, 2442, 221, 0), (yX11_draw, 2, some .int, 11, 0, 2, 2447, 2446, 221, 0), (yX11_isAhead, 2, some .boolean, 11, 0, 2, 2203, 2202, 221, 0), (yX11_bytesIn, 4, some .int, 11, 0, 1, 1251, 1250, 221, 0), (yX11_typeNumber, 5, none, 11, 1, 1, 1324, 1323, 221, 32), (yX11_pieceText, 1, some (.object "java/lang/String"), 11, 0, 1, 1360, 1359, 221, 0)]
def am_mds10 : List am_M := [(yX11_answeredEchoes, 3, some .int, 11, 1, 0, 2627, 2626, 221, 81), (yX11_openMany, 5, some .int, 11, 1, 1, 1906, 1905, 221, 53), (yX11_isTimerRunning, 2, some .boolean, 11, 1, 0, 2431, 2430, 221, 78), (yX11_postAll, 3, none, 11, 1, 0, 2318, 2317, 221, 74), (yX11_carryOne, 9, some .int, 11, 1, 1, 1454, 1453, 221, 34), (yX11_tick, 4, none, 11, 1, 0, 2398, 2397, 221, 76), (yX11_takeEcho, 7, none, 11, 1, 1, 1823, 1822, 221, 45), (yX11_takeNames, 5, none, 11, 1, 1, 1835, 1834, 221, 46), (yX11_answerName, 6, none, 11, 1, 0, 1844, 1843, 221, 47), (yX11_isQuestionHead, 1, some .boolean, 11, 0, 1, 1851, 1850, 221, 0), (yX11_takeAnswer, 9, none, 11, 1, 1, 1872, 1871, 221, 49), (yX11_readName, 6, some .int, 11, 1, 0, 2480, 2479, 221, 79), (yX11_ownerOf, 6, some .int, 11, 1, 3, 1856, 1855, 221, 48), (yX11_takeSegment, 4, none, 11, 1, 1, 1876, 1875, 221, 50), (yX11_connectionOf, 4, some (.object "Lanternserver$Connection"), 11, 1, 1, 1897, 1896, 221, 51), (yX11_isBeginning, 2, some .boolean, 11, 1, 1, 1901, 1900, 221, 52), (yX11_newServers, 3, some (.object "Lanternserver$Connection"), 11, 1, 0, 1914, 1913, 221, 54), (yX11_serversOf, 5, some .int, 11, 1, 2, 2267, 2266, 221, 69), (yX11_serve, 7, none, 11, 1, 1, 2271, 2270, 221, 70), (yX11_noteServed, 4, none, 11, 1, 3, 2297, 2296, 221, 71)]
def am_mds11 : List am_M := [(yX11_servedMany, 1, some .int, 11, 1, 0, 886, 885, 221, 3), (yX11_servedNumber, 3, some .int, 11, 1, 2, 894, 893, 221, 5), (yX11_servedWell, 4, some .int, 11, 1, 0, 2623, 2622, 221, 80), (yX11_isServedNaively, 9, some .boolean, 11, 1, 1, 890, 889, 221, 4), (yX11_hasReadOtherwise, 4, some .boolean, 11, 1, 1, 1224, 1223, 221, 30), (yX12_init, 1, none, 12, 2, 0, 3763, 3762, 263, 0), (yX12_add, 4, none, 12, 1, 1, 3458, 3456, 263, 3457), (yX13_init, 3, none, 13, 2, 2, 3444, 3443, 261, 0), (yX14_init, 1, none, 14, 2, 0, 3165, 3164, 259, 0), (yX15_init, 3, none, 15, 2, 2, 2640, 2639, 238, 0), (yX16_init, 1, none, 16, 2, 0, 3138, 3137, 258, 0), (yX17_init, 8, none, 17, 2, 7, 3757, 3756, 262, 0), (yX17_underWay, 1, some .int, 17, 1, 0, 3386, 3384, 262, 3385), (yX17_sentBytes, 1, some .int, 17, 1, 0, 3380, 3378, 262, 3379), (yX17_goneBytes, 1, some .int, 17, 1, 0, 3423, 3421, 262, 3422), (yX17_waiting, 1, some .int, 17, 1, 0, 3364, 3362, 262, 3363), (yX17_isTold, 1, some .boolean, 17, 1, 0, 3745, 3743, 262, 3744), (yX17_ownWindow, 1, some .int, 17, 1, 0, 3360, 3358, 262, 3359), (yX17_isSending, 1, some .boolean, 17, 1, 0, 3376, 3374, 262, 3375), (yX17_isShut, 1, some .boolean, 17, 1, 0, 3398, 3396, 262, 3397)]
def am_mds12 : List am_M := [(yX17_isTimed, 1, some .boolean, 17, 1, 0, 4059, 4057, 262, 4058), (yX18_init, 1, none, 18, 2, 0, 3945, 3944, 264, 0), (yX18_isWhole, 3, some .boolean, 18, 1, 0, 3975, 3973, 264, 3974), (yX19_init, 1, none, 19, 2, 0, 3244, 3243, 260, 0), (yX20_init, 1, none, 20, 2, 0, 2633, 2632, 237, 0), (yX20_thrown, 1, some .int, 20, 1, 0, 3006, 3004, 237, 3005), (yX20_in, 6, some .boolean, 20, 0, 3, 3029, 3028, 237, 0), (yX20_fine, 2, some .boolean, 20, 1, 1, 3018, 3017, 237, 82), (yX20_fine_, 3, some .boolean, 20, 1, 2, 3034, 3033, 237, 84), (yX20_fine__, 4, some .boolean, 20, 1, 3, 4005, 4004, 237, 197), (yX20_tapeLength, 1, some .int, 20, 1, 0, 4106, 4104, 237, 4105), (yX20_tapeAt, 2, some .int, 20, 1, 1, 4110, 4108, 237, 4109), (yX20_tapeDrops, 3, none, 20, 1, 1, 4114, 4112, 237, 4113), (yX20_bytesOf, 4, some .int, 20, 0, 1, 3013, 3012, 237, 0), (yX20_puts, 5, none, 20, 1, 1, 3022, 3021, 237, 83), (yX20_type, 14, some .int, 20, 1, 6, 3010, 3008, 237, 3009), (yX20_put, 4, some .int, 20, 1, 2, 3026, 3024, 237, 3025), (yX20_pieceOf, 1, some (.object "java/lang/String"), 20, 0, 1, 3041, 3040, 237, 0), (yX20_piece, 6, some .int, 20, 1, 1, 3038, 3036, 237, 3037), (yX20_clear, 2, some .int, 20, 1, 0, 3054, 3052, 237, 3053)]
def am_mds13 : List am_M := [(yX20_added, 7, some .int, 20, 0, 4, 3065, 3064, 237, 0), (yX20_sumOf, 3, some .int, 20, 0, 3, 3061, 3060, 237, 0), (yX20_sumOver, 8, some .int, 20, 1, 6, 3216, 3214, 237, 3215), (yX20_sum, 3, some .int, 20, 1, 2, 3058, 3056, 237, 3057), (yX20_mssOf, 2, some .int, 20, 1, 1, 3368, 3366, 237, 3367), (yX20_addHost, 3, some .int, 20, 1, 2, 3069, 3067, 237, 3068), (yX20_setMtu, 4, some .int, 20, 1, 2, 3077, 3075, 237, 3076), (yX20_hostAt, 4, some .int, 20, 1, 2, 3085, 3083, 237, 3084), (yX20_addressOf, 1, some .int, 20, 0, 1, 3092, 3091, 237, 0), (yX20_hostWith, 3, some .int, 20, 1, 1, 3203, 3202, 237, 97), (yX20_hardwareOf, 1, some .long, 20, 0, 1, 3116, 3115, 237, 0), (yX20_knownOf, 3, some (.object "LanternserverModel$Known"), 20, 0, 2, 3096, 3095, 237, 0), (yX20_tableAt, 4, some .int, 20, 1, 2, 3089, 3087, 237, 3088), (yX20_puts_, 6, none, 20, 0, 4, 3182, 3181, 237, 0), (yX20_number, 6, some .long, 20, 0, 3, 3112, 3111, 237, 0), (yX20_toWire, 2, none, 20, 1, 1, 3186, 3185, 237, 94), (yX20_frame, 9, none, 20, 1, 5, 3161, 3160, 237, 93), (yX20_takenOff, 4, some (.object "LanternserverModel$Frame"), 20, 1, 1, 3109, 3108, 237, 87), (yX20_delivers, 7, some .int, 20, 1, 1, 3105, 3104, 237, 86), (yX20_deliver, 2, some .int, 20, 1, 1, 3100, 3098, 237, 3099)]
def am_mds14 : List am_M := [(yX20_lose, 2, some .int, 20, 1, 1, 3979, 3977, 237, 3978), (yX20_twice, 4, some .int, 20, 1, 1, 3983, 3981, 237, 3982), (yX20_spoil, 6, some .int, 20, 1, 3, 3987, 3985, 237, 3986), (yX20_frameAt, 4, some .int, 20, 1, 2, 3991, 3989, 237, 3990), (yX20_byteAt, 3, some .int, 20, 1, 2, 3996, 3994, 237, 3995), (yX20_copy, 5, some (.array .int), 20, 0, 3, 3124, 3123, 237, 0), (yX20_takes, 6, none, 20, 1, 2, 3121, 3120, 237, 88), (yX20_message, 8, some (.array .int), 20, 0, 5, 3189, 3188, 237, 0), (yX20_takesMessage, 10, some .boolean, 20, 1, 2, 3128, 3127, 237, 89), (yX20_keeps, 9, none, 20, 1, 4, 3133, 3132, 237, 90), (yX20_sendsWaiting, 10, none, 20, 1, 3, 3153, 3152, 237, 91), (yX20_sendsRows, 6, none, 20, 1, 3, 3157, 3156, 237, 92), (yX20_datagram, 10, some (.array .int), 20, 1, 7, 3236, 3235, 237, 102), (yX20_sends, 12, none, 20, 1, 5, 3232, 3230, 237, 3231), (yX20_records, 8, none, 20, 0, 4, 3239, 3238, 237, 0), (yX20_takesDatagram, 10, some .boolean, 20, 1, 2, 3194, 3193, 237, 95), (yX20_partOf, 6, some .int, 20, 0, 4, 3937, 3936, 237, 0), (yX20_forgets, 3, none, 20, 0, 2, 3940, 3939, 237, 0), (yX20_puts__, 12, none, 20, 1, 7, 3934, 3933, 237, 196), (yX20_areLike, 4, some .boolean, 20, 0, 2, 3223, 3222, 237, 0)]
def am_mds15 : List am_M := [(yX20_hasNoSum, 3, some .boolean, 20, 1, 2, 3212, 3211, 237, 99), (yX20_isRight, 5, some .boolean, 20, 1, 4, 3208, 3207, 237, 98), (yX20_wasSent, 10, some .boolean, 20, 1, 5, 3220, 3219, 237, 100), (yX20_took, 7, none, 20, 1, 5, 3199, 3198, 237, 96), (yX20_wireErrors, 5, some .int, 20, 1, 0, 4213, 4211, 237, 4212), (yX20_fits, 5, some .boolean, 20, 1, 2, 4217, 4216, 237, 218), (yX20_echoRow, 4, some (.array .int), 20, 0, 2, 4008, 4007, 237, 0), (yX20_echo, 5, some .int, 20, 1, 3, 4000, 3998, 237, 3999), (yX20_isAnswered, 2, some .boolean, 20, 1, 1, 4012, 4010, 237, 4011), (yX20_echoComes, 7, none, 20, 1, 3, 3228, 3227, 237, 101), (yX20_isNameByte, 1, some .boolean, 20, 0, 1, 4023, 4022, 237, 0), (yX20_nameOnTape, 6, some (.array .int), 20, 1, 0, 4020, 4019, 237, 198), (yX20_hostNamed, 3, some .int, 20, 1, 1, 3272, 3271, 237, 105), (yX20_partsOf, 3, some .int, 20, 0, 1, 4026, 4025, 237, 0), (yX20_name, 4, some .int, 20, 1, 1, 4016, 4014, 237, 4015), (yX20_question, 3, some (.array .int), 20, 0, 1, 3277, 3276, 237, 0), (yX20_joined, 4, some (.array .int), 20, 0, 2, 3280, 3279, 237, 0), (yX20_start, 4, some (.array .int), 20, 0, 3, 3264, 3263, 237, 0), (yX20_sendsByPorts, 8, none, 20, 1, 5, 3290, 3289, 237, 106), (yX20_asks, 2, none, 20, 1, 1, 4034, 4033, 237, 199)]
def am_mds16 : List am_M := [(yX20_lookUp, 4, some .int, 20, 1, 1, 4030, 4028, 237, 4029), (yX20_askAgain, 3, none, 20, 1, 1, 4038, 4036, 237, 4037), (yX20_found, 2, some .int, 20, 1, 1, 4042, 4040, 237, 4041), (yX20_nameComes, 9, none, 20, 1, 3, 3257, 3256, 237, 103), (yX20_nameIn, 4, some (.array .int), 20, 0, 1, 3267, 3266, 237, 0), (yX20_questionComes, 8, none, 20, 1, 3, 3261, 3260, 237, 104), (yX20_place, 2, some (.array .int), 20, 0, 1, 3283, 3282, 237, 0), (yX20_answerComes, 8, none, 20, 1, 3, 3296, 3295, 237, 107), (yX20_tick, 5, none, 20, 1, 0, 4051, 4050, 237, 200), (yX20_pass, 3, some .int, 20, 1, 1, 4046, 4044, 237, 4045), (yX20_settle, 6, some .int, 20, 1, 1, 4072, 4070, 237, 4071), (yX20_draw, 2, some .int, 20, 1, 1, 4085, 4084, 237, 205), (yX20_play, 8, some .int, 20, 1, 2, 4080, 4078, 237, 4079), (yX20_countOfWire, 2, some .int, 20, 1, 1, 4165, 4163, 237, 4164), (yX20_isAhead, 2, some .boolean, 20, 0, 2, 3403, 3402, 237, 0), (yX20_isLine, 2, some .boolean, 20, 1, 1, 3930, 3929, 237, 195), (yX20_two, 3, none, 20, 0, 3, 3336, 3335, 237, 0), (yX20_four, 3, none, 20, 0, 3, 3339, 3338, 237, 0), (yX20_twoAt, 2, some .int, 20, 0, 2, 3306, 3305, 237, 0), (yX20_fourAt, 2, some .int, 20, 0, 2, 3303, 3302, 237, 0)]
def am_mds17 : List am_M := [(yX20_sendSegment, 16, none, 20, 1, 12, 3333, 3332, 237, 114), (yX20_sendOn, 6, none, 20, 1, 5, 3356, 3355, 237, 118), (yX20_acknowledges, 2, none, 20, 1, 1, 3352, 3351, 237, 117), (yX20_resets, 3, none, 20, 1, 2, 3329, 3328, 237, 113), (yX20_timesAnew, 2, none, 20, 1, 1, 3394, 3393, 237, 121), (yX20_sendBytes, 4, none, 20, 1, 2, 3390, 3389, 237, 120), (yX20_sendsAll, 4, none, 20, 1, 1, 3372, 3371, 237, 119), (yX20_sendsAgain, 4, none, 20, 1, 1, 3419, 3418, 237, 124), (yX20_shrinks, 3, none, 20, 1, 2, 3427, 3426, 237, 125), (yX20_isOver, 2, none, 20, 1, 1, 4064, 4063, 237, 202), (yX20_doesATimerRun, 3, some .boolean, 20, 1, 0, 4076, 4075, 237, 204), (yX20_connectionsTick, 4, none, 20, 1, 1, 4055, 4054, 237, 201), (yX20_lineOf, 8, some (.object "LanternserverModel$Line"), 20, 1, 4, 3310, 3309, 237, 109), (yX20_toldMss, 5, some .int, 20, 0, 3, 3317, 3316, 237, 0), (yX20_has, 2, some .boolean, 20, 1, 1, 3314, 3313, 237, 110), (yX20_segment, 11, none, 20, 1, 5, 3300, 3299, 237, 108), (yX20_openOfServer, 3, some .int, 20, 1, 0, 3753, 3752, 237, 193), (yX20_comesToNone, 8, none, 20, 1, 5, 3749, 3748, 237, 192), (yX20_beginner, 3, some .int, 20, 1, 1, 3925, 3924, 237, 194), (yX20_comes, 4, none, 20, 1, 2, 3321, 3320, 237, 111)]
def am_mds18 : List am_M := [(yX20_establishes, 2, none, 20, 1, 1, 3348, 3347, 237, 116), (yX20_answers, 4, none, 20, 1, 2, 3325, 3324, 237, 112), (yX20_answerer, 4, some .int, 20, 1, 1, 3344, 3343, 237, 115), (yX20_isAcknowledged, 4, some .boolean, 20, 1, 1, 3407, 3406, 237, 122), (yX20_grows, 2, none, 20, 0, 1, 3410, 3409, 237, 0), (yX20_measures, 4, none, 20, 1, 1, 3415, 3414, 237, 123), (yX20_isFinGone, 2, some .boolean, 20, 1, 1, 3431, 3430, 237, 126), (yX20_takesBytes, 7, none, 20, 1, 1, 3435, 3434, 237, 127), (yX20_keeps_, 5, none, 20, 1, 2, 3439, 3438, 237, 128), (yX20_putsInOrder, 5, none, 20, 0, 1, 3461, 3460, 237, 0), (yX20_finComes, 2, none, 20, 1, 1, 3465, 3464, 237, 129), (yX20_isToRead, 2, some .int, 20, 1, 1, 3497, 3496, 237, 137), (yX20_reads, 4, none, 20, 1, 2, 3506, 3505, 237, 139), (yX20_takes_, 4, some .int, 20, 1, 1, 3502, 3501, 237, 138), (yX20_hasEnded, 2, some .boolean, 20, 1, 1, 3741, 3740, 237, 191), (yX20_room, 2, some .int, 20, 1, 1, 3485, 3484, 237, 134), (yX20_writes, 3, none, 20, 1, 2, 3489, 3488, 237, 135), (yX20_isOpen, 2, some .boolean, 20, 1, 1, 3477, 3476, 237, 132), (yX20_closes, 3, none, 20, 1, 1, 3493, 3492, 237, 136), (yX20_aborts, 2, none, 20, 1, 1, 4068, 4067, 237, 203)]
def am_mds19 : List am_M := [(yX20_hostOfLine, 2, some .int, 20, 1, 1, 4201, 4200, 237, 216), (yX20_writtenMany, 2, some .int, 20, 1, 1, 4181, 4180, 237, 211), (yX20_writtenAt, 3, some .int, 20, 1, 2, 4185, 4184, 237, 212), (yX20_readMany, 2, some .int, 20, 1, 1, 4193, 4192, 237, 214), (yX20_readByte, 3, some .int, 20, 1, 2, 4197, 4196, 237, 215), (yX20_otherEnd, 2, some .int, 20, 1, 1, 4177, 4176, 237, 210), (yX20_isHost, 2, some .boolean, 20, 1, 1, 3081, 3080, 237, 85), (yX20_connect, 5, some .int, 20, 1, 3, 4094, 4092, 237, 4093), (yX20_canWrite, 2, some .boolean, 20, 1, 1, 4102, 4101, 237, 206), (yX20_write, 6, some .int, 20, 1, 1, 4098, 4096, 237, 4097), (yX20_read, 6, some .int, 20, 1, 2, 4118, 4116, 237, 4117), (yX20_readAt, 3, some .int, 20, 1, 2, 4122, 4120, 237, 4121), (yX20_close, 6, some .int, 20, 1, 2, 4126, 4124, 237, 4125), (yX20_connectionAt, 4, some .int, 20, 1, 2, 4130, 4128, 237, 4129), (yX20_countOfLines, 4, some .int, 20, 1, 1, 4157, 4156, 237, 207), (yX20_lineErrors, 8, some .int, 20, 1, 0, 4221, 4220, 237, 219), (yX20_textLong, 2, some .int, 20, 1, 1, 3558, 3557, 237, 148), (yX20_textAt, 3, some .int, 20, 1, 2, 3565, 3564, 237, 149), (yX20_beginsRequest, 2, none, 20, 1, 1, 3473, 3472, 237, 131), (yX20_isGreat, 1, some .boolean, 20, 0, 1, 3521, 3520, 237, 0)]
def am_mds20 : List am_M := [(yX20_isSmall, 1, some .boolean, 20, 0, 1, 3528, 3527, 237, 0), (yX20_small, 1, some .int, 20, 0, 1, 3561, 3560, 237, 0), (yX20_fitting, 8, some .int, 20, 1, 4, 3585, 3584, 237, 154), (yX20_through, 6, some .int, 20, 1, 3, 3581, 3580, 237, 153), (yX20_nextWord, 4, none, 20, 1, 3, 3593, 3592, 237, 156), (yX20_looksAt, 3, some .int, 20, 1, 2, 3510, 3509, 237, 140), (yX20_looksInLine, 4, some .int, 20, 1, 2, 3514, 3513, 237, 141), (yX20_stands, 3, some .boolean, 20, 1, 2, 3518, 3517, 237, 142), (yX20_takesMethod, 3, none, 20, 1, 2, 3577, 3576, 237, 152), (yX20_takesTarget, 3, none, 20, 1, 2, 3589, 3588, 237, 155), (yX20_takesVersion, 5, none, 20, 1, 2, 3597, 3596, 237, 157), (yX20_looksAtLine, 3, some .int, 20, 1, 2, 3610, 3609, 237, 160), (yX20_takesName, 3, none, 20, 1, 2, 3602, 3601, 237, 158), (yX20_takesValue, 3, none, 20, 1, 2, 3606, 3605, 237, 159), (yX20_valueAt, 3, some .int, 20, 1, 2, 3547, 3546, 237, 146), (yX20_isValue, 5, some .boolean, 20, 1, 2, 3554, 3553, 237, 147), (yX20_endsLine, 2, none, 20, 1, 1, 3535, 3534, 237, 143), (yX20_number_, 4, some .int, 20, 1, 2, 3543, 3542, 237, 145), (yX20_tellsLength, 4, none, 20, 1, 1, 3539, 3538, 237, 144), (yX20_tagOf, 4, some .int, 20, 1, 1, 3569, 3568, 237, 150)]
def am_mds21 : List am_M := [(yX20_tellsRange, 8, none, 20, 1, 1, 3573, 3572, 237, 151), (yX20_endsHead, 3, some .int, 20, 1, 1, 3614, 3613, 237, 161), (yX20_takesBody, 3, none, 20, 1, 2, 3618, 3617, 237, 162), (yX20_hexadecimal, 1, some .int, 20, 0, 1, 3633, 3632, 237, 0), (yX20_goesTo, 3, some .int, 20, 1, 2, 3630, 3629, 237, 165), (yX20_looksInChunks, 3, some .int, 20, 1, 2, 3622, 3621, 237, 163), (yX20_looksAtSize, 3, some .int, 20, 1, 2, 3626, 3625, 237, 164), (yX20_targetAt, 3, some .int, 20, 1, 2, 3661, 3660, 237, 171), (yX20_targetKind, 5, some .int, 20, 1, 1, 3657, 3656, 237, 170), (yX20_compares, 6, some .int, 20, 1, 2, 3669, 3668, 237, 173), (yX20_fileOf, 5, some .int, 20, 1, 2, 3665, 3664, 237, 172), (yX20_copiesFile, 4, none, 20, 1, 2, 3689, 3688, 237, 178), (yX20_newFile, 6, some .int, 20, 1, 2, 3685, 3684, 237, 177), (yX20_dropsFile, 4, none, 20, 1, 2, 3701, 3700, 237, 181), (yX20_putsBody, 5, none, 20, 1, 3, 3693, 3692, 237, 179), (yX20_fitsTag, 3, some .boolean, 20, 1, 2, 3681, 3680, 237, 176), (yX20_isRefused, 3, some .boolean, 20, 1, 2, 3677, 3676, 237, 175), (yX20_isDone, 7, some .int, 20, 1, 2, 3653, 3652, 237, 169), (yX20_isPut, 5, some .int, 20, 1, 3, 3673, 3672, 237, 174), (yX20_range, 6, some .int, 20, 1, 2, 3697, 3696, 237, 180)]
def am_mds22 : List am_M := [(yX20_grown, 3, some (.array .int), 20, 0, 1, 3641, 3640, 237, 0), (yX20_says, 2, none, 20, 1, 1, 3721, 3720, 237, 186), (yX20_saysText, 3, none, 20, 1, 1, 3717, 3716, 237, 185), (yX20_saysNumber, 3, none, 20, 1, 1, 3725, 3724, 237, 187), (yX20_saysLineEnd, 1, none, 20, 1, 0, 3729, 3728, 237, 188), (yX20_wordOf, 4, some .int, 20, 1, 1, 3709, 3708, 237, 183), (yX20_listLong, 4, some .int, 20, 1, 1, 3713, 3712, 237, 184), (yX20_answers_, 12, none, 20, 1, 5, 3705, 3704, 237, 182), (yX20_saysPart, 2, none, 20, 1, 1, 3733, 3732, 237, 189), (yX20_saysList, 5, none, 20, 1, 1, 3737, 3736, 237, 190), (yX20_does, 6, some .int, 20, 1, 3, 3649, 3648, 237, 168), (yX20_isLast, 3, some .boolean, 20, 1, 2, 3645, 3644, 237, 167), (yX20_serves, 6, none, 20, 1, 1, 3469, 3468, 237, 130), (yX20_writesOn, 3, none, 20, 1, 1, 3481, 3480, 237, 133), (yX20_servesOne, 4, none, 20, 1, 2, 3638, 3637, 237, 166), (yX20_fileAt, 3, some .int, 20, 1, 2, 4135, 4133, 237, 4134), (yX20_fileByteAt, 5, some .int, 20, 1, 3, 4140, 4138, 237, 4139), (yX20_servedAt, 3, some .int, 20, 1, 2, 4144, 4142, 237, 4143), (yX20_answerAt, 4, some .int, 20, 1, 2, 4148, 4146, 237, 4147), (yX20_servedWell, 3, some .int, 20, 1, 0, 4161, 4160, 237, 208)]
def am_mds23 : List am_M := [(yX20_count, 2, some .int, 20, 1, 1, 4152, 4150, 237, 4151), (yX20_isSameRequest, 8, some .boolean, 20, 1, 1, 4173, 4172, 237, 209), (yX20_isReadAsAnswered, 5, some .boolean, 20, 1, 2, 4189, 4188, 237, 213), (yX20_areFilesAlike, 4, some .boolean, 20, 1, 0, 4205, 4204, 237, 217), (yX20_agrees, 3, some .boolean, 20, 1, 0, 4169, 4167, 237, 4168), (yX20_errors, 1, some .int, 20, 1, 0, 4209, 4207, 237, 4208), (yX20_deliveredShare, 1, some .double, 20, 1, 0, 4225, 4223, 237, 4224), (yX20_meanAnswer, 3, some .float, 20, 1, 0, 4229, 4227, 237, 4228), (yL_type, 15, some .int, 21, 3, 8, 1243, 1242, 220, 0), (yL_put, 5, some .int, 21, 3, 4, 1328, 1327, 220, 0), (yL_piece, 4, some .int, 21, 3, 3, 1352, 1351, 220, 0), (yL_sum, 5, some .int, 21, 3, 4, 1371, 1370, 220, 0), (yL_addHost, 5, some .int, 21, 3, 4, 1396, 1395, 220, 0), (yL_setMtu, 5, some .int, 21, 3, 4, 1405, 1404, 220, 0), (yL_hostAt, 5, some .int, 21, 3, 4, 1418, 1417, 220, 0), (yL_tableAt, 5, some .int, 21, 3, 4, 1426, 1425, 220, 0), (yL_deliver, 4, some .int, 21, 3, 3, 1442, 1441, 220, 0), (yL_lose, 4, some .int, 21, 3, 3, 2331, 2330, 220, 0), (yL_twice, 4, some .int, 21, 3, 3, 2344, 2343, 220, 0), (yL_spoil, 6, some .int, 21, 3, 5, 2357, 2356, 220, 0)]
def am_mds24 : List am_M := [(yL_frameAt, 5, some .int, 21, 3, 4, 2371, 2370, 220, 0), (yL_byteAt, 5, some .int, 21, 3, 4, 2380, 2379, 220, 0), (yL_pass, 4, some .int, 21, 3, 3, 2388, 2387, 220, 0), (yL_settle, 4, some .int, 21, 3, 3, 2422, 2421, 220, 0), (yL_play, 5, some .int, 21, 3, 4, 2435, 2434, 220, 0), (yL_echo, 6, some .int, 21, 3, 5, 2450, 2449, 220, 0), (yL_isAnswered, 4, some .int, 21, 3, 3, 2464, 2463, 220, 0), (yL_name, 4, some .int, 21, 3, 3, 2472, 2471, 220, 0), (yL_lookUp, 4, some .int, 21, 3, 3, 2485, 2484, 220, 0), (yL_askAgain, 3, some .int, 21, 3, 2, 2494, 2493, 220, 0), (yL_found, 4, some .int, 21, 3, 3, 2503, 2502, 220, 0), (yL_connect, 6, some .int, 21, 3, 5, 2510, 2509, 220, 0), (yL_write, 4, some .int, 21, 3, 3, 2524, 2523, 220, 0), (yL_read, 5, some .int, 21, 3, 4, 2545, 2544, 220, 0), (yL_readAt, 5, some .int, 21, 3, 4, 2554, 2553, 220, 0), (yL_close, 5, some .int, 21, 3, 4, 2561, 2560, 220, 0), (yL_connectionAt, 5, some .int, 21, 3, 4, 2570, 2569, 220, 0), (yL_fileAt, 5, some .int, 21, 3, 4, 2583, 2582, 220, 0), (yL_fileByteAt, 6, some .int, 21, 3, 5, 2592, 2591, 220, 0), (yL_servedAt, 5, some .int, 21, 3, 4, 2599, 2598, 220, 0)]
def am_mds25 : List am_M := [(yL_answerAt, 5, some .int, 21, 3, 4, 2608, 2607, 220, 0), (yL_count, 4, some .int, 21, 3, 3, 2615, 2614, 220, 0), (yJx4a65c_init_da8c8, 1, none, 22, 2, 0, 452, 451, 228, 0), (yJx4a65c_grow_92f84, 4, some (.array (.object "java/lang/Object")), 22, 1, 1, 751, 750, 228, 2), (yJx4a65c_grow_d5877, 1, some (.array (.object "java/lang/Object")), 22, 1, 0, 747, 746, 228, 1), (yJx4a65c_size_8abf5, 1, some .int, 22, 1, 0, 906, 904, 228, 905), (yJx4a65c_elementData_915e3, 2, some (.object "java/lang/Object"), 22, 1, 1, 920, 918, 228, 919), (yJx4a65c_get_915e3, 2, some (.object "java/lang/Object"), 22, 1, 1, 910, 908, 228, 909), (yJx4a65c_add_72be8, 4, none, 22, 1, 3, 743, 742, 228, 0), (yJx4a65c_add_9ea2d, 2, some .boolean, 22, 1, 1, 739, 737, 228, 738), (yJxc12de_init_da8c8, 1, none, 23, 2, 0, 455, 454, 227, 0), (yJxa1e45_init_da8c8, 1, none, 24, 2, 0, 458, 457, 226, 0), (yJ15_checkIndex_7cf53, 2, some .int, 25, 0, 2, 913, 912, 249, 0), (yJ3_checkIndex_8e157, 3, some .int, 26, 0, 3, 916, 915, 246, 0), (yJ3_checkFromToIndex_8c36e, 4, some .int, 26, 0, 4, 1621, 1620, 246, 0), (yJ3_checkFromIndexSize_8c36e, 4, some .int, 26, 0, 4, 1653, 1652, 246, 0), (yJ7_rangeCheck_23922, 3, none, 27, 0, 3, 1543, 1542, 235, 0), (yJ7_fill_fda19, 5, none, 27, 0, 4, 1540, 1539, 235, 0), (yJ7_copyOf_1904c, 2, some (.array (.object "java/lang/Object")), 27, 0, 2, 764, 763, 235, 0), (yJ7_copyOf_6403c, 4, some (.array (.object "java/lang/Object")), 27, 0, 3, 799, 798, 235, 0)]
def am_mds26 : List am_M := [(yJ7_copyOf_9075b, 3, some (.array .byte), 27, 0, 2, 1599, 1598, 235, 0), (yJ7_copyOf_59c91, 3, some (.array .int), 27, 0, 2, 941, 940, 235, 0), (yJ7_copyOf_c38d5, 3, some (.array .long), 27, 0, 2, 1493, 1492, 235, 0), (yJ7_checkLength_df160, 2, none, 27, 0, 2, 1722, 1721, 235, 0), (yJ7_copyOfRange_39247, 3, some (.array .byte), 27, 0, 3, 1716, 1715, 235, 0), (yJ7_copyOfRangeByte_39247, 5, some (.array .byte), 27, 0, 3, 1719, 1718, 235, 0), (yJ0_init_81219, 2, none, 28, 2, 1, 1695, 1694, 244, 0), (yJ0_length_8abf5, 1, some .int, 28, 1, 0, 982, 980, 244, 981), (yJ0_charAt_5068e, 2, some .char, 28, 1, 1, 992, 990, 244, 991), (yJ0_getBytes_840e7, 4, none, 28, 1, 3, 1657, 1655, 244, 1656), (yJ0_init_db425, 5, none, 28, 2, 2, 1698, 1697, 244, 0), (yJ0_coder_7d493, 1, some .byte, 28, 1, 0, 986, 984, 244, 985), (yJ0_isLatin1_aae02, 1, some .boolean, 28, 1, 0, 996, 994, 244, 995), (yJ0_checkIndex_df160, 2, none, 28, 0, 2, 1002, 1001, 244, 0), (yJ0_checkBoundsOffCount_cabcc, 3, some .int, 28, 0, 3, 1650, 1649, 244, 0), (yJ0_checkBoundsBeginEnd_23922, 3, none, 28, 0, 3, 1618, 1617, 244, 0), (yJ1_charAt_3b067, 2, some .char, 29, 0, 2, 999, 998, 245, 0), (yJ1_inflate_0e8fd, 5, none, 29, 0, 5, 1641, 1640, 245, 0), (yJ9_abs_0f7a4, 0, none, 0, 9, 0, 0, 0, 0, 0), (yJ9_max_7cf53, 0, none, 0, 9, 0, 0, 0, 0, 0)]
def am_mds27 : List am_M := [(yJ9_min_7cf53, 0, none, 0, 9, 0, 0, 0, 0, 0)]
def am_mds : List am_M := am_mds0 ++ (am_mds1 ++ (am_mds2 ++ (am_mds3 ++ (am_mds4 ++ (am_mds5 ++ (am_mds6 ++ (am_mds7 ++ (am_mds8 ++ (am_mds9 ++ (am_mds10 ++ (am_mds11 ++ (am_mds12 ++ (am_mds13 ++ (am_mds14 ++ (am_mds15 ++ (am_mds16 ++ (am_mds17 ++ (am_mds18 ++ (am_mds19 ++ (am_mds20 ++ (am_mds21 ++ (am_mds22 ++ (am_mds23 ++ (am_mds24 ++ (am_mds25 ++ (am_mds26 ++ (am_mds27)))))))))))))))))))))))))))
def am_mk (q : am_M) : Nat := q.2.2.2.2.1
def am_mn (q : am_M) : Nat := q.2.2.2.2.2.1
def am_isC (q : am_M) : Option Jvm.Cond → Bool
  | some (.code y _ m r) => am_mk q != 3 && decide (y = q.1) && decide (m = q.2.1) && decide (r = q.2.2.1)
  | some (.codeWith y _ m r _) => am_mk q == 3 && decide (y = q.1) && decide (m = q.2.1) && decide (r = q.2.2.1)
  | _ => false
def am_byO : Option Jvm.Cond → ByteArray
  | some (.code _ b _ _) => b
  | some (.codeWith _ b _ _ _) => b
  | _ => ⟨#[]⟩
def am_by (q : am_M) : ByteArray := am_byO lw_tbl[q.2.2.2.2.2.2.1]?
def am_ckM (q : am_M) : Bool :=
  am_mk q == 9 ||
  (am_isC q (lw_tbl[q.2.2.2.2.2.2.1]?) &&
  decide (lw_tbl[q.2.2.2.2.2.2.2.1]? = some (if am_mk q = 0 ∨ am_mk q = 3 then Jvm.Cond.static q.1 else Jvm.Cond.instanceMethod q.1)) &&
  decide (lw_tbl[q.2.2.2.2.2.2.2.2.1]? = some (Jvm.Cond.initialized q.1.cls)) &&
  (am_mk q != 1 || decide (lw_tbl[q.2.2.2.2.2.2.2.2.2]? = some (Jvm.Cond.selects q.1.cls q.1 q.1))) &&
  plainName q.1.cls && decide (q.1.cls ≠ "java/lang/invoke/MethodHandle" ∧ q.1.cls ≠ "java/lang/invoke/VarHandle") &&
  decide ((parseMethodDescriptor q.1.desc).map (fun d => d.parameters.length) = some (am_mn q)) &&
  decide (q.2.1 ≤ 61) && (am_mk q != 2 || (decide (q.1.name = "<init>") && decide (q.2.2.1 = none))))
theorem am_ckM0 : am_mds0.all am_ckM = true := by decide +kernel
theorem am_ckM1 : am_mds1.all am_ckM = true := by decide +kernel
theorem am_ckM2 : am_mds2.all am_ckM = true := by decide +kernel
theorem am_ckM3 : am_mds3.all am_ckM = true := by decide +kernel
theorem am_ckM4 : am_mds4.all am_ckM = true := by decide +kernel
theorem am_ckM5 : am_mds5.all am_ckM = true := by decide +kernel
theorem am_ckM6 : am_mds6.all am_ckM = true := by decide +kernel
theorem am_ckM7 : am_mds7.all am_ckM = true := by decide +kernel
theorem am_ckM8 : am_mds8.all am_ckM = true := by decide +kernel
theorem am_ckM9 : am_mds9.all am_ckM = true := by decide +kernel
theorem am_ckM10 : am_mds10.all am_ckM = true := by decide +kernel
theorem am_ckM11 : am_mds11.all am_ckM = true := by decide +kernel
theorem am_ckM12 : am_mds12.all am_ckM = true := by decide +kernel
theorem am_ckM13 : am_mds13.all am_ckM = true := by decide +kernel
theorem am_ckM14 : am_mds14.all am_ckM = true := by decide +kernel
theorem am_ckM15 : am_mds15.all am_ckM = true := by decide +kernel
theorem am_ckM16 : am_mds16.all am_ckM = true := by decide +kernel
theorem am_ckM17 : am_mds17.all am_ckM = true := by decide +kernel
theorem am_ckM18 : am_mds18.all am_ckM = true := by decide +kernel
theorem am_ckM19 : am_mds19.all am_ckM = true := by decide +kernel
theorem am_ckM20 : am_mds20.all am_ckM = true := by decide +kernel
theorem am_ckM21 : am_mds21.all am_ckM = true := by decide +kernel
theorem am_ckM22 : am_mds22.all am_ckM = true := by decide +kernel
theorem am_ckM23 : am_mds23.all am_ckM = true := by decide +kernel
theorem am_ckM24 : am_mds24.all am_ckM = true := by decide +kernel
theorem am_ckM25 : am_mds25.all am_ckM = true := by decide +kernel
theorem am_ckM26 : am_mds26.all am_ckM = true := by decide +kernel
theorem am_ckM27 : am_mds27.all am_ckM = true := by decide +kernel
theorem am_ckM_all : ∀ q : am_M, q ∈ am_mds → am_ckM q = true := by
  have h : am_mds.all am_ckM = true := by simp only [am_mds, List.all_append, am_ckM0, am_ckM1, am_ckM2, am_ckM3, am_ckM4, am_ckM5, am_ckM6, am_ckM7, am_ckM8, am_ckM9, am_ckM10, am_ckM11, am_ckM12, am_ckM13, am_ckM14, am_ckM15, am_ckM16, am_ckM17, am_ckM18, am_ckM19, am_ckM20, am_ckM21, am_ckM22, am_ckM23, am_ckM24, am_ckM25, am_ckM26, am_ckM27, Bool.and_self]
  exact List.all_eq_true.mp h
def am_cm (own : String) (q : Nat × Nat × Nat × Nat) : Bool :=
  match q.2.1 with
  | 7 => match am_mds[q.2.2.1]? with
    | some r => decide (lw_tbl[q.2.2.2]? = some (Jvm.Cond.methodLink own q.1 r.1))
    | none => false
  | 8 => match am_mds[q.2.2.1]? with
    | some r => match am_nm[q.2.2.2]? with
      | some z => decide ((z.1, z.2.1, z.2.2.1) = (own, q.1, r.1))
      | none => false
    | none => false
  | _ => true
theorem am_cm_0_0 : am_tb0_0.all (am_cm RX0) = true := by decide +kernel
theorem am_cm_0_1 : am_tb0_1.all (am_cm RX0) = true := by decide +kernel
theorem am_cm_0_2 : am_tb0_2.all (am_cm RX0) = true := by decide +kernel
theorem am_cm_0_3 : am_tb0_3.all (am_cm RX0) = true := by decide +kernel
theorem am_cm_0 : am_tb0.all (am_cm RX0) = true := by simp only [am_tb0, List.all_append, am_cm_0_0, am_cm_0_1, am_cm_0_2, am_cm_0_3, Bool.and_self]
theorem am_cm_1_0 : am_tb1_0.all (am_cm RX1) = true := by decide +kernel
theorem am_cm_1 : am_tb1.all (am_cm RX1) = true := by simp only [am_tb1, List.all_append, am_cm_1_0, Bool.and_self]
theorem am_cm_2_0 : am_tb2_0.all (am_cm RX2) = true := by decide +kernel
theorem am_cm_2 : am_tb2.all (am_cm RX2) = true := by simp only [am_tb2, List.all_append, am_cm_2_0, Bool.and_self]
theorem am_cm_3_0 : am_tb3_0.all (am_cm RX3) = true := by decide +kernel
theorem am_cm_3_1 : am_tb3_1.all (am_cm RX3) = true := by decide +kernel
theorem am_cm_3_2 : am_tb3_2.all (am_cm RX3) = true := by decide +kernel
theorem am_cm_3 : am_tb3.all (am_cm RX3) = true := by simp only [am_tb3, List.all_append, am_cm_3_0, am_cm_3_1, am_cm_3_2, Bool.and_self]
theorem am_cm_4_0 : am_tb4_0.all (am_cm RX4) = true := by decide +kernel
theorem am_cm_4_1 : am_tb4_1.all (am_cm RX4) = true := by decide +kernel
theorem am_cm_4_2 : am_tb4_2.all (am_cm RX4) = true := by decide +kernel
theorem am_cm_4 : am_tb4.all (am_cm RX4) = true := by simp only [am_tb4, List.all_append, am_cm_4_0, am_cm_4_1, am_cm_4_2, Bool.and_self]
theorem am_cm_5_0 : am_tb5_0.all (am_cm RX5) = true := by decide +kernel
theorem am_cm_5_1 : am_tb5_1.all (am_cm RX5) = true := by decide +kernel
theorem am_cm_5 : am_tb5.all (am_cm RX5) = true := by simp only [am_tb5, List.all_append, am_cm_5_0, am_cm_5_1, Bool.and_self]
theorem am_cm_6_0 : am_tb6_0.all (am_cm RX6) = true := by decide +kernel
theorem am_cm_6 : am_tb6.all (am_cm RX6) = true := by simp only [am_tb6, List.all_append, am_cm_6_0, Bool.and_self]
theorem am_cm_7_0 : am_tb7_0.all (am_cm RX7) = true := by decide +kernel
theorem am_cm_7 : am_tb7.all (am_cm RX7) = true := by simp only [am_tb7, List.all_append, am_cm_7_0, Bool.and_self]
theorem am_cm_8_0 : am_tb8_0.all (am_cm RX8) = true := by decide +kernel
theorem am_cm_8 : am_tb8.all (am_cm RX8) = true := by simp only [am_tb8, List.all_append, am_cm_8_0, Bool.and_self]
theorem am_cm_9_0 : am_tb9_0.all (am_cm RX9) = true := by decide +kernel
theorem am_cm_9_1 : am_tb9_1.all (am_cm RX9) = true := by decide +kernel
theorem am_cm_9 : am_tb9.all (am_cm RX9) = true := by simp only [am_tb9, List.all_append, am_cm_9_0, am_cm_9_1, Bool.and_self]
theorem am_cm_10_0 : am_tb10_0.all (am_cm RX10) = true := by decide +kernel
theorem am_cm_10_1 : am_tb10_1.all (am_cm RX10) = true := by decide +kernel
theorem am_cm_10 : am_tb10.all (am_cm RX10) = true := by simp only [am_tb10, List.all_append, am_cm_10_0, am_cm_10_1, Bool.and_self]
theorem am_cm_11_0 : am_tb11_0.all (am_cm RX11) = true := by decide +kernel
theorem am_cm_11_1 : am_tb11_1.all (am_cm RX11) = true := by decide +kernel
theorem am_cm_11_2 : am_tb11_2.all (am_cm RX11) = true := by decide +kernel
theorem am_cm_11_3 : am_tb11_3.all (am_cm RX11) = true := by decide +kernel
theorem am_cm_11_4 : am_tb11_4.all (am_cm RX11) = true := by decide +kernel
theorem am_cm_11_5 : am_tb11_5.all (am_cm RX11) = true := by decide +kernel
theorem am_cm_11_6 : am_tb11_6.all (am_cm RX11) = true := by decide +kernel
theorem am_cm_11_7 : am_tb11_7.all (am_cm RX11) = true := by decide +kernel
theorem am_cm_11_8 : am_tb11_8.all (am_cm RX11) = true := by decide +kernel
theorem am_cm_11 : am_tb11.all (am_cm RX11) = true := by simp only [am_tb11, List.all_append, am_cm_11_0, am_cm_11_1, am_cm_11_2, am_cm_11_3, am_cm_11_4, am_cm_11_5, am_cm_11_6, am_cm_11_7, am_cm_11_8, Bool.and_self]
theorem am_cm_12_0 : am_tb12_0.all (am_cm RX12) = true := by decide +kernel
theorem am_cm_12 : am_tb12.all (am_cm RX12) = true := by simp only [am_tb12, List.all_append, am_cm_12_0, Bool.and_self]
theorem am_cm_13_0 : am_tb13_0.all (am_cm RX13) = true := by decide +kernel
theorem am_cm_13 : am_tb13.all (am_cm RX13) = true := by simp only [am_tb13, List.all_append, am_cm_13_0, Bool.and_self]
theorem am_cm_14_0 : am_tb14_0.all (am_cm RX14) = true := by decide +kernel
theorem am_cm_14 : am_tb14.all (am_cm RX14) = true := by simp only [am_tb14, List.all_append, am_cm_14_0, Bool.and_self]
theorem am_cm_15_0 : am_tb15_0.all (am_cm RX15) = true := by decide +kernel
theorem am_cm_15 : am_tb15.all (am_cm RX15) = true := by simp only [am_tb15, List.all_append, am_cm_15_0, Bool.and_self]
theorem am_cm_16_0 : am_tb16_0.all (am_cm RX16) = true := by decide +kernel
theorem am_cm_16 : am_tb16.all (am_cm RX16) = true := by simp only [am_tb16, List.all_append, am_cm_16_0, Bool.and_self]
theorem am_cm_17_0 : am_tb17_0.all (am_cm RX17) = true := by decide +kernel
theorem am_cm_17_1 : am_tb17_1.all (am_cm RX17) = true := by decide +kernel
theorem am_cm_17 : am_tb17.all (am_cm RX17) = true := by simp only [am_tb17, List.all_append, am_cm_17_0, am_cm_17_1, Bool.and_self]
theorem am_cm_18_0 : am_tb18_0.all (am_cm RX18) = true := by decide +kernel
theorem am_cm_18 : am_tb18.all (am_cm RX18) = true := by simp only [am_tb18, List.all_append, am_cm_18_0, Bool.and_self]
theorem am_cm_19_0 : am_tb19_0.all (am_cm RX19) = true := by decide +kernel
theorem am_cm_19 : am_tb19.all (am_cm RX19) = true := by simp only [am_tb19, List.all_append, am_cm_19_0, Bool.and_self]
theorem am_cm_20_0 : am_tb20_0.all (am_cm RX20) = true := by decide +kernel
theorem am_cm_20_1 : am_tb20_1.all (am_cm RX20) = true := by decide +kernel
theorem am_cm_20_2 : am_tb20_2.all (am_cm RX20) = true := by decide +kernel
theorem am_cm_20_3 : am_tb20_3.all (am_cm RX20) = true := by decide +kernel
theorem am_cm_20_4 : am_tb20_4.all (am_cm RX20) = true := by decide +kernel
theorem am_cm_20_5 : am_tb20_5.all (am_cm RX20) = true := by decide +kernel
theorem am_cm_20_6 : am_tb20_6.all (am_cm RX20) = true := by decide +kernel
theorem am_cm_20_7 : am_tb20_7.all (am_cm RX20) = true := by decide +kernel
theorem am_cm_20_8 : am_tb20_8.all (am_cm RX20) = true := by decide +kernel
theorem am_cm_20_9 : am_tb20_9.all (am_cm RX20) = true := by decide +kernel
theorem am_cm_20_10 : am_tb20_10.all (am_cm RX20) = true := by decide +kernel
theorem am_cm_20_11 : am_tb20_11.all (am_cm RX20) = true := by decide +kernel
theorem am_cm_20_12 : am_tb20_12.all (am_cm RX20) = true := by decide +kernel
theorem am_cm_20_13 : am_tb20_13.all (am_cm RX20) = true := by decide +kernel
theorem am_cm_20_14 : am_tb20_14.all (am_cm RX20) = true := by decide +kernel
theorem am_cm_20 : am_tb20.all (am_cm RX20) = true := by simp only [am_tb20, List.all_append, am_cm_20_0, am_cm_20_1, am_cm_20_2, am_cm_20_3, am_cm_20_4, am_cm_20_5, am_cm_20_6, am_cm_20_7, am_cm_20_8, am_cm_20_9, am_cm_20_10, am_cm_20_11, am_cm_20_12, am_cm_20_13, am_cm_20_14, Bool.and_self]
theorem am_cm_21_0 : am_tb21_0.all (am_cm RL) = true := by decide +kernel
theorem am_cm_21_1 : am_tb21_1.all (am_cm RL) = true := by decide +kernel
theorem am_cm_21_2 : am_tb21_2.all (am_cm RL) = true := by decide +kernel
theorem am_cm_21_3 : am_tb21_3.all (am_cm RL) = true := by decide +kernel
theorem am_cm_21 : am_tb21.all (am_cm RL) = true := by simp only [am_tb21, List.all_append, am_cm_21_0, am_cm_21_1, am_cm_21_2, am_cm_21_3, Bool.and_self]
theorem am_cm_22_0 : am_tb22_0.all (am_cm RJx4a65c) = true := by decide +kernel
theorem am_cm_22 : am_tb22.all (am_cm RJx4a65c) = true := by simp only [am_tb22, List.all_append, am_cm_22_0, Bool.and_self]
theorem am_cm_23_0 : am_tb23_0.all (am_cm RJxc12de) = true := by decide +kernel
theorem am_cm_23 : am_tb23.all (am_cm RJxc12de) = true := by simp only [am_tb23, List.all_append, am_cm_23_0, Bool.and_self]
theorem am_cm_24_0 : am_tb24_0.all (am_cm RJxa1e45) = true := by decide +kernel
theorem am_cm_24 : am_tb24.all (am_cm RJxa1e45) = true := by simp only [am_tb24, List.all_append, am_cm_24_0, Bool.and_self]
theorem am_cm_25_0 : am_tb25_0.all (am_cm RJ15) = true := by decide +kernel
theorem am_cm_25 : am_tb25.all (am_cm RJ15) = true := by simp only [am_tb25, List.all_append, am_cm_25_0, Bool.and_self]
theorem am_cm_26_0 : am_tb26_0.all (am_cm RJ3) = true := by decide +kernel
theorem am_cm_26 : am_tb26.all (am_cm RJ3) = true := by simp only [am_tb26, List.all_append, am_cm_26_0, Bool.and_self]
theorem am_cm_27_0 : am_tb27_0.all (am_cm RJ7) = true := by decide +kernel
theorem am_cm_27 : am_tb27.all (am_cm RJ7) = true := by simp only [am_tb27, List.all_append, am_cm_27_0, Bool.and_self]
theorem am_cm_28_0 : am_tb28_0.all (am_cm RJ0) = true := by decide +kernel
theorem am_cm_28 : am_tb28.all (am_cm RJ0) = true := by simp only [am_tb28, List.all_append, am_cm_28_0, Bool.and_self]
theorem am_cm_29_0 : am_tb29_0.all (am_cm RJ1) = true := by decide +kernel
theorem am_cm_29 : am_tb29.all (am_cm RJ1) = true := by simp only [am_tb29, List.all_append, am_cm_29_0, Bool.and_self]
theorem am_cm_30_0 : am_tb30_0.all (am_cm RJ9) = true := by decide +kernel
theorem am_cm_30 : am_tb30.all (am_cm RJ9) = true := by simp only [am_tb30, List.all_append, am_cm_30_0, Bool.and_self]
theorem am_cm_all (cn : Nat) : ∀ q : Nat × Nat × Nat × Nat, q ∈ am_tb cn → am_cm (am_own cn) q = true := by
  match cn with
  | 0 => exact List.all_eq_true.mp am_cm_0
  | 1 => exact List.all_eq_true.mp am_cm_1
  | 2 => exact List.all_eq_true.mp am_cm_2
  | 3 => exact List.all_eq_true.mp am_cm_3
  | 4 => exact List.all_eq_true.mp am_cm_4
  | 5 => exact List.all_eq_true.mp am_cm_5
  | 6 => exact List.all_eq_true.mp am_cm_6
  | 7 => exact List.all_eq_true.mp am_cm_7
  | 8 => exact List.all_eq_true.mp am_cm_8
  | 9 => exact List.all_eq_true.mp am_cm_9
  | 10 => exact List.all_eq_true.mp am_cm_10
  | 11 => exact List.all_eq_true.mp am_cm_11
  | 12 => exact List.all_eq_true.mp am_cm_12
  | 13 => exact List.all_eq_true.mp am_cm_13
  | 14 => exact List.all_eq_true.mp am_cm_14
  | 15 => exact List.all_eq_true.mp am_cm_15
  | 16 => exact List.all_eq_true.mp am_cm_16
  | 17 => exact List.all_eq_true.mp am_cm_17
  | 18 => exact List.all_eq_true.mp am_cm_18
  | 19 => exact List.all_eq_true.mp am_cm_19
  | 20 => exact List.all_eq_true.mp am_cm_20
  | 21 => exact List.all_eq_true.mp am_cm_21
  | 22 => exact List.all_eq_true.mp am_cm_22
  | 23 => exact List.all_eq_true.mp am_cm_23
  | 24 => exact List.all_eq_true.mp am_cm_24
  | 25 => exact List.all_eq_true.mp am_cm_25
  | 26 => exact List.all_eq_true.mp am_cm_26
  | 27 => exact List.all_eq_true.mp am_cm_27
  | 28 => exact List.all_eq_true.mp am_cm_28
  | 29 => exact List.all_eq_true.mp am_cm_29
  | 30 => exact List.all_eq_true.mp am_cm_30
  | k + 31 => exact fun q h => absurd h List.not_mem_nil
end
section
/-! THE LINK: what blocks of abstract instructions stand for which bytes, as a program decides it -/
def am_find : List (Nat × Nat × Nat × Nat) → Nat → Option (Nat × Nat × Nat × Nat)
  | [], _ => none
  | q :: r, i => if q.1 = i then some q else am_find r i
/-- is the entry i of class cn of kind k, with the number a? -/
def am_en (cn i k a : Nat) : Bool := match am_find (am_tb cn) i with
  | some q => q.2.1 == k && q.2.2.1 == a
  | none => false
def am_fin (f : Nat) : Bool := match vwCl[f / 128]? with
  | some r => (r.2.1 (f % 128)).2.2.2
  | none => true
def am_dec (f : Nat) : String := match vwCl[f / 128]? with
  | some r => (r.2.1 (f % 128)).1
  | none => ""
def am_aok (k : Nat) : Bool := decide (104 ≤ k) && decide (k ≠ 199) && decide (am_kty k ∈ am_aot)
def am_cI (cn i : Nat) (n : Int) : Bool := am_en cn i 5 (n % 4294967296).toNat && decide (Int32.ofNat (n % 4294967296).toNat = Int32.ofInt n)
def am_cJ (cn i : Nat) (n : Int) : Bool := am_en cn i 6 (n % 18446744073709551616).toNat && decide (Int64.ofNat (n % 18446744073709551616).toNat = Int64.ofInt n)
def am_rl (cn nL : Nat) (ini : Bool) (c a : Instr) (len : Nat) : Bool :=
  match c with
  | .iadd => decide (a = .iadd) && decide (len = 1)
  | .isub => decide (a = .isub) && decide (len = 1)
  | .imul => decide (a = .imul) && decide (len = 1)
  | .iand => decide (a = .iand) && decide (len = 1)
  | .ior => decide (a = .ior) && decide (len = 1)
  | .ixor => decide (a = .ixor) && decide (len = 1)
  | .ishl => decide (a = .ishl) && decide (len = 1)
  | .ishr => decide (a = .ishr) && decide (len = 1)
  | .iushr => decide (a = .iushr) && decide (len = 1)
  | .ladd => decide (a = .ladd) && decide (len = 1)
  | .lsub => decide (a = .lsub) && decide (len = 1)
  | .lmul => decide (a = .lmul) && decide (len = 1)
  | .land => decide (a = .land) && decide (len = 1)
  | .lor => decide (a = .lor) && decide (len = 1)
  | .lcmp => decide (a = .lcmp) && decide (len = 1)
  | .lshl => decide (a = .lshl) && decide (len = 1)
  | .lushr => decide (a = .lushr) && decide (len = 1)
  | .idiv => decide (a = .idiv) && decide (len = 1)
  | .irem => decide (a = .irem) && decide (len = 1)
  | .ineg => decide (a = .ineg) && decide (len = 1)
  | .i2l => decide (a = .i2l) && decide (len = 1)
  | .l2i => decide (a = .l2i) && decide (len = 1)
  | .dup => decide (a = .dup) && decide (len = 1)
  | .pop => decide (a = .pop) && decide (len = 1)
  | .dup_x1 => decide (a = .dup_x1) && decide (len = 1)
  | .dup2 => decide (a = .dup2) && decide (len = 1)
  | .iaload => decide (a = .iaload) && decide (len = 1)
  | .laload => decide (a = .laload) && decide (len = 1)
  | .baload => decide (a = .baload) && decide (len = 1)
  | .aaload => decide (a = .aaload) && decide (len = 1)
  | .arraylength => decide (a = .arraylength) && decide (len = 1)
  | .iastore => decide (a = .iastore) && decide (len = 1)
  | .lastore => decide (a = .lastore) && decide (len = 1)
  | .bastore => decide (a = .bastore) && decide (len = 1)
  | .aastore => decide (a = .aastore) && decide (len = 1)
  | .aconst_null => decide (a = .aconst_null) && decide (len = 1)
  | .iconst n => decide (a = .iconst n) && decide (len = 1)
  | .bipush n => decide (a = .iconst n) && decide (len = 2) && decide ((Int8.ofInt n).toInt32 = Int32.ofInt n)
  | .sipush n => decide (a = .iconst n) && decide (len = 3) && decide ((Int16.ofInt n).toInt32 = Int32.ofInt n)
  | .lconst n => match a with
    | .jsr_w z => decide (len = 1) && decide (Int64.ofNat (n : Nat) = Int64.ofInt z)
    | _ => false
  | .ldc i => match a with
    | .iconst n => decide (len = 2) && am_cI cn i n
    | .ldc k => decide (len = 2) && am_en cn i 13 k
    | _ => false
  | .ldc_w i => match a with
    | .iconst n => decide (len = 3) && am_cI cn i n
    | .ldc k => decide (len = 3) && am_en cn i 13 k
    | _ => false
  | .ldc2_w i => match a with
    | .jsr_w n => decide (len = 3) && am_cJ cn i n
    | _ => false
  | .iload i => decide (a = .iload i) && decide (len = 2)
  | .iload_n i => decide (a = .iload i) && decide (len = 1)
  | .istore i => decide (a = .istore i) && decide (len = 2) && decide (i < nL)
  | .istore_n i => decide (a = .istore i) && decide (len = 1) && decide ((i : Nat) < nL)
  | .lload i => decide (a = .lload i) && decide (len = 2)
  | .lload_n i => decide (a = .lload i) && decide (len = 1)
  | .lstore i => decide (a = .lstore i) && decide (len = 2) && decide (i + 1 < nL)
  | .lstore_n i => decide (a = .lstore i) && decide (len = 1) && decide ((i : Nat) + 1 < nL)
  | .aload i => decide (a = .aload i) && decide (len = 2)
  | .aload_n i => decide (a = .aload i) && decide (len = 1)
  | .astore i => decide (a = .astore i) && decide (len = 2) && decide (i < nL)
  | .astore_n i => decide (a = .astore i) && decide (len = 1) && decide ((i : Nat) < nL)
  | .iinc i n => decide (a = .iinc i n) && decide (len = 3) && decide (i < nL)
  | .getfield i => match a with
    | .getfield f => decide (len = 3) && ((am_en cn i 1 f || am_en cn i 2 f) || (decide (f = 384) && am_en cn i 14 f) || (decide (f < 2) && am_en cn i 16 f))
    | _ => false
  | .getstatic i => match a with
    | .getstatic k => decide (len = 3) && decide (k < 2) && am_en cn i 15 k
    | _ => false
  | .i2c => decide (a = .i2c) && decide (len = 1)
  | .putfield i => match a with
    | .putfield f => decide (len = 3) && ((!am_fin f && (am_en cn i 1 f || am_en cn i 2 f)) || (decide (f = 384) && am_en cn i 14 f) || (am_fin f && ini && am_en cn i 1 f && decide (am_dec f = am_own cn)))
    | _ => false
  | .new i => match a with
    | .new ci => decide (len = 3) && am_en cn i 3 ci
    | _ => false
  | .newarray t => decide (a = .newarray t) && decide (len = 2)
  | .anewarray i => match a with
    | .anewarray k => decide (len = 3) && ((decide (k = 103) && am_en cn i 4 103) || (decide (k = 104) && am_en cn i 4 104) || (decide (200 ≤ k) && am_aok k && am_en cn i 3 (k - 200)))
    | _ => false
  | .checkcast i => match a with
    | .checkcast ci => decide (len = 3) && am_en cn i 3 ci
    | _ => false
  | .invokespecial i => match a with
    | .invokedynamic k => decide (len = 3) && am_en cn i 9 k
    | _ => false
  | .i2d => decide (a = .i2d) && decide (len = 1)
  | .i2f => decide (a = .i2f) && decide (len = 1)
  | .l2d => decide (a = .l2d) && decide (len = 1)
  | .f2d => decide (a = .f2d) && decide (len = 1)
  | .ddiv => decide (a = .ddiv) && decide (len = 1)
  | .fdiv => decide (a = .fdiv) && decide (len = 1)
  | .dcmp o => decide (a = .dcmp o) && decide (len = 1)
  | .dconst n => decide (a = .dconst n) && decide (len = 1) && decide (n = 0)
  | .fconst n => decide (a = .fconst n) && decide (len = 1) && decide (n = 0)
  | .dload i => decide (a = .dload i) && decide (len = 2)
  | .dload_n i => decide (a = .dload i) && decide (len = 1)
  | .dstore i => decide (a = .dstore i) && decide (len = 2) && decide (i + 1 < nL)
  | .dstore_n i => decide (a = .dstore i) && decide (len = 1) && decide ((i : Nat) + 1 < nL)
  | .invokestatic i => match a with
    | .jsr k => decide (len = 3) && ((decide (k = 0) && am_en cn i 10 0) || (decide (k = 1) && am_en cn i 11 0))
    | _ => false
  | _ => false
/-- a straight stretch stands for these bytes: where it ends -/
def am_lk (cn nL : Nat) (ini : Bool) (cc : ByteArray) : Nat → List Instr → Option Nat
  | pc, [] => some pc
  | pc, a :: r => match decode cc pc with
    | .ok q => if am_rl cn nL ini q.1 a q.2 = true then am_lk cn nL ini cc (pc + q.2) r else none
    | .error _ => none
/-- the block o begins at pc + off -/
def am_tg (starts : List Nat) (o : Int) (pc : Nat) (off : Int) : Bool := match starts[o.toNat]? with
  | some t => decide ((pc : Int) + off = (t : Int))
  | none => false
def am_nb (starts : List Nat) (bi pc : Nat) : Bool := decide (starts[bi + 1]? = some pc)
def am_tgs (starts : List Nat) (pc : Nat) : List Int → List Int → Bool
  | [], [] => true
  | o :: r, f :: s => am_tg starts o pc f && am_tgs starts pc r s
  | _, _ => false
def am_tgp (starts : List Nat) (pc : Nat) : List (Int × Int) → List (Int × Int) → Bool
  | [], [] => true
  | o :: r, f :: s => decide (o.1 = f.1) && am_tg starts o.2 pc f.2 && am_tgp starts pc r s
  | _, _ => false
def am_wi (cc : ByteArray) (pc : Nat) (f : Instr × Nat → Bool) : Bool := match decode cc pc with
  | .ok q => f q
  | .error _ => false
/-- how a call of y with n stands at pc (what the tables must say of it: 'ok') -/
def am_lt (cn : Nat) (ok : Instr → Nat → Nat → Bool) (cc : ByteArray) (starts : List Nat) (t : Instr) (bi pc : Nat) : Bool :=
  match t with
  | .nop => am_nb starts bi pc
  | .multianewarray _ _ => true
  | .goto o => am_wi cc pc fun q => match q.1 with
    | .goto off => decide (q.2 = 3) && am_tg starts o pc off
    | _ => false
  | .ifCond c o => am_wi cc pc fun q => match q.1 with
    | .ifCond c2 off => decide (c = c2) && decide (q.2 = 3) && am_tg starts o pc off && am_nb starts bi (pc + 3)
    | _ => false
  | .if_icmp c o => am_wi cc pc fun q => match q.1 with
    | .if_icmp c2 off => decide (c = c2) && decide (q.2 = 3) && am_tg starts o pc off && am_nb starts bi (pc + 3)
    | _ => false
  | .if_acmp c o => am_wi cc pc fun q => match q.1 with
    | .if_acmp c2 off => decide (c = c2) && decide (q.2 = 3) && am_tg starts o pc off && am_nb starts bi (pc + 3)
    | _ => false
  | .getstatic k => am_wi cc pc fun q => match q.1 with
    | .getstatic i => decide (q.2 = 3) && decide (k = 2) && am_en cn i 15 2 && am_nb starts bi (pc + 3)
    | _ => false
  | .ifnull o => am_wi cc pc fun q => match q.1 with
    | .ifnull off => decide (q.2 = 3) && am_tg starts o pc off && am_nb starts bi (pc + 3)
    | _ => false
  | .ifnonnull o => am_wi cc pc fun q => match q.1 with
    | .ifnonnull off => decide (q.2 = 3) && am_tg starts o pc off && am_nb starts bi (pc + 3)
    | _ => false
  | .tableswitch d lo hi offs => am_wi cc pc fun q => match q.1 with
    | .tableswitch d2 lo2 hi2 offs2 => decide (lo = lo2) && decide (hi = hi2) && am_tg starts d pc d2 && am_tgs starts pc offs.toList offs2.toList && decide ((hi - lo + 1).toNat = offs.size)
    | _ => false
  | .lookupswitch d ps => am_wi cc pc fun q => match q.1 with
    | .lookupswitch d2 ps2 => am_tg starts d pc d2 && am_tgp starts pc ps.toList ps2.toList && (ps2.toList.zip (ps2.toList.drop 1)).all (fun (a, next) => a.1 < next.1)
    | _ => false
  | .invokeinterface y n => am_wi cc pc fun q => decide (q.2 = 3) && ok q.1 y n && am_nb starts bi (pc + 3)
  | t => am_wi cc pc fun q => decide (q.1 = t) && decide (q.2 = 1)
def am_lb (cn nL : Nat) (ini : Bool) (ok : Instr → Nat → Nat → Bool) (cc : ByteArray) (starts : List Nat) : Nat → List (List Instr × Instr) → Bool
  | _, [] => true
  | bi, q :: r => (match starts[bi]? with
    | some pc => match am_lk cn nL ini cc pc q.1 with
      | some pe => am_lt cn ok cc starts q.2 bi pe
      | none => false
    | none => false) && am_lb cn nL ini ok cc starts (bi + 1) r
def am_okc (cn : Nat) (c : Instr) (y n : Nat) : Bool := match c with
  | .invokestatic i => match am_mds[y]? with
    | some q => (am_en cn i 7 y || am_en cn i 8 y) && (am_mk q == 0 || am_mk q == 3) && n % 64 == am_mn q
    | none => false
  | .invokevirtual i => match am_mds[y]? with
    | some q => (am_en cn i 7 y || am_en cn i 8 y) && am_mk q == 1 && n % 64 == am_mn q + 1 && ((n / 64 == 63 && decide (q.1.cls = "java/lang/String")) || (decide (3 ≤ n / 64) && decide (n / 64 < 63) && decide (am_clN (n / 64) = q.1.cls)))
    | none => false
  | .invokespecial i => match am_mds[y]? with
    | some q => (am_en cn i 7 y || am_en cn i 8 y) && am_mk q == 2 && n % 64 == am_mn q + 1 && decide (3 ≤ n / 64)
    | none => false
  | _ => false
abbrev am_Cd : Type := Nat × List (List Instr × Instr) × List Nat × List (Nat × Nat × Nat)
/-- a method's code stands for its bytes -/
def am_ckL (z : am_Cd) : Bool := match am_mds[z.1]? with
  | some q => am_mk q != 9 && decide (q.1.cls = am_own q.2.2.2.1) && decide (z.2.2.1[0]? = some 0) && am_lb q.2.2.2.1 q.2.1 (am_mk q == 2) (am_okc q.2.2.2.1) (am_by q) z.2.2.1 0 z.2.1
  | none => false
end
section
/-! ===== BEGIN exceptions that leave a method, and their catching by the caller (launches without stack traces) ===== -/
section VXA
/-! The laws vx_back, vx_callV, vx_callS, vx_callSW, vx_throw0, vx_throwS follow proofs of the library, with one case more: JvmDerived/Free/Laws.lean (Back.of_free), Shelf42/LK1.lean (callV, callS), Shelf/KitTraced.lean (throwNew0V, throwNewS). -/
/-- where a method has thrown q: the class by its name, the cell, what was written, the world -/
def vx_T (XC : String → State → State → Prop) (st : State) (q : Addr) (t : State) (mc ms : Nat) (free : Addr → Prop) : Prop :=
  ∃ (E : String) (ce : Cell) (L : List Loc), XC E st t ∧ t.heap[q]? = some ce ∧ ce.vm = .none ∧ st.vm.findClass E = some ce.cls ∧ st.WarmedH t.vm ∧ st.sameButNew ({ t with vm := st.vm } : State) L mc ms ∧ ∀ z ∈ L, free z.base
def vx_Q (Qc : Array Value → State → Outcome → State → Prop) (XC : String → State → State → Prop) (mc ms : Nat) (free : Addr → Prop) : Array Value → State → Outcome → State → Prop := fun a st o t =>
  (Qc a st o t ∧ ∃ L, FrameEnd st o t L mc ms ∧ ∀ q ∈ L, free q.base) ∨ ∃ q, o = .threw q ∧ vx_T XC st q t mc ms free
/-- a callee that returns or throws -/
def vx_Met (l : Launch) (y : MethodName) (ws : List Cond) (rm : Room) (Pc : Array Value → State → Prop) (Qc : Array Value → State → Outcome → State → Prop) (XC : String → State → State → Prop) (mc ms : Nat) (free : Addr → Prop) : Prop :=
  MetFree l y (headSpec ws rm) Pc (fun _ _ _ _ _ => True) (vx_Q Qc XC mc ms free)
def vx_Post (XC : String → State → State → Prop) (mc ms : Nat) (free : Addr → Prop) : Pt → Array Value → Addr → Pt → Prop := fun A a q B =>
  ∃ (g : JFrame) (mk : MethodId) (t : State) (L : List Loc) (E : String) (ce : Cell), B.U.heap = t.heap ∧ B.U.vm = t.vm ∧ XC E (A.U.calling g mk a) t ∧ t.heap[q]? = some ce ∧ ce.vm = .none ∧ A.U.vm.findClass E = some ce.cls ∧ B.locs = A.locs ++ L ∧ (∀ z ∈ L, free z.base) ∧ B.cells = A.cells + mc ∧ B.slots = A.slots + ms
def vx_Back (l : Launch) (R : Room) (p : Program) (e : Env) (below : List Frame) (s : State) (sargs : Array Value) (y : MethodName) (len W9 : Nat)
    (Pre : Pt → Array Value → Prop) (Post : Pt → Array Value → Option Value → Pt → Prop) (PostX : Pt → Array Value → Addr → Pt → Prop) : Prop :=
  ∀ (m : MethodId) (meth : Method) (c : Code) (A : Pt) (g : JFrame) (ig : Instr) (mk : MethodId) (a : Array Value),
    Stand p l e R s m sargs below meth c A.U A.locs A.cells A.slots → g.method = m → g.locals.size = c.maxLocals → decode c.code g.pc = .ok (ig, len) →
    2 * g.monitorRoom + (g.stack.map fun v => v.category).sum ≤ W9 → A.U.methodNamed? y = some mk → Pre A a →
    (∃ (v : Option Value) (B : Pt), Stand p l e R s m sargs below meth c B.U B.locs B.cells B.slots ∧ Post A a v B ∧
      Steps p.tables e below (doInvoke e (A.U.setTop g) [] mk a).1 (B.U.setTop { g with pc := g.pc + len, stack := v.toList ++ g.stack })) ∨
    (∃ (q : Addr) (B : Pt), Stand p l e R s m sargs below meth c B.U B.locs B.cells B.slots ∧ PostX A a q B ∧
      Steps p.tables e below (doInvoke e (A.U.setTop g) [] mk a).1 ((B.U.setTop g).pushFrame (.throwing q)))
section Payer
variable {l : Launch} {R : Room} {p : Program} {e : Env} {below : List Frame} {s : State} {sargs : Array Value} {y : MethodName} {len W9 : Nat}
theorem vx_back {ws : List Cond} {rm : Room} {Pc : Array Value → State → Prop} {Qc : Array Value → State → Outcome → State → Prop} {XC : String → State → State → Prop} {mc ms : Nat} {free : Addr → Prop} {bytes : ByteArray} {maxL : Nat} {ret : Option FieldType}
    (hM : vx_Met l y ws rm Pc Qc XC mc ms free) (hblind : FrameBlind Pc) (hrc : rm.cells = mc) (hrs : rm.slots = ms)
    (hframes : rm.frames + 1 ≤ R.frames) (hlocals : W9 + (maxL + 11) + rm.locals ≤ R.locals)
    (hws : ∀ w ∈ ws, ∀ a' U, s.WarmedH U.vm → w.before a' U = true) (hcode : Cond.code y bytes maxL ret ∈ ws) (hinit : ∀ a' U, s.WarmedH U.vm → (Cond.initialized y.cls).before a' U = true) :
    vx_Back l R p e below s sargs y len W9 (PreOf R mc ms Pc) (PostOf Qc mc ms free) (vx_Post XC mc ms free) := by
  intro m meth c A g ig mk a X hg hsize hdg hW hn hp
  have h1 : (headSpec ws rm).pre.before a A.U = true := atoms_intro fun w hw => hws w hw _ _ X.warmed
  have h2 : (Cond.code y bytes maxL ret).before a A.U = true := hws _ hcode _ _ X.warmed
  have h3 : (Cond.initialized y.cls).before a A.U = true := hinit _ _ X.warmed
  have h4 : A.cells + (headSpec ws rm).room.cells ≤ R.cells := by rw [show (headSpec ws rm).room.cells = mc from hrc]; exact hp.1
  have h5 : A.slots + (headSpec ws rm).room.slots ≤ R.slots := by rw [show (headSpec ws rm).room.slots = ms from hrs]; exact hp.2.1
  have hPc : Pc a (A.U.calling g mk a) := hblind _ _ _ _ hp.2.2
  obtain ⟨U, Ls, c0, s0⟩ := A
  dsimp only [Pt.U, Pt.locs, Pt.cells, Pt.slots] at h1 h2 h3 h4 h5 X hn hPc ⊢
  obtain ⟨methY, cY, hmY, hcY, -, hlY, -, -, -, -⟩ := Cond.code_spec hn h2
  obtain ⟨kY, hkY, -⟩ := className_of_methodNamed hn
  have hinitY : kY.init = .initialized := Cond.initialized_spec (findClass_of_methodNamed hn) hkY h3
  have h : At U g.method c below := by rw [hg]; exact X.here
  have hlocals9 : W9 + (maxL + 11) + (headSpec ws rm).room.locals ≤ R.locals := hlocals
  have happ : (headSpec ws rm).appliesLoose y e.platform (U.calling g mk a) = true :=
    Spec.appliesLoose_calling (g := g) h hdg hn hkY hinitY
      (X.room_calling (g := g) (R' := (headSpec ws rm).room) hsize hmY hcY hframes (by rw [hlY]; omega) h4 h5) h1
  obtain ⟨mid, hmid⟩ := h.above
  have hfr : (U.setTop g).frames = (.java g :: mid) ++ below := by rw [State.frames_setTop' g h.top, hmid]; rfl
  obtain ⟨o, s₂, hsteps, -, hend, hq⟩ := Steps.callFree hM p X.admits X.cas X.clock (acts := []) hfr happ hPc trivial
  have hq' : vx_Q Qc XC mc ms free a (U.calling g mk a) o s₂ := hq
  rw [State.frames_setTop' g h.top] at hend
  obtain ⟨g₀, hg0⟩ := Option.isSome_iff_exists.mp h.top
  obtain ⟨r, hr⟩ := State.topJava?_eq_some.mp hg0
  have hr' : (({ U with heap := s₂.heap, slotsUsed := s₂.slotsUsed } : State).setVm s₂.vm).frames = .java g₀ :: r := hr
  rcases hq' with ⟨hqc, L, hfe, hL⟩ | ⟨q, rfl, E, ce, L, hx, hce, hcv, hcl, hW₂, hsm, hL⟩
  · obtain ⟨⟨v, rfl⟩, hW₂, e2, q2, q3, q4, q5, q6⟩ := id hfe
    have e3 : s₂ = ({ (U.calling g mk a).setFrames s₂.frames with heap := s₂.heap, slotsUsed := s₂.slotsUsed } : State).setVm s₂.vm := by
      have : s₂ = ({ s₂ with vm := (U.calling g mk a).vm } : State).setVm s₂.vm := rfl
      rw [e2] at this
      exact this
    obtain ⟨c₂, i₂, len₂, hc₂, hd₂, hf₂⟩ := hend
    have hW' : U.WarmedH s₂.vm := hW₂
    have hcc : c₂ = c := by
      have h1 : s₂.code? g.method = U.code? g.method := by
        rw [State.code?_eq, State.code?_eq, hW'.alike.method?]
      exact Option.some.inj (hc₂.symm.trans (h1.trans h.code))
    subst hcc
    have hlen : len₂ = len := by rw [hdg] at hd₂; cases hd₂; rfl
    subst hlen
    have hs₂ : s₂ = (({ U with heap := s₂.heap, slotsUsed := s₂.slotsUsed } : State).setVm s₂.vm).setTop { g with pc := g.pc + len₂, stack := v.toList ++ g.stack } := by
      refine e3.trans ?_
      rw [hf₂, State.calling_eq h.top, State.setFrames_setFrames, State.setTop_of_frames _ hr', hr]
      rfl
    have hsame : U.sameButNew ({ U with heap := s₂.heap, slotsUsed := s₂.slotsUsed } : State) L mc ms := by
      refine ⟨?_, q2, q3, q4, q5, q6⟩
      obtain ⟨t, ht, -⟩ := State.frames_cons hr
      show ({ U with heap := s₂.heap, slotsUsed := s₂.slotsUsed } : State) = { U.setFrames U.frames with heap := s₂.heap, slotsUsed := s₂.slotsUsed }
      rw [State.setFrames_self ht]
    subst hg
    refine Or.inl ⟨v, ⟨(({ U with heap := s₂.heap, slotsUsed := s₂.slotsUsed } : State).setVm s₂.vm), Ls ++ L, c0 + mc, s0 + ms⟩,
      ⟨X.admits, X.cas, X.clock, X.frames, X.room, X.hears, X.method, X.code, (X.here.setHeapUsed s₂.heap s₂.slotsUsed).setVm hW'.alike, X.tail, State.WarmedH.trans X.warmed hW', X.limits, X.bytes, X.same.trans (hsame.setVm s.vm)⟩,
      ⟨g, mk, s₂, L, rfl, rfl, hqc, rfl, hL, rfl, rfl⟩, ?_⟩
    show Steps p.tables e below _ ((({ U with heap := s₂.heap, slotsUsed := s₂.slotsUsed } : State).setVm s₂.vm).setTop { g with pc := g.pc + len₂, stack := v.toList ++ g.stack })
    rw [← hs₂]
    exact hsteps
  · obtain ⟨e2, q2, q3, q4, q5, q6⟩ := id hsm
    have e3 : s₂ = ({ (U.calling g mk a).setFrames s₂.frames with heap := s₂.heap, slotsUsed := s₂.slotsUsed } : State).setVm s₂.vm := by
      have : s₂ = ({ s₂ with vm := (U.calling g mk a).vm } : State).setVm s₂.vm := rfl
      rw [e2] at this
      exact this
    have hf₂ : s₂.frames = .throwing q :: .java g :: U.frames.tail := hend
    have hW' : U.WarmedH s₂.vm := hW₂
    have hs₂ : s₂ = ((({ U with heap := s₂.heap, slotsUsed := s₂.slotsUsed } : State).setVm s₂.vm).setTop g).pushFrame (.throwing q) := by
      refine e3.trans ?_
      rw [hf₂, State.calling_eq h.top, State.setFrames_setFrames, State.pushFrame, State.frames_setTop _ hr', State.setTop_of_frames _ hr', State.setFrames_setFrames, hr]
      rfl
    have hsame : U.sameButNew ({ U with heap := s₂.heap, slotsUsed := s₂.slotsUsed } : State) L mc ms := by
      refine ⟨?_, q2, q3, q4, q5, q6⟩
      obtain ⟨t, ht, -⟩ := State.frames_cons hr
      show ({ U with heap := s₂.heap, slotsUsed := s₂.slotsUsed } : State) = { U.setFrames U.frames with heap := s₂.heap, slotsUsed := s₂.slotsUsed }
      rw [State.setFrames_self ht]
    subst hg
    refine Or.inr ⟨q, ⟨(({ U with heap := s₂.heap, slotsUsed := s₂.slotsUsed } : State).setVm s₂.vm), Ls ++ L, c0 + mc, s0 + ms⟩,
      ⟨X.admits, X.cas, X.clock, X.frames, X.room, X.hears, X.method, X.code, (X.here.setHeapUsed s₂.heap s₂.slotsUsed).setVm hW'.alike, X.tail, State.WarmedH.trans X.warmed hW', X.limits, X.bytes, X.same.trans (hsame.setVm s.vm)⟩,
      ⟨g, mk, s₂, L, E, ce, rfl, rfl, hx, hce, hcv, hcl, rfl, hL, rfl, rfl⟩, ?_⟩
    show Steps p.tables e below _ (((({ U with heap := s₂.heap, slotsUsed := s₂.slotsUsed } : State).setVm s₂.vm).setTop g).pushFrame (.throwing q))
    rw [← hs₂]
    exact hsteps
end Payer
section Calls
variable {p : Program} {l : Launch} {e : Env} {R : Room} {s : State} {m : MethodId} {args : Array Value} {below : List Frame} {meth : Method} {c : Code} {T : State} {locs : List Loc} {cells slots : Nat}
theorem vx_callV (X : Stand p l e R s m args below meth c T locs cells slots) (hexec : p.tables.exec = Jvm.exec) {own C : String} {index : Nat} {y : MethodName} {bytes : ByteArray} {maxL : Nat} {ret : Option FieldType}
    (hown : s.vm.findClass own = some m.cls) (hlink : (Cond.methodLink own index y).before args s = true) (hinst : (Cond.instanceMethod y).before args s = true) (hsel : (Cond.selects C y y).before args s = true)
    (hcode : (Cond.code y bytes maxL ret).before args s = true) (hy : y.cls ≠ "java/lang/invoke/MethodHandle" ∧ y.cls ≠ "java/lang/invoke/VarHandle")
    {W9 : Nat} {Pre : Pt → Array Value → Prop} {Post : Pt → Array Value → Option Value → Pt → Prop} {PostX : Pt → Array Value → Addr → Pt → Prop} (hK : vx_Back l R p e below s args y 3 W9 Pre Post PostX)
    {b : Addr} {cellB : Cell} (hcell : T.heap[b]? = some cellB) (hobj : cellB.vm.isStatics = false) (hcls : s.vm.findClass C = some cellB.cls)
    {g : JFrame} (hg : g.method = m) (hsize : g.locals.size = c.maxLocals) {argsL rest : List Value} (hlen : ∀ sig, parseMethodDescriptor y.desc = some sig → argsL.length = sig.parameters.length)
    (hstack : g.stack = argsL.reverse ++ .ref b :: rest) (hW : 2 * g.monitorRoom + (rest.map fun v => v.category).sum ≤ W9) (hdg : decode c.code g.pc = .ok (.invokevirtual index, 3))
    (hpre : ∀ vm₁, s.WarmedH vm₁ → Pre ⟨T.setVm vm₁, locs, cells, slots⟩ (Value.ref b :: argsL).toArray) :
    (∃ (v : Option Value) (vm₁ : Vm) (B : Pt), s.WarmedH vm₁ ∧ Stand p l e R s m args below meth c B.U B.locs B.cells B.slots ∧ Post ⟨T.setVm vm₁, locs, cells, slots⟩ (Value.ref b :: argsL).toArray v B ∧
      ∀ target, Steps p.tables e below (B.U.setTop { g with pc := g.pc + 3, stack := v.toList ++ rest }) target → Steps p.tables e below (T.setTop g) target) ∨
    (∃ (q : Addr) (vm₁ : Vm) (B : Pt), s.WarmedH vm₁ ∧ Stand p l e R s m args below meth c B.U B.locs B.cells B.slots ∧ PostX ⟨T.setVm vm₁, locs, cells, slots⟩ (Value.ref b :: argsL).toArray q B ∧
      Steps p.tables e below (T.setTop g) ((B.U.setTop { g with stack := rest }).pushFrame (.throwing q))) := by
  obtain ⟨mk, methM, hnamed, hmethM, hstM, habM⟩ := Cond.instanceMethod_spec hinst
  obtain ⟨methM', cM, hmethM', -, -, -, -, -, -, hsigM⟩ := Cond.code_spec hnamed hcode
  cases hmethM.symm.trans hmethM'
  obtain ⟨c2, r2, m2, q1, q2, q3, q4, kP, hkP, hkPi⟩ := Cond.selects_spec hsel
  cases hcls.symm.trans q1
  cases (State.methodFound?_of_named hnamed hy).symm.trans q2
  cases hnamed.symm.trans q3
  have hselP : selectMethod e.platform s.vm cellB.cls mk = .method mk := by rw [Launch.admits_selectMethod X.admits]; exact q4
  obtain ⟨vm₁, X₁, hstep₁⟩ := X.invokevirtual hexec hown hlink hnamed hmethM hstM hkP hkPi hy (a := b) (cell := cellB) hcell
    (fun z h => by rw [h] at hobj; cases hobj) hselP hmethM habM hkP hkPi (g := g) hg (argsL := argsL) (rest := rest) (hlen _ hsigM) hstack hdg
  rcases hK m meth c ⟨T.setVm vm₁, locs, cells, slots⟩ { g with stack := rest } (.invokevirtual index) mk (Value.ref b :: argsL).toArray X₁ hg hsize hdg hW (X₁.named hnamed) (hpre vm₁ X₁.warmed) with ⟨v, B, X', hpost, hsteps⟩ | ⟨q, B, X', hpost, hsteps⟩
  · exact Or.inl ⟨v, vm₁, B, X₁.warmed, X', hpost, fun target h => hstep₁ _ fun acts => by rw [doInvoke_state]; exact hsteps.trans h⟩
  · exact Or.inr ⟨q, vm₁, B, X₁.warmed, X', hpost, hstep₁ _ fun acts => by rw [doInvoke_state]; exact hsteps⟩
theorem vx_callS (X : Stand p l e R s m args below meth c T locs cells slots) (hexec : p.tables.exec = Jvm.exec) {own : String} {index : Nat} {y : MethodName} {bytes : ByteArray} {maxL : Nat} {ret : Option FieldType}
    (hown : s.vm.findClass own = some m.cls) (hlink : (Cond.methodLink own index y).before args s = true) (hstat : (Cond.static y).before args s = true) (hinit : (Cond.initialized y.cls).before args s = true)
    (hcode : (Cond.code y bytes maxL ret).before args s = true) (hy : y.cls ≠ "java/lang/invoke/MethodHandle" ∧ y.cls ≠ "java/lang/invoke/VarHandle")
    {W9 : Nat} {Pre : Pt → Array Value → Prop} {Post : Pt → Array Value → Option Value → Pt → Prop} {PostX : Pt → Array Value → Addr → Pt → Prop} (hK : vx_Back l R p e below s args y 3 W9 Pre Post PostX)
    {g : JFrame} (hg : g.method = m) (hsize : g.locals.size = c.maxLocals) {argsL rest : List Value} (hlen : ∀ sig, parseMethodDescriptor y.desc = some sig → argsL.length = sig.parameters.length)
    (hstack : g.stack = argsL.reverse ++ rest) (hW : 2 * g.monitorRoom + (rest.map fun v => v.category).sum ≤ W9) (hdg : decode c.code g.pc = .ok (.invokestatic index, 3))
    (hpre : ∀ vm₁, s.WarmedH vm₁ → Pre ⟨T.setVm vm₁, locs, cells, slots⟩ argsL.toArray) :
    (∃ (v : Option Value) (vm₁ : Vm) (B : Pt), s.WarmedH vm₁ ∧ Stand p l e R s m args below meth c B.U B.locs B.cells B.slots ∧ Post ⟨T.setVm vm₁, locs, cells, slots⟩ argsL.toArray v B ∧
      ∀ target, Steps p.tables e below (B.U.setTop { g with pc := g.pc + 3, stack := v.toList ++ rest }) target → Steps p.tables e below (T.setTop g) target) ∨
    (∃ (q : Addr) (vm₁ : Vm) (B : Pt), s.WarmedH vm₁ ∧ Stand p l e R s m args below meth c B.U B.locs B.cells B.slots ∧ PostX ⟨T.setVm vm₁, locs, cells, slots⟩ argsL.toArray q B ∧
      Steps p.tables e below (T.setTop g) ((B.U.setTop { g with stack := rest }).pushFrame (.throwing q))) := by
  obtain ⟨mk, hnamed⟩ := Cond.code_named hcode
  obtain ⟨methM, cM, hmethM, -, -, -, -, -, -, hsigM⟩ := Cond.code_spec hnamed hcode
  have hstatic : methM.isStatic = true := Cond.static_spec hnamed hmethM hstat
  obtain ⟨kP, hkP, -⟩ := className_of_methodNamed hnamed
  have hinitP : kP.init = .initialized := Cond.initialized_spec (findClass_of_methodNamed hnamed) hkP hinit
  obtain ⟨vm₁, X₁, hstep₁⟩ := X.invokestatic hexec hown hlink hnamed hmethM hstatic hkP hinitP hy (g := g) hg (argsL := argsL) (rest := rest) (hlen _ hsigM) hstack hdg
  rcases hK m meth c ⟨T.setVm vm₁, locs, cells, slots⟩ { g with stack := rest } (.invokestatic index) mk argsL.toArray X₁ hg hsize hdg hW (X₁.named hnamed) (hpre vm₁ X₁.warmed) with ⟨v, B, X', hpost, hsteps⟩ | ⟨q, B, X', hpost, hsteps⟩
  · exact Or.inl ⟨v, vm₁, B, X₁.warmed, X', hpost, fun target h => hstep₁ _ fun acts => by rw [doInvoke_state]; exact hsteps.trans h⟩
  · exact Or.inr ⟨q, vm₁, B, X₁.warmed, X', hpost, hstep₁ _ fun acts => by rw [doInvoke_state]; exact hsteps⟩
end Calls
theorem vx_cls {s : State} {T : State} {vm₁ : Vm} {E : String} {k : ClassId} (hW : s.WarmedH vm₁) (h : (T.setVm vm₁).vm.findClass E = some k) : s.vm.findClass E = some k := by
  have h1 : vm₁.findClass E = some k := h
  rw [hW.alike.findClass] at h1
  exact h1
/-- the method's frame g, with q thrown over it -/
def vx_W (p : Program) (l : Launch) (e : Env) (R : Room) (s : State) (m : MethodId) (args : Array Value) (below : List Frame) (meth : Method) (c : Code) (H : Heap) (locs : List Loc) (cells slots : Nat) (Q : State → Prop) (g : JFrame) (q : Addr) : Prop :=
  ∀ T : State, T.heap = H → Stand p l e R s m args below meth c T locs cells slots → ∃ t, Steps p.tables e below ((T.setTop g).pushFrame (.throwing q)) t ∧ Q t
def vx_Run (p : Program) (l : Launch) (e : Env) (R : Room) (s : State) (m : MethodId) (args : Array Value) (below : List Frame) (meth : Method) (c : Code) (H : Heap) (locs : List Loc) (cells slots mc ms : Nat) (g : JFrame) (rest : List Value) (Qa : State → Outcome → State → Prop) (XC : String → State → State → Prop) (free : Addr → Prop) : Prop :=
  ∀ T : State, T.heap = H → Stand p l e R s m args below meth c T locs cells slots →
    (∃ (v : Option Value) (st₀ t T' : State) (L : List Loc), st₀.heap = H ∧ Stand p l e R s m args below meth c T' (locs ++ L) (cells + mc) (slots + ms) ∧ (∀ q ∈ L, free q.base) ∧ T'.heap = t.heap ∧ T'.vm = t.vm ∧ Qa st₀ (.returned v) t ∧
      Goes p e below T g T' { g with pc := g.pc + 3, stack := v.toList ++ rest }) ∨
    (∃ (q : Addr) (st₀ t T' : State) (L : List Loc) (E : String) (ce : Cell), st₀.heap = H ∧ Stand p l e R s m args below meth c T' (locs ++ L) (cells + mc) (slots + ms) ∧ (∀ z ∈ L, free z.base) ∧ T'.heap = t.heap ∧ T'.vm = t.vm ∧ XC E st₀ t ∧ t.heap[q]? = some ce ∧ ce.vm = .none ∧ s.vm.findClass E = some ce.cls ∧
      Steps p.tables e below (T.setTop g) ((T'.setTop { g with stack := rest }).pushFrame (.throwing q)))
def vx_X {S : Type} (px : S → Prop) (B : String → S → State → Prop) (A : Nat → Prop) : String → State → State → Prop := fun E st t => ∃ u : S, px u ∧ B E u t ∧ va_F A st t
section Runs
variable {p : Program} {l : Launch} {e : Env} {R : Room} {s : State} {m : MethodId} {args : Array Value} {below : List Frame} {meth : Method} {c : Code} {H : Heap} {locs : List Loc} {cells slots : Nat}
variable {y : MethodName} {bytes cc : ByteArray} {maxL nL mc ms n index : Nat} {ret : Option FieldType} {ws : List Cond} {rm : Room} {Pc : Array Value → State → Prop} {Qc : Array Value → State → Outcome → State → Prop} {XC : String → State → State → Prop} {free : Addr → Prop} {Ts : List Cond} {own C : String} {b : Addr} {As rest : List Value} {g : JFrame}
theorem vx_callBack (cb : CallB R s args own index y bytes maxL ret ws rm mc ms n) (hM : vx_Met l y ws rm Pc Qc XC mc ms free) (hbl : FrameBlind Pc) : vx_Back l R p e below s args y 3 8 (PreOf R mc ms Pc) (PostOf Qc mc ms free) (vx_Post XC mc ms free) := by
  obtain ⟨hrc, hrs, hfr, hlo, hws, hcw, -, hini, -⟩ := cb
  exact vx_back (bytes := bytes) (maxL := maxL) (ret := ret) hM hbl hrc hrs hfr hlo hws hcw (fun a' U hW => word_at hW (Or.inl (by first | rfl | simp [Cond.onTables, Cond.keeps, Cond.steady])) hini)
theorem vx_runV (S : CallFix p m c cc nL s args Ts own) (hM : vx_Met l y ws rm Pc Qc XC mc ms free) (cw : CallW R s args own C index y bytes maxL ret ws rm mc ms n) (hp : PreV s H C b Pc As)
    (hg : g.method = m) (hn : As.length = n) (hsize : g.locals.size = nL) (hstack : g.stack = As.reverse ++ .ref b :: rest) (hW : 2 * g.monitorRoom + (rest.map fun v => v.category).sum ≤ 8) (hdg : decode cc g.pc = .ok (.invokevirtual index, 3)) (hf : cells + mc ≤ R.cells ∧ slots + ms ≤ R.slots) :
    vx_Run p l e R s m args below meth c H locs cells slots mc ms g rest (Qc (Value.ref b :: As).toArray) XC free := by
  have hK : vx_Back l R p e below s args y 3 8 (PreOf R mc ms Pc) (PostOf Qc mc ms free) (vx_Post XC mc ms free) := vx_callBack cw.1 hM hp.1
  obtain ⟨⟨-, -, -, -, -, -, hcode, -, hy, hlen, hl⟩, hin, hse⟩ := cw
  obtain ⟨hx, hb, hml, ho, -⟩ := S
  obtain ⟨-, ⟨cellB, hcB, hoB, hclB⟩, hPc⟩ := hp
  intro T hT X
  rcases vx_callV X hx (C := C) (bytes := bytes) (maxL := maxL) (ret := ret) ho hl hin hse hcode hy hK (by rw [hT]; exact hcB) hoB hclB hg (hsize.trans hml.symm) (argsL := As) (rest := rest) (fun sig h => hn.trans (hlen sig h)) hstack hW (by rw [hb]; exact hdg)
    (fun vm₁ hW₁ => ⟨hf.1, hf.2, hPc (T.setVm vm₁) hT hW₁⟩) with ⟨v, vm₁, ⟨U', l2, c2, s2⟩, hW₁, X', ⟨g', mk, t, L, e1, e2, hq, h1, hL, h2, h3⟩, st⟩ | ⟨q, vm₁, ⟨U', l2, c2, s2⟩, hW₁, X', ⟨g', mk, t, L, E, ce, e1, e2, hq, hce, hcv, hcl, h1, hL, h2, h3⟩, st⟩
  · dsimp only [Pt.U, Pt.locs, Pt.cells, Pt.slots] at X' e1 e2 h1 h2 h3 st
    subst h1; subst h2; subst h3
    exact Or.inl ⟨v, (T.setVm vm₁).calling g' mk (Value.ref b :: As).toArray, t, U', L, hT, X', hL, e1, e2, hq, st⟩
  · dsimp only [Pt.U, Pt.locs, Pt.cells, Pt.slots] at X' e1 e2 h1 h2 h3 st hcl
    subst h1; subst h2; subst h3
    exact Or.inr ⟨q, (T.setVm vm₁).calling g' mk (Value.ref b :: As).toArray, t, U', L, E, ce, hT, X', hL, e1, e2, hq, hce, hcv, vx_cls hW₁ hcl, st⟩
theorem vx_runS (S : CallFix p m c cc nL s args Ts own) (hM : vx_Met l y ws rm Pc Qc XC mc ms free) (cw : CallB R s args own index y bytes maxL ret ws rm mc ms n ∧ (Cond.static y).before args s = true) (hp : PreS s H Pc As)
    (hg : g.method = m) (hn : As.length = n) (hsize : g.locals.size = nL) (hstack : g.stack = As.reverse ++ rest) (hW : 2 * g.monitorRoom + (rest.map fun v => v.category).sum ≤ 8) (hdg : decode cc g.pc = .ok (.invokestatic index, 3)) (hf : cells + mc ≤ R.cells ∧ slots + ms ≤ R.slots) :
    vx_Run p l e R s m args below meth c H locs cells slots mc ms g rest (Qc As.toArray) XC free := by
  have hK : vx_Back l R p e below s args y 3 8 (PreOf R mc ms Pc) (PostOf Qc mc ms free) (vx_Post XC mc ms free) := vx_callBack cw.1 hM hp.1
  obtain ⟨⟨-, -, -, -, -, -, hcode, hini, hy, hlen, hl⟩, hstt⟩ := cw
  obtain ⟨hx, hb, hml, ho, -⟩ := S
  intro T hT X
  rcases vx_callS X hx (bytes := bytes) (maxL := maxL) (ret := ret) ho hl hstt hini hcode hy hK hg (hsize.trans hml.symm) (argsL := As) (rest := rest) (fun sig h => hn.trans (hlen sig h)) hstack hW (by rw [hb]; exact hdg)
    (fun vm₁ hW₁ => ⟨hf.1, hf.2, hp.2 (T.setVm vm₁) hT hW₁⟩) with ⟨v, vm₁, ⟨U', l2, c2, s2⟩, hW₁, X', ⟨g', mk, t, L, e1, e2, hq, h1, hL, h2, h3⟩, st⟩ | ⟨q, vm₁, ⟨U', l2, c2, s2⟩, hW₁, X', ⟨g', mk, t, L, E, ce, e1, e2, hq, hce, hcv, hcl, h1, hL, h2, h3⟩, st⟩
  · dsimp only [Pt.U, Pt.locs, Pt.cells, Pt.slots] at X' e1 e2 h1 h2 h3 st
    subst h1; subst h2; subst h3
    exact Or.inl ⟨v, (T.setVm vm₁).calling g' mk As.toArray, t, U', L, hT, X', hL, e1, e2, hq, st⟩
  · dsimp only [Pt.U, Pt.locs, Pt.cells, Pt.slots] at X' e1 e2 h1 h2 h3 st hcl
    subst h1; subst h2; subst h3
    exact Or.inr ⟨q, (T.setVm vm₁).calling g' mk As.toArray, t, U', L, E, ce, hT, X', hL, e1, e2, hq, hce, hcv, vx_cls hW₁ hcl, st⟩
end Runs
section Rows
variable {p : Program} {l : Launch} {e : Env} {R : Room} {s : State} {m : MethodId} {args : Array Value} {below : List Frame} {meth : Method} {c : Code} {H : Heap} {locs : List Loc} {cells slots : Nat} {Q : State → Prop}
variable {mc ms : Nat} {free : Addr → Prop} {A0 A1 : Nat → Prop} {H0 : Heap} {a : Array Value} {pc : Nat} {ls : Array Slot} {st0 rest : List Value}
theorem vx_keep {st₀ t T' : State} {L : List Loc} (h0 : st₀.heap = H) (e1 : T'.heap = t.heap) (hS : va_S A0 H0 H locs) (hA : ∀ q, q < H.size → A1 q → A0 q) (hf : ∀ q, free q → A0 q) (hL : ∀ q ∈ L, free q.base) (hF : va_F A1 st₀ t) :
    H.size ≤ T'.heap.size ∧ (∀ q : Nat, q < H.size → ¬ A1 q → T'.heap[q]? = H[q]?) ∧ va_S A0 H0 T'.heap (locs ++ L) := by
  obtain ⟨hz, hk⟩ := hF
  rw [h0] at hz hk
  exact ⟨by rw [e1]; exact hz, fun q h1 h2 => by rw [e1]; exact hk q h1 h2,
    ⟨Nat.le_trans hS.1 (by rw [e1]; exact hz), fun q h1 h2 => by rw [e1, hk q (Nat.lt_of_lt_of_le h1 hS.1) (fun z => h2 (hA q (Nat.lt_of_lt_of_le h1 hS.1) z))]; exact hS.2.1 q h1 h2, fun q hq => by
      rcases List.mem_append.mp hq with h | h
      · exact hS.2.2 q h
      · exact hf _ (hL q h)⟩⟩
theorem vx_calli {S SX : Type} {post : Int32 → S → Prop} {px : SX → Prop} {B : S → State → Prop} {BX : String → SX → State → Prop} {AX : Nat → Prop} (hr : vx_Run p l e R s m args below meth c H locs cells slots mc ms (F0 m pc ls st0) rest (va_Qi post B A1 a) (vx_X px BX AX) free) (hS : va_S A0 H0 H locs) (hA : ∀ q, q < H.size → A1 q → A0 q) (hf : ∀ q, free q → A0 q) (hAX : ∀ q, q < H.size → AX q → A0 q)
    (kx : ∀ (E : String) (ce : Cell) (q9 : Addr) (u : SX) (t : State) (H1 : Heap) (locs1 : List Loc), t.heap = H1 → s.vm.Alike t.vm → px u → BX E u t → H.size ≤ H1.size → (∀ q : Nat, q < H.size → ¬ AX q → H1[q]? = H[q]?) → va_S A0 H0 H1 locs1 → H1[q9]? = some ce → ce.vm = .none → s.vm.findClass E = some ce.cls → vx_W p l e R s m args below meth c H1 locs1 (cells + mc) (slots + ms) Q (F0 m pc ls rest) q9)
    (kk : ∀ (r : Int32) (u : S) (t : State) (H1 : Heap) (locs1 : List Loc), t.heap = H1 → s.vm.Alike t.vm → post r u → B u t → H.size ≤ H1.size → (∀ q : Nat, q < H.size → ¬ A1 q → H1[q]? = H[q]?) → va_S A0 H0 H1 locs1 → W p l e R s m args below meth c H1 locs1 (cells + mc) (slots + ms) Q (F0 m (pc + 3) ls (.int r :: rest))) : W p l e R s m args below meth c H locs cells slots Q (F0 m pc ls st0) := by
  intro T hT X
  rcases hr T hT X with ⟨v, st₀, t, T', L, h0, X', hL, e1, e2, ⟨⟨r, u, hv, hp, hb⟩, hF⟩, st⟩ | ⟨q, st₀, t, T', L, E, ce, h0, X', hL, e1, e2, ⟨u, hp, hb, hF⟩, hce, hcv, hcl, st⟩
  · cases hv
    obtain ⟨k1, k2, k3⟩ := vx_keep h0 e1 hS hA hf hL hF
    obtain ⟨t2, a1, b1⟩ := kk r u t T'.heap (locs ++ L) e1.symm (by rw [← e2]; exact X'.warmed.alike) hp hb k1 k2 k3 T' rfl X'
    exact ⟨t2, st t2 a1, b1⟩
  · obtain ⟨k1, k2, k3⟩ := vx_keep h0 e1 hS hAX hf hL hF
    obtain ⟨t2, a1, b1⟩ := kx E ce q u t T'.heap (locs ++ L) e1.symm (by rw [← e2]; exact X'.warmed.alike) hp hb k1 k2 k3 (by rw [e1]; exact hce) hcv hcl T' rfl X'
    exact ⟨t2, st.trans a1, b1⟩
theorem vx_calll {S SX : Type} {post : Int64 → S → Prop} {px : SX → Prop} {B : S → State → Prop} {BX : String → SX → State → Prop} {AX : Nat → Prop} (hr : vx_Run p l e R s m args below meth c H locs cells slots mc ms (F0 m pc ls st0) rest (va_Ql post B A1 a) (vx_X px BX AX) free) (hS : va_S A0 H0 H locs) (hA : ∀ q, q < H.size → A1 q → A0 q) (hf : ∀ q, free q → A0 q) (hAX : ∀ q, q < H.size → AX q → A0 q)
    (kx : ∀ (E : String) (ce : Cell) (q9 : Addr) (u : SX) (t : State) (H1 : Heap) (locs1 : List Loc), t.heap = H1 → s.vm.Alike t.vm → px u → BX E u t → H.size ≤ H1.size → (∀ q : Nat, q < H.size → ¬ AX q → H1[q]? = H[q]?) → va_S A0 H0 H1 locs1 → H1[q9]? = some ce → ce.vm = .none → s.vm.findClass E = some ce.cls → vx_W p l e R s m args below meth c H1 locs1 (cells + mc) (slots + ms) Q (F0 m pc ls rest) q9)
    (kk : ∀ (r : Int64) (u : S) (t : State) (H1 : Heap) (locs1 : List Loc), t.heap = H1 → s.vm.Alike t.vm → post r u → B u t → H.size ≤ H1.size → (∀ q : Nat, q < H.size → ¬ A1 q → H1[q]? = H[q]?) → va_S A0 H0 H1 locs1 → W p l e R s m args below meth c H1 locs1 (cells + mc) (slots + ms) Q (F0 m (pc + 3) ls (.long r :: rest))) : W p l e R s m args below meth c H locs cells slots Q (F0 m pc ls st0) := by
  intro T hT X
  rcases hr T hT X with ⟨v, st₀, t, T', L, h0, X', hL, e1, e2, ⟨⟨r, u, hv, hp, hb⟩, hF⟩, st⟩ | ⟨q, st₀, t, T', L, E, ce, h0, X', hL, e1, e2, ⟨u, hp, hb, hF⟩, hce, hcv, hcl, st⟩
  · cases hv
    obtain ⟨k1, k2, k3⟩ := vx_keep h0 e1 hS hA hf hL hF
    obtain ⟨t2, a1, b1⟩ := kk r u t T'.heap (locs ++ L) e1.symm (by rw [← e2]; exact X'.warmed.alike) hp hb k1 k2 k3 T' rfl X'
    exact ⟨t2, st t2 a1, b1⟩
  · obtain ⟨k1, k2, k3⟩ := vx_keep h0 e1 hS hAX hf hL hF
    obtain ⟨t2, a1, b1⟩ := kx E ce q u t T'.heap (locs ++ L) e1.symm (by rw [← e2]; exact X'.warmed.alike) hp hb k1 k2 k3 (by rw [e1]; exact hce) hcv hcl T' rfl X'
    exact ⟨t2, st.trans a1, b1⟩
theorem vx_callf {S SX : Type} {post : UInt32 → S → Prop} {px : SX → Prop} {B : S → State → Prop} {BX : String → SX → State → Prop} {AX : Nat → Prop} (hr : vx_Run p l e R s m args below meth c H locs cells slots mc ms (F0 m pc ls st0) rest (va_Qf post B A1 a) (vx_X px BX AX) free) (hS : va_S A0 H0 H locs) (hA : ∀ q, q < H.size → A1 q → A0 q) (hf : ∀ q, free q → A0 q) (hAX : ∀ q, q < H.size → AX q → A0 q)
    (kx : ∀ (E : String) (ce : Cell) (q9 : Addr) (u : SX) (t : State) (H1 : Heap) (locs1 : List Loc), t.heap = H1 → s.vm.Alike t.vm → px u → BX E u t → H.size ≤ H1.size → (∀ q : Nat, q < H.size → ¬ AX q → H1[q]? = H[q]?) → va_S A0 H0 H1 locs1 → H1[q9]? = some ce → ce.vm = .none → s.vm.findClass E = some ce.cls → vx_W p l e R s m args below meth c H1 locs1 (cells + mc) (slots + ms) Q (F0 m pc ls rest) q9)
    (kk : ∀ (r : UInt32) (u : S) (t : State) (H1 : Heap) (locs1 : List Loc), t.heap = H1 → s.vm.Alike t.vm → post r u → B u t → H.size ≤ H1.size → (∀ q : Nat, q < H.size → ¬ A1 q → H1[q]? = H[q]?) → va_S A0 H0 H1 locs1 → W p l e R s m args below meth c H1 locs1 (cells + mc) (slots + ms) Q (F0 m (pc + 3) ls (.float r :: rest))) : W p l e R s m args below meth c H locs cells slots Q (F0 m pc ls st0) := by
  intro T hT X
  rcases hr T hT X with ⟨v, st₀, t, T', L, h0, X', hL, e1, e2, ⟨⟨r, u, hv, hp, hb⟩, hF⟩, st⟩ | ⟨q, st₀, t, T', L, E, ce, h0, X', hL, e1, e2, ⟨u, hp, hb, hF⟩, hce, hcv, hcl, st⟩
  · cases hv
    obtain ⟨k1, k2, k3⟩ := vx_keep h0 e1 hS hA hf hL hF
    obtain ⟨t2, a1, b1⟩ := kk r u t T'.heap (locs ++ L) e1.symm (by rw [← e2]; exact X'.warmed.alike) hp hb k1 k2 k3 T' rfl X'
    exact ⟨t2, st t2 a1, b1⟩
  · obtain ⟨k1, k2, k3⟩ := vx_keep h0 e1 hS hAX hf hL hF
    obtain ⟨t2, a1, b1⟩ := kx E ce q u t T'.heap (locs ++ L) e1.symm (by rw [← e2]; exact X'.warmed.alike) hp hb k1 k2 k3 (by rw [e1]; exact hce) hcv hcl T' rfl X'
    exact ⟨t2, st.trans a1, b1⟩
theorem vx_calld {S SX : Type} {post : UInt64 → S → Prop} {px : SX → Prop} {B : S → State → Prop} {BX : String → SX → State → Prop} {AX : Nat → Prop} (hr : vx_Run p l e R s m args below meth c H locs cells slots mc ms (F0 m pc ls st0) rest (va_Qd post B A1 a) (vx_X px BX AX) free) (hS : va_S A0 H0 H locs) (hA : ∀ q, q < H.size → A1 q → A0 q) (hf : ∀ q, free q → A0 q) (hAX : ∀ q, q < H.size → AX q → A0 q)
    (kx : ∀ (E : String) (ce : Cell) (q9 : Addr) (u : SX) (t : State) (H1 : Heap) (locs1 : List Loc), t.heap = H1 → s.vm.Alike t.vm → px u → BX E u t → H.size ≤ H1.size → (∀ q : Nat, q < H.size → ¬ AX q → H1[q]? = H[q]?) → va_S A0 H0 H1 locs1 → H1[q9]? = some ce → ce.vm = .none → s.vm.findClass E = some ce.cls → vx_W p l e R s m args below meth c H1 locs1 (cells + mc) (slots + ms) Q (F0 m pc ls rest) q9)
    (kk : ∀ (r : UInt64) (u : S) (t : State) (H1 : Heap) (locs1 : List Loc), t.heap = H1 → s.vm.Alike t.vm → post r u → B u t → H.size ≤ H1.size → (∀ q : Nat, q < H.size → ¬ A1 q → H1[q]? = H[q]?) → va_S A0 H0 H1 locs1 → W p l e R s m args below meth c H1 locs1 (cells + mc) (slots + ms) Q (F0 m (pc + 3) ls (.double r :: rest))) : W p l e R s m args below meth c H locs cells slots Q (F0 m pc ls st0) := by
  intro T hT X
  rcases hr T hT X with ⟨v, st₀, t, T', L, h0, X', hL, e1, e2, ⟨⟨r, u, hv, hp, hb⟩, hF⟩, st⟩ | ⟨q, st₀, t, T', L, E, ce, h0, X', hL, e1, e2, ⟨u, hp, hb, hF⟩, hce, hcv, hcl, st⟩
  · cases hv
    obtain ⟨k1, k2, k3⟩ := vx_keep h0 e1 hS hA hf hL hF
    obtain ⟨t2, a1, b1⟩ := kk r u t T'.heap (locs ++ L) e1.symm (by rw [← e2]; exact X'.warmed.alike) hp hb k1 k2 k3 T' rfl X'
    exact ⟨t2, st t2 a1, b1⟩
  · obtain ⟨k1, k2, k3⟩ := vx_keep h0 e1 hS hAX hf hL hF
    obtain ⟨t2, a1, b1⟩ := kx E ce q u t T'.heap (locs ++ L) e1.symm (by rw [← e2]; exact X'.warmed.alike) hp hb k1 k2 k3 (by rw [e1]; exact hce) hcv hcl T' rfl X'
    exact ⟨t2, st.trans a1, b1⟩
theorem vx_callv {S SX : Type} {post : S → Prop} {px : SX → Prop} {B : S → State → Prop} {BX : String → SX → State → Prop} {AX : Nat → Prop} (hr : vx_Run p l e R s m args below meth c H locs cells slots mc ms (F0 m pc ls st0) rest (va_Qv post B A1 a) (vx_X px BX AX) free) (hS : va_S A0 H0 H locs) (hA : ∀ q, q < H.size → A1 q → A0 q) (hf : ∀ q, free q → A0 q) (hAX : ∀ q, q < H.size → AX q → A0 q)
    (kx : ∀ (E : String) (ce : Cell) (q9 : Addr) (u : SX) (t : State) (H1 : Heap) (locs1 : List Loc), t.heap = H1 → s.vm.Alike t.vm → px u → BX E u t → H.size ≤ H1.size → (∀ q : Nat, q < H.size → ¬ AX q → H1[q]? = H[q]?) → va_S A0 H0 H1 locs1 → H1[q9]? = some ce → ce.vm = .none → s.vm.findClass E = some ce.cls → vx_W p l e R s m args below meth c H1 locs1 (cells + mc) (slots + ms) Q (F0 m pc ls rest) q9)
    (kk : ∀ (u : S) (t : State) (H1 : Heap) (locs1 : List Loc), t.heap = H1 → s.vm.Alike t.vm → post u → B u t → H.size ≤ H1.size → (∀ q : Nat, q < H.size → ¬ A1 q → H1[q]? = H[q]?) → va_S A0 H0 H1 locs1 → W p l e R s m args below meth c H1 locs1 (cells + mc) (slots + ms) Q (F0 m (pc + 3) ls (rest))) : W p l e R s m args below meth c H locs cells slots Q (F0 m pc ls st0) := by
  intro T hT X
  rcases hr T hT X with ⟨v, st₀, t, T', L, h0, X', hL, e1, e2, ⟨⟨u, hv, hp, hb⟩, hF⟩, st⟩ | ⟨q, st₀, t, T', L, E, ce, h0, X', hL, e1, e2, ⟨u, hp, hb, hF⟩, hce, hcv, hcl, st⟩
  · cases hv
    obtain ⟨k1, k2, k3⟩ := vx_keep h0 e1 hS hA hf hL hF
    obtain ⟨t2, a1, b1⟩ := kk u t T'.heap (locs ++ L) e1.symm (by rw [← e2]; exact X'.warmed.alike) hp hb k1 k2 k3 T' rfl X'
    exact ⟨t2, st t2 a1, b1⟩
  · obtain ⟨k1, k2, k3⟩ := vx_keep h0 e1 hS hAX hf hL hF
    obtain ⟨t2, a1, b1⟩ := kx E ce q u t T'.heap (locs ++ L) e1.symm (by rw [← e2]; exact X'.warmed.alike) hp hb k1 k2 k3 (by rw [e1]; exact hce) hcv hcl T' rfl X'
    exact ⟨t2, st.trans a1, b1⟩
/-- caught by the row x of this method's table; the rows ahead don't take it -/
theorem vx_catch {own name : String} {E : String} {ce : Cell} {q : Addr} (hown : s.vm.findClass own = some m.cls) (pre : List ExceptionTableEntry) (x : ExceptionTableEntry) (suf : List ExceptionTableEntry) (hsplit : c.exceptionTable.toList = pre ++ x :: suf)
    (hpass : ∀ z ∈ pre, covers z pc = false ∨ (z.catchType ≠ 0 ∧ ∃ nm : String, (Cond.classLink own z.catchType nm).before args s = true ∧ va_Nc E nm s)) (hx : covers x pc = true) (h0 : x.catchType ≠ 0)
    (hlink : (Cond.classLink own x.catchType name).before args s = true) (hcast : (Cond.castable E name).before args s = true) (hcell : H[q]? = some ce) (hv : ce.vm = .none) (hcl : s.vm.findClass E = some ce.cls)
    (kk : W p l e R s m args below meth c H locs cells slots Q (F0 m x.handlerPc ls [.ref q])) : vx_W p l e R s m args below meth c H locs cells slots Q (F0 m pc ls rest) q := by
  intro T hT X
  have hpl : e.platform.magicAccessors = ({} : Platform).magicAccessors := by rw [X.admits.platform]
  obtain ⟨c3, c4, hc3, hc4, hasg⟩ := Cond.castable_spec hcast
  cases Option.some.inj (hc3.symm.trans hcl)
  obtain ⟨c5, hc5, hcl5⟩ := Cond.classLink_spec hown hlink e.platform hpl
  cases Option.some.inj (hc4.symm.trans hc5)
  obtain ⟨vm', X', st⟩ := X.thenCaughtThrough q (g := F0 m pc ls rest) rfl (Steps.refl _) (by rw [hT]; exact hcell) (by rw [hv]; rfl) (by obtain ⟨k9, h9, -⟩ := Vm.findClass_spec hcl; exact ⟨k9, h9⟩) pre x suf hsplit
    (fun z hz => by
      rcases hpass z hz with h | ⟨hz0, nm, hl1, hn1⟩
      · exact Or.inl h
      · obtain ⟨c6, hc6, hcl6⟩ := Cond.classLink_spec hown hl1 e.platform hpl
        obtain ⟨a8, b8, h1, h2, h3⟩ := hn1
        cases Option.some.inj (h1.symm.trans hcl)
        cases Option.some.inj (h2.symm.trans hc6)
        exact Or.inr ⟨hz0, _, hcl6, h3⟩) hx (Or.inr ⟨h0, c4, hcl5, hasg⟩)
  obtain ⟨t, a1, b1⟩ := kk (T.setVm vm') hT X'
  exact ⟨t, st.trans a1, b1⟩
end Rows
section Ends
variable {p : Program} {l : Launch} {e : Env} {R : Room} {s : State} {m : MethodId} {args : Array Value} {below : List Frame} {meth : Method} {c : Code} {H : Heap} {locs : List Loc} {cells slots : Nat} {Q : State → Prop}
variable {mc ms : Nat} {free : Addr → Prop} {A0 A1 : Nat → Prop} {H0 : Heap} {a : Array Value} {ls : Array Slot} {st0 rest : List Value}
variable {Qc : Array Value → State → Outcome → State → Prop} {XC : String → State → State → Prop}
/-- what a body that may throw owes at its end -/
def vx_MQ (below : List Frame) (Qc : Array Value → State → Outcome → State → Prop) (XC : String → State → State → Prop) (a : Array Value) (s : State) (mc ms : Nat) (free : Addr → Prop) : State → Prop := fun t =>
  ∃ o, t.status = .running ∧ Ended t below o ∧ vx_Q Qc XC mc ms free a s o t
theorem vx_ret {g : JFrame} {mc ms : Nat} (k : W p l e R s m args below meth c H locs cells slots (MQ below Qc args s mc ms free) g) : W p l e R s m args below meth c H locs cells slots (vx_MQ below Qc XC args s mc ms free) g := by
  intro T hT X
  obtain ⟨t, a1, o, b1, b2, b3, b4⟩ := k T hT X
  exact ⟨t, a1, o, b1, b2, Or.inl ⟨b3, b4⟩⟩
/-- not caught here: it goes on to the caller -/
theorem vx_widen {g : JFrame} {q : Addr} {k n : Nat} (h1 : cells ≤ k) (h2 : slots ≤ n) (kk : vx_W p l e R s m args below meth c H locs k n Q g q) : vx_W p l e R s m args below meth c H locs cells slots Q g q := fun T hT X => kk T hT (stand_widen X h1 h2)
theorem vx_out {pc : Nat} {E : String} {ce : Cell} {q : Addr} {mc ms : Nat} (hout : ∀ x ∈ c.exceptionTable.toList, covers x pc = false) (hlocks : meth.locks = false) (hcell : H[q]? = some ce) (hv : ce.vm = .none) (hcl : s.vm.findClass E = some ce.cls)
    (hx : ∀ t : State, t.heap = H → s.vm.Alike t.vm → XC E s t) (hf : ∀ z ∈ locs, free z.base) (hc : cells ≤ mc) (hs : slots ≤ ms) :
    vx_W p l e R s m args below meth c H locs cells slots (vx_MQ below Qc XC args s mc ms free) (F0 m pc ls rest) q := by
  intro T hT X
  obtain ⟨st1, hrun, hend, hW, hsm⟩ := X.leaveThrown q (g := F0 m pc ls rest) rfl rfl rfl hout hlocks
  have hcell9 : (T.setFrames (.throwing q :: below)).heap[q]? = some ce := by
    show T.heap[q]? = some ce
    rw [hT]; exact hcell
  exact ⟨_, st1, .threw q, hrun, hend, Or.inr ⟨q, rfl, E, ce, locs, hx _ hT hW.alike, hcell9, hv, hcl, hW, hsm.mono hc hs, hf⟩⟩
theorem vx_frame {U : State} {k n : Nat} (h : s.sameButNew ({ U with vm := s.vm } : State) locs k n) : s.heap.size ≤ U.heap.size ∧ ∀ q : Nat, q < s.heap.size → (∀ z ∈ locs, z.base ≠ q) → U.heap[q]? = s.heap[q]? := by
  obtain ⟨-, h2, -, -, -, h6⟩ := h
  refine ⟨h2, fun q hq hz => ?_⟩
  obtain ⟨c9, e1, e2, e3, e4⟩ := h6 q _ (Array.getElem?_eq_getElem hq)
  have hs : c9.slots = (s.heap[q]).slots := Array.ext_getElem? fun i => e4 i fun hm => hz _ hm rfl
  have h9 : c9 = s.heap[q] := by
    rw [hs] at e2
    exact e2
  have e5 : U.heap[q]? = some c9 := e1
  rw [e5, h9, Array.getElem?_eq_getElem hq]
/-- the words of a throw but the four that speak of the heap -/
def vx_no (w : Cond) : Bool := decide (w ≠ .isRef (.static Bundle.tN "UNASSIGNED_STACK" Bundle.steD)) && decide (w ≠ .isRef (.static Bundle.tN "SUPPRESSED_SENTINEL" Bundle.listD)) && decide (w ≠ .laysStatic Bundle.tN "UNASSIGNED_STACK" Bundle.steD) && decide (w ≠ .laysStatic Bundle.tN "SUPPRESSED_SENTINEL" Bundle.listD)
def vx_at0 (own : String) (ic : Nat) (X : String) (names : List String) : List Cond := (Bundle.ownAtoms0 own ic X names).filter vx_no
def vx_atS (own : String) (ic : Nat) (X : String) (names : List String) : List Cond := (Bundle.ownAtoms own ic X names).filter vx_no
/-- a word that the tables alone decide, or a good one -/
def vx_ot (w : Cond) : Bool := w.onTables || goodWord w
theorem vx_ot_at {args a' : Array Value} {s U : State} {w : Cond} (hW : s.WarmedH U.vm) (hvm : s.vm = U.vm) (hg : vx_ot w = true) (h : w.before args s = true) : w.before a' U = true := by
  simp only [vx_ot, Bool.or_eq_true] at hg
  rcases hg with hg | hg
  · exact va_tabs hg hvm h
  · exact word_at hW (good_of_word hg) h
/-- a list's words: the good ones out of the method's own list, the others by premises of their own -/
theorem vx_hat {args : Array Value} {s : State} {L B : List Cond} (h1 : ∀ w ∈ L.filter goodWord, w.before args s = true) (h2 : ∀ w ∈ L.filter (fun w => !goodWord w), w ∈ B) (h3 : ∀ w ∈ B, w.before args s = true) : ∀ w ∈ L, w.before args s = true := by
  intro w hw
  by_cases g : goodWord w = true
  · exact h1 w (List.mem_filter.mpr ⟨hw, g⟩)
  · refine h3 w (h2 w (List.mem_filter.mpr ⟨hw, ?_⟩))
    show (!goodWord w) = true
    cases hgw : goodWord w
    · rfl
    · exact absurd hgw g
theorem vx_c {args : Array Value} {s : State} {w : Cond} {B : List Cond} (h : w.before args s = true) (t : ∀ w ∈ B, w.before args s = true) : ∀ w' ∈ w :: B, w'.before args s = true := fun w' h' => (List.mem_cons.mp h').elim (fun e => by rw [e]; exact h) (t w')
theorem vx_n {args : Array Value} {s : State} : ∀ w ∈ ([] : List Cond), w.before args s = true := fun _ h => nomatch h
theorem vx_own {args : Array Value} {s : State} {L : List Cond} (h1 : ∀ w ∈ L.filter vx_no, w.before args s = true)
    (hU : (Cond.isRef (.static Bundle.tN "UNASSIGNED_STACK" Bundle.steD)).before args s = true) (hN : (Cond.isRef (.static Bundle.tN "SUPPRESSED_SENTINEL" Bundle.listD)).before args s = true)
    (lU : (Cond.laysStatic Bundle.tN "UNASSIGNED_STACK" Bundle.steD).before args s = true) (lN : (Cond.laysStatic Bundle.tN "SUPPRESSED_SENTINEL" Bundle.listD).before args s = true) : ∀ w ∈ L, w.before args s = true := by
  intro w hw
  by_cases e1 : w = .isRef (.static Bundle.tN "UNASSIGNED_STACK" Bundle.steD)
  · rw [e1]; exact hU
  · by_cases e2 : w = .isRef (.static Bundle.tN "SUPPRESSED_SENTINEL" Bundle.listD)
    · rw [e2]; exact hN
    · by_cases e3 : w = .laysStatic Bundle.tN "UNASSIGNED_STACK" Bundle.steD
      · rw [e3]; exact lU
      · by_cases e4 : w = .laysStatic Bundle.tN "SUPPRESSED_SENTINEL" Bundle.listD
        · rw [e4]; exact lN
        · exact h1 w (List.mem_filter.mpr ⟨hw, by unfold vx_no; rw [decide_eq_true e1, decide_eq_true e2, decide_eq_true e3, decide_eq_true e4]; rfl⟩)
/-- where a static field lies, its class's statics cell in H -/
def vx_L (C n d : String) (A : Nat → Prop) (U : State) (H : Heap) : Prop := ∃ (c : ClassId) (k : Class) (i : Nat) (f : Field) (a : Nat) (cell : Cell), U.vm.findClass C = some c ∧ U.fieldFound? C n d = some (c, k, i, f) ∧ f.isStatic = true ∧ k.statics = some a ∧ H[a]? = some cell ∧ cell.vm.isStatics = true ∧ cell.cls = c ∧ f.slot < cell.slots.size ∧ k.staticTypes[f.slot]? = some f.type ∧ ¬ A a
theorem vx_L.moved {C n d : String} {A : Nat → Prop} {u U : State} {H : Heap} (hvm : u.vm.Alike U.vm) (h : vx_L C n d A u H) : vx_L C n d A U H := by
  obtain ⟨c, k, i, f, a, cell, h1, h2, h3, h4, h5, h6, h7, h8, h9, h10⟩ := h
  obtain ⟨k', hi', he⟩ := State.fieldFound?_setVm hvm h2
  exact ⟨c, k', i, f, a, cell, by rw [hvm.findClass]; exact h1, hi', h3, by rw [he]; exact h4, h5, h6, h7, h8, by rw [he]; exact h9, h10⟩
theorem vx_L.kept {C n d : String} {A : Nat → Prop} {U : State} {H H1 : Heap} (h : vx_L C n d A U H) (hq : ∀ a : Nat, a < H.size → ¬ A a → H1[a]? = H[a]?) : vx_L C n d A U H1 := by
  obtain ⟨c, k, i, f, a, cell, h1, h2, h3, h4, h5, h6, h7, h8, h9, h10⟩ := h
  exact ⟨c, k, i, f, a, cell, h1, h2, h3, h4, by rw [hq a (Array.getElem?_eq_some_iff.mp h5).1 h10]; exact h5, h6, h7, h8, h9, h10⟩
theorem vx_L.narrow {C n d : String} {A B : Nat → Prop} {U : State} {H : Heap} (h : vx_L C n d A U H) (hAB : ∀ q, B q → A q) : vx_L C n d B U H := by
  obtain ⟨c, k, i, f, a, cell, h1, h2, h3, h4, h5, h6, h7, h8, h9, h10⟩ := h
  exact ⟨c, k, i, f, a, cell, h1, h2, h3, h4, h5, h6, h7, h8, h9, fun z => h10 (hAB _ z)⟩
theorem vx_L.word {C n d : String} {A : Nat → Prop} {s : State} {args : Array Value} (h : vx_L C n d A s s.heap) : (Cond.laysStatic C n d).before args s = true := by
  obtain ⟨c, k, i, f, a, cell, h1, h2, h3, h4, h5, h6, h7, h8, h9, -⟩ := h
  show (Cond.laysStatic C n d).holds args s none s [] = true
  exact Cond.laysStatic_of h1 h2 h3 h4 h5 h6 h7 h8 h9
/-- .. and what it holds: null or some reference -/
def vx_Zq (C n d : String) (A : Nat → Prop) (U : State) (H : Heap) : Prop := va_Zq C n d A U H ∧ vx_L C n d A U H
theorem vx_Zq.moved {C n d : String} {A : Nat → Prop} {u U : State} {H : Heap} (hvm : u.vm.Alike U.vm) (h : vx_Zq C n d A u H) : vx_Zq C n d A U H := ⟨va_Zq.moved hvm h.1, vx_L.moved hvm h.2⟩
theorem vx_Zq.kept {C n d : String} {A : Nat → Prop} {U : State} {H H1 : Heap} (h : vx_Zq C n d A U H) (hq : ∀ a : Nat, a < H.size → ¬ A a → H1[a]? = H[a]?) : vx_Zq C n d A U H1 := ⟨va_Zq.kept h.1 hq, vx_L.kept h.2 hq⟩
theorem vx_Zq.narrow {C n d : String} {A B : Nat → Prop} {U : State} {H : Heap} (h : vx_Zq C n d A U H) (hAB : ∀ q, B q → A q) : vx_Zq C n d B U H := ⟨va_Zq.narrow h.1 hAB, vx_L.narrow h.2 hAB⟩
theorem vx_Zqof {args : Array Value} {s : State} {C n d : String} {A : Nat → Prop} (hl : (Cond.laysStatic C n d).before args s = true) (hini : (Cond.initialized C).before args s = true) (h : (Cond.isRef (.static C n d)).before args s = true) (hA : ∀ a : Nat, a < s.heap.size → ¬ A a) : vx_Zq C n d A s s.heap := by
  refine ⟨va_Zqof hl hini h hA, ?_⟩
  obtain ⟨c, k, i, f, a, cell, h1, h2, h3, h4, h5, h6, h7, h8, h9⟩ := Cond.laysStatic_spec hl
  exact ⟨c, k, i, f, a, cell, h1, h2, h3, h4, h5, h6, h7, h8, h9, hA a (Array.getElem?_eq_some_iff.mp h5).1⟩
theorem vx_isRef {C n d : String} {v : Value} {A : Nat → Prop} {s : State} {args : Array Value} (h : va_Z C n d v A s s.heap) (hv : v.isRef = true) : (Cond.isRef (.static C n d)).before args s = true := by
  obtain ⟨cf, kf, fi, f, a, cell, h1, h2, h3, h4, h5, h6, h7, -⟩ := h
  have he : (Term.static C n d).eval args s none [] s = some v := by
    simp [Term.eval, State.fieldNamed?, h1, h2, h4, h5, h6, h7]
  simp only [Cond.before, Cond.holds, Cond.value, he]
  cases v <;> simp_all [Value.isRef]
theorem vx_isRefq {C n d : String} {A : Nat → Prop} {s : State} {args : Array Value} (h : va_Zq C n d A s s.heap) : (Cond.isRef (.static C n d)).before args s = true := by
  rcases h with h | ⟨t, h⟩
  · exact vx_isRef h rfl
  · exact vx_isRef h rfl
/-- the same frame, seen from here: as if the method were called anew in this heap -/
theorem vx_rebase {T : State} (X : Stand p l e R s m args below meth c T locs cells slots) {R' : Room} (hf : R'.frames ≤ R.frames) (hl : R'.locals ≤ R.locals) (hc : cells + R'.cells ≤ R.cells) (hs : slots + R'.slots ≤ R.slots) :
    Stand p l e R' ((T.setVm s.vm).setFrames (.invoking m args :: below)) m args below meth c T [] 0 0 := by
  have htop : (T.setVm s.vm).topJava?.isSome := X.here.top
  have hF : ((T.setVm s.vm).setFrames (.invoking m args :: below)).frames = .invoking m args :: below := State.frames_setFrames _ (State.cur_lt_of_top htop)
  obtain ⟨g₀, hg0⟩ := Option.isSome_iff_exists.mp htop
  obtain ⟨r, hr⟩ := State.topJava?_eq_some.mp hg0
  have hl9 : e.platform.stackLimits (T.setVm s.vm).me = e.platform.stackLimits s.me := X.limits
  have hb9 : (T.setVm s.vm).me.stackBytes = s.me.stackBytes := X.bytes
  refine ⟨X.admits, X.cas, X.clock, hF, ?_, X.hears, X.method, X.code, X.here, X.tail, X.warmed, ?_, ?_, ?_⟩
  · have h := X.room
    have hU : ((T.setVm s.vm).setFrames (.invoking m args :: below)).localsInUse = s.localsInUse := by
      rw [State.localsInUse_invoking hF (meth := meth) (c := c) X.method X.code, State.localsInUse_invoking X.frames X.method X.code]
    simp only [State.hasRoom, Bool.and_eq_true, decide_eq_true_eq] at h ⊢
    obtain ⟨⟨⟨⟨h1, h2, h3, h4, h5, h6⟩, h7⟩, h8⟩, h9⟩ := h
    rw [X.frames, List.length_cons] at h2 h3
    have q1 := X.heapSize
    have q2 := X.used
    simp only [hF, hU, List.length_cons, State.stackLimits_setFrames, State.stackBytes_setFrames, hl9, hb9]
    refine ⟨⟨⟨⟨by omega, by omega, by omega, by omega, by omega, h6⟩, ?_⟩, ?_⟩, X.book⟩
    · show T.heap.size + R'.cells ≤ e.platform.maxCells
      omega
    · show T.slotsUsed + R'.slots ≤ e.platform.maxSlots
      omega
  · rw [State.stackLimits_setFrames]; rfl
  · rw [State.stackBytes_setFrames]; rfl
  · refine ⟨?_, Nat.le_refl _, Nat.le_refl _, ?_, ?_, fun a c9 h9 => ⟨c9, h9, rfl, rfl, fun _ _ => rfl⟩⟩
    · obtain ⟨t, ht, -⟩ := State.frames_cons hr
      show T.setVm s.vm = { ((T.setVm s.vm).setFrames (.invoking m args :: below)).setFrames (T.setVm s.vm).frames with heap := T.heap, slotsUsed := T.slotsUsed }
      rw [State.setFrames_setFrames, State.setFrames_self ht]
      rfl
    · show T.slotsUsed = T.slotsUsed + ((T.heap.toList.drop T.heap.size).map (·.slots.size)).sum
      rw [List.drop_eq_nil_of_le (Nat.le_of_eq Array.length_toList)]
      rfl
    · show ((T.heap.toList.drop T.heap.size).map (·.slots.size)).sum ≤ 0
      rw [List.drop_eq_nil_of_le (Nat.le_of_eq Array.length_toList)]
      exact Nat.le_refl _
/-- 'throw new E()': new; dup; invokespecial; athrow -/
theorem vx_throw0 {cc : ByteArray} {pc : Nat} (hexec : p.tables.exec = Jvm.exec) (hb : c.code = cc) (hl : l.stackTraces = false) {own cls : String} {names : List String} {ik ic mc ms : Nat} {A : Nat → Prop}
    (hown : s.vm.findClass own = some m.cls) (hcls : Bundle.fit cls = true) (hnames : ∀ n ∈ names, Bundle.fit n = true)
    (hk : (Cond.classLink own ik cls).before args s = true) (hini : (Cond.initialized cls).before args s = true) (hat : ∀ w ∈ vx_at0 own ic cls names, w.before args s = true)
    (hgood : ∀ w ∈ Cond.classLink own ik cls :: Cond.initialized cls :: vx_at0 own ic cls names, vx_ot w = true)
    (hU : vx_Zq Bundle.tN "UNASSIGNED_STACK" Bundle.steD A s s.heap) (hN : vx_Zq Bundle.tN "SUPPRESSED_SENTINEL" Bundle.listD A s s.heap) (hS : va_S A s.heap H locs) (hsize : ls.size = c.maxLocals)
    (d0 : decode cc pc = .ok (.new ik, 3)) (d3 : decode cc (pc + 3) = .ok (.dup, 1)) (d4 : decode cc (pc + 4) = .ok (.invokespecial ic, 3)) (d7 : decode cc (pc + 7) = .ok (.athrow, 1))
    (hout : ∀ x ∈ c.exceptionTable.toList, covers x (pc + 7) = false)
    (hRframes : names.length + 3 < R.frames) (hRlocals : (rest.map fun v => v.category).sum + (13 * (names.length + 1) + 42) ≤ R.locals) (hRcells : cells + 1 ≤ R.cells) (hRslots : slots + 6 ≤ R.slots) (hlocks : meth.locks = false)
    (hx : ∀ t : State, s.vm.Alike t.vm → H.size ≤ t.heap.size → (∀ q : Nat, q < H.size → t.heap[q]? = H[q]?) → XC cls s t)
    (hf : ∀ z ∈ locs, free z.base) (hc : cells + 1 ≤ mc) (hs : slots + 6 ≤ ms) :
    W p l e R s m args below meth c H locs cells slots (vx_MQ below Qc XC args s mc ms free) (F0 m pc ls rest) := by
  intro T hT X
  have htr : e.platform.stackTraces = false := (show e.platform.stackTraces = l.stackTraces by rw [X.admits.platform]).trans hl
  have Y := vx_rebase X (R' := { frames := R.frames, locals := R.locals, cells := 1, slots := 6 }) (Nat.le_refl _) (Nat.le_refl _) hRcells hRslots
  obtain ⟨s', hA⟩ : ∃ z, z = (T.setVm s.vm).setFrames (.invoking m args :: below) := ⟨_, rfl⟩
  rw [← hA] at Y
  have hvm : s'.vm = s.vm := by rw [hA]; rfl
  have hhp : s'.heap = H := by rw [hA]; exact hT
  have hW0 : s.WarmedH s'.vm := by rw [hvm]; exact State.WarmedH.refl s
  have hat' : ∀ w ∈ vx_at0 own ic cls names, w.before args s' = true := fun w hw => vx_ot_at hW0 hvm.symm (hgood w (List.mem_cons_of_mem _ (List.mem_cons_of_mem _ hw))) (hat w hw)
  have hk' : (Cond.classLink own ik cls).before args s' = true := vx_ot_at hW0 hvm.symm (hgood _ List.mem_cons_self) hk
  have hini' : (Cond.initialized cls).before args s' = true := vx_ot_at hW0 hvm.symm (hgood _ (List.mem_cons_of_mem _ List.mem_cons_self)) hini
  have hU' : vx_Zq Bundle.tN "UNASSIGNED_STACK" Bundle.steD A s' s'.heap := by rw [hhp]; exact vx_Zq.moved hW0.alike (hU.kept hS.2.1)
  have hN' : vx_Zq Bundle.tN "SUPPRESSED_SENTINEL" Bundle.listD A s' s'.heap := by rw [hhp]; exact vx_Zq.moved hW0.alike (hN.kept hS.2.1)
  have h : ∀ w ∈ Bundle.ownAtoms0 own ic cls names, w.before args s' = true := vx_own hat' (vx_isRefq hU'.1) (vx_isRefq hN'.1) hU'.2.word hN'.2.word
  have hown' : s'.vm.findClass own = some m.cls := by rw [hvm]; exact hown
  have hins : (Cond.instantiable cls 6).before args s' = true := h _ (by simp [Bundle.ownAtoms0])
  obtain ⟨vm₁, cX, kX, hfX, hkX, -, -, X₁, st1⟩ := Y.newCold hexec (own := own) (C := cls) (index := ik) (n := 6) hown' hk' hins hini'
    (g := F0 m pc ls rest) rfl (by rw [hb]; exact d0) (Nat.le_refl _) (Nat.le_refl _)
  generalize hT1 : (T.setVm vm₁).pushCell { cls := cX, slots := kX.instanceTypes.map defaultValue, vm := .none } = T1 at X₁ st1
  have hcat : (Value.ref T.heap.size).category = 1 := rfl
  have hcellA : T1.heap[T.heap.size]? = some (freshCell cX kX) := by rw [← hT1]; exact State.heap_pushCell_size _ _
  have d3' : decode c.code (pc + 3) = .ok (.dup, 1) := by rw [hb]; exact d3
  obtain ⟨U, hsteps, hrun, hend, hW, hsame, ce, hce, hO⟩ := X₁.ctorThrow0 hexec htr (own := own) (cls := cls) (names := names) (ic := ic) hown' hcls hnames h (fun x hx => nomatch hx) hfX hkX hcellA (by rw [hhp, hT]; exact Nat.le_refl _)
    (g := { method := m, pc := pc + 4, locals := ls, stack := .ref T.heap.size :: .ref T.heap.size :: rest, locked := none }) rfl hsize rfl rfl (rest := rest) rfl
    (by rw [hb]; exact d4) (by rw [hb]; exact d7) hout hRframes (by simp only [List.map_cons, List.sum_cons, hcat]; omega) hlocks
  obtain ⟨f1, f2⟩ := vx_frame hsame
  rw [hhp] at f1 f2
  have hWs : s.WarmedH U.vm := State.WarmedH.trans hW0 hW
  have hcl : s.vm.findClass cls = some ce.cls := by
    have h9 := hO.cls
    rw [hvm] at h9
    exact h9
  have hall : s.sameButNew ({ U with vm := s.vm } : State) locs mc ms := by
    subst hA
    obtain ⟨e1, e2⟩ := hsame
    rw [State.setFrames_setFrames] at e1
    have h2 : (T.setVm s.vm).sameButNew ({ U with vm := s.vm } : State) [] (0 + 1) (0 + 6) := ⟨e1, e2⟩
    have h3 := X.same.trans h2
    rw [List.append_nil] at h3
    exact h3.mono hc hs
  refine ⟨U, ?_, .threw T.heap.size, hrun, hend, Or.inr ⟨T.heap.size, rfl, cls, ce, locs, hx U hWs.alike f1 (fun q hq => f2 q hq (fun z hz => nomatch hz)), hce, hO.vm, hcl, hWs, hall, hf⟩⟩
  refine st1 _ ?_
  show Steps p.tables e below (T1.setTop { method := m, pc := pc + 3, locals := ls, stack := .ref T.heap.size :: rest, locked := none }) _
  jvm_step X₁.here [X₁.here.top, hexec, d3', Value.category]
  exact hsteps
/-- 'throw new E("text")': new; dup; ldc; invokespecial; athrow -/
theorem vx_throwS {cc : ByteArray} {pc : Nat} (hexec : p.tables.exec = Jvm.exec) (hb : c.code = cc) (hl : l.stackTraces = false) {own cls text : String} {names : List String} {ik is ic mc ms sa : Nat} {A : Nat → Prop}
    (hown : s.vm.findClass own = some m.cls) (hcls : Bundle.fit cls = true) (hnames : ∀ n ∈ names, Bundle.fit n = true)
    (hk : (Cond.classLink own ik cls).before args s = true) (hini : (Cond.initialized cls).before args s = true) (hstr : vk_R own is text sa s) (hat : ∀ w ∈ vx_atS own ic cls names, w.before args s = true)
    (hgood : ∀ w ∈ Cond.classLink own ik cls :: Cond.initialized cls :: vx_atS own ic cls names, vx_ot w = true)
    (hU : vx_Zq Bundle.tN "UNASSIGNED_STACK" Bundle.steD A s s.heap) (hN : vx_Zq Bundle.tN "SUPPRESSED_SENTINEL" Bundle.listD A s s.heap) (hS : va_S A s.heap H locs) (hsize : ls.size = c.maxLocals)
    (d0 : decode cc pc = .ok (.new ik, 3)) (d3 : decode cc (pc + 3) = .ok (.dup, 1)) (d4 : decode cc (pc + 4) = .ok (.ldc is, 2)) (d6 : decode cc (pc + 6) = .ok (.invokespecial ic, 3)) (d9 : decode cc (pc + 9) = .ok (.athrow, 1))
    (hout : ∀ x ∈ c.exceptionTable.toList, covers x (pc + 9) = false)
    (hRframes : names.length + 3 < R.frames) (hRlocals : (rest.map fun v => v.category).sum + (13 * (names.length + 1) + 43) ≤ R.locals) (hRcells : cells + 1 ≤ R.cells) (hRslots : slots + 6 ≤ R.slots) (hlocks : meth.locks = false)
    (hx : ∀ t : State, s.vm.Alike t.vm → H.size < t.heap.size → (∀ q : Nat, q < H.size → t.heap[q]? = H[q]?) → XC cls s t)
    (hf : ∀ z ∈ locs, free z.base) (hc : cells + 1 ≤ mc) (hs : slots + 6 ≤ ms) :
    W p l e R s m args below meth c H locs cells slots (vx_MQ below Qc XC args s mc ms free) (F0 m pc ls rest) := by
  intro T hT X
  have htr : e.platform.stackTraces = false := (show e.platform.stackTraces = l.stackTraces by rw [X.admits.platform]).trans hl
  have Y := vx_rebase X (R' := { frames := R.frames, locals := R.locals, cells := 1, slots := 6 }) (Nat.le_refl _) (Nat.le_refl _) hRcells hRslots
  obtain ⟨s', hA⟩ : ∃ z, z = (T.setVm s.vm).setFrames (.invoking m args :: below) := ⟨_, rfl⟩
  rw [← hA] at Y
  have hvm : s'.vm = s.vm := by rw [hA]; rfl
  have hhp : s'.heap = H := by rw [hA]; exact hT
  have hW0 : s.WarmedH s'.vm := by rw [hvm]; exact State.WarmedH.refl s
  have hat' : ∀ w ∈ vx_atS own ic cls names, w.before args s' = true := fun w hw => vx_ot_at hW0 hvm.symm (hgood w (List.mem_cons_of_mem _ (List.mem_cons_of_mem _ hw))) (hat w hw)
  have hk' : (Cond.classLink own ik cls).before args s' = true := vx_ot_at hW0 hvm.symm (hgood _ List.mem_cons_self) hk
  have hini' : (Cond.initialized cls).before args s' = true := vx_ot_at hW0 hvm.symm (hgood _ (List.mem_cons_of_mem _ List.mem_cons_self)) hini
  have hU' : vx_Zq Bundle.tN "UNASSIGNED_STACK" Bundle.steD A s' s'.heap := by rw [hhp]; exact vx_Zq.moved hW0.alike (hU.kept hS.2.1)
  have hN' : vx_Zq Bundle.tN "SUPPRESSED_SENTINEL" Bundle.listD A s' s'.heap := by rw [hhp]; exact vx_Zq.moved hW0.alike (hN.kept hS.2.1)
  have h : ∀ w ∈ Bundle.ownAtoms own ic cls names, w.before args s' = true := vx_own hat' (vx_isRefq hU'.1) (vx_isRefq hN'.1) hU'.2.word hN'.2.word
  have hown' : s'.vm.findClass own = some m.cls := by rw [hvm]; exact hown
  have hins : (Cond.instantiable cls 6).before args s' = true := h _ (by simp [Bundle.ownAtoms])
  obtain ⟨vm₁, cX, kX, hfX, hkX, -, -, X₁, st1⟩ := Y.newCold hexec (own := own) (C := cls) (index := ik) (n := 6) hown' hk' hins hini'
    (g := F0 m pc ls rest) rfl (by rw [hb]; exact d0) (Nat.le_refl _) (Nat.le_refl _)
  generalize hT1 : (T.setVm vm₁).pushCell { cls := cX, slots := kX.instanceTypes.map defaultValue, vm := .none } = T1 at X₁ st1
  have hcat : (Value.ref T.heap.size).category = 1 := rfl
  have hcellA : T1.heap[T.heap.size]? = some (freshCell cX kX) := by rw [← hT1]; exact State.heap_pushCell_size _ _
  have d3' : decode c.code (pc + 3) = .ok (.dup, 1) := by rw [hb]; exact d3
  have d4' : decode c.code (pc + 4) = .ok (.ldc is, 2) := by rw [hb]; exact d4
  have hstr' : vk_R own is text sa s' := vk_R.warm hW0 hstr
  obtain ⟨U, hsteps, hrun, hend, hW, hsame, ce, hce, hO⟩ := X₁.ctorThrowS hexec htr (own := own) (cls := cls) (names := names) (ic := ic) hown' hcls hnames h (fun x hx => nomatch hx) hfX hkX hcellA (by rw [hhp, hT]; exact Nat.le_refl _) (msg := .ref sa) rfl
    (g := { method := m, pc := pc + 6, locals := ls, stack := .ref sa :: .ref T.heap.size :: .ref T.heap.size :: rest, locked := none }) rfl hsize rfl rfl (rest := rest) rfl
    (by rw [hb]; exact d6) (by rw [hb]; exact d9) hout hRframes (by simp only [List.map_cons, List.sum_cons, hcat]; omega) hlocks
  obtain ⟨f1, f2⟩ := vx_frame hsame
  rw [hhp] at f1 f2
  have hWs : s.WarmedH U.vm := State.WarmedH.trans hW0 hW
  have hcl : s.vm.findClass cls = some ce.cls := by
    have h9 := hO.cls
    rw [hvm] at h9
    exact h9
  have hall : s.sameButNew ({ U with vm := s.vm } : State) locs mc ms := by
    subst hA
    obtain ⟨e1, e2⟩ := hsame
    rw [State.setFrames_setFrames] at e1
    have h2 : (T.setVm s.vm).sameButNew ({ U with vm := s.vm } : State) [] (0 + 1) (0 + 6) := ⟨e1, e2⟩
    have h3 := X.same.trans h2
    rw [List.append_nil] at h3
    exact h3.mono hc hs
  refine ⟨U, ?_, .threw T.heap.size, hrun, hend, Or.inr ⟨T.heap.size, rfl, cls, ce, locs, hx U hWs.alike (by have h9 := (Array.getElem?_eq_some_iff.mp hce).1; rw [hT] at h9; exact h9) (fun q hq => f2 q hq (fun z hz => nomatch hz)), hce, hO.vm, hcl, hWs, hall, hf⟩⟩
  refine st1 _ ?_
  show Steps p.tables e below (T1.setTop { method := m, pc := pc + 3, locals := ls, stack := .ref T.heap.size :: rest, locked := none }) _
  jvm_step X₁.here [X₁.here.top, hexec, d3', Value.category]
  exact X₁.ldcString hexec (own := own) (text := text) (index := is) (a := sa) hown' hstr'.1 hstr'.2
    (g := { method := m, pc := pc + 4, locals := ls, stack := .ref T.heap.size :: .ref T.heap.size :: rest, locked := none }) rfl d4' _ hsteps
/-- 'throw new E("text")', the text by a wide index -/
theorem vx_throwSW {cc : ByteArray} {pc : Nat} (hexec : p.tables.exec = Jvm.exec) (hb : c.code = cc) (hl : l.stackTraces = false) {own cls text : String} {names : List String} {ik is ic mc ms sa : Nat} {A : Nat → Prop}
    (hown : s.vm.findClass own = some m.cls) (hcls : Bundle.fit cls = true) (hnames : ∀ n ∈ names, Bundle.fit n = true)
    (hk : (Cond.classLink own ik cls).before args s = true) (hini : (Cond.initialized cls).before args s = true) (hstr : vk_R own is text sa s) (hat : ∀ w ∈ vx_atS own ic cls names, w.before args s = true)
    (hgood : ∀ w ∈ Cond.classLink own ik cls :: Cond.initialized cls :: vx_atS own ic cls names, vx_ot w = true)
    (hU : vx_Zq Bundle.tN "UNASSIGNED_STACK" Bundle.steD A s s.heap) (hN : vx_Zq Bundle.tN "SUPPRESSED_SENTINEL" Bundle.listD A s s.heap) (hS : va_S A s.heap H locs) (hsize : ls.size = c.maxLocals)
    (d0 : decode cc pc = .ok (.new ik, 3)) (d3 : decode cc (pc + 3) = .ok (.dup, 1)) (d4 : decode cc (pc + 4) = .ok (.ldc_w is, 3)) (d7 : decode cc (pc + 7) = .ok (.invokespecial ic, 3)) (d10 : decode cc (pc + 10) = .ok (.athrow, 1))
    (hout : ∀ x ∈ c.exceptionTable.toList, covers x (pc + 10) = false)
    (hRframes : names.length + 3 < R.frames) (hRlocals : (rest.map fun v => v.category).sum + (13 * (names.length + 1) + 43) ≤ R.locals) (hRcells : cells + 1 ≤ R.cells) (hRslots : slots + 6 ≤ R.slots) (hlocks : meth.locks = false)
    (hx : ∀ t : State, s.vm.Alike t.vm → H.size < t.heap.size → (∀ q : Nat, q < H.size → t.heap[q]? = H[q]?) → XC cls s t)
    (hf : ∀ z ∈ locs, free z.base) (hc : cells + 1 ≤ mc) (hs : slots + 6 ≤ ms) :
    W p l e R s m args below meth c H locs cells slots (vx_MQ below Qc XC args s mc ms free) (F0 m pc ls rest) := by
  intro T hT X
  have htr : e.platform.stackTraces = false := (show e.platform.stackTraces = l.stackTraces by rw [X.admits.platform]).trans hl
  have Y := vx_rebase X (R' := { frames := R.frames, locals := R.locals, cells := 1, slots := 6 }) (Nat.le_refl _) (Nat.le_refl _) hRcells hRslots
  obtain ⟨s', hA⟩ : ∃ z, z = (T.setVm s.vm).setFrames (.invoking m args :: below) := ⟨_, rfl⟩
  rw [← hA] at Y
  have hvm : s'.vm = s.vm := by rw [hA]; rfl
  have hhp : s'.heap = H := by rw [hA]; exact hT
  have hW0 : s.WarmedH s'.vm := by rw [hvm]; exact State.WarmedH.refl s
  have hat' : ∀ w ∈ vx_atS own ic cls names, w.before args s' = true := fun w hw => vx_ot_at hW0 hvm.symm (hgood w (List.mem_cons_of_mem _ (List.mem_cons_of_mem _ hw))) (hat w hw)
  have hk' : (Cond.classLink own ik cls).before args s' = true := vx_ot_at hW0 hvm.symm (hgood _ List.mem_cons_self) hk
  have hini' : (Cond.initialized cls).before args s' = true := vx_ot_at hW0 hvm.symm (hgood _ (List.mem_cons_of_mem _ List.mem_cons_self)) hini
  have hU' : vx_Zq Bundle.tN "UNASSIGNED_STACK" Bundle.steD A s' s'.heap := by rw [hhp]; exact vx_Zq.moved hW0.alike (hU.kept hS.2.1)
  have hN' : vx_Zq Bundle.tN "SUPPRESSED_SENTINEL" Bundle.listD A s' s'.heap := by rw [hhp]; exact vx_Zq.moved hW0.alike (hN.kept hS.2.1)
  have h : ∀ w ∈ Bundle.ownAtoms own ic cls names, w.before args s' = true := vx_own hat' (vx_isRefq hU'.1) (vx_isRefq hN'.1) hU'.2.word hN'.2.word
  have hown' : s'.vm.findClass own = some m.cls := by rw [hvm]; exact hown
  have hins : (Cond.instantiable cls 6).before args s' = true := h _ (by simp [Bundle.ownAtoms])
  obtain ⟨vm₁, cX, kX, hfX, hkX, -, -, X₁, st1⟩ := Y.newCold hexec (own := own) (C := cls) (index := ik) (n := 6) hown' hk' hins hini'
    (g := F0 m pc ls rest) rfl (by rw [hb]; exact d0) (Nat.le_refl _) (Nat.le_refl _)
  generalize hT1 : (T.setVm vm₁).pushCell { cls := cX, slots := kX.instanceTypes.map defaultValue, vm := .none } = T1 at X₁ st1
  have hcat : (Value.ref T.heap.size).category = 1 := rfl
  have hcellA : T1.heap[T.heap.size]? = some (freshCell cX kX) := by rw [← hT1]; exact State.heap_pushCell_size _ _
  have d3' : decode c.code (pc + 3) = .ok (.dup, 1) := by rw [hb]; exact d3
  have d4' : decode c.code (pc + 4) = .ok (.ldc_w is, 3) := by rw [hb]; exact d4
  have hstr' : vk_R own is text sa s' := vk_R.warm hW0 hstr
  obtain ⟨U, hsteps, hrun, hend, hW, hsame, ce, hce, hO⟩ := X₁.ctorThrowS hexec htr (own := own) (cls := cls) (names := names) (ic := ic) hown' hcls hnames h (fun x hx => nomatch hx) hfX hkX hcellA (by rw [hhp, hT]; exact Nat.le_refl _) (msg := .ref sa) rfl
    (g := { method := m, pc := pc + 7, locals := ls, stack := .ref sa :: .ref T.heap.size :: .ref T.heap.size :: rest, locked := none }) rfl hsize rfl rfl (rest := rest) rfl
    (by rw [hb]; exact d7) (by rw [hb]; exact d10) hout hRframes (by simp only [List.map_cons, List.sum_cons, hcat]; omega) hlocks
  obtain ⟨f1, f2⟩ := vx_frame hsame
  rw [hhp] at f1 f2
  have hWs : s.WarmedH U.vm := State.WarmedH.trans hW0 hW
  have hcl : s.vm.findClass cls = some ce.cls := by
    have h9 := hO.cls
    rw [hvm] at h9
    exact h9
  have hall : s.sameButNew ({ U with vm := s.vm } : State) locs mc ms := by
    subst hA
    obtain ⟨e1, e2⟩ := hsame
    rw [State.setFrames_setFrames] at e1
    have h2 : (T.setVm s.vm).sameButNew ({ U with vm := s.vm } : State) [] (0 + 1) (0 + 6) := ⟨e1, e2⟩
    have h3 := X.same.trans h2
    rw [List.append_nil] at h3
    exact h3.mono hc hs
  refine ⟨U, ?_, .threw T.heap.size, hrun, hend, Or.inr ⟨T.heap.size, rfl, cls, ce, locs, hx U hWs.alike (by have h9 := (Array.getElem?_eq_some_iff.mp hce).1; rw [hT] at h9; exact h9) (fun q hq => f2 q hq (fun z hz => nomatch hz)), hce, hO.vm, hcl, hWs, hall, hf⟩⟩
  refine st1 _ ?_
  show Steps p.tables e below (T1.setTop { method := m, pc := pc + 3, locals := ls, stack := .ref T.heap.size :: rest, locked := none }) _
  jvm_step X₁.here [X₁.here.top, hexec, d3', Value.category]
  exact X₁.ldcStringW hexec (own := own) (text := text) (index := is) (a := sa) hown' hstr'.1 hstr'.2
    (g := { method := m, pc := pc + 4, locals := ls, stack := .ref T.heap.size :: .ref T.heap.size :: rest, locked := none }) rfl d4' _ hsteps
end Ends
section Bodies
variable {l : Launch}
theorem vx_ofW {y : MethodName} {ws ws' : List Cond} {rm : Room} {Pc : Array Value → State → Prop} {Qc : Array Value → State → Outcome → State → Prop} {XC : String → State → State → Prop} {mc ms : Nat} {free : Addr → Prop} {cc : ByteArray} {maxL : Nat} {ret : Option FieldType}
    (hy : plainName y.cls = true) (hw : ws = Cond.code y cc maxL ret :: ws')
    (body : ∀ p e s m args below meth c s₁, BodyLoose p l y (headSpec ws rm) cc maxL ret e s m args below meth c s₁ → c.maxLocals = maxL → (∀ x ∈ c.exceptionTable.toList, False) → Pc args s →
      W p l e (headSpec ws rm).room s m args below meth c s.heap [] 0 0 (vx_MQ below Qc XC args s mc ms free) (entryFrame m args maxL)) : vx_Met l y ws rm Pc Qc XC mc ms free := by
  refine MetFree.of_bodyS (code := cc) (maxLocals := maxL) (ret := ret) hy ?_ ?_
  · intro args s m h hn
    obtain ⟨meth, c, h1, h2, h3, h4, h5, h6, -, -⟩ := Cond.code_spec hn (atoms_spec (ws := ws) h _ (by rw [hw]; exact List.mem_cons_self))
    exact ⟨meth, c, h1, h2, h3, h4, h5, h6⟩
  · intro p e s m args below meth c s₁ B hml hP _
    have hh0 : s₁.heap = s.heap := by rw [B.state]; rfl
    have ht : ∀ x ∈ c.exceptionTable.toList, False := by
      obtain ⟨meth9, c9, h1, h2, -, -, -, -, h7, -⟩ := Cond.code_spec B.named (atoms_spec (ws := ws) B.pre _ (by rw [hw]; exact List.mem_cons_self))
      cases Option.some.inj (h1.symm.trans B.method)
      cases Option.some.inj (h2.symm.trans (Stand.of_body B).code)
      intro x hx
      rw [Array.isEmpty_iff.mp h7] at hx
      cases hx
    obtain ⟨t, a1, o, b1, b2, b3⟩ := body p e s m args below meth c s₁ B hml ht hP s₁ hh0 (Stand.of_body B)
    exact ⟨t, o, a1, b1, b2, b3⟩
/-- the table of a body with handlers -/
theorem vx_table {p : Program} {x y : MethodName} {S : Spec} {cc bytes : ByteArray} {maxL maxL' : Nat} {ret ret' : Option FieldType} {e : Env} {s s₁ : State} {m : MethodId} {args : Array Value} {below : List Frame} {meth : Method} {c : Code} {hh : List (Nat × Nat × Nat × Nat)}
    (B : BodyLoose p l y S cc maxL ret e s m args below meth c s₁) (h : (Cond.codeWith y bytes maxL' ret' hh).before args s = true) : c.exceptionTable.toList = tableOf hh := by
  obtain ⟨m9, meth9, c9, hn9, h1, h2, -, -, h6, -⟩ := Cond.codeWith_spec h
  cases Option.some.inj (hn9.symm.trans B.named)
  cases Option.some.inj (h1.symm.trans B.method)
  cases Option.some.inj (h2.symm.trans (Stand.of_body B).code)
  rw [← h6, table_eq]
end Bodies
end VXA
/-! ===== END ===== -/
/-! ===== BEGIN a static call of a method with an exception table ===== -/
section VXS
variable {p : Program} {l : Launch} {e : Env} {R : Room} {s : State} {m : MethodId} {args : Array Value} {below : List Frame} {meth : Method} {c : Code} {T : State} {H : Heap} {locs : List Loc} {cells slots : Nat}
abbrev vx_CSW (R : Room) (s : State) (args : Array Value) (own : String) (index : Nat) (y : MethodName) (bytes : ByteArray) (maxL : Nat) (ret : Option FieldType) (hh : List (Nat × Nat × Nat × Nat)) (ws : List Cond) (rm : Room) (mc ms n : Nat) : Prop :=
  (rm.cells = mc ∧ rm.slots = ms ∧ rm.frames + 1 ≤ R.frames ∧ 8 + (maxL + 11) + rm.locals ≤ R.locals ∧ (∀ w ∈ ws, ∀ (a' : Array Value) (U : State), s.WarmedH U.vm → w.before a' U = true) ∧ Cond.codeWith y bytes maxL ret hh ∈ ws) ∧
  (Cond.codeWith y bytes maxL ret hh).before args s = true ∧ (Cond.initialized y.cls).before args s = true ∧ (y.cls ≠ "java/lang/invoke/MethodHandle" ∧ y.cls ≠ "java/lang/invoke/VarHandle") ∧
  (∀ sig, parseMethodDescriptor y.desc = some sig → n = sig.parameters.length) ∧ (Cond.methodLink own index y).before args s = true ∧ (Cond.static y).before args s = true
theorem vx_cwSW {own : String} {index maxL mc ms : Nat} {y : MethodName} {bytes : ByteArray} {ret : Option FieldType} {hh : List (Nat × Nat × Nat × Nat)} {Ts ws ws' : List Cond} {rm : Room} (n : Nat) (ht : ∀ w ∈ Ts, w.before args s = true) (hT : GoodIn Ts (va_wsS own index y ws)) (hw : ws = Cond.codeWith y bytes maxL ret hh :: ws') (hrc : rm.cells = mc) (hrs : rm.slots = ms)
    (hd : y.cls ≠ "java/lang/invoke/MethodHandle" ∧ y.cls ≠ "java/lang/invoke/VarHandle" ∧ (parseMethodDescriptor y.desc).map (fun d => d.parameters.length) = some n) (hR : rm.frames + 1 ≤ R.frames ∧ 8 + (maxL + 11) + rm.locals ≤ R.locals) :
    vx_CSW R s args own index y bytes maxL ret hh ws rm mc ms n := by
  have ok : ∀ w ∈ va_wsS own index y ws, w.before args s = true := fun w h => ht w (hT w h).1
  have hG : GoodIn Ts ws := fun w h => hT w (by unfold va_wsS; exact List.mem_append_right _ h)
  have hc : Cond.codeWith y bytes maxL ret hh ∈ ws := by rw [hw]; exact List.mem_cons_self
  refine ⟨⟨hrc, hrs, hR.1, hR.2, pay_in ht hG, hc⟩, ht _ (hG _ hc).1, ok _ (by simp [va_wsS]), ⟨hd.1, hd.2.1⟩, fun sig h => ?_, ok _ (by simp [va_wsS]), ok _ (by simp [va_wsS])⟩
  have h2 := hd.2.2
  rw [h] at h2
  exact (Option.some.inj h2).symm
theorem vx_callSW (X : Stand p l e R s m args below meth c T locs cells slots) (hexec : p.tables.exec = Jvm.exec) {own : String} {index : Nat} {y : MethodName} {bytes : ByteArray} {maxL : Nat} {ret : Option FieldType} {hh : List (Nat × Nat × Nat × Nat)}
    (hown : s.vm.findClass own = some m.cls) (hlink : (Cond.methodLink own index y).before args s = true) (hstat : (Cond.static y).before args s = true) (hinit : (Cond.initialized y.cls).before args s = true)
    (hcode : (Cond.codeWith y bytes maxL ret hh).before args s = true) (hy : y.cls ≠ "java/lang/invoke/MethodHandle" ∧ y.cls ≠ "java/lang/invoke/VarHandle")
    {W9 : Nat} {Pre : Pt → Array Value → Prop} {Post : Pt → Array Value → Option Value → Pt → Prop} (hK : Back l R p e below s args y 3 W9 Pre Post)
    {g : JFrame} (hg : g.method = m) (hsize : g.locals.size = c.maxLocals) {argsL rest : List Value} (hlen : ∀ sig, parseMethodDescriptor y.desc = some sig → argsL.length = sig.parameters.length)
    (hstack : g.stack = argsL.reverse ++ rest) (hW : 2 * g.monitorRoom + (rest.map fun v => v.category).sum ≤ W9) (hdg : decode c.code g.pc = .ok (.invokestatic index, 3))
    (hpre : ∀ vm₁, s.WarmedH vm₁ → Pre ⟨T.setVm vm₁, locs, cells, slots⟩ argsL.toArray) :
    ∃ (v : Option Value) (vm₁ : Vm) (B : Pt), s.WarmedH vm₁ ∧ Stand p l e R s m args below meth c B.U B.locs B.cells B.slots ∧ Post ⟨T.setVm vm₁, locs, cells, slots⟩ argsL.toArray v B ∧
      ∀ target, Steps p.tables e below (B.U.setTop { g with pc := g.pc + 3, stack := v.toList ++ rest }) target → Steps p.tables e below (T.setTop g) target := by
  obtain ⟨mk, methM, cM, hnamed, hmethM, -, -, -, -, -, -, hsigM⟩ := Cond.codeWith_spec hcode
  have hstatic : methM.isStatic = true := Cond.static_spec hnamed hmethM hstat
  obtain ⟨kP, hkP, -⟩ := className_of_methodNamed hnamed
  have hinitP : kP.init = .initialized := Cond.initialized_spec (findClass_of_methodNamed hnamed) hkP hinit
  obtain ⟨vm₁, X₁, hstep₁⟩ := X.invokestatic hexec hown hlink hnamed hmethM hstatic hkP hinitP hy (g := g) hg (argsL := argsL) (rest := rest) (hlen _ hsigM) hstack hdg
  obtain ⟨v, B, X', hpost, hsteps⟩ := hK m meth c ⟨T.setVm vm₁, locs, cells, slots⟩ { g with stack := rest } (.invokestatic index) mk argsL.toArray X₁ hg hsize hdg hW (X₁.named hnamed) (hpre vm₁ X₁.warmed)
  exact ⟨v, vm₁, B, X₁.warmed, X', hpost, fun target h => hstep₁ _ fun acts => by rw [doInvoke_state]; exact hsteps.trans h⟩
theorem vx_runSW {y : MethodName} {bytes cc : ByteArray} {maxL nL mc ms n index : Nat} {ret : Option FieldType} {hh : List (Nat × Nat × Nat × Nat)} {ws : List Cond} {rm : Room} {Pc : Array Value → State → Prop} {Qc : Array Value → State → Outcome → State → Prop} {free : Addr → Prop} {Ts : List Cond} {own : String} {As rest : List Value} {g : JFrame}
    (S : CallFix p m c cc nL s args Ts own) (hM : Met l y ws rm Pc Qc mc ms free) (cw : vx_CSW R s args own index y bytes maxL ret hh ws rm mc ms n) (hp : PreS s H Pc As)
    (hg : g.method = m) (hn : As.length = n) (hsize : g.locals.size = nL) (hstack : g.stack = As.reverse ++ rest) (hW : 2 * g.monitorRoom + (rest.map fun v => v.category).sum ≤ 8) (hdg : decode cc g.pc = .ok (.invokestatic index, 3)) (hf : cells + mc ≤ R.cells ∧ slots + ms ≤ R.slots) :
    va_Run p l e R s m args below meth c H locs cells slots mc ms g rest (Qc As.toArray) (free) := by
  obtain ⟨⟨hrc, hrs, hfr, hlo, hws, hcw⟩, hcode, hini, hy, hlen, hl, hstt⟩ := cw
  have hK : Back l R p e below s args y 3 8 (PreOf R mc ms Pc) (PostOf Qc mc ms free) := va_backW (hh := hh) (bytes := bytes) (maxL := maxL) (ret := ret) hM hp.1 hrc hrs hfr hlo hws hcw (fun a' U hW => word_at hW (Or.inl (by first | rfl | simp [Cond.onTables, Cond.keeps, Cond.steady])) hini)
  obtain ⟨hx, hb, hml, ho, -⟩ := S
  intro T hT X
  obtain ⟨v, vm₁, ⟨U', l2, c2, s2⟩, hW₁, X', ⟨g', mk, t, L, e1, e2, hq, h1, hL, h2, h3⟩, st⟩ := vx_callSW X hx (hh := hh) (bytes := bytes) (maxL := maxL) (ret := ret) ho hl hstt hini hcode hy hK hg (hsize.trans hml.symm) (argsL := As) (rest := rest) (fun sig h => hn.trans (hlen sig h)) hstack hW (by rw [hb]; exact hdg)
    (fun vm₁ hW₁ => ⟨hf.1, hf.2, hp.2 (T.setVm vm₁) hT hW₁⟩)
  dsimp only [Pt.U, Pt.locs, Pt.cells, Pt.slots] at X' e1 e2 h1 h2 h3 st
  subst h1; subst h2; subst h3
  exact ⟨v, (T.setVm vm₁).calling g' mk As.toArray, t, U', L, hT, X', hL, e1, e2, hq, st⟩
/-- not caught here, past rows that name other classes: it goes on to the caller -/
theorem vx_outP {p : Program} {l : Launch} {e : Env} {R : Room} {s : State} {m : MethodId} {args : Array Value} {below : List Frame} {meth : Method} {c : Code} {H : Heap} {locs : List Loc} {cells slots : Nat} {free : Addr → Prop} {ls : Array Slot} {rest : List Value} {Qc : Array Value → State → Outcome → State → Prop} {XC : String → State → State → Prop}
    {pc : Nat} {own E : String} {ce : Cell} {q : Addr} {mc ms : Nat} (hown : s.vm.findClass own = some m.cls) (hlocks : meth.locks = false)
    (hpass : ∀ z ∈ c.exceptionTable.toList, covers z pc = false ∨ (z.catchType ≠ 0 ∧ ∃ nm : String, (Cond.classLink own z.catchType nm).before args s = true ∧ va_Nc E nm s)) (hcell : H[q]? = some ce) (hv : ce.vm = .none) (hcl : s.vm.findClass E = some ce.cls)
    (hx : ∀ t : State, t.heap = H → s.vm.Alike t.vm → XC E s t) (hf : ∀ z ∈ locs, free z.base) (hc : cells ≤ mc) (hs : slots ≤ ms) :
    vx_W p l e R s m args below meth c H locs cells slots (vx_MQ below Qc XC args s mc ms free) (F0 m pc ls rest) q := by
  intro T hT X
  have hpl : e.platform.magicAccessors = ({} : Platform).magicAccessors := by rw [X.admits.platform]
  obtain ⟨vm', hW', X', st⟩ := X.outThrough hlocks q (g := F0 m pc ls rest) rfl rfl rfl (cell := ce) (by rw [hT]; exact hcell) (by rw [hv]; rfl)
    (by obtain ⟨k9, h9, -⟩ := Vm.findClass_spec hcl; exact ⟨k9, h9⟩) (fun z hz => by
      rcases hpass z hz with h | ⟨hz0, nm, hl1, hn1⟩
      · exact Or.inl h
      · obtain ⟨c6, hc6, hcl6⟩ := Cond.classLink_spec hown hl1 e.platform hpl
        obtain ⟨a8, b8, h1, h2, h3⟩ := hn1
        cases Option.some.inj (h1.symm.trans hcl)
        cases Option.some.inj (h2.symm.trans hc6)
        exact Or.inr ⟨hz0, _, hcl6, h3⟩)
  obtain ⟨g₀, hfr⟩ := X'.frames_eq
  have hcell9 : ((T.setVm vm').setFrames (.throwing q :: below)).heap[q]? = some ce := by
    show T.heap[q]? = some ce
    rw [hT]; exact hcell
  have hend : Ended ((T.setVm vm').setFrames (.throwing q :: below)) below (.threw q) := State.frames_setFrames _ (State.cur_lt_of_frames hfr)
  refine ⟨(T.setVm vm').setFrames (.throwing q :: below), ?_, .threw q, X'.here.running, hend, Or.inr ⟨q, rfl, E, ce, locs, hx _ hT (X'.ends _).1.alike, hcell9, hv, hcl, (X'.ends _).1, (X'.ends _).2.mono hc hs, hf⟩⟩
  rw [X.pushThrowing_eq]
  exact st
/-- a thing of a world lies in the heap -/
theorem vx_lt {D : va_G} {cl : List vw_C} {ws : va_W} {H1 : Heap} (h : va_P D cl ws H1) {k : Nat} {q : Nat × va_E} (hk : ws[k]? = some q) : q.1 < H1.size := (h k q hk).lt
end VXS
/-! ===== END ===== -/
theorem vx_ofWH {l : Launch} {y : MethodName} {ws ws' : List Cond} {rm : Room} {Pc : Array Value → State → Prop} {Qc : Array Value → State → Outcome → State → Prop} {XC : String → State → State → Prop} {mc ms : Nat} {free : Addr → Prop} {cc : ByteArray} {maxL : Nat} {ret : Option FieldType} {hh : List (Nat × Nat × Nat × Nat)}
    (hy : plainName y.cls = true) (hw : ws = Cond.codeWith y cc maxL ret hh :: ws')
    (body : ∀ p e s m args below meth c s₁, BodyLoose p l y (headSpec ws rm) cc maxL ret e s m args below meth c s₁ → c.maxLocals = maxL → Pc args s →
      W p l e (headSpec ws rm).room s m args below meth c s.heap [] 0 0 (vx_MQ below Qc XC args s mc ms free) (entryFrame m args maxL)) : vx_Met l y ws rm Pc Qc XC mc ms free := by
  refine MetFree.of_bodyS (code := cc) (maxLocals := maxL) (ret := ret) hy ?_ ?_
  · intro args s m h hn
    obtain ⟨m9, meth, c, hn9, h1, h2, h3, h4, -, h5, h6, -⟩ := Cond.codeWith_spec (atoms_spec (ws := ws) h _ (by rw [hw]; exact List.mem_cons_self))
    cases hn.symm.trans hn9
    exact ⟨meth, c, h1, h2, h3, h4, h5, h6⟩
  · intro p e s m args below meth c s₁ B hml hP _
    have hh0 : s₁.heap = s.heap := by rw [B.state]; rfl
    obtain ⟨t, a1, o, b1, b2, b3⟩ := body p e s m args below meth c s₁ B hml hP s₁ hh0 (Stand.of_body B)
    exact ⟨t, o, a1, b1, b2, b3⟩
end
section
variable {sc : List Int32}
/-! THE ABSTRACT MACHINE. Its values are the machine's, but that '.ref k' is the k-th thing made since the law's entry, and '.retAddr i' the i-th thing that was there before (a String constant). A thing is a kind and its slots: kinds below 100 are places of vwCl (an object, its fields), from 100 on arrays; 199: a thing of which nothing is said. -/
abbrev am_O : Type := Nat × List Value
abbrev am_H : Type := List am_O
abbrev am_V : Type := List (Nat × Value)
def am_mv (b : Nat) (ad : Nat → Nat) : Value → Value
  | .ref k => .ref (b + k)
  | .retAddr i => .ref (ad i)
  | .int x => .int x
  | .long x => .long x
  | .float x => .float x
  | .double x => .double x
  | .null => .null
theorem am_mv_cat (b : Nat) (ad : Nat → Nat) (v : Value) : (am_mv b ad v).category = v.category := by cases v <;> rfl
def am_L (b : Nat) (ad : Nat → Nat) (l : am_V) : am_V := l.map (fun q => (q.1, am_mv b ad q.2))
def am_ld : am_V → Nat → Option Value
  | [], _ => none
  | q :: r, i => if q.1 = i then some q.2 else am_ld r i
theorem am_ld_mem {i : Nat} {v : Value} : ∀ {l : am_V}, am_ld l i = some v → (i, v) ∈ l
  | [], h => by simp [am_ld] at h
  | q :: r, h => by
    unfold am_ld at h
    by_cases hq : q.1 = i
    · rw [if_pos hq] at h
      cases h
      rw [← hq]
      exact List.mem_cons_self
    · rw [if_neg hq] at h
      exact List.mem_cons_of_mem _ (am_ld_mem h)
theorem am_ld_has {b : Nat} {ad : Nat → Nat} {ls : Array Slot} {nL i : Nat} {l : am_V} {v : Value} (h : lv_has ls nL (am_L b ad l)) (e : am_ld l i = some v) : ls[i]? = some (.val (am_mv b ad v)) :=
  h.2.2 (i, am_mv b ad v) (List.mem_map.mpr ⟨(i, v), am_ld_mem e, rfl⟩)
theorem am_ld_at {b : Nat} {ad : Nat → Nat} {i : Nat} {l : am_V} {v : Value} (e : am_ld l i = some v) : ∃ k : Nat, (am_L b ad l)[k]? = some (i, am_mv b ad v) :=
  List.getElem?_of_mem (List.mem_map.mpr ⟨(i, v), am_ld_mem e, rfl⟩)
def am_s1 (l : am_V) (i : Nat) (v : Value) : am_V := (i, v) :: l.filter (fun q => !(q.1 == i) && !(q.1 + 1 == i && q.2.category == 2))
def am_s2 (l : am_V) (i : Nat) (v : Value) : am_V := (i, v) :: l.filter (fun q => !(q.1 == i) && (!(q.1 == i + 1) && !(q.1 + 1 == i && q.2.category == 2)))
theorem am_L_s1 (b : Nat) (ad : Nat → Nat) (l : am_V) (i : Nat) (v : Value) : (i, am_mv b ad v) :: (am_L b ad l).filter (fun q => !(q.1 == i) && !(q.1 + 1 == i && q.2.category == 2)) = am_L b ad (am_s1 l i v) := by
  simp [am_L, am_s1, List.filter_map, Function.comp_def, am_mv_cat]
theorem am_L_s2 (b : Nat) (ad : Nat → Nat) (l : am_V) (i : Nat) (v : Value) : (i, am_mv b ad v) :: (am_L b ad l).filter (fun q => !(q.1 == i) && (!(q.1 == i + 1) && !(q.1 + 1 == i && q.2.category == 2))) = am_L b ad (am_s2 l i v) := by
  simp [am_L, am_s2, List.filter_map, Function.comp_def, am_mv_cat]
def am_sz (h : am_H) : Nat := (h.map (fun o => o.2.length)).sum
theorem am_sz_push (h : am_H) (o : am_O) : am_sz (h ++ [o]) = am_sz h + o.2.length := by simp [am_sz]
theorem am_sz_set {o o' : am_O} (hl : o'.2.length = o.2.length) : ∀ {h : am_H} {k : Nat}, h[k]? = some o → am_sz (h.set k o') = am_sz h
  | [], k, e => by simp at e
  | x :: r, 0, e => by
    simp at e
    subst e
    simp [am_sz, hl]
  | x :: r, k + 1, e => by
    have e2 : r[k]? = some o := by simpa using e
    have ih := am_sz_set hl e2
    simp only [am_sz, List.set_cons_succ, List.map_cons, List.sum_cons] at ih ⊢
    rw [ih]
/-- what the tables say of an array's class: its component's -/
def am_RA (U : State) (cA : ClassId) (ty : FieldType) : Prop := match ty with
  | .array t => ∃ (kA : Class) (comp : ClassId), U.vm.classes[cA]? = some kA ∧ kA.kind = .array comp (.array t) ∧ U.vm.findClass (FieldType.array t).toString = some comp
  | t => va_RA U cA t
theorem am_RA.moved {u U : State} (hvm : u.vm.Alike U.vm) {cA : ClassId} {ty : FieldType} (h : am_RA u cA ty) : am_RA U cA ty := by
  cases ty with
  | array t =>
    obtain ⟨kA, comp, h1, h2, h3⟩ := h
    obtain ⟨k', hk', he⟩ := hvm.2.2 _ _ h1
    exact ⟨k', comp, hk', by rw [he]; exact h2, by rw [hvm.findClass]; exact h3⟩
  | object C => exact va_RA.moved hvm (ty := .object C) h
  | byte => exact va_RA.moved hvm (ty := .byte) h
  | char => exact va_RA.moved hvm (ty := .char) h
  | double => exact va_RA.moved hvm (ty := .double) h
  | float => exact va_RA.moved hvm (ty := .float) h
  | int => exact va_RA.moved hvm (ty := .int) h
  | long => exact va_RA.moved hvm (ty := .long) h
  | short => exact va_RA.moved hvm (ty := .short) h
  | boolean => exact va_RA.moved hvm (ty := .boolean) h
def am_at (U : State) (D : va_G) (b : Nat) (ad : Nat → Nat) (o : am_O) (a : Nat) (H : Heap) : Prop :=
  (o.1 < 100 ∧ va_at D vwCl (a, .inr (o.1, o.2.map (am_mv b ad))) H) ∨
  (100 ≤ o.1 ∧ o.1 ≠ 199 ∧ ∃ cA : ClassId, ArrOfT U cA (am_kty o.1) ∧ am_RA U cA (am_kty o.1) ∧ H[a]? = some (arrV cA o.2.length (fun j => am_mv b ad (o.2.getD j .null)))) ∨ o.1 = 199
theorem am_at.kept {U : State} {D : va_G} {b : Nat} {ad : Nat → Nat} {o : am_O} {a : Nat} {H H1 : Heap} (h : am_at U D b ad o a H) (e : H1[a]? = H[a]?) : am_at U D b ad o a H1 := by
  rcases h with ⟨h1, h2⟩ | ⟨h1, h2, cA, h3, h4, h5⟩ | h
  · exact Or.inl ⟨h1, h2.kept e⟩
  · exact Or.inr (Or.inl ⟨h1, h2, cA, h3, h4, e.trans h5⟩)
  · exact Or.inr (Or.inr h)
theorem am_at.moved {u U : State} {D : va_G} {b : Nat} {ad : Nat → Nat} {o : am_O} {a : Nat} {H : Heap} (hvm : u.vm.Alike U.vm) (h : am_at u D b ad o a H) : am_at U D b ad o a H := by
  rcases h with h | ⟨h1, h2, cA, h3, h4, h5⟩ | h
  · exact Or.inl h
  · exact Or.inr (Or.inl ⟨h1, h2, cA, arrOfT_moved hvm h3, h4.moved hvm, h5⟩)
  · exact Or.inr (Or.inr h)
/-- the texts of the String constants -/
def am_txt : List (List Nat) := [[71, 69, 84], [72, 69, 65, 68], [80, 85, 84], [80, 79, 83, 84], [68, 69, 76, 69, 84, 69], [79, 80, 84, 73, 79, 78, 83], [72, 84, 84, 80, 47, 49, 46, 48], [72, 84, 84, 80, 47, 49, 46, 49], [104, 111, 115, 116], [99, 111, 110, 116, 101, 110, 116, 45, 108, 101, 110, 103, 116, 104], [116, 114, 97, 110, 115, 102, 101, 114, 45, 101, 110, 99, 111, 100, 105, 110, 103], [99, 104, 117, 110, 107, 101, 100], [99, 111, 110, 110, 101, 99, 116, 105, 111, 110], [99, 108, 111, 115, 101], [107, 101, 101, 112, 45, 97, 108, 105, 118, 101], [105, 102, 45, 109, 97, 116, 99, 104], [105, 102, 45, 110, 111, 110, 101, 45, 109, 97, 116, 99, 104], [114, 97, 110, 103, 101], [34, 118], [98, 121, 116, 101, 115, 61], [79, 75], [67, 114, 101, 97, 116, 101, 100], [78, 111, 32, 67, 111, 110, 116, 101, 110, 116], [80, 97, 114, 116, 105, 97, 108, 32, 67, 111, 110, 116, 101, 110, 116], [78, 111, 116, 32, 77, 111, 100, 105, 102, 105, 101, 100], [66, 97, 100, 32, 82, 101, 113, 117, 101, 115, 116], [78, 111, 116, 32, 70, 111, 117, 110, 100], [77, 101, 116, 104, 111, 100, 32, 78, 111, 116, 32, 65, 108, 108, 111, 119, 101, 100], [76, 101, 110, 103, 116, 104, 32, 82, 101, 113, 117, 105, 114, 101, 100], [80, 114, 101, 99, 111, 110, 100, 105, 116, 105, 111, 110, 32, 70, 97, 105, 108, 101, 100], [67, 111, 110, 116, 101, 110, 116, 32, 84, 111, 111, 32, 76, 97, 114, 103, 101], [85, 82, 73, 32, 84, 111, 111, 32, 76, 111, 110, 103], [82, 97, 110, 103, 101, 32, 78, 111, 116, 32, 83, 97, 116, 105, 115, 102, 105, 97, 98, 108, 101], [82, 101, 113, 117, 101, 115, 116, 32, 72, 101, 97, 100, 101, 114, 32, 70, 105, 101, 108, 100, 115, 32, 84, 111, 111, 32, 76, 97, 114, 103, 101], [78, 111, 116, 32, 73, 109, 112, 108, 101, 109, 101, 110, 116, 101, 100], [72, 84, 84, 80, 32, 86, 101, 114, 115, 105, 111, 110, 32, 78, 111, 116, 32, 83, 117, 112, 112, 111, 114, 116, 101, 100], [73, 110, 115, 117, 102, 102, 105, 99, 105, 101, 110, 116, 32, 83, 116, 111, 114, 97, 103, 101], [72, 84, 84, 80, 47, 49, 46, 49, 32], [67, 111, 110, 116, 101, 110, 116, 45, 76, 101, 110, 103, 116, 104, 58, 32], [69, 84, 97, 103, 58, 32, 34, 118], [34, 13, 10], [67, 111, 110, 116, 101, 110, 116, 45, 82, 97, 110, 103, 101, 58, 32, 98, 121, 116, 101, 115, 32], [67, 111, 110, 116, 101, 110, 116, 45, 82, 97, 110, 103, 101, 58, 32, 98, 121, 116, 101, 115, 32, 42], [65, 108, 108, 111, 119, 58, 32, 71, 69, 84, 44, 32, 72, 69, 65, 68, 44, 32, 79, 80, 84, 73, 79, 78, 83, 13, 10], [65, 108, 108, 111, 119, 58, 32, 71, 69, 84, 44, 32, 72, 69, 65, 68, 44, 32, 80, 85, 84, 44, 32, 80, 79, 83, 84, 44, 32, 68, 69, 76, 69, 84, 69, 44, 32, 79, 80, 84, 73, 79, 78, 83, 13, 10], [67, 111, 110, 110, 101, 99, 116, 105, 111, 110, 58, 32, 99, 108, 111, 115, 101, 13, 10], [116, 104, 101, 32, 116, 97, 112, 101, 32, 104, 97, 115, 32, 97, 116, 32, 109, 111, 115, 116, 32, 52, 48, 48, 32, 98, 121, 116, 101, 115], [97, 32, 98, 121, 116, 101, 32, 105, 115, 32, 48, 32, 116, 111, 32, 50, 53, 53, 44, 32, 109, 97, 110, 121, 32, 49, 32, 116, 111, 32, 51, 48, 48], [97, 32, 112, 105, 101, 99, 101, 32, 105, 115, 32, 48, 32, 116, 111, 32, 53], [71, 69, 84, 32, 47, 97, 32, 72, 84, 84, 80, 47, 49, 46, 49, 13, 10, 72, 111, 115, 116, 58, 32, 104, 13, 10, 13, 10], [80, 85, 84, 32, 47, 97, 32, 72, 84, 84, 80, 47, 49, 46, 49, 13, 10, 72, 111, 115, 116, 58, 32, 104, 13, 10, 67, 111, 110, 116, 101, 110, 116, 45, 76, 101, 110, 103, 116, 104, 58, 32, 53, 13, 10, 13, 10, 104, 101, 108, 108, 111], [71, 69, 84, 32, 47, 32, 72, 84, 84, 80, 47, 49, 46, 48, 13, 10, 13, 10], [80, 79, 83, 84, 32, 47, 97, 32, 72, 84, 84, 80, 47, 49, 46, 49, 13, 10, 72, 111, 115, 116, 58, 32, 104, 13, 10, 84, 114, 97, 110, 115, 102, 101, 114, 45, 69, 110, 99, 111, 100, 105, 110, 103, 58, 32, 99, 104, 117, 110, 107, 101, 100, 13, 10, 13, 10, 51, 13, 10, 97, 98, 99, 13, 10, 48, 13, 10, 13, 10], [68, 69, 76, 69, 84, 69, 32, 47, 97, 32, 72, 84, 84, 80, 47, 49, 46, 49, 13, 10, 72, 111, 115, 116, 58, 32, 104, 13, 10, 67, 111, 110, 110, 101, 99, 116, 105, 111, 110, 58, 32, 99, 108, 111, 115, 101, 13, 10, 13, 10], [71, 69, 84, 32, 47, 97, 32, 72, 84, 84, 80, 47, 49, 46, 49, 13, 10, 72, 111, 115, 116, 58, 32, 104, 13, 10, 82, 97, 110, 103, 101, 58, 32, 98, 121, 116, 101, 115, 61, 49, 45, 51, 13, 10, 73, 102, 45, 78, 111, 110, 101, 45, 77, 97, 116, 99, 104, 58, 32, 34, 118, 50, 34, 13, 10, 13, 10], [110, 111, 32, 115, 117, 99, 104, 32, 112, 97, 114, 116, 32, 111, 102, 32, 116, 104, 101, 32, 116, 97, 112, 101], [97, 110, 32, 77, 84, 85, 32, 105, 115, 32, 49, 48, 48, 32, 116, 111, 32, 54, 48, 48, 44, 32, 97, 110, 32, 77, 83, 83, 32, 52, 48, 32, 116, 111, 32, 53, 48, 48], [116, 104, 101, 114, 101, 32, 97, 114, 101, 32, 53, 32, 104, 111, 115, 116, 115], [110, 111, 32, 115, 117, 99, 104, 32, 104, 111, 115, 116], [97, 110, 32, 77, 84, 85, 32, 105, 115, 32, 49, 48, 48, 32, 116, 111, 32, 54, 48, 48], [119, 104, 97, 116, 32, 105, 115, 32, 48, 32, 116, 111, 32, 53], [97, 32, 99, 104, 111, 105, 99, 101, 32, 105, 115, 32, 48, 32, 116, 111, 32, 49, 48, 48, 48], [102, 114, 111, 109, 73, 110, 100, 101, 120, 40], [41, 32, 62, 32, 116, 111, 73, 110, 100, 101, 120, 40], [41], [32, 62, 32], [65, 114, 114, 97, 121, 32, 105, 110, 100, 101, 120, 32, 111, 117, 116, 32, 111, 102, 32, 114, 97, 110, 103, 101, 58, 32], [99, 104, 111, 105, 99, 101, 32, 97, 110, 100, 32, 97, 116, 32, 97, 114, 101, 32, 48, 32, 116, 111, 32, 49, 48, 48, 48, 44, 32, 98, 121, 32, 105, 115, 32, 49, 32, 116, 111, 32, 50, 53, 53], [110, 111, 32, 115, 117, 99, 104, 32, 102, 114, 97, 109, 101], [119, 104, 97, 116, 32, 105, 115, 32, 48, 32, 116, 111, 32, 51], [110, 111, 32, 115, 117, 99, 104, 32, 98, 121, 116, 101], [116, 105, 99, 107, 115, 32, 105, 115, 32, 49, 32, 116, 111, 32, 49, 48, 48], [116, 104, 101, 32, 116, 105, 109, 101, 32, 105, 115, 32, 97, 116, 32, 109, 111, 115, 116, 32, 50, 48, 48, 48, 48], [116, 105, 99, 107, 115, 32, 105, 115, 32, 49, 32, 116, 111, 32, 54, 48], [109, 97, 110, 121, 32, 105, 115, 32, 49, 32, 116, 111, 32, 50, 48, 48], [97, 110, 111, 116, 104, 101, 114, 32, 104, 111, 115, 116, 44, 32, 97, 110, 100, 32, 48, 32, 116, 111, 32, 57, 48, 48, 32, 98, 121, 116, 101, 115], [116, 104, 101, 114, 101, 32, 97, 114, 101, 32, 52, 48, 32, 101, 99, 104, 111, 101, 115], [110, 111, 32, 115, 117, 99, 104, 32, 101, 99, 104, 111], [116, 104, 101, 32, 116, 97, 112, 101, 32, 105, 115, 32, 110, 111, 32, 110, 97, 109, 101], [97, 110, 111, 116, 104, 101, 114, 32, 104, 111, 115, 116, 32, 104, 97, 115, 32, 116, 104, 101, 32, 110, 97, 109, 101], [116, 104, 101, 32, 115, 101, 114, 118, 101, 114, 32, 100, 111, 101, 115, 32, 110, 111, 116, 32, 97, 115, 107], [116, 104, 101, 114, 101, 32, 97, 114, 101, 32, 52, 48, 32, 108, 111, 111, 107, 117, 112, 115], [110, 111, 32, 115, 117, 99, 104, 32, 108, 111, 111, 107, 117, 112], [116, 104, 101, 32, 108, 111, 111, 107, 117, 112, 32, 104, 97, 115, 32, 97, 110, 32, 97, 110, 115, 119, 101, 114], [97, 32, 99, 108, 105, 101, 110, 116, 44, 32, 97, 110, 111, 116, 104, 101, 114, 32, 104, 111, 115, 116, 44, 32, 97, 110, 100, 32, 97, 32, 112, 111, 114, 116, 32, 49, 32, 116, 111, 32, 54, 53, 53, 51, 53], [116, 104, 101, 114, 101, 32, 97, 114, 101, 32, 54, 48, 32, 99, 111, 110, 110, 101, 99, 116, 105, 111, 110, 115], [110, 111, 32, 115, 117, 99, 104, 32, 99, 111, 110, 110, 101, 99, 116, 105, 111, 110], [110, 111, 116, 104, 105, 110, 103, 32, 99, 97, 110, 32, 98, 101, 32, 119, 114, 105, 116, 116, 101, 110, 32, 111, 110, 32, 105, 116], [109, 97, 110, 121, 32, 105, 115, 32, 49, 32, 116, 111, 32, 51, 48, 48], [105, 116, 32, 105, 115, 32, 116, 104, 101, 32, 115, 101, 114, 118, 101, 114, 39, 115], [105, 116, 32, 99, 97, 110, 110, 111, 116, 32, 98, 101, 32, 99, 108, 111, 115, 101, 100], [119, 104, 97, 116, 32, 105, 115, 32, 48, 32, 116, 111, 32, 49, 56], [110, 111, 32, 115, 117, 99, 104, 32, 102, 105, 108, 101], [119, 104, 97, 116, 32, 105, 115, 32, 48, 32, 116, 111, 32, 50], [110, 111, 32, 115, 117, 99, 104, 32, 114, 101, 113, 117, 101, 115, 116], [119, 104, 97, 116, 32, 105, 115, 32, 48, 32, 116, 111, 32, 54], [119, 104, 97, 116, 32, 105, 115, 32, 48, 32, 116, 111, 32, 49, 53], [71, 69, 84, 32, 47, 97, 32, 72, 84, 84, 80, 47, 49, 46, 49, 124, 72, 111, 115, 116, 58, 32, 104, 124, 124], [80, 85, 84, 32, 47, 97, 32, 72, 84, 84, 80, 47, 49, 46, 49, 124, 72, 111, 115, 116, 58, 32, 104, 124, 67, 111, 110, 116, 101, 110, 116, 45, 76, 101, 110, 103, 116, 104, 58, 32, 53, 124, 124, 104, 101, 108, 108, 111], [71, 69, 84, 32, 47, 32, 72, 84, 84, 80, 47, 49, 46, 48, 124, 124], [80, 79, 83, 84, 32, 47, 97, 32, 72, 84, 84, 80, 47, 49, 46, 49, 124, 72, 111, 115, 116, 58, 32, 104, 124, 84, 114, 97, 110, 115, 102, 101, 114, 45, 69, 110, 99, 111, 100, 105, 110, 103, 58, 32, 99, 104, 117, 110, 107, 101, 100, 124, 124, 51, 124, 97, 98, 99, 124, 48, 124, 124], [68, 69, 76, 69, 84, 69, 32, 47, 97, 32, 72, 84, 84, 80, 47, 49, 46, 49, 124, 72, 111, 115, 116, 58, 32, 104, 124, 67, 111, 110, 110, 101, 99, 116, 105, 111, 110, 58, 32, 99, 108, 111, 115, 101, 124, 124], [71, 69, 84, 32, 47, 97, 32, 72, 84, 84, 80, 47, 49, 46, 49, 124, 72, 111, 115, 116, 58, 32, 104, 124, 82, 97, 110, 103, 101, 58, 32, 98, 121, 116, 101, 115, 61, 49, 45, 51, 124, 73, 102, 45, 78, 111, 110, 101, 45, 77, 97, 116, 99, 104, 58, 32, 34, 118, 50, 34, 124, 124]]
/-- what lies below b and is never written: statics of the JDK's, the String constants' contents, ArrayList's empty row -/
def am_X (sc : List Int32) (b : Nat) (ad : Nat → Nat) (U : State) (H : Heap) : Prop :=
  vx_Zq Bundle.tN "UNASSIGNED_STACK" Bundle.steD (fun q => b ≤ q) U H ∧ vx_Zq Bundle.tN "SUPPRESSED_SENTINEL" Bundle.listD (fun q => b ≤ q) U H ∧
  va_Z "java/lang/String" "COMPACT_STRINGS" "Z" (.int 1) (fun q => b ≤ q) U H ∧
  va_Z "java/util/ArrayList" "DEFAULTCAPACITY_EMPTY_ELEMENTDATA" "[Ljava/lang/Object;" (.ref (ad 1000)) (fun q => b ≤ q) U H ∧ va_T (.object "java/lang/Object") (ad 1000) 0 (fun _ => .null) (fun q => b ≤ q) U H ∧
  va_T .int (ad 2000) sc.length (fun j => .int (sc.getD j 0)) (fun q => b ≤ q) U H ∧
  (va_Z "jdk/internal/util/Preconditions" "SIOOBE_FORMATTER" "Ljava/util/function/BiFunction;" .null (fun q => b ≤ q) U H ∨ va_Z "jdk/internal/util/Preconditions" "SIOOBE_FORMATTER" "Ljava/util/function/BiFunction;" (.ref (ad 4000)) (fun q => b ≤ q) U H) ∧
  ∀ i : Nat, i < am_txt.length → va_O "java/lang/String" (ad i) (fun q => b ≤ q) U H ∧ va_OF "java/lang/String" "coder" "B" (.int 0) (ad i) (fun q => b ≤ q) U H ∧ va_OF "java/lang/String" "value" "[B" (.ref (ad (3000 + i))) (ad i) (fun q => b ≤ q) U H ∧
    va_T .byte (ad (3000 + i)) (am_txt.getD i []).length (fun j => .int (nI ((am_txt.getD i []).getD j 0))) (fun q => b ≤ q) U H
theorem am_X.moved {b : Nat} {ad : Nat → Nat} {u U : State} {H : Heap} (hvm : u.vm.Alike U.vm) (h : am_X sc b ad u H) : am_X sc b ad U H := by
  obtain ⟨h1, h2, h3, h4, h5, h7, h8, h6⟩ := h
  exact ⟨vx_Zq.moved hvm h1, vx_Zq.moved hvm h2, va_Z.moved hvm h3, va_Z.moved hvm h4, va_T.moved hvm h5, va_T.moved hvm h7, h8.imp (va_Z.moved hvm) (va_Z.moved hvm), fun i hi => ⟨va_O.moved hvm (h6 i hi).1, va_OF.moved hvm (h6 i hi).2.1, va_OF.moved hvm (h6 i hi).2.2.1, va_T.moved hvm (h6 i hi).2.2.2⟩⟩
theorem am_X.kept {b : Nat} {ad : Nat → Nat} {U : State} {H H1 : Heap} (h : am_X sc b ad U H) (hq : ∀ a : Nat, a < H.size → ¬ b ≤ a → H1[a]? = H[a]?) : am_X sc b ad U H1 := by
  obtain ⟨h1, h2, h3, h4, h5, h7, h8, h6⟩ := h
  exact ⟨h1.kept hq, h2.kept hq, h3.kept hq, h4.kept hq, h5.kept hq, h7.kept hq, h8.imp (fun z => z.kept hq) (fun z => z.kept hq), fun i hi => ⟨(h6 i hi).1.kept hq, (h6 i hi).2.1.kept hq, (h6 i hi).2.2.1.kept hq, (h6 i hi).2.2.2.kept hq⟩⟩
/-- the things of the heap: the k-th lies at b + k, nothing lies behind them -/
def am_R (sc : List Int32) (U : State) (D : va_G) (b : Nat) (ad : Nat → Nat) (h : am_H) (H : Heap) : Prop := H.size = b + h.length ∧ (∀ (k : Nat) (o : am_O), h[k]? = some o → am_at U D b ad o (b + k) H) ∧ am_X sc b ad U H
theorem am_R.moved {u U : State} {D : va_G} {b : Nat} {ad : Nat → Nat} {h : am_H} {H : Heap} (hvm : u.vm.Alike U.vm) (r : am_R sc u D b ad h H) : am_R sc U D b ad h H := ⟨r.1, fun k o e => (r.2.1 k o e).moved hvm, r.2.2.moved hvm⟩
theorem am_R.set {U : State} {D : va_G} {b : Nat} {ad : Nat → Nat} {h : am_H} {H H1 : Heap} {k : Nat} {o o' : am_O} (r : am_R sc U D b ad h H) (e : h[k]? = some o) (z : H1.size = H.size) (oq : ∀ q : Nat, q ≠ b + k → H1[q]? = H[q]?) (w : am_at U D b ad o' (b + k) H1) : am_R sc U D b ad (h.set k o') H1 := by
  have hl := (List.getElem?_eq_some_iff.mp e).1
  refine ⟨by rw [z, r.1, List.length_set], fun j o2 hj => ?_, r.2.2.kept fun a ha hb => oq a (by omega)⟩
  by_cases hjk : j = k
  · subst hjk
    rw [List.getElem?_set_self hl] at hj
    cases hj
    exact w
  · rw [List.getElem?_set_ne (Ne.symm hjk)] at hj
    exact (r.2.1 j o2 hj).kept (oq (b + j) (by omega))
theorem am_R.push {U : State} {D : va_G} {b : Nat} {ad : Nat → Nat} {h : am_H} {H H1 : Heap} {o : am_O} (r : am_R sc U D b ad h H) (z : H1.size = H.size + 1) (oq : ∀ q : Nat, q < H.size → H1[q]? = H[q]?) (w : am_at U D b ad o H.size H1) : am_R sc U D b ad (h ++ [o]) H1 := by
  refine ⟨by rw [z, r.1, List.length_append]; rfl, fun j o2 hj => ?_, r.2.2.kept fun a ha hb => oq a ha⟩
  by_cases hl : j < h.length
  · rw [List.getElem?_append_left hl] at hj
    exact (r.2.1 j o2 hj).kept (oq (b + j) (by rw [r.1]; omega))
  · rw [List.getElem?_append_right (by omega)] at hj
    have hz : j - h.length < 1 := (List.getElem?_eq_some_iff.mp hj).1
    rw [show j - h.length = 0 by omega] at hj
    cases hj
    rw [show b + j = H.size by rw [r.1]; omega]
    exact w
/-- which classes may stand for which, and which may not -/
def am_cst : List (String × String) := [("java/lang/IllegalStateException", "java/lang/IllegalStateException"), ("java/lang/IllegalArgumentException", "java/lang/IllegalArgumentException"), ("java/lang/IndexOutOfBoundsException", "java/lang/IndexOutOfBoundsException"), (RX3, "java/lang/Object"), (RX0, "java/lang/Object"), (RX1, "java/lang/Object")]
def am_nct : List (String × String) := [("java/lang/IllegalStateException", "java/lang/IllegalArgumentException"), ("java/lang/IllegalStateException", "java/lang/IndexOutOfBoundsException"), ("java/lang/IllegalArgumentException", "java/lang/IllegalStateException"), ("java/lang/IllegalArgumentException", "java/lang/IndexOutOfBoundsException"), ("java/lang/IndexOutOfBoundsException", "java/lang/IllegalStateException"), ("java/lang/IndexOutOfBoundsException", "java/lang/IllegalArgumentException")]
def am_dcl : List MethodName := [⟨"java/lang/RuntimeException", "<init>", "(Ljava/lang/String;)V"⟩, ⟨"java/lang/Exception", "<init>", "(Ljava/lang/String;)V"⟩, ⟨"java/lang/Throwable", "<init>", "(Ljava/lang/String;)V"⟩]
/-- what is there before the law's entry and stays: the String constants; the arrays' classes -/
def am_E (ad : Nat → Nat) (U : State) : Prop := (∀ q : String × Nat × String × Nat, q ∈ am_strs → vk_R q.1 q.2.1 q.2.2.1 (ad q.2.2.2) U) ∧ (∀ t ∈ am_aot, (Jvm.Cond.arrayOver t).before #[] U = true) ∧ (∀ q ∈ am_nf, va_Nw (.fieldLinkNest q.1 q.2.1 q.2.2.1 q.2.2.2.1 q.2.2.2.2.1 q.2.2.2.2.2) U) ∧ (∀ q ∈ am_nm, va_Nw (.methodLinkNest q.1 q.2.1 q.2.2.1 q.2.2.2) U) ∧ (∀ q ∈ am_cst, va_Nw (.castable q.1 q.2) U) ∧ (∀ q ∈ am_nct, va_Nc q.1 q.2 U) ∧ ∀ y ∈ am_dcl, va_Nw (.declares y) U
theorem am_E_str {ad : Nat → Nat} {U : State} (h : am_E ad U) {own tx : String} {i k : Nat} (hw : (own, i, tx, k) ∈ am_strs) : vk_R own i tx (ad k) U := h.1 _ hw
theorem am_AAmoved {u U : State} (hvm : u.vm.Alike U.vm) (h : (Jvm.Cond.arrayOver (.array .int)).before #[] u = true) : (Jvm.Cond.arrayOver (.array .int)).before #[] U = true := by
  obtain ⟨comp, c, k, h1, h2, h3, h4, h5⟩ := arrayOverA_spec h
  obtain ⟨k', hk', he⟩ := hvm.2.2 _ _ h3
  have hi : (U.vm.classes.findIdx? fun (x : Class) => match x.kind with | .array component _ => component == comp | _ => false) = some c := by
    rw [hvm.findIdx?_eq _ (fun _ => rfl)]
    exact h2
  have hkind : k'.kind = .array comp (.array .int) := by rw [he]; exact h4
  have f1 : U.vm.findClass (FieldType.array .int).toString = some comp := by rw [hvm.findClass]; exact h1
  have f2 : U.vm.findClass ("[" ++ (FieldType.array .int).toString) = some c := by rw [hvm.findClass]; exact h5
  unfold Cond.before Cond.holds
  simp only [Cond.value]
  rw [f1, Option.bind_some]
  refine (congrArg (fun o : Option Nat => (o.bind (fun c => (U.vm.classes[c]?).map fun (k : Class) => match k.kind with | .array _ ty => decide (ty = FieldType.array .int) && decide (U.vm.findClass ("[" ++ (FieldType.array .int).toString) = some c) | _ => false) == some true)) hi).trans ?_
  simp [hk', hkind, f2]
theorem am_aot_moved {u U : State} (hvm : u.vm.Alike U.vm) {t : FieldType} (ht : t ∈ am_aot) (h : (Jvm.Cond.arrayOver t).before #[] u = true) : (Jvm.Cond.arrayOver t).before #[] U = true := by
  have hs : t = .array .int ∨ ∃ C, t = .object C := by
    simp only [am_aot, List.mem_cons, List.not_mem_nil, or_false] at ht
    rcases ht with rfl | rfl | rfl | rfl | rfl | rfl | rfl | rfl | rfl | rfl | rfl | rfl
    · exact Or.inl rfl
    all_goals exact Or.inr ⟨_, rfl⟩
  rcases hs with rfl | ⟨C, rfl⟩
  · exact am_AAmoved hvm h
  · exact va_AO.moved (C := C) hvm h
theorem am_E.warm {ad : Nat → Nat} {s U : State} (hW : s.WarmedH U.vm) (h : am_E ad s) : am_E ad U := ⟨fun q hq => (h.1 q hq).warm hW, fun t ht => am_aot_moved hW.alike ht (h.2.1 t ht), fun q hq => va_Nw.warmF hW (h.2.2.1 q hq), fun q hq => va_Nw.warmM hW (h.2.2.2.1 q hq), fun q hq => va_Nw.warmC hW (h.2.2.2.2.1 q hq), fun q hq => va_Nc.moved hW.alike (h.2.2.2.2.2.1 q hq), fun y hy => va_Nw.warmD hW (h.2.2.2.2.2.2 y hy)⟩
theorem am_E_ao {ad : Nat → Nat} {U : State} (h : am_E ad U) {args : Array Value} {t : FieldType} (ht : t ∈ am_aot) : (Jvm.Cond.arrayOver t).before args U = true := h.2.1 t ht
theorem am_E_nf {ad : Nat → Nat} {U : State} (h : am_E ad U) {args : Array Value} {own C n d host : String} {i : Nat} (hw : (own, i, C, n, d, host) ∈ am_nf) : (Jvm.Cond.fieldLinkNest own i C n d host).before args U = true := va_Nw.use rfl (h.2.2.1 _ hw)
theorem am_E_nm {ad : Nat → Nat} {U : State} (h : am_E ad U) {own host : String} {i : Nat} {y : MethodName} (hw : (own, i, y, host) ∈ am_nm) : va_Nw (.methodLinkNest own i y host) U := h.2.2.2.1 _ hw
end
section
variable {sc : List Int32}
/-! THE STEPS: what one instruction does, in the abstract, and that the machine does it -/
def am_ok (ty : FieldType) (v : Value) : Bool := match ty, v with
  | .object _, .ref _ => true
  | .object _, .retAddr _ => true
  | .object _, .null => true
  | .array _, .ref _ => true
  | .array _, .retAddr _ => true
  | .array _, .null => true
  | .int, .int _ => true
  | .long, .long _ => true
  | .boolean, .int x => x == 0 || x == 1
  | _, _ => false
theorem am_ok_spec {ty : FieldType} {v : Value} (b : Nat) (ad : Nat → Nat) (h : am_ok ty v = true) : narrow ty (am_mv b ad v) = am_mv b ad v ∧ fits ty (am_mv b ad v) = true := by
  cases ty <;> cases v <;> first
    | (simp [am_ok] at h; done)
    | exact ⟨rfl, rfl⟩
    | (rename_i x
       simp only [am_ok, Bool.or_eq_true, beq_iff_eq] at h
       rcases h with h | h <;> subst h <;> exact ⟨rfl, rfl⟩)
section AMR
variable {p : Program} {l : Launch} {e : Env} {R : Room} {s : State} {m : MethodId} {args : Array Value} {below : List Frame} {meth : Method} {c : Code} {Q : State → Prop}
variable {cc : ByteArray} {nL n0 z0 pc b : Nat} {own yn : String} {ad : Nat → Nat} {D : va_G} {lv : am_V} {st : List Value} {h : am_H}
def am_W (sc : List Int32) (p : Program) (l : Launch) (e : Env) (R : Room) (s : State) (m : MethodId) (args : Array Value) (below : List Frame) (meth : Method) (c : Code) (D : va_G) (b : Nat) (ad : Nat → Nat) (nL n0 z0 : Nat) (Q : State → Prop) (pc : Nat) (lv : am_V) (st : List Value) (h : am_H) : Prop :=
  ∀ (ls : Array Slot) (H : Heap) (locs : List Loc) (cells slots : Nat), lv_has ls nL (am_L b ad lv) → am_R sc s D b ad h H → va_S (fun q => b ≤ q) s.heap H locs → cells + n0 = h.length → slots + z0 = am_sz h →
    W p l e R s m args below meth c H locs cells slots Q (F0 m pc ls (st.map (am_mv b ad)))
/-- what holds all along a method: the machine, its code, its class, the words, the classes of the objects, the constants -/
def am_C (p : Program) (R : Room) (m : MethodId) (c : Code) (cc : ByteArray) (nL : Nat) (own : String) (s : State) (args : Array Value) (D : va_G) (meth : Method) (yn : String) (ad : Nat → Nat) : Prop :=
  p.tables.exec = Jvm.exec ∧ c.code = cc ∧ c.maxLocals = nL ∧ s.vm.findClass own = some m.cls ∧ (∀ w ∈ am_T, w.before args s = true) ∧ va_K D vwCl [] s ∧ meth.name = yn ∧ 1 ≤ R.frames ∧ 60 ≤ R.locals ∧ am_E ad s
theorem am_r_iconst (C : am_C p R m c cc nL own s args D meth yn ad) {n : Int} (hd : decode cc pc = .ok (.iconst n, 1)) (k : am_W sc p l e R s m args below meth c D b ad nL n0 z0 Q (pc + 1) lv (.int (Int32.ofInt n) :: st) h) : am_W sc p l e R s m args below meth c D b ad nL n0 z0 Q pc lv st h :=
  fun ls H locs cl sl h1 h2 h3 h4 h5 => lv_iconst C.1 C.2.1 hd rfl (k ls H locs cl sl h1 h2 h3 h4 h5)
theorem am_r_bipush (C : am_C p R m c cc nL own s args D meth yn ad) {n : Int} (hd : decode cc pc = .ok (.bipush n, 2)) (hv : (Int8.ofInt n).toInt32 = Int32.ofInt n) (k : am_W sc p l e R s m args below meth c D b ad nL n0 z0 Q (pc + 2) lv (.int (Int32.ofInt n) :: st) h) : am_W sc p l e R s m args below meth c D b ad nL n0 z0 Q pc lv st h :=
  fun ls H locs cl sl h1 h2 h3 h4 h5 => lv_bipush C.1 C.2.1 hd hv (k ls H locs cl sl h1 h2 h3 h4 h5)
theorem am_r_sipush (C : am_C p R m c cc nL own s args D meth yn ad) {n : Int} (hd : decode cc pc = .ok (.sipush n, 3)) (hv : (Int16.ofInt n).toInt32 = Int32.ofInt n) (k : am_W sc p l e R s m args below meth c D b ad nL n0 z0 Q (pc + 3) lv (.int (Int32.ofInt n) :: st) h) : am_W sc p l e R s m args below meth c D b ad nL n0 z0 Q pc lv st h :=
  fun ls H locs cl sl h1 h2 h3 h4 h5 => lv_sipush C.1 C.2.1 hd hv (k ls H locs cl sl h1 h2 h3 h4 h5)
theorem am_r_lconst (C : am_C p R m c cc nL own s args D meth yn ad) {n : Fin 2} (hd : decode cc pc = .ok (.lconst n, 1)) {v : Int64} (hv : Int64.ofNat (n : Nat) = v) (k : am_W sc p l e R s m args below meth c D b ad nL n0 z0 Q (pc + 1) lv (.long v :: st) h) : am_W sc p l e R s m args below meth c D b ad nL n0 z0 Q pc lv st h :=
  fun ls H locs cl sl h1 h2 h3 h4 h5 => lv_lconst C.1 C.2.1 hd hv (k ls H locs cl sl h1 h2 h3 h4 h5)
theorem am_r_null (C : am_C p R m c cc nL own s args D meth yn ad) (hd : decode cc pc = .ok (.aconst_null, 1)) (k : am_W sc p l e R s m args below meth c D b ad nL n0 z0 Q (pc + 1) lv (.null :: st) h) : am_W sc p l e R s m args below meth c D b ad nL n0 z0 Q pc lv st h :=
  fun ls H locs cl sl h1 h2 h3 h4 h5 => lv_null C.1 C.2.1 hd (k ls H locs cl sl h1 h2 h3 h4 h5)
theorem am_r_ldc (C : am_C p R m c cc nL own s args D meth yn ad) {i : Nat} {v : Int32} (hw : Jvm.Cond.constant own i v ∈ am_T) (hd : decode cc pc = .ok (.ldc i, 2)) (k : am_W sc p l e R s m args below meth c D b ad nL n0 z0 Q (pc + 2) lv (.int v :: st) h) : am_W sc p l e R s m args below meth c D b ad nL n0 z0 Q pc lv st h :=
  fun ls H locs cl sl h1 h2 h3 h4 h5 => lv_ldc C.1 C.2.1 C.2.2.2.1 (C.2.2.2.2.1 _ hw) hd (k ls H locs cl sl h1 h2 h3 h4 h5)
theorem am_r_ldcw (C : am_C p R m c cc nL own s args D meth yn ad) {i : Nat} {v : Int32} (hw : Jvm.Cond.constant own i v ∈ am_T) (hd : decode cc pc = .ok (.ldc_w i, 3)) (k : am_W sc p l e R s m args below meth c D b ad nL n0 z0 Q (pc + 3) lv (.int v :: st) h) : am_W sc p l e R s m args below meth c D b ad nL n0 z0 Q pc lv st h :=
  fun ls H locs cl sl h1 h2 h3 h4 h5 => lv_ldcw C.1 C.2.1 C.2.2.2.1 (C.2.2.2.2.1 _ hw) hd (k ls H locs cl sl h1 h2 h3 h4 h5)
theorem am_r_ldc2 (C : am_C p R m c cc nL own s args D meth yn ad) {i : Nat} {v : Int64} (hw : Jvm.Cond.constantLong own i v ∈ am_T) (hd : decode cc pc = .ok (.ldc2_w i, 3)) (k : am_W sc p l e R s m args below meth c D b ad nL n0 z0 Q (pc + 3) lv (.long v :: st) h) : am_W sc p l e R s m args below meth c D b ad nL n0 z0 Q pc lv st h :=
  fun ls H locs cl sl h1 h2 h3 h4 h5 => lv_ldc2 C.1 C.2.1 C.2.2.2.1 (C.2.2.2.2.1 _ hw) hd (k ls H locs cl sl h1 h2 h3 h4 h5)
theorem am_r_ldcS (C : am_C p R m c cc nL own s args D meth yn ad) {i k0 : Nat} {tx : String} (hw : (own, i, tx, k0) ∈ am_strs) (hd : decode cc pc = .ok (.ldc i, 2)) (k : am_W sc p l e R s m args below meth c D b ad nL n0 z0 Q (pc + 2) lv (.retAddr k0 :: st) h) : am_W sc p l e R s m args below meth c D b ad nL n0 z0 Q pc lv st h :=
  fun ls H locs cl sl h1 h2 h3 h4 h5 => va_ldcS C.1 C.2.1 C.2.2.2.1 (am_E_str C.2.2.2.2.2.2.2.2.2 hw) hd (k ls H locs cl sl h1 h2 h3 h4 h5)
theorem am_r_ldcWS (C : am_C p R m c cc nL own s args D meth yn ad) {i k0 : Nat} {tx : String} (hw : (own, i, tx, k0) ∈ am_strs) (hd : decode cc pc = .ok (.ldc_w i, 3)) (k : am_W sc p l e R s m args below meth c D b ad nL n0 z0 Q (pc + 3) lv (.retAddr k0 :: st) h) : am_W sc p l e R s m args below meth c D b ad nL n0 z0 Q pc lv st h := by
  intro ls H locs cl sl h1 h2 h3 h4 h5 T hT X
  have hZ := am_E_str C.2.2.2.2.2.2.2.2.2 hw
  obtain ⟨t, a1, b1⟩ := k ls H locs cl sl h1 h2 h3 h4 h5 T hT X
  exact ⟨t, X.ldcStringW C.1 C.2.2.2.1 (text := tx) (a := ad k0) hZ.1 hZ.2 (g := F0 m pc ls (st.map (am_mv b ad))) rfl (by rw [C.2.1]; exact hd) t a1, b1⟩
theorem am_r_iload (C : am_C p R m c cc nL own s args D meth yn ad) {i : Nat} {x : Int32} (hl : am_ld lv i = some (.int x)) (hd : decode cc pc = .ok (.iload i, 2)) (k : am_W sc p l e R s m args below meth c D b ad nL n0 z0 Q (pc + 2) lv (.int x :: st) h) : am_W sc p l e R s m args below meth c D b ad nL n0 z0 Q pc lv st h :=
  fun ls H locs cl sl h1 h2 h3 h4 h5 => lv_iload C.1 C.2.1 hd (am_ld_has h1 hl) (k ls H locs cl sl h1 h2 h3 h4 h5)
theorem am_r_iload_n (C : am_C p R m c cc nL own s args D meth yn ad) {i : Fin 4} {x : Int32} (hl : am_ld lv i = some (.int x)) (hd : decode cc pc = .ok (.iload_n i, 1)) (k : am_W sc p l e R s m args below meth c D b ad nL n0 z0 Q (pc + 1) lv (.int x :: st) h) : am_W sc p l e R s m args below meth c D b ad nL n0 z0 Q pc lv st h :=
  fun ls H locs cl sl h1 h2 h3 h4 h5 => lv_iload_n C.1 C.2.1 hd rfl (am_ld_has h1 hl) (k ls H locs cl sl h1 h2 h3 h4 h5)
theorem am_r_lload (C : am_C p R m c cc nL own s args D meth yn ad) {i : Nat} {x : Int64} (hl : am_ld lv i = some (.long x)) (hd : decode cc pc = .ok (.lload i, 2)) (k : am_W sc p l e R s m args below meth c D b ad nL n0 z0 Q (pc + 2) lv (.long x :: st) h) : am_W sc p l e R s m args below meth c D b ad nL n0 z0 Q pc lv st h :=
  fun ls H locs cl sl h1 h2 h3 h4 h5 => lv_lload C.1 C.2.1 hd (am_ld_has h1 hl) (k ls H locs cl sl h1 h2 h3 h4 h5)
theorem am_r_lload_n (C : am_C p R m c cc nL own s args D meth yn ad) {i : Fin 4} {x : Int64} (hl : am_ld lv i = some (.long x)) (hd : decode cc pc = .ok (.lload_n i, 1)) (k : am_W sc p l e R s m args below meth c D b ad nL n0 z0 Q (pc + 1) lv (.long x :: st) h) : am_W sc p l e R s m args below meth c D b ad nL n0 z0 Q pc lv st h :=
  fun ls H locs cl sl h1 h2 h3 h4 h5 => lv_lload_n C.1 C.2.1 hd rfl (am_ld_has h1 hl) (k ls H locs cl sl h1 h2 h3 h4 h5)
theorem am_r_aload (C : am_C p R m c cc nL own s args D meth yn ad) {i : Nat} {v : Value} (hl : am_ld lv i = some v) (hv : v = .null ∨ (∃ x, v = .ref x) ∨ ∃ x, v = .retAddr x) (hd : decode cc pc = .ok (.aload i, 2)) (k : am_W sc p l e R s m args below meth c D b ad nL n0 z0 Q (pc + 2) lv (v :: st) h) : am_W sc p l e R s m args below meth c D b ad nL n0 z0 Q pc lv st h := by
  intro ls H locs cl sl h1 h2 h3 h4 h5
  rcases hv with rfl | ⟨x, rfl⟩ | ⟨x, rfl⟩
  · exact lv_aloadN C.1 C.2.1 hd (am_ld_has h1 hl) (k ls H locs cl sl h1 h2 h3 h4 h5)
  · exact lv_aload C.1 C.2.1 hd (am_ld_has h1 hl) (k ls H locs cl sl h1 h2 h3 h4 h5)
  · exact lv_aload C.1 C.2.1 hd (am_ld_has h1 hl) (k ls H locs cl sl h1 h2 h3 h4 h5)
theorem am_r_aload_n (C : am_C p R m c cc nL own s args D meth yn ad) {i : Fin 4} {v : Value} (hl : am_ld lv i = some v) (hv : v = .null ∨ (∃ x, v = .ref x) ∨ ∃ x, v = .retAddr x) (hd : decode cc pc = .ok (.aload_n i, 1)) (k : am_W sc p l e R s m args below meth c D b ad nL n0 z0 Q (pc + 1) lv (v :: st) h) : am_W sc p l e R s m args below meth c D b ad nL n0 z0 Q pc lv st h := by
  intro ls H locs cl sl h1 h2 h3 h4 h5
  rcases hv with rfl | ⟨x, rfl⟩ | ⟨x, rfl⟩
  · exact lv_aload_nN C.1 C.2.1 hd rfl (am_ld_has h1 hl) (k ls H locs cl sl h1 h2 h3 h4 h5)
  · exact lv_aload_n C.1 C.2.1 hd rfl (am_ld_has h1 hl) (k ls H locs cl sl h1 h2 h3 h4 h5)
  · exact lv_aload_n C.1 C.2.1 hd rfl (am_ld_has h1 hl) (k ls H locs cl sl h1 h2 h3 h4 h5)
theorem am_r_istore (C : am_C p R m c cc nL own s args D meth yn ad) {i : Nat} {x : Int32} (hn : i < nL) (hd : decode cc pc = .ok (.istore i, 2)) (k : am_W sc p l e R s m args below meth c D b ad nL n0 z0 Q (pc + 2) (am_s1 lv i (.int x)) st h) : am_W sc p l e R s m args below meth c D b ad nL n0 z0 Q pc lv (.int x :: st) h :=
  fun ls H locs cl sl h1 h2 h3 h4 h5 => lv_istore C.1 C.2.1 hd h1 hn (am_L_s1 b ad lv i (.int x)) (fun ls' h' => k ls' H locs cl sl h' h2 h3 h4 h5)
theorem am_r_istore_n (C : am_C p R m c cc nL own s args D meth yn ad) {i : Fin 4} {x : Int32} (hn : (i : Nat) < nL) (hd : decode cc pc = .ok (.istore_n i, 1)) (k : am_W sc p l e R s m args below meth c D b ad nL n0 z0 Q (pc + 1) (am_s1 lv i (.int x)) st h) : am_W sc p l e R s m args below meth c D b ad nL n0 z0 Q pc lv (.int x :: st) h :=
  fun ls H locs cl sl h1 h2 h3 h4 h5 => lv_istore_n C.1 C.2.1 hd rfl h1 hn (am_L_s1 b ad lv i (.int x)) (fun ls' h' => k ls' H locs cl sl h' h2 h3 h4 h5)
theorem am_r_lstore (C : am_C p R m c cc nL own s args D meth yn ad) {i : Nat} {x : Int64} (hn : i + 1 < nL) (hd : decode cc pc = .ok (.lstore i, 2)) (k : am_W sc p l e R s m args below meth c D b ad nL n0 z0 Q (pc + 2) (am_s2 lv i (.long x)) st h) : am_W sc p l e R s m args below meth c D b ad nL n0 z0 Q pc lv (.long x :: st) h :=
  fun ls H locs cl sl h1 h2 h3 h4 h5 => lv_lstore C.1 C.2.1 hd h1 hn (am_L_s2 b ad lv i (.long x)) (fun ls' h' => k ls' H locs cl sl h' h2 h3 h4 h5)
theorem am_r_lstore_n (C : am_C p R m c cc nL own s args D meth yn ad) {i : Fin 4} {x : Int64} (hn : (i : Nat) + 1 < nL) (hd : decode cc pc = .ok (.lstore_n i, 1)) (k : am_W sc p l e R s m args below meth c D b ad nL n0 z0 Q (pc + 1) (am_s2 lv i (.long x)) st h) : am_W sc p l e R s m args below meth c D b ad nL n0 z0 Q pc lv (.long x :: st) h :=
  fun ls H locs cl sl h1 h2 h3 h4 h5 => lv_lstore_n C.1 C.2.1 hd rfl h1 hn (am_L_s2 b ad lv i (.long x)) (fun ls' h' => k ls' H locs cl sl h' h2 h3 h4 h5)
theorem am_r_astore (C : am_C p R m c cc nL own s args D meth yn ad) {i : Nat} {v : Value} (hv : v = .null ∨ (∃ x, v = .ref x) ∨ ∃ x, v = .retAddr x) (hn : i < nL) (hd : decode cc pc = .ok (.astore i, 2)) (k : am_W sc p l e R s m args below meth c D b ad nL n0 z0 Q (pc + 2) (am_s1 lv i v) st h) : am_W sc p l e R s m args below meth c D b ad nL n0 z0 Q pc lv (v :: st) h := by
  intro ls H locs cl sl h1 h2 h3 h4 h5
  rcases hv with rfl | ⟨x, rfl⟩ | ⟨x, rfl⟩
  · exact lv_astoreN C.1 C.2.1 hd h1 hn (am_L_s1 b ad lv i .null) (fun ls' h' => k ls' H locs cl sl h' h2 h3 h4 h5)
  · exact lv_astore C.1 C.2.1 hd h1 hn (am_L_s1 b ad lv i (.ref x)) (fun ls' h' => k ls' H locs cl sl h' h2 h3 h4 h5)
  · exact lv_astore C.1 C.2.1 hd h1 hn (am_L_s1 b ad lv i (.retAddr x)) (fun ls' h' => k ls' H locs cl sl h' h2 h3 h4 h5)
theorem am_r_astore_n (C : am_C p R m c cc nL own s args D meth yn ad) {i : Fin 4} {v : Value} (hv : v = .null ∨ (∃ x, v = .ref x) ∨ ∃ x, v = .retAddr x) (hn : (i : Nat) < nL) (hd : decode cc pc = .ok (.astore_n i, 1)) (k : am_W sc p l e R s m args below meth c D b ad nL n0 z0 Q (pc + 1) (am_s1 lv i v) st h) : am_W sc p l e R s m args below meth c D b ad nL n0 z0 Q pc lv (v :: st) h := by
  intro ls H locs cl sl h1 h2 h3 h4 h5
  rcases hv with rfl | ⟨x, rfl⟩ | ⟨x, rfl⟩
  · exact lv_astore_nN C.1 C.2.1 hd rfl h1 hn (am_L_s1 b ad lv i .null) (fun ls' h' => k ls' H locs cl sl h' h2 h3 h4 h5)
  · exact lv_astore_n C.1 C.2.1 hd rfl h1 hn (am_L_s1 b ad lv i (.ref x)) (fun ls' h' => k ls' H locs cl sl h' h2 h3 h4 h5)
  · exact lv_astore_n C.1 C.2.1 hd rfl h1 hn (am_L_s1 b ad lv i (.retAddr x)) (fun ls' h' => k ls' H locs cl sl h' h2 h3 h4 h5)
theorem am_r_iinc (C : am_C p R m c cc nL own s args D meth yn ad) {i : Nat} {n : Int} {x : Int32} (hl : am_ld lv i = some (.int x)) (hn : i < nL) (hd : decode cc pc = .ok (.iinc i n, 3)) (k : am_W sc p l e R s m args below meth c D b ad nL n0 z0 Q (pc + 3) (am_s1 lv i (.int (x + Int32.ofInt n))) st h) : am_W sc p l e R s m args below meth c D b ad nL n0 z0 Q pc lv st h := by
  intro ls H locs cl sl h1 h2 h3 h4 h5
  obtain ⟨q, hq⟩ := am_ld_at (b := b) (ad := ad) hl
  exact lv_iinc C.1 C.2.1 hd h1 hq rfl hn (am_L_s1 b ad lv i (.int (x + Int32.ofInt n))) (fun ls' h' => k ls' H locs cl sl h' h2 h3 h4 h5)
theorem am_r_iadd (C : am_C p R m c cc nL own s args D meth yn ad) {x y : Int32} (hd : decode cc pc = .ok (.iadd, 1)) (k : am_W sc p l e R s m args below meth c D b ad nL n0 z0 Q (pc + 1) lv (.int (x + y) :: st) h) : am_W sc p l e R s m args below meth c D b ad nL n0 z0 Q pc lv (.int y :: .int x :: st) h :=
  fun ls H locs cl sl h1 h2 h3 h4 h5 => lv_iadd C.1 C.2.1 hd (k ls H locs cl sl h1 h2 h3 h4 h5)
theorem am_r_isub (C : am_C p R m c cc nL own s args D meth yn ad) {x y : Int32} (hd : decode cc pc = .ok (.isub, 1)) (k : am_W sc p l e R s m args below meth c D b ad nL n0 z0 Q (pc + 1) lv (.int (x - y) :: st) h) : am_W sc p l e R s m args below meth c D b ad nL n0 z0 Q pc lv (.int y :: .int x :: st) h :=
  fun ls H locs cl sl h1 h2 h3 h4 h5 => lv_isub C.1 C.2.1 hd (k ls H locs cl sl h1 h2 h3 h4 h5)
theorem am_r_imul (C : am_C p R m c cc nL own s args D meth yn ad) {x y : Int32} (hd : decode cc pc = .ok (.imul, 1)) (k : am_W sc p l e R s m args below meth c D b ad nL n0 z0 Q (pc + 1) lv (.int (x * y) :: st) h) : am_W sc p l e R s m args below meth c D b ad nL n0 z0 Q pc lv (.int y :: .int x :: st) h :=
  fun ls H locs cl sl h1 h2 h3 h4 h5 => lv_imul C.1 C.2.1 hd (k ls H locs cl sl h1 h2 h3 h4 h5)
theorem am_r_iand (C : am_C p R m c cc nL own s args D meth yn ad) {x y : Int32} (hd : decode cc pc = .ok (.iand, 1)) (k : am_W sc p l e R s m args below meth c D b ad nL n0 z0 Q (pc + 1) lv (.int (x &&& y) :: st) h) : am_W sc p l e R s m args below meth c D b ad nL n0 z0 Q pc lv (.int y :: .int x :: st) h :=
  fun ls H locs cl sl h1 h2 h3 h4 h5 => lv_iand C.1 C.2.1 hd (k ls H locs cl sl h1 h2 h3 h4 h5)
theorem am_r_ior (C : am_C p R m c cc nL own s args D meth yn ad) {x y : Int32} (hd : decode cc pc = .ok (.ior, 1)) (k : am_W sc p l e R s m args below meth c D b ad nL n0 z0 Q (pc + 1) lv (.int (x ||| y) :: st) h) : am_W sc p l e R s m args below meth c D b ad nL n0 z0 Q pc lv (.int y :: .int x :: st) h :=
  fun ls H locs cl sl h1 h2 h3 h4 h5 => lv_ior C.1 C.2.1 hd (k ls H locs cl sl h1 h2 h3 h4 h5)
theorem am_r_ixor (C : am_C p R m c cc nL own s args D meth yn ad) {x y : Int32} (hd : decode cc pc = .ok (.ixor, 1)) (k : am_W sc p l e R s m args below meth c D b ad nL n0 z0 Q (pc + 1) lv (.int (x ^^^ y) :: st) h) : am_W sc p l e R s m args below meth c D b ad nL n0 z0 Q pc lv (.int y :: .int x :: st) h :=
  fun ls H locs cl sl h1 h2 h3 h4 h5 => lv_ixor C.1 C.2.1 hd (k ls H locs cl sl h1 h2 h3 h4 h5)
theorem am_r_ishl (C : am_C p R m c cc nL own s args D meth yn ad) {x y : Int32} (hd : decode cc pc = .ok (.ishl, 1)) (k : am_W sc p l e R s m args below meth c D b ad nL n0 z0 Q (pc + 1) lv (.int (x <<< (y &&& 31)) :: st) h) : am_W sc p l e R s m args below meth c D b ad nL n0 z0 Q pc lv (.int y :: .int x :: st) h :=
  fun ls H locs cl sl h1 h2 h3 h4 h5 => lv_ishl C.1 C.2.1 hd (k ls H locs cl sl h1 h2 h3 h4 h5)
theorem am_r_ishr (C : am_C p R m c cc nL own s args D meth yn ad) {x y : Int32} (hd : decode cc pc = .ok (.ishr, 1)) (k : am_W sc p l e R s m args below meth c D b ad nL n0 z0 Q (pc + 1) lv (.int (x >>> (y &&& 31)) :: st) h) : am_W sc p l e R s m args below meth c D b ad nL n0 z0 Q pc lv (.int y :: .int x :: st) h :=
  fun ls H locs cl sl h1 h2 h3 h4 h5 => lv_ishr C.1 C.2.1 hd (k ls H locs cl sl h1 h2 h3 h4 h5)
theorem am_r_idiv (C : am_C p R m c cc nL own s args D meth yn ad) {x y : Int32} (hne : ¬ y = 0) (hd : decode cc pc = .ok (.idiv, 1)) (k : am_W sc p l e R s m args below meth c D b ad nL n0 z0 Q (pc + 1) lv (.int (x / y) :: st) h) : am_W sc p l e R s m args below meth c D b ad nL n0 z0 Q pc lv (.int y :: .int x :: st) h :=
  fun ls H locs cl sl h1 h2 h3 h4 h5 => lv_idiv C.1 C.2.1 hd hne (k ls H locs cl sl h1 h2 h3 h4 h5)
theorem am_r_irem (C : am_C p R m c cc nL own s args D meth yn ad) {x y : Int32} (hne : ¬ y = 0) (hd : decode cc pc = .ok (.irem, 1)) (k : am_W sc p l e R s m args below meth c D b ad nL n0 z0 Q (pc + 1) lv (.int (x - x / y * y) :: st) h) : am_W sc p l e R s m args below meth c D b ad nL n0 z0 Q pc lv (.int y :: .int x :: st) h :=
  fun ls H locs cl sl h1 h2 h3 h4 h5 => lv_irem C.1 C.2.1 hd hne (k ls H locs cl sl h1 h2 h3 h4 h5)
theorem am_r_ineg (C : am_C p R m c cc nL own s args D meth yn ad) {x : Int32} (hd : decode cc pc = .ok (.ineg, 1)) (k : am_W sc p l e R s m args below meth c D b ad nL n0 z0 Q (pc + 1) lv (.int (-x) :: st) h) : am_W sc p l e R s m args below meth c D b ad nL n0 z0 Q pc lv (.int x :: st) h :=
  fun ls H locs cl sl h1 h2 h3 h4 h5 => lv_ineg C.1 C.2.1 hd (k ls H locs cl sl h1 h2 h3 h4 h5)
theorem am_r_ladd (C : am_C p R m c cc nL own s args D meth yn ad) {x y : Int64} (hd : decode cc pc = .ok (.ladd, 1)) (k : am_W sc p l e R s m args below meth c D b ad nL n0 z0 Q (pc + 1) lv (.long (x + y) :: st) h) : am_W sc p l e R s m args below meth c D b ad nL n0 z0 Q pc lv (.long y :: .long x :: st) h :=
  fun ls H locs cl sl h1 h2 h3 h4 h5 => lv_ladd C.1 C.2.1 hd (k ls H locs cl sl h1 h2 h3 h4 h5)
theorem am_r_lsub (C : am_C p R m c cc nL own s args D meth yn ad) {x y : Int64} (hd : decode cc pc = .ok (.lsub, 1)) (k : am_W sc p l e R s m args below meth c D b ad nL n0 z0 Q (pc + 1) lv (.long (x - y) :: st) h) : am_W sc p l e R s m args below meth c D b ad nL n0 z0 Q pc lv (.long y :: .long x :: st) h :=
  fun ls H locs cl sl h1 h2 h3 h4 h5 => lv_lsub C.1 C.2.1 hd (k ls H locs cl sl h1 h2 h3 h4 h5)
theorem am_r_lmul (C : am_C p R m c cc nL own s args D meth yn ad) {x y : Int64} (hd : decode cc pc = .ok (.lmul, 1)) (k : am_W sc p l e R s m args below meth c D b ad nL n0 z0 Q (pc + 1) lv (.long (x * y) :: st) h) : am_W sc p l e R s m args below meth c D b ad nL n0 z0 Q pc lv (.long y :: .long x :: st) h :=
  fun ls H locs cl sl h1 h2 h3 h4 h5 => lv_lmul C.1 C.2.1 hd (k ls H locs cl sl h1 h2 h3 h4 h5)
theorem am_r_land (C : am_C p R m c cc nL own s args D meth yn ad) {x y : Int64} (hd : decode cc pc = .ok (.land, 1)) (k : am_W sc p l e R s m args below meth c D b ad nL n0 z0 Q (pc + 1) lv (.long (x &&& y) :: st) h) : am_W sc p l e R s m args below meth c D b ad nL n0 z0 Q pc lv (.long y :: .long x :: st) h :=
  fun ls H locs cl sl h1 h2 h3 h4 h5 => lv_land C.1 C.2.1 hd (k ls H locs cl sl h1 h2 h3 h4 h5)
theorem am_r_lor (C : am_C p R m c cc nL own s args D meth yn ad) {x y : Int64} (hd : decode cc pc = .ok (.lor, 1)) (k : am_W sc p l e R s m args below meth c D b ad nL n0 z0 Q (pc + 1) lv (.long (x ||| y) :: st) h) : am_W sc p l e R s m args below meth c D b ad nL n0 z0 Q pc lv (.long y :: .long x :: st) h :=
  fun ls H locs cl sl h1 h2 h3 h4 h5 => lv_lor C.1 C.2.1 hd (k ls H locs cl sl h1 h2 h3 h4 h5)
theorem am_r_iushr (C : am_C p R m c cc nL own s args D meth yn ad) {x y : Int32} (hd : decode cc pc = .ok (.iushr, 1)) (k : am_W sc p l e R s m args below meth c D b ad nL n0 z0 Q (pc + 1) lv (.int (x.toUInt32 >>> (y.toUInt32 &&& Int32.toUInt32 31)).toInt32 :: st) h) : am_W sc p l e R s m args below meth c D b ad nL n0 z0 Q pc lv (.int y :: .int x :: st) h :=
  fun ls H locs cl sl h1 h2 h3 h4 h5 => lv_iushr C.1 C.2.1 hd rfl (k ls H locs cl sl h1 h2 h3 h4 h5)
theorem am_r_lushr (C : am_C p R m c cc nL own s args D meth yn ad) {x : Int64} {y : Int32} (hd : decode cc pc = .ok (.lushr, 1)) (k : am_W sc p l e R s m args below meth c D b ad nL n0 z0 Q (pc + 1) lv (.long (x.toUInt64 >>> (y.toInt64.toUInt64 &&& Int64.toUInt64 63)).toInt64 :: st) h) : am_W sc p l e R s m args below meth c D b ad nL n0 z0 Q pc lv (.int y :: .long x :: st) h :=
  fun ls H locs cl sl h1 h2 h3 h4 h5 => lv_lushr C.1 C.2.1 hd rfl (k ls H locs cl sl h1 h2 h3 h4 h5)
theorem am_r_lshl (C : am_C p R m c cc nL own s args D meth yn ad) {x : Int64} {y : Int32} (hd : decode cc pc = .ok (.lshl, 1)) (k : am_W sc p l e R s m args below meth c D b ad nL n0 z0 Q (pc + 1) lv (.long (x <<< (y.toInt64 &&& 63)) :: st) h) : am_W sc p l e R s m args below meth c D b ad nL n0 z0 Q pc lv (.int y :: .long x :: st) h :=
  fun ls H locs cl sl h1 h2 h3 h4 h5 => lv_lshl C.1 C.2.1 hd rfl (k ls H locs cl sl h1 h2 h3 h4 h5)
theorem am_r_i2l (C : am_C p R m c cc nL own s args D meth yn ad) {x : Int32} (hd : decode cc pc = .ok (.i2l, 1)) (k : am_W sc p l e R s m args below meth c D b ad nL n0 z0 Q (pc + 1) lv (.long x.toInt64 :: st) h) : am_W sc p l e R s m args below meth c D b ad nL n0 z0 Q pc lv (.int x :: st) h :=
  fun ls H locs cl sl h1 h2 h3 h4 h5 => lv_i2l C.1 C.2.1 hd rfl (k ls H locs cl sl h1 h2 h3 h4 h5)
theorem am_r_l2i (C : am_C p R m c cc nL own s args D meth yn ad) {x : Int64} (hd : decode cc pc = .ok (.l2i, 1)) (k : am_W sc p l e R s m args below meth c D b ad nL n0 z0 Q (pc + 1) lv (.int x.toInt32 :: st) h) : am_W sc p l e R s m args below meth c D b ad nL n0 z0 Q pc lv (.long x :: st) h :=
  fun ls H locs cl sl h1 h2 h3 h4 h5 => lv_l2i C.1 C.2.1 hd rfl (k ls H locs cl sl h1 h2 h3 h4 h5)
theorem am_r_lcmp (C : am_C p R m c cc nL own s args D meth yn ad) {x y : Int64} (hd : decode cc pc = .ok (.lcmp, 1)) (k : am_W sc p l e R s m args below meth c D b ad nL n0 z0 Q (pc + 1) lv (.int (lg_cmp x y) :: st) h) : am_W sc p l e R s m args below meth c D b ad nL n0 z0 Q pc lv (.long y :: .long x :: st) h :=
  fun ls H locs cl sl h1 h2 h3 h4 h5 => W.lcmp C.1 C.2.1 hd (k ls H locs cl sl h1 h2 h3 h4 h5)
theorem am_r_dup (C : am_C p R m c cc nL own s args D meth yn ad) {v : Value} (hv : v.category = 1) (hd : decode cc pc = .ok (.dup, 1)) (k : am_W sc p l e R s m args below meth c D b ad nL n0 z0 Q (pc + 1) lv (v :: v :: st) h) : am_W sc p l e R s m args below meth c D b ad nL n0 z0 Q pc lv (v :: st) h :=
  fun ls H locs cl sl h1 h2 h3 h4 h5 => lv_dup C.1 C.2.1 hd ((am_mv_cat b ad v).trans hv) (k ls H locs cl sl h1 h2 h3 h4 h5)
theorem am_r_pop (C : am_C p R m c cc nL own s args D meth yn ad) {v : Value} (hv : v.category = 1) (hd : decode cc pc = .ok (.pop, 1)) (k : am_W sc p l e R s m args below meth c D b ad nL n0 z0 Q (pc + 1) lv (st) h) : am_W sc p l e R s m args below meth c D b ad nL n0 z0 Q pc lv (v :: st) h :=
  fun ls H locs cl sl h1 h2 h3 h4 h5 => lv_pop C.1 C.2.1 hd ((am_mv_cat b ad v).trans hv) (k ls H locs cl sl h1 h2 h3 h4 h5)
theorem am_r_dup_x1 (C : am_C p R m c cc nL own s args D meth yn ad) {v w : Value} (hv : v.category = 1) (hw : w.category = 1) (hd : decode cc pc = .ok (.dup_x1, 1)) (k : am_W sc p l e R s m args below meth c D b ad nL n0 z0 Q (pc + 1) lv (v :: w :: v :: st) h) : am_W sc p l e R s m args below meth c D b ad nL n0 z0 Q pc lv (v :: w :: st) h :=
  fun ls H locs cl sl h1 h2 h3 h4 h5 => lv_dup_x1 C.1 C.2.1 hd ((am_mv_cat b ad v).trans hv) ((am_mv_cat b ad w).trans hw) (k ls H locs cl sl h1 h2 h3 h4 h5)
theorem am_r_dup2 (C : am_C p R m c cc nL own s args D meth yn ad) {v w : Value} (hv : v.category = 1) (hw : w.category = 1) (hd : decode cc pc = .ok (.dup2, 1)) (k : am_W sc p l e R s m args below meth c D b ad nL n0 z0 Q (pc + 1) lv (v :: w :: v :: w :: st) h) : am_W sc p l e R s m args below meth c D b ad nL n0 z0 Q pc lv (v :: w :: st) h :=
  fun ls H locs cl sl h1 h2 h3 h4 h5 => lv_dup2_11 C.1 C.2.1 hd ((am_mv_cat b ad v).trans hv) ((am_mv_cat b ad w).trans hw) (k ls H locs cl sl h1 h2 h3 h4 h5)
/-! fields -/
theorem am_at_obj {U : State} {D : va_G} {b a ci : Nat} {ad : Nat → Nat} {fs : List Value} {H : Heap} (h : am_at U D b ad (ci, fs) a H) (hc : ci < 100) : va_at D vwCl (a, .inr (ci, fs.map (am_mv b ad))) H := by
  rcases h with ⟨h1, h2⟩ | ⟨h1, h2, h3⟩ | h
  · exact h2
  · exact absurd hc (Nat.not_lt.mpr h1)
  · have h1 : ci = 199 := h
    omega
theorem am_r_get (C : am_C p R m c cc nL own s args D meth yn ad) {ci kf a idx : Nat} {C0 ref : String} {T : u_T} {N : Nat} {ty0 : Nat → FieldType} {fs : List Value} {v : Value} (K : am_cls ci C0 T N ty0) (hk : kf < N)
    (hw : Jvm.Cond.fieldLink own idx ref (T kf).2.1 (T kf).2.2.1 ∈ am_T ∨ ∃ host, (own, idx, ref, (T kf).2.1, (T kf).2.2.1, host) ∈ am_nf) (hr : (T kf).1 = ref ∨ Jvm.Cond.sameField ref (T kf).1 (T kf).2.1 (T kf).2.2.1 ∈ am_T)
    (e1 : h[a]? = some (ci, fs)) (e2 : fs[kf]? = some v) (hd : decode cc pc = .ok (.getfield idx, 3)) (k : am_W sc p l e R s m args below meth c D b ad nL n0 z0 Q (pc + 3) lv (v :: st) h) : am_W sc p l e R s m args below meth c D b ad nL n0 z0 Q pc lv (.ref a :: st) h := by
  intro ls H locs cl sl h1 h2 h3 h4 h5
  obtain ⟨K1, K2, K3, K4, K5⟩ := K
  have hp := am_at_obj (h2.2.1 a _ e1) K1
  have hP : va_P D vwCl [(b + a, .inr (ci, fs.map (am_mv b ad)))] H := by
    intro k0 q hq
    have hz : k0 < 1 := (List.getElem?_eq_some_iff.mp hq).1
    rw [show k0 = 0 by omega] at hq
    cases hq
    exact hp
  have hv : (fs.map (am_mv b ad))[kf]? = some (am_mv b ad v) := by rw [List.getElem?_map, e2]; rfl
  have hsm : ∀ x, s.fieldFound? (T kf).1 (T kf).2.1 (T kf).2.2.1 = some x → s.fieldFound? ref (T kf).2.1 (T kf).2.2.1 = some x := by
    rcases hr with rfl | hr
    · exact fun _ x => x
    · exact u_same (C.2.2.2.2.1 _ hr)
  rcases hw with hw | ⟨host, hw⟩
  · exact va_get C.1 C.2.1 C.2.2.2.2.1 K3 C.2.2.2.1 C.2.2.2.2.2.1 hP 0 rfl K2 kf hk (C.2.2.2.2.1 _ hw) hsm hv hd (k ls H locs cl sl h1 h2 h3 h4 h5)
  · exact va_getN C.1 C.2.1 C.2.2.2.2.1 K3 C.2.2.2.1 C.2.2.2.2.2.1 hP 0 rfl K2 kf hk (am_E_nf C.2.2.2.2.2.2.2.2.2 hw) hsm hv hd (k ls H locs cl sl h1 h2 h3 h4 h5)
theorem am_map_set {b : Nat} {ad : Nat → Nat} {fs : List Value} {k : Nat} {v : Value} : (fs.map (am_mv b ad)).set k (am_mv b ad v) = (fs.set k v).map (am_mv b ad) := by rw [List.map_set]
theorem am_r_put (C : am_C p R m c cc nL own s args D meth yn ad) {ci kf a idx : Nat} {C0 ref : String} {T : u_T} {N : Nat} {ty0 : Nat → FieldType} {fs : List Value} {v : Value} (K : am_cls ci C0 T N ty0) (hk : kf < N)
    (hw : ((T kf).2.2.2 = false ∧ (Jvm.Cond.fieldLink own idx ref (T kf).2.1 (T kf).2.2.1 ∈ am_T ∨ ∃ host, (own, idx, ref, (T kf).2.1, (T kf).2.2.1, host) ∈ am_nf)) ∨ ((T kf).2.2.2 = true ∧ yn = "<init>" ∧ ref = own ∧ (T kf).1 = ref ∧ Jvm.Cond.fieldLink own idx ref (T kf).2.1 (T kf).2.2.1 ∈ am_T)) (hr : (T kf).1 = ref ∨ Jvm.Cond.sameField ref (T kf).1 (T kf).2.1 (T kf).2.2.1 ∈ am_T)
    (e1 : h[a]? = some (ci, fs)) (e2 : kf < fs.length) (hv : am_ok (ty0 kf) v = true) (hd : decode cc pc = .ok (.putfield idx, 3)) (kk : am_W sc p l e R s m args below meth c D b ad nL n0 z0 Q (pc + 3) lv st (h.set a (ci, fs.set kf v))) : am_W sc p l e R s m args below meth c D b ad nL n0 z0 Q pc lv (v :: .ref a :: st) h := by
  intro ls H locs cl sl h1 h2 h3 h4 h5
  obtain ⟨K1, K2, K3, K4, K5⟩ := K
  have hts := C.2.2.2.2.1
  have hown := C.2.2.2.1
  have hK := C.2.2.2.2.2.1
  have hap := va_apart (own := own) hts K3 ty0 K4 K5 hK K2
  obtain ⟨r, g1, cell, q1, q2, q3, q4⟩ := am_at_obj (h2.2.1 a _ e1) K1
  have hr0 : r = (C0, T, N) := Option.some.inj (g1.symm.trans K2)
  subst hr0
  obtain ⟨hS, hfc, kC, hkC, hkind⟩ := hK.1 ci _ K2
  obtain ⟨cf, kf0, fi, f, hi, hsl⟩ := hS kf hk
  obtain ⟨hn, hfit⟩ := am_ok_spec b ad hv
  have hst := (u_facts hfc hkC (u_lays hts K3 hk) hi).1
  have ha : b ≤ b + a := Nat.le_add_right b a
  have hlen : kf < (fs.map (am_mv b ad)).length := by rw [List.length_map]; exact e2
  have fin : ∀ (H' : Heap), H'[b + a]? = some (cell.setSlot f.slot (am_mv b ad v)) → H'.size = H.size → (∀ q, q ≠ b + a → H'[q]? = H[q]?) → W p l e R s m args below meth c H' (locs ++ [⟨b + a, f.slot⟩]) cl sl Q (F0 m (pc + 3) ls (st.map (am_mv b ad))) := by
    intro H' w1 w2 w3
    rw [hsl] at w1 ⊢
    refine kk ls H' _ cl sl h1 (h2.set e1 w2 w3 (Or.inl ⟨K1, ?_⟩)) (h3.put w2 w3 ha) (by rw [List.length_set]; exact h4) (by rw [am_sz_set (by show (fs.set kf v).length = fs.length; rw [List.length_set]) e1]; exact h5)
    rw [← am_map_set]
    exact ⟨_, K2, t_OB.to (V := updV (vp_V (fs.map (am_mv b ad))) kf (am_mv b ad v)) ⟨_, w1, q2, q3, t_set q4 hap hk (am_mv b ad v)⟩ (fun j _ => vp_updV_set hlen (am_mv b ad v) j)⟩
  have hlt : f.slot < cell.slots.size := by rw [hsl]; exact k2_hasslot (q4 kf hk)
  have hlay := hts _ (K3 _ (u_in_lay hk))
  unfold u_lay at hlay
  have hsm : ∀ x, s.fieldFound? (T kf).1 (T kf).2.1 (T kf).2.2.1 = some x → s.fieldFound? ref (T kf).2.1 (T kf).2.2.1 = some x := by
    rcases hr with rfl | hr
    · exact fun _ x => x
    · exact u_same (hts _ hr)
  rcases hw with ⟨hfin, hw⟩ | ⟨hfin, hy, ho, hr, hw⟩
  · rw [if_neg (by rw [hfin]; decide)] at hlay
    have h6 := u_store hfc hkC hkind hlay hi (K4 kf hk) hn hfit
    rcases hw with hw | ⟨host, hw⟩
    · exact W.putK C.1 C.2.1 (f := f) ⟨hown, hts _ hw, ⟨_, _, _, hsm _ hi⟩, hst⟩ (by rw [q2]; exact h6) q1 q3 hlt rfl rfl hd fin
    · exact va_WputK C.1 C.2.1 (f := f) hown (am_E_nf C.2.2.2.2.2.2.2.2.2 hw) (hsm _ hi) hst (by rw [q2]; exact h6) q1 q3 hlt rfl rfl hd fin
  · rw [if_pos hfin] at hlay
    have hcf : m.cls = cf := by
      obtain ⟨_, _, c', _, _, _, -, -, hf', -, -, -, hown2, -⟩ := Jvm.Cond.laysFinal_spec hlay
      have e1 : c' = cf := by have := hi.symm.trans hf'; simp at this; exact this.1.symm
      rw [hr, ho] at hown2
      rw [← e1]; exact Option.some.inj (hown.symm.trans hown2)
    have h6 := u_fits hfc hkC hkind (Or.inr hlay) hi (K4 kf hk) hn hfit
    subst hr
    exact W.putFinK C.1 C.2.1 hown (hts _ hw) hi hst hcf (C.2.2.2.2.2.2.1.trans hy) (by rw [q2]; exact h6) q1 q3 hlt rfl rfl hd fin
/-! arrays -/
theorem am_at_arr {U : State} {D : va_G} {b a ki : Nat} {ad : Nat → Nat} {fs : List Value} {H : Heap} (h : am_at U D b ad (ki, fs) a H) (h1 : 100 ≤ ki) (h2 : ki ≠ 199) : ∃ cA : ClassId, ArrOfT U cA (am_kty ki) ∧ am_RA U cA (am_kty ki) ∧ H[a]? = some (arrV cA fs.length (fun j => am_mv b ad (fs.getD j .null))) := by
  rcases h with ⟨g1, g2⟩ | ⟨-, -, g3⟩ | h
  · have g1 : ki < 100 := g1
    omega
  · exact g3
  · exact absurd h h2
/-- a place of an array: neither negative nor behind its end -/
def am_ix (i : Int32) (n : Nat) : Option Nat := if i < 0 then none else if i.toNatClampNeg < n then some i.toNatClampNeg else none
theorem am_ix_spec {i : Int32} {n j : Nat} (h : am_ix i n = some j) : j = i.toNatClampNeg ∧ j < n ∧ ¬ (i < 0 ∨ n ≤ i.toNatClampNeg) := by
  unfold am_ix at h
  split at h
  · cases h
  · split at h
    · cases h
      rename_i h1 h2
      exact ⟨rfl, h2, by rintro (q | q); exact h1 q; omega⟩
    · cases h
theorem am_arr_size (cA : ClassId) (n : Nat) (f : Nat → Value) : (arrV cA n f).slots.size = n := arrV_size cA n f
theorem am_getD {fs : List Value} {j : Nat} {v : Value} (e : fs[j]? = some v) : fs.getD j .null = v := by rw [List.getD_eq_getElem?_getD, e]; rfl
theorem am_r_iald (C : am_C p R m c cc nL own s args D meth yn ad) {a j : Nat} {i : Int32} {fs : List Value} {v : Value} (e1 : h[a]? = some (100, fs)) (ei : am_ix i fs.length = some j) (e2 : fs[j]? = some v) (hd : decode cc pc = .ok (.iaload, 1)) (k : am_W sc p l e R s m args below meth c D b ad nL n0 z0 Q (pc + 1) lv (v :: st) h) : am_W sc p l e R s m args below meth c D b ad nL n0 z0 Q pc lv (.int i :: .ref a :: st) h := by
  intro ls H locs cl sl h1 h2 h3 h4 h5
  obtain ⟨cA, w1, w2, w3⟩ := am_at_arr (h2.2.1 a _ e1) (by decide) (by decide)
  obtain ⟨rfl, g2, g3⟩ := am_ix_spec ei
  exact W.iald (v := am_mv b ad v) C.1 C.2.1 w3 (w1 _ _) (fun q => by cases q) (by rw [am_arr_size]; exact g3) (by rw [arrV_read _ _ g2, am_getD e2]) rfl rfl hd (k ls H locs cl sl h1 h2 h3 h4 h5)
theorem am_r_lald (C : am_C p R m c cc nL own s args D meth yn ad) {a j : Nat} {i : Int32} {fs : List Value} {v : Value} (e1 : h[a]? = some (101, fs)) (ei : am_ix i fs.length = some j) (e2 : fs[j]? = some v) (hd : decode cc pc = .ok (.laload, 1)) (k : am_W sc p l e R s m args below meth c D b ad nL n0 z0 Q (pc + 1) lv (v :: st) h) : am_W sc p l e R s m args below meth c D b ad nL n0 z0 Q pc lv (.int i :: .ref a :: st) h := by
  intro ls H locs cl sl h1 h2 h3 h4 h5
  obtain ⟨cA, w1, w2, w3⟩ := am_at_arr (h2.2.1 a _ e1) (by decide) (by decide)
  obtain ⟨rfl, g2, g3⟩ := am_ix_spec ei
  exact W.lald (v := am_mv b ad v) C.1 C.2.1 w3 (w1 _ _) (fun q => by cases q) (by rw [am_arr_size]; exact g3) (by rw [arrV_read _ _ g2, am_getD e2]) rfl rfl hd (k ls H locs cl sl h1 h2 h3 h4 h5)
theorem am_r_zald (C : am_C p R m c cc nL own s args D meth yn ad) {a j : Nat} {i : Int32} {fs : List Value} {v : Value} (e1 : h[a]? = some (102, fs)) (ei : am_ix i fs.length = some j) (e2 : fs[j]? = some v) (hd : decode cc pc = .ok (.baload, 1)) (k : am_W sc p l e R s m args below meth c D b ad nL n0 z0 Q (pc + 1) lv (v :: st) h) : am_W sc p l e R s m args below meth c D b ad nL n0 z0 Q pc lv (.int i :: .ref a :: st) h := by
  intro ls H locs cl sl h1 h2 h3 h4 h5
  obtain ⟨cA, w1, w2, w3⟩ := am_at_arr (h2.2.1 a _ e1) (by decide) (by decide)
  obtain ⟨rfl, g2, g3⟩ := am_ix_spec ei
  exact W.zald (v := am_mv b ad v) C.1 C.2.1 w3 (w1 _ _) (fun q => by cases q) (by rw [am_arr_size]; exact g3) (by rw [arrV_read _ _ g2, am_getD e2]) rfl rfl hd (k ls H locs cl sl h1 h2 h3 h4 h5)
theorem am_r_aald (C : am_C p R m c cc nL own s args D meth yn ad) {a j ki : Nat} {i : Int32} {fs : List Value} {v : Value} (hki : 103 ≤ ki ∧ ki ≠ 199) (e1 : h[a]? = some (ki, fs)) (ei : am_ix i fs.length = some j) (e2 : fs[j]? = some v) (hd : decode cc pc = .ok (.aaload, 1)) (k : am_W sc p l e R s m args below meth c D b ad nL n0 z0 Q (pc + 1) lv (v :: st) h) : am_W sc p l e R s m args below meth c D b ad nL n0 z0 Q pc lv (.int i :: .ref a :: st) h := by
  intro ls H locs cl sl h1 h2 h3 h4 h5
  obtain ⟨cA, w1, w2, w3⟩ := am_at_arr (h2.2.1 a _ e1) (by omega) hki.2
  obtain ⟨rfl, g2, g3⟩ := am_ix_spec ei
  have hty : (am_kty ki).isReference = true := by
    unfold am_kty
    rw [if_neg (by omega), if_neg (by omega), if_neg (by omega)]
    split
    · rfl
    · split <;> rfl
  exact W.aald (v := am_mv b ad v) C.1 C.2.1 w3 (w1 _ _) hty (fun q => by cases q) (by rw [am_arr_size]; exact g3) (by rw [arrV_read _ _ g2, am_getD e2]) rfl rfl hd (k ls H locs cl sl h1 h2 h3 h4 h5)
theorem am_r_alen (C : am_C p R m c cc nL own s args D meth yn ad) {a ki : Nat} {fs : List Value} (hki : 100 ≤ ki ∧ ki ≠ 199) (e1 : h[a]? = some (ki, fs)) (hd : decode cc pc = .ok (.arraylength, 1)) (k : am_W sc p l e R s m args below meth c D b ad nL n0 z0 Q (pc + 1) lv (.int (Int32.ofNat fs.length) :: st) h) : am_W sc p l e R s m args below meth c D b ad nL n0 z0 Q pc lv (.ref a :: st) h := by
  intro ls H locs cl sl h1 h2 h3 h4 h5
  obtain ⟨cA, w1, w2, w3⟩ := am_at_arr (h2.2.1 a _ e1) hki.1 hki.2
  exact W.alen (n := Int32.ofNat fs.length) C.1 C.2.1 w3 (w1 _ _) (by rw [am_arr_size]) rfl rfl hd (k ls H locs cl sl h1 h2 h3 h4 h5)
theorem am_arr_upd {b : Nat} {ad : Nat → Nat} {fs : List Value} {j : Nat} {v : Value} (hj : j < fs.length) : updV (fun q => am_mv b ad (fs.getD q .null)) j (am_mv b ad v) = fun q => am_mv b ad ((fs.set j v).getD q .null) := by
  funext q
  unfold updV
  by_cases hq : q = j
  · subst hq
    rw [if_pos rfl, am_getD (v := v) (by rw [List.getElem?_set_self hj])]
  · rw [if_neg hq]
    show am_mv b ad (fs.getD q .null) = am_mv b ad ((fs.set j v).getD q .null)
    rw [List.getD_eq_getElem?_getD, List.getD_eq_getElem?_getD, List.getElem?_set_ne (Ne.symm hq)]
theorem am_store_arr {D : va_G} {a ki j : Nat} {fs : List Value} {v : Value} {cA : ClassId} {H H' : Heap} {locs : List Loc} {k0 : Nat} (hki : 100 ≤ ki ∧ ki ≠ 199) (e1 : h[a]? = some (ki, fs)) (hj : j < fs.length) (h2 : am_R sc s D b ad h H) (h3 : va_S (fun q => b ≤ q) s.heap H locs) (w1 : ArrOfT s cA (am_kty ki)) (w2 : am_RA s cA (am_kty ki))
    (x1 : H'[b + a]? = some ((arrV cA fs.length (fun q => am_mv b ad (fs.getD q .null))).setSlot j (am_mv b ad v))) (x2 : H'.size = H.size) (x3 : ∀ q, q ≠ b + a → H'[q]? = H[q]?) :
    am_R sc s D b ad (h.set a (ki, fs.set j v)) H' ∧ va_S (fun q => b ≤ q) s.heap H' (locs ++ [⟨b + a, k0⟩]) ∧ (h.set a (ki, fs.set j v)).length = h.length ∧ am_sz (h.set a (ki, fs.set j v)) = am_sz h := by
  refine ⟨h2.set e1 x2 x3 (Or.inr (Or.inl ⟨hki.1, hki.2, cA, w1, w2, ?_⟩)), h3.put x2 x3 (Nat.le_add_right b a), List.length_set, am_sz_set (by show (fs.set j v).length = fs.length; rw [List.length_set]) e1⟩
  rw [x1, arrV_store, am_arr_upd hj]
  show some (arrV cA fs.length _) = some (arrV cA (fs.set j v).length _)
  rw [List.length_set]
theorem am_r_iast (C : am_C p R m c cc nL own s args D meth yn ad) {a j : Nat} {i : Int32} {x : Int32} {fs : List Value} (e1 : h[a]? = some (100, fs)) (ei : am_ix i fs.length = some j) (hd : decode cc pc = .ok (.iastore, 1)) (k : am_W sc p l e R s m args below meth c D b ad nL n0 z0 Q (pc + 1) lv st (h.set a (100, fs.set j (.int x)))) : am_W sc p l e R s m args below meth c D b ad nL n0 z0 Q pc lv (.int x :: .int i :: .ref a :: st) h := by
  intro ls H locs cl sl h1 h2 h3 h4 h5
  obtain ⟨cA, w1, w2, w3⟩ := am_at_arr (h2.2.1 a _ e1) (by decide) (by decide)
  obtain ⟨rfl, g2, g3⟩ := am_ix_spec ei
  refine W.iast C.1 C.2.1 w3 (w1 _ _) (fun q => by cases q) (by rw [am_arr_size]; exact g3) rfl rfl hd fun H' x1 x2 x3 => ?_
  obtain ⟨y1, y2, y3, y4⟩ := am_store_arr (v := .int x) (k0 := i.toNatClampNeg) ⟨by decide, by decide⟩ e1 g2 h2 h3 w1 w2 x1 x2 x3
  exact k ls H' _ cl sl h1 y1 y2 (h4.trans y3.symm) (h5.trans y4.symm)
theorem am_r_last (C : am_C p R m c cc nL own s args D meth yn ad) {a j : Nat} {i : Int32} {x : Int64} {fs : List Value} (e1 : h[a]? = some (101, fs)) (ei : am_ix i fs.length = some j) (hd : decode cc pc = .ok (.lastore, 1)) (k : am_W sc p l e R s m args below meth c D b ad nL n0 z0 Q (pc + 1) lv st (h.set a (101, fs.set j (.long x)))) : am_W sc p l e R s m args below meth c D b ad nL n0 z0 Q pc lv (.long x :: .int i :: .ref a :: st) h := by
  intro ls H locs cl sl h1 h2 h3 h4 h5
  obtain ⟨cA, w1, w2, w3⟩ := am_at_arr (h2.2.1 a _ e1) (by decide) (by decide)
  obtain ⟨rfl, g2, g3⟩ := am_ix_spec ei
  refine W.last C.1 C.2.1 w3 (w1 _ _) (fun q => by cases q) (by rw [am_arr_size]; exact g3) rfl rfl hd fun H' x1 x2 x3 => ?_
  obtain ⟨y1, y2, y3, y4⟩ := am_store_arr (v := .long x) (k0 := i.toNatClampNeg) ⟨by decide, by decide⟩ e1 g2 h2 h3 w1 w2 x1 x2 x3
  exact k ls H' _ cl sl h1 y1 y2 (h4.trans y3.symm) (h5.trans y4.symm)
theorem am_r_zast (C : am_C p R m c cc nL own s args D meth yn ad) {a j : Nat} {i x : Int32} {fs : List Value} (hx : x = 0 ∨ x = 1) (e1 : h[a]? = some (102, fs)) (ei : am_ix i fs.length = some j) (hd : decode cc pc = .ok (.bastore, 1)) (k : am_W sc p l e R s m args below meth c D b ad nL n0 z0 Q (pc + 1) lv st (h.set a (102, fs.set j (.int x)))) : am_W sc p l e R s m args below meth c D b ad nL n0 z0 Q pc lv (.int x :: .int i :: .ref a :: st) h := by
  intro ls H locs cl sl h1 h2 h3 h4 h5
  obtain ⟨cA, w1, w2, w3⟩ := am_at_arr (h2.2.1 a _ e1) (by decide) (by decide)
  obtain ⟨rfl, g2, g3⟩ := am_ix_spec ei
  have hn : narrow .boolean (.int x) = am_mv b ad (.int x) := by rcases hx with rfl | rfl <;> rfl
  refine W.zast C.1 C.2.1 w3 (w1 _ _) (fun q => by cases q) (by rw [am_arr_size]; exact g3) rfl rfl hd fun H' x1 x2 x3 => ?_
  rw [hn] at x1
  obtain ⟨y1, y2, y3, y4⟩ := am_store_arr (v := .int x) (k0 := i.toNatClampNeg) ⟨by decide, by decide⟩ e1 g2 h2 h3 w1 w2 x1 x2 x3
  exact k ls H' _ cl sl h1 y1 y2 (h4.trans y3.symm) (h5.trans y4.symm)
theorem am_r_aastN (C : am_C p R m c cc nL own s args D meth yn ad) {a j ki : Nat} {i : Int32} {fs : List Value} (hki : 104 ≤ ki ∧ ki ≠ 199) (e1 : h[a]? = some (ki, fs)) (ei : am_ix i fs.length = some j) (hd : decode cc pc = .ok (.aastore, 1)) (k : am_W sc p l e R s m args below meth c D b ad nL n0 z0 Q (pc + 1) lv st (h.set a (ki, fs.set j .null))) : am_W sc p l e R s m args below meth c D b ad nL n0 z0 Q pc lv (.null :: .int i :: .ref a :: st) h := by
  intro ls H locs cl sl h1 h2 h3 h4 h5
  obtain ⟨cA, w1, w2, w3⟩ := am_at_arr (h2.2.1 a _ e1) (by omega) hki.2
  obtain ⟨rfl, g2, g3⟩ := am_ix_spec ei
  have hty : ∃ Cx, am_kty ki = .object Cx := by
    unfold am_kty
    rw [if_neg (by omega), if_neg (by omega), if_neg (by omega), if_neg (by omega)]
    split
    · exact ⟨_, rfl⟩
    · exact ⟨_, rfl⟩
  obtain ⟨Cx, hCx⟩ := hty
  refine va_WaastN (C := Cx) C.1 C.2.1 w3 (by rw [← hCx]; exact w1 _ _) (fun q => by cases q) (by rw [am_arr_size]; exact g3) rfl rfl hd fun H' x1 x2 x3 => ?_
  obtain ⟨y1, y2, y3, y4⟩ := am_store_arr (v := .null) (k0 := i.toNatClampNeg) ⟨by omega, hki.2⟩ e1 g2 h2 h3 w1 w2 x1 x2 x3
  exact k ls H' _ cl sl h1 y1 y2 (h4.trans y3.symm) (h5.trans y4.symm)
theorem am_r_aast (C : am_C p R m c cc nL own s args D meth yn ad) {a j ci v : Nat} {i : Int32} {fs vs : List Value} {C0 : String} {T : u_T} {N : Nat} (hci : ci < 100) (hcl : vwCl[ci]? = some (C0, T, N)) (e1 : h[a]? = some (200 + ci, fs)) (e3 : h[v]? = some (ci, vs)) (ei : am_ix i fs.length = some j) (hd : decode cc pc = .ok (.aastore, 1)) (k : am_W sc p l e R s m args below meth c D b ad nL n0 z0 Q (pc + 1) lv st (h.set a (200 + ci, fs.set j (.ref v)))) : am_W sc p l e R s m args below meth c D b ad nL n0 z0 Q pc lv (.ref v :: .int i :: .ref a :: st) h := by
  intro ls H locs cl sl h1 h2 h3 h4 h5
  obtain ⟨cA, w1, w2, w3⟩ := am_at_arr (h2.2.1 a _ e1) (by omega) (by omega)
  obtain ⟨rfl, g2, g3⟩ := am_ix_spec ei
  have hty : am_kty (200 + ci) = .object C0 := by
    unfold am_kty
    rw [if_neg (by omega), if_neg (by omega), if_neg (by omega), if_neg (by omega), if_neg (by omega)]
    unfold am_clN
    rw [show 200 + ci - 200 = ci by omega, hcl]
  obtain ⟨r', hr', cellV, f1, f2, f3, -⟩ := am_at_obj (h2.2.1 v _ e3) hci
  have hr0 : r' = (C0, T, N) := Option.some.inj (hr'.symm.trans hcl)
  subst hr0
  have hcls := (C.2.2.2.2.2.1.1 ci _ hcl).2
  have w2' := w2
  rw [hty] at w2'
  obtain ⟨kA, comp, k1, k2, k3, -⟩ := w2'
  have hcomp : comp = D.1 ci := Option.some.inj (k3.symm.trans hcls.1)
  subst hcomp
  obtain ⟨kC, hkC, -⟩ := hcls.2
  refine W.aast C.1 C.2.1 w3 (fun q h => by cases h) (fun h => by cases h) k1 k2 rfl hkC ⟨fun q => g3 (Or.inl q), by rw [am_arr_size]; exact g2⟩ f1 (fun q h => by rw [f3] at h; cases h) (by rw [f2]; exact hkC) (by rw [f2]; exact va_assign hcls) rfl rfl hd fun H' x1 x2 x3 => ?_
  obtain ⟨y1, y2, y3, y4⟩ := am_store_arr (v := .ref v) (k0 := i.toNatClampNeg) ⟨by omega, by omega⟩ e1 g2 h2 h3 w1 w2 x1 x2 x3
  exact k ls H' _ cl sl h1 y1 y2 (h4.trans y3.symm) (h5.trans y4.symm)
/-! things made -/
theorem am_S_push {H0 H H1 : Heap} {locs : List Loc} (h3 : va_S (fun q => b ≤ q) H0 H locs) (z : H1.size = H.size + 1) (oq : ∀ q : Nat, q < H.size → H1[q]? = H[q]?) : va_S (fun q => b ≤ q) H0 H1 locs :=
  ⟨Nat.le_trans h3.1 (by omega), fun x y1 y2 => (oq x (Nat.lt_of_lt_of_le y1 h3.1)).trans (h3.2.1 x y1 y2), h3.2.2⟩
def am_rm (R : Room) (n0 z0 : Nat) (h : am_H) : Prop := h.length ≤ n0 + R.cells ∧ am_sz h ≤ z0 + R.slots
theorem am_r_new (C : am_C p R m c cc nL own s args D meth yn ad) {ci idx : Nat} {C0 : String} {T : u_T} {N : Nat} {ty0 : Nat → FieldType} {fs : List Value} (K : am_cls ci C0 T N ty0)
    (w1 : Jvm.Cond.classLink own idx C0 ∈ am_T) (w2 : Jvm.Cond.instantiable C0 N ∈ am_T) (w3 : Jvm.Cond.initialized C0 ∈ am_T) (hl : fs.length = N) (hfs : ∀ j, j < N → fs[j]? = some (defaultValue (ty0 j)))
    (hr : am_rm R n0 z0 (h ++ [(ci, fs)])) (hd : decode cc pc = .ok (.new idx, 3)) (k : am_W sc p l e R s m args below meth c D b ad nL n0 z0 Q (pc + 3) lv (.ref h.length :: st) (h ++ [(ci, fs)])) : am_W sc p l e R s m args below meth c D b ad nL n0 z0 Q pc lv st h := by
  intro ls H locs cl sl h1 h2 h3 h4 h5
  obtain ⟨K1, K2, K3, K4, K5⟩ := K
  have hts := C.2.2.2.2.1
  have hKn := C.2.2.2.2.2.1.1 ci _ K2
  obtain ⟨r1, r2⟩ := hr
  rw [List.length_append] at r1
  rw [am_sz_push] at r2
  have hl1 : ([(ci, fs)] : am_H).length = 1 := rfl
  have hl2 : ((ci, fs) : am_O).2.length = N := hl
  refine W.newcK C.1 C.2.1 C.2.2.2.1 (hts _ w1) (hts _ w2) (hts _ w3) rfl hd (by omega) (by omega) hKn.2.1 rfl fun H1 kC hkC e1 z1 o1 => ?_
  have hat : am_at s D b ad (ci, fs) H.size H1 := by
    refine Or.inl ⟨K1, (C0, T, N), K2, (u_born ty0 hts K3 hKn hkC e1 K4).to fun j hj => ?_⟩
    show defaultValue (ty0 j) = (fs.map (am_mv b ad)).getD j .null
    rw [List.getD_eq_getElem?_getD, List.getElem?_map, hfs j hj]
    cases ty0 j <;> rfl
  have hq : H.size = b + h.length := h2.1
  have hst : (.ref H.size :: st.map (am_mv b ad) : List Value) = (Value.ref h.length :: st).map (am_mv b ad) := by rw [hq]; rfl
  show W _ _ _ _ _ _ _ _ _ _ _ _ _ _ _ (F0 m (pc + 3) ls (.ref H.size :: st.map (am_mv b ad)))
  rw [hst]
  exact k ls H1 locs (cl + 1) (sl + N) h1 (h2.push z1 o1 hat) (am_S_push h3 z1 o1) (by rw [List.length_append]; omega) (by rw [am_sz_push]; omega)
theorem am_getD_rep (n : Nat) (v : Value) (b : Nat) (ad : Nat → Nat) (hv : am_mv b ad v = v) {cA : ClassId} : arrV cA n (fun _ => v) = arrV cA (List.replicate n v).length (fun j => am_mv b ad ((List.replicate n v).getD j .null)) := by
  rw [List.length_replicate]
  unfold arrV
  congr 1
  apply Array.ext
  · simp
  · intro i g1 g2
    have hi : i < n := by simpa using g1
    simp [List.getD_eq_getElem?_getD, List.getElem?_replicate, hi, hv]
theorem am_r_newa (C : am_C p R m c cc nL own s args D meth yn ad) {at0 : ArrayType} {ki : Nat} {i : Int32} {v : Value} (hki : 100 ≤ ki ∧ ki ≠ 199) (hty : am_kty ki = newarray.typeOf at0) (hdv : defaultValue (newarray.typeOf at0) = v) (hmv : am_mv b ad v = v) (hnr : ∀ t, newarray.typeOf at0 ≠ .array t)
    (hra : ∀ cA, va_RA s cA (newarray.typeOf at0) ↔ s.vm.findClass ("[" ++ (newarray.typeOf at0).toString) = some cA) (hcb : componentBytes (newarray.typeOf at0) ≤ 8)
    (w1 : Jvm.Cond.arrayClass (newarray.typeOf at0) ∈ am_T) (hi : ¬ i < 0) (hb : i.toNatClampNeg ≤ 1000000)
    (hr : am_rm R n0 z0 (h ++ [(ki, List.replicate i.toNatClampNeg v)])) (hd : decode cc pc = .ok (.newarray at0, 2)) (k : am_W sc p l e R s m args below meth c D b ad nL n0 z0 Q (pc + 2) lv (.ref h.length :: st) (h ++ [(ki, List.replicate i.toNatClampNeg v)])) : am_W sc p l e R s m args below meth c D b ad nL n0 z0 Q pc lv (.int i :: st) h := by
  intro ls H locs cl sl h1 h2 h3 h4 h5
  have hts := C.2.2.2.2.1
  obtain ⟨r1, r2⟩ := hr
  rw [List.length_append] at r1
  rw [am_sz_push] at r2
  have hl1 : ([(ki, List.replicate i.toNatClampNeg v)] : am_H).length = 1 := rfl
  have hl2 : ((ki, List.replicate i.toNatClampNeg v) : am_O).2.length = i.toNatClampNeg := List.length_replicate
  have hbytes : i.toNatClampNeg * componentBytes (newarray.typeOf at0) ≤ 536870912 := Nat.le_trans (Nat.mul_le_mul hb hcb) (by decide)
  refine va_newaK C.1 C.2.1 (hts _ w1) rfl hd rfl hi rfl hbytes (by omega) (by omega) rfl fun H1 cA e1 z1 o1 hAr hNm => ?_
  have hat : am_at s D b ad (ki, List.replicate i.toNatClampNeg v) H.size H1 := by
    refine Or.inr (Or.inl ⟨hki.1, hki.2, cA, by rw [hty]; exact hAr, ?_, ?_⟩)
    · show am_RA s cA (am_kty ki)
      rw [hty]
      have h9 := (hra cA).mpr hNm
      revert h9 hnr
      generalize newarray.typeOf at0 = ty9
      intro hnr h9
      cases ty9 with
      | array t => exact absurd rfl (hnr t)
      | _ => exact h9
    · rw [e1, hdv, am_getD_rep _ _ b ad hmv]
  have hq : H.size = b + h.length := h2.1
  have hst : (.ref H.size :: st.map (am_mv b ad) : List Value) = (Value.ref h.length :: st).map (am_mv b ad) := by rw [hq]; rfl
  show W _ _ _ _ _ _ _ _ _ _ _ _ _ _ _ (F0 m (pc + 2) ls (.ref H.size :: st.map (am_mv b ad)))
  rw [hst]
  exact k ls H1 locs (cl + 1) (sl + i.toNatClampNeg) h1 (h2.push z1 o1 hat) (am_S_push h3 z1 o1) (by rw [List.length_append]; omega) (by rw [am_sz_push]; omega)
theorem am_push_arr {H : Heap} (cA : ClassId) (n : Nat) (v : Value) : (H.push { cls := cA, slots := Array.replicate n v, vm := .none })[H.size]? = some (arrV cA n (fun _ => v)) ∧ (H.push { cls := cA, slots := Array.replicate n v, vm := .none }).size = H.size + 1 ∧ ∀ q : Nat, q < H.size → (H.push { cls := cA, slots := Array.replicate n v, vm := .none })[q]? = H[q]? :=
  ⟨by rw [Array.getElem?_push_size, ← arrV_new], Array.size_push _, fun q hq => by rw [Array.getElem?_push, if_neg (Nat.ne_of_lt hq)]⟩
theorem am_r_anew (C : am_C p R m c cc nL own s args D meth yn ad) {ki idx : Nat} {i : Int32} {C0 : String} (hki : 100 ≤ ki ∧ ki ≠ 199) (hty : am_kty ki = .object C0)
    (w1 : Jvm.Cond.classLink own idx C0 ∈ am_T) (w2 : FieldType.object C0 ∈ am_aot) (hi : ¬ i < 0) (hb : i.toNatClampNeg ≤ 1000000)
    (hr : am_rm R n0 z0 (h ++ [(ki, List.replicate i.toNatClampNeg .null)])) (hd : decode cc pc = .ok (.anewarray idx, 3)) (k : am_W sc p l e R s m args below meth c D b ad nL n0 z0 Q (pc + 3) lv (.ref h.length :: st) (h ++ [(ki, List.replicate i.toNatClampNeg .null)])) : am_W sc p l e R s m args below meth c D b ad nL n0 z0 Q pc lv (.int i :: st) h := by
  intro ls H locs cl sl h1 h2 h3 h4 h5
  have hts := C.2.2.2.2.1
  obtain ⟨r1, r2⟩ := hr
  rw [List.length_append] at r1
  rw [am_sz_push] at r2
  have hl1 : ([(ki, List.replicate i.toNatClampNeg Value.null)] : am_H).length = 1 := rfl
  have hl2 : ((ki, List.replicate i.toNatClampNeg Value.null) : am_O).2.length = i.toNatClampNeg := List.length_replicate
  refine W.anew C.1 C.2.1 C.2.2.2.1 (hts _ w1) (am_E_ao C.2.2.2.2.2.2.2.2.2 w2) rfl hd rfl hi (by omega) (by omega) (by omega) fun cA kA comp f1 f2 f3 f4 => ?_
  obtain ⟨e1, z1, o1⟩ := am_push_arr (H := H) cA i.toNatClampNeg .null
  generalize H.push ({ cls := cA, slots := Array.replicate i.toNatClampNeg .null, vm := .none } : Cell) = H1 at e1 z1 o1
  have hat : am_at s D b ad (ki, List.replicate i.toNatClampNeg .null) H.size H1 := by
    refine Or.inr (Or.inl ⟨hki.1, hki.2, cA, ?_, ?_, ?_⟩)
    · rw [hty]
      exact fun N z => ⟨(fun k h => by cases h), kA, f2, comp, f3⟩
    · show am_RA s cA (am_kty ki)
      rw [hty]
      exact ⟨kA, comp, f2, f3, f4, f1⟩
    · rw [e1, am_getD_rep _ _ b ad rfl]
  have hq : H.size = b + h.length := h2.1
  have hst : (.ref H.size :: st.map (am_mv b ad) : List Value) = (Value.ref h.length :: st).map (am_mv b ad) := by rw [hq]; rfl
  show W _ _ _ _ _ _ _ _ _ _ _ _ _ _ _ (F0 m (pc + 3) ls (.ref H.size :: st.map (am_mv b ad)))
  rw [hst]
  exact k ls H1 locs (cl + 1) (sl + i.toNatClampNeg) h1 (h2.push z1 o1 hat) (am_S_push h3 z1 o1) (by rw [List.length_append]; omega) (by rw [am_sz_push]; omega)
theorem am_r_anewA (C : am_C p R m c cc nL own s args D meth yn ad) {idx : Nat} {i : Int32}
    (w1 : Jvm.Cond.classLink own idx "[I" ∈ am_T) (w2 : FieldType.array .int ∈ am_aot) (hi : ¬ i < 0) (hb : i.toNatClampNeg ≤ 1000000)
    (hr : am_rm R n0 z0 (h ++ [(103, List.replicate i.toNatClampNeg .null)])) (hd : decode cc pc = .ok (.anewarray idx, 3)) (k : am_W sc p l e R s m args below meth c D b ad nL n0 z0 Q (pc + 3) lv (.ref h.length :: st) (h ++ [(103, List.replicate i.toNatClampNeg .null)])) : am_W sc p l e R s m args below meth c D b ad nL n0 z0 Q pc lv (.int i :: st) h := by
  intro ls H locs cl sl h1 h2 h3 h4 h5
  have hts := C.2.2.2.2.1
  obtain ⟨r1, r2⟩ := hr
  rw [List.length_append] at r1
  rw [am_sz_push] at r2
  have hl1 : ([(103, List.replicate i.toNatClampNeg Value.null)] : am_H).length = 1 := rfl
  have hl2 : ((103, List.replicate i.toNatClampNeg Value.null) : am_O).2.length = i.toNatClampNeg := List.length_replicate
  refine W.anewA (t := .int) C.1 C.2.1 C.2.2.2.1 (hts _ w1) (am_E_ao C.2.2.2.2.2.2.2.2.2 w2) rfl hd rfl hi (by omega) (by omega) (by omega) fun cA kA comp f1 f2 f3 f4 => ?_
  obtain ⟨e1, z1, o1⟩ := am_push_arr (H := H) cA i.toNatClampNeg .null
  generalize H.push ({ cls := cA, slots := Array.replicate i.toNatClampNeg .null, vm := .none } : Cell) = H1 at e1 z1 o1
  have hat : am_at s D b ad (103, List.replicate i.toNatClampNeg .null) H.size H1 := by
    refine Or.inr (Or.inl ⟨(by decide : 100 ≤ 103), (by decide : 103 ≠ 199), cA, ?_, ?_, ?_⟩)
    · exact fun N z => ⟨(fun k h => by cases h), kA, f2, comp, f3⟩
    · exact ⟨kA, comp, f2, f3, f4⟩
    · rw [e1, am_getD_rep _ _ b ad rfl]
  have hq : H.size = b + h.length := h2.1
  have hst : (.ref H.size :: st.map (am_mv b ad) : List Value) = (Value.ref h.length :: st).map (am_mv b ad) := by rw [hq]; rfl
  show W _ _ _ _ _ _ _ _ _ _ _ _ _ _ _ (F0 m (pc + 3) ls (.ref H.size :: st.map (am_mv b ad)))
  rw [hst]
  exact k ls H1 locs (cl + 1) (sl + i.toNatClampNeg) h1 (h2.push z1 o1 hat) (am_S_push h3 z1 o1) (by rw [List.length_append]; omega) (by rw [am_sz_push]; omega)
theorem am_r_castN (C : am_C p R m c cc nL own s args D meth yn ad) {idx : Nat} (hd : decode cc pc = .ok (.checkcast idx, 3)) (k : am_W sc p l e R s m args below meth c D b ad nL n0 z0 Q (pc + 3) lv (.null :: st) h) : am_W sc p l e R s m args below meth c D b ad nL n0 z0 Q pc lv (.null :: st) h :=
  fun ls H locs cl sl h1 h2 h3 h4 h5 => lv_castN C.1 C.2.1 hd (k ls H locs cl sl h1 h2 h3 h4 h5)
theorem am_recv {ci a : Nat} {fs : List Value} {C0 : String} {T : u_T} {N : Nat} {H : Heap} (hK : va_K D vwCl [] s) (hci : ci < 100) (hcl : vwCl[ci]? = some (C0, T, N)) (h2 : am_R sc s D b ad h H) (e1 : h[a]? = some (ci, fs)) : ∃ cell : Cell, H[b + a]? = some cell ∧ cell.vm.isStatics = false ∧ s.vm.findClass C0 = some cell.cls := by
  obtain ⟨r', hr', cellV, f1, f2, f3, -⟩ := am_at_obj (h2.2.1 a _ e1) hci
  have hr0 : r' = (C0, T, N) := Option.some.inj (hr'.symm.trans hcl)
  subst hr0
  exact ⟨cellV, f1, by rw [f3]; rfl, by rw [f2]; exact (hK.1 ci _ hcl).2.1⟩
theorem am_r_cast (C : am_C p R m c cc nL own s args D meth yn ad) {ci a idx : Nat} {fs : List Value} {C0 : String} {T : u_T} {N : Nat} (hci : ci < 100) (hcl : vwCl[ci]? = some (C0, T, N)) (w1 : Jvm.Cond.classLink own idx C0 ∈ am_T) (e1 : h[a]? = some (ci, fs)) (hd : decode cc pc = .ok (.checkcast idx, 3)) (k : am_W sc p l e R s m args below meth c D b ad nL n0 z0 Q (pc + 3) lv (.ref a :: st) h) : am_W sc p l e R s m args below meth c D b ad nL n0 z0 Q pc lv (.ref a :: st) h :=
  fun ls H locs cl sl h1 h2 h3 h4 h5 => va_castE C.1 C.2.1 C.2.2.2.1 (C.2.2.2.2.1 _ w1) (am_recv C.2.2.2.2.2.1 hci hcl h2 e1) hd (k ls H locs cl sl h1 h2 h3 h4 h5)
def am_cs (st : List Value) : Nat := (st.map fun v => v.category).sum
theorem am_cs_mv (b : Nat) (ad : Nat → Nat) (st : List Value) : ((st.map (am_mv b ad)).map fun v => v.category).sum = am_cs st := by
  unfold am_cs
  rw [List.map_map]
  congr 1
  exact List.map_congr_left fun v _ => am_mv_cat b ad v
theorem am_r_objI (C : am_C p R m c cc nL own s args D meth yn ad) {a idx : Nat} (w1 : Jvm.Cond.methodLink own idx Lib.objectInit ∈ am_T) (w2 : Jvm.Cond.instanceMethod Lib.objectInit ∈ am_T) (w3 : Jvm.Cond.code Lib.objectInit ⟨#[0xb1]⟩ 1 none ∈ am_T) (hc : am_cs st ≤ 8) (hd : decode cc pc = .ok (.invokespecial idx, 3)) (k : am_W sc p l e R s m args below meth c D b ad nL n0 z0 Q (pc + 3) lv st h) : am_W sc p l e R s m args below meth c D b ad nL n0 z0 Q pc lv (.ref a :: st) h := by
  intro ls H locs cl sl h1 h2 h3 h4 h5
  have h8 := C.2.2.2.2.2.2.2.2.1
  exact W.objInit C.1 C.2.1 C.2.2.2.1 (C.2.2.2.2.1 _ w1) (C.2.2.2.2.1 _ w2) (C.2.2.2.2.1 _ w3) rfl (h1.1.trans C.2.2.1.symm) rfl hd C.2.2.2.2.2.2.2.1 (by rw [am_cs_mv]; show 2 * 0 + _ + 12 ≤ _; omega) (k ls H locs cl sl h1 h2 h3 h4 h5)
theorem am_r_mmin (C : am_C p R m c cc nL own s args D meth yn ad) {idx : Nat} {x y : Int32} (w1 : Jvm.Cond.methodLink own idx Lib.Math.min.name ∈ am_T) (w2 : Jvm.Cond.static Lib.Math.min.name ∈ am_T) (w3 : Jvm.Cond.initialized "java/lang/Math" ∈ am_T) (w4 : Jvm.Cond.code Lib.Math.min.name Lib.Math.min.code 2 (some .int) ∈ am_T) (hr : am_rm R n0 z0 h) (hc : am_cs st ≤ 8) (hd : decode cc pc = .ok (.invokestatic idx, 3)) (k : am_W sc p l e R s m args below meth c D b ad nL n0 z0 Q (pc + 3) lv (.int (if y < x then y else x) :: st) h) : am_W sc p l e R s m args below meth c D b ad nL n0 z0 Q pc lv (.int y :: .int x :: st) h := by
  intro ls H locs cl sl h1 h2 h3 h4 h5
  have h8 := C.2.2.2.2.2.2.2.2.1
  obtain ⟨r1, r2⟩ := hr
  exact va_mmin C.1 C.2.1 (C.2.2.1.trans h1.1.symm) C.2.2.2.1 (C.2.2.2.2.1 _ w1) (C.2.2.2.2.1 _ w2) (C.2.2.2.2.1 _ w3) (C.2.2.2.2.1 _ w4) C.2.2.2.2.2.2.2.1 (by rw [am_cs_mv]; omega) (by omega) (by omega) hd (k ls H locs cl sl h1 h2 h3 h4 h5)
theorem am_r_mmax (C : am_C p R m c cc nL own s args D meth yn ad) {idx : Nat} {x y : Int32} (w1 : Jvm.Cond.methodLink own idx Lib.Math.max.name ∈ am_T) (w2 : Jvm.Cond.static Lib.Math.max.name ∈ am_T) (w3 : Jvm.Cond.initialized "java/lang/Math" ∈ am_T) (w4 : Jvm.Cond.code Lib.Math.max.name Lib.Math.max.code 2 (some .int) ∈ am_T) (hr : am_rm R n0 z0 h) (hc : am_cs st ≤ 8) (hd : decode cc pc = .ok (.invokestatic idx, 3)) (k : am_W sc p l e R s m args below meth c D b ad nL n0 z0 Q (pc + 3) lv (.int (if x < y then y else x) :: st) h) : am_W sc p l e R s m args below meth c D b ad nL n0 z0 Q pc lv (.int y :: .int x :: st) h := by
  intro ls H locs cl sl h1 h2 h3 h4 h5
  have h8 := C.2.2.2.2.2.2.2.2.1
  obtain ⟨r1, r2⟩ := hr
  exact va_mmax C.1 C.2.1 (C.2.2.1.trans h1.1.symm) C.2.2.2.1 (C.2.2.2.2.1 _ w1) (C.2.2.2.2.1 _ w2) (C.2.2.2.2.1 _ w3) (C.2.2.2.2.1 _ w4) C.2.2.2.2.2.2.2.1 (by rw [am_cs_mv]; omega) (by omega) (by omega) hd (k ls H locs cl sl h1 h2 h3 h4 h5)
theorem am_r_aastR (C : am_C p R m c cc nL own s args D meth yn ad) {a j ci v : Nat} {i : Int32} {fs vs : List Value} (hci : ci < 100) (e1 : h[a]? = some (200 + ci, fs)) (e3 : h[v]? = some (ci, vs)) (ei : am_ix i fs.length = some j) (hd : decode cc pc = .ok (.aastore, 1)) (k : am_W sc p l e R s m args below meth c D b ad nL n0 z0 Q (pc + 1) lv st (h.set a (200 + ci, fs.set j (.ref v)))) : am_W sc p l e R s m args below meth c D b ad nL n0 z0 Q pc lv (.ref v :: .int i :: .ref a :: st) h := by
  intro ls H locs cl sl h1 h2 h3 h4 h5
  obtain ⟨r', hr', -⟩ := am_at_obj (h2.2.1 v _ e3) hci
  obtain ⟨r1, r2, r3⟩ := r'
  exact am_r_aast C hci hr' e1 e3 ei hd k ls H locs cl sl h1 h2 h3 h4 h5
theorem am_r_dconst0 (C : am_C p R m c cc nL own s args D meth yn ad)  (hd : decode cc pc = .ok (.dconst 0, 1)) (k : am_W sc p l e R s m args below meth c D b ad nL n0 z0 Q (pc + 1) lv (.double FP.dconst0 :: st) h) : am_W sc p l e R s m args below meth c D b ad nL n0 z0 Q pc lv (st) h :=
  fun ls H locs cl sl h1 h2 h3 h4 h5 => lv_dconst0 C.1 C.2.1 hd (k ls H locs cl sl h1 h2 h3 h4 h5)
theorem am_r_fconst0 (C : am_C p R m c cc nL own s args D meth yn ad)  (hd : decode cc pc = .ok (.fconst 0, 1)) (k : am_W sc p l e R s m args below meth c D b ad nL n0 z0 Q (pc + 1) lv (.float FP.fconst0 :: st) h) : am_W sc p l e R s m args below meth c D b ad nL n0 z0 Q pc lv (st) h :=
  fun ls H locs cl sl h1 h2 h3 h4 h5 => lv_fconst0 C.1 C.2.1 hd (k ls H locs cl sl h1 h2 h3 h4 h5)
theorem am_r_i2d (C : am_C p R m c cc nL own s args D meth yn ad) {x : Int32} (hd : decode cc pc = .ok (.i2d, 1)) (k : am_W sc p l e R s m args below meth c D b ad nL n0 z0 Q (pc + 1) lv (.double (FP.i2d x) :: st) h) : am_W sc p l e R s m args below meth c D b ad nL n0 z0 Q pc lv (.int x :: st) h :=
  fun ls H locs cl sl h1 h2 h3 h4 h5 => lv_i2d C.1 C.2.1 hd (k ls H locs cl sl h1 h2 h3 h4 h5)
theorem am_r_l2d (C : am_C p R m c cc nL own s args D meth yn ad) {x : Int64} (hd : decode cc pc = .ok (.l2d, 1)) (k : am_W sc p l e R s m args below meth c D b ad nL n0 z0 Q (pc + 1) lv (.double (FP.l2d x) :: st) h) : am_W sc p l e R s m args below meth c D b ad nL n0 z0 Q pc lv (.long x :: st) h :=
  fun ls H locs cl sl h1 h2 h3 h4 h5 => lv_l2d C.1 C.2.1 hd (k ls H locs cl sl h1 h2 h3 h4 h5)
theorem am_r_i2f (C : am_C p R m c cc nL own s args D meth yn ad) {x : Int32} (hd : decode cc pc = .ok (.i2f, 1)) (k : am_W sc p l e R s m args below meth c D b ad nL n0 z0 Q (pc + 1) lv (.float (FP.i2f x) :: st) h) : am_W sc p l e R s m args below meth c D b ad nL n0 z0 Q pc lv (.int x :: st) h :=
  fun ls H locs cl sl h1 h2 h3 h4 h5 => lv_i2f C.1 C.2.1 hd (k ls H locs cl sl h1 h2 h3 h4 h5)
theorem am_r_f2d (C : am_C p R m c cc nL own s args D meth yn ad) {x : UInt32} (hn : vf_n64 (FP.f2d x)) (hd : decode cc pc = .ok (.f2d, 1)) (k : am_W sc p l e R s m args below meth c D b ad nL n0 z0 Q (pc + 1) lv (.double (FP.f2d x) :: st) h) : am_W sc p l e R s m args below meth c D b ad nL n0 z0 Q pc lv (.float x :: st) h :=
  fun ls H locs cl sl h1 h2 h3 h4 h5 => lv_f2d C.1 C.2.1 hd hn (k ls H locs cl sl h1 h2 h3 h4 h5)
theorem am_r_ddiv (C : am_C p R m c cc nL own s args D meth yn ad) {x y : UInt64} (hn : vf_n64 (FP.ddiv x y)) (hd : decode cc pc = .ok (.ddiv, 1)) (k : am_W sc p l e R s m args below meth c D b ad nL n0 z0 Q (pc + 1) lv (.double (FP.ddiv x y) :: st) h) : am_W sc p l e R s m args below meth c D b ad nL n0 z0 Q pc lv (.double y :: .double x :: st) h :=
  fun ls H locs cl sl h1 h2 h3 h4 h5 => lv_ddiv C.1 C.2.1 hd hn (k ls H locs cl sl h1 h2 h3 h4 h5)
theorem am_r_fdiv (C : am_C p R m c cc nL own s args D meth yn ad) {x y : UInt32} (hn : vf_n32 (FP.fdiv x y)) (hd : decode cc pc = .ok (.fdiv, 1)) (k : am_W sc p l e R s m args below meth c D b ad nL n0 z0 Q (pc + 1) lv (.float (FP.fdiv x y) :: st) h) : am_W sc p l e R s m args below meth c D b ad nL n0 z0 Q pc lv (.float y :: .float x :: st) h :=
  fun ls H locs cl sl h1 h2 h3 h4 h5 => lv_fdiv C.1 C.2.1 hd hn (k ls H locs cl sl h1 h2 h3 h4 h5)
theorem am_r_dcmp (C : am_C p R m c cc nL own s args D meth yn ad) {x y : UInt64} {op : CmpOp} (hd : decode cc pc = .ok (.dcmp op, 1)) (k : am_W sc p l e R s m args below meth c D b ad nL n0 z0 Q (pc + 1) lv (.int (Op.cmpValue (FP.dcmp x y) op) :: st) h) : am_W sc p l e R s m args below meth c D b ad nL n0 z0 Q pc lv (.double y :: .double x :: st) h :=
  fun ls H locs cl sl h1 h2 h3 h4 h5 => lv_dcmp C.1 C.2.1 hd (k ls H locs cl sl h1 h2 h3 h4 h5)
theorem am_r_dload (C : am_C p R m c cc nL own s args D meth yn ad) {i : Nat} {x : UInt64} (hl : am_ld lv i = some (.double x)) (hd : decode cc pc = .ok (.dload i, 2)) (k : am_W sc p l e R s m args below meth c D b ad nL n0 z0 Q (pc + 2) lv (.double x :: st) h) : am_W sc p l e R s m args below meth c D b ad nL n0 z0 Q pc lv (st) h :=
  fun ls H locs cl sl h1 h2 h3 h4 h5 => lv_dload C.1 C.2.1 hd (am_ld_has h1 hl) (k ls H locs cl sl h1 h2 h3 h4 h5)
theorem am_r_dload_n (C : am_C p R m c cc nL own s args D meth yn ad) {i : Fin 4} {x : UInt64} (hl : am_ld lv i = some (.double x)) (hd : decode cc pc = .ok (.dload_n i, 1)) (k : am_W sc p l e R s m args below meth c D b ad nL n0 z0 Q (pc + 1) lv (.double x :: st) h) : am_W sc p l e R s m args below meth c D b ad nL n0 z0 Q pc lv (st) h :=
  fun ls H locs cl sl h1 h2 h3 h4 h5 => lv_dload_n C.1 C.2.1 hd rfl (am_ld_has h1 hl) (k ls H locs cl sl h1 h2 h3 h4 h5)
theorem am_r_dstore (C : am_C p R m c cc nL own s args D meth yn ad) {i : Nat} {x : UInt64} (hn : (i : Nat) + 1 < nL) (hd : decode cc pc = .ok (.dstore i, 2)) (k : am_W sc p l e R s m args below meth c D b ad nL n0 z0 Q (pc + 2) (am_s2 lv i (.double x)) st h) : am_W sc p l e R s m args below meth c D b ad nL n0 z0 Q pc lv (.double x :: st) h :=
  fun ls H locs cl sl h1 h2 h3 h4 h5 => lv_dstore C.1 C.2.1 hd h1 hn (am_L_s2 b ad lv i (.double x)) (fun ls' h' => k ls' H locs cl sl h' h2 h3 h4 h5)
theorem am_r_dstore_n (C : am_C p R m c cc nL own s args D meth yn ad) {i : Fin 4} {x : UInt64} (hn : (i : Nat) + 1 < nL) (hd : decode cc pc = .ok (.dstore_n i, 1)) (k : am_W sc p l e R s m args below meth c D b ad nL n0 z0 Q (pc + 1) (am_s2 lv i (.double x)) st h) : am_W sc p l e R s m args below meth c D b ad nL n0 z0 Q pc lv (.double x :: st) h :=
  fun ls H locs cl sl h1 h2 h3 h4 h5 => lv_dstore_n C.1 C.2.1 hd rfl h1 hn (am_L_s2 b ad lv i (.double x)) (fun ls' h' => k ls' H locs cl sl h' h2 h3 h4 h5)
theorem am_r_sclen (C : am_C p R m c cc nL own s args D meth yn ad) (hd : decode cc pc = .ok (.arraylength, 1)) (k : am_W sc p l e R s m args below meth c D b ad nL n0 z0 Q (pc + 1) lv (.int (Int32.ofNat sc.length) :: st) h) : am_W sc p l e R s m args below meth c D b ad nL n0 z0 Q pc lv (.retAddr 2000 :: st) h := by
  intro ls H locs cl sl h1 h2 h3 h4 h5
  obtain ⟨-, -, -, -, -, ⟨cell, w1, w2, w3, w4, w5, w6, -⟩, -⟩ := h2.2.2
  exact W.alen (n := Int32.ofNat sc.length) C.1 C.2.1 w1 w2 w5 rfl rfl hd (k ls H locs cl sl h1 h2 h3 h4 h5)
theorem am_r_scld (C : am_C p R m c cc nL own s args D meth yn ad) {j : Nat} {i : Int32} (ei : am_ix i sc.length = some j) (hd : decode cc pc = .ok (.iaload, 1)) (k : am_W sc p l e R s m args below meth c D b ad nL n0 z0 Q (pc + 1) lv (.int (sc.getD j 0) :: st) h) : am_W sc p l e R s m args below meth c D b ad nL n0 z0 Q pc lv (.int i :: .retAddr 2000 :: st) h := by
  intro ls H locs cl sl h1 h2 h3 h4 h5
  obtain ⟨-, -, -, -, -, ⟨cell, w1, w2, w3, w4, w5, w6, -⟩, -⟩ := h2.2.2
  obtain ⟨rfl, g2, g3⟩ := am_ix_spec ei
  exact W.iald (v := .int (sc.getD i.toNatClampNeg 0)) C.1 C.2.1 w1 w2 w3 (by rintro (q | q); exact g3 (Or.inl q); omega) (w6 _ g2) rfl rfl hd (k ls H locs cl sl h1 h2 h3 h4 h5)
/-- a static of the JDK's -/
theorem am_r_gets (C : am_C p R m c cc nL own s args D meth yn ad) {C0 n d : String} {idx : Nat} {v : Value} (hZ : ∀ H : Heap, am_R sc s D b ad h H → va_Z C0 n d (am_mv b ad v) (fun q => b ≤ q) s H) (hw : Jvm.Cond.fieldLink own idx C0 n d ∈ am_T) (hd : decode cc pc = .ok (.getstatic idx, 3)) (k : am_W sc p l e R s m args below meth c D b ad nL n0 z0 Q (pc + 3) lv (v :: st) h) : am_W sc p l e R s m args below meth c D b ad nL n0 z0 Q pc lv st h := by
  intro ls H locs cl sl h1 h2 h3 h4 h5
  obtain ⟨cf, kf, fi, f, a, cell, g1, g2, g3, g4, g5, g6, g7, g8⟩ := hZ H h2
  exact W.gets C.1 C.2.1 C.2.2.2.1 (C.2.2.2.2.1 _ hw) g1 g2 g3 g4 g5 (fun e => by rw [e] at g6; cases g6) g7 rfl hd (k ls H locs cl sl h1 h2 h3 h4 h5)
/-- a field of a String constant -/
theorem am_r_getX (C : am_C p R m c cc nL own s args D meth yn ad) {n d : String} {idx i : Nat} {v : Value} (hZ : ∀ H : Heap, am_R sc s D b ad h H → va_OF "java/lang/String" n d (am_mv b ad v) (ad i) (fun q => b ≤ q) s H) (hw : Jvm.Cond.fieldLink own idx "java/lang/String" n d ∈ am_T) (hd : decode cc pc = .ok (.getfield idx, 3)) (k : am_W sc p l e R s m args below meth c D b ad nL n0 z0 Q (pc + 3) lv (v :: st) h) : am_W sc p l e R s m args below meth c D b ad nL n0 z0 Q pc lv (.retAddr i :: st) h := by
  intro ls H locs cl sl h1 h2 h3 h4 h5
  obtain ⟨cf, kk, fi, f, cell, g1, g2, g3, g4, g5, g6⟩ := hZ H h2
  exact W.getf C.1 C.2.1 C.2.2.2.1 (C.2.2.2.2.1 _ hw) g1 g2 g3 g4 (v := am_mv b ad v) g5 rfl rfl hd (k ls H locs cl sl h1 h2 h3 h4 h5)
theorem am_r_xlen (C : am_C p R m c cc nL own s args D meth yn ad) {ty : FieldType} {i n : Nat} {f : Nat → Value} (hZ : ∀ H : Heap, am_R sc s D b ad h H → va_T ty (ad i) n f (fun q => b ≤ q) s H) (hd : decode cc pc = .ok (.arraylength, 1)) (k : am_W sc p l e R s m args below meth c D b ad nL n0 z0 Q (pc + 1) lv (.int (Int32.ofNat n) :: st) h) : am_W sc p l e R s m args below meth c D b ad nL n0 z0 Q pc lv (.retAddr i :: st) h := by
  intro ls H locs cl sl h1 h2 h3 h4 h5
  obtain ⟨cell, w1, w2, w3, w4, w5, w6, -⟩ := hZ H h2
  exact W.alen (n := Int32.ofNat n) C.1 C.2.1 w1 w2 w5 rfl rfl hd (k ls H locs cl sl h1 h2 h3 h4 h5)
theorem am_r_xbld (C : am_C p R m c cc nL own s args D meth yn ad) {t n j : Nat} {i x : Int32} {f : Nat → Value} (hZ : ∀ H : Heap, am_R sc s D b ad h H → va_T .byte (ad t) n f (fun q => b ≤ q) s H) (ei : am_ix i n = some j) (hx : f j = .int x) (hd : decode cc pc = .ok (.baload, 1)) (k : am_W sc p l e R s m args below meth c D b ad nL n0 z0 Q (pc + 1) lv (.int x :: st) h) : am_W sc p l e R s m args below meth c D b ad nL n0 z0 Q pc lv (.int i :: .retAddr t :: st) h := by
  intro ls H locs cl sl h1 h2 h3 h4 h5
  obtain ⟨cell, w1, w2, w3, w4, w5, w6, -⟩ := hZ H h2
  obtain ⟨rfl, g2, g3⟩ := am_ix_spec ei
  exact W.bald (v := .int x) C.1 C.2.1 w1 w2 w3 (by rintro (q | q); exact g3 (Or.inl q); omega) ((w6 _ g2).trans (by rw [hx])) rfl rfl hd (k ls H locs cl sl h1 h2 h3 h4 h5)
theorem am_r_i2c (C : am_C p R m c cc nL own s args D meth yn ad) {x : Int32} (hd : decode cc pc = .ok (.i2c, 1)) (k : am_W sc p l e R s m args below meth c D b ad nL n0 z0 Q (pc + 1) lv (.int (x.toUInt32 % 65536).toInt32 :: st) h) : am_W sc p l e R s m args below meth c D b ad nL n0 z0 Q pc lv (.int x :: st) h :=
  fun ls H locs cl sl h1 h2 h3 h4 h5 => lv_i2c C.1 C.2.1 hd rfl (k ls H locs cl sl h1 h2 h3 h4 h5)
/-- a thing goes into a row of Objects -/
theorem am_r_aastO (C : am_C p R m c cc nL own s args D meth yn ad) {a j ci v : Nat} {i : Int32} {fs vs : List Value} (hci : ci < 100) (hcs : (am_clN ci, "java/lang/Object") ∈ am_cst) (e1 : h[a]? = some (104, fs)) (e3 : h[v]? = some (ci, vs)) (ei : am_ix i fs.length = some j) (hd : decode cc pc = .ok (.aastore, 1)) (k : am_W sc p l e R s m args below meth c D b ad nL n0 z0 Q (pc + 1) lv st (h.set a (104, fs.set j (.ref v)))) : am_W sc p l e R s m args below meth c D b ad nL n0 z0 Q pc lv (.ref v :: .int i :: .ref a :: st) h := by
  intro ls H locs cl sl h1 h2 h3 h4 h5
  obtain ⟨cA, w1, w2, w3⟩ := am_at_arr (h2.2.1 a _ e1) (by omega) (by omega)
  obtain ⟨rfl, g2, g3⟩ := am_ix_spec ei
  obtain ⟨r', hr', cellV, f1, f2, f3, -⟩ := am_at_obj (h2.2.1 v _ e3) hci
  have hcn : am_clN ci = r'.1 := by unfold am_clN; rw [hr']
  have hcls := (C.2.2.2.2.2.1.1 ci _ hr').2
  have w2' : ∃ (kA : Class) (comp : ClassId), s.vm.classes[cA]? = some kA ∧ kA.kind = .array comp (.object "java/lang/Object") ∧ s.vm.findClass "java/lang/Object" = some comp := by
    obtain ⟨kA, comp, k1, k2, k3, -⟩ := (show va_RA s cA (.object "java/lang/Object") from w2)
    exact ⟨kA, comp, k1, k2, k3⟩
  obtain ⟨kA, comp, k1, k2, k3⟩ := w2'
  obtain ⟨kC, hkC, -⟩ := hcls.2
  have hca := va_Nw.use (A := args) rfl (C.2.2.2.2.2.2.2.2.2.2.2.2.2.1 _ hcs)
  obtain ⟨c3, c4, hc3, hc4, hasg⟩ := Cond.castable_spec hca
  rw [hcn] at hc3
  cases Option.some.inj (hc3.symm.trans hcls.1)
  cases Option.some.inj (hc4.symm.trans k3)
  obtain ⟨kO, hkO, -⟩ := Vm.findClass_spec k3
  refine W.aast C.1 C.2.1 w3 (fun q h => by cases h) (fun h => by cases h) k1 k2 rfl hkO ⟨fun q => g3 (Or.inl q), by rw [am_arr_size]; exact g2⟩ f1 (fun q h => by rw [f3] at h; cases h) (by rw [f2]; exact hkC) (by rw [f2]; exact hasg) rfl rfl hd fun H' x1 x2 x3 => ?_
  obtain ⟨y1, y2, y3, y4⟩ := am_store_arr (v := .ref v) (k0 := i.toNatClampNeg) ⟨by omega, by omega⟩ e1 g2 h2 h3 w1 w2 x1 x2 x3
  exact k ls H' _ cl sl h1 y1 y2 (h4.trans y3.symm) (h5.trans y4.symm)
end AMR
end
section
variable {sc : List Int32}
/-! ONE STEP of the abstract machine, and which instruction of the machine it stands for. Constants are all .iconst (ints) and .jsr_w (longs); a String constant .ldc; locals .iload, .lload, .aload, .istore, .lstore, .astore; a field 128 * class + place; Object's constructor .invokedynamic 0; Math.min .jsr 0, Math.max .jsr 1 -/
def am_pi (f : Int32 → Int32 → Int32) : List Value → Option (List Value)
  | .int y :: .int x :: r => some (.int (f x y) :: r)
  | _ => none
theorem am_pi_spec {f : Int32 → Int32 → Int32} {st st' : List Value} (h : am_pi f st = some st') : ∃ x y r, st = .int y :: .int x :: r ∧ st' = .int (f x y) :: r := by
  unfold am_pi at h
  split at h
  · cases h
    exact ⟨_, _, _, rfl, rfl⟩
  · cases h
def am_pj (f : Int64 → Int64 → Value) : List Value → Option (List Value)
  | .long y :: .long x :: r => some (f x y :: r)
  | _ => none
theorem am_pj_spec {f : Int64 → Int64 → Value} {st st' : List Value} (h : am_pj f st = some st') : ∃ x y r, st = .long y :: .long x :: r ∧ st' = f x y :: r := by
  unfold am_pj at h
  split at h
  · cases h
    exact ⟨_, _, _, rfl, rfl⟩
  · cases h
def am_ps (f : Int64 → Int32 → Int64) : List Value → Option (List Value)
  | .int y :: .long x :: r => some (.long (f x y) :: r)
  | _ => none
theorem am_ps_spec {f : Int64 → Int32 → Int64} {st st' : List Value} (h : am_ps f st = some st') : ∃ x y r, st = .int y :: .long x :: r ∧ st' = .long (f x y) :: r := by
  unfold am_ps at h
  split at h
  · cases h
    exact ⟨_, _, _, rfl, rfl⟩
  · cases h
def am_isR : Value → Bool
  | .ref _ => true
  | .null => true
  | .retAddr _ => true
  | _ => false
theorem am_isR_spec {v : Value} (h : am_isR v = true) : v = .null ∨ (∃ x, v = .ref x) ∨ ∃ x, v = .retAddr x := by
  cases v <;> first | exact Or.inl rfl | exact Or.inr (Or.inl ⟨_, rfl⟩) | exact Or.inr (Or.inr ⟨_, rfl⟩) | (simp [am_isR] at h; done)
abbrev am_S : Type := am_V × List Value × am_H
def am_st (lv : am_V) (h : am_H) : Option (List Value) → Option am_S
  | some st => some (lv, st, h)
  | none => none
theorem am_st_spec {lv lv' : am_V} {h h' : am_H} {o : Option (List Value)} {st' : List Value} (e : am_st lv h o = some (lv', st', h')) : o = some st' ∧ lv' = lv ∧ h' = h := by
  cases o with
  | none => simp [am_st] at e
  | some x => simp [am_st] at e; exact ⟨by rw [e.2.1], e.1.symm, e.2.2.symm⟩
def am_get (f : Nat) (h : am_H) : List Value → Option (List Value)
  | .retAddr i :: r => if f < 2 ∧ i < am_txt.length then some ((if f = 0 then .retAddr (3000 + i) else .int 0) :: r) else none
  | .ref a :: r => match h[a]? with
    | some o => if 3 ≤ f / 128 ∧ o.1 = f / 128 then match o.2[f % 128]? with
      | some v => some (v :: r)
      | none => none
      else none
    | none => none
  | _ => none
def am_put (f : Nat) (h : am_H) : List Value → Option (List Value × am_H)
  | v :: .ref a :: r => match h[a]? with
    | some o => if o.1 = f / 128 ∧ f % 128 < o.2.length ∧ am_ok (am_fty (f / 128) (f % 128)) v = true then some (r, h.set a (o.1, o.2.set (f % 128) v)) else none
    | none => none
  | _ => none
def am_gld (k : Nat → Bool) (h : am_H) : List Value → Option (List Value)
  | .int i :: .ref a :: r => match h[a]? with
    | some o => if k o.1 = true then match am_ix i o.2.length with
      | some j => match o.2[j]? with
        | some v => some (v :: r)
        | none => none
      | none => none
      else none
    | none => none
  | _ => none
/-- the law's script, which lay there before -/
def am_scr (sc : List Int32) : List Value → Option (List Value)
  | .int i :: .retAddr 2000 :: r => match am_ix i sc.length with
    | some j => some (.int (sc.getD j 0) :: r)
    | none => none
  | _ => none
def am_alen (sc : List Int32) (h : am_H) : List Value → Option (List Value)
  | .retAddr i :: r => if i = 2000 then some (.int (Int32.ofNat sc.length) :: r) else if i = 1000 then some (.int 0 :: r) else if 3000 ≤ i ∧ i < 3000 + am_txt.length then some (.int (Int32.ofNat (am_txt.getD (i - 3000) []).length) :: r) else none
  | .ref a :: r => match h[a]? with
    | some o => if 100 ≤ o.1 ∧ o.1 ≠ 199 then some (.int (Int32.ofNat o.2.length) :: r) else none
    | none => none
  | _ => none
/-- a byte of a String constant -/
def am_xb : List Value → Option (List Value)
  | .int i :: .retAddr t :: r => if 3000 ≤ t ∧ t < 3000 + am_txt.length then match am_ix i (am_txt.getD (t - 3000) []).length with
    | some j => some (.int (nI ((am_txt.getD (t - 3000) []).getD j 0)) :: r)
    | none => none
    else none
  | _ => none
/-- a store into an array: k says of the array's kind and the value whether it may be -/
def am_gst (k : am_H → Nat → Value → Bool) (h : am_H) : List Value → Option (List Value × am_H)
  | v :: .int i :: .ref a :: r => match h[a]? with
    | some o => if k h o.1 v = true then match am_ix i o.2.length with
      | some j => some (r, h.set a (o.1, o.2.set j v))
      | none => none
      else none
    | none => none
  | _ => none
def am_kI : am_H → Nat → Value → Bool := fun _ k v => match v with
  | .int _ => k == 100
  | _ => false
def am_kJ : am_H → Nat → Value → Bool := fun _ k v => match v with
  | .long _ => k == 101
  | _ => false
def am_kZ : am_H → Nat → Value → Bool := fun _ k v => match v with
  | .int x => k == 102 && (x == 0 || x == 1)
  | _ => false
def am_kA : am_H → Nat → Value → Bool := fun h k v => match v with
  | .null => decide (104 ≤ k) && decide (k ≠ 199)
  | .ref x => match h[x]? with
    | some o => decide (o.1 < 100) && (decide (k = 200 + o.1) || (decide (k = 104) && (o.1 == 4 || (o.1 == 5 || o.1 == 7))))
    | none => false
  | _ => false
def am_mka (k : Nat) (v : Value) (h : am_H) : List Value → Option (List Value × am_H)
  | .int i :: r => if ¬ i < 0 ∧ i.toNatClampNeg ≤ 1000000 then some (.ref h.length :: r, h ++ [(k, List.replicate i.toNatClampNeg v)]) else none
  | _ => none
def am_sh (lv : am_V) : Option (List Value × am_H) → Option am_S
  | some x => some (lv, x.1, x.2)
  | none => none
theorem am_sh_spec {lv lv' : am_V} {h' : am_H} {o : Option (List Value × am_H)} {st' : List Value} (e : am_sh lv o = some (lv', st', h')) : o = some (st', h') ∧ lv' = lv := by
  cases o with
  | none => simp [am_sh] at e
  | some x => simp [am_sh] at e; exact ⟨by rw [← e.2.1, ← e.2.2], e.1.symm⟩
def am_i1 (sc : List Int32) (a : Instr) (lv : am_V) (st : List Value) (h : am_H) : Option am_S :=
  match a with
  | .iconst n => some (lv, .int (Int32.ofInt n) :: st, h)
  | .jsr_w n => some (lv, .long (Int64.ofInt n) :: st, h)
  | .aconst_null => some (lv, .null :: st, h)
  | .ldc k => some (lv, .retAddr k :: st, h)
  | .iload i => match am_ld lv i with
    | some (.int x) => some (lv, .int x :: st, h)
    | _ => none
  | .lload i => match am_ld lv i with
    | some (.long x) => some (lv, .long x :: st, h)
    | _ => none
  | .aload i => match am_ld lv i with
    | some v => if am_isR v = true then some (lv, v :: st, h) else none
    | none => none
  | .istore i => match st with
    | .int x :: r => some (am_s1 lv i (.int x), r, h)
    | _ => none
  | .lstore i => match st with
    | .long x :: r => some (am_s2 lv i (.long x), r, h)
    | _ => none
  | .astore i => match st with
    | v :: r => if am_isR v = true then some (am_s1 lv i v, r, h) else none
    | _ => none
  | .iinc i n => match am_ld lv i with
    | some (.int x) => some (am_s1 lv i (.int (x + Int32.ofInt n)), st, h)
    | _ => none
  | .iadd => am_st lv h (am_pi (fun x y => x + y) st)
  | .isub => am_st lv h (am_pi (fun x y => x - y) st)
  | .imul => am_st lv h (am_pi (fun x y => x * y) st)
  | .iand => am_st lv h (am_pi (fun x y => x &&& y) st)
  | .ior => am_st lv h (am_pi (fun x y => x ||| y) st)
  | .ixor => am_st lv h (am_pi (fun x y => x ^^^ y) st)
  | .ishl => am_st lv h (am_pi (fun x y => x <<< (y &&& 31)) st)
  | .ishr => am_st lv h (am_pi (fun x y => x >>> (y &&& 31)) st)
  | .iushr => am_st lv h (am_pi (fun x y => (x.toUInt32 >>> (y.toUInt32 &&& Int32.toUInt32 31)).toInt32) st)
  | .idiv => match st with
    | .int y :: .int x :: r => if y = 0 then none else some (lv, .int (x / y) :: r, h)
    | _ => none
  | .irem => match st with
    | .int y :: .int x :: r => if y = 0 then none else some (lv, .int (x - x / y * y) :: r, h)
    | _ => none
  | .ineg => match st with
    | .int x :: r => some (lv, .int (-x) :: r, h)
    | _ => none
  | .ladd => am_st lv h (am_pj (fun x y => .long (x + y)) st)
  | .lsub => am_st lv h (am_pj (fun x y => .long (x - y)) st)
  | .lmul => am_st lv h (am_pj (fun x y => .long (x * y)) st)
  | .land => am_st lv h (am_pj (fun x y => .long (x &&& y)) st)
  | .lor => am_st lv h (am_pj (fun x y => .long (x ||| y)) st)
  | .lcmp => am_st lv h (am_pj (fun x y => .int (lg_cmp x y)) st)
  | .lshl => am_st lv h (am_ps (fun x y => x <<< (y.toInt64 &&& 63)) st)
  | .lushr => am_st lv h (am_ps (fun x y => (x.toUInt64 >>> (y.toInt64.toUInt64 &&& Int64.toUInt64 63)).toInt64) st)
  | .i2l => match st with
    | .int x :: r => some (lv, .long x.toInt64 :: r, h)
    | _ => none
  | .l2i => match st with
    | .long x :: r => some (lv, .int x.toInt32 :: r, h)
    | _ => none
  | .dup => match st with
    | v :: r => if v.category = 1 then some (lv, v :: v :: r, h) else none
    | _ => none
  | .pop => match st with
    | v :: r => if v.category = 1 then some (lv, r, h) else none
    | _ => none
  | .dup_x1 => match st with
    | v :: w :: r => if v.category = 1 ∧ w.category = 1 then some (lv, v :: w :: v :: r, h) else none
    | _ => none
  | .dup2 => match st with
    | v :: w :: r => if v.category = 1 ∧ w.category = 1 then some (lv, v :: w :: v :: w :: r, h) else none
    | _ => none
  | .getfield f => am_st lv h (am_get f h st)
  | .putfield f => am_sh lv (am_put f h st)
  | .iaload => match st with
    | .int _ :: .retAddr _ :: _ => am_st lv h (am_scr sc st)
    | _ => am_st lv h (am_gld (fun k => k == 100) h st)
  | .laload => am_st lv h (am_gld (fun k => k == 101) h st)
  | .baload => match st with
    | .int _ :: .retAddr _ :: _ => am_st lv h (am_xb st)
    | _ => am_st lv h (am_gld (fun k => k == 102) h st)
  | .getstatic k => if k = 0 then some (lv, .int 1 :: st, h) else if k = 1 then some (lv, .retAddr 1000 :: st, h) else none
  | .i2c => match st with
    | .int x :: r => some (lv, .int (x.toUInt32 % 65536).toInt32 :: r, h)
    | _ => none
  | .aaload => am_st lv h (am_gld (fun k => decide (103 ≤ k) && decide (k ≠ 199)) h st)
  | .arraylength => am_st lv h (am_alen sc h st)
  | .iastore => am_sh lv (am_gst am_kI h st)
  | .lastore => am_sh lv (am_gst am_kJ h st)
  | .bastore => am_sh lv (am_gst am_kZ h st)
  | .aastore => am_sh lv (am_gst am_kA h st)
  | .new ci => some (lv, .ref h.length :: st, h ++ [(ci, am_df ci)])
  | .newarray t => match t with
    | .int => am_sh lv (am_mka 100 (.int 0) h st)
    | .long => am_sh lv (am_mka 101 (.long 0) h st)
    | .boolean => am_sh lv (am_mka 102 (.int 0) h st)
    | _ => none
  | .anewarray k => am_sh lv (am_mka k .null h st)
  | .checkcast ci => match st with
    | .null :: r => some (lv, .null :: r, h)
    | .ref a :: r => match h[a]? with
      | some o => if o.1 = ci then some (lv, .ref a :: r, h) else none
      | none => none
    | _ => none
  | .dconst n => if n = 0 then some (lv, .double FP.dconst0 :: st, h) else none
  | .fconst n => if n = 0 then some (lv, .float FP.fconst0 :: st, h) else none
  | .i2d => match st with
    | .int x :: r => some (lv, .double (FP.i2d x) :: r, h)
    | _ => none
  | .i2f => match st with
    | .int x :: r => some (lv, .float (FP.i2f x) :: r, h)
    | _ => none
  | .l2d => match st with
    | .long x :: r => some (lv, .double (FP.l2d x) :: r, h)
    | _ => none
  | .f2d => match st with
    | .float x :: r => if FP.f2d x &&& 0x7fffffffffffffff ≤ 0x7ff0000000000000 then some (lv, .double (FP.f2d x) :: r, h) else none
    | _ => none
  | .ddiv => match st with
    | .double y :: .double x :: r => if FP.ddiv x y &&& 0x7fffffffffffffff ≤ 0x7ff0000000000000 then some (lv, .double (FP.ddiv x y) :: r, h) else none
    | _ => none
  | .fdiv => match st with
    | .float y :: .float x :: r => if FP.fdiv x y &&& 0x7fffffff ≤ 0x7f800000 then some (lv, .float (FP.fdiv x y) :: r, h) else none
    | _ => none
  | .dcmp op => match st with
    | .double y :: .double x :: r => some (lv, .int (Op.cmpValue (FP.dcmp x y) op) :: r, h)
    | _ => none
  | .dload i => match am_ld lv i with
    | some (.double x) => some (lv, .double x :: st, h)
    | _ => none
  | .dstore i => match st with
    | .double x :: r => some (am_s2 lv i (.double x), r, h)
    | _ => none
  | .invokedynamic _ => match st with
    | .ref _ :: r => if am_cs r ≤ 8 then some (lv, r, h) else none
    | _ => none
  | .jsr k => match st with
    | .int y :: .int x :: r => if am_cs r ≤ 8 then some (lv, .int (if k = 0 then (if y < x then y else x) else (if x < y then y else x)) :: r, h) else none
    | _ => none
  | _ => none
theorem am_find_in {i : Nat} {q : Nat × Nat × Nat × Nat} : ∀ {tb : List (Nat × Nat × Nat × Nat)}, am_find tb i = some q → q ∈ tb ∧ q.1 = i
  | [], h => by simp [am_find] at h
  | x :: r, h => by
    unfold am_find at h
    by_cases hx : x.1 = i
    · rw [if_pos hx] at h
      cases h
      exact ⟨List.mem_cons_self, hx⟩
    · rw [if_neg hx] at h
      obtain ⟨h1, h2⟩ := am_find_in h
      exact ⟨List.mem_cons_of_mem _ h1, h2⟩
theorem am_en_spec {cn i k a : Nat} (h : am_en cn i k a = true) : ∃ pl, am_ck (am_own cn) (i, k, a, pl) = true := by
  unfold am_en at h
  split at h
  · rename_i q hq
    obtain ⟨h1, h2⟩ := am_find_in hq
    simp only [Bool.and_eq_true, beq_iff_eq] at h
    have h3 := am_ck_all cn q h1
    obtain ⟨q1, q2, q3, q4⟩ := q
    simp only at h2 h
    obtain ⟨rfl, rfl⟩ := h
    subst h2
    exact ⟨q4, h3⟩
  · cases h
theorem am_en1 {cn i f : Nat} (h : am_en cn i 1 f = true) : ∃ C0 T N, vwCl[f / 128]? = some (C0, T, N) ∧ 3 ≤ f / 128 ∧ f % 128 < N ∧ Jvm.Cond.fieldLink (am_own cn) i (T (f % 128)).1 (T (f % 128)).2.1 (T (f % 128)).2.2.1 ∈ am_T := by
  obtain ⟨pl, h⟩ := am_en_spec h
  unfold am_ck at h
  simp only at h
  split at h
  · rename_i r hr
    simp only [Bool.and_eq_true, decide_eq_true_eq] at h
    exact ⟨r.1, r.2.1, r.2.2, hr, h.1.1, h.1.2, am_inT (List.mem_of_getElem? h.2) rfl⟩
  · cases h
theorem am_en2 {cn i f : Nat} (h : am_en cn i 2 f = true) : ∃ C0 T N, vwCl[f / 128]? = some (C0, T, N) ∧ 3 ≤ f / 128 ∧ f % 128 < N ∧ ∃ host, (am_own cn, i, (T (f % 128)).1, (T (f % 128)).2.1, (T (f % 128)).2.2.1, host) ∈ am_nf := by
  obtain ⟨pl, h⟩ := am_en_spec h
  unfold am_ck at h
  simp only at h
  split at h
  · rename_i r hr
    split at h
    · rename_i z hz
      simp only [Bool.and_eq_true, decide_eq_true_eq] at h
      obtain ⟨⟨h1, h2⟩, h3⟩ := h
      refine ⟨r.1, r.2.1, r.2.2, hr, h1, h2, z.2.2.2.2.2, ?_⟩
      have h4 := List.mem_of_getElem? hz
      obtain ⟨z1, z2, z3, z4, z5, z6⟩ := z
      simp only [Prod.mk.injEq] at h3
      obtain ⟨rfl, rfl, rfl, rfl, rfl⟩ := h3
      exact h4
    · cases h
  · cases h
theorem am_en3 {cn i ci : Nat} (h : am_en cn i 3 ci = true) : ∃ C0 T N, vwCl[ci]? = some (C0, T, N) ∧ 3 ≤ ci ∧ Jvm.Cond.classLink (am_own cn) i C0 ∈ am_T := by
  obtain ⟨pl, h⟩ := am_en_spec h
  unfold am_ck at h
  simp only at h
  split at h
  · rename_i r hr
    simp only [Bool.and_eq_true, decide_eq_true_eq] at h
    exact ⟨r.1, r.2.1, r.2.2, hr, h.1, am_inT (List.mem_of_getElem? h.2) rfl⟩
  · cases h
theorem am_en4 {cn i k : Nat} (h : am_en cn i 4 k = true) : (k = 103 ∧ Jvm.Cond.classLink (am_own cn) i "[I" ∈ am_T) ∨ (k = 104 ∧ Jvm.Cond.classLink (am_own cn) i "java/lang/Object" ∈ am_T) := by
  obtain ⟨pl, h⟩ := am_en_spec h
  unfold am_ck at h
  simp only [Bool.and_eq_true, Bool.or_eq_true, decide_eq_true_eq] at h
  rcases h with h | h
  · exact Or.inl ⟨h.1, am_inT (List.mem_of_getElem? h.2) rfl⟩
  · exact Or.inr ⟨h.1, am_inT (List.mem_of_getElem? h.2) rfl⟩
theorem am_en5 {cn i k : Nat} (h : am_en cn i 5 k = true) : Jvm.Cond.constant (am_own cn) i (Int32.ofNat k) ∈ am_T := by
  obtain ⟨pl, h⟩ := am_en_spec h
  unfold am_ck at h
  simp only [decide_eq_true_eq] at h
  exact am_inT (List.mem_of_getElem? h) rfl
theorem am_en6 {cn i k : Nat} (h : am_en cn i 6 k = true) : Jvm.Cond.constantLong (am_own cn) i (Int64.ofNat k) ∈ am_T := by
  obtain ⟨pl, h⟩ := am_en_spec h
  unfold am_ck at h
  simp only [decide_eq_true_eq] at h
  exact am_inT (List.mem_of_getElem? h) rfl
theorem am_en14 {cn i : Nat} (h : am_en cn i 14 384 = true) : Jvm.Cond.fieldLink (am_own cn) i "java/util/ArrayList" "modCount" "I" ∈ am_T := by
  obtain ⟨pl, h⟩ := am_en_spec h
  simp only [am_ck, Bool.and_eq_true, decide_eq_true_eq] at h
  exact am_inT (List.mem_of_getElem? h.2) rfl
theorem am_en15 {cn i k : Nat} (h : am_en cn i 15 k = true) : Jvm.Cond.fieldLink (am_own cn) i (am_gs k).1 (am_gs k).2.1 (am_gs k).2.2 ∈ am_T := by
  obtain ⟨pl, h⟩ := am_en_spec h
  simp only [am_ck, decide_eq_true_eq] at h
  exact am_inT (List.mem_of_getElem? h) rfl
theorem am_en16 {cn i k : Nat} (h : am_en cn i 16 k = true) : Jvm.Cond.fieldLink (am_own cn) i "java/lang/String" (am_sf k).1 (am_sf k).2 ∈ am_T := by
  obtain ⟨pl, h⟩ := am_en_spec h
  simp only [am_ck, decide_eq_true_eq] at h
  exact am_inT (List.mem_of_getElem? h) rfl
theorem am_en9 {cn i k : Nat} (h : am_en cn i 9 k = true) : Jvm.Cond.methodLink (am_own cn) i Lib.objectInit ∈ am_T := by
  obtain ⟨pl, h⟩ := am_en_spec h
  unfold am_ck at h
  simp only [decide_eq_true_eq] at h
  exact am_inT (List.mem_of_getElem? h) rfl
theorem am_en10 {cn i k : Nat} (h : am_en cn i 10 k = true) : Jvm.Cond.methodLink (am_own cn) i Lib.Math.min.name ∈ am_T := by
  obtain ⟨pl, h⟩ := am_en_spec h
  unfold am_ck at h
  simp only [decide_eq_true_eq] at h
  exact am_inT (List.mem_of_getElem? h) rfl
theorem am_en11 {cn i k : Nat} (h : am_en cn i 11 k = true) : Jvm.Cond.methodLink (am_own cn) i Lib.Math.max.name ∈ am_T := by
  obtain ⟨pl, h⟩ := am_en_spec h
  unfold am_ck at h
  simp only [decide_eq_true_eq] at h
  exact am_inT (List.mem_of_getElem? h) rfl
theorem am_en13 {cn i k : Nat} (h : am_en cn i 13 k = true) : ∃ tx, (am_own cn, i, tx, k) ∈ am_strs := by
  obtain ⟨pl, h⟩ := am_en_spec h
  unfold am_ck at h
  simp only at h
  split at h
  · rename_i r hr
    simp only [Bool.and_eq_true, decide_eq_true_eq] at h
    obtain ⟨r1, r2, r3, r4⟩ := r
    simp only at h
    obtain ⟨⟨rfl, rfl⟩, rfl⟩ := h
    exact ⟨r3, List.mem_of_getElem? hr⟩
  · cases h
end
section
variable {sc : List Int32}
/-! WHICH instruction of the machine an abstract one stands for, and that the machine does what the abstract one says -/
section AMO
variable {p : Program} {l : Launch} {e : Env} {R : Room} {s : State} {m : MethodId} {args : Array Value} {below : List Frame} {meth : Method} {c : Code} {Q : State → Prop}
variable {cc : ByteArray} {nL n0 z0 pc b cn len : Nat} {yn : String} {ini : Bool} {ad : Nat → Nat} {D : va_G} {lv lv' : am_V} {st st' : List Value} {h h' : am_H} {a : Instr}
theorem am_o_iadd (C : am_C p R m c cc nL (am_own cn) s args D meth yn ad)  (hini : ini = true → yn = "<init>") (hr : am_rl cn nL ini (.iadd) a len = true) (hd : decode cc pc = .ok (.iadd, len)) (hi : am_i1 sc a lv st h = some (lv', st', h')) (hrm : am_rm R n0 z0 h') (k : am_W sc p l e R s m args below meth c D b ad nL n0 z0 Q (pc + len) lv' st' h') : am_W sc p l e R s m args below meth c D b ad nL n0 z0 Q pc lv st h := by
  simp only [am_rl, Bool.and_eq_true, decide_eq_true_eq] at hr
  obtain ⟨rfl, rfl⟩ := hr
  simp only [am_i1] at hi
  obtain ⟨e1, rfl, rfl⟩ := am_st_spec hi
  obtain ⟨x, y, r, rfl, rfl⟩ := am_pi_spec e1
  exact am_r_iadd C hd k
theorem am_o_isub (C : am_C p R m c cc nL (am_own cn) s args D meth yn ad)  (hini : ini = true → yn = "<init>") (hr : am_rl cn nL ini (.isub) a len = true) (hd : decode cc pc = .ok (.isub, len)) (hi : am_i1 sc a lv st h = some (lv', st', h')) (hrm : am_rm R n0 z0 h') (k : am_W sc p l e R s m args below meth c D b ad nL n0 z0 Q (pc + len) lv' st' h') : am_W sc p l e R s m args below meth c D b ad nL n0 z0 Q pc lv st h := by
  simp only [am_rl, Bool.and_eq_true, decide_eq_true_eq] at hr
  obtain ⟨rfl, rfl⟩ := hr
  simp only [am_i1] at hi
  obtain ⟨e1, rfl, rfl⟩ := am_st_spec hi
  obtain ⟨x, y, r, rfl, rfl⟩ := am_pi_spec e1
  exact am_r_isub C hd k
theorem am_o_imul (C : am_C p R m c cc nL (am_own cn) s args D meth yn ad)  (hini : ini = true → yn = "<init>") (hr : am_rl cn nL ini (.imul) a len = true) (hd : decode cc pc = .ok (.imul, len)) (hi : am_i1 sc a lv st h = some (lv', st', h')) (hrm : am_rm R n0 z0 h') (k : am_W sc p l e R s m args below meth c D b ad nL n0 z0 Q (pc + len) lv' st' h') : am_W sc p l e R s m args below meth c D b ad nL n0 z0 Q pc lv st h := by
  simp only [am_rl, Bool.and_eq_true, decide_eq_true_eq] at hr
  obtain ⟨rfl, rfl⟩ := hr
  simp only [am_i1] at hi
  obtain ⟨e1, rfl, rfl⟩ := am_st_spec hi
  obtain ⟨x, y, r, rfl, rfl⟩ := am_pi_spec e1
  exact am_r_imul C hd k
theorem am_o_iand (C : am_C p R m c cc nL (am_own cn) s args D meth yn ad)  (hini : ini = true → yn = "<init>") (hr : am_rl cn nL ini (.iand) a len = true) (hd : decode cc pc = .ok (.iand, len)) (hi : am_i1 sc a lv st h = some (lv', st', h')) (hrm : am_rm R n0 z0 h') (k : am_W sc p l e R s m args below meth c D b ad nL n0 z0 Q (pc + len) lv' st' h') : am_W sc p l e R s m args below meth c D b ad nL n0 z0 Q pc lv st h := by
  simp only [am_rl, Bool.and_eq_true, decide_eq_true_eq] at hr
  obtain ⟨rfl, rfl⟩ := hr
  simp only [am_i1] at hi
  obtain ⟨e1, rfl, rfl⟩ := am_st_spec hi
  obtain ⟨x, y, r, rfl, rfl⟩ := am_pi_spec e1
  exact am_r_iand C hd k
theorem am_o_ior (C : am_C p R m c cc nL (am_own cn) s args D meth yn ad)  (hini : ini = true → yn = "<init>") (hr : am_rl cn nL ini (.ior) a len = true) (hd : decode cc pc = .ok (.ior, len)) (hi : am_i1 sc a lv st h = some (lv', st', h')) (hrm : am_rm R n0 z0 h') (k : am_W sc p l e R s m args below meth c D b ad nL n0 z0 Q (pc + len) lv' st' h') : am_W sc p l e R s m args below meth c D b ad nL n0 z0 Q pc lv st h := by
  simp only [am_rl, Bool.and_eq_true, decide_eq_true_eq] at hr
  obtain ⟨rfl, rfl⟩ := hr
  simp only [am_i1] at hi
  obtain ⟨e1, rfl, rfl⟩ := am_st_spec hi
  obtain ⟨x, y, r, rfl, rfl⟩ := am_pi_spec e1
  exact am_r_ior C hd k
theorem am_o_ixor (C : am_C p R m c cc nL (am_own cn) s args D meth yn ad)  (hini : ini = true → yn = "<init>") (hr : am_rl cn nL ini (.ixor) a len = true) (hd : decode cc pc = .ok (.ixor, len)) (hi : am_i1 sc a lv st h = some (lv', st', h')) (hrm : am_rm R n0 z0 h') (k : am_W sc p l e R s m args below meth c D b ad nL n0 z0 Q (pc + len) lv' st' h') : am_W sc p l e R s m args below meth c D b ad nL n0 z0 Q pc lv st h := by
  simp only [am_rl, Bool.and_eq_true, decide_eq_true_eq] at hr
  obtain ⟨rfl, rfl⟩ := hr
  simp only [am_i1] at hi
  obtain ⟨e1, rfl, rfl⟩ := am_st_spec hi
  obtain ⟨x, y, r, rfl, rfl⟩ := am_pi_spec e1
  exact am_r_ixor C hd k
theorem am_o_ishl (C : am_C p R m c cc nL (am_own cn) s args D meth yn ad)  (hini : ini = true → yn = "<init>") (hr : am_rl cn nL ini (.ishl) a len = true) (hd : decode cc pc = .ok (.ishl, len)) (hi : am_i1 sc a lv st h = some (lv', st', h')) (hrm : am_rm R n0 z0 h') (k : am_W sc p l e R s m args below meth c D b ad nL n0 z0 Q (pc + len) lv' st' h') : am_W sc p l e R s m args below meth c D b ad nL n0 z0 Q pc lv st h := by
  simp only [am_rl, Bool.and_eq_true, decide_eq_true_eq] at hr
  obtain ⟨rfl, rfl⟩ := hr
  simp only [am_i1] at hi
  obtain ⟨e1, rfl, rfl⟩ := am_st_spec hi
  obtain ⟨x, y, r, rfl, rfl⟩ := am_pi_spec e1
  exact am_r_ishl C hd k
theorem am_o_ishr (C : am_C p R m c cc nL (am_own cn) s args D meth yn ad)  (hini : ini = true → yn = "<init>") (hr : am_rl cn nL ini (.ishr) a len = true) (hd : decode cc pc = .ok (.ishr, len)) (hi : am_i1 sc a lv st h = some (lv', st', h')) (hrm : am_rm R n0 z0 h') (k : am_W sc p l e R s m args below meth c D b ad nL n0 z0 Q (pc + len) lv' st' h') : am_W sc p l e R s m args below meth c D b ad nL n0 z0 Q pc lv st h := by
  simp only [am_rl, Bool.and_eq_true, decide_eq_true_eq] at hr
  obtain ⟨rfl, rfl⟩ := hr
  simp only [am_i1] at hi
  obtain ⟨e1, rfl, rfl⟩ := am_st_spec hi
  obtain ⟨x, y, r, rfl, rfl⟩ := am_pi_spec e1
  exact am_r_ishr C hd k
theorem am_o_iushr (C : am_C p R m c cc nL (am_own cn) s args D meth yn ad)  (hini : ini = true → yn = "<init>") (hr : am_rl cn nL ini (.iushr) a len = true) (hd : decode cc pc = .ok (.iushr, len)) (hi : am_i1 sc a lv st h = some (lv', st', h')) (hrm : am_rm R n0 z0 h') (k : am_W sc p l e R s m args below meth c D b ad nL n0 z0 Q (pc + len) lv' st' h') : am_W sc p l e R s m args below meth c D b ad nL n0 z0 Q pc lv st h := by
  simp only [am_rl, Bool.and_eq_true, decide_eq_true_eq] at hr
  obtain ⟨rfl, rfl⟩ := hr
  simp only [am_i1] at hi
  obtain ⟨e1, rfl, rfl⟩ := am_st_spec hi
  obtain ⟨x, y, r, rfl, rfl⟩ := am_pi_spec e1
  exact am_r_iushr C hd k
theorem am_o_ladd (C : am_C p R m c cc nL (am_own cn) s args D meth yn ad)  (hini : ini = true → yn = "<init>") (hr : am_rl cn nL ini (.ladd) a len = true) (hd : decode cc pc = .ok (.ladd, len)) (hi : am_i1 sc a lv st h = some (lv', st', h')) (hrm : am_rm R n0 z0 h') (k : am_W sc p l e R s m args below meth c D b ad nL n0 z0 Q (pc + len) lv' st' h') : am_W sc p l e R s m args below meth c D b ad nL n0 z0 Q pc lv st h := by
  simp only [am_rl, Bool.and_eq_true, decide_eq_true_eq] at hr
  obtain ⟨rfl, rfl⟩ := hr
  simp only [am_i1] at hi
  obtain ⟨e1, rfl, rfl⟩ := am_st_spec hi
  obtain ⟨x, y, r, rfl, rfl⟩ := am_pj_spec e1
  exact am_r_ladd C hd k
theorem am_o_lsub (C : am_C p R m c cc nL (am_own cn) s args D meth yn ad)  (hini : ini = true → yn = "<init>") (hr : am_rl cn nL ini (.lsub) a len = true) (hd : decode cc pc = .ok (.lsub, len)) (hi : am_i1 sc a lv st h = some (lv', st', h')) (hrm : am_rm R n0 z0 h') (k : am_W sc p l e R s m args below meth c D b ad nL n0 z0 Q (pc + len) lv' st' h') : am_W sc p l e R s m args below meth c D b ad nL n0 z0 Q pc lv st h := by
  simp only [am_rl, Bool.and_eq_true, decide_eq_true_eq] at hr
  obtain ⟨rfl, rfl⟩ := hr
  simp only [am_i1] at hi
  obtain ⟨e1, rfl, rfl⟩ := am_st_spec hi
  obtain ⟨x, y, r, rfl, rfl⟩ := am_pj_spec e1
  exact am_r_lsub C hd k
theorem am_o_lmul (C : am_C p R m c cc nL (am_own cn) s args D meth yn ad)  (hini : ini = true → yn = "<init>") (hr : am_rl cn nL ini (.lmul) a len = true) (hd : decode cc pc = .ok (.lmul, len)) (hi : am_i1 sc a lv st h = some (lv', st', h')) (hrm : am_rm R n0 z0 h') (k : am_W sc p l e R s m args below meth c D b ad nL n0 z0 Q (pc + len) lv' st' h') : am_W sc p l e R s m args below meth c D b ad nL n0 z0 Q pc lv st h := by
  simp only [am_rl, Bool.and_eq_true, decide_eq_true_eq] at hr
  obtain ⟨rfl, rfl⟩ := hr
  simp only [am_i1] at hi
  obtain ⟨e1, rfl, rfl⟩ := am_st_spec hi
  obtain ⟨x, y, r, rfl, rfl⟩ := am_pj_spec e1
  exact am_r_lmul C hd k
theorem am_o_land (C : am_C p R m c cc nL (am_own cn) s args D meth yn ad)  (hini : ini = true → yn = "<init>") (hr : am_rl cn nL ini (.land) a len = true) (hd : decode cc pc = .ok (.land, len)) (hi : am_i1 sc a lv st h = some (lv', st', h')) (hrm : am_rm R n0 z0 h') (k : am_W sc p l e R s m args below meth c D b ad nL n0 z0 Q (pc + len) lv' st' h') : am_W sc p l e R s m args below meth c D b ad nL n0 z0 Q pc lv st h := by
  simp only [am_rl, Bool.and_eq_true, decide_eq_true_eq] at hr
  obtain ⟨rfl, rfl⟩ := hr
  simp only [am_i1] at hi
  obtain ⟨e1, rfl, rfl⟩ := am_st_spec hi
  obtain ⟨x, y, r, rfl, rfl⟩ := am_pj_spec e1
  exact am_r_land C hd k
theorem am_o_lor (C : am_C p R m c cc nL (am_own cn) s args D meth yn ad)  (hini : ini = true → yn = "<init>") (hr : am_rl cn nL ini (.lor) a len = true) (hd : decode cc pc = .ok (.lor, len)) (hi : am_i1 sc a lv st h = some (lv', st', h')) (hrm : am_rm R n0 z0 h') (k : am_W sc p l e R s m args below meth c D b ad nL n0 z0 Q (pc + len) lv' st' h') : am_W sc p l e R s m args below meth c D b ad nL n0 z0 Q pc lv st h := by
  simp only [am_rl, Bool.and_eq_true, decide_eq_true_eq] at hr
  obtain ⟨rfl, rfl⟩ := hr
  simp only [am_i1] at hi
  obtain ⟨e1, rfl, rfl⟩ := am_st_spec hi
  obtain ⟨x, y, r, rfl, rfl⟩ := am_pj_spec e1
  exact am_r_lor C hd k
theorem am_o_lcmp (C : am_C p R m c cc nL (am_own cn) s args D meth yn ad)  (hini : ini = true → yn = "<init>") (hr : am_rl cn nL ini (.lcmp) a len = true) (hd : decode cc pc = .ok (.lcmp, len)) (hi : am_i1 sc a lv st h = some (lv', st', h')) (hrm : am_rm R n0 z0 h') (k : am_W sc p l e R s m args below meth c D b ad nL n0 z0 Q (pc + len) lv' st' h') : am_W sc p l e R s m args below meth c D b ad nL n0 z0 Q pc lv st h := by
  simp only [am_rl, Bool.and_eq_true, decide_eq_true_eq] at hr
  obtain ⟨rfl, rfl⟩ := hr
  simp only [am_i1] at hi
  obtain ⟨e1, rfl, rfl⟩ := am_st_spec hi
  obtain ⟨x, y, r, rfl, rfl⟩ := am_pj_spec e1
  exact am_r_lcmp C hd k
theorem am_o_lshl (C : am_C p R m c cc nL (am_own cn) s args D meth yn ad)  (hini : ini = true → yn = "<init>") (hr : am_rl cn nL ini (.lshl) a len = true) (hd : decode cc pc = .ok (.lshl, len)) (hi : am_i1 sc a lv st h = some (lv', st', h')) (hrm : am_rm R n0 z0 h') (k : am_W sc p l e R s m args below meth c D b ad nL n0 z0 Q (pc + len) lv' st' h') : am_W sc p l e R s m args below meth c D b ad nL n0 z0 Q pc lv st h := by
  simp only [am_rl, Bool.and_eq_true, decide_eq_true_eq] at hr
  obtain ⟨rfl, rfl⟩ := hr
  simp only [am_i1] at hi
  obtain ⟨e1, rfl, rfl⟩ := am_st_spec hi
  obtain ⟨x, y, r, rfl, rfl⟩ := am_ps_spec e1
  exact am_r_lshl C hd k
theorem am_o_lushr (C : am_C p R m c cc nL (am_own cn) s args D meth yn ad)  (hini : ini = true → yn = "<init>") (hr : am_rl cn nL ini (.lushr) a len = true) (hd : decode cc pc = .ok (.lushr, len)) (hi : am_i1 sc a lv st h = some (lv', st', h')) (hrm : am_rm R n0 z0 h') (k : am_W sc p l e R s m args below meth c D b ad nL n0 z0 Q (pc + len) lv' st' h') : am_W sc p l e R s m args below meth c D b ad nL n0 z0 Q pc lv st h := by
  simp only [am_rl, Bool.and_eq_true, decide_eq_true_eq] at hr
  obtain ⟨rfl, rfl⟩ := hr
  simp only [am_i1] at hi
  obtain ⟨e1, rfl, rfl⟩ := am_st_spec hi
  obtain ⟨x, y, r, rfl, rfl⟩ := am_ps_spec e1
  exact am_r_lushr C hd k
theorem am_o_idiv (C : am_C p R m c cc nL (am_own cn) s args D meth yn ad)  (hini : ini = true → yn = "<init>") (hr : am_rl cn nL ini (.idiv) a len = true) (hd : decode cc pc = .ok (.idiv, len)) (hi : am_i1 sc a lv st h = some (lv', st', h')) (hrm : am_rm R n0 z0 h') (k : am_W sc p l e R s m args below meth c D b ad nL n0 z0 Q (pc + len) lv' st' h') : am_W sc p l e R s m args below meth c D b ad nL n0 z0 Q pc lv st h := by
  simp only [am_rl, Bool.and_eq_true, decide_eq_true_eq] at hr
  obtain ⟨rfl, rfl⟩ := hr
  simp only [am_i1] at hi
  split at hi
  · split at hi
    · cases hi
    · rename_i hne
      cases hi
      exact am_r_idiv C hne hd k
  · cases hi
theorem am_o_irem (C : am_C p R m c cc nL (am_own cn) s args D meth yn ad)  (hini : ini = true → yn = "<init>") (hr : am_rl cn nL ini (.irem) a len = true) (hd : decode cc pc = .ok (.irem, len)) (hi : am_i1 sc a lv st h = some (lv', st', h')) (hrm : am_rm R n0 z0 h') (k : am_W sc p l e R s m args below meth c D b ad nL n0 z0 Q (pc + len) lv' st' h') : am_W sc p l e R s m args below meth c D b ad nL n0 z0 Q pc lv st h := by
  simp only [am_rl, Bool.and_eq_true, decide_eq_true_eq] at hr
  obtain ⟨rfl, rfl⟩ := hr
  simp only [am_i1] at hi
  split at hi
  · split at hi
    · cases hi
    · rename_i hne
      cases hi
      exact am_r_irem C hne hd k
  · cases hi
theorem am_o_ineg (C : am_C p R m c cc nL (am_own cn) s args D meth yn ad)  (hini : ini = true → yn = "<init>") (hr : am_rl cn nL ini (.ineg) a len = true) (hd : decode cc pc = .ok (.ineg, len)) (hi : am_i1 sc a lv st h = some (lv', st', h')) (hrm : am_rm R n0 z0 h') (k : am_W sc p l e R s m args below meth c D b ad nL n0 z0 Q (pc + len) lv' st' h') : am_W sc p l e R s m args below meth c D b ad nL n0 z0 Q pc lv st h := by
  simp only [am_rl, Bool.and_eq_true, decide_eq_true_eq] at hr
  obtain ⟨rfl, rfl⟩ := hr
  simp only [am_i1] at hi
  split at hi
  · cases hi
    exact am_r_ineg C hd k
  · cases hi
theorem am_o_i2l (C : am_C p R m c cc nL (am_own cn) s args D meth yn ad)  (hini : ini = true → yn = "<init>") (hr : am_rl cn nL ini (.i2l) a len = true) (hd : decode cc pc = .ok (.i2l, len)) (hi : am_i1 sc a lv st h = some (lv', st', h')) (hrm : am_rm R n0 z0 h') (k : am_W sc p l e R s m args below meth c D b ad nL n0 z0 Q (pc + len) lv' st' h') : am_W sc p l e R s m args below meth c D b ad nL n0 z0 Q pc lv st h := by
  simp only [am_rl, Bool.and_eq_true, decide_eq_true_eq] at hr
  obtain ⟨rfl, rfl⟩ := hr
  simp only [am_i1] at hi
  split at hi
  · cases hi
    exact am_r_i2l C hd k
  · cases hi
theorem am_o_l2i (C : am_C p R m c cc nL (am_own cn) s args D meth yn ad)  (hini : ini = true → yn = "<init>") (hr : am_rl cn nL ini (.l2i) a len = true) (hd : decode cc pc = .ok (.l2i, len)) (hi : am_i1 sc a lv st h = some (lv', st', h')) (hrm : am_rm R n0 z0 h') (k : am_W sc p l e R s m args below meth c D b ad nL n0 z0 Q (pc + len) lv' st' h') : am_W sc p l e R s m args below meth c D b ad nL n0 z0 Q pc lv st h := by
  simp only [am_rl, Bool.and_eq_true, decide_eq_true_eq] at hr
  obtain ⟨rfl, rfl⟩ := hr
  simp only [am_i1] at hi
  split at hi
  · cases hi
    exact am_r_l2i C hd k
  · cases hi
theorem am_o_dup (C : am_C p R m c cc nL (am_own cn) s args D meth yn ad)  (hini : ini = true → yn = "<init>") (hr : am_rl cn nL ini (.dup) a len = true) (hd : decode cc pc = .ok (.dup, len)) (hi : am_i1 sc a lv st h = some (lv', st', h')) (hrm : am_rm R n0 z0 h') (k : am_W sc p l e R s m args below meth c D b ad nL n0 z0 Q (pc + len) lv' st' h') : am_W sc p l e R s m args below meth c D b ad nL n0 z0 Q pc lv st h := by
  simp only [am_rl, Bool.and_eq_true, decide_eq_true_eq] at hr
  obtain ⟨rfl, rfl⟩ := hr
  simp only [am_i1] at hi
  split at hi
  · split at hi
    · rename_i hv
      cases hi
      exact am_r_dup C hv hd k
    · cases hi
  · cases hi
theorem am_o_pop (C : am_C p R m c cc nL (am_own cn) s args D meth yn ad)  (hini : ini = true → yn = "<init>") (hr : am_rl cn nL ini (.pop) a len = true) (hd : decode cc pc = .ok (.pop, len)) (hi : am_i1 sc a lv st h = some (lv', st', h')) (hrm : am_rm R n0 z0 h') (k : am_W sc p l e R s m args below meth c D b ad nL n0 z0 Q (pc + len) lv' st' h') : am_W sc p l e R s m args below meth c D b ad nL n0 z0 Q pc lv st h := by
  simp only [am_rl, Bool.and_eq_true, decide_eq_true_eq] at hr
  obtain ⟨rfl, rfl⟩ := hr
  simp only [am_i1] at hi
  split at hi
  · split at hi
    · rename_i hv
      cases hi
      exact am_r_pop C hv hd k
    · cases hi
  · cases hi
theorem am_o_dup_x1 (C : am_C p R m c cc nL (am_own cn) s args D meth yn ad)  (hini : ini = true → yn = "<init>") (hr : am_rl cn nL ini (.dup_x1) a len = true) (hd : decode cc pc = .ok (.dup_x1, len)) (hi : am_i1 sc a lv st h = some (lv', st', h')) (hrm : am_rm R n0 z0 h') (k : am_W sc p l e R s m args below meth c D b ad nL n0 z0 Q (pc + len) lv' st' h') : am_W sc p l e R s m args below meth c D b ad nL n0 z0 Q pc lv st h := by
  simp only [am_rl, Bool.and_eq_true, decide_eq_true_eq] at hr
  obtain ⟨rfl, rfl⟩ := hr
  simp only [am_i1] at hi
  split at hi
  · split at hi
    · rename_i hv
      cases hi
      exact am_r_dup_x1 C hv.1 hv.2 hd k
    · cases hi
  · cases hi
theorem am_o_dup2 (C : am_C p R m c cc nL (am_own cn) s args D meth yn ad)  (hini : ini = true → yn = "<init>") (hr : am_rl cn nL ini (.dup2) a len = true) (hd : decode cc pc = .ok (.dup2, len)) (hi : am_i1 sc a lv st h = some (lv', st', h')) (hrm : am_rm R n0 z0 h') (k : am_W sc p l e R s m args below meth c D b ad nL n0 z0 Q (pc + len) lv' st' h') : am_W sc p l e R s m args below meth c D b ad nL n0 z0 Q pc lv st h := by
  simp only [am_rl, Bool.and_eq_true, decide_eq_true_eq] at hr
  obtain ⟨rfl, rfl⟩ := hr
  simp only [am_i1] at hi
  split at hi
  · split at hi
    · rename_i hv
      cases hi
      exact am_r_dup2 C hv.1 hv.2 hd k
    · cases hi
  · cases hi
theorem am_o_null (C : am_C p R m c cc nL (am_own cn) s args D meth yn ad)  (hini : ini = true → yn = "<init>") (hr : am_rl cn nL ini (.aconst_null) a len = true) (hd : decode cc pc = .ok (.aconst_null, len)) (hi : am_i1 sc a lv st h = some (lv', st', h')) (hrm : am_rm R n0 z0 h') (k : am_W sc p l e R s m args below meth c D b ad nL n0 z0 Q (pc + len) lv' st' h') : am_W sc p l e R s m args below meth c D b ad nL n0 z0 Q pc lv st h := by
  simp only [am_rl, Bool.and_eq_true, decide_eq_true_eq] at hr
  obtain ⟨rfl, rfl⟩ := hr
  simp only [am_i1] at hi
  cases hi
  exact am_r_null C hd k
theorem am_o_iconst (C : am_C p R m c cc nL (am_own cn) s args D meth yn ad) {n : Int} (hini : ini = true → yn = "<init>") (hr : am_rl cn nL ini (.iconst n) a len = true) (hd : decode cc pc = .ok (.iconst n, len)) (hi : am_i1 sc a lv st h = some (lv', st', h')) (hrm : am_rm R n0 z0 h') (k : am_W sc p l e R s m args below meth c D b ad nL n0 z0 Q (pc + len) lv' st' h') : am_W sc p l e R s m args below meth c D b ad nL n0 z0 Q pc lv st h := by
  simp only [am_rl, Bool.and_eq_true, decide_eq_true_eq] at hr
  obtain ⟨rfl, rfl⟩ := hr
  simp only [am_i1] at hi
  cases hi
  exact am_r_iconst C hd k
theorem am_o_bipush (C : am_C p R m c cc nL (am_own cn) s args D meth yn ad) {n : Int} (hini : ini = true → yn = "<init>") (hr : am_rl cn nL ini (.bipush n) a len = true) (hd : decode cc pc = .ok (.bipush n, len)) (hi : am_i1 sc a lv st h = some (lv', st', h')) (hrm : am_rm R n0 z0 h') (k : am_W sc p l e R s m args below meth c D b ad nL n0 z0 Q (pc + len) lv' st' h') : am_W sc p l e R s m args below meth c D b ad nL n0 z0 Q pc lv st h := by
  simp only [am_rl, Bool.and_eq_true, decide_eq_true_eq] at hr
  obtain ⟨⟨rfl, rfl⟩, hv⟩ := hr
  simp only [am_i1] at hi
  cases hi
  exact am_r_bipush C hd hv k
theorem am_o_sipush (C : am_C p R m c cc nL (am_own cn) s args D meth yn ad) {n : Int} (hini : ini = true → yn = "<init>") (hr : am_rl cn nL ini (.sipush n) a len = true) (hd : decode cc pc = .ok (.sipush n, len)) (hi : am_i1 sc a lv st h = some (lv', st', h')) (hrm : am_rm R n0 z0 h') (k : am_W sc p l e R s m args below meth c D b ad nL n0 z0 Q (pc + len) lv' st' h') : am_W sc p l e R s m args below meth c D b ad nL n0 z0 Q pc lv st h := by
  simp only [am_rl, Bool.and_eq_true, decide_eq_true_eq] at hr
  obtain ⟨⟨rfl, rfl⟩, hv⟩ := hr
  simp only [am_i1] at hi
  cases hi
  exact am_r_sipush C hd hv k
theorem am_o_lconst (C : am_C p R m c cc nL (am_own cn) s args D meth yn ad) {n : Fin 2} (hini : ini = true → yn = "<init>") (hr : am_rl cn nL ini (.lconst n) a len = true) (hd : decode cc pc = .ok (.lconst n, len)) (hi : am_i1 sc a lv st h = some (lv', st', h')) (hrm : am_rm R n0 z0 h') (k : am_W sc p l e R s m args below meth c D b ad nL n0 z0 Q (pc + len) lv' st' h') : am_W sc p l e R s m args below meth c D b ad nL n0 z0 Q pc lv st h := by
  simp only [am_rl] at hr
  split at hr
  · rename_i z
    simp only [Bool.and_eq_true, decide_eq_true_eq] at hr
    obtain ⟨rfl, hv⟩ := hr
    simp only [am_i1] at hi
    cases hi
    exact am_r_lconst C hd hv k
  · cases hr
theorem am_o_ldc (C : am_C p R m c cc nL (am_own cn) s args D meth yn ad) {i : Nat} (hini : ini = true → yn = "<init>") (hr : am_rl cn nL ini (.ldc i) a len = true) (hd : decode cc pc = .ok (.ldc i, len)) (hi : am_i1 sc a lv st h = some (lv', st', h')) (hrm : am_rm R n0 z0 h') (k : am_W sc p l e R s m args below meth c D b ad nL n0 z0 Q (pc + len) lv' st' h') : am_W sc p l e R s m args below meth c D b ad nL n0 z0 Q pc lv st h := by
  simp only [am_rl] at hr
  split at hr
  · rename_i n
    simp only [am_cI, Bool.and_eq_true, decide_eq_true_eq] at hr
    obtain ⟨rfl, he, hv⟩ := hr
    have hw := am_en5 he
    rw [hv] at hw
    simp only [am_i1] at hi
    cases hi
    exact am_r_ldc C hw hd k
  · rename_i n
    simp only [Bool.and_eq_true, decide_eq_true_eq] at hr
    obtain ⟨rfl, he⟩ := hr
    obtain ⟨tx, hw⟩ := am_en13 he
    simp only [am_i1] at hi
    cases hi
    exact am_r_ldcS C hw hd k
  · cases hr
theorem am_o_ldc_w (C : am_C p R m c cc nL (am_own cn) s args D meth yn ad) {i : Nat} (hini : ini = true → yn = "<init>") (hr : am_rl cn nL ini (.ldc_w i) a len = true) (hd : decode cc pc = .ok (.ldc_w i, len)) (hi : am_i1 sc a lv st h = some (lv', st', h')) (hrm : am_rm R n0 z0 h') (k : am_W sc p l e R s m args below meth c D b ad nL n0 z0 Q (pc + len) lv' st' h') : am_W sc p l e R s m args below meth c D b ad nL n0 z0 Q pc lv st h := by
  simp only [am_rl] at hr
  split at hr
  · rename_i n
    simp only [am_cI, Bool.and_eq_true, decide_eq_true_eq] at hr
    obtain ⟨rfl, he, hv⟩ := hr
    have hw := am_en5 he
    rw [hv] at hw
    simp only [am_i1] at hi
    cases hi
    exact am_r_ldcw C hw hd k
  · rename_i n
    simp only [Bool.and_eq_true, decide_eq_true_eq] at hr
    obtain ⟨rfl, he⟩ := hr
    obtain ⟨tx, hw⟩ := am_en13 he
    simp only [am_i1] at hi
    cases hi
    exact am_r_ldcWS C hw hd k
  · cases hr
theorem am_o_ldc2_w (C : am_C p R m c cc nL (am_own cn) s args D meth yn ad) {i : Nat} (hini : ini = true → yn = "<init>") (hr : am_rl cn nL ini (.ldc2_w i) a len = true) (hd : decode cc pc = .ok (.ldc2_w i, len)) (hi : am_i1 sc a lv st h = some (lv', st', h')) (hrm : am_rm R n0 z0 h') (k : am_W sc p l e R s m args below meth c D b ad nL n0 z0 Q (pc + len) lv' st' h') : am_W sc p l e R s m args below meth c D b ad nL n0 z0 Q pc lv st h := by
  simp only [am_rl] at hr
  split at hr
  · rename_i n
    simp only [am_cJ, Bool.and_eq_true, decide_eq_true_eq] at hr
    obtain ⟨rfl, he, hv⟩ := hr
    have hw := am_en6 he
    rw [hv] at hw
    simp only [am_i1] at hi
    cases hi
    exact am_r_ldc2 C hw hd k
  · cases hr
theorem am_o_iload (C : am_C p R m c cc nL (am_own cn) s args D meth yn ad) {i : Nat} (hini : ini = true → yn = "<init>") (hr : am_rl cn nL ini (.iload i) a len = true) (hd : decode cc pc = .ok (.iload i, len)) (hi : am_i1 sc a lv st h = some (lv', st', h')) (hrm : am_rm R n0 z0 h') (k : am_W sc p l e R s m args below meth c D b ad nL n0 z0 Q (pc + len) lv' st' h') : am_W sc p l e R s m args below meth c D b ad nL n0 z0 Q pc lv st h := by
  simp only [am_rl, Bool.and_eq_true, decide_eq_true_eq] at hr
  obtain ⟨rfl, rfl⟩ := hr
  simp only [am_i1] at hi
  split at hi
  · rename_i x hl
    cases hi
    exact am_r_iload C hl hd k
  · cases hi
theorem am_o_iload_n (C : am_C p R m c cc nL (am_own cn) s args D meth yn ad) {i : Fin 4} (hini : ini = true → yn = "<init>") (hr : am_rl cn nL ini (.iload_n i) a len = true) (hd : decode cc pc = .ok (.iload_n i, len)) (hi : am_i1 sc a lv st h = some (lv', st', h')) (hrm : am_rm R n0 z0 h') (k : am_W sc p l e R s m args below meth c D b ad nL n0 z0 Q (pc + len) lv' st' h') : am_W sc p l e R s m args below meth c D b ad nL n0 z0 Q pc lv st h := by
  simp only [am_rl, Bool.and_eq_true, decide_eq_true_eq] at hr
  obtain ⟨rfl, rfl⟩ := hr
  simp only [am_i1] at hi
  split at hi
  · rename_i x hl
    cases hi
    exact am_r_iload_n C hl hd k
  · cases hi
theorem am_o_istore (C : am_C p R m c cc nL (am_own cn) s args D meth yn ad) {i : Nat} (hini : ini = true → yn = "<init>") (hr : am_rl cn nL ini (.istore i) a len = true) (hd : decode cc pc = .ok (.istore i, len)) (hi : am_i1 sc a lv st h = some (lv', st', h')) (hrm : am_rm R n0 z0 h') (k : am_W sc p l e R s m args below meth c D b ad nL n0 z0 Q (pc + len) lv' st' h') : am_W sc p l e R s m args below meth c D b ad nL n0 z0 Q pc lv st h := by
  simp only [am_rl, Bool.and_eq_true, decide_eq_true_eq] at hr
  obtain ⟨⟨rfl, rfl⟩, hn⟩ := hr
  simp only [am_i1] at hi
  split at hi
  · cases hi
    exact am_r_istore C hn hd k
  · cases hi
theorem am_o_istore_n (C : am_C p R m c cc nL (am_own cn) s args D meth yn ad) {i : Fin 4} (hini : ini = true → yn = "<init>") (hr : am_rl cn nL ini (.istore_n i) a len = true) (hd : decode cc pc = .ok (.istore_n i, len)) (hi : am_i1 sc a lv st h = some (lv', st', h')) (hrm : am_rm R n0 z0 h') (k : am_W sc p l e R s m args below meth c D b ad nL n0 z0 Q (pc + len) lv' st' h') : am_W sc p l e R s m args below meth c D b ad nL n0 z0 Q pc lv st h := by
  simp only [am_rl, Bool.and_eq_true, decide_eq_true_eq] at hr
  obtain ⟨⟨rfl, rfl⟩, hn⟩ := hr
  simp only [am_i1] at hi
  split at hi
  · cases hi
    exact am_r_istore_n C hn hd k
  · cases hi
theorem am_o_lload (C : am_C p R m c cc nL (am_own cn) s args D meth yn ad) {i : Nat} (hini : ini = true → yn = "<init>") (hr : am_rl cn nL ini (.lload i) a len = true) (hd : decode cc pc = .ok (.lload i, len)) (hi : am_i1 sc a lv st h = some (lv', st', h')) (hrm : am_rm R n0 z0 h') (k : am_W sc p l e R s m args below meth c D b ad nL n0 z0 Q (pc + len) lv' st' h') : am_W sc p l e R s m args below meth c D b ad nL n0 z0 Q pc lv st h := by
  simp only [am_rl, Bool.and_eq_true, decide_eq_true_eq] at hr
  obtain ⟨rfl, rfl⟩ := hr
  simp only [am_i1] at hi
  split at hi
  · rename_i x hl
    cases hi
    exact am_r_lload C hl hd k
  · cases hi
theorem am_o_lload_n (C : am_C p R m c cc nL (am_own cn) s args D meth yn ad) {i : Fin 4} (hini : ini = true → yn = "<init>") (hr : am_rl cn nL ini (.lload_n i) a len = true) (hd : decode cc pc = .ok (.lload_n i, len)) (hi : am_i1 sc a lv st h = some (lv', st', h')) (hrm : am_rm R n0 z0 h') (k : am_W sc p l e R s m args below meth c D b ad nL n0 z0 Q (pc + len) lv' st' h') : am_W sc p l e R s m args below meth c D b ad nL n0 z0 Q pc lv st h := by
  simp only [am_rl, Bool.and_eq_true, decide_eq_true_eq] at hr
  obtain ⟨rfl, rfl⟩ := hr
  simp only [am_i1] at hi
  split at hi
  · rename_i x hl
    cases hi
    exact am_r_lload_n C hl hd k
  · cases hi
theorem am_o_lstore (C : am_C p R m c cc nL (am_own cn) s args D meth yn ad) {i : Nat} (hini : ini = true → yn = "<init>") (hr : am_rl cn nL ini (.lstore i) a len = true) (hd : decode cc pc = .ok (.lstore i, len)) (hi : am_i1 sc a lv st h = some (lv', st', h')) (hrm : am_rm R n0 z0 h') (k : am_W sc p l e R s m args below meth c D b ad nL n0 z0 Q (pc + len) lv' st' h') : am_W sc p l e R s m args below meth c D b ad nL n0 z0 Q pc lv st h := by
  simp only [am_rl, Bool.and_eq_true, decide_eq_true_eq] at hr
  obtain ⟨⟨rfl, rfl⟩, hn⟩ := hr
  simp only [am_i1] at hi
  split at hi
  · cases hi
    exact am_r_lstore C hn hd k
  · cases hi
theorem am_o_lstore_n (C : am_C p R m c cc nL (am_own cn) s args D meth yn ad) {i : Fin 4} (hini : ini = true → yn = "<init>") (hr : am_rl cn nL ini (.lstore_n i) a len = true) (hd : decode cc pc = .ok (.lstore_n i, len)) (hi : am_i1 sc a lv st h = some (lv', st', h')) (hrm : am_rm R n0 z0 h') (k : am_W sc p l e R s m args below meth c D b ad nL n0 z0 Q (pc + len) lv' st' h') : am_W sc p l e R s m args below meth c D b ad nL n0 z0 Q pc lv st h := by
  simp only [am_rl, Bool.and_eq_true, decide_eq_true_eq] at hr
  obtain ⟨⟨rfl, rfl⟩, hn⟩ := hr
  simp only [am_i1] at hi
  split at hi
  · cases hi
    exact am_r_lstore_n C hn hd k
  · cases hi
theorem am_o_aload (C : am_C p R m c cc nL (am_own cn) s args D meth yn ad) {i : Nat} (hini : ini = true → yn = "<init>") (hr : am_rl cn nL ini (.aload i) a len = true) (hd : decode cc pc = .ok (.aload i, len)) (hi : am_i1 sc a lv st h = some (lv', st', h')) (hrm : am_rm R n0 z0 h') (k : am_W sc p l e R s m args below meth c D b ad nL n0 z0 Q (pc + len) lv' st' h') : am_W sc p l e R s m args below meth c D b ad nL n0 z0 Q pc lv st h := by
  simp only [am_rl, Bool.and_eq_true, decide_eq_true_eq] at hr
  obtain ⟨rfl, rfl⟩ := hr
  simp only [am_i1] at hi
  split at hi
  · rename_i v hl
    split at hi
    · rename_i hv
      cases hi
      exact am_r_aload C hl (am_isR_spec hv) hd k
    · cases hi
  · cases hi
theorem am_o_aload_n (C : am_C p R m c cc nL (am_own cn) s args D meth yn ad) {i : Fin 4} (hini : ini = true → yn = "<init>") (hr : am_rl cn nL ini (.aload_n i) a len = true) (hd : decode cc pc = .ok (.aload_n i, len)) (hi : am_i1 sc a lv st h = some (lv', st', h')) (hrm : am_rm R n0 z0 h') (k : am_W sc p l e R s m args below meth c D b ad nL n0 z0 Q (pc + len) lv' st' h') : am_W sc p l e R s m args below meth c D b ad nL n0 z0 Q pc lv st h := by
  simp only [am_rl, Bool.and_eq_true, decide_eq_true_eq] at hr
  obtain ⟨rfl, rfl⟩ := hr
  simp only [am_i1] at hi
  split at hi
  · rename_i v hl
    split at hi
    · rename_i hv
      cases hi
      exact am_r_aload_n C hl (am_isR_spec hv) hd k
    · cases hi
  · cases hi
theorem am_o_astore (C : am_C p R m c cc nL (am_own cn) s args D meth yn ad) {i : Nat} (hini : ini = true → yn = "<init>") (hr : am_rl cn nL ini (.astore i) a len = true) (hd : decode cc pc = .ok (.astore i, len)) (hi : am_i1 sc a lv st h = some (lv', st', h')) (hrm : am_rm R n0 z0 h') (k : am_W sc p l e R s m args below meth c D b ad nL n0 z0 Q (pc + len) lv' st' h') : am_W sc p l e R s m args below meth c D b ad nL n0 z0 Q pc lv st h := by
  simp only [am_rl, Bool.and_eq_true, decide_eq_true_eq] at hr
  obtain ⟨⟨rfl, rfl⟩, hn⟩ := hr
  simp only [am_i1] at hi
  split at hi
  · split at hi
    · rename_i hv
      cases hi
      exact am_r_astore C (am_isR_spec hv) hn hd k
    · cases hi
  · cases hi
theorem am_o_astore_n (C : am_C p R m c cc nL (am_own cn) s args D meth yn ad) {i : Fin 4} (hini : ini = true → yn = "<init>") (hr : am_rl cn nL ini (.astore_n i) a len = true) (hd : decode cc pc = .ok (.astore_n i, len)) (hi : am_i1 sc a lv st h = some (lv', st', h')) (hrm : am_rm R n0 z0 h') (k : am_W sc p l e R s m args below meth c D b ad nL n0 z0 Q (pc + len) lv' st' h') : am_W sc p l e R s m args below meth c D b ad nL n0 z0 Q pc lv st h := by
  simp only [am_rl, Bool.and_eq_true, decide_eq_true_eq] at hr
  obtain ⟨⟨rfl, rfl⟩, hn⟩ := hr
  simp only [am_i1] at hi
  split at hi
  · split at hi
    · rename_i hv
      cases hi
      exact am_r_astore_n C (am_isR_spec hv) hn hd k
    · cases hi
  · cases hi
theorem am_o_iinc (C : am_C p R m c cc nL (am_own cn) s args D meth yn ad) {i : Nat} {n : Int} (hini : ini = true → yn = "<init>") (hr : am_rl cn nL ini (.iinc i n) a len = true) (hd : decode cc pc = .ok (.iinc i n, len)) (hi : am_i1 sc a lv st h = some (lv', st', h')) (hrm : am_rm R n0 z0 h') (k : am_W sc p l e R s m args below meth c D b ad nL n0 z0 Q (pc + len) lv' st' h') : am_W sc p l e R s m args below meth c D b ad nL n0 z0 Q pc lv st h := by
  simp only [am_rl, Bool.and_eq_true, decide_eq_true_eq] at hr
  obtain ⟨⟨rfl, rfl⟩, hn⟩ := hr
  simp only [am_i1] at hi
  split at hi
  · rename_i x hl
    cases hi
    exact am_r_iinc C hl hn hd k
  · cases hi
theorem am_o_getfield (C : am_C p R m c cc nL (am_own cn) s args D meth yn ad) {i : Nat} (hini : ini = true → yn = "<init>") (hr : am_rl cn nL ini (.getfield i) a len = true) (hd : decode cc pc = .ok (.getfield i, len)) (hi : am_i1 sc a lv st h = some (lv', st', h')) (hrm : am_rm R n0 z0 h') (k : am_W sc p l e R s m args below meth c D b ad nL n0 z0 Q (pc + len) lv' st' h') : am_W sc p l e R s m args below meth c D b ad nL n0 z0 Q pc lv st h := by
  simp only [am_rl] at hr
  split at hr
  · rename_i f
    simp only [Bool.and_eq_true, Bool.or_eq_true, decide_eq_true_eq] at hr
    obtain ⟨rfl, he⟩ := hr
    simp only [am_i1] at hi
    obtain ⟨e1, rfl, rfl⟩ := am_st_spec hi
    unfold am_get at e1
    split at e1
    · rename_i x r
      split at e1
      · rename_i hk
        cases e1
        obtain ⟨hf, hx⟩ := hk
        rcases he with ((he | he) | he) | he
        · obtain ⟨C0, T, N, g1, g2, g3, g4⟩ := am_en1 he
          omega
        · obtain ⟨C0, T, N, g1, g2, g3, host, g4⟩ := am_en2 he
          omega
        · obtain ⟨rfl, he⟩ := he
          omega
        · have hw := am_en16 he.2
          have hX : ∀ H : Heap, am_R sc s D b ad h' H → _ := fun H z => z.2.2.2.2.2.2.2.2.2 x hx
          by_cases hf0 : f = 0
          · subst hf0
            exact am_r_getX (v := .retAddr (3000 + x)) C (fun H z => (hX H z).2.2.1) hw hd k
          · have hf1 : f = 1 := by omega
            subst hf1
            exact am_r_getX (v := .int 0) C (fun H z => (hX H z).2.1) hw hd k
      · cases e1
    · rename_i x r
      split at e1
      · rename_i ob ho
        split at e1
        · rename_i hk
          split at e1
          · rename_i v hv
            cases e1
            obtain ⟨o1, o2⟩ := ob
            simp only at hk hv
            obtain ⟨hk3, hk⟩ := hk
            subst hk
            rcases he with ((he | he) | he) | he
            · obtain ⟨C0, T, N, g1, g2, g3, g4⟩ := am_en1 he
              exact am_r_get C (am_cls_of g1 g2) g3 (Or.inl g4) (Or.inl rfl) ho hv hd k
            · obtain ⟨C0, T, N, g1, g2, g3, host, g4⟩ := am_en2 he
              exact am_r_get C (am_cls_of g1 g2) g3 (Or.inr ⟨host, g4⟩) (Or.inl rfl) ho hv hd k
            · obtain ⟨rfl, he⟩ := he
              exact am_r_get (kf := 0) (ref := "java/util/ArrayList") C am_cls3 (by decide) (Or.inl (am_en14 he)) (Or.inr am_same) ho hv hd k
            · omega
          · cases e1
        · cases e1
      · cases e1
    · cases e1
  · cases hr
theorem am_o_putfield (C : am_C p R m c cc nL (am_own cn) s args D meth yn ad) {i : Nat} (hini : ini = true → yn = "<init>") (hr : am_rl cn nL ini (.putfield i) a len = true) (hd : decode cc pc = .ok (.putfield i, len)) (hi : am_i1 sc a lv st h = some (lv', st', h')) (hrm : am_rm R n0 z0 h') (k : am_W sc p l e R s m args below meth c D b ad nL n0 z0 Q (pc + len) lv' st' h') : am_W sc p l e R s m args below meth c D b ad nL n0 z0 Q pc lv st h := by
  simp only [am_rl] at hr
  split at hr
  · rename_i f
    simp only [Bool.and_eq_true, Bool.or_eq_true, decide_eq_true_eq, Bool.not_eq_true'] at hr
    obtain ⟨rfl, he⟩ := hr
    simp only [am_i1] at hi
    obtain ⟨e1, rfl⟩ := am_sh_spec hi
    unfold am_put at e1
    split at e1
    · rename_i v x r
      split at e1
      · rename_i ob ho
        split at e1
        · rename_i hk
          cases e1
          obtain ⟨o1, o2⟩ := ob
          simp only at hk
          obtain ⟨rfl, hk2, hk3⟩ := hk
          rcases he with (⟨hf, he | he⟩ | he) | ⟨⟨⟨hf, hin⟩, he⟩, hdc⟩
          · obtain ⟨C0, T, N, g1, g2, g3, g4⟩ := am_en1 he
            have hf2 : (T (f % 128)).2.2.2 = false := by simpa [am_fin, g1] using hf
            exact am_r_put C (am_cls_of g1 g2) g3 (Or.inl ⟨hf2, Or.inl g4⟩) (Or.inl rfl) ho hk2 hk3 hd k
          · obtain ⟨C0, T, N, g1, g2, g3, host, g4⟩ := am_en2 he
            have hf2 : (T (f % 128)).2.2.2 = false := by simpa [am_fin, g1] using hf
            exact am_r_put C (am_cls_of g1 g2) g3 (Or.inl ⟨hf2, Or.inr ⟨host, g4⟩⟩) (Or.inl rfl) ho hk2 hk3 hd k
          · obtain ⟨rfl, he⟩ := he
            exact am_r_put (kf := 0) (ref := "java/util/ArrayList") C am_cls3 (by decide) (Or.inl ⟨rfl, Or.inl (am_en14 he)⟩) (Or.inr am_same) ho hk2 hk3 hd k
          · obtain ⟨C0, T, N, g1, g2, g3, g4⟩ := am_en1 he
            have hf2 : (T (f % 128)).2.2.2 = true := by simpa [am_fin, g1] using hf
            have hd2 : (T (f % 128)).1 = am_own cn := by simpa [am_dec, g1] using hdc
            exact am_r_put C (am_cls_of g1 g2) g3 (Or.inr ⟨hf2, hini hin, hd2, rfl, g4⟩) (Or.inl rfl) ho hk2 hk3 hd k
        · cases e1
      · cases e1
    · cases e1
  · cases hr
theorem am_o_iaload (C : am_C p R m c cc nL (am_own cn) s args D meth yn ad)  (hini : ini = true → yn = "<init>") (hr : am_rl cn nL ini (.iaload) a len = true) (hd : decode cc pc = .ok (.iaload, len)) (hi : am_i1 sc a lv st h = some (lv', st', h')) (hrm : am_rm R n0 z0 h') (k : am_W sc p l e R s m args below meth c D b ad nL n0 z0 Q (pc + len) lv' st' h') : am_W sc p l e R s m args below meth c D b ad nL n0 z0 Q pc lv st h := by
  simp only [am_rl, Bool.and_eq_true, decide_eq_true_eq] at hr
  obtain ⟨rfl, rfl⟩ := hr
  simp only [am_i1] at hi
  split at hi
  · obtain ⟨e1, rfl, rfl⟩ := am_st_spec hi
    unfold am_scr at e1
    split at e1
    · rename_i he
      split at e1
      · rename_i j hj
        cases e1
        cases he
        exact am_r_scld C hj hd k
      · cases e1
    · cases e1
  · obtain ⟨e1, rfl, rfl⟩ := am_st_spec hi
    unfold am_gld at e1
    split at e1
    · split at e1
      · rename_i ob ho
        split at e1
        · rename_i hk
          split at e1
          · rename_i j hj
            split at e1
            · rename_i v hv
              cases e1
              obtain ⟨o1, o2⟩ := ob
              simp only [beq_iff_eq] at hk
              subst hk
              exact am_r_iald C ho hj hv hd k
            · cases e1
          · cases e1
        · cases e1
      · cases e1
    · cases e1
theorem am_o_laload (C : am_C p R m c cc nL (am_own cn) s args D meth yn ad)  (hini : ini = true → yn = "<init>") (hr : am_rl cn nL ini (.laload) a len = true) (hd : decode cc pc = .ok (.laload, len)) (hi : am_i1 sc a lv st h = some (lv', st', h')) (hrm : am_rm R n0 z0 h') (k : am_W sc p l e R s m args below meth c D b ad nL n0 z0 Q (pc + len) lv' st' h') : am_W sc p l e R s m args below meth c D b ad nL n0 z0 Q pc lv st h := by
  simp only [am_rl, Bool.and_eq_true, decide_eq_true_eq] at hr
  obtain ⟨rfl, rfl⟩ := hr
  simp only [am_i1] at hi
  obtain ⟨e1, rfl, rfl⟩ := am_st_spec hi
  unfold am_gld at e1
  split at e1
  · split at e1
    · rename_i ob ho
      split at e1
      · rename_i hk
        split at e1
        · rename_i j hj
          split at e1
          · rename_i v hv
            cases e1
            obtain ⟨o1, o2⟩ := ob
            simp only [beq_iff_eq] at hk
            subst hk
            exact am_r_lald C ho hj hv hd k
          · cases e1
        · cases e1
      · cases e1
    · cases e1
  · cases e1
theorem am_o_baload (C : am_C p R m c cc nL (am_own cn) s args D meth yn ad)  (hini : ini = true → yn = "<init>") (hr : am_rl cn nL ini (.baload) a len = true) (hd : decode cc pc = .ok (.baload, len)) (hi : am_i1 sc a lv st h = some (lv', st', h')) (hrm : am_rm R n0 z0 h') (k : am_W sc p l e R s m args below meth c D b ad nL n0 z0 Q (pc + len) lv' st' h') : am_W sc p l e R s m args below meth c D b ad nL n0 z0 Q pc lv st h := by
  simp only [am_rl, Bool.and_eq_true, decide_eq_true_eq] at hr
  obtain ⟨rfl, rfl⟩ := hr
  simp only [am_i1] at hi
  split at hi
  · rename_i i t r
    obtain ⟨e1, rfl, rfl⟩ := am_st_spec hi
    simp only [am_xb] at e1
    by_cases ht : 3000 ≤ t ∧ t < 3000 + am_txt.length
    · rw [if_pos ht] at e1
      split at e1
      · rename_i j hj
        · cases e1
          have hX : ∀ H : Heap, am_R sc s D b ad h' H → _ := fun H z => (z.2.2.2.2.2.2.2.2.2 (t - 3000) (by omega)).2.2.2
          rw [show 3000 + (t - 3000) = t by omega] at hX
          exact am_r_xbld C hX hj rfl hd k
      · cases e1
    · rw [if_neg ht] at e1
      cases e1
  · obtain ⟨e1, rfl, rfl⟩ := am_st_spec hi
    unfold am_gld at e1
    split at e1
    · split at e1
      · rename_i ob ho
        split at e1
        · rename_i hk
          split at e1
          · rename_i j hj
            split at e1
            · rename_i v hv
              cases e1
              obtain ⟨o1, o2⟩ := ob
              simp only [beq_iff_eq] at hk
              subst hk
              exact am_r_zald C ho hj hv hd k
            · cases e1
          · cases e1
        · cases e1
      · cases e1
    · cases e1
theorem am_o_aaload (C : am_C p R m c cc nL (am_own cn) s args D meth yn ad)  (hini : ini = true → yn = "<init>") (hr : am_rl cn nL ini (.aaload) a len = true) (hd : decode cc pc = .ok (.aaload, len)) (hi : am_i1 sc a lv st h = some (lv', st', h')) (hrm : am_rm R n0 z0 h') (k : am_W sc p l e R s m args below meth c D b ad nL n0 z0 Q (pc + len) lv' st' h') : am_W sc p l e R s m args below meth c D b ad nL n0 z0 Q pc lv st h := by
  simp only [am_rl, Bool.and_eq_true, decide_eq_true_eq] at hr
  obtain ⟨rfl, rfl⟩ := hr
  simp only [am_i1] at hi
  obtain ⟨e1, rfl, rfl⟩ := am_st_spec hi
  unfold am_gld at e1
  split at e1
  · split at e1
    · rename_i ob ho
      split at e1
      · rename_i hk
        split at e1
        · rename_i j hj
          split at e1
          · rename_i v hv
            cases e1
            obtain ⟨o1, o2⟩ := ob
            simp only [Bool.and_eq_true, decide_eq_true_eq] at hk
            exact am_r_aald C hk ho hj hv hd k
          · cases e1
        · cases e1
      · cases e1
    · cases e1
  · cases e1
theorem am_o_arraylength (C : am_C p R m c cc nL (am_own cn) s args D meth yn ad)  (hini : ini = true → yn = "<init>") (hr : am_rl cn nL ini (.arraylength) a len = true) (hd : decode cc pc = .ok (.arraylength, len)) (hi : am_i1 sc a lv st h = some (lv', st', h')) (hrm : am_rm R n0 z0 h') (k : am_W sc p l e R s m args below meth c D b ad nL n0 z0 Q (pc + len) lv' st' h') : am_W sc p l e R s m args below meth c D b ad nL n0 z0 Q pc lv st h := by
  simp only [am_rl, Bool.and_eq_true, decide_eq_true_eq] at hr
  obtain ⟨rfl, rfl⟩ := hr
  simp only [am_i1] at hi
  obtain ⟨e1, rfl, rfl⟩ := am_st_spec hi
  unfold am_alen at e1
  split at e1
  · rename_i i r
    by_cases h1 : i = 2000
    · rw [if_pos h1] at e1
      cases e1
      subst h1
      exact am_r_sclen C hd k
    · rw [if_neg h1] at e1
      by_cases h2 : i = 1000
      · rw [if_pos h2] at e1
        cases e1
        subst h2
        exact am_r_xlen (n := 0) C (fun H z => z.2.2.2.2.2.2.1) hd k
      · rw [if_neg h2] at e1
        by_cases h3 : 3000 ≤ i ∧ i < 3000 + am_txt.length
        · rw [if_pos h3] at e1
          cases e1
          have hX : ∀ H : Heap, am_R sc s D b ad h' H → _ := fun H z => (z.2.2.2.2.2.2.2.2.2 (i - 3000) (by omega)).2.2.2
          rw [show 3000 + (i - 3000) = i by omega] at hX
          exact am_r_xlen C hX hd k
        · rw [if_neg h3] at e1
          cases e1
  · split at e1
    · rename_i ob ho
      split at e1
      · rename_i hk
        cases e1
        obtain ⟨o1, o2⟩ := ob
        exact am_r_alen C hk ho hd k
      · cases e1
    · cases e1
  · cases e1
theorem am_o_iastore (C : am_C p R m c cc nL (am_own cn) s args D meth yn ad)  (hini : ini = true → yn = "<init>") (hr : am_rl cn nL ini (.iastore) a len = true) (hd : decode cc pc = .ok (.iastore, len)) (hi : am_i1 sc a lv st h = some (lv', st', h')) (hrm : am_rm R n0 z0 h') (k : am_W sc p l e R s m args below meth c D b ad nL n0 z0 Q (pc + len) lv' st' h') : am_W sc p l e R s m args below meth c D b ad nL n0 z0 Q pc lv st h := by
  simp only [am_rl, Bool.and_eq_true, decide_eq_true_eq] at hr
  obtain ⟨rfl, rfl⟩ := hr
  simp only [am_i1] at hi
  obtain ⟨e1, rfl⟩ := am_sh_spec hi
  unfold am_gst at e1
  split at e1
  · split at e1
    · rename_i ob ho
      split at e1
      · rename_i hk
        split at e1
        · rename_i j hj
          cases e1
          obtain ⟨o1, o2⟩ := ob
          unfold am_kI at hk
          simp only at hk
          split at hk
          · simp only [beq_iff_eq] at hk
            subst hk
            exact am_r_iast C ho hj hd k
          · cases hk
        · cases e1
      · cases e1
    · cases e1
  · cases e1
theorem am_o_lastore (C : am_C p R m c cc nL (am_own cn) s args D meth yn ad)  (hini : ini = true → yn = "<init>") (hr : am_rl cn nL ini (.lastore) a len = true) (hd : decode cc pc = .ok (.lastore, len)) (hi : am_i1 sc a lv st h = some (lv', st', h')) (hrm : am_rm R n0 z0 h') (k : am_W sc p l e R s m args below meth c D b ad nL n0 z0 Q (pc + len) lv' st' h') : am_W sc p l e R s m args below meth c D b ad nL n0 z0 Q pc lv st h := by
  simp only [am_rl, Bool.and_eq_true, decide_eq_true_eq] at hr
  obtain ⟨rfl, rfl⟩ := hr
  simp only [am_i1] at hi
  obtain ⟨e1, rfl⟩ := am_sh_spec hi
  unfold am_gst at e1
  split at e1
  · split at e1
    · rename_i ob ho
      split at e1
      · rename_i hk
        split at e1
        · rename_i j hj
          cases e1
          obtain ⟨o1, o2⟩ := ob
          unfold am_kJ at hk
          simp only at hk
          split at hk
          · simp only [beq_iff_eq] at hk
            subst hk
            exact am_r_last C ho hj hd k
          · cases hk
        · cases e1
      · cases e1
    · cases e1
  · cases e1
theorem am_o_bastore (C : am_C p R m c cc nL (am_own cn) s args D meth yn ad)  (hini : ini = true → yn = "<init>") (hr : am_rl cn nL ini (.bastore) a len = true) (hd : decode cc pc = .ok (.bastore, len)) (hi : am_i1 sc a lv st h = some (lv', st', h')) (hrm : am_rm R n0 z0 h') (k : am_W sc p l e R s m args below meth c D b ad nL n0 z0 Q (pc + len) lv' st' h') : am_W sc p l e R s m args below meth c D b ad nL n0 z0 Q pc lv st h := by
  simp only [am_rl, Bool.and_eq_true, decide_eq_true_eq] at hr
  obtain ⟨rfl, rfl⟩ := hr
  simp only [am_i1] at hi
  obtain ⟨e1, rfl⟩ := am_sh_spec hi
  unfold am_gst at e1
  split at e1
  · split at e1
    · rename_i ob ho
      split at e1
      · rename_i hk
        split at e1
        · rename_i j hj
          cases e1
          obtain ⟨o1, o2⟩ := ob
          unfold am_kZ at hk
          simp only at hk
          split at hk
          · simp only [Bool.and_eq_true, Bool.or_eq_true, beq_iff_eq] at hk
            obtain ⟨rfl, hx⟩ := hk
            exact am_r_zast C hx ho hj hd k
          · cases hk
        · cases e1
      · cases e1
    · cases e1
  · cases e1
theorem am_o_aastore (C : am_C p R m c cc nL (am_own cn) s args D meth yn ad)  (hini : ini = true → yn = "<init>") (hr : am_rl cn nL ini (.aastore) a len = true) (hd : decode cc pc = .ok (.aastore, len)) (hi : am_i1 sc a lv st h = some (lv', st', h')) (hrm : am_rm R n0 z0 h') (k : am_W sc p l e R s m args below meth c D b ad nL n0 z0 Q (pc + len) lv' st' h') : am_W sc p l e R s m args below meth c D b ad nL n0 z0 Q pc lv st h := by
  simp only [am_rl, Bool.and_eq_true, decide_eq_true_eq] at hr
  obtain ⟨rfl, rfl⟩ := hr
  simp only [am_i1] at hi
  obtain ⟨e1, rfl⟩ := am_sh_spec hi
  unfold am_gst at e1
  split at e1
  · split at e1
    · rename_i ob ho
      split at e1
      · rename_i hk
        split at e1
        · rename_i j hj
          cases e1
          obtain ⟨o1, o2⟩ := ob
          unfold am_kA at hk
          simp only at hk
          split at hk
          · simp only [Bool.and_eq_true, decide_eq_true_eq] at hk
            exact am_r_aastN C hk ho hj hd k
          · split at hk
            · rename_i ox hx
              simp only [Bool.and_eq_true, Bool.or_eq_true, decide_eq_true_eq, beq_iff_eq] at hk
              obtain ⟨x1, x2⟩ := ox
              rcases hk with ⟨hk1, rfl | ⟨rfl, hk2⟩⟩
              · exact am_r_aastR C hk1 ho hx hj hd k
              · refine am_r_aastO C hk1 ?_ ho hx hj hd k
                simp only at hk2
                rcases hk2 with rfl | rfl | rfl
                · show (am_clN 4, _) ∈ am_cst; decide
                · show (am_clN 5, _) ∈ am_cst; decide
                · show (am_clN 7, _) ∈ am_cst; decide
            · cases hk
          · cases hk
        · cases e1
      · cases e1
    · cases e1
  · cases e1
theorem am_o_new (C : am_C p R m c cc nL (am_own cn) s args D meth yn ad) {i : Nat} (hini : ini = true → yn = "<init>") (hr : am_rl cn nL ini (.new i) a len = true) (hd : decode cc pc = .ok (.new i, len)) (hi : am_i1 sc a lv st h = some (lv', st', h')) (hrm : am_rm R n0 z0 h') (k : am_W sc p l e R s m args below meth c D b ad nL n0 z0 Q (pc + len) lv' st' h') : am_W sc p l e R s m args below meth c D b ad nL n0 z0 Q pc lv st h := by
  simp only [am_rl] at hr
  split at hr
  · rename_i ci
    simp only [Bool.and_eq_true, decide_eq_true_eq] at hr
    obtain ⟨rfl, he⟩ := hr
    simp only [am_i1] at hi
    cases hi
    obtain ⟨C0, T, N, g1, g2, g3⟩ := am_en3 he
    obtain ⟨d1, d2⟩ := am_df_ok g1 g2
    obtain ⟨w2, w3⟩ := am_ini g1 g2
    exact am_r_new C (am_cls_of g1 g2) g3 w2 w3 d1 d2 hrm hd k
  · cases hr
theorem am_o_newarray (C : am_C p R m c cc nL (am_own cn) s args D meth yn ad) {t : ArrayType} (hini : ini = true → yn = "<init>") (hr : am_rl cn nL ini (.newarray t) a len = true) (hd : decode cc pc = .ok (.newarray t, len)) (hi : am_i1 sc a lv st h = some (lv', st', h')) (hrm : am_rm R n0 z0 h') (k : am_W sc p l e R s m args below meth c D b ad nL n0 z0 Q (pc + len) lv' st' h') : am_W sc p l e R s m args below meth c D b ad nL n0 z0 Q pc lv st h := by
  simp only [am_rl, Bool.and_eq_true, decide_eq_true_eq] at hr
  obtain ⟨rfl, rfl⟩ := hr
  simp only [am_i1] at hi
  split at hi
  · obtain ⟨e1, rfl⟩ := am_sh_spec hi
    unfold am_mka at e1
    split at e1
    · split at e1
      · rename_i hk
        cases e1
        exact am_r_newa (at0 := .int) C ⟨by decide, by decide⟩ rfl rfl rfl (fun t ht => by cases ht) (fun _ => Iff.rfl) (by decide) am_w_int hk.1 hk.2 hrm hd k
      · cases e1
    · cases e1
  · obtain ⟨e1, rfl⟩ := am_sh_spec hi
    unfold am_mka at e1
    split at e1
    · split at e1
      · rename_i hk
        cases e1
        exact am_r_newa (at0 := .long) C ⟨by decide, by decide⟩ rfl rfl rfl (fun t ht => by cases ht) (fun _ => Iff.rfl) (by decide) am_w_long hk.1 hk.2 hrm hd k
      · cases e1
    · cases e1
  · obtain ⟨e1, rfl⟩ := am_sh_spec hi
    unfold am_mka at e1
    split at e1
    · split at e1
      · rename_i hk
        cases e1
        exact am_r_newa (at0 := .boolean) C ⟨by decide, by decide⟩ rfl rfl rfl (fun t ht => by cases ht) (fun _ => Iff.rfl) (by decide) am_w_boolean hk.1 hk.2 hrm hd k
      · cases e1
    · cases e1
  · cases hi
theorem am_o_anewarray (C : am_C p R m c cc nL (am_own cn) s args D meth yn ad) {i : Nat} (hini : ini = true → yn = "<init>") (hr : am_rl cn nL ini (.anewarray i) a len = true) (hd : decode cc pc = .ok (.anewarray i, len)) (hi : am_i1 sc a lv st h = some (lv', st', h')) (hrm : am_rm R n0 z0 h') (k : am_W sc p l e R s m args below meth c D b ad nL n0 z0 Q (pc + len) lv' st' h') : am_W sc p l e R s m args below meth c D b ad nL n0 z0 Q pc lv st h := by
  simp only [am_rl] at hr
  split at hr
  · rename_i ki
    simp only [Bool.and_eq_true, Bool.or_eq_true, decide_eq_true_eq] at hr
    obtain ⟨rfl, he⟩ := hr
    simp only [am_i1] at hi
    obtain ⟨e1, rfl⟩ := am_sh_spec hi
    unfold am_mka at e1
    split at e1
    · split at e1
      · rename_i hk
        cases e1
        rcases he with (⟨rfl, he⟩ | ⟨rfl, he⟩) | ⟨⟨h2, ha⟩, he⟩
        · rcases am_en4 he with ⟨-, w⟩ | ⟨q, -⟩
          · exact am_r_anewA C w am_w_AI hk.1 hk.2 hrm hd k
          · cases q
        · rcases am_en4 he with ⟨q, -⟩ | ⟨-, w⟩
          · cases q
          · exact am_r_anew C ⟨by decide, by decide⟩ rfl w (by decide) hk.1 hk.2 hrm hd k
        · obtain ⟨C0, T, N, g1, g2, g3⟩ := am_en3 he
          obtain ⟨a1, a2, C1, a3, a4⟩ := am_ao_ok ha
          have hC : C1 = C0 := by
            have a5 : am_kty ki = .object (am_clN (ki - 200)) := by
              unfold am_kty
              rw [if_neg (by omega), if_neg (by omega), if_neg (by omega), if_neg (by omega), if_neg (by omega)]
            rw [a5] at a3
            unfold am_clN at a3
            rw [g1] at a3
            exact (FieldType.object.inj a3).symm
          subst hC
          exact am_r_anew C ⟨by omega, a2⟩ a3 g3 a4 hk.1 hk.2 hrm hd k
      · cases e1
    · cases e1
  · cases hr
theorem am_o_checkcast (C : am_C p R m c cc nL (am_own cn) s args D meth yn ad) {i : Nat} (hini : ini = true → yn = "<init>") (hr : am_rl cn nL ini (.checkcast i) a len = true) (hd : decode cc pc = .ok (.checkcast i, len)) (hi : am_i1 sc a lv st h = some (lv', st', h')) (hrm : am_rm R n0 z0 h') (k : am_W sc p l e R s m args below meth c D b ad nL n0 z0 Q (pc + len) lv' st' h') : am_W sc p l e R s m args below meth c D b ad nL n0 z0 Q pc lv st h := by
  simp only [am_rl] at hr
  split at hr
  · rename_i ci
    simp only [Bool.and_eq_true, decide_eq_true_eq] at hr
    obtain ⟨rfl, he⟩ := hr
    simp only [am_i1] at hi
    obtain ⟨C0, T, N, g1, g2, g3⟩ := am_en3 he
    split at hi
    · cases hi
      exact am_r_castN C hd k
    · split at hi
      · rename_i ob ho
        split at hi
        · rename_i hk
          cases hi
          obtain ⟨o1, o2⟩ := ob
          simp only at hk
          subst hk
          exact am_r_cast C (am_cls_of g1 g2).1 g1 g3 ho hd k
        · cases hi
      · cases hi
    · cases hi
  · cases hr
theorem am_o_invokespecial (C : am_C p R m c cc nL (am_own cn) s args D meth yn ad) {i : Nat} (hini : ini = true → yn = "<init>") (hr : am_rl cn nL ini (.invokespecial i) a len = true) (hd : decode cc pc = .ok (.invokespecial i, len)) (hi : am_i1 sc a lv st h = some (lv', st', h')) (hrm : am_rm R n0 z0 h') (k : am_W sc p l e R s m args below meth c D b ad nL n0 z0 Q (pc + len) lv' st' h') : am_W sc p l e R s m args below meth c D b ad nL n0 z0 Q pc lv st h := by
  simp only [am_rl] at hr
  split at hr
  · simp only [Bool.and_eq_true, decide_eq_true_eq] at hr
    obtain ⟨rfl, he⟩ := hr
    simp only [am_i1] at hi
    split at hi
    · split at hi
      · rename_i hk
        cases hi
        exact am_r_objI C (am_en9 he) am_w_oi am_w_oc hk hd k
      · cases hi
    · cases hi
  · cases hr
theorem am_o_invokestatic (C : am_C p R m c cc nL (am_own cn) s args D meth yn ad) {i : Nat} (hini : ini = true → yn = "<init>") (hr : am_rl cn nL ini (.invokestatic i) a len = true) (hd : decode cc pc = .ok (.invokestatic i, len)) (hi : am_i1 sc a lv st h = some (lv', st', h')) (hrm : am_rm R n0 z0 h') (k : am_W sc p l e R s m args below meth c D b ad nL n0 z0 Q (pc + len) lv' st' h') : am_W sc p l e R s m args below meth c D b ad nL n0 z0 Q pc lv st h := by
  simp only [am_rl] at hr
  split at hr
  · simp only [Bool.and_eq_true, Bool.or_eq_true, decide_eq_true_eq] at hr
    obtain ⟨rfl, he⟩ := hr
    simp only [am_i1] at hi
    split at hi
    · split at hi
      · rename_i hk
        cases hi
        rcases he with ⟨rfl, he⟩ | ⟨rfl, he⟩
        · exact am_r_mmin C (am_en10 he) am_w_mins am_w_math am_w_minc hrm hk hd k
        · exact am_r_mmax C (am_en11 he) am_w_maxs am_w_math am_w_maxc hrm hk hd k
      · cases hi
    · cases hi
  · cases hr
theorem am_o_dconst (C : am_C p R m c cc nL (am_own cn) s args D meth yn ad) {n : Fin 2} (hini : ini = true → yn = "<init>") (hr : am_rl cn nL ini (.dconst n) a len = true) (hd : decode cc pc = .ok (.dconst n, len)) (hi : am_i1 sc a lv st h = some (lv', st', h')) (hrm : am_rm R n0 z0 h') (k : am_W sc p l e R s m args below meth c D b ad nL n0 z0 Q (pc + len) lv' st' h') : am_W sc p l e R s m args below meth c D b ad nL n0 z0 Q pc lv st h := by
  simp only [am_rl, Bool.and_eq_true, decide_eq_true_eq] at hr
  obtain ⟨⟨rfl, rfl⟩, rfl⟩ := hr
  simp only [am_i1] at hi
  split at hi
  · cases hi
    exact am_r_dconst0 C hd k
  · cases hi
theorem am_o_fconst (C : am_C p R m c cc nL (am_own cn) s args D meth yn ad) {n : Fin 3} (hini : ini = true → yn = "<init>") (hr : am_rl cn nL ini (.fconst n) a len = true) (hd : decode cc pc = .ok (.fconst n, len)) (hi : am_i1 sc a lv st h = some (lv', st', h')) (hrm : am_rm R n0 z0 h') (k : am_W sc p l e R s m args below meth c D b ad nL n0 z0 Q (pc + len) lv' st' h') : am_W sc p l e R s m args below meth c D b ad nL n0 z0 Q pc lv st h := by
  simp only [am_rl, Bool.and_eq_true, decide_eq_true_eq] at hr
  obtain ⟨⟨rfl, rfl⟩, rfl⟩ := hr
  simp only [am_i1] at hi
  split at hi
  · cases hi
    exact am_r_fconst0 C hd k
  · cases hi
theorem am_o_i2d (C : am_C p R m c cc nL (am_own cn) s args D meth yn ad)  (hini : ini = true → yn = "<init>") (hr : am_rl cn nL ini (.i2d) a len = true) (hd : decode cc pc = .ok (.i2d, len)) (hi : am_i1 sc a lv st h = some (lv', st', h')) (hrm : am_rm R n0 z0 h') (k : am_W sc p l e R s m args below meth c D b ad nL n0 z0 Q (pc + len) lv' st' h') : am_W sc p l e R s m args below meth c D b ad nL n0 z0 Q pc lv st h := by
  simp only [am_rl, Bool.and_eq_true, decide_eq_true_eq] at hr
  obtain ⟨rfl, rfl⟩ := hr
  simp only [am_i1] at hi
  split at hi
  · cases hi
    exact am_r_i2d C hd k
  · cases hi
theorem am_o_i2f (C : am_C p R m c cc nL (am_own cn) s args D meth yn ad)  (hini : ini = true → yn = "<init>") (hr : am_rl cn nL ini (.i2f) a len = true) (hd : decode cc pc = .ok (.i2f, len)) (hi : am_i1 sc a lv st h = some (lv', st', h')) (hrm : am_rm R n0 z0 h') (k : am_W sc p l e R s m args below meth c D b ad nL n0 z0 Q (pc + len) lv' st' h') : am_W sc p l e R s m args below meth c D b ad nL n0 z0 Q pc lv st h := by
  simp only [am_rl, Bool.and_eq_true, decide_eq_true_eq] at hr
  obtain ⟨rfl, rfl⟩ := hr
  simp only [am_i1] at hi
  split at hi
  · cases hi
    exact am_r_i2f C hd k
  · cases hi
theorem am_o_l2d (C : am_C p R m c cc nL (am_own cn) s args D meth yn ad)  (hini : ini = true → yn = "<init>") (hr : am_rl cn nL ini (.l2d) a len = true) (hd : decode cc pc = .ok (.l2d, len)) (hi : am_i1 sc a lv st h = some (lv', st', h')) (hrm : am_rm R n0 z0 h') (k : am_W sc p l e R s m args below meth c D b ad nL n0 z0 Q (pc + len) lv' st' h') : am_W sc p l e R s m args below meth c D b ad nL n0 z0 Q pc lv st h := by
  simp only [am_rl, Bool.and_eq_true, decide_eq_true_eq] at hr
  obtain ⟨rfl, rfl⟩ := hr
  simp only [am_i1] at hi
  split at hi
  · cases hi
    exact am_r_l2d C hd k
  · cases hi
theorem am_o_f2d (C : am_C p R m c cc nL (am_own cn) s args D meth yn ad)  (hini : ini = true → yn = "<init>") (hr : am_rl cn nL ini (.f2d) a len = true) (hd : decode cc pc = .ok (.f2d, len)) (hi : am_i1 sc a lv st h = some (lv', st', h')) (hrm : am_rm R n0 z0 h') (k : am_W sc p l e R s m args below meth c D b ad nL n0 z0 Q (pc + len) lv' st' h') : am_W sc p l e R s m args below meth c D b ad nL n0 z0 Q pc lv st h := by
  simp only [am_rl, Bool.and_eq_true, decide_eq_true_eq] at hr
  obtain ⟨rfl, rfl⟩ := hr
  simp only [am_i1] at hi
  split at hi
  · split at hi
    · rename_i hn
      cases hi
      exact am_r_f2d C hn hd k
    · cases hi
  · cases hi
theorem am_o_ddiv (C : am_C p R m c cc nL (am_own cn) s args D meth yn ad)  (hini : ini = true → yn = "<init>") (hr : am_rl cn nL ini (.ddiv) a len = true) (hd : decode cc pc = .ok (.ddiv, len)) (hi : am_i1 sc a lv st h = some (lv', st', h')) (hrm : am_rm R n0 z0 h') (k : am_W sc p l e R s m args below meth c D b ad nL n0 z0 Q (pc + len) lv' st' h') : am_W sc p l e R s m args below meth c D b ad nL n0 z0 Q pc lv st h := by
  simp only [am_rl, Bool.and_eq_true, decide_eq_true_eq] at hr
  obtain ⟨rfl, rfl⟩ := hr
  simp only [am_i1] at hi
  split at hi
  · split at hi
    · rename_i hn
      cases hi
      exact am_r_ddiv C hn hd k
    · cases hi
  · cases hi
theorem am_o_fdiv (C : am_C p R m c cc nL (am_own cn) s args D meth yn ad)  (hini : ini = true → yn = "<init>") (hr : am_rl cn nL ini (.fdiv) a len = true) (hd : decode cc pc = .ok (.fdiv, len)) (hi : am_i1 sc a lv st h = some (lv', st', h')) (hrm : am_rm R n0 z0 h') (k : am_W sc p l e R s m args below meth c D b ad nL n0 z0 Q (pc + len) lv' st' h') : am_W sc p l e R s m args below meth c D b ad nL n0 z0 Q pc lv st h := by
  simp only [am_rl, Bool.and_eq_true, decide_eq_true_eq] at hr
  obtain ⟨rfl, rfl⟩ := hr
  simp only [am_i1] at hi
  split at hi
  · split at hi
    · rename_i hn
      cases hi
      exact am_r_fdiv C hn hd k
    · cases hi
  · cases hi
theorem am_o_dcmp (C : am_C p R m c cc nL (am_own cn) s args D meth yn ad) {op : CmpOp} (hini : ini = true → yn = "<init>") (hr : am_rl cn nL ini (.dcmp op) a len = true) (hd : decode cc pc = .ok (.dcmp op, len)) (hi : am_i1 sc a lv st h = some (lv', st', h')) (hrm : am_rm R n0 z0 h') (k : am_W sc p l e R s m args below meth c D b ad nL n0 z0 Q (pc + len) lv' st' h') : am_W sc p l e R s m args below meth c D b ad nL n0 z0 Q pc lv st h := by
  simp only [am_rl, Bool.and_eq_true, decide_eq_true_eq] at hr
  obtain ⟨rfl, rfl⟩ := hr
  simp only [am_i1] at hi
  split at hi
  · cases hi
    exact am_r_dcmp C hd k
  · cases hi
theorem am_o_dload (C : am_C p R m c cc nL (am_own cn) s args D meth yn ad) {i : Nat} (hini : ini = true → yn = "<init>") (hr : am_rl cn nL ini (.dload i) a len = true) (hd : decode cc pc = .ok (.dload i, len)) (hi : am_i1 sc a lv st h = some (lv', st', h')) (hrm : am_rm R n0 z0 h') (k : am_W sc p l e R s m args below meth c D b ad nL n0 z0 Q (pc + len) lv' st' h') : am_W sc p l e R s m args below meth c D b ad nL n0 z0 Q pc lv st h := by
  simp only [am_rl, Bool.and_eq_true, decide_eq_true_eq] at hr
  obtain ⟨rfl, rfl⟩ := hr
  simp only [am_i1] at hi
  split at hi
  · rename_i x hl
    cases hi
    exact am_r_dload C hl hd k
  · cases hi
theorem am_o_dload_n (C : am_C p R m c cc nL (am_own cn) s args D meth yn ad) {i : Fin 4} (hini : ini = true → yn = "<init>") (hr : am_rl cn nL ini (.dload_n i) a len = true) (hd : decode cc pc = .ok (.dload_n i, len)) (hi : am_i1 sc a lv st h = some (lv', st', h')) (hrm : am_rm R n0 z0 h') (k : am_W sc p l e R s m args below meth c D b ad nL n0 z0 Q (pc + len) lv' st' h') : am_W sc p l e R s m args below meth c D b ad nL n0 z0 Q pc lv st h := by
  simp only [am_rl, Bool.and_eq_true, decide_eq_true_eq] at hr
  obtain ⟨rfl, rfl⟩ := hr
  simp only [am_i1] at hi
  split at hi
  · rename_i x hl
    cases hi
    exact am_r_dload_n C hl hd k
  · cases hi
theorem am_o_dstore (C : am_C p R m c cc nL (am_own cn) s args D meth yn ad) {i : Nat} (hini : ini = true → yn = "<init>") (hr : am_rl cn nL ini (.dstore i) a len = true) (hd : decode cc pc = .ok (.dstore i, len)) (hi : am_i1 sc a lv st h = some (lv', st', h')) (hrm : am_rm R n0 z0 h') (k : am_W sc p l e R s m args below meth c D b ad nL n0 z0 Q (pc + len) lv' st' h') : am_W sc p l e R s m args below meth c D b ad nL n0 z0 Q pc lv st h := by
  simp only [am_rl, Bool.and_eq_true, decide_eq_true_eq] at hr
  obtain ⟨⟨rfl, rfl⟩, hn⟩ := hr
  simp only [am_i1] at hi
  split at hi
  · cases hi
    exact am_r_dstore C hn hd k
  · cases hi
theorem am_o_dstore_n (C : am_C p R m c cc nL (am_own cn) s args D meth yn ad) {i : Fin 4} (hini : ini = true → yn = "<init>") (hr : am_rl cn nL ini (.dstore_n i) a len = true) (hd : decode cc pc = .ok (.dstore_n i, len)) (hi : am_i1 sc a lv st h = some (lv', st', h')) (hrm : am_rm R n0 z0 h') (k : am_W sc p l e R s m args below meth c D b ad nL n0 z0 Q (pc + len) lv' st' h') : am_W sc p l e R s m args below meth c D b ad nL n0 z0 Q pc lv st h := by
  simp only [am_rl, Bool.and_eq_true, decide_eq_true_eq] at hr
  obtain ⟨⟨rfl, rfl⟩, hn⟩ := hr
  simp only [am_i1] at hi
  split at hi
  · cases hi
    exact am_r_dstore_n C hn hd k
  · cases hi
theorem am_o_getstatic (C : am_C p R m c cc nL (am_own cn) s args D meth yn ad) {i : Nat} (hini : ini = true → yn = "<init>") (hr : am_rl cn nL ini (.getstatic i) a len = true) (hd : decode cc pc = .ok (.getstatic i, len)) (hi : am_i1 sc a lv st h = some (lv', st', h')) (hrm : am_rm R n0 z0 h') (k : am_W sc p l e R s m args below meth c D b ad nL n0 z0 Q (pc + len) lv' st' h') : am_W sc p l e R s m args below meth c D b ad nL n0 z0 Q pc lv st h := by
  simp only [am_rl] at hr
  split at hr
  · rename_i q
    simp only [Bool.and_eq_true, decide_eq_true_eq] at hr
    obtain ⟨⟨rfl, hq⟩, he⟩ := hr
    have hw := am_en15 he
    simp only [am_i1] at hi
    by_cases h0 : q = 0
    · rw [if_pos h0] at hi
      cases hi
      subst h0
      exact am_r_gets (v := .int 1) C (fun H z => z.2.2.2.2.1) hw hd k
    · rw [if_neg h0] at hi
      have h1 : q = 1 := by omega
      rw [if_pos h1] at hi
      cases hi
      subst h1
      exact am_r_gets (v := .retAddr 1000) C (fun H z => z.2.2.2.2.2.1) hw hd k
  · cases hr
theorem am_o_i2c (C : am_C p R m c cc nL (am_own cn) s args D meth yn ad)  (hini : ini = true → yn = "<init>") (hr : am_rl cn nL ini (.i2c) a len = true) (hd : decode cc pc = .ok (.i2c, len)) (hi : am_i1 sc a lv st h = some (lv', st', h')) (hrm : am_rm R n0 z0 h') (k : am_W sc p l e R s m args below meth c D b ad nL n0 z0 Q (pc + len) lv' st' h') : am_W sc p l e R s m args below meth c D b ad nL n0 z0 Q pc lv st h := by
  simp only [am_rl, Bool.and_eq_true, decide_eq_true_eq] at hr
  obtain ⟨rfl, rfl⟩ := hr
  simp only [am_i1] at hi
  split at hi
  · cases hi
    exact am_r_i2c C hd k
  · cases hi
theorem am_one (C : am_C p R m c cc nL (am_own cn) s args D meth yn ad) {ci : Instr} (hini : ini = true → yn = "<init>") (hr : am_rl cn nL ini ci a len = true) (hd : decode cc pc = .ok (ci, len)) (hi : am_i1 sc a lv st h = some (lv', st', h')) (hrm : am_rm R n0 z0 h') (k : am_W sc p l e R s m args below meth c D b ad nL n0 z0 Q (pc + len) lv' st' h') : am_W sc p l e R s m args below meth c D b ad nL n0 z0 Q pc lv st h := by
  cases ci with
  | iadd => exact am_o_iadd C hini hr hd hi hrm k
  | getstatic i => exact am_o_getstatic C hini hr hd hi hrm k
  | i2c => exact am_o_i2c C hini hr hd hi hrm k
  | isub => exact am_o_isub C hini hr hd hi hrm k
  | imul => exact am_o_imul C hini hr hd hi hrm k
  | iand => exact am_o_iand C hini hr hd hi hrm k
  | ior => exact am_o_ior C hini hr hd hi hrm k
  | ixor => exact am_o_ixor C hini hr hd hi hrm k
  | ishl => exact am_o_ishl C hini hr hd hi hrm k
  | ishr => exact am_o_ishr C hini hr hd hi hrm k
  | iushr => exact am_o_iushr C hini hr hd hi hrm k
  | ladd => exact am_o_ladd C hini hr hd hi hrm k
  | lsub => exact am_o_lsub C hini hr hd hi hrm k
  | lmul => exact am_o_lmul C hini hr hd hi hrm k
  | land => exact am_o_land C hini hr hd hi hrm k
  | lor => exact am_o_lor C hini hr hd hi hrm k
  | lcmp => exact am_o_lcmp C hini hr hd hi hrm k
  | lshl => exact am_o_lshl C hini hr hd hi hrm k
  | lushr => exact am_o_lushr C hini hr hd hi hrm k
  | idiv => exact am_o_idiv C hini hr hd hi hrm k
  | irem => exact am_o_irem C hini hr hd hi hrm k
  | ineg => exact am_o_ineg C hini hr hd hi hrm k
  | i2l => exact am_o_i2l C hini hr hd hi hrm k
  | l2i => exact am_o_l2i C hini hr hd hi hrm k
  | dup => exact am_o_dup C hini hr hd hi hrm k
  | pop => exact am_o_pop C hini hr hd hi hrm k
  | dup_x1 => exact am_o_dup_x1 C hini hr hd hi hrm k
  | dup2 => exact am_o_dup2 C hini hr hd hi hrm k
  | iaload => exact am_o_iaload C hini hr hd hi hrm k
  | laload => exact am_o_laload C hini hr hd hi hrm k
  | baload => exact am_o_baload C hini hr hd hi hrm k
  | aaload => exact am_o_aaload C hini hr hd hi hrm k
  | arraylength => exact am_o_arraylength C hini hr hd hi hrm k
  | iastore => exact am_o_iastore C hini hr hd hi hrm k
  | lastore => exact am_o_lastore C hini hr hd hi hrm k
  | bastore => exact am_o_bastore C hini hr hd hi hrm k
  | aastore => exact am_o_aastore C hini hr hd hi hrm k
  | aconst_null => exact am_o_null C hini hr hd hi hrm k
  | iconst _ => exact am_o_iconst C hini hr hd hi hrm k
  | bipush _ => exact am_o_bipush C hini hr hd hi hrm k
  | sipush _ => exact am_o_sipush C hini hr hd hi hrm k
  | lconst _ => exact am_o_lconst C hini hr hd hi hrm k
  | ldc _ => exact am_o_ldc C hini hr hd hi hrm k
  | ldc_w _ => exact am_o_ldc_w C hini hr hd hi hrm k
  | ldc2_w _ => exact am_o_ldc2_w C hini hr hd hi hrm k
  | iload _ => exact am_o_iload C hini hr hd hi hrm k
  | iload_n _ => exact am_o_iload_n C hini hr hd hi hrm k
  | lload _ => exact am_o_lload C hini hr hd hi hrm k
  | lload_n _ => exact am_o_lload_n C hini hr hd hi hrm k
  | istore _ => exact am_o_istore C hini hr hd hi hrm k
  | istore_n _ => exact am_o_istore_n C hini hr hd hi hrm k
  | lstore _ => exact am_o_lstore C hini hr hd hi hrm k
  | lstore_n _ => exact am_o_lstore_n C hini hr hd hi hrm k
  | aload _ => exact am_o_aload C hini hr hd hi hrm k
  | aload_n _ => exact am_o_aload_n C hini hr hd hi hrm k
  | astore _ => exact am_o_astore C hini hr hd hi hrm k
  | astore_n _ => exact am_o_astore_n C hini hr hd hi hrm k
  | getfield _ => exact am_o_getfield C hini hr hd hi hrm k
  | putfield _ => exact am_o_putfield C hini hr hd hi hrm k
  | new _ => exact am_o_new C hini hr hd hi hrm k
  | newarray _ => exact am_o_newarray C hini hr hd hi hrm k
  | anewarray _ => exact am_o_anewarray C hini hr hd hi hrm k
  | checkcast _ => exact am_o_checkcast C hini hr hd hi hrm k
  | invokespecial _ => exact am_o_invokespecial C hini hr hd hi hrm k
  | invokestatic _ => exact am_o_invokestatic C hini hr hd hi hrm k
  | iinc _ _ => exact am_o_iinc C hini hr hd hi hrm k
  | dconst _ => exact am_o_dconst C hini hr hd hi hrm k
  | fconst _ => exact am_o_fconst C hini hr hd hi hrm k
  | i2d => exact am_o_i2d C hini hr hd hi hrm k
  | i2f => exact am_o_i2f C hini hr hd hi hrm k
  | l2d => exact am_o_l2d C hini hr hd hi hrm k
  | f2d => exact am_o_f2d C hini hr hd hi hrm k
  | ddiv => exact am_o_ddiv C hini hr hd hi hrm k
  | fdiv => exact am_o_fdiv C hini hr hd hi hrm k
  | dcmp _ => exact am_o_dcmp C hini hr hd hi hrm k
  | dload _ => exact am_o_dload C hini hr hd hi hrm k
  | dload_n _ => exact am_o_dload_n C hini hr hd hi hrm k
  | dstore _ => exact am_o_dstore C hini hr hd hi hrm k
  | dstore_n _ => exact am_o_dstore_n C hini hr hd hi hrm k
  | _ => exact absurd hr Bool.false_ne_true
end AMO
end
section
variable {sc : List Int32}
/-! BLOCKS: a method's code as blocks, each a straight stretch and its end; what a run of them is, and that the machine runs so -/
theorem am_le_refl (h : am_H) : h.length ≤ h.length ∧ am_sz h ≤ am_sz h := ⟨Nat.le_refl _, Nat.le_refl _⟩
def am_le (h h2 : am_H) : Prop := h.length ≤ h2.length ∧ am_sz h ≤ am_sz h2
theorem am_le.rf (h : am_H) : am_le h h := ⟨Nat.le_refl _, Nat.le_refl _⟩
theorem am_le.tr {h h2 h3 : am_H} (a : am_le h h2) (b : am_le h2 h3) : am_le h h3 := ⟨Nat.le_trans a.1 b.1, Nat.le_trans a.2 b.2⟩
theorem am_le_push (h : am_H) (o : am_O) : am_le h (h ++ [o]) := ⟨by rw [List.length_append]; exact Nat.le_add_right _ _, by rw [am_sz_push]; exact Nat.le_add_right _ _⟩
theorem am_le_put {f : Nat} {h h' : am_H} {st st' : List Value} (e : am_put f h st = some (st', h')) : am_le h h' := by
  unfold am_put at e
  split at e
  · split at e
    · rename_i o ho
      split at e
      · cases e
        exact ⟨by rw [List.length_set]; exact Nat.le_refl _, by rw [am_sz_set (by show (o.2.set _ _).length = o.2.length; rw [List.length_set]) ho]; exact Nat.le_refl _⟩
      · cases e
    · cases e
  · cases e
theorem am_le_gst {k : am_H → Nat → Value → Bool} {h h' : am_H} {st st' : List Value} (e : am_gst k h st = some (st', h')) : am_le h h' := by
  unfold am_gst at e
  split at e
  · split at e
    · rename_i o ho
      split at e
      · split at e
        · cases e
          exact ⟨by rw [List.length_set]; exact Nat.le_refl _, by rw [am_sz_set (by show (o.2.set _ _).length = o.2.length; rw [List.length_set]) ho]; exact Nat.le_refl _⟩
        · cases e
      · cases e
    · cases e
  · cases e
theorem am_le_mka {k : Nat} {v : Value} {h h' : am_H} {st st' : List Value} (e : am_mka k v h st = some (st', h')) : am_le h h' := by
  unfold am_mka at e
  split at e
  · split at e
    · cases e
      exact am_le_push _ _
    · cases e
  · cases e
theorem am_le_st {lv lv' : am_V} {h h' : am_H} {o : Option (List Value)} {st' : List Value} (e : am_st lv h o = some (lv', st', h')) : am_le h h' := by
  obtain ⟨-, -, rfl⟩ := am_st_spec e
  exact am_le.rf _
theorem am_le_i1 {a : Instr} {lv lv' : am_V} {st st' : List Value} {h h' : am_H} (e : am_i1 sc a lv st h = some (lv', st', h')) : am_le h h' := by
  unfold am_i1 at e
  split at e
  all_goals first
    | exact am_le_st e
    | exact am_le_put (am_sh_spec e).1
    | exact am_le_gst (am_sh_spec e).1
    | exact am_le_mka (am_sh_spec e).1
    | (cases e; done)
    | (cases e; exact am_le.rf _)
    | (cases e; exact am_le_push _ _)
    | (split at e <;> first
        | exact am_le_mka (am_sh_spec e).1
        | exact am_le_st e
        | (cases e; done)
        | (cases e; exact am_le.rf _)
        | (split at e <;> first
            | (cases e; done)
            | (cases e; exact am_le.rf _)
            | (split at e <;> first
                | (cases e; done)
                | (cases e; exact am_le.rf _))))
def am_bk (sc : List Int32) : List Instr → am_V → List Value → am_H → Option am_S
  | [], lv, st, h => some (lv, st, h)
  | a :: r, lv, st, h => match am_i1 sc a lv st h with
    | some x => am_bk sc r x.1 x.2.1 x.2.2
    | none => none
theorem am_le_bk : ∀ {is : List Instr} {lv lv' : am_V} {st st' : List Value} {h h' : am_H}, am_bk sc is lv st h = some (lv', st', h') → am_le h h'
  | [], _, _, _, _, _, _, e => by
    unfold am_bk at e
    cases e
    exact am_le.rf _
  | a :: r, lv, _, st, _, h, _, e => by
    unfold am_bk at e
    split at e
    · rename_i x hx
      exact (am_le_i1 hx).tr (am_le_bk e)
    · cases e
theorem am_rm_le {R : Room} {n0 z0 : Nat} {h h2 : am_H} (a : am_le h h2) (b : am_rm R n0 z0 h2) : am_rm R n0 z0 h := ⟨Nat.le_trans a.1 b.1, Nat.le_trans a.2 b.2⟩
section AMB
variable {p : Program} {l : Launch} {e : Env} {R : Room} {s : State} {m : MethodId} {args : Array Value} {below : List Frame} {meth : Method} {c : Code} {Q : State → Prop}
variable {cc : ByteArray} {nL n0 z0 b cn : Nat} {yn : String} {ini : Bool} {ad : Nat → Nat} {D : va_G}
theorem am_bks (C : am_C p R m c cc nL (am_own cn) s args D meth yn ad) (hini : ini = true → yn = "<init>") : ∀ {is : List Instr} {pc pe : Nat} {lv lv' : am_V} {st st' : List Value} {h h' : am_H}, am_lk cn nL ini cc pc is = some pe → am_bk sc is lv st h = some (lv', st', h') → am_rm R n0 z0 h' →
    am_W sc p l e R s m args below meth c D b ad nL n0 z0 Q pe lv' st' h' → am_W sc p l e R s m args below meth c D b ad nL n0 z0 Q pc lv st h
  | [], pc, pe, lv, lv', st, st', h, h', hk, hb, hr, k => by
    unfold am_lk at hk
    unfold am_bk at hb
    cases hk
    cases hb
    exact k
  | a :: r, pc, pe, lv, lv', st, st', h, h', hk, hb, hr, k => by
    unfold am_lk at hk
    unfold am_bk at hb
    split at hk
    · rename_i q hq
      split at hk
      · rename_i hrl
        split at hb
        · rename_i x hx
          obtain ⟨q1, q2⟩ := q
          obtain ⟨x1, x2, x3⟩ := x
          exact am_one C hini hrl hq hx (am_rm_le (am_le_bk hb) hr) (am_bks C hini hk hb hr k)
        · cases hb
      · cases hk
    · cases hk
end AMB
/-! the ends of blocks. Calls are .invokeinterface y n: the method y, n % 64 of its arguments (the receiver among them), n / 64 the receiver's class where it matters; .multianewarray e _: 'throw new E(text)'; .nop: on into the next block -/
def am_cnd : ClassFile.Cond → Int32 → Int32 → Prop
  | .eq, x, y => x = y
  | .ne, x, y => ¬ x = y
  | .lt, x, y => x < y
  | .ge, x, y => y ≤ x
  | .gt, x, y => y < x
  | .le, x, y => x ≤ y
def am_rt : Instr → List Value → Option (Option Value)
  | .ireturn, [.int x] => some (some (.int x))
  | .lreturn, [.long x] => some (some (.long x))
  | .dreturn, [.double x] => some (some (.double x))
  | .freturn, [.float x] => some (some (.float x))
  | .areturn, [v] => if am_isR v = true then some (some v) else none
  | .return_, [] => some none
  | _, _ => none
def am_ts (d lo hi : Int) (offs : Array Int) (x : Int32) : Nat := if x.toInt < lo ∨ hi < x.toInt then d.toNat else (offs.getD (x.toInt - lo).toNat d).toNat
def am_ls (d : Int) (ps : List (Int × Int)) (x : Int) : Nat := (Op.lookupswitch.offset ps d x).toNat
abbrev am_Rl : Type := Nat → List Value → am_H → Option Value → am_H → Prop
abbrev am_Rt : Type := Nat → List Value → am_H → Nat → am_H → Prop
def am_junk : am_O := (199, List.replicate 6 .null)
/-- a local that is written with what nothing is known of -/
def am_dl (l : am_V) (i : Nat) : am_V := l.filter (fun q => !(q.1 == i) && !(q.1 + 1 == i && q.2.category == 2))
/-- where a throw of class x out of the call at the end of block bi goes on: 64 * block + the local that takes the exception -/
def am_hdl : List (Nat × Nat × Nat) → Nat → Nat → Option Nat
  | [], _, _ => none
  | q :: r, bi, x => if q.1 = bi ∧ q.2.1 = x then some q.2.2 else am_hdl r bi x
/-- the receiver is an object of this class -/
def am_rcv (ci : Nat) (As : List Value) (h : am_H) : Bool := match As with
  | .ref a :: _ => match h[a]? with
    | some o => o.1 == ci
    | none => false
  | .retAddr i :: _ => ci == 63 && decide (i < am_txt.length)
  | _ => false
def am_tm (C : am_Rl) (CT : am_Rt) (hds : List (Nat × Nat × Nat)) (nx : Nat → am_V → List Value → am_H → Prop) (fin : Option Value → am_H → Prop) (thr : Nat → am_H → Prop) (t : Instr) (bi : Nat) (lv : am_V) (st : List Value) (h : am_H) : Prop :=
  match t with
  | .nop => nx (bi + 1) lv st h
  | .goto o => nx o.toNat lv st h
  | .ifCond c o => match st with
    | .int x :: r => (am_cnd c x 0 → nx o.toNat lv r h) ∧ (¬ am_cnd c x 0 → nx (bi + 1) lv r h)
    | _ => False
  | .if_icmp c o => match st with
    | .int y :: .int x :: r => (am_cnd c x y → nx o.toNat lv r h) ∧ (¬ am_cnd c x y → nx (bi + 1) lv r h)
    | _ => False
  | .if_acmp c o => match st with
    | .retAddr j :: .retAddr i :: r => i = j ∧ (c = .eq → nx o.toNat lv r h) ∧ (c = .ne → nx (bi + 1) lv r h)
    | _ => False
  | .getstatic _ => nx (bi + 1) lv (.null :: st) h ∧ nx (bi + 1) lv (.retAddr 4000 :: st) h
  | .ifnull o => match st with
    | .null :: r => nx o.toNat lv r h
    | .ref _ :: r => nx (bi + 1) lv r h
    | _ => False
  | .ifnonnull o => match st with
    | .null :: r => nx (bi + 1) lv r h
    | .ref _ :: r => nx o.toNat lv r h
    | _ => False
  | .tableswitch d lo hi offs => match st with
    | .int x :: r => nx (am_ts d lo hi offs x) lv r h
    | _ => False
  | .lookupswitch d ps => match st with
    | .int x :: r => nx (am_ls d ps.toList x.toInt) lv r h
    | _ => False
  | .invokeinterface y n => n % 64 ≤ st.length ∧ am_cs (st.drop (n % 64)) ≤ 8 ∧ (n / 64 = 0 ∨ am_rcv (n / 64) (st.take (n % 64)).reverse h = true) ∧
      ((∃ v h2, C y (st.take (n % 64)).reverse h v h2 ∧ nx (bi + 1) lv (v.toList ++ st.drop (n % 64)) h2) ∨
       (∃ x h2 b2, CT y (st.take (n % 64)).reverse h x h2 ∧ am_hdl hds bi x = some b2 ∧ nx (b2 / 64) (am_dl lv (b2 % 64)) [] (h2 ++ [am_junk])))
  | .multianewarray x _ => match st with
    | [] => thr x h
    | _ => False
  | t => match am_rt t st with
    | some v => fin v h
    | none => False
def am_go (sc : List Int32) (C : am_Rl) (CT : am_Rt) (code : List (List Instr × Instr)) (hds : List (Nat × Nat × Nat)) (fin : Option Value → am_H → Prop) (thr : Nat → am_H → Prop) : Nat → Nat → am_V → List Value → am_H → Prop
  | 0, _, _, _, _ => False
  | n + 1, bi, lv, st, h => match code[bi]? with
    | some q => match am_bk sc q.1 lv st h with
      | some x => am_tm C CT hds (am_go sc C CT code hds fin thr n) fin thr q.2 bi x.1 x.2.1 x.2.2
      | none => False
    | none => False
theorem am_ac : ∀ {c : ClassFile.ACond}, ¬ c = .eq → c = .ne
  | .eq, h => absurd rfl h
  | .ne, _ => rfl
theorem am_le_tm {C : am_Rl} {CT : am_Rt} {hds : List (Nat × Nat × Nat)} {nx : Nat → am_V → List Value → am_H → Prop} {fin : Option Value → am_H → Prop} {thr : Nat → am_H → Prop} (hC : ∀ y As h v h2, C y As h v h2 → am_le h h2) (hCT : ∀ y As h x h2, CT y As h x h2 → am_le h h2)
    {P : am_H → Prop} (hfin : ∀ v h, fin v h → P h) (hthr : ∀ x h, thr x h → P h) (hnx : ∀ bi lv st h, nx bi lv st h → ∃ hf, P hf ∧ am_le h hf) {t : Instr} {bi : Nat} {lv : am_V} {st : List Value} {h : am_H} (e : am_tm C CT hds nx fin thr t bi lv st h) : ∃ hf, P hf ∧ am_le h hf := by
  unfold am_tm at e
  split at e
  · exact hnx _ _ _ _ e
  · exact hnx _ _ _ _ e
  · split at e
    · exact (Classical.em _).elim (fun hc => hnx _ _ _ _ (e.1 hc)) (fun hc => hnx _ _ _ _ (e.2 hc))
    · exact e.elim
  · split at e
    · exact (Classical.em _).elim (fun hc => hnx _ _ _ _ (e.1 hc)) (fun hc => hnx _ _ _ _ (e.2 hc))
    · exact e.elim
  · split at e
    · exact (Classical.em _).elim (fun hc => hnx _ _ _ _ (e.2.1 hc)) (fun hc => hnx _ _ _ _ (e.2.2 (am_ac hc)))
    · exact e.elim
  · exact hnx _ _ _ _ e.1
  · split at e <;> first | exact hnx _ _ _ _ e | exact e.elim
  · split at e <;> first | exact hnx _ _ _ _ e | exact e.elim
  · split at e <;> first | exact hnx _ _ _ _ e | exact e.elim
  · split at e <;> first | exact hnx _ _ _ _ e | exact e.elim
  · obtain ⟨-, -, -, ⟨v, h2, e1, e2⟩ | ⟨x, h2, b2, e1, -, e2⟩⟩ := e
    · obtain ⟨hf, f1, f2⟩ := hnx _ _ _ _ e2
      exact ⟨hf, f1, (hC _ _ _ _ _ e1).tr f2⟩
    · obtain ⟨hf, f1, f2⟩ := hnx _ _ _ _ e2
      exact ⟨hf, f1, (hCT _ _ _ _ _ e1).tr ((am_le_push _ _).tr f2)⟩
  · split at e
    · exact ⟨h, hthr _ _ e, am_le.rf _⟩
    · exact e.elim
  · split at e
    · exact ⟨h, hfin _ _ e, am_le.rf _⟩
    · exact e.elim
theorem am_le_go {C : am_Rl} {CT : am_Rt} {code : List (List Instr × Instr)} {hds : List (Nat × Nat × Nat)} {fin : Option Value → am_H → Prop} {thr : Nat → am_H → Prop} (hC : ∀ y As h v h2, C y As h v h2 → am_le h h2) (hCT : ∀ y As h x h2, CT y As h x h2 → am_le h h2)
    {P : am_H → Prop} (hfin : ∀ v h, fin v h → P h) (hthr : ∀ x h, thr x h → P h) : ∀ (n bi : Nat) (lv : am_V) (st : List Value) (h : am_H), am_go sc C CT code hds fin thr n bi lv st h → ∃ hf, P hf ∧ am_le h hf
  | 0, _, _, _, _, e => e.elim
  | n + 1, bi, lv, st, h, e => by
    unfold am_go at e
    split at e
    · split at e
      · rename_i x hx
        obtain ⟨hf, f1, f2⟩ := am_le_tm hC hCT hfin hthr (am_le_go hC hCT hfin hthr n) e
        obtain ⟨x1, x2, x3⟩ := x
        exact ⟨hf, f1, (am_le_bk hx).tr f2⟩
      · exact e.elim
    · exact e.elim
end
section
variable {sc : List Int32}
/-! THE MACHINE RUNS SO -/
theorem am_tg_spec {starts : List Nat} {o : Int} {pc : Nat} {off : Int} (h : am_tg starts o pc off = true) : ∃ t, starts[o.toNat]? = some t ∧ (pc : Int) + off = (t : Int) := by
  unfold am_tg at h
  split at h
  · rename_i t ht
    exact ⟨t, ht, decide_eq_true_eq.mp h⟩
  · cases h
theorem am_tgs_spec {starts : List Nat} {pc : Nat} : ∀ {os fs : List Int} {j : Nat} {o : Int}, am_tgs starts pc os fs = true → os[j]? = some o → ∃ f, fs[j]? = some f ∧ am_tg starts o pc f = true
  | [], fs, j, o, h, e => by simp at e
  | o :: r, [], j, x, h, e => by simp [am_tgs] at h
  | o :: r, f :: s, 0, x, h, e => by
    simp at e
    subst e
    simp only [am_tgs, Bool.and_eq_true] at h
    exact ⟨f, rfl, h.1⟩
  | o :: r, f :: s, j + 1, x, h, e => by
    simp only [am_tgs, Bool.and_eq_true] at h
    simp at e
    obtain ⟨f2, h1, h2⟩ := am_tgs_spec h.2 e
    exact ⟨f2, by simpa using h1, h2⟩
theorem am_tgp_spec {starts : List Nat} {pc : Nat} {d : Int} {fd : Int} (hd : am_tg starts d pc fd = true) (x : Int) : ∀ {os fs : List (Int × Int)}, am_tgp starts pc os fs = true → am_tg starts (Op.lookupswitch.offset os d x) pc (Op.lookupswitch.offset fs fd x) = true
  | [], [], h => hd
  | [], f :: s, h => by simp [am_tgp] at h
  | o :: r, [], h => by simp [am_tgp] at h
  | o :: r, f :: s, h => by
    simp only [am_tgp, Bool.and_eq_true, decide_eq_true_eq] at h
    obtain ⟨⟨h1, h2⟩, h3⟩ := h
    have ih := am_tgp_spec hd x h3
    obtain ⟨o1, o2⟩ := o
    obtain ⟨f1, f2⟩ := f
    simp only at h1 h2
    subst h1
    by_cases hx : x = o1
    · subst hx
      simpa [Op.lookupswitch.offset] using h2
    · simpa [Op.lookupswitch.offset, hx, Ne.symm hx, beq_iff_eq] using ih
theorem am_wi_spec {cc : ByteArray} {pc : Nat} {f : Instr × Nat → Bool} (h : am_wi cc pc f = true) : ∃ q, decode cc pc = .ok q ∧ f q = true := by
  unfold am_wi at h
  split at h
  · rename_i q hq
    exact ⟨q, hq, h⟩
  · cases h
theorem am_lb_at {cn nL : Nat} {ini : Bool} {ok : Instr → Nat → Nat → Bool} {cc : ByteArray} {starts : List Nat} : ∀ {code : List (List Instr × Instr)} {b0 j : Nat} {q : List Instr × Instr}, am_lb cn nL ini ok cc starts b0 code = true → code[j]? = some q → ∃ pc pe, starts[b0 + j]? = some pc ∧ am_lk cn nL ini cc pc q.1 = some pe ∧ am_lt cn ok cc starts q.2 (b0 + j) pe = true
  | [], b0, j, q, h, e => by simp at e
  | x :: r, b0, 0, q, h, e => by
    simp at e
    subst e
    simp only [am_lb, Bool.and_eq_true] at h
    have h1 := h.1
    split at h1
    · rename_i pc hpc
      split at h1
      · rename_i pe hpe
        exact ⟨pc, pe, hpc, hpe, h1⟩
      · cases h1
    · cases h1
  | x :: r, b0, j + 1, q, h, e => by
    simp only [am_lb, Bool.and_eq_true] at h
    simp at e
    obtain ⟨pc, pe, h1, h2, h3⟩ := am_lb_at h.2 e
    rw [show b0 + 1 + j = b0 + (j + 1) by omega] at h1 h3
    exact ⟨pc, pe, h1, h2, h3⟩
section AMS
variable {p : Program} {l : Launch} {e : Env} {R : Room} {s : State} {m : MethodId} {args : Array Value} {below : List Frame} {meth : Method} {c : Code} {Q : State → Prop}
variable {cc : ByteArray} {nL n0 z0 b cn : Nat} {yn : String} {ini : Bool} {ad : Nat → Nat} {D : va_G}
theorem am_t_if (C : am_C p R m c cc nL (am_own cn) s args D meth yn ad) {c0 : ClassFile.Cond} {off : Int} {tgt pc : Nat} {x : Int32} {lv : am_V} {st : List Value} {h : am_H} (hd : decode cc pc = .ok (.ifCond c0 off, 3)) (ht : (pc : Int) + off = (tgt : Int))
    (kt : am_cnd c0 x 0 → am_W sc p l e R s m args below meth c D b ad nL n0 z0 Q tgt lv st h) (kf : ¬ am_cnd c0 x 0 → am_W sc p l e R s m args below meth c D b ad nL n0 z0 Q (pc + 3) lv st h) : am_W sc p l e R s m args below meth c D b ad nL n0 z0 Q pc lv (.int x :: st) h := by
  intro ls H locs cl sl h1 h2 h3 h4 h5
  cases c0 with
  | eq => exact lv_if_eq C.1 C.2.1 hd ht (fun q => kt q ls H locs cl sl h1 h2 h3 h4 h5) (fun q => kf q ls H locs cl sl h1 h2 h3 h4 h5)
  | ne => exact lv_if_ne C.1 C.2.1 hd ht (fun q => kt q ls H locs cl sl h1 h2 h3 h4 h5) (fun q => kf (fun z => z q) ls H locs cl sl h1 h2 h3 h4 h5)
  | lt => exact lv_if_lt C.1 C.2.1 hd ht (fun q => kt q ls H locs cl sl h1 h2 h3 h4 h5) (fun q => kf q ls H locs cl sl h1 h2 h3 h4 h5)
  | ge => exact lv_if_ge C.1 C.2.1 hd ht (fun q => kt q ls H locs cl sl h1 h2 h3 h4 h5) (fun q => kf q ls H locs cl sl h1 h2 h3 h4 h5)
  | gt => exact lv_if_gt C.1 C.2.1 hd ht (fun q => kt q ls H locs cl sl h1 h2 h3 h4 h5) (fun q => kf q ls H locs cl sl h1 h2 h3 h4 h5)
  | le => exact lv_if_le C.1 C.2.1 hd ht (fun q => kt q ls H locs cl sl h1 h2 h3 h4 h5) (fun q => kf q ls H locs cl sl h1 h2 h3 h4 h5)
theorem am_t_icmp (C : am_C p R m c cc nL (am_own cn) s args D meth yn ad) {c0 : ClassFile.Cond} {off : Int} {tgt pc : Nat} {x y : Int32} {lv : am_V} {st : List Value} {h : am_H} (hd : decode cc pc = .ok (.if_icmp c0 off, 3)) (ht : (pc : Int) + off = (tgt : Int))
    (kt : am_cnd c0 x y → am_W sc p l e R s m args below meth c D b ad nL n0 z0 Q tgt lv st h) (kf : ¬ am_cnd c0 x y → am_W sc p l e R s m args below meth c D b ad nL n0 z0 Q (pc + 3) lv st h) : am_W sc p l e R s m args below meth c D b ad nL n0 z0 Q pc lv (.int y :: .int x :: st) h := by
  intro ls H locs cl sl h1 h2 h3 h4 h5
  cases c0 with
  | eq => exact lv_icmp_eq C.1 C.2.1 hd ht (fun q => kt q ls H locs cl sl h1 h2 h3 h4 h5) (fun q => kf q ls H locs cl sl h1 h2 h3 h4 h5)
  | ne => exact lv_icmp_ne C.1 C.2.1 hd ht (fun q => kt q ls H locs cl sl h1 h2 h3 h4 h5) (fun q => kf (fun z => z q) ls H locs cl sl h1 h2 h3 h4 h5)
  | lt => exact lv_icmp_lt C.1 C.2.1 hd ht (fun q => kt q ls H locs cl sl h1 h2 h3 h4 h5) (fun q => kf q ls H locs cl sl h1 h2 h3 h4 h5)
  | ge => exact lv_icmp_ge C.1 C.2.1 hd ht (fun q => kt q ls H locs cl sl h1 h2 h3 h4 h5) (fun q => kf q ls H locs cl sl h1 h2 h3 h4 h5)
  | gt => exact lv_icmp_gt C.1 C.2.1 hd ht (fun q => kt q ls H locs cl sl h1 h2 h3 h4 h5) (fun q => kf q ls H locs cl sl h1 h2 h3 h4 h5)
  | le => exact lv_icmp_le C.1 C.2.1 hd ht (fun q => kt q ls H locs cl sl h1 h2 h3 h4 h5) (fun q => kf q ls H locs cl sl h1 h2 h3 h4 h5)
/-- the run of blocks is the machine's: out of what calls, returns and throws are -/
theorem am_sim (C : am_C p R m c cc nL (am_own cn) s args D meth yn ad) (hini : ini = true → yn = "<init>") {CR : am_Rl} {CT : am_Rt} {code : List (List Instr × Instr)} {starts : List Nat} {hds : List (Nat × Nat × Nat)} {ok : Instr → Nat → Nat → Bool} {fin : Option Value → am_H → Prop} {thr : Nat → am_H → Prop}
    (hlk : am_lb cn nL ini ok cc starts 0 code = true)
    (hC : ∀ y As h v h2, CR y As h v h2 → am_le h h2) (hCT : ∀ y As h x h2, CT y As h x h2 → am_le h h2)
    (hfR : ∀ v h, fin v h → am_rm R n0 z0 h) (htR : ∀ x h, thr x h → am_rm R n0 z0 h)
    (hcall : ∀ (pc y n : Nat) (ci : Instr) (lv : am_V) (st : List Value) (h h2 : am_H) (v : Option Value), decode cc pc = .ok (ci, 3) → ok ci y n = true → n % 64 ≤ st.length → am_cs (st.drop (n % 64)) ≤ 8 → (n / 64 = 0 ∨ am_rcv (n / 64) (st.take (n % 64)).reverse h = true) → CR y (st.take (n % 64)).reverse h v h2 → am_le h h2 → am_rm R n0 z0 h2 →
      am_W sc p l e R s m args below meth c D b ad nL n0 z0 Q (pc + 3) lv (v.toList ++ st.drop (n % 64)) h2 → am_W sc p l e R s m args below meth c D b ad nL n0 z0 Q pc lv st h)
    (hcallT : ∀ (bi pc y n x b2 pc2 : Nat) (ci : Instr) (lv : am_V) (st : List Value) (h h2 : am_H), decode cc pc = .ok (ci, 3) → ok ci y n = true → n % 64 ≤ st.length → am_cs (st.drop (n % 64)) ≤ 8 → (n / 64 = 0 ∨ am_rcv (n / 64) (st.take (n % 64)).reverse h = true) → CT y (st.take (n % 64)).reverse h x h2 → am_hdl hds bi x = some b2 → starts[b2 / 64]? = some pc2 → am_rm R n0 z0 (h2 ++ [am_junk]) → (∃ is pc0, code[bi]? = some (is, .invokeinterface y n) ∧ starts[bi]? = some pc0 ∧ am_lk cn nL ini cc pc0 is = some pc) →
      am_W sc p l e R s m args below meth c D b ad nL n0 z0 Q pc2 (am_dl lv (b2 % 64)) [] (h2 ++ [am_junk]) → am_W sc p l e R s m args below meth c D b ad nL n0 z0 Q pc lv st h)
    (hhd : ∀ bi x b2, am_hdl hds bi x = some b2 → ∃ pc2, starts[b2 / 64]? = some pc2)
    (hret : ∀ (pc : Nat) (t : Instr) (lv : am_V) (st : List Value) (h : am_H) (v : Option Value), decode cc pc = .ok (t, 1) → am_rt t st = some v → fin v h → am_W sc p l e R s m args below meth c D b ad nL n0 z0 Q pc lv st h)
    (hthr : ∀ (bi pc pe x i : Nat) (is : List Instr) (lv : am_V) (h : am_H), code[bi]? = some (is, .multianewarray x i) → starts[bi]? = some pc → am_lk cn nL ini cc pc is = some pe → thr x h → am_W sc p l e R s m args below meth c D b ad nL n0 z0 Q pe lv [] h) :
    ∀ (n bi pc : Nat) (lv : am_V) (st : List Value) (h : am_H), am_go sc CR CT code hds fin thr n bi lv st h → starts[bi]? = some pc → am_W sc p l e R s m args below meth c D b ad nL n0 z0 Q pc lv st h
  | 0, _, _, _, _, _, g, _ => g.elim
  | n + 1, bi, pc, lv, st, h, g, hs => by
    have ih := am_sim C hini hlk hC hCT hfR htR hcall hcallT hhd hret hthr n
    unfold am_go at g
    split at g
    · rename_i q hq
      obtain ⟨is, t⟩ := q
      obtain ⟨pc', pe, s1, s2, s3⟩ := am_lb_at hlk hq
      rw [Nat.zero_add] at s1 s3
      cases hs.symm.trans s1
      split at g
      · rename_i x hx
        obtain ⟨lv1, st1, h1⟩ := x
        have hrmN : ∀ (bi : Nat) (lv : am_V) (st : List Value) (h : am_H), am_go sc CR CT code hds fin thr n bi lv st h → am_rm R n0 z0 h := fun bi lv st h g => by
          obtain ⟨hf, f1, f2⟩ := am_le_go (P := am_rm R n0 z0) hC hCT hfR htR n bi lv st h g
          exact am_rm_le f2 f1
        have hrm1 : am_rm R n0 z0 h1 := by
          obtain ⟨hf, f1, f2⟩ := am_le_tm (P := am_rm R n0 z0) hC hCT hfR htR (fun bi lv st h g => am_le_go hC hCT hfR htR n bi lv st h g) g
          exact am_rm_le f2 f1
        dsimp only at s2 s3 hx g
        refine am_bks C hini s2 hx hrm1 ?_
        have fin9 : (match am_rt t st1 with | some v => fin v h1 | none => False) → am_wi cc pe (fun q => decide (q.1 = t) && decide (q.2 = 1)) = true → am_W sc p l e R s m args below meth c D b ad nL n0 z0 Q pe lv1 st1 h1 := by
          intro g s3
          obtain ⟨⟨q1, q2⟩, hq0, s3⟩ := am_wi_spec s3
          simp only [Bool.and_eq_true, decide_eq_true_eq] at s3
          obtain ⟨rfl, rfl⟩ := s3
          split at g
          · rename_i v hv
            exact hret _ _ _ _ _ _ hq0 hv g
          · exact g.elim
        cases t with
        | nop =>
          have s3 : am_nb starts bi pe = true := s3
          exact ih _ _ _ _ _ g (decide_eq_true_eq.mp s3)
        | multianewarray x i =>
          simp only [am_tm] at g
          split at g
          · exact hthr _ _ _ _ _ _ _ _ hq hs s2 g
          · exact g.elim
        | goto o =>
          obtain ⟨⟨q1, q2⟩, hq0, s3⟩ := am_wi_spec s3
          simp only at s3
          split at s3
          · rename_i off
            simp only [Bool.and_eq_true, decide_eq_true_eq] at s3
            obtain ⟨rfl, s3⟩ := s3
            obtain ⟨tgt, g1, g2⟩ := am_tg_spec s3
            exact fun ls H locs cl sl y1 y2 y3 y4 y5 => lv_goto C.1 C.2.1 hq0 g2 (ih _ _ _ _ _ g g1 ls H locs cl sl y1 y2 y3 y4 y5)
          · cases s3
        | ifCond c0 o =>
          obtain ⟨⟨q1, q2⟩, hq0, s3⟩ := am_wi_spec s3
          simp only at s3
          split at s3
          · rename_i c2 off
            simp only [am_nb, Bool.and_eq_true, decide_eq_true_eq] at s3
            obtain ⟨⟨⟨rfl, rfl⟩, s3⟩, s4⟩ := s3
            obtain ⟨tgt, g1, g2⟩ := am_tg_spec s3
            simp only [am_tm] at g
            split at g
            · exact am_t_if C hq0 g2 (fun z => ih _ _ _ _ _ (g.1 z) g1) (fun z => ih _ _ _ _ _ (g.2 z) s4)
            · exact g.elim
          · cases s3
        | if_icmp c0 o =>
          obtain ⟨⟨q1, q2⟩, hq0, s3⟩ := am_wi_spec s3
          simp only at s3
          split at s3
          · rename_i c2 off
            simp only [am_nb, Bool.and_eq_true, decide_eq_true_eq] at s3
            obtain ⟨⟨⟨rfl, rfl⟩, s3⟩, s4⟩ := s3
            obtain ⟨tgt, g1, g2⟩ := am_tg_spec s3
            simp only [am_tm] at g
            split at g
            · exact am_t_icmp C hq0 g2 (fun z => ih _ _ _ _ _ (g.1 z) g1) (fun z => ih _ _ _ _ _ (g.2 z) s4)
            · exact g.elim
          · cases s3
        | if_acmp c0 o =>
          obtain ⟨⟨q1, q2⟩, hq0, s3⟩ := am_wi_spec s3
          simp only at s3
          split at s3
          · rename_i c2 off
            simp only [am_nb, Bool.and_eq_true, decide_eq_true_eq] at s3
            obtain ⟨⟨⟨rfl, rfl⟩, s3⟩, s4⟩ := s3
            obtain ⟨tgt, g1, g2⟩ := am_tg_spec s3
            simp only [am_tm] at g
            split at g
            · rename_i j i r
              obtain ⟨rfl, k1, k2⟩ := g
              cases c0 with
              | eq => exact fun ls H locs cl sl y1 y2 y3 y4 y5 => lv_acmp_eq (rx := some (ad i)) (ry := some (ad i)) C.1 C.2.1 hq0 g2 (fun _ => ih _ _ _ _ _ (k1 rfl) g1 ls H locs cl sl y1 y2 y3 y4 y5) (fun z => absurd rfl z)
              | ne => exact fun ls H locs cl sl y1 y2 y3 y4 y5 => lv_acmp_ne (rx := some (ad i)) (ry := some (ad i)) C.1 C.2.1 hq0 g2 (fun z => absurd rfl z) (fun _ => ih _ _ _ _ _ (k2 rfl) s4 ls H locs cl sl y1 y2 y3 y4 y5)
            · exact g.elim
          · cases s3
        | getstatic q =>
          obtain ⟨⟨q1, q2⟩, hq0, s3⟩ := am_wi_spec s3
          simp only at s3
          split at s3
          · rename_i i
            simp only [am_nb, Bool.and_eq_true, decide_eq_true_eq] at s3
            obtain ⟨⟨⟨rfl, s6⟩, s5⟩, s4⟩ := s3
            have hw := am_en15 s5
            obtain ⟨k1, k2⟩ := g
            intro ls H locs cl sl y1 y2 y3 y4 y5
            rcases y2.2.2.2.2.2.2.2.2.1 with hZ | hZ
            · obtain ⟨cf, kf, fi, f, a, cell, z1, z2, z3, z4, z5, z6, z7, z8⟩ := hZ
              exact W.gets C.1 C.2.1 C.2.2.2.1 (C.2.2.2.2.1 _ hw) z1 z2 z3 z4 z5 (fun e => by rw [e] at z6; cases z6) z7 rfl hq0 (ih _ _ _ _ _ k1 s4 ls H locs cl sl y1 y2 y3 y4 y5)
            · obtain ⟨cf, kf, fi, f, a, cell, z1, z2, z3, z4, z5, z6, z7, z8⟩ := hZ
              exact W.gets C.1 C.2.1 C.2.2.2.1 (C.2.2.2.2.1 _ hw) z1 z2 z3 z4 z5 (fun e => by rw [e] at z6; cases z6) z7 rfl hq0 (ih _ _ _ _ _ k2 s4 ls H locs cl sl y1 y2 y3 y4 y5)
          · cases s3
        | ifnull o =>
          obtain ⟨⟨q1, q2⟩, hq0, s3⟩ := am_wi_spec s3
          simp only at s3
          split at s3
          · rename_i off
            simp only [am_nb, Bool.and_eq_true, decide_eq_true_eq] at s3
            obtain ⟨⟨rfl, s3⟩, s4⟩ := s3
            obtain ⟨tgt, g1, g2⟩ := am_tg_spec s3
            simp only [am_tm] at g
            split at g
            · exact fun ls H locs cl sl y1 y2 y3 y4 y5 => lv_ifnullN C.1 C.2.1 hq0 g2 (ih _ _ _ _ _ g g1 ls H locs cl sl y1 y2 y3 y4 y5)
            · exact fun ls H locs cl sl y1 y2 y3 y4 y5 => lv_ifnull C.1 C.2.1 hq0 (ih _ _ _ _ _ g s4 ls H locs cl sl y1 y2 y3 y4 y5)
            · exact g.elim
          · cases s3
        | ifnonnull o =>
          obtain ⟨⟨q1, q2⟩, hq0, s3⟩ := am_wi_spec s3
          simp only at s3
          split at s3
          · rename_i off
            simp only [am_nb, Bool.and_eq_true, decide_eq_true_eq] at s3
            obtain ⟨⟨rfl, s3⟩, s4⟩ := s3
            obtain ⟨tgt, g1, g2⟩ := am_tg_spec s3
            simp only [am_tm] at g
            split at g
            · exact fun ls H locs cl sl y1 y2 y3 y4 y5 => lv_ifnonnullN C.1 C.2.1 hq0 (ih _ _ _ _ _ g s4 ls H locs cl sl y1 y2 y3 y4 y5)
            · exact fun ls H locs cl sl y1 y2 y3 y4 y5 => lv_ifnonnull C.1 C.2.1 hq0 g2 (ih _ _ _ _ _ g g1 ls H locs cl sl y1 y2 y3 y4 y5)
            · exact g.elim
          · cases s3
        | tableswitch d lo hi offs =>
          obtain ⟨⟨q1, q2⟩, hq0, s3⟩ := am_wi_spec s3
          simp only at s3
          split at s3
          · rename_i d2 lo2 hi2 offs2
            simp only [Bool.and_eq_true, decide_eq_true_eq] at s3
            obtain ⟨⟨⟨⟨rfl, rfl⟩, sd⟩, so⟩, sz9⟩ := s3
            simp only [am_tm] at g
            split at g
            · rename_i x r
              unfold am_ts at g
              by_cases hx : x.toInt < lo ∨ hi < x.toInt
              · rw [if_pos hx] at g
                obtain ⟨tgt, g1, g2⟩ := am_tg_spec sd
                exact fun ls H locs cl sl y1 y2 y3 y4 y5 => lv_tableOut C.1 C.2.1 hq0 hx g2 (ih _ _ _ _ _ g g1 ls H locs cl sl y1 y2 y3 y4 y5)
              · rw [if_neg hx] at g
                have hj : (x.toInt - lo).toNat < offs.size := by omega
                have ho : offs.toList[(x.toInt - lo).toNat]? = some (offs.getD (x.toInt - lo).toNat d) := by
                  rw [Array.getElem?_toList, Array.getD_eq_getD_getElem?, Array.getElem?_eq_getElem hj]
                  rfl
                obtain ⟨f, f1, f2⟩ := am_tgs_spec so ho
                obtain ⟨tgt, g1, g2⟩ := am_tg_spec f2
                rw [Array.getElem?_toList] at f1
                exact fun ls H locs cl sl y1 y2 y3 y4 y5 => lv_tableIn C.1 C.2.1 hq0 (fun q => hx (Or.inl q)) (fun q => hx (Or.inr q)) f1 g2 (ih _ _ _ _ _ g g1 ls H locs cl sl y1 y2 y3 y4 y5)
            · exact g.elim
          · cases s3
        | lookupswitch d ps =>
          obtain ⟨⟨q1, q2⟩, hq0, s3⟩ := am_wi_spec s3
          simp only at s3
          split at s3
          · rename_i d2 ps2
            simp only [Bool.and_eq_true] at s3
            obtain ⟨⟨sd, so⟩, sp⟩ := s3
            simp only [am_tm] at g
            split at g
            · rename_i x r
              unfold am_ls at g
              obtain ⟨tgt, g1, g2⟩ := am_tg_spec (am_tgp_spec sd x.toInt so)
              exact fun ls H locs cl sl y1 y2 y3 y4 y5 => lv_lookup C.1 C.2.1 hq0 sp rfl g2 (ih _ _ _ _ _ g g1 ls H locs cl sl y1 y2 y3 y4 y5)
            · exact g.elim
          · cases s3
        | invokeinterface y k =>
          obtain ⟨⟨q1, q2⟩, hq0, s3⟩ := am_wi_spec s3
          simp only [am_nb, Bool.and_eq_true, decide_eq_true_eq] at s3
          obtain ⟨⟨rfl, sk⟩, s4⟩ := s3
          obtain ⟨w1, w2, w3, ⟨v, h2, w4, w5⟩ | ⟨x, h2, b2, w4, w5, w6⟩⟩ := g
          · exact hcall _ _ _ _ _ _ _ _ _ hq0 sk w1 w2 w3 w4 (hC _ _ _ _ _ w4) (hrmN _ _ _ _ w5) (ih _ _ _ _ _ w5 s4)
          · obtain ⟨pc2, z1⟩ := hhd _ _ _ w5
            exact hcallT _ _ _ _ _ _ _ _ _ _ _ _ hq0 sk w1 w2 w3 w4 w5 z1 (hrmN _ _ _ _ w6) ⟨is, pc, hq, hs, s2⟩ (ih _ _ _ _ _ w6 z1)
        | _ => exact fin9 g s3
      · exact g.elim
    · exact g.elim
end AMS
end
section
variable {sc : List Int32}
/-! CALLS: what the tables say of a call; a callee's contract is a step of its caller -/
theorem am_en_in {cn i k a : Nat} (h : am_en cn i k a = true) : ∃ pl, (i, k, a, pl) ∈ am_tb cn := by
  unfold am_en at h
  split at h
  · rename_i q hq
    obtain ⟨h1, h2⟩ := am_find_in hq
    simp only [Bool.and_eq_true, beq_iff_eq] at h
    obtain ⟨q1, q2, q3, q4⟩ := q
    simp only at h2 h
    obtain ⟨rfl, rfl⟩ := h
    subst h2
    exact ⟨q4, h1⟩
  · cases h
theorem am_en7 {cn i y : Nat} {q : am_M} (h : am_en cn i 7 y = true) (hq : am_mds[y]? = some q) : Jvm.Cond.methodLink (am_own cn) i q.1 ∈ am_T := by
  obtain ⟨pl, h1⟩ := am_en_in h
  have h2 := am_cm_all cn _ h1
  unfold am_cm at h2
  simp only [hq, decide_eq_true_eq] at h2
  exact am_inT (List.mem_of_getElem? h2) rfl
theorem am_en8 {cn i y : Nat} {q : am_M} (h : am_en cn i 8 y = true) (hq : am_mds[y]? = some q) : ∃ host, (am_own cn, i, q.1, host) ∈ am_nm := by
  obtain ⟨pl, h1⟩ := am_en_in h
  have h2 := am_cm_all cn _ h1
  unfold am_cm at h2
  simp only [hq] at h2
  split at h2
  · rename_i z hz
    have h3 := List.mem_of_getElem? hz
    obtain ⟨z1, z2, z3, z4⟩ := z
    simp only [decide_eq_true_eq, Prod.mk.injEq] at h2
    obtain ⟨rfl, rfl, rfl⟩ := h2
    exact ⟨z4, h3⟩
  · cases h2
/-- the words of a method -/
theorem am_mw {y : Nat} {q : am_M} (hq : am_mds[y]? = some q) (hk : am_mk q ≠ 9) (hk3 : am_mk q ≠ 3) : Jvm.Cond.code q.1 (am_by q) q.2.1 q.2.2.1 ∈ am_T ∧ (am_mk q = 0 → Jvm.Cond.static q.1 ∈ am_T) ∧ (am_mk q ≠ 0 → Jvm.Cond.instanceMethod q.1 ∈ am_T) ∧ Jvm.Cond.initialized q.1.cls ∈ am_T ∧ (am_mk q = 1 → Jvm.Cond.selects q.1.cls q.1 q.1 ∈ am_T) ∧
    plainName q.1.cls = true ∧ (q.1.cls ≠ "java/lang/invoke/MethodHandle" ∧ q.1.cls ≠ "java/lang/invoke/VarHandle") ∧ (parseMethodDescriptor q.1.desc).map (fun d => d.parameters.length) = some (am_mn q) ∧ q.2.1 ≤ 61 ∧ (am_mk q = 2 → q.1.name = "<init>" ∧ q.2.2.1 = none) := by
  have h := am_ckM_all q (List.mem_of_getElem? hq)
  unfold am_ckM at h
  simp only [Bool.or_eq_true, Bool.and_eq_true, beq_iff_eq, bne_iff_ne, decide_eq_true_eq] at h
  rcases h with h | ⟨⟨⟨⟨⟨⟨⟨⟨h1, h2⟩, h3⟩, h4⟩, h5⟩, h6⟩, h7⟩, h8⟩, h9⟩
  · exact absurd h hk
  · refine ⟨?_, fun z => ?_, fun z => ?_, am_inT (List.mem_of_getElem? h3) rfl, fun z => ?_, h5, h6, h7, h8, fun z => ?_⟩
    · unfold am_by
      unfold am_isC at h1
      split at h1
      · rename_i y0 b0 m0 r0 he
        simp only [Bool.and_eq_true, decide_eq_true_eq] at h1
        obtain ⟨⟨⟨-, rfl⟩, rfl⟩, rfl⟩ := h1
        rw [he]
        exact am_inT (List.mem_of_getElem? he) rfl
      · simp only [Bool.and_eq_true, beq_iff_eq] at h1
        exact absurd h1.1.1.1 hk3
      · cases h1
    · rw [if_pos (Or.inl z)] at h2
      exact am_inT (List.mem_of_getElem? h2) rfl
    · rw [if_neg (by rintro (h | h); exact z h; exact hk3 h)] at h2
      exact am_inT (List.mem_of_getElem? h2) rfl
    · rcases h4 with h4 | h4
      · exact absurd z h4
      · exact am_inT (List.mem_of_getElem? h4) rfl
    · rcases h9 with h9 | h9
      · exact absurd z h9
      · exact h9
def am_rmd (d mc ms : Nat) : Room := { frames := d + 8, cells := mc, slots := ms, locals := 80 * d + 300 }
theorem am_rmd_f (d mc ms : Nat) : (am_rmd d mc ms).frames = d + 8 := rfl
theorem am_rmd_l (d mc ms : Nat) : (am_rmd d mc ms).locals = 80 * d + 300 := rfl
def am_Pc (sc : List Int32) (D : va_G) (b : Nat) (ad : Nat → Nat) (As : List Value) (h : am_H) : Array Value → State → Prop := fun a U => a = (As.map (am_mv b ad)).toArray ∧ am_R sc U D b ad h U.heap ∧ va_K D vwCl [] U ∧ am_E ad U
def am_Qc (sc : List Int32) (D : va_G) (b : Nat) (ad : Nat → Nat) (v : Option Value) (h2 : am_H) : Array Value → State → Outcome → State → Prop := fun _ st o t => o = .returned (v.map (am_mv b ad)) ∧ am_R sc t D b ad h2 t.heap ∧ va_F (fun q => b ≤ q) st t
/-- a method's contract at one call: depth, arguments, things before, answer, things behind -/
def am_Mt (sc : List Int32) (l : Launch) (d : Nat) (q : am_M) (As : List Value) (h : am_H) (v : Option Value) (h2 : am_H) : Prop :=
  ∀ (D : va_G) (b : Nat) (ad : Nat → Nat), Met l q.1 (Jvm.Cond.code q.1 (am_by q) q.2.1 q.2.2.1 :: am_T) (am_rmd d (h2.length - h.length) (am_sz h2 - am_sz h)) (am_Pc sc D b ad As h) (am_Qc sc D b ad v h2) (h2.length - h.length) (am_sz h2 - am_sz h) (fun q => b ≤ q)
theorem am_blind (D : va_G) (b : Nat) (ad : Nat → Nat) (As : List Value) (h : am_H) : FrameBlind (am_Pc sc D b ad As h) := by
  intro a U g mk hp
  obtain ⟨h1, h2, h3, h4⟩ := hp
  exact ⟨h1, am_R.moved (u := U) (U := U.calling g mk a) (Vm.Alike.refl U.vm) h2, va_K.moved (u := U) (U := U.calling g mk a) (Vm.Alike.refl U.vm) h3, am_E.warm (s := U) (U := U.calling g mk a) (State.WarmedH.refl U) h4⟩
section AMK
variable {p : Program} {l : Launch} {e : Env} {R : Room} {s : State} {m : MethodId} {args : Array Value} {below : List Frame} {meth : Method} {c : Code} {Q : State → Prop}
variable {cc : ByteArray} {nL n0 z0 b cn : Nat} {yn : String} {ad : Nat → Nat} {D : va_G} {H : Heap} {locs : List Loc} {cells slots mc ms pc : Nat} {ls : Array Slot} {st0 rest : List Value} {a : Array Value} {h h2 : am_H} {v : Option Value}
theorem am_callW (hr : va_Run p l e R s m args below meth c H locs cells slots mc ms (F0 m pc ls st0) rest (am_Qc sc D b ad v h2 a) (fun q => b ≤ q)) (hS : va_S (fun q => b ≤ q) s.heap H locs)
    (kk : ∀ (H1 : Heap) (locs1 : List Loc), am_R sc s D b ad h2 H1 → va_S (fun q => b ≤ q) s.heap H1 locs1 → W p l e R s m args below meth c H1 locs1 (cells + mc) (slots + ms) Q (F0 m (pc + 3) ls ((v.map (am_mv b ad)).toList ++ rest))) : W p l e R s m args below meth c H locs cells slots Q (F0 m pc ls st0) := by
  intro T hT X
  obtain ⟨v', st₀, t, T', L, h0, X', hL, e1, e2, ⟨hv, hR, hF⟩, st⟩ := hr T hT X
  cases hv
  obtain ⟨hz, hk⟩ := hF
  rw [h0] at hz hk
  have hal : s.vm.Alike t.vm := by rw [← e2]; exact X'.warmed.alike
  obtain ⟨t2, a1, b1⟩ := kk T'.heap (locs ++ L) (by rw [e1]; exact hR.moved hal.symm)
    ⟨Nat.le_trans hS.1 (by rw [e1]; exact hz), fun q h1 h2 => by rw [e1, hk q (Nat.lt_of_lt_of_le h1 hS.1) h2]; exact hS.2.1 q h1 h2, fun q hq => by
      rcases List.mem_append.mp hq with h | h
      · exact hS.2.2 q h
      · exact hL q h⟩ T' rfl X'
  exact ⟨t2, st t2 a1, b1⟩
theorem am_pre (C : am_C p R m c cc nL (am_own cn) s args D meth yn ad) {As : List Value} (h2 : am_R sc s D b ad h H) : ∀ U : State, U.heap = H → s.WarmedH U.vm → am_Pc sc D b ad As h (As.map (am_mv b ad)).toArray U := by
  intro U hU hW
  exact ⟨rfl, by rw [hU]; exact h2.moved hW.alike, va_K.moved hW.alike C.2.2.2.2.2.1, am_E.warm hW C.2.2.2.2.2.2.2.2.2⟩
theorem am_stk (st : List Value) (k : Nat) : st.map (am_mv b ad) = ((st.take k).reverse.map (am_mv b ad)).reverse ++ (st.drop k).map (am_mv b ad) := by
  rw [← List.map_reverse, List.reverse_reverse, ← List.map_append, List.take_append_drop]
theorem am_vst (v : Option Value) (r : List Value) : (v.map (am_mv b ad)).toList ++ r.map (am_mv b ad) = (v.toList ++ r).map (am_mv b ad) := by
  cases v <;> rfl
set_option maxRecDepth 8192 in
/-- a call, out of its callee's contract -/
theorem am_call (C : am_C p R m c cc nL (am_own cn) s args D meth yn ad) {d y n : Nat} {q : am_M} {ci : Instr} {lv : am_V} {st : List Value} (hq : am_mds[y]? = some q) (hk9 : am_mk q ≠ 9) (hk3 : am_mk q ≠ 3) (hd : decode cc pc = .ok (ci, 3)) (ok : am_okc cn ci y n = true) (w1 : n % 64 ≤ st.length) (w2 : am_cs (st.drop (n % 64)) ≤ 8) (w3 : n / 64 = 0 ∨ am_rcv (n / 64) (st.take (n % 64)).reverse h = true)
    (hM : am_Mt sc l d q (st.take (n % 64)).reverse h v h2) (hRf : d + 9 ≤ R.frames) (hRl : 80 * (d + 1) + 300 ≤ R.locals) (hle : am_le h h2) (hrm : am_rm R n0 z0 h2)
    (k : am_W sc p l e R s m args below meth c D b ad nL n0 z0 Q (pc + 3) lv (v.toList ++ st.drop (n % 64)) h2) : am_W sc p l e R s m args below meth c D b ad nL n0 z0 Q pc lv st h := by
  intro ls H locs cl sl h1 hR h3 h4 h5
  obtain ⟨m1, m2, m3, m4, m5, m6, m7, m8, m9, m10⟩ := am_mw hq hk9 hk3
  have hts := C.2.2.2.2.1
  obtain ⟨r1, r2⟩ := hrm
  obtain ⟨l1, l2⟩ := hle
  have hrm1 : cl + (h2.length - h.length) ≤ R.cells ∧ sl + (am_sz h2 - am_sz h) ≤ R.slots := ⟨by omega, by omega⟩
  have hroom : (am_rmd d (h2.length - h.length) (am_sz h2 - am_sz h)).frames + 1 ≤ R.frames ∧ 8 + (q.2.1 + 11) + (am_rmd d (h2.length - h.length) (am_sz h2 - am_sz h)).locals ≤ R.locals := ⟨by rw [am_rmd_f]; omega, by rw [am_rmd_l]; omega⟩
  have hW8 : 2 * (F0 m pc ls (st.map (am_mv b ad))).monitorRoom + (((st.drop (n % 64)).map (am_mv b ad)).map fun v => v.category).sum ≤ 8 := by rw [am_cs_mv]; show 2 * 0 + _ ≤ 8; omega
  have fin : ∀ {As : List Value}, va_Run p l e R s m args below meth c H locs cl sl (h2.length - h.length) (am_sz h2 - am_sz h) (F0 m pc ls (st.map (am_mv b ad))) ((st.drop (n % 64)).map (am_mv b ad)) (am_Qc sc D b ad v h2 As.toArray) (fun q => b ≤ q) → W p l e R s m args below meth c H locs cl sl Q (F0 m pc ls (st.map (am_mv b ad))) := by
    intro As hr
    refine am_callW hr h3 fun H1 locs1 y1 y2 => ?_
    rw [am_vst]
    exact k ls H1 locs1 _ _ h1 y1 y2 (by omega) (by omega)
  have hall : ∀ w ∈ (Jvm.Cond.code q.1 (am_by q) q.2.1 q.2.2.1 :: am_T), w ∈ am_T := fun w hw => (List.mem_cons.mp hw).elim (fun z => z ▸ m1) id
  have hlen : ((st.take (n % 64)).reverse.map (am_mv b ad)).length = n % 64 := by rw [List.length_map, List.length_reverse, List.length_take, Nat.min_eq_left w1]
  unfold am_okc at ok
  split at ok
  · rename_i i
    simp only [Bool.or_eq_true, Bool.and_eq_true, beq_iff_eq, hq] at ok
    obtain ⟨⟨ok1, ok2⟩, ok3⟩ := ok
    have ok2 : am_mk q = 0 := ok2.elim id (fun z => absurd z hk3)
    · rcases ok1 with ok1 | ok1
      · have hG : GoodIn am_T (va_wsS (am_own cn) i q.1 (Jvm.Cond.code q.1 (am_by q) q.2.1 q.2.2.1 :: am_T)) := am_good (fun _ z => z) fun w hw => by
          rcases List.mem_append.mp hw with hw | hw
          · simp only [List.mem_cons, List.not_mem_nil, or_false] at hw
            rcases hw with rfl | rfl | rfl
            · exact am_en7 ok1 hq
            · exact m2 ok2
            · exact m4
          · exact hall w hw
        exact fin (va_runS ⟨C.1, C.2.1, C.2.2.1, C.2.2.2.1, hts⟩ (hM D b ad) (va_cwS (am_mn q) hts hG rfl rfl rfl ⟨m7.1, m7.2, m8⟩ hroom) ⟨am_blind _ _ _ _ _, am_pre C hR⟩ rfl (hlen.trans ok3) h1.1 (am_stk st (n % 64)) hW8 hd hrm1)
      · obtain ⟨host, hn⟩ := am_en8 ok1 hq
        exact fin (va_runSN ⟨C.1, C.2.1, C.2.2.1, C.2.2.2.1, hts⟩ (hM D b ad) ⟨va_cnB (am_mn q) hts (am_good (fun _ z => z) hall) rfl rfl rfl (am_E_nm C.2.2.2.2.2.2.2.2.2 hn) (hts _ m4) ⟨m7.1, m7.2, m8⟩ hroom, hts _ (m2 ok2), trivial⟩ ⟨am_blind _ _ _ _ _, am_pre C hR⟩ rfl (hlen.trans ok3) h1.1 (am_stk st (n % 64)) hW8 hd hrm1)
  · rename_i i
    simp only [Bool.and_eq_true, Bool.or_eq_true, beq_iff_eq, hq, decide_eq_true_eq] at ok
    obtain ⟨⟨⟨ok1, ok2⟩, ok3⟩, ok4⟩ := ok
    have hrv : ∃ (v0 : Value) (r : List Value) (rv : Nat), (st.take (n % 64)).reverse = v0 :: r ∧ am_mv b ad v0 = .ref rv ∧ ∃ cell : Cell, H[rv]? = some cell ∧ cell.vm.isStatics = false ∧ s.vm.findClass q.1.cls = some cell.cls := by
      rcases w3 with w3 | w3
      · omega
      · unfold am_rcv at w3
        split at w3
        · rename_i a r he
          split at w3
          · rename_i o ho
            have ho1 := beq_iff_eq.mp w3
            obtain ⟨o1, o2⟩ := o
            simp only at ho1
            subst ho1
            have h63 : ¬ n / 64 = 63 := by
              intro z
              obtain ⟨z9, hz9, -⟩ := am_at_obj (hR.2.1 a _ ho) (by omega)
              simp only at hz9
              rw [z] at hz9
              simp [vwCl] at hz9
            rcases ok4 with ok4 | ⟨⟨ok4, ok6⟩, ok5⟩
            · exact absurd ok4.1 h63
            · have hcl : ∃ T N, vwCl[n / 64]? = some (q.1.cls, T, N) := by
                unfold am_clN at ok5
                split at ok5
                · rename_i z hz
                  obtain ⟨z1, z2, z3⟩ := z
                  simp only at ok5
                  subst ok5
                  exact ⟨z2, z3, hz⟩
                · exfalso
                  rename_i hz
                  obtain ⟨z, hz2, -⟩ := am_at_obj (hR.2.1 a _ ho) (by omega)
                  simp only at hz2
                  rw [hz] at hz2
                  cases hz2
              obtain ⟨T, N, hcl⟩ := hcl
              exact ⟨.ref a, r, b + a, he, rfl, am_recv C.2.2.2.2.2.1 (by omega) hcl hR ho⟩
          · cases w3
        · rename_i x r he
          simp only [Bool.and_eq_true, beq_iff_eq, decide_eq_true_eq] at w3
          rcases ok4 with ok4 | ok4
          · obtain ⟨cell, z1, z2, z3, -⟩ := (hR.2.2.2.2.2.2.2.2.2 x w3.2).1
            exact ⟨.retAddr x, r, ad x, he, rfl, cell, z1, z2, by rw [ok4.2]; exact z3⟩
          · omega
        · cases w3
    obtain ⟨v0, r, rv, hAs, hmv, hrec⟩ := hrv
    have hstk : st.map (am_mv b ad) = (r.map (am_mv b ad)).reverse ++ .ref rv :: (st.drop (n % 64)).map (am_mv b ad) := by
      rw [am_stk st (n % 64), hAs]
      simp [hmv]
    have hlen2 : (r.map (am_mv b ad)).length = am_mn q := by
      rw [hAs] at hlen
      simp only [List.map_cons, List.length_cons] at hlen
      omega
    have hpre : ∀ U : State, U.heap = H → s.WarmedH U.vm → am_Pc sc D b ad (st.take (n % 64)).reverse h (Value.ref rv :: r.map (am_mv b ad)).toArray U := by
      have z := am_pre (As := (st.take (n % 64)).reverse) C hR
      rw [hAs] at z ⊢
      rw [List.map_cons, hmv] at z
      exact z
    rcases ok1 with ok1 | ok1
    · have hG : GoodIn am_T (wsV (am_own cn) i q.1.cls q.1 (Jvm.Cond.code q.1 (am_by q) q.2.1 q.2.2.1 :: am_T)) := am_good (fun _ z => z) fun w hw => by
        rcases List.mem_append.mp hw with hw | hw
        · simp only [List.mem_cons, List.not_mem_nil, or_false] at hw
          rcases hw with rfl | rfl | rfl | rfl
          · exact am_en7 ok1 hq
          · exact m3 (by omega)
          · exact m5 ok2
          · exact m4
        · exact hall w hw
      exact fin (As := Value.ref rv :: r.map (am_mv b ad)) (va_runV ⟨C.1, C.2.1, C.2.2.1, C.2.2.2.1, hts⟩ (hM D b ad) (cwV (am_mn q) hts hG rfl rfl rfl ⟨rfl, m7.1, m7.2, m8⟩ hroom) ⟨am_blind _ _ _ _ _, hrec, hpre⟩ rfl hlen2 h1.1 hstk hW8 hd hrm1)
    · obtain ⟨host, hn⟩ := am_en8 ok1 hq
      exact fin (As := Value.ref rv :: r.map (am_mv b ad)) (va_runVN ⟨C.1, C.2.1, C.2.2.1, C.2.2.2.1, hts⟩ (hM D b ad) ⟨va_cnB (am_mn q) hts (am_good (fun _ z => z) hall) rfl rfl rfl (am_E_nm C.2.2.2.2.2.2.2.2.2 hn) (hts _ m4) ⟨m7.1, m7.2, m8⟩ hroom, hts _ (m3 (by omega)), hts _ (m5 ok2)⟩ ⟨am_blind _ _ _ _ _, hrec, hpre⟩ rfl hlen2 h1.1 hstk hW8 hd hrm1)
  · rename_i i
    simp only [Bool.and_eq_true, Bool.or_eq_true, beq_iff_eq, hq, decide_eq_true_eq] at ok
    obtain ⟨⟨⟨ok1, ok2⟩, ok3⟩, ok4⟩ := ok
    obtain ⟨n1, n2⟩ := m10 ok2
    have hrv : ∃ (v0 : Value) (r : List Value) (rv : Nat), (st.take (n % 64)).reverse = v0 :: r ∧ am_mv b ad v0 = .ref rv := by
      rcases w3 with w3 | w3
      · omega
      · unfold am_rcv at w3
        split at w3
        · rename_i a r he
          exact ⟨.ref a, r, _, he, rfl⟩
        · rename_i x r he
          exact ⟨.retAddr x, r, _, he, rfl⟩
        · cases w3
    obtain ⟨v0, r, rv, hAs, hmv⟩ := hrv
    have hstk : st.map (am_mv b ad) = (r.map (am_mv b ad)).reverse ++ .ref rv :: (st.drop (n % 64)).map (am_mv b ad) := by
      rw [am_stk st (n % 64), hAs]
      simp [hmv]
    have hlen2 : (r.map (am_mv b ad)).length = am_mn q := by
      rw [hAs] at hlen
      simp only [List.map_cons, List.length_cons] at hlen
      omega
    have hpre : ∀ U : State, U.heap = H → s.WarmedH U.vm → am_Pc sc D b ad (st.take (n % 64)).reverse h (Value.ref rv :: r.map (am_mv b ad)).toArray U := by
      have z := am_pre (As := (st.take (n % 64)).reverse) C hR
      rw [hAs] at z ⊢
      rw [List.map_cons, hmv] at z
      exact z
    have hM := hM D b ad
    rw [n2] at hM m1
    have hall2 : ∀ w ∈ (Jvm.Cond.code q.1 (am_by q) q.2.1 none :: am_T), w ∈ am_T := fun w hw => (List.mem_cons.mp hw).elim (fun z => z ▸ m1) id
    rcases ok1 with ok1 | ok1
    · exact fin (As := Value.ref rv :: r.map (am_mv b ad)) (va_runI ⟨C.1, C.2.1, C.2.2.1, C.2.2.2.1, hts⟩ hM (cwI (am_mn q) hts (am_good (fun _ z => z) hall2) rfl rfl rfl (hts _ m4) (hts _ (am_en7 ok1 hq)) (hts _ (m3 (by omega))) n1 ⟨m7.1, m7.2, m8⟩ hroom) ⟨am_blind _ _ _ _ _, hpre⟩ rfl hlen2 h1.1 hstk hW8 hd hrm1)
    · obtain ⟨host, hn⟩ := am_en8 ok1 hq
      exact fin (As := Value.ref rv :: r.map (am_mv b ad)) (va_runIN ⟨C.1, C.2.1, C.2.2.1, C.2.2.2.1, hts⟩ hM ⟨va_cnB (am_mn q) hts (am_good (fun _ z => z) hall2) rfl rfl rfl (am_E_nm C.2.2.2.2.2.2.2.2.2 hn) (hts _ m4) ⟨m7.1, m7.2, m8⟩ hroom, n1, hts _ (m3 (by omega))⟩ ⟨am_blind _ _ _ _ _, hpre⟩ rfl hlen2 h1.1 hstk hW8 hd hrm1)
  · cases ok
end AMK
/-! WHAT A METHOD DOES, by depth: its code, run -/
def am_tyok : Option FieldType → Option Value → Bool
  | none, none => true
  | some .int, some (.int _) => true
  | some .boolean, some (.int x) => x == 0 || x == 1
  | some .long, some (.long _) => true
  | some .byte, some (.int x) => x.toInt8.toInt32 == x
  | some .char, some (.int x) => x.toUInt32.toUInt16.toUInt32.toInt32 == x
  | some .double, some (.double _) => true
  | some .float, some (.float _) => true
  | some (.object _), some v => am_isR v
  | some (.array _), some v => am_isR v
  | _, _ => false
def am_noT : am_Rt := fun _ _ _ _ _ => False
def am_ca (sc : List Int32) (cds : List am_Cd) : Nat → am_Rl
  | 0 => fun _ _ _ _ _ => False
  | d + 1 => fun y As h v h2 => ∃ (q : am_M) (code : List (List Instr × Instr)) (starts : List Nat), am_mds[y]? = some q ∧ am_mk q ≠ 3 ∧ (y, code, starts, []) ∈ cds ∧ am_tyok q.2.2.1 v = true ∧ am_cs As ≤ q.2.1 ∧
      ∃ n, am_go sc (am_ca sc cds d) am_noT code [] (fun r hh => r = v ∧ hh = h2) (fun _ _ => False) n 0 (lv_args 0 As) [] h
theorem am_le_ca {cds : List am_Cd} : ∀ (d y : Nat) (As : List Value) (h : am_H) (v : Option Value) (h2 : am_H), am_ca sc cds d y As h v h2 → am_le h h2
  | 0, _, _, _, _, _, e => e.elim
  | d + 1, y, As, h, v, h2, e => by
    obtain ⟨q, code, starts, -, -, -, -, -, n, g⟩ := e
    obtain ⟨hf, f1, f2⟩ := am_le_go (P := fun hh => hh = h2) (am_le_ca d) (fun _ _ _ _ _ z => z.elim) (fun _ _ z => z.2) (fun _ _ z => z.elim) n 0 _ _ h g
    rw [← f1]
    exact f2
theorem am_largs (b : Nat) (ad : Nat → Nat) : ∀ (As : List Value) (i : Nat), lv_args i (As.map (am_mv b ad)) = am_L b ad (lv_args i As)
  | [], _ => rfl
  | v :: r, i => by
    show (i, am_mv b ad v) :: lv_args (if (am_mv b ad v).category = 2 then i + 2 else i + 1) (r.map (am_mv b ad)) = (i, am_mv b ad v) :: am_L b ad (lv_args (if v.category = 2 then i + 2 else i + 1) r)
    rw [am_mv_cat, am_largs b ad r]
theorem am_lsl (b : Nat) (ad : Nat → Nat) : ∀ (As : List Value), (lg_sl (As.map (am_mv b ad))).length = am_cs As
  | [] => rfl
  | v :: r => by
    have ih := am_lsl b ad r
    have e : lg_sl ((v :: r).map (am_mv b ad)) = (if (am_mv b ad v).category = 2 then [.val (am_mv b ad v), .second] else [.val (am_mv b ad v)]) ++ lg_sl (r.map (am_mv b ad)) := rfl
    have e2 : am_cs (v :: r) = v.category + am_cs r := by simp [am_cs]
    rw [e, e2, List.length_append, ih, am_mv_cat]
    rcases lv_cat v with hv | hv
    · rw [if_neg (by omega), hv]
      rfl
    · rw [if_pos hv, hv]
      rfl
theorem am_wret {p : Program} {l : Launch} {e : Env} {R : Room} {s : State} {m : MethodId} {args : Array Value} {below : List Frame} {meth : Method} {c : Code} {cc : ByteArray} {H : Heap} {locs : List Loc} {cells slots pc b : Nat} {ls : Array Slot} {ad : Nat → Nat} {Qc : Array Value → State → Outcome → State → Prop} {free : Addr → Prop} {ret : Option FieldType} {t : Instr} {st : List Value} {r : Option Value}
    (hexec : p.tables.exec = Jvm.exec) (hb : c.code = cc) (hret : meth.sig.returnType = ret) (hty : am_tyok ret r = true) (hd : decode cc pc = .ok (t, 1)) (hr : am_rt t st = some r) (hq : ∀ t' : State, t'.heap = H → s.WarmedH t'.vm → Qc args s (.returned (r.map (am_mv b ad))) t') (hf : ∀ q ∈ locs, free q.base) (hlocks : meth.locks = false) :
    W p l e R s m args below meth c H locs cells slots (MQ below Qc args s cells slots free) (F0 m pc ls (st.map (am_mv b ad))) := by
  unfold am_rt at hr
  split at hr
  · cases hr
    cases ret with
    | none => cases hty
    | some ty =>
      cases ty with
      | int => exact W.zret (ty := .int) hexec hb hret rfl hq hf hd
      | boolean =>
        simp only [am_tyok, Bool.or_eq_true, beq_iff_eq] at hty
        exact W.zret (ty := .boolean) hexec hb hret (by rcases hty with rfl | rfl <;> rfl) hq hf hd
      | byte =>
        simp only [am_tyok, beq_iff_eq] at hty
        exact W.zret (ty := .byte) hexec hb hret (by show Value.int _ = Value.int _; rw [hty]) hq hf hd
      | char =>
        simp only [am_tyok, beq_iff_eq] at hty
        exact W.zret (ty := .char) hexec hb hret (by show Value.int _ = Value.int _; rw [hty]) hq hf hd
      | _ => cases hty
  · cases hr
    cases ret with
    | none => cases hty
    | some ty =>
      cases ty with
      | long => exact W.lret hexec hb hret hq hf hd
      | _ => cases hty
  · cases hr
    cases ret with
    | none => cases hty
    | some ty =>
      cases ty with
      | double => exact W.dret hexec hb hret hq hf hd
      | _ => cases hty
  · cases hr
    cases ret with
    | none => cases hty
    | some ty =>
      cases ty with
      | float => exact W.fret hexec hb hret hq hf hd
      | _ => cases hty
  · rename_i v
    split at hr
    · rename_i hv
      cases hr
      have hv2 : am_mv b ad v = .null ∨ ∃ a, am_mv b ad v = .ref a := by
        rcases am_isR_spec hv with rfl | ⟨x, rfl⟩ | ⟨x, rfl⟩
        · exact Or.inl rfl
        · exact Or.inr ⟨_, rfl⟩
        · exact Or.inr ⟨_, rfl⟩
      cases ret with
      | none => cases v <;> cases hty
      | some ty =>
        cases ty with
        | object n => exact W.aret (rt := .object n) hexec hb hret (Or.inl ⟨_, rfl⟩) hv2 hq hf hd
        | array n => exact W.aret (rt := .array n) hexec hb hret (Or.inr ⟨_, rfl⟩) hv2 hq hf hd
        | _ => rcases am_isR_spec hv with rfl | ⟨x, rfl⟩ | ⟨x, rfl⟩ <;> cases hty
    · cases hr
  · cases hr
    cases ret with
    | none => exact W.vret hexec hb hret hq hf hd
    | some ty => cases ty <;> cases hty
  · cases hr
/-- EVERY METHOD KEEPS THE CONTRACT that its abstract run says -/
theorem am_met {cds : List am_Cd} (hcds : ∀ z : am_Cd, z ∈ cds → am_ckL z = true) (l : Launch) : ∀ (d y : Nat) (As : List Value) (h : am_H) (v : Option Value) (h2 : am_H) (q : am_M), am_ca sc cds d y As h v h2 → am_mds[y]? = some q → am_mk q ≠ 9 ∧ am_mk q ≠ 3 ∧ am_Mt sc l d q As h v h2
  | 0, _, _, _, _, _, _, e, _ => e.elim
  | d + 1, y, As, h, v, h2, q, e, hq => by
    obtain ⟨q', code, starts, e1, hk3, e2, e3, e4, n, g⟩ := e
    cases hq.symm.trans e1
    have hck := hcds _ e2
    unfold am_ckL at hck
    simp only [hq, Bool.and_eq_true, bne_iff_ne, ne_eq, decide_eq_true_eq] at hck
    obtain ⟨⟨⟨hk9, hown⟩, hs0⟩, hlk⟩ := hck
    obtain ⟨m1, m2, m3, m4, m5, m6, m7, m8, m9, m10⟩ := am_mw hq hk9 hk3
    have hle : am_le h h2 := am_le_ca (d + 1) y As h v h2 ⟨q, code, starts, hq, hk3, e2, e3, e4, n, g⟩
    refine ⟨hk9, hk3, fun D b ad => ?_⟩
    refine Met.ofW (cc := am_by q) (maxL := q.2.1) (ret := q.2.2.1) m6 rfl ?_
    intro p e s m args below meth c s₁ B hml hv
    obtain ⟨rfl, hR, hK, hE⟩ := hv
    have hts := atoms_spec (ws := Jvm.Cond.code q.1 (am_by q) q.2.1 q.2.2.1 :: am_T) B.pre
    have hown2 : s.vm.findClass (am_own q.2.2.2.1) = some m.cls := by rw [← hown]; exact findClass_of_methodNamed B.named
    have hnm : meth.name = q.1.name := (name_of_methodNamed B.named B.method).1
    have hlocks := B.notSynchronized
    have hret := B.returns
    have C : am_C p (am_rmd (d + 1) (h2.length - h.length) (am_sz h2 - am_sz h)) m c (am_by q) q.2.1 (am_own q.2.2.2.1) s (As.map (am_mv b ad)).toArray D meth q.1.name ad :=
      ⟨B.exec, B.bytes, hml, hown2, fun w hw => hts w (List.mem_cons_of_mem _ hw), hK, hnm, by rw [am_rmd_f]; omega, by rw [am_rmd_l]; omega, hE⟩
    have hl := lv_entry (As.map (am_mv b ad)) (n := q.2.1) (by rw [am_lsl]; exact e4)
    rw [lg_entry_eq]
    rw [am_largs] at hl
    have hrm2 : am_rm (am_rmd (d + 1) (h2.length - h.length) (am_sz h2 - am_sz h)) h.length (am_sz h) h2 := ⟨by show h2.length ≤ h.length + (h2.length - h.length); omega, by show am_sz h2 ≤ am_sz h + (am_sz h2 - am_sz h); omega⟩
    refine am_sim (e := e) (l := l) (below := below) (Q := MQ below (am_Qc sc D b ad v h2) (As.map (am_mv b ad)).toArray s (h2.length - h.length) (am_sz h2 - am_sz h) (fun q => b ≤ q)) (b := b) (n0 := h.length) (z0 := am_sz h) C (ini := am_mk q == 2) (fun z => (m10 (beq_iff_eq.mp z)).1) (ok := am_okc q.2.2.2.1) (starts := starts) (hds := []) hlk (am_le_ca d) (fun _ _ _ _ _ z => z.elim) (fun r hh (z : r = v ∧ hh = h2) => by rw [z.2]; exact hrm2) (fun _ _ z => z.elim) ?_ ?_ ?_ ?_ ?_ n 0 0 (lv_args 0 As) [] h g hs0 _ s.heap [] 0 0 hl hR va_S.rf (Nat.zero_add _) (Nat.zero_add _)
    · intro pc y2 n2 ci lv st h3 h4 v2 hd ok w1 w2 w3 hca hle2 hrm3 k
      have hq2 : ∃ q2, am_mds[y2]? = some q2 := by
        cases d with
        | zero => exact hca.elim
        | succ d =>
          obtain ⟨q2, _, _, hq2, -⟩ := hca
          exact ⟨q2, hq2⟩
      obtain ⟨q2, hq2⟩ := hq2
      obtain ⟨hk2, hk4, hM⟩ := am_met hcds l d y2 _ _ _ _ q2 hca hq2
      exact am_call C hq2 hk2 hk4 hd ok w1 w2 w3 hM (by rw [am_rmd_f]; omega) (by rw [am_rmd_l]; omega) hle2 hrm3 k
    · intro _ _ _ _ _ _ _ _ _ _ _ _ _ _ _ _ _ z
      exact z.elim
    · intro bi x b2 z
      cases z
    · intro pc t lv st hf r hd hr hfin
      obtain ⟨rfl, rfl⟩ := hfin
      intro ls H locs cl sl y1 y2 y3 y4 y5
      have z1 : cl = hf.length - h.length := by omega
      have z2 : sl = am_sz hf - am_sz h := by omega
      subst z1; subst z2
      have hqc : ∀ (t : State), t.heap = H → s.WarmedH t.vm → am_Qc sc D b ad r hf (As.map (am_mv b ad)).toArray s (.returned (r.map (am_mv b ad))) t := fun t ht hW => ⟨rfl, by rw [ht]; exact y2.moved hW.alike, y3.F ht⟩
      exact am_wret C.1 C.2.1 hret e3 hd hr hqc y3.2.2 hlocks
    · intro _ _ _ _ _ _ _ _ _ _ _ z
      exact z.elim
end
section
variable {sc : List Int32}
/-! THROWS, and the law's wrappers that catch them -/
def am_xn (x : Nat) : String := if x = 0 then "java/lang/IllegalStateException" else if x = 1 then "java/lang/IllegalArgumentException" else "java/lang/IndexOutOfBoundsException"
def am_names : List String := ["java/lang/RuntimeException", "java/lang/Exception"]
def am_okw (X : String) (w : Cond) (p : Nat) : Bool := (decide (lw_tbl[p]? = some w) && goodWord w) || (decide (w = .castable X X) || am_dcl.any (fun y => decide (w = .declares y)))
def am_pz (X : String) : List Cond → List Nat → Bool
  | [], [] => true
  | w :: r, p :: s => am_okw X w p && am_pz X r s
  | _, _ => false
theorem am_pz_spec {X : String} : ∀ {L : List Cond} {ps : List Nat}, am_pz X L ps = true → ∀ w ∈ L, w ∈ am_T ∨ w = .castable X X ∨ ∃ y ∈ am_dcl, w = .declares y
  | [], _, _, w, hw => by cases hw
  | x :: r, [], h, w, hw => by simp [am_pz] at h
  | x :: r, p :: s, h, w, hw => by
    simp only [am_pz, Bool.and_eq_true] at h
    rcases List.mem_cons.mp hw with rfl | hw
    · have h1 := h.1
      unfold am_okw at h1
      simp only [Bool.or_eq_true, Bool.and_eq_true, decide_eq_true_eq, List.any_eq_true] at h1
      rcases h1 with h1 | h1 | h1
      · exact Or.inl (am_inT (List.mem_of_getElem? h1.1) h1.2)
      · exact Or.inr (Or.inl h1)
      · exact Or.inr (Or.inr h1)
    · exact am_pz_spec h.2 w hw
/-- the words of a throw -/
def am_thk (cn ik ic x : Nat) : Prop := Jvm.Cond.classLink (am_own cn) ik (am_xn x) ∈ am_T ∧ Jvm.Cond.initialized (am_xn x) ∈ am_T ∧ (∀ w ∈ vx_atS (am_own cn) ic (am_xn x) am_names, w ∈ am_T ∨ w = .castable (am_xn x) (am_xn x) ∨ ∃ y ∈ am_dcl, w = .declares y) ∧
  (∀ w ∈ vx_atS (am_own cn) ic (am_xn x) am_names, vx_ot w = true) ∧ (am_xn x, am_xn x) ∈ am_cst ∧ Bundle.fit (am_xn x) = true
theorem am_thk_ot {cn ik ic x : Nat} (h : am_thk cn ik ic x) : ∀ w ∈ Cond.classLink (am_own cn) ik (am_xn x) :: Cond.initialized (am_xn x) :: vx_atS (am_own cn) ic (am_xn x) am_names, vx_ot w = true := by
  intro w hw
  rcases List.mem_cons.mp hw with rfl | hw
  · rfl
  · rcases List.mem_cons.mp hw with rfl | hw
    · rfl
    · exact h.2.2.2.1 w hw
/-- where throws stand: the class, its entries for the exception and its constructor, which exception -/
def am_ths : List (Nat × Nat × Nat × Nat) := [(11, 109, 113, 0), (11, 120, 124, 1), (11, 142, 146, 2)]
def am_thp0 : List Nat := [239, 1275, 1284, 1289, 1292, 1294, 1276, 1277, 271, 272, 1278, 1283, 1290, 1310, 1265, 1311, 1267, 1312, 1269, 1279, 1281, 1271, 1306, 1307, 1309, 1271, 1297, 1298, 1299, 1300, 1257, 1300, 1301, 1302, 1303, 1259, 1303, 1304, 1305, 1306, 1261, 1296, 1254, 1255, 1262, 1263, 1264, 1266, 1268, 1270, 1274, 1273, 1272]
def am_thp1 : List Nat := [239, 1275, 1284, 1289, 1292, 1294, 1276, 1277, 271, 272, 1278, 1283, 1290, 1310, 1265, 1311, 1267, 1312, 1269, 1279, 1281, 1271, 1306, 1307, 1309, 1271, 1345, 1346, 1347, 1300, 1257, 1300, 1301, 1302, 1303, 1259, 1303, 1304, 1305, 1306, 1261, 1344, 1335, 1336, 1337, 1287, 1338, 1339, 1340, 1341, 1274, 1273, 1342]
def am_thp2 : List Nat := [239, 1275, 1284, 1289, 1292, 1294, 1276, 1277, 271, 272, 1278, 1283, 1290, 1310, 1265, 1311, 1267, 1312, 1269, 1279, 1281, 1271, 1306, 1307, 1309, 1271, 1388, 1389, 1390, 1300, 1257, 1300, 1301, 1302, 1303, 1259, 1303, 1304, 1305, 1306, 1261, 1387, 1378, 1379, 1380, 1288, 1381, 1382, 1383, 1384, 1274, 1273, 1385]
theorem am_thk0 : am_thk 11 109 113 0 := ⟨am_inT (List.mem_of_getElem? (i := 1253) (by decide +kernel)) rfl, am_inT (List.mem_of_getElem? (i := 242) (by decide +kernel)) rfl, am_pz_spec (ps := am_thp0) (by decide +kernel), by decide +kernel, by decide +kernel, by decide +kernel⟩
theorem am_thk1 : am_thk 11 120 124 1 := ⟨am_inT (List.mem_of_getElem? (i := 1334) (by decide +kernel)) rfl, am_inT (List.mem_of_getElem? (i := 243) (by decide +kernel)) rfl, am_pz_spec (ps := am_thp1) (by decide +kernel), by decide +kernel, by decide +kernel, by decide +kernel⟩
theorem am_thk2 : am_thk 11 142 146 2 := ⟨am_inT (List.mem_of_getElem? (i := 1377) (by decide +kernel)) rfl, am_inT (List.mem_of_getElem? (i := 248) (by decide +kernel)) rfl, am_pz_spec (ps := am_thp2) (by decide +kernel), by decide +kernel, by decide +kernel, by decide +kernel⟩
theorem am_thw {cn ik ic x : Nat} (h : (cn, ik, ic, x) ∈ am_ths) : am_thk cn ik ic x := by
  simp only [am_ths, List.mem_cons, List.not_mem_nil, or_false, Prod.mk.injEq] at h
  rcases h with ⟨rfl, rfl, rfl, rfl⟩ | ⟨rfl, rfl, rfl, rfl⟩ | ⟨rfl, rfl, rfl, rfl⟩
  · exact am_thk0
  · exact am_thk1
  · exact am_thk2
/-- is the entry i of class cn a String? -/
def am_enS (cn i : Nat) : Bool := match am_find (am_tb cn) i with
  | some q => q.2.1 == 13
  | none => false
theorem am_enS_spec {cn i : Nat} (h : am_enS cn i = true) : ∃ k, am_en cn i 13 k = true := by
  unfold am_enS at h
  split at h
  · rename_i q hq
    refine ⟨q.2.2.1, ?_⟩
    unfold am_en
    rw [hq]
    simp only [beq_iff_eq] at h
    simp [h]
  · cases h
/-- 'throw new X(text)' stands at pe -/
def am_thr (cn : Nat) (cc : ByteArray) (pe x : Nat) : Bool := am_wi cc pe fun q => match q.1 with
  | .new ik => decide (q.2 = 3) && am_wi cc (pe + 3) (fun q3 => decide (q3.1 = .dup) && decide (q3.2 = 1)) && am_wi cc (pe + 4) (fun q4 => match q4.1 with
    | .ldc is => decide (q4.2 = 2) && am_enS cn is && am_wi cc (pe + 6) (fun q6 => match q6.1 with
      | .invokespecial ic => decide (q6.2 = 3) && am_wi cc (pe + 9) (fun q9 => decide (q9.1 = .athrow) && decide (q9.2 = 1)) && am_ths.contains (cn, ik, ic, x)
      | _ => false)
    | .ldc_w is => decide (q4.2 = 3) && am_enS cn is && am_wi cc (pe + 7) (fun q6 => match q6.1 with
      | .invokespecial ic => decide (q6.2 = 3) && am_wi cc (pe + 10) (fun q9 => decide (q9.1 = .athrow) && decide (q9.2 = 1)) && am_ths.contains (cn, ik, ic, x)
      | _ => false)
    | _ => false)
  | _ => false
def am_ckT (cn nL : Nat) (ini : Bool) (cc : ByteArray) (starts : List Nat) : Nat → List (List Instr × Instr) → Bool
  | _, [] => true
  | bi, q :: r => (match q.2 with
    | .multianewarray x _ => decide (3 ≤ x) || (match starts[bi]? with
      | some pc => match am_lk cn nL ini cc pc q.1 with
        | some pe => am_thr cn cc pe x
        | none => false
      | none => false)
    | _ => true) && am_ckT cn nL ini cc starts (bi + 1) r
theorem am_ckT_at {cn nL : Nat} {ini : Bool} {cc : ByteArray} {starts : List Nat} {is : List Instr} {x i pc pe : Nat} : ∀ {code : List (List Instr × Instr)} {b0 j : Nat}, am_ckT cn nL ini cc starts b0 code = true → code[j]? = some (is, .multianewarray x i) → starts[b0 + j]? = some pc → am_lk cn nL ini cc pc is = some pe → x < 3 → am_thr cn cc pe x = true
  | [], b0, j, h, e, _, _, _ => by simp at e
  | q :: r, b0, 0, h, e, hs, hl, hx => by
    simp at e
    subst e
    simp only [am_ckT, Bool.and_eq_true, Bool.or_eq_true, decide_eq_true_eq] at h
    rcases h.1 with h1 | h1
    · omega
    · rw [Nat.add_zero] at hs
      rw [hs] at h1
      simp only [hl] at h1
      exact h1
  | q :: r, b0, j + 1, h, e, hs, hl, hx => by
    simp only [am_ckT, Bool.and_eq_true] at h
    simp at e
    exact am_ckT_at h.2 e (by rw [show b0 + 1 + j = b0 + (j + 1) by omega]; exact hs) hl hx
/-- the things of the heap, and one more behind them -/
def am_RX (sc : List Int32) (U : State) (D : va_G) (b : Nat) (ad : Nat → Nat) (h : am_H) (H : Heap) : Prop := b + h.length < H.size ∧ (∀ (k : Nat) (o : am_O), h[k]? = some o → am_at U D b ad o (b + k) H) ∧ am_X sc b ad U H
theorem am_RX.moved {u U : State} {D : va_G} {b : Nat} {ad : Nat → Nat} {h : am_H} {H : Heap} (hvm : u.vm.Alike U.vm) (r : am_RX sc u D b ad h H) : am_RX sc U D b ad h H := ⟨r.1, fun k o e => (r.2.1 k o e).moved hvm, r.2.2.moved hvm⟩
theorem am_RX.junk {U : State} {D : va_G} {b : Nat} {ad : Nat → Nat} {h : am_H} {H : Heap} (r : am_RX sc U D b ad h H) (hz : H.size ≤ b + h.length + 1) : am_R sc U D b ad (h ++ [am_junk]) H := by
  refine ⟨by rw [List.length_append]; have := r.1; show H.size = b + (h.length + 1); omega, fun j o2 hj => ?_, r.2.2⟩
  by_cases hl : j < h.length
  · rw [List.getElem?_append_left hl] at hj
    exact r.2.1 j o2 hj
  · rw [List.getElem?_append_right (by omega)] at hj
    have hz : j - h.length < 1 := (List.getElem?_eq_some_iff.mp hj).1
    rw [show j - h.length = 0 by omega] at hj
    cases hj
    exact Or.inr (Or.inr rfl)
def am_XC (sc : List Int32) (D : va_G) (b : Nat) (ad : Nat → Nat) (x : Nat) (h2 : am_H) : String → State → State → Prop := fun E st t => E = am_xn x ∧ am_RX sc t D b ad h2 t.heap ∧ va_F (fun q => b ≤ q) st t
section AMX
variable {p : Program} {l : Launch} {e : Env} {R : Room} {s : State} {m : MethodId} {args : Array Value} {below : List Frame} {meth : Method} {c : Code} {Q : State → Prop}
variable {cc : ByteArray} {nL n0 z0 pc b cn : Nat} {yn : String} {ad : Nat → Nat} {D : va_G} {lv : am_V} {h : am_H}
theorem am_throw (C : am_C p R m c cc nL (am_own cn) s args D meth yn ad) (hl : l.stackTraces = false) {x pe mc ms : Nat} {Qc : Array Value → State → Outcome → State → Prop} (hck : am_thr cn cc pe x = true) (hX0 : am_X sc b ad s s.heap) (hout : ∀ x ∈ c.exceptionTable.toList, False) (hlocks : meth.locks = false) (hRf : 6 ≤ R.frames) (hRl : 100 ≤ R.locals)
    (hrm : am_rm R n0 z0 (h ++ [am_junk])) (hmc : h.length + 1 ≤ n0 + mc) (hms : am_sz h + 6 ≤ z0 + ms) : am_W sc p l e R s m args below meth c D b ad nL n0 z0 (vx_MQ below Qc (am_XC sc D b ad x h) args s mc ms (fun q => b ≤ q)) pe lv [] h := by
  intro ls H locs cl sl h1 h2 h3 h4 h5
  have hts := C.2.2.2.2.1
  have hE := C.2.2.2.2.2.2.2.2.2
  obtain ⟨r1, r2⟩ := hrm
  rw [List.length_append] at r1
  rw [am_sz_push] at r2
  have r1 : h.length + 1 ≤ n0 + R.cells := r1
  have r2 : am_sz h + 6 ≤ z0 + R.slots := r2
  have hat : ∀ {ik ic : Nat}, am_thk cn ik ic x → ∀ w ∈ vx_atS (am_own cn) ic (am_xn x) am_names, w.before args s = true := by
    intro ik ic k w hw
    rcases k.2.2.1 w hw with hw | rfl | ⟨y, hy, rfl⟩
    · exact hts w hw
    · exact va_Nw.use rfl (hE.2.2.2.2.1 _ k.2.2.2.2.1)
    · exact va_Nw.use rfl (hE.2.2.2.2.2.2 _ hy)
  have hx : ∀ t : State, s.vm.Alike t.vm → H.size < t.heap.size → (∀ q : Nat, q < H.size → t.heap[q]? = H[q]?) → am_XC sc D b ad x h (am_xn x) s t := by
    intro t hal hz hq
    refine ⟨rfl, ⟨by rw [← h2.1]; exact hz, fun k o ho => ?_, (h2.2.2.moved hal).kept fun a ha _ => hq a ha⟩, Nat.le_trans h3.1 (by omega), fun q z1 z2 => by rw [hq q (Nat.lt_of_lt_of_le z1 h3.1)]; exact h3.2.1 q z1 z2⟩
    have hk : b + k < H.size := by rw [h2.1]; have := (List.getElem?_eq_some_iff.mp ho).1; omega
    exact ((h2.2.1 k o ho).moved hal).kept (hq _ hk)
  have hnm : ∀ n ∈ am_names, Bundle.fit n = true := by decide +kernel
  have hout2 : ∀ k : Nat, ∀ x ∈ c.exceptionTable.toList, covers x k = false := fun _ x hx => (hout x hx).elim
  obtain ⟨⟨q1, q2⟩, hq0, hck⟩ := am_wi_spec hck
  simp only at hck
  split at hck
  · rename_i ik
    simp only [Bool.and_eq_true, decide_eq_true_eq] at hck
    obtain ⟨⟨rfl, hd3⟩, hck⟩ := hck
    obtain ⟨⟨a1, a2⟩, d3, hd3⟩ := am_wi_spec hd3
    simp only [Bool.and_eq_true, decide_eq_true_eq] at hd3
    obtain ⟨rfl, rfl⟩ := hd3
    obtain ⟨⟨a1, a2⟩, d4, hck⟩ := am_wi_spec hck
    simp only at hck
    split at hck
    · rename_i is
      simp only [Bool.and_eq_true, decide_eq_true_eq] at hck
      obtain ⟨⟨rfl, hS⟩, hck⟩ := hck
      obtain ⟨⟨a1, a2⟩, d6, hck⟩ := am_wi_spec hck
      simp only at hck
      split at hck
      · rename_i ic
        simp only [Bool.and_eq_true, decide_eq_true_eq] at hck
        obtain ⟨⟨rfl, hd9⟩, hm⟩ := hck
        obtain ⟨⟨a1, a2⟩, d9, hd9⟩ := am_wi_spec hd9
        simp only [Bool.and_eq_true, decide_eq_true_eq] at hd9
        obtain ⟨rfl, rfl⟩ := hd9
        have k := am_thw (List.contains_iff_mem.mp hm)
        obtain ⟨sk, hS⟩ := am_enS_spec hS
        obtain ⟨tx, hS⟩ := am_en13 hS
        exact vx_throwS C.1 C.2.1 hl (names := am_names) C.2.2.2.1 k.2.2.2.2.2 hnm (hts _ k.1) (hts _ k.2.1) (am_E_str hE hS) (hat k) (am_thk_ot k) hX0.1 hX0.2.1 h3 (h1.1.trans C.2.2.1.symm) hq0 d3 d4 d6 d9 (hout2 _) (by show 2 + 3 < _; omega) (by show 0 + (13 * (2 + 1) + 43) ≤ _; omega) (by omega) (by omega) hlocks hx h3.2.2 (by omega) (by omega)
      · cases hck
    · rename_i is
      simp only [Bool.and_eq_true, decide_eq_true_eq] at hck
      obtain ⟨⟨rfl, hS⟩, hck⟩ := hck
      obtain ⟨⟨a1, a2⟩, d6, hck⟩ := am_wi_spec hck
      simp only at hck
      split at hck
      · rename_i ic
        simp only [Bool.and_eq_true, decide_eq_true_eq] at hck
        obtain ⟨⟨rfl, hd9⟩, hm⟩ := hck
        obtain ⟨⟨a1, a2⟩, d9, hd9⟩ := am_wi_spec hd9
        simp only [Bool.and_eq_true, decide_eq_true_eq] at hd9
        obtain ⟨rfl, rfl⟩ := hd9
        have k := am_thw (List.contains_iff_mem.mp hm)
        obtain ⟨sk, hS⟩ := am_enS_spec hS
        obtain ⟨tx, hS⟩ := am_en13 hS
        exact vx_throwSW C.1 C.2.1 hl (names := am_names) C.2.2.2.1 k.2.2.2.2.2 hnm (hts _ k.1) (hts _ k.2.1) (am_E_str hE hS) (hat k) (am_thk_ot k) hX0.1 hX0.2.1 h3 (h1.1.trans C.2.2.1.symm) hq0 d3 d4 d6 d9 (hout2 _) (by show 2 + 3 < _; omega) (by show 0 + (13 * (2 + 1) + 43) ≤ _; omega) (by omega) (by omega) hlocks hx h3.2.2 (by omega) (by omega)
      · cases hck
    · cases hck
  · cases hck
end AMX
/-! a method that throws -/
def am_ckTz (z : am_Cd) : Bool := match am_mds[z.1]? with
  | some q => am_ckT q.2.2.2.1 q.2.1 (am_mk q == 2) (am_by q) z.2.2.1 0 z.2.1
  | none => false
def am_ct (sc : List Int32) (cds : List am_Cd) (d : Nat) : am_Rt := fun y As h x h2 => ∃ (q : am_M) (code : List (List Instr × Instr)) (starts : List Nat), am_mds[y]? = some q ∧ am_mk q ≠ 3 ∧ (y, code, starts, []) ∈ cds ∧ x < 3 ∧ am_cs As ≤ q.2.1 ∧
      ∃ n, am_go sc (am_ca sc cds d) am_noT code [] (fun _ _ => False) (fun x' hh => x' = x ∧ hh = h2) n 0 (lv_args 0 As) [] h
theorem am_le_ct {cds : List am_Cd} (d y : Nat) (As : List Value) (h : am_H) (x : Nat) (h2 : am_H) (e : am_ct sc cds d y As h x h2) : am_le h h2 := by
  obtain ⟨q, code, starts, -, -, -, -, -, n, g⟩ := e
  obtain ⟨hf, f1, f2⟩ := am_le_go (P := fun hh => hh = h2) (am_le_ca d) (fun _ _ _ _ _ z => z.elim) (fun _ _ z => z.elim) (fun _ _ z => z.2) n 0 _ _ h g
  rw [← f1]
  exact f2
theorem am_metT {cds : List am_Cd} (hcds : ∀ z : am_Cd, z ∈ cds → am_ckL z = true) (hct : ∀ z : am_Cd, z ∈ cds → am_ckTz z = true) {l : Launch} (hl : l.stackTraces = false) {d y x : Nat} {As : List Value} {h h2 : am_H} {q : am_M} (e : am_ct sc cds d y As h x h2) (hq : am_mds[y]? = some q) :
    am_mk q ≠ 9 ∧ am_mk q ≠ 3 ∧ ∀ (D : va_G) (b : Nat) (ad : Nat → Nat), vx_Met l q.1 (Jvm.Cond.code q.1 (am_by q) q.2.1 q.2.2.1 :: am_T) (am_rmd (d + 1) (h2.length + 1 - h.length) (am_sz h2 + 6 - am_sz h)) (am_Pc sc D b ad As h) (fun _ _ _ _ => False) (am_XC sc D b ad x h2) (h2.length + 1 - h.length) (am_sz h2 + 6 - am_sz h) (fun q => b ≤ q) := by
  have hle : am_le h h2 := am_le_ct d y As h x h2 e
  obtain ⟨q', code, starts, e1, hk3, e2, hx3, e4, n, g⟩ := e
  cases hq.symm.trans e1
  have hck := hcds _ e2
  unfold am_ckL at hck
  simp only [hq, Bool.and_eq_true, bne_iff_ne, ne_eq, decide_eq_true_eq] at hck
  obtain ⟨⟨⟨hk9, hown⟩, hs0⟩, hlk⟩ := hck
  have hckT := hct _ e2
  unfold am_ckTz at hckT
  simp only [hq] at hckT
  obtain ⟨m1, m2, m3, m4, m5, m6, m7, m8, m9, m10⟩ := am_mw hq hk9 hk3
  refine ⟨hk9, hk3, fun D b ad => ?_⟩
  refine vx_ofW (cc := am_by q) (maxL := q.2.1) (ret := q.2.2.1) m6 rfl ?_
  intro p e s m args below meth c s₁ B hml htab hv
  obtain ⟨rfl, hR, hK, hE⟩ := hv
  have hts := atoms_spec (ws := Jvm.Cond.code q.1 (am_by q) q.2.1 q.2.2.1 :: am_T) B.pre
  have hown2 : s.vm.findClass (am_own q.2.2.2.1) = some m.cls := by rw [← hown]; exact findClass_of_methodNamed B.named
  have hnm : meth.name = q.1.name := (name_of_methodNamed B.named B.method).1
  have hlocks := B.notSynchronized
  have C : am_C p (am_rmd (d + 1) (h2.length + 1 - h.length) (am_sz h2 + 6 - am_sz h)) m c (am_by q) q.2.1 (am_own q.2.2.2.1) s (As.map (am_mv b ad)).toArray D meth q.1.name ad :=
    ⟨B.exec, B.bytes, hml, hown2, fun w hw => hts w (List.mem_cons_of_mem _ hw), hK, hnm, by rw [am_rmd_f]; omega, by rw [am_rmd_l]; omega, hE⟩
  have hlv := lv_entry (As.map (am_mv b ad)) (n := q.2.1) (by rw [am_lsl]; exact e4)
  rw [lg_entry_eq]
  rw [am_largs] at hlv
  obtain ⟨l1, l2⟩ := hle
  have hrmJ : am_rm (am_rmd (d + 1) (h2.length + 1 - h.length) (am_sz h2 + 6 - am_sz h)) h.length (am_sz h) (h2 ++ [am_junk]) := ⟨by rw [List.length_append]; show h2.length + 1 ≤ h.length + (h2.length + 1 - h.length); omega, by rw [am_sz_push]; show am_sz h2 + 6 ≤ am_sz h + (am_sz h2 + 6 - am_sz h); omega⟩
  have hrm2 := am_rm_le (am_le_push h2 am_junk) hrmJ
  refine am_sim (e := e) (l := l) (below := below) (Q := vx_MQ below (fun _ _ _ _ => False) (am_XC sc D b ad x h2) (As.map (am_mv b ad)).toArray s (h2.length + 1 - h.length) (am_sz h2 + 6 - am_sz h) (fun q => b ≤ q)) (b := b) (n0 := h.length) (z0 := am_sz h) C (ini := am_mk q == 2) (fun z => (m10 (beq_iff_eq.mp z)).1) (ok := am_okc q.2.2.2.1) (starts := starts) (hds := []) hlk (am_le_ca d) (fun _ _ _ _ _ z => z.elim) (fun _ _ z => z.elim) (fun x' hh (z : x' = x ∧ hh = h2) => by rw [z.2]; exact hrm2) ?_ ?_ ?_ ?_ ?_ n 0 0 (lv_args 0 As) [] h g hs0 _ s.heap [] 0 0 hlv hR va_S.rf (Nat.zero_add _) (Nat.zero_add _)
  · intro pc y2 n2 ci lv st h3 h4 v2 hd ok w1 w2 w3 hca hle2 hrm3 k
    have hq2 : ∃ q2, am_mds[y2]? = some q2 := by
      cases d with
      | zero => exact hca.elim
      | succ d =>
        obtain ⟨q2, _, _, hq2, -⟩ := hca
        exact ⟨q2, hq2⟩
    obtain ⟨q2, hq2⟩ := hq2
    obtain ⟨hk2, hk4, hM⟩ := am_met hcds l d y2 _ _ _ _ q2 hca hq2
    exact am_call C hq2 hk2 hk4 hd ok w1 w2 w3 hM (by rw [am_rmd_f]; omega) (by rw [am_rmd_l]; omega) hle2 hrm3 k
  · intro _ _ _ _ _ _ _ _ _ _ _ _ _ _ _ _ _ z
    exact z.elim
  · intro bi x b2 z
    cases z
  · intro pc t lv st hf r hd hr hfin
    exact hfin.elim
  · intro bi pc pe x' i is lv hh g1 g2 g3 g4
    obtain ⟨rfl, rfl⟩ := g4
    have hthr := am_ckT_at (b0 := 0) (j := bi) hckT g1 (by rw [Nat.zero_add]; exact g2) g3 hx3
    exact am_throw C hl hthr hR.2.2 htab hlocks (by rw [am_rmd_f]; omega) (by rw [am_rmd_l]; omega) hrmJ (by omega) (by omega)
end
section
variable {sc : List Int32}
/-! THE LAW'S WRAPPERS: a static method that calls one that throws, and catches -/
/-- entries of the law's class that name an exception -/
def am_hcl : List (Nat × Nat × Nat) := [(21, 13, 0), (21, 19, 1), (21, 28, 2)]
theorem am_hcl_w {cn i x : Nat} (h : (cn, i, x) ∈ am_hcl) : Jvm.Cond.classLink (am_own cn) i (am_xn x) ∈ am_T ∧ i ≠ 0 ∧ x < 3 := by
  simp only [am_hcl, List.mem_cons, List.not_mem_nil, or_false, Prod.mk.injEq] at h
  rcases h with ⟨rfl, rfl, rfl⟩ | ⟨rfl, rfl, rfl⟩ | ⟨rfl, rfl, rfl⟩
  · exact ⟨am_inT (List.mem_of_getElem? (i := 1244) (by decide +kernel)) rfl, by decide, by decide⟩
  · exact ⟨am_inT (List.mem_of_getElem? (i := 1329) (by decide +kernel)) rfl, by decide, by decide⟩
  · exact ⟨am_inT (List.mem_of_getElem? (i := 1372) (by decide +kernel)) rfl, by decide, by decide⟩
theorem am_xn_nc {x y : Nat} (hx : x < 3) (hy : y < 3) (hn : ¬ y = x) : (am_xn x, am_xn y) ∈ am_nct := by
  have h : ∀ x, x < 3 → ∀ y, y < 3 → (y = x ∨ (am_xn x, am_xn y) ∈ am_nct) := by decide
  exact (h x hx y hy).resolve_left hn
theorem am_xn_c {x : Nat} (hx : x < 3) : (am_xn x, am_xn x) ∈ am_cst := by
  have h : ∀ x, x < 3 → (am_xn x, am_xn x) ∈ am_cst := by decide
  exact h x hx
def am_hn (cn i : Nat) : List (Nat × Nat × Nat) → Option Nat
  | [] => none
  | q :: r => if q.1 = cn ∧ q.2.1 = i then some q.2.2 else am_hn cn i r
theorem am_hn_in {cn i x : Nat} : ∀ {L : List (Nat × Nat × Nat)}, am_hn cn i L = some x → (cn, i, x) ∈ L
  | [], h => by simp [am_hn] at h
  | q :: r, h => by
    unfold am_hn at h
    split at h
    · rename_i hq
      obtain ⟨q1, q2, q3⟩ := q
      obtain ⟨rfl, rfl⟩ := hq
      cases h
      exact List.mem_cons_self
    · exact List.mem_cons_of_mem _ (am_hn_in h)
/-- where a throw of x at pe is caught -/
def am_hs (cn pe x : Nat) : List (Nat × Nat × Nat × Nat) → Option Nat
  | [] => none
  | q :: r => if q.1 ≤ pe ∧ pe < q.2.1 then match am_hn cn q.2.2.2 am_hcl with
    | some y => if y = x then some q.2.2.1 else am_hs cn pe x r
    | none => none
    else am_hs cn pe x r
theorem am_hs_spec {cn pe x hp : Nat} : ∀ {hh : List (Nat × Nat × Nat × Nat)}, am_hs cn pe x hh = some hp → ∃ (pre : List ExceptionTableEntry) (z : ExceptionTableEntry) (suf : List ExceptionTableEntry), tableOf hh = pre ++ z :: suf ∧
    (∀ w ∈ pre, covers w pe = false ∨ ∃ y, (cn, w.catchType, y) ∈ am_hcl ∧ ¬ y = x) ∧ covers z pe = true ∧ (cn, z.catchType, x) ∈ am_hcl ∧ z.handlerPc = hp
  | [], h => by simp [am_hs] at h
  | q :: r, h => by
    unfold am_hs at h
    split at h
    · rename_i hc
      split at h
      · rename_i y hy
        split at h
        · rename_i hyx
          subst hyx
          cases h
          exact ⟨[], ⟨q.1, q.2.1, q.2.2.1, q.2.2.2⟩, tableOf r, rfl, (fun w hw => by cases hw), (by simp [covers, hc.1, hc.2]), am_hn_in hy, rfl⟩
        · rename_i hyx
          obtain ⟨pre, z, suf, h1, h2, h3, h4, h5⟩ := am_hs_spec h
          refine ⟨⟨q.1, q.2.1, q.2.2.1, q.2.2.2⟩ :: pre, z, suf, by show _ :: tableOf r = _; rw [h1]; rfl, fun w hw => ?_, h3, h4, h5⟩
          rcases List.mem_cons.mp hw with rfl | hw
          · exact Or.inr ⟨y, am_hn_in hy, hyx⟩
          · exact h2 w hw
      · cases h
    · rename_i hc
      obtain ⟨pre, z, suf, h1, h2, h3, h4, h5⟩ := am_hs_spec h
      refine ⟨⟨q.1, q.2.1, q.2.2.1, q.2.2.2⟩ :: pre, z, suf, by show _ :: tableOf r = _; rw [h1]; rfl, fun w hw => ?_, h3, h4, h5⟩
      rcases List.mem_cons.mp hw with rfl | hw
      · refine Or.inl ?_
        unfold covers
        rw [Bool.and_eq_false_iff, decide_eq_false_iff_not, decide_eq_false_iff_not]
        by_cases h9 : q.1 ≤ pe
        · exact Or.inr fun z => hc ⟨h9, z⟩
        · exact Or.inl h9
      · exact h2 w hw
/-- the call in a wrapper: by the receiver, by a plain link -/
def am_okV (cn : Nat) (c : Instr) (y n : Nat) : Bool := match c with
  | .invokevirtual i => match am_mds[y]? with
    | some q => am_en cn i 7 y && am_mk q == 1 && n % 64 == am_mn q + 1 && decide (3 ≤ n / 64) && decide (n / 64 < 63) && decide (am_clN (n / 64) = q.1.cls)
    | none => false
  | _ => false
theorem am_okV_c {cn y n : Nat} {c : Instr} (h : am_okV cn c y n = true) : am_okc cn c y n = true := by
  unfold am_okV at h
  split at h
  · rename_i i
    split at h
    · rename_i q hq
      simp only [Bool.and_eq_true, beq_iff_eq, decide_eq_true_eq] at h
      obtain ⟨⟨⟨⟨⟨h1, h2⟩, h3⟩, h4⟩, h5⟩, h6⟩ := h
      simp [am_okc, hq, h1, h2, h3, h4, h5, h6]
    · cases h
  · cases h
/-- a handler stands where it is said -/
def am_ckH1 (cn nL : Nat) (cc : ByteArray) (hh : List (Nat × Nat × Nat × Nat)) (starts : List Nat) (code : List (List Instr × Instr)) (z : Nat × Nat × Nat) : Bool := match code[z.1]? with
  | some blk => match starts[z.1]? with
    | some pc => match am_lk cn nL false cc pc blk.1 with
      | some pe => match am_hs cn pe z.2.1 hh with
        | some hp => am_wi cc hp fun w => (match w.1 with
          | .astore i => decide (i = z.2.2 % 64) && decide (w.2 = 2)
          | .astore_n i => decide ((i : Nat) = z.2.2 % 64) && decide (w.2 = 1)
          | _ => false) && decide (z.2.2 % 64 < nL) && decide (starts[z.2.2 / 64]? = some (hp + w.2))
        | none => false
      | none => false
    | none => false
  | none => false
theorem am_hdl_in {bi x b2 : Nat} : ∀ {hds : List (Nat × Nat × Nat)}, am_hdl hds bi x = some b2 → (bi, x, b2) ∈ hds
  | [], h => by simp [am_hdl] at h
  | q :: r, h => by
    unfold am_hdl at h
    split at h
    · rename_i hq
      obtain ⟨q1, q2, q3⟩ := q
      obtain ⟨rfl, rfl⟩ := hq
      cases h
      exact List.mem_cons_self
    · exact List.mem_cons_of_mem _ (am_hdl_in h)
theorem am_L_dl (b : Nat) (ad : Nat → Nat) (l : am_V) (i : Nat) : (am_L b ad l).filter (fun q => !(q.1 == i) && !(q.1 + 1 == i && q.2.category == 2)) = am_L b ad (am_dl l i) := by
  simp [am_L, am_dl, List.filter_map, Function.comp_def, am_mv_cat]
section AMY
variable {p : Program} {l : Launch} {e : Env} {R : Room} {s : State} {m : MethodId} {args : Array Value} {below : List Frame} {meth : Method} {c : Code} {Q : State → Prop}
variable {cc : ByteArray} {nL n0 z0 pc b cn : Nat} {yn : String} {ad : Nat → Nat} {D : va_G} {h h2 : am_H}
set_option maxRecDepth 8192 in
theorem am_callT (C : am_C p R m c cc nL (am_own cn) s args D meth yn ad) {cds : List am_Cd} (hcds : ∀ z : am_Cd, z ∈ cds → am_ckL z = true) (hct : ∀ z : am_Cd, z ∈ cds → am_ckTz z = true) (hl : l.stackTraces = false) (hb0 : s.heap.size = b + n0) {hh : List (Nat × Nat × Nat × Nat)} (htab : c.exceptionTable.toList = tableOf hh) {d y n x hp i len : Nat} {ci : Instr} {lv : am_V} {st : List Value}
    (hd : decode cc pc = .ok (ci, 3)) (ok : am_okV cn ci y n = true) (w1 : n % 64 ≤ st.length) (w2 : am_cs (st.drop (n % 64)) ≤ 8) (w3 : n / 64 = 0 ∨ am_rcv (n / 64) (st.take (n % 64)).reverse h = true) (hT : am_ct sc cds d y (st.take (n % 64)).reverse h x h2)
    (hhs : am_hs cn pc x hh = some hp) (hi : i < nL) (hda : decode cc hp = .ok (.astore i, len) ∧ len = 2 ∨ ∃ k : Fin 4, (k : Nat) = i ∧ decode cc hp = .ok (.astore_n k, len) ∧ len = 1)
    (hRf : d + 10 ≤ R.frames) (hRl : 80 * (d + 2) + 300 ≤ R.locals) (hrm : am_rm R n0 z0 (h2 ++ [am_junk]))
    (k : am_W sc p l e R s m args below meth c D b ad nL n0 z0 Q (hp + len) (am_dl lv i) [] (h2 ++ [am_junk])) : am_W sc p l e R s m args below meth c D b ad nL n0 z0 Q pc lv st h := by
  intro ls H locs cl sl h1 hR h3 h4 h5
  obtain ⟨l1, l2⟩ := am_le_ct d y _ h x h2 hT
  have hx3 : x < 3 := by
    obtain ⟨_, _, _, -, -, -, z, -⟩ := hT
    exact z
  have hq2 : ∃ q, am_mds[y]? = some q := by
    obtain ⟨q, _, _, z, -⟩ := hT
    exact ⟨q, z⟩
  obtain ⟨q, hq⟩ := hq2
  obtain ⟨hk9, hk3, hM⟩ := am_metT hcds hct hl hT hq
  obtain ⟨m1, m2, m3, m4, m5, m6, m7, m8, m9, m10⟩ := am_mw hq hk9 hk3
  have hts := C.2.2.2.2.1
  have hE := C.2.2.2.2.2.2.2.2.2
  obtain ⟨r1, r2⟩ := hrm
  rw [List.length_append] at r1
  rw [am_sz_push] at r2
  have r1 : h2.length + 1 ≤ n0 + R.cells := r1
  have r2 : am_sz h2 + 6 ≤ z0 + R.slots := r2
  have hrm1 : cl + (h2.length + 1 - h.length) ≤ R.cells ∧ sl + (am_sz h2 + 6 - am_sz h) ≤ R.slots := ⟨by omega, by omega⟩
  have hroom : (am_rmd (d + 1) (h2.length + 1 - h.length) (am_sz h2 + 6 - am_sz h)).frames + 1 ≤ R.frames ∧ 8 + (q.2.1 + 11) + (am_rmd (d + 1) (h2.length + 1 - h.length) (am_sz h2 + 6 - am_sz h)).locals ≤ R.locals := ⟨by rw [am_rmd_f]; omega, by rw [am_rmd_l]; omega⟩
  have hW8 : 2 * (F0 m pc ls (st.map (am_mv b ad))).monitorRoom + (((st.drop (n % 64)).map (am_mv b ad)).map fun v => v.category).sum ≤ 8 := by rw [am_cs_mv]; show 2 * 0 + _ ≤ 8; omega
  have hall : ∀ w ∈ (Jvm.Cond.code q.1 (am_by q) q.2.1 q.2.2.1 :: am_T), w ∈ am_T := fun w hw => (List.mem_cons.mp hw).elim (fun z => z ▸ m1) id
  have hlen : ((st.take (n % 64)).reverse.map (am_mv b ad)).length = n % 64 := by rw [List.length_map, List.length_reverse, List.length_take, Nat.min_eq_left w1]
  unfold am_okV at ok
  split at ok
  · rename_i ix
    simp only [Bool.and_eq_true, beq_iff_eq, hq, decide_eq_true_eq] at ok
    obtain ⟨⟨⟨⟨⟨ok1, ok2⟩, ok3⟩, ok4⟩, ok6⟩, ok5⟩ := ok
    have hrv : ∃ (a : Nat) (r : List Value), (st.take (n % 64)).reverse = .ref a :: r ∧ ∃ cell : Cell, H[b + a]? = some cell ∧ cell.vm.isStatics = false ∧ s.vm.findClass q.1.cls = some cell.cls := by
      rcases w3 with w3 | w3
      · omega
      · unfold am_rcv at w3
        split at w3
        · rename_i a r he
          split at w3
          · rename_i o ho
            have ho1 := beq_iff_eq.mp w3
            obtain ⟨o1, o2⟩ := o
            simp only at ho1
            subst ho1
            have hcl : ∃ T N, vwCl[n / 64]? = some (q.1.cls, T, N) := by
              unfold am_clN at ok5
              split at ok5
              · rename_i z hz
                obtain ⟨z1, z2, z3⟩ := z
                simp only at ok5
                subst ok5
                exact ⟨z2, z3, hz⟩
              · exfalso
                rename_i hz
                obtain ⟨z, hz2, -⟩ := am_at_obj (hR.2.1 a _ ho) (by omega)
                simp only at hz2
                rw [hz] at hz2
                cases hz2
            obtain ⟨T, N, hcl⟩ := hcl
            exact ⟨a, r, he, am_recv C.2.2.2.2.2.1 (by omega) hcl hR ho⟩
          · cases w3
        · simp only [Bool.and_eq_true, beq_iff_eq, decide_eq_true_eq] at w3
          omega
        · cases w3
    obtain ⟨a, r, hAs, hrec⟩ := hrv
    have hstk : st.map (am_mv b ad) = (r.map (am_mv b ad)).reverse ++ .ref (b + a) :: (st.drop (n % 64)).map (am_mv b ad) := by
      rw [am_stk st (n % 64), hAs]
      simp [am_mv]
    have hlen2 : (r.map (am_mv b ad)).length = am_mn q := by
      rw [hAs] at hlen
      simp only [List.map_cons, List.length_cons] at hlen
      omega
    have hpre : ∀ U : State, U.heap = H → s.WarmedH U.vm → am_Pc sc D b ad (st.take (n % 64)).reverse h (Value.ref (b + a) :: r.map (am_mv b ad)).toArray U := by
      have z := am_pre (As := (st.take (n % 64)).reverse) C hR
      rw [hAs] at z ⊢
      exact z
    have hG : GoodIn am_T (wsV (am_own cn) ix q.1.cls q.1 (Jvm.Cond.code q.1 (am_by q) q.2.1 q.2.2.1 :: am_T)) := am_good (fun _ z => z) fun w hw => by
      rcases List.mem_append.mp hw with hw | hw
      · simp only [List.mem_cons, List.not_mem_nil, or_false] at hw
        rcases hw with rfl | rfl | rfl | rfl
        · exact am_en7 ok1 hq
        · exact m3 (by omega)
        · exact m5 ok2
        · exact m4
      · exact hall w hw
    have hrun := vx_runV (e := e) (below := below) (meth := meth) (locs := locs) (g := F0 m pc ls (st.map (am_mv b ad))) (rest := (st.drop (n % 64)).map (am_mv b ad)) ⟨C.1, C.2.1, C.2.2.1, C.2.2.2.1, hts⟩ (hM D b ad) (cwV (am_mn q) hts hG rfl rfl rfl ⟨rfl, m7.1, m7.2, m8⟩ hroom) ⟨am_blind _ _ _ _ _, hrec, hpre⟩ rfl hlen2 h1.1 hstk hW8 hd hrm1
    intro T hTH X
    rcases hrun T hTH X with ⟨v, st₀, t, T', L, h0, X', hL, e1, e2, hF, st1⟩ | ⟨q9, st₀, t, T', L, E, ce, h0, X', hL, e1, e2, hXC, hce, hcv, hcl, st1⟩
    · exact hF.elim
    · obtain ⟨rfl, hRX, hF⟩ := hXC
      obtain ⟨k1, k2, k3⟩ := vx_keep h0 e1 h3 (fun q _ z => z) (fun q z => z) hL hF
      have hal : s.vm.Alike t.vm := by rw [← e2]; exact X'.warmed.alike
      have hz := X'.heapSize
      have hRJ : am_R sc s D b ad (h2 ++ [am_junk]) T'.heap := by
        rw [e1]
        exact (hRX.moved hal.symm).junk (by rw [← e1]; omega)
      obtain ⟨pre, z, suf, t1, t2, t3, t4, t5⟩ := am_hs_spec hhs
      obtain ⟨u1, u2, u3⟩ := am_hcl_w t4
      have kk : W p l e R s m args below meth c T'.heap (locs ++ L) (cl + (h2.length + 1 - h.length)) (sl + (am_sz h2 + 6 - am_sz h)) Q (F0 m z.handlerPc ls [.ref q9]) := by
        rw [t5]
        have fin : ∀ ls' : Array Slot, lv_has ls' nL ((i, Value.ref q9) :: (am_L b ad lv).filter (fun q => !(q.1 == i) && !(q.1 + 1 == i && q.2.category == 2))) → W p l e R s m args below meth c T'.heap (locs ++ L) (cl + (h2.length + 1 - h.length)) (sl + (am_sz h2 + 6 - am_sz h)) Q (F0 m (hp + len) ls' []) := by
          intro ls' hls
          rw [am_L_dl] at hls
          exact k ls' T'.heap (locs ++ L) _ _ ⟨hls.1, hls.2.1, fun q hq => hls.2.2 q (List.mem_cons_of_mem _ hq)⟩ hRJ k3 (by rw [List.length_append]; show cl + (h2.length + 1 - h.length) + n0 = h2.length + 1; omega) (by rw [am_sz_push]; show sl + (am_sz h2 + 6 - am_sz h) + z0 = am_sz h2 + 6; omega)
        rcases hda with ⟨hda, rfl⟩ | ⟨kf, rfl, hda, rfl⟩
        · exact lv_astore C.1 C.2.1 hda h1 hi rfl fin
        · exact lv_astore_n C.1 C.2.1 hda rfl h1 hi rfl fin
      obtain ⟨t9, a9, b9⟩ := vx_catch (p := p) (l := l) (e := e) (R := R) (below := below) (meth := meth) (locs := locs ++ L) (ls := ls) (rest := (st.drop (n % 64)).map (am_mv b ad)) (pc := pc) C.2.2.2.1 pre z suf (htab.trans t1) (fun w hw => (t2 w hw).imp id fun ⟨y9, z1, z2⟩ => ⟨(am_hcl_w z1).2.1, am_xn y9, hts _ (am_hcl_w z1).1, hE.2.2.2.2.2.1 _ (am_xn_nc hx3 (am_hcl_w z1).2.2 z2)⟩) t3 u2 (hts _ u1) (va_Nw.use rfl (hE.2.2.2.2.1 _ (am_xn_c hx3))) (by rw [e1]; exact hce) hcv hcl kk T' rfl X'
      exact ⟨t9, st1.trans a9, b9⟩
  · cases ok
end AMY
/-- a wrapper's code, its handlers and all -/
def am_ckW (hh : List (Nat × Nat × Nat × Nat)) (z : am_Cd) : Bool := match am_mds[z.1]? with
  | some q => am_mk q == 3 && decide (q.1.cls = am_own q.2.2.2.1) && decide (z.2.2.1[0]? = some 0) && am_lb q.2.2.2.1 q.2.1 false (am_okV q.2.2.2.1) (am_by q) z.2.2.1 0 z.2.1 && z.2.2.2.all (am_ckH1 q.2.2.2.1 q.2.1 (am_by q) hh z.2.2.1 z.2.1)
  | none => false
/-- a wrapper's table -/
def am_hhO : Option Jvm.Cond → List (Nat × Nat × Nat × Nat)
  | some (.codeWith _ _ _ _ hh) => hh
  | _ => []
def am_hh (q : am_M) : List (Nat × Nat × Nat × Nat) := am_hhO lw_tbl[q.2.2.2.2.2.2.1]?
theorem am_mwW {y : Nat} {q : am_M} (hq : am_mds[y]? = some q) (hk : am_mk q = 3) : Jvm.Cond.codeWith q.1 (am_by q) q.2.1 q.2.2.1 (am_hh q) ∈ am_T ∧ Jvm.Cond.static q.1 ∈ am_T ∧ Jvm.Cond.initialized q.1.cls ∈ am_T ∧
    plainName q.1.cls = true ∧ (q.1.cls ≠ "java/lang/invoke/MethodHandle" ∧ q.1.cls ≠ "java/lang/invoke/VarHandle") ∧ (parseMethodDescriptor q.1.desc).map (fun d => d.parameters.length) = some (am_mn q) ∧ q.2.1 ≤ 61 := by
  have h := am_ckM_all q (List.mem_of_getElem? hq)
  unfold am_ckM at h
  simp only [Bool.or_eq_true, Bool.and_eq_true, beq_iff_eq, bne_iff_ne, decide_eq_true_eq] at h
  rcases h with h | ⟨⟨⟨⟨⟨⟨⟨⟨h1, h2⟩, h3⟩, h4⟩, h5⟩, h6⟩, h7⟩, h8⟩, h9⟩
  · omega
  · refine ⟨?_, ?_, am_inT (List.mem_of_getElem? h3) rfl, h5, h6, h7, h8⟩
    · unfold am_by am_hh
      unfold am_isC at h1
      split at h1
      · simp only [Bool.and_eq_true, bne_iff_ne] at h1
        exact absurd hk h1.1.1.1
      · rename_i y0 b0 m0 r0 hh0 he
        simp only [Bool.and_eq_true, decide_eq_true_eq] at h1
        obtain ⟨⟨⟨-, rfl⟩, rfl⟩, rfl⟩ := h1
        rw [he]
        exact am_inT (List.mem_of_getElem? he) rfl
      · cases h1
    · rw [if_pos (Or.inr hk)] at h2
      exact am_inT (List.mem_of_getElem? h2) rfl
def am_cw (sc : List Int32) (cds : List am_Cd) (d : Nat) : am_Rl := fun y As h v h2 => ∃ (q : am_M) (code : List (List Instr × Instr)) (starts : List Nat) (hds : List (Nat × Nat × Nat)), am_mds[y]? = some q ∧ am_mk q = 3 ∧ am_ckW (am_hh q) (y, code, starts, hds) = true ∧ am_tyok q.2.2.1 v = true ∧ am_cs As ≤ q.2.1 ∧
      ∃ n, am_go sc (am_ca sc cds (d + 1)) (am_ct sc cds d) code hds (fun r hh => r = v ∧ hh = h2) (fun _ _ => False) n 0 (lv_args 0 As) [] h
theorem am_le_cw {cds : List am_Cd} (d y : Nat) (As : List Value) (h : am_H) (v : Option Value) (h2 : am_H) (e : am_cw sc cds d y As h v h2) : am_le h h2 := by
  obtain ⟨q, code, starts, hds, -, -, -, -, -, n, g⟩ := e
  obtain ⟨hf, f1, f2⟩ := am_le_go (P := fun hh => hh = h2) (am_le_ca (d + 1)) (am_le_ct d) (fun _ _ z => z.2) (fun _ _ z => z.elim) n 0 _ _ h g
  rw [← f1]
  exact f2
theorem am_metW {cds : List am_Cd} (hcds : ∀ z : am_Cd, z ∈ cds → am_ckL z = true) (hct : ∀ z : am_Cd, z ∈ cds → am_ckTz z = true) {l : Launch} (hl : l.stackTraces = false) {d y : Nat} {As : List Value} {h h2 : am_H} {v : Option Value} {q : am_M} (e : am_cw sc cds d y As h v h2) (hq : am_mds[y]? = some q) :
    am_mk q = 3 ∧ ∀ (D : va_G) (b : Nat) (ad : Nat → Nat), Met l q.1 (Jvm.Cond.codeWith q.1 (am_by q) q.2.1 q.2.2.1 (am_hh q) :: am_T) (am_rmd (d + 2) (h2.length - h.length) (am_sz h2 - am_sz h)) (am_Pc sc D b ad As h) (am_Qc sc D b ad v h2) (h2.length - h.length) (am_sz h2 - am_sz h) (fun q => b ≤ q) := by
  have hle : am_le h h2 := am_le_cw d y As h v h2 e
  obtain ⟨q', code, starts, hds, e1, hk3, hck, e3, e4, n, g⟩ := e
  cases hq.symm.trans e1
  unfold am_ckW at hck
  simp only [hq, Bool.and_eq_true, beq_iff_eq, decide_eq_true_eq, List.all_eq_true] at hck
  obtain ⟨⟨⟨⟨-, hown⟩, hs0⟩, hlk⟩, hH⟩ := hck
  obtain ⟨m1, m2, m4, m6, m7, m8, m9⟩ := am_mwW hq hk3
  refine ⟨hk3, fun D b ad => ?_⟩
  have hvx : vx_Met l q.1 (Jvm.Cond.codeWith q.1 (am_by q) q.2.1 q.2.2.1 (am_hh q) :: am_T) (am_rmd (d + 2) (h2.length - h.length) (am_sz h2 - am_sz h)) (am_Pc sc D b ad As h) (am_Qc sc D b ad v h2) (fun _ _ _ => False) (h2.length - h.length) (am_sz h2 - am_sz h) (fun q => b ≤ q) := by
    refine vx_ofWH (cc := am_by q) (maxL := q.2.1) (ret := q.2.2.1) m6 rfl ?_
    intro p e s m args below meth c s₁ B hml hv
    obtain ⟨rfl, hR, hK, hE⟩ := hv
    have hts := atoms_spec (ws := Jvm.Cond.codeWith q.1 (am_by q) q.2.1 q.2.2.1 (am_hh q) :: am_T) B.pre
    have htab := vx_table (x := q.1) B (hts _ List.mem_cons_self)
    have hown2 : s.vm.findClass (am_own q.2.2.2.1) = some m.cls := by rw [← hown]; exact findClass_of_methodNamed B.named
    have hnm : meth.name = q.1.name := (name_of_methodNamed B.named B.method).1
    have hlocks := B.notSynchronized
    have hret := B.returns
    have C : am_C p (am_rmd (d + 2) (h2.length - h.length) (am_sz h2 - am_sz h)) m c (am_by q) q.2.1 (am_own q.2.2.2.1) s (As.map (am_mv b ad)).toArray D meth q.1.name ad :=
      ⟨B.exec, B.bytes, hml, hown2, fun w hw => hts w (List.mem_cons_of_mem _ hw), hK, hnm, by rw [am_rmd_f]; omega, by rw [am_rmd_l]; omega, hE⟩
    have hlv := lv_entry (As.map (am_mv b ad)) (n := q.2.1) (by rw [am_lsl]; exact e4)
    rw [lg_entry_eq]
    rw [am_largs] at hlv
    have hrm2 : am_rm (am_rmd (d + 2) (h2.length - h.length) (am_sz h2 - am_sz h)) h.length (am_sz h) h2 := ⟨by show h2.length ≤ h.length + (h2.length - h.length); have := hle.1; omega, by show am_sz h2 ≤ am_sz h + (am_sz h2 - am_sz h); have := hle.2; omega⟩
    refine am_sim (e := e) (l := l) (below := below) (Q := vx_MQ below (am_Qc sc D b ad v h2) (fun _ _ _ => False) (As.map (am_mv b ad)).toArray s (h2.length - h.length) (am_sz h2 - am_sz h) (fun q => b ≤ q)) (b := b) (n0 := h.length) (z0 := am_sz h) C (ini := false) (fun z => by cases z) (ok := am_okV q.2.2.2.1) (starts := starts) (hds := hds) hlk (am_le_ca (d + 1)) (am_le_ct d) (fun r hh (z : r = v ∧ hh = h2) => by rw [z.2]; exact hrm2) (fun _ _ z => z.elim) ?_ ?_ ?_ ?_ ?_ n 0 0 (lv_args 0 As) [] h g hs0 _ s.heap [] 0 0 hlv hR va_S.rf (Nat.zero_add _) (Nat.zero_add _)
    · intro pc y2 n2 ci lv st h3 h4 v2 hd ok w1 w2 w3 hca hle2 hrm3 k
      have hq2 : ∃ q2, am_mds[y2]? = some q2 := by
        obtain ⟨q2, _, _, hq2, -⟩ := hca
        exact ⟨q2, hq2⟩
      obtain ⟨q2, hq2⟩ := hq2
      obtain ⟨hk2, hk4, hM⟩ := am_met hcds l (d + 1) y2 _ _ _ _ q2 hca hq2
      exact am_call C hq2 hk2 hk4 hd (am_okV_c ok) w1 w2 w3 hM (by rw [am_rmd_f]; omega) (by rw [am_rmd_l]; omega) hle2 hrm3 k
    · intro bi pc y2 n2 x b2 pc2 ci lv st h3 h4 hd ok w1 w2 w3 hT hhd hs2 hrm3 hpe k
      obtain ⟨is, pc0, z1, z2, z3⟩ := hpe
      have hz := hH _ (am_hdl_in hhd)
      unfold am_ckH1 at hz
      simp only [z1, z2, z3] at hz
      split at hz
      · rename_i hp hhp
        obtain ⟨⟨w, wl⟩, hw, hz⟩ := am_wi_spec hz
        simp only [Bool.and_eq_true, decide_eq_true_eq] at hz
        obtain ⟨⟨hw2, hi⟩, hpc2⟩ := hz
        cases hs2.symm.trans hpc2
        refine am_callT (i := b2 % 64) (len := wl) C hcds hct hl hR.1 htab hd ok w1 w2 w3 hT hhp hi ?_ (by rw [am_rmd_f]; omega) (by rw [am_rmd_l]; omega) hrm3 k
        split at hw2
        · simp only [Bool.and_eq_true, decide_eq_true_eq] at hw2
          obtain ⟨rfl, rfl⟩ := hw2
          exact Or.inl ⟨hw, rfl⟩
        · rename_i kf
          simp only [Bool.and_eq_true, decide_eq_true_eq] at hw2
          obtain ⟨hw3, rfl⟩ := hw2
          exact Or.inr ⟨kf, hw3, hw, rfl⟩
        · cases hw2
      · cases hz
    · intro bi x b2 hhd
      have hz := hH _ (am_hdl_in hhd)
      unfold am_ckH1 at hz
      split at hz
      · split at hz
        · split at hz
          · split at hz
            · obtain ⟨w, -, hz⟩ := am_wi_spec hz
              simp only [Bool.and_eq_true, decide_eq_true_eq] at hz
              exact ⟨_, hz.2⟩
            · cases hz
          · cases hz
        · cases hz
      · cases hz
    · intro pc t lv st hf r hd hr hfin
      obtain ⟨rfl, rfl⟩ := hfin
      intro ls H locs cl sl y1 y2 y3 y4 y5
      have z1 : cl = hf.length - h.length := by omega
      have z2 : sl = am_sz hf - am_sz h := by omega
      subst z1; subst z2
      have hqc : ∀ (t : State), t.heap = H → s.WarmedH t.vm → am_Qc sc D b ad r hf (As.map (am_mv b ad)).toArray s (.returned (r.map (am_mv b ad))) t := fun t ht hW => ⟨rfl, by rw [ht]; exact y2.moved hW.alike, y3.F ht⟩
      exact vx_ret (am_wret C.1 C.2.1 hret e3 hd hr hqc y3.2.2 hlocks)
    · intro _ _ _ _ _ _ _ _ _ _ _ z
      exact z.elim
  exact MetFree.mono hvx (fun _ _ z => z) (fun _ _ _ _ _ z => z) (fun a st o t _ z => z.elim id (fun ⟨_, _, _, _, _, z, _⟩ => z.elim))
end
section
variable {sc : List Int32}
/-! A RUN, computed: where nothing is unknown -/
/-- a method for the run: its id, locals, answer's type, code -/
abbrev am_Ms : Type := List (Nat × Nat × Option FieldType × List (List Instr × Instr))
def am_fm : am_Ms → Nat → Option (Nat × Option FieldType × List (List Instr × Instr))
  | [], _ => none
  | z :: r, y => if z.1 = y then some z.2 else am_fm r y
theorem am_fm_in {y : Nat} {q : Nat × Option FieldType × List (List Instr × Instr)} : ∀ {ms : am_Ms}, am_fm ms y = some q → (y, q) ∈ ms
  | [], h => by simp [am_fm] at h
  | z :: r, h => by
    unfold am_fm at h
    split at h
    · rename_i hz
      cases h
      obtain ⟨z1, z2⟩ := z
      subst hz
      exact List.mem_cons_self
    · exact List.mem_cons_of_mem _ (am_fm_in h)
/-- the methods are those of the code -/
def am_msok (cds : List am_Cd) (ms : am_Ms) : Prop := ∀ z, z ∈ ms → ∃ (q : am_M) (starts : List Nat), am_mds[z.1]? = some q ∧ am_mk q ≠ 3 ∧ (z.1, z.2.2.2, starts, []) ∈ cds ∧ q.2.1 = z.2.1 ∧ q.2.2.1 = z.2.2.1
def am_cb (c : ClassFile.Cond) (x y : Int32) : Bool := match c with
  | .eq => decide (x = y)
  | .ne => !decide (x = y)
  | .lt => decide (x < y)
  | .ge => decide (y ≤ x)
  | .gt => decide (y < x)
  | .le => decide (x ≤ y)
theorem am_cb_iff {c : ClassFile.Cond} {x y : Int32} : am_cb c x y = true ↔ am_cnd c x y := by
  cases c <;> simp [am_cb, am_cnd]
/-- the end of a block: finished with an answer, or on at a block -/
def am_etm (cal : Nat → List Value → am_H → Option (Option Value × am_H)) (t : Instr) (bi : Nat) (lv : am_V) (st : List Value) (h : am_H) : Option (Bool × Nat × am_V × List Value × am_H) :=
  match t with
  | .nop => some (false, bi + 1, lv, st, h)
  | .goto o => some (false, o.toNat, lv, st, h)
  | .ifCond c o => match st with
    | .int x :: r => if am_cb c x 0 = true then some (false, o.toNat, lv, r, h) else some (false, bi + 1, lv, r, h)
    | _ => none
  | .if_icmp c o => match st with
    | .int y :: .int x :: r => if am_cb c x y = true then some (false, o.toNat, lv, r, h) else some (false, bi + 1, lv, r, h)
    | _ => none
  | .if_acmp c o => match st with
    | .retAddr j :: .retAddr i :: r => if i = j then (match c with
      | .eq => some (false, o.toNat, lv, r, h)
      | .ne => some (false, bi + 1, lv, r, h)) else none
    | _ => none
  | .ifnull o => match st with
    | .null :: r => some (false, o.toNat, lv, r, h)
    | .ref _ :: r => some (false, bi + 1, lv, r, h)
    | _ => none
  | .ifnonnull o => match st with
    | .null :: r => some (false, bi + 1, lv, r, h)
    | .ref _ :: r => some (false, o.toNat, lv, r, h)
    | _ => none
  | .tableswitch d lo hi offs => match st with
    | .int x :: r => some (false, am_ts d lo hi offs x, lv, r, h)
    | _ => none
  | .lookupswitch d ps => match st with
    | .int x :: r => some (false, am_ls d ps.toList x.toInt, lv, r, h)
    | _ => none
  | .invokeinterface y n => if n % 64 ≤ st.length ∧ am_cs (st.drop (n % 64)) ≤ 8 ∧ (n / 64 = 0 ∨ am_rcv (n / 64) (st.take (n % 64)).reverse h = true) then (match cal y (st.take (n % 64)).reverse h with
    | some x => some (false, bi + 1, lv, x.1.toList ++ st.drop (n % 64), x.2)
    | none => none) else none
  | .multianewarray _ _ => none
  | .getstatic _ => none
  | t => match am_rt t st with
    | some v => some (true, 0, [], v.toList, h)
    | none => none
def am_ego (sc : List Int32) (cal : Nat → List Value → am_H → Option (Option Value × am_H)) (stp : Nat → Bool) (code : List (List Instr × Instr)) : Nat → Nat → am_V → List Value → am_H → Option (Bool × Nat × am_V × List Value × am_H)
  | 0, _, _, _, _ => none
  | n + 1, bi, lv, st, h => if stp bi = true then some (false, bi, lv, st, h) else match code[bi]? with
    | some q => match am_bk sc q.1 lv st h with
      | some x => match am_etm cal q.2 bi x.1 x.2.1 x.2.2 with
        | some y => if y.1 = true then some y else am_ego sc cal stp code n y.2.1 y.2.2.1 y.2.2.2.1 y.2.2.2.2
        | none => none
      | none => none
    | none => none
def am_eca (sc : List Int32) (ms : am_Ms) : Nat → Nat → List Value → am_H → Option (Option Value × am_H)
  | 0, _, _, _ => none
  | d + 1, y, As, h => match am_fm ms y with
    | some z => if am_cs As ≤ z.1 then match am_ego sc (am_eca sc ms d) (fun _ => false) z.2.2 100000 0 (lv_args 0 As) [] h with
      | some x => match x.2.2.2.1 with
        | [] => if x.1 = true ∧ am_tyok z.2.1 none = true then some (none, x.2.2.2.2) else none
        | [v] => if x.1 = true ∧ am_tyok z.2.1 (some v) = true then some (some v, x.2.2.2.2) else none
        | _ => none
      | none => none
      else none
    | none => none
theorem am_rt_out {C : am_Rl} {CT : am_Rt} {hds : List (Nat × Nat × Nat)} {nx : Nat → am_V → List Value → am_H → Prop} {fin : Option Value → am_H → Prop} {thr : Nat → am_H → Prop} {t : Instr} {bi : Nat} {lv : am_V} {st : List Value} {h : am_H} {r : Option Value} (hr : am_rt t st = some r) (hf : fin r h) : am_tm C CT hds nx fin thr t bi lv st h := by
  unfold am_rt at hr
  split at hr <;> first
    | (cases hr; done)
    | (cases hr; simpa [am_tm, am_rt] using hf)
    | (split at hr
       · rename_i hv
         cases hr
         simpa [am_tm, am_rt, hv] using hf
       · cases hr)
/-- where the end of a block leads -/
theorem am_etm_ok {cal : Nat → List Value → am_H → Option (Option Value × am_H)} {C : am_Rl} {CT : am_Rt} {hds : List (Nat × Nat × Nat)} {nx : Nat → am_V → List Value → am_H → Prop} {fin : Option Value → am_H → Prop} {thr : Nat → am_H → Prop} (hcal : ∀ y As h x, cal y As h = some x → C y As h x.1 x.2)
    {t : Instr} {bi : Nat} {lv : am_V} {st : List Value} {h : am_H} {y : Bool × Nat × am_V × List Value × am_H} (e : am_etm cal t bi lv st h = some y) (h1 : y.1 = true → ∀ r : Option Value, r.toList = y.2.2.2.1 → fin r y.2.2.2.2) (h2 : y.1 = false → nx y.2.1 y.2.2.1 y.2.2.2.1 y.2.2.2.2) : am_tm C CT hds nx fin thr t bi lv st h := by
  unfold am_etm at e
  split at e
  · cases e
    exact h2 rfl
  · cases e
    exact h2 rfl
  · split at e
    · split at e
      · rename_i hc
        cases e
        exact ⟨fun _ => h2 rfl, fun z => absurd (am_cb_iff.mp hc) z⟩
      · rename_i hc
        cases e
        exact ⟨fun z => absurd (am_cb_iff.mpr z) hc, fun _ => h2 rfl⟩
    · cases e
  · split at e
    · split at e
      · rename_i hc
        cases e
        exact ⟨fun _ => h2 rfl, fun z => absurd (am_cb_iff.mp hc) z⟩
      · rename_i hc
        cases e
        exact ⟨fun z => absurd (am_cb_iff.mpr z) hc, fun _ => h2 rfl⟩
    · cases e
  · split at e
    · split at e
      · rename_i hij
        split at e
        · cases e
          exact ⟨hij, fun _ => h2 rfl, fun z => by cases z⟩
        · cases e
          exact ⟨hij, (fun z => by cases z), fun _ => h2 rfl⟩
      · cases e
    · cases e
  · split at e
    · cases e
      exact h2 rfl
    · cases e
      exact h2 rfl
    · cases e
  · split at e
    · cases e
      exact h2 rfl
    · cases e
      exact h2 rfl
    · cases e
  · split at e
    · cases e
      exact h2 rfl
    · cases e
  · split at e
    · cases e
      exact h2 rfl
    · cases e
  · split at e
    · rename_i hw
      split at e
      · rename_i x hx
        cases e
        exact ⟨hw.1, hw.2.1, hw.2.2, Or.inl ⟨x.1, x.2, hcal _ _ _ _ hx, h2 rfl⟩⟩
      · cases e
    · cases e
  · cases e
  · cases e
  · split at e
    · rename_i r hr
      cases e
      exact am_rt_out hr (h1 rfl r rfl)
    · cases e
theorem am_ego_ok {cal : Nat → List Value → am_H → Option (Option Value × am_H)} {stp : Nat → Bool} {code : List (List Instr × Instr)} {C : am_Rl} {CT : am_Rt} {hds : List (Nat × Nat × Nat)} {fin : Option Value → am_H → Prop} {thr : Nat → am_H → Prop} (hcal : ∀ y As h x, cal y As h = some x → C y As h x.1 x.2) :
    ∀ (n bi : Nat) (lv : am_V) (st : List Value) (h : am_H) (y : Bool × Nat × am_V × List Value × am_H), am_ego sc cal stp code n bi lv st h = some y → (y.1 = true → ∀ r : Option Value, r.toList = y.2.2.2.1 → fin r y.2.2.2.2) → (y.1 = false → ∃ k, am_go sc C CT code hds fin thr k y.2.1 y.2.2.1 y.2.2.2.1 y.2.2.2.2) → ∃ k, am_go sc C CT code hds fin thr k bi lv st h
  | 0, _, _, _, _, _, e, _, _ => by simp [am_ego] at e
  | n + 1, bi, lv, st, h, y, e, h1, h2 => by
    unfold am_ego at e
    by_cases hs : stp bi = true
    · rw [if_pos hs] at e
      cases e
      exact h2 rfl
    · rw [if_neg hs] at e
      split at e
      · rename_i q hq
        split at e
        · rename_i x hx
          split at e
          · rename_i y1 hy
            by_cases hy1 : y1.1 = true
            · rw [if_pos hy1] at e
              cases e
              refine ⟨1, ?_⟩
              unfold am_go
              rw [hq]
              simp only [hx]
              exact am_etm_ok hcal hy h1 (fun z => by rw [hy1] at z; cases z)
            · rw [if_neg hy1] at e
              obtain ⟨k, hk⟩ := am_ego_ok hcal n _ _ _ _ y e h1 h2
              refine ⟨k + 1, ?_⟩
              unfold am_go
              rw [hq]
              simp only [hx]
              exact am_etm_ok hcal hy (fun z => absurd z hy1) (fun _ => hk)
          · cases e
        · cases e
      · cases e
theorem am_eca_ok {cds : List am_Cd} {ms : am_Ms} (hms : am_msok cds ms) : ∀ (d y : Nat) (As : List Value) (h : am_H) (x : Option Value × am_H), am_eca sc ms d y As h = some x → am_ca sc cds d y As h x.1 x.2
  | 0, _, _, _, _, e => by simp [am_eca] at e
  | d + 1, y, As, h, x, e => by
    unfold am_eca at e
    split at e
    · rename_i z hz
      obtain ⟨q, starts, q1, q2, q3, q4, q5⟩ := hms _ (am_fm_in hz)
      simp only at q1 q3 q4 q5
      split at e
      · rename_i hc
        split at e
        · rename_i w hw
          split at e
          · rename_i hw2
            split at e
            · rename_i hw1
              cases e
              refine ⟨q, z.2.2, starts, q1, q2, q3, by rw [q5]; exact hw1.2, by rw [q4]; exact hc, ?_⟩
              exact am_ego_ok (am_eca_ok hms d) 100000 0 _ _ h w hw (fun _ r hr => by rw [hw2] at hr; cases r with | none => exact ⟨rfl, rfl⟩ | some v => cases hr) (fun z9 => by rw [hw1.1] at z9; cases z9)
            · cases e
          · rename_i v hw2
            split at e
            · rename_i hw1
              cases e
              refine ⟨q, z.2.2, starts, q1, q2, q3, by rw [q5]; exact hw1.2, by rw [q4]; exact hc, ?_⟩
              exact am_ego_ok (am_eca_ok hms d) 100000 0 _ _ h w hw (fun _ r hr => by rw [hw2] at hr; cases r with | none => cases hr | some v9 => cases hr; exact ⟨rfl, rfl⟩) (fun z9 => by rw [hw1.1] at z9; cases z9)
            · cases e
          · cases e
        · cases e
      · cases e
    · cases e
end
section
variable {sc : List Int32}
/-! THE QUICK MACHINE: a run with unknowns, reckoned in numbers alone. A value is 8 * p + k; k = 0: the int p; 1: the p-th unknown, an int; 2: the thing p; 3: what lay there before; 4: null; 5: the long p; 6: the p-th unknown as a long; 7: nothing is known of it; 15: the double 0; 23: the float 0; 31: that as a double. What comes behind is handed on as a function, so that a run is one reckoning of true -/
abbrev fv_Ob : Type := Nat × Nat × List Nat
abbrev fv_T : Type := List (List (List fv_Ob))
abbrev fv_Iv : Type := List (Nat × Nat)
abbrev fv_S : Type := List Nat → List Nat → Nat → fv_T → fv_Iv → Bool
abbrev fv_E : Type := Nat → Nat → Nat → fv_S
abbrev fv_C : Type := fv_E → fv_S
noncomputable def fv_if (b x y : Bool) : Bool := @Bool.rec (fun _ => Bool) y x b
noncomputable def fv_f (x : Nat) (k : Nat → Bool) : Bool := @Nat.rec (fun _ => Bool) (k 0) (fun m _ => k m) (Nat.succ x)
noncomputable def fv_u (l : List Nat) (k : Nat → List Nat → Bool) : Bool := @List.rec Nat (fun _ => Bool) false (fun a r _ => k a r) l
noncomputable def fv_e (l : List Nat) (k : Bool) : Bool := @List.rec Nat (fun _ => Bool) k (fun _ _ _ => false) l
noncomputable def fv_nth {α : Type} (l : List α) (i : Nat) (d : α) : α := @List.rec α (fun _ => Nat → α) (fun _ => d) (fun a _ ih i => @Nat.rec (fun _ => α) a (fun m _ => ih m) i) l i
noncomputable def fv_set {α : Type} (l : List α) (i : Nat) (x : α) : List α := @List.rec α (fun _ => Nat → List α) (fun _ => []) (fun a r ih i => @Nat.rec (fun _ => List α) (x :: r) (fun m _ => a :: ih m) i) l i
noncomputable def fv_rep (n v : Nat) : List Nat := @Nat.rec (fun _ => List Nat) [] (fun _ ih => v :: ih) n
noncomputable def fv_lt (a b : Nat) : Bool := Nat.ble (Nat.succ a) b
/-! values -/
/-- the p-th unknown number of two ints: the first half of it, the other half, or all -/
def fv_lo (ρ : Nat → Int32) (p : Nat) : Int64 := if p < 32 then (ρ (p - 16)).toInt64 <<< ((Int32.ofNat 32).toInt64 &&& 63) else if p < 48 then (ρ (p - 32)).toInt64 &&& Int64.ofNat 4294967295 else ((ρ (p - 48)).toInt64 <<< ((Int32.ofNat 32).toInt64 &&& 63)) ||| ((ρ (p - 47)).toInt64 &&& Int64.ofNat 4294967295)
def fv_de (ρ : Nat → Int32) (v : Nat) : Value := match v % 8 with
  | 0 => .int (Int32.ofNat (v / 8))
  | 1 => .int (ρ (v / 8))
  | 2 => .ref (v / 8)
  | 3 => .retAddr (v / 8)
  | 4 => .null
  | 5 => .long (Int64.ofNat (v / 8))
  | 6 => .long (ρ (v / 8)).toInt64
  | _ => match v / 8 with
    | 1 => .double FP.dconst0
    | 2 => .float FP.fconst0
    | 3 => .double (FP.f2d FP.fconst0)
    | p => if 16 ≤ p then .long (fv_lo ρ p) else .null
noncomputable def fv_isI (v : Nat) : Bool := Nat.ble (Nat.mod v 8) 1
noncomputable def fv_isJ (v : Nat) : Bool := fv_if (Nat.beq (Nat.mod v 8) 5) true (fv_if (Nat.beq (Nat.mod v 8) 6) true (fv_if (Nat.beq (Nat.mod v 8) 7) (Nat.ble 128 v) false))
noncomputable def fv_isR (v : Nat) : Bool := fv_if (Nat.ble 2 (Nat.mod v 8)) (Nat.ble (Nat.mod v 8) 4) false
noncomputable def fv_isD (v : Nat) : Bool := fv_if (Nat.beq v 15) true (Nat.beq v 31)
/-- of category 1 -/
noncomputable def fv_c1 (v : Nat) : Bool := fv_if (Nat.ble 5 (Nat.mod v 8)) (fv_if (Nat.beq (Nat.mod v 8) 7) (fv_if (Nat.beq v 15) false (fv_if (Nat.beq v 31) false (fv_if (Nat.ble 128 v) false true))) false) true
/-- no more than b words -/
noncomputable def fv_cl (l : List Nat) (b : Nat) : Bool := @List.rec Nat (fun _ => Nat → Bool) (fun _ => true) (fun v _ ih b => fv_if (fv_c1 v) (@Nat.rec (fun _ => Bool) false (fun m _ => ih m) b) (@Nat.rec (fun _ => Bool) false (fun m _ => @Nat.rec (fun _ => Bool) false (fun m2 _ => ih m2) m) b)) l b
/-- an int that is known -/
noncomputable def fv_pt (q : Nat × Nat) (k : Nat → Bool) : Bool := @Prod.rec Nat Nat (fun _ => Bool) (fun lo hi => fv_if (Nat.beq hi (Nat.succ lo)) (fv_f (Nat.mod (Nat.add lo 2147483648) 4294967296) k) false) q
noncomputable def fv_int (iv : fv_Iv) (v : Nat) (k : Nat → Bool) : Bool := fv_if (Nat.beq (Nat.mod v 8) 0) (fv_f (Nat.div v 8) k) (fv_if (Nat.beq (Nat.mod v 8) 1) (fv_pt (fv_nth iv (Nat.div v 8) (0, 4294967296)) k) false)
noncomputable def fv_lng (v : Nat) (k : Nat → Bool) : Bool := fv_if (Nat.beq (Nat.mod v 8) 5) (fv_f (Nat.div v 8) k) false
/-! things -/
noncomputable def fv_hg (t : fv_T) (a : Nat) : fv_Ob := fv_nth (fv_nth (fv_nth t (Nat.div a 121) []) (Nat.mod (Nat.div a 11) 11) []) (Nat.mod a 11) (199, 0, [])
noncomputable def fv_hs (t : fv_T) (a : Nat) (o : fv_Ob) : fv_T := fv_set t (Nat.div a 121) (fv_set (fv_nth t (Nat.div a 121) []) (Nat.mod (Nat.div a 11) 11) (fv_set (fv_nth (fv_nth t (Nat.div a 121) []) (Nat.mod (Nat.div a 11) 11) []) (Nat.mod a 11) o))
noncomputable def fv_o (t : fv_T) (a : Nat) (k : Nat → Nat → List Nat → Bool) : Bool := @Prod.rec Nat (Nat × List Nat) (fun _ => Bool) (fun c q => @Prod.rec Nat (List Nat) (fun _ => Bool) (fun n s => k c n s) q) (fv_hg t a)
noncomputable def fv_ref (v : Nat) (k : Nat → Bool) : Bool := fv_if (Nat.beq (Nat.mod v 8) 2) (fv_f (Nat.div v 8) k) false
/-! straight instructions -/
noncomputable def fv_go (c : fv_C × Unit) : fv_C := fun e lv st n t iv => @Prod.rec fv_C Unit (fun _ => Bool) (fun f _ => f e lv st n t iv) c
noncomputable def fv_push (v : Nat) (K : fv_C) : fv_C := fun e lv st n t iv => fv_f v (fun w => K e lv (w :: st) n t iv)
noncomputable def fv_load (p : Nat → Bool) (i : Nat) (K : fv_C) : fv_C := fun e lv st n t iv => fv_f (fv_nth lv i 7) (fun v => fv_if (p v) (K e lv (v :: st) n t iv) false)
noncomputable def fv_s1 (lv : List Nat) (i v : Nat) : List Nat := @Bool.rec (fun _ => List Nat) (fv_set (fv_set lv i v) (Nat.pred i) 7) (fv_set lv i v) (fv_c1 (fv_nth lv (Nat.pred i) 7))
noncomputable def fv_s2 (lv : List Nat) (i v : Nat) : List Nat := fv_set (fv_s1 lv i v) (Nat.succ i) 7
noncomputable def fv_store (p : Nat → Bool) (i : Nat) (K : fv_C) : fv_C := fun e lv st n t iv => fv_u st (fun v r => fv_if (p v) (K e (fv_s1 lv i v) r n t iv) false)
noncomputable def fv_store2 (p : Nat → Bool) (i : Nat) (K : fv_C) : fv_C := fun e lv st n t iv => fv_u st (fun v r => fv_if (p v) (K e (fv_s2 lv i v) r n t iv) false)
noncomputable def fv_ni (n : Int) : Nat := Int.toNat (n % 4294967296)
noncomputable def fv_nj (n : Int) : Nat := Int.toNat (n % 18446744073709551616)
/-- what comes of unknowns: 1 product, 2 sum, 3 shifted, 4 rest, 5 .. 7 of longs -/
def fv_tbl : List (Nat × Nat × Nat × Nat) := [(2, 169, 8, 177), (2, 185, 8, 193), (1, 321, 8828121960, 329), (2, 329, 98760, 385), (3, 321, 128, 337), (4, 337, 128, 345), (4, 337, 8000, 353), (4, 337, 2040, 361), (2, 361, 8, 369),
  (1, 385, 8828121960, 393), (2, 393, 98760, 449), (3, 385, 128, 401), (4, 401, 128, 409), (4, 401, 8000, 417), (4, 401, 2040, 425), (2, 425, 8, 433),
  (1, 449, 8828121960, 457), (2, 457, 98760, 513), (3, 449, 128, 465), (4, 465, 128, 473), (4, 465, 8000, 481), (4, 465, 2040, 489), (2, 489, 8, 497),
  (1, 513, 8828121960, 521), (2, 521, 98760, 577), (3, 513, 128, 529), (4, 529, 128, 537), (4, 529, 8000, 545), (4, 529, 2040, 553), (2, 553, 8, 561),
  (1, 577, 8828121960, 585), (2, 585, 98760, 641), (3, 577, 128, 593), (4, 593, 128, 601), (4, 593, 8000, 609), (4, 593, 2040, 617), (2, 617, 8, 625),
  (5, 14, 256, 143), (6, 22, 34359738365, 279), (7, 143, 279, 399), (5, 30, 256, 159), (6, 38, 34359738365, 295), (7, 159, 295, 415), (5, 46, 256, 175), (6, 54, 34359738365, 311), (7, 175, 311, 431), (5, 62, 256, 191), (6, 70, 34359738365, 327), (7, 191, 327, 447), (5, 78, 256, 207), (6, 86, 34359738365, 343), (7, 207, 343, 463), (5, 94, 256, 223), (6, 102, 34359738365, 359), (7, 223, 359, 479)]
noncomputable def fv_lk (op x y : Nat) (L : List (Nat × Nat × Nat × Nat)) (k : Nat → Bool) (b : Bool) : Bool := @List.rec (Nat × Nat × Nat × Nat) (fun _ => Bool) b (fun q _ ih => @Prod.rec Nat (Nat × Nat × Nat) (fun _ => Bool) (fun o q => @Prod.rec Nat (Nat × Nat) (fun _ => Bool) (fun a q => @Prod.rec Nat Nat (fun _ => Bool) (fun c r => fv_if (Nat.beq o op) (fv_if (Nat.beq a x) (fv_if (Nat.beq c y) (k r) ih) ih) ih) q) q) q) L
noncomputable def fv_iinc (i m : Nat) (K : fv_C) : fv_C := fun e lv st n t iv => fv_if (Nat.beq (Nat.mod (fv_nth lv i 7) 8) 1) (fv_f (Nat.mul 8 m) (fun y => fv_lk 2 (fv_nth lv i 7) y fv_tbl (fun w => K e (fv_s1 lv i w) st n t iv) (fv_int iv (fv_nth lv i 7) (fun a => fv_f (Nat.mul 8 (Nat.mod (Nat.add a m) 4294967296)) (fun w => K e (fv_s1 lv i w) st n t iv))))) (fv_int iv (fv_nth lv i 7) (fun a => fv_f (Nat.mul 8 (Nat.mod (Nat.add a m) 4294967296)) (fun w => K e (fv_s1 lv i w) st n t iv)))
noncomputable def fv_2 (st : List Nat) (k : Nat → Nat → List Nat → Bool) : Bool := fv_u st (fun y r => fv_u r (fun x q => k x y q))
noncomputable def fv_tbo (op : Nat) (K : fv_C) : fv_C := fun e lv st n t iv => fv_2 st (fun x y q => fv_lk op x y fv_tbl (fun w => K e lv (w :: q) n t iv) false)
noncomputable def fv_op (f : Nat → Nat → Nat) (K : fv_C) : fv_C := fun e lv st n t iv => fv_2 st (fun x y q => fv_int iv x (fun a => fv_int iv y (fun b => fv_f (Nat.mul 8 (f a b)) (fun w => K e lv (w :: q) n t iv))))
noncomputable def fv_iadd (K : fv_C) : fv_C := fun e lv st n t iv => fv_2 st (fun x y q => fv_if (Nat.beq x 0) (fv_if (fv_isI y) (K e lv (y :: q) n t iv) false) (fv_if (Nat.beq y 0) (fv_if (fv_isI x) (K e lv (x :: q) n t iv) false) (fv_if (Nat.beq (Nat.mod x 8) 1) (fv_lk 2 x y fv_tbl (fun w => K e lv (w :: q) n t iv) (fv_int iv x (fun a => fv_int iv y (fun b => fv_f (Nat.mul 8 (Nat.mod (Nat.add a b) 4294967296)) (fun w => K e lv (w :: q) n t iv))))) (fv_int iv x (fun a => fv_int iv y (fun b => fv_f (Nat.mul 8 (Nat.mod (Nat.add a b) 4294967296)) (fun w => K e lv (w :: q) n t iv)))))))
noncomputable def fv_isub (K : fv_C) : fv_C := fun e lv st n t iv => fv_2 st (fun x y q => fv_if (Nat.beq y 0) (fv_if (fv_isI x) (K e lv (x :: q) n t iv) false) (fv_int iv x (fun a => fv_int iv y (fun b => fv_f (Nat.mul 8 (Nat.mod (Nat.add a (Nat.sub 4294967296 (Nat.mod b 4294967296))) 4294967296)) (fun w => K e lv (w :: q) n t iv)))))
noncomputable def fv_iand (K : fv_C) : fv_C := fun e lv st n t iv => fv_2 st (fun x y q => fv_if (Nat.beq x 1) (fv_if (Nat.beq y 504) (K e lv (105 :: q) n t iv) false) (fv_int iv x (fun a => fv_int iv y (fun b => fv_f (Nat.mul 8 (Nat.land a b)) (fun w => K e lv (w :: q) n t iv)))))
noncomputable def fv_ishr (K : fv_C) : fv_C := fun e lv st n t iv => fv_2 st (fun x y q => fv_if (Nat.beq y 0) (fv_if (fv_isI x) (K e lv (x :: q) n t iv) false) false)
noncomputable def fv_idiv (K : fv_C) : fv_C := fun e lv st n t iv => fv_2 st (fun x y q => fv_int iv x (fun a => fv_int iv y (fun b => fv_if (fv_lt a 2147483648) (fv_if (fv_lt b 2147483648) (fv_if (Nat.beq b 0) false (fv_f (Nat.mul 8 (Nat.div a b)) (fun w => K e lv (w :: q) n t iv))) false) false)))
noncomputable def fv_lop (f : Nat → Nat → Nat) (K : fv_C) : fv_C := fun e lv st n t iv => fv_2 st (fun x y q => fv_lng x (fun a => fv_lng y (fun b => fv_f (Nat.add (Nat.mul 8 (f a b)) 5) (fun w => K e lv (w :: q) n t iv))))
noncomputable def fv_land (K : fv_C) : fv_C := fun e lv st n t iv => fv_2 st (fun x y q => fv_if (Nat.beq (Nat.mod x 8) 5) (fv_lng x (fun a => fv_lng y (fun b => fv_f (Nat.add (Nat.mul 8 (Nat.land a b)) 5) (fun w => K e lv (w :: q) n t iv)))) (fv_lk 6 x y fv_tbl (fun w => K e lv (w :: q) n t iv) false))
noncomputable def fv_ladd (K : fv_C) : fv_C := fun e lv st n t iv => fv_2 st (fun x y q => fv_if (Nat.beq x 5) (fv_if (fv_isJ y) (K e lv (y :: q) n t iv) false) (fv_if (Nat.beq y 5) (fv_if (fv_isJ x) (K e lv (x :: q) n t iv) false) (fv_lng x (fun a => fv_lng y (fun b => fv_f (Nat.add (Nat.mul 8 (Nat.mod (Nat.add a b) 18446744073709551616)) 5) (fun w => K e lv (w :: q) n t iv))))))
noncomputable def fv_lushr (K : fv_C) : fv_C := fun e lv st n t iv => fv_2 st (fun x y q => fv_if (Nat.beq x 5) (fv_if (fv_isI y) (K e lv (5 :: q) n t iv) false) false)
noncomputable def fv_i2l (K : fv_C) : fv_C := fun e lv st n t iv => fv_u st (fun x q => fv_if (Nat.beq (Nat.mod x 8) 0) (fv_if (fv_lt (Nat.mod (Nat.div x 8) 4294967296) 2147483648) (fv_f (Nat.add (Nat.mul 8 (Nat.mod (Nat.div x 8) 4294967296)) 5) (fun w => K e lv (w :: q) n t iv)) (fv_f (Nat.add (Nat.mul 8 (Nat.add (Nat.mod (Nat.div x 8) 4294967296) 18446744069414584320)) 5) (fun w => K e lv (w :: q) n t iv))) (fv_if (Nat.beq (Nat.mod x 8) 1) (fv_f (Nat.add x 5) (fun w => K e lv (w :: q) n t iv)) false))
noncomputable def fv_l2i (K : fv_C) : fv_C := fun e lv st n t iv => fv_u st (fun x q => fv_if (Nat.beq (Nat.mod x 8) 5) (fv_f (Nat.mul 8 (Nat.mod (Nat.div x 8) 4294967296)) (fun w => K e lv (w :: q) n t iv)) (fv_if (Nat.beq (Nat.mod x 8) 6) (fv_f (Nat.sub x 5) (fun w => K e lv (w :: q) n t iv)) false))
noncomputable def fv_i2c (K : fv_C) : fv_C := fun e lv st n t iv => fv_u st (fun x q => fv_int iv x (fun a => fv_f (Nat.mul 8 (Nat.mod a 65536)) (fun w => K e lv (w :: q) n t iv)))
noncomputable def fv_dup (K : fv_C) : fv_C := fun e lv st n t iv => fv_u st (fun v r => fv_if (fv_c1 v) (K e lv (v :: v :: r) n t iv) false)
noncomputable def fv_pop (K : fv_C) : fv_C := fun e lv st n t iv => fv_u st (fun v r => fv_if (fv_c1 v) (K e lv r n t iv) false)
noncomputable def fv_dupx (K : fv_C) : fv_C := fun e lv st n t iv => fv_2 st (fun w v r => fv_if (fv_c1 v) (fv_if (fv_c1 w) (K e lv (v :: w :: v :: r) n t iv) false) false)
/-! unknowns: which way -/
noncomputable def fv_pc (iv : fv_Iv) (u lo hi : Nat) (k : fv_Iv → Bool) : Bool := fv_if (fv_lt lo hi) (fv_f lo (fun lo => fv_f hi (fun hi => k (fv_set iv u (lo, hi))))) true
noncomputable def fv_min (a b : Nat) : Nat := @Bool.rec (fun _ => Nat) b a (Nat.ble a b)
noncomputable def fv_max (a b : Nat) : Nat := @Bool.rec (fun _ => Nat) a b (Nat.ble a b)
/-- the unknown u below k, or not -/
noncomputable def fv_ltk (iv : fv_Iv) (u c : Nat) (kT kF : fv_Iv → Bool) : Bool := @Prod.rec Nat Nat (fun _ => Bool) (fun lo hi => fv_if (fv_pc iv u lo (fv_min hi c) kT) (fv_pc iv u (fv_max lo c) hi kF) false) (fv_nth iv u (0, 4294967296))
noncomputable def fv_eqk (iv : fv_Iv) (u c : Nat) (kT kF : fv_Iv → Bool) : Bool := @Prod.rec Nat Nat (fun _ => Bool) (fun lo hi => fv_if (fv_pc iv u lo (fv_min hi c) kF) (fv_if (fv_pc iv u (fv_max lo c) (fv_min hi (Nat.succ c)) kT) (fv_pc iv u (fv_max lo (Nat.succ c)) hi kF) false) false) (fv_nth iv u (0, 4294967296))
noncomputable def fv_off (v : Nat) : Nat := Nat.mod (Nat.add (Nat.div v 8) 2147483648) 4294967296
/-- is only one number left of it? -/
noncomputable def fv_sg (q : Nat × Nat) (k : Nat → Bool) (b : Bool) : Bool := @Prod.rec Nat Nat (fun _ => Bool) (fun lo hi => fv_if (Nat.beq hi (Nat.succ lo)) (fv_f lo k) b) q
noncomputable def fv_vv (iv : fv_Iv) (p q : Nat × Nat) (kT kF : fv_Iv → Bool) : Bool := fv_if (Nat.ble p.2 q.1) (kT iv) (fv_if (Nat.ble q.2 (Nat.succ p.1)) (kF iv) (fv_if (kT iv) (kF iv) false))
noncomputable def fv_lt2 (iv : fv_Iv) (x y : Nat) (kT kF : fv_Iv → Bool) : Bool := fv_if (Nat.beq (Nat.mod x 8) 0)
  (fv_if (Nat.beq (Nat.mod y 8) 0) (fv_if (fv_lt (fv_off x) (fv_off y)) (kT iv) (kF iv)) (fv_if (Nat.beq (Nat.mod y 8) 1) (fv_ltk iv (Nat.div y 8) (Nat.succ (fv_off x)) kF kT) false))
  (fv_if (Nat.beq (Nat.mod x 8) 1) (fv_if (Nat.beq (Nat.mod y 8) 0) (fv_ltk iv (Nat.div x 8) (fv_off y) kT kF) (fv_if (Nat.beq (Nat.mod y 8) 1) (fv_sg (fv_nth iv (Nat.div x 8) (0, 4294967296)) (fun c => fv_ltk iv (Nat.div y 8) (Nat.succ c) kF kT) (fv_sg (fv_nth iv (Nat.div y 8) (0, 4294967296)) (fun c => fv_ltk iv (Nat.div x 8) c kT kF) (fv_vv iv (fv_nth iv (Nat.div x 8) (0, 4294967296)) (fv_nth iv (Nat.div y 8) (0, 4294967296)) kT kF))) false)) false)
noncomputable def fv_eq2 (iv : fv_Iv) (x y : Nat) (kT kF : fv_Iv → Bool) : Bool := fv_if (Nat.beq (Nat.mod x 8) 0)
  (fv_if (Nat.beq (Nat.mod y 8) 0) (fv_if (Nat.beq (fv_off x) (fv_off y)) (kT iv) (kF iv)) (fv_if (Nat.beq (Nat.mod y 8) 1) (fv_eqk iv (Nat.div y 8) (fv_off x) kT kF) false))
  (fv_if (Nat.beq (Nat.mod x 8) 1) (fv_if (Nat.beq (Nat.mod y 8) 0) (fv_eqk iv (Nat.div x 8) (fv_off y) kT kF) (fv_if (Nat.beq (Nat.mod y 8) 1) (fv_sg (fv_nth iv (Nat.div x 8) (0, 4294967296)) (fun c => fv_eqk iv (Nat.div y 8) c kT kF) (fv_sg (fv_nth iv (Nat.div y 8) (0, 4294967296)) (fun c => fv_eqk iv (Nat.div x 8) c kT kF) (fv_if (kT iv) (kF iv) false))) false)) false)
/-- the long's place among the ints, if it is one -/
noncomputable def fv_jo (v : Nat) (k : Nat → Bool) : Bool := fv_lng v (fun a => fv_f (Nat.mod (Nat.add a 2147483648) 18446744073709551616) (fun c => fv_if (fv_lt c 4294967296) (k c) false))
noncomputable def fv_jsg (a : Nat) : Nat := Nat.mod (Nat.add a 9223372036854775808) 18446744073709551616
noncomputable def fv_lcmp (K : fv_C) : fv_C := fun e lv st n t iv => fv_2 st (fun x y q => fv_if (Nat.beq x y) (fv_if (fv_isJ x) (K e lv (0 :: q) n t iv) false) (fv_if (Nat.beq (Nat.mod x 8) 5)
  (fv_if (Nat.beq (Nat.mod y 8) 5) (fv_if (fv_lt (fv_jsg (Nat.div x 8)) (fv_jsg (Nat.div y 8))) (K e lv (34359738360 :: q) n t iv) (fv_if (Nat.beq (fv_jsg (Nat.div x 8)) (fv_jsg (Nat.div y 8))) (K e lv (0 :: q) n t iv) (K e lv (8 :: q) n t iv)))
    (fv_if (Nat.beq (Nat.mod y 8) 6) (fv_jo x (fun c => fv_ltk iv (Nat.div y 8) c (fun iv => K e lv (8 :: q) n t iv) (fun iv => fv_eqk iv (Nat.div y 8) c (fun iv => K e lv (0 :: q) n t iv) (fun iv => K e lv (34359738360 :: q) n t iv)))) false))
  (fv_if (Nat.beq (Nat.mod x 8) 6) (fv_jo y (fun c => fv_ltk iv (Nat.div x 8) c (fun iv => K e lv (34359738360 :: q) n t iv) (fun iv => fv_eqk iv (Nat.div x 8) c (fun iv => K e lv (0 :: q) n t iv) (fun iv => K e lv (8 :: q) n t iv)))) false)))
noncomputable def fv_jsr (k : Nat) (K : fv_C) : fv_C := fun e lv st n t iv => fv_2 st (fun x y q => fv_int iv x (fun a => fv_int iv y (fun b => fv_if (fv_lt a 2147483648) (fv_if (fv_lt b 2147483648) (fv_if (fv_cl q 8) (fv_f (Nat.mul 8 (@Nat.rec (fun _ => Nat) (fv_min a b) (fun _ _ => fv_max a b) k)) (fun w => K e lv (w :: q) n t iv)) false) false) false)))
/-! fields and rows -/
noncomputable def fv_tc (f : Nat) : Nat := match am_fty (f / 128) (f % 128) with
  | .int => 0
  | .long => 1
  | .object _ => 2
  | .array _ => 2
  | .boolean => 3
  | _ => 4
noncomputable def fv_b01 (v : Nat) : Bool := fv_if (Nat.beq v 0) true (Nat.beq v 8)
noncomputable def fv_vt (c v : Nat) : Bool := @Nat.rec (fun _ => Bool) (fv_isI v) (fun c _ => @Nat.rec (fun _ => Bool) (fv_isJ v) (fun c _ => @Nat.rec (fun _ => Bool) (fv_isR v) (fun c _ => @Nat.rec (fun _ => Bool) (fv_b01 v) (fun _ _ => false) c) c) c) c
noncomputable def fv_get (f : Nat) (K : fv_C) : fv_C := fun e lv st n t iv => fv_u st (fun v r => fv_ref v (fun a => fv_o t a (fun c z s => fv_if (Nat.beq c (Nat.div f 128)) (fv_if (fv_lt (Nat.mod f 128) z) (fv_f (fv_nth s (Nat.mod f 128) 7) (fun w => K e lv (w :: r) n t iv)) false) false)))
/-- a field of a String constant -/
noncomputable def fv_getx (f : Nat) (K : fv_C) : fv_C := fun e lv st n t iv => fv_u st (fun v r => fv_if (Nat.beq (Nat.mod v 8) 3) (fv_if (fv_lt (Nat.div v 8) 103) (fv_if (Nat.beq f 0) (fv_f (Nat.add v 24000) (fun w => K e lv (w :: r) n t iv)) (fv_if (Nat.beq f 1) (K e lv (0 :: r) n t iv) false)) false) false)
noncomputable def fv_put (f : Nat) (K : fv_C) : fv_C := fun e lv st n t iv => fv_2 st (fun x v r => fv_ref x (fun a => fv_o t a (fun c z s => fv_if (Nat.beq c (Nat.div f 128)) (fv_if (fv_lt (Nat.mod f 128) z) (fv_if (fv_vt (fv_tc f) v) (K e lv r n (fv_hs t a (c, z, fv_set s (Nat.mod f 128) v)) iv) false) false) false)))
noncomputable def fv_ald (p : Nat → Bool) (K : fv_C) : fv_C := fun e lv st n t iv => fv_2 st (fun x y r => fv_int iv y (fun i => fv_ref x (fun a => fv_o t a (fun c z s => fv_if (p c) (fv_if (fv_lt i z) (fv_f (fv_nth s i 7) (fun w => K e lv (w :: r) n t iv)) false) false))))
noncomputable def fv_kA (c : Nat) : Bool := fv_if (Nat.ble 103 c) (fv_if (Nat.beq c 199) false true) false
/-- the script has a place i: its length is the 15th unknown -/
noncomputable def fv_sc (q : Nat × Nat) (i : Nat) (k : Bool) : Bool := fv_if (Nat.ble (Nat.add i 2147483649) q.1) k false
noncomputable def fv_iald (K : fv_C) : fv_C := fun e lv st n t iv => fv_2 st (fun x y r => fv_int iv y (fun i => fv_if (Nat.beq x 16003) (fv_if (fv_lt i 13) (fv_sc (fv_nth iv 15 (0, 4294967296)) i (fv_f (Nat.add (Nat.mul 8 i) 1) (fun w => K e lv (w :: r) n t iv))) false)
  (fv_ref x (fun a => fv_o t a (fun c z s => fv_if (Nat.beq c 100) (fv_if (fv_lt i z) (fv_f (fv_nth s i 7) (fun w => K e lv (w :: r) n t iv)) false) false)))))
noncomputable def fv_bald (K : fv_C) : fv_C := fun e lv st n t iv => fv_2 st (fun x y r => fv_int iv y (fun i => fv_if (Nat.beq (Nat.mod x 8) 3) (fv_if (Nat.ble 3000 (Nat.div x 8)) (fv_if (fv_lt (Nat.div x 8) 3103) (fv_f (fv_nth (fv_nth am_txt (Nat.sub (Nat.div x 8) 3000) []) i 256) (fun b => fv_if (fv_lt b 256) (K e lv (Nat.mul 8 b :: r) n t iv) false)) false) false)
  (fv_ref x (fun a => fv_o t a (fun c z s => fv_if (Nat.beq c 102) (fv_if (fv_lt i z) (fv_f (fv_nth s i 7) (fun w => K e lv (w :: r) n t iv)) false) false)))))
noncomputable def fv_lens : List Nat := am_txt.map List.length
noncomputable def fv_len (K : fv_C) : fv_C := fun e lv st n t iv => fv_u st (fun x r => fv_if (Nat.beq (Nat.mod x 8) 2)
  (fv_o t (Nat.div x 8) (fun c z _ => fv_if (Nat.ble 100 c) (fv_if (Nat.beq c 199) false (fv_f (Nat.mul 8 z) (fun w => K e lv (w :: r) n t iv))) false))
  (fv_if (Nat.beq x 16003) (K e lv (121 :: r) n t iv) (fv_if (Nat.beq x 8003) (K e lv (0 :: r) n t iv) (fv_if (Nat.beq (Nat.mod x 8) 3) (fv_if (Nat.ble 3000 (Nat.div x 8)) (fv_if (fv_lt (Nat.div x 8) 3103) (fv_f (Nat.mul 8 (fv_nth fv_lens (Nat.sub (Nat.div x 8) 3000) 0)) (fun w => K e lv (w :: r) n t iv)) false) false) false))))
noncomputable def fv_3 (st : List Nat) (k : Nat → Nat → Nat → List Nat → Bool) : Bool := fv_u st (fun v r => fv_u r (fun y r => fv_u r (fun x r => k x y v r)))
noncomputable def fv_ast (p : Nat → fv_T → Nat → Bool) (K : fv_C) : fv_C := fun e lv st n t iv => fv_3 st (fun x y v r => fv_int iv y (fun i => fv_ref x (fun a => fv_o t a (fun c z s => fv_if (p c t v) (fv_if (fv_lt i z) (K e lv r n (fv_hs t a (c, z, fv_set s i v)) iv) false) false))))
noncomputable def fv_pI (c : Nat) (_ : fv_T) (v : Nat) : Bool := fv_if (Nat.beq c 100) (fv_isI v) false
noncomputable def fv_pJ (c : Nat) (_ : fv_T) (v : Nat) : Bool := fv_if (Nat.beq c 101) (fv_isJ v) false
noncomputable def fv_pZ (c : Nat) (_ : fv_T) (v : Nat) : Bool := fv_if (Nat.beq c 102) (fv_b01 v) false
noncomputable def fv_pA (c : Nat) (t : fv_T) (v : Nat) : Bool := fv_if (Nat.beq v 4) (fv_if (Nat.ble 104 c) (fv_if (Nat.beq c 199) false true) false)
  (fv_ref v (fun x => fv_o t x (fun k _ _ => fv_if (fv_lt k 100) (fv_if (Nat.beq c (Nat.add 200 k)) true (fv_if (Nat.beq c 104) (fv_if (Nat.beq k 4) true (fv_if (Nat.beq k 5) true (Nat.beq k 7))) false)) false)))
/-- a new thing; n is 2048 times the places in all, and how many things there are -/
noncomputable def fv_mk (c z : Nat) (s : List Nat) (k : Nat → Nat → fv_T → Bool) (n : Nat) (t : fv_T) : Bool := fv_f (Nat.mod n 2048) (fun a => fv_if (fv_lt a 1331) (fv_if (Nat.ble z 1000000) (fv_f (Nat.add n (Nat.succ (Nat.mul 2048 z))) (fun n2 => k (Nat.add (Nat.mul 8 a) 2) n2 (fv_hs t a (c, z, s)))) false) false)
def fv_en : Value → Nat
  | .int _ => 0
  | .long _ => 5
  | _ => 4
def fv_df (ci : Nat) : List Nat := (am_df ci).map fv_en
noncomputable def fv_new (ci : Nat) (K : fv_C) : fv_C := fun e lv st n t iv => fv_f (fv_df ci).length (fun z => fv_mk ci z (fv_df ci) (fun v n t => K e lv (v :: st) n t iv) n t)
noncomputable def fv_newa (c v : Nat) (K : fv_C) : fv_C := fun e lv st n t iv => fv_u st (fun x r => fv_int iv x (fun z => fv_mk c z (fv_rep z v) (fun v n t => K e lv (v :: r) n t iv) n t))
noncomputable def fv_cast (ci : Nat) (K : fv_C) : fv_C := fun e lv st n t iv => fv_u st (fun x r => fv_if (Nat.beq x 4) (K e lv (x :: r) n t iv) (fv_ref x (fun a => fv_o t a (fun c _ _ => fv_if (Nat.beq c ci) (fv_if (fv_lt c 100) (K e lv (x :: r) n t iv) false) false))))
noncomputable def fv_oi (K : fv_C) : fv_C := fun e lv st n t iv => fv_u st (fun x r => fv_if (Nat.beq (Nat.mod x 8) 2) (fv_if (fv_cl r 8) (K e lv r n t iv) false) false)
noncomputable def fv_f2d (K : fv_C) : fv_C := fun e lv st n t iv => fv_u st (fun x r => fv_if (Nat.beq x 23) (K e lv (31 :: r) n t iv) false)
noncomputable def fv_dcmp (K : fv_C) : fv_C := fun e lv st n t iv => fv_2 st (fun x y r => fv_if (Nat.beq x y) (fv_if (fv_isD x) (K e lv (0 :: r) n t iv) false) false)
noncomputable def fv_no (_ : fv_C) : fv_C := fun _ _ _ _ _ _ => false
noncomputable def fv_in (a : Instr) (K : fv_C) : fv_C × Unit := match a with
  | .iconst n => (fv_push (Nat.mul 8 (fv_ni n)) K, ())
  | .jsr_w n => (fv_push (Nat.add (Nat.mul 8 (fv_nj n)) 5) K, ())
  | .aconst_null => (fv_push 4 K, ())
  | .ldc k => (fv_push (Nat.add (Nat.mul 8 k) 3) K, ())
  | .iload i => (fv_load fv_isI i K, ())
  | .lload i => (fv_load fv_isJ i K, ())
  | .aload i => (fv_load fv_isR i K, ())
  | .dload i => (fv_load fv_isD i K, ())
  | .istore i => (fv_store fv_isI i K, ())
  | .lstore i => (fv_store2 fv_isJ i K, ())
  | .astore i => (fv_store fv_isR i K, ())
  | .dstore i => (fv_store2 fv_isD i K, ())
  | .iinc i n => (fv_iinc i (fv_ni n) K, ())
  | .iadd => (fv_iadd K, ())
  | .isub => (fv_isub K, ())
  | .iand => (fv_iand K, ())
  | .ior => (fv_op Nat.lor K, ())
  | .ishr => (fv_ishr K, ())
  | .idiv => (fv_idiv K, ())
  | .ladd => (fv_ladd K, ())
  | .lsub => (fv_lop (fun a b => Nat.mod (Nat.add a (Nat.sub 18446744073709551616 (Nat.mod b 18446744073709551616))) 18446744073709551616) K, ())
  | .land => (fv_land K, ())
  | .imul => (fv_tbo 1 K, ())
  | .iushr => (fv_tbo 3 K, ())
  | .irem => (fv_tbo 4 K, ())
  | .lshl => (fv_tbo 5 K, ())
  | .lor => (fv_tbo 7 K, ())
  | .lushr => (fv_lushr K, ())
  | .lcmp => (fv_lcmp K, ())
  | .i2l => (fv_i2l K, ())
  | .l2i => (fv_l2i K, ())
  | .i2c => (fv_i2c K, ())
  | .dup => (fv_dup K, ())
  | .pop => (fv_pop K, ())
  | .dup_x1 => (fv_dupx K, ())
  | .getfield f => @Bool.rec (fun _ => fv_C × Unit) (fv_getx f K, ()) (@Bool.rec (fun _ => fv_C × Unit) (fv_no K, ()) (fv_get f K, ()) (fv_lt f 12800)) (Nat.ble 384 f)
  | .putfield f => @Bool.rec (fun _ => fv_C × Unit) (fv_no K, ()) (fv_put f K, ()) (fv_lt f 12800)
  | .iaload => (fv_iald K, ())
  | .laload => (fv_ald (Nat.beq 101) K, ())
  | .baload => (fv_bald K, ())
  | .aaload => (fv_ald fv_kA K, ())
  | .arraylength => (fv_len K, ())
  | .iastore => (fv_ast fv_pI K, ())
  | .lastore => (fv_ast fv_pJ K, ())
  | .bastore => (fv_ast fv_pZ K, ())
  | .aastore => (fv_ast fv_pA K, ())
  | .getstatic k => @Nat.rec (fun _ => fv_C × Unit) (fv_push 8 K, ()) (fun m _ => @Nat.rec (fun _ => fv_C × Unit) (fv_push 8003 K, ()) (fun _ _ => (fv_no K, ())) m) k
  | .new ci => (fv_new ci K, ())
  | .newarray t => match t with
    | .int => (fv_newa 100 0 K, ())
    | .long => (fv_newa 101 5 K, ())
    | .boolean => (fv_newa 102 0 K, ())
    | _ => (fv_no K, ())
  | .anewarray k => (fv_newa k 4 K, ())
  | .checkcast ci => (fv_cast ci K, ())
  | .invokedynamic _ => (fv_oi K, ())
  | .jsr k => (fv_jsr (Int.natAbs k) K, ())
  | .dconst n => @Nat.rec (fun _ => fv_C × Unit) (fv_push 15 K, ()) (fun _ _ => (fv_no K, ())) n.val
  | .fconst n => @Nat.rec (fun _ => fv_C × Unit) (fv_push 23 K, ()) (fun _ _ => (fv_no K, ())) n.val
  | .f2d => (fv_f2d K, ())
  | .dcmp _ => (fv_dcmp K, ())
  | _ => (fv_no K, ())
/-! ends of blocks: what comes is told as a, b, c: 0 b 0: on at block b; 1 0 0: an answer; 2 x 0: a throw of x; 3 + bi, y, m: the call at the end of bi -/
noncomputable def fv_kg (e : fv_E) (b : Nat) (lv r : List Nat) (n : Nat) (t : fv_T) : fv_Iv → Bool := fun iv => e 0 b 0 lv r n t iv
noncomputable def fv_cmp (c : ClassFile.Cond) (x y : Nat) (kT kF : fv_Iv → Bool) (iv : fv_Iv) : Bool := match c with
  | .eq => fv_eq2 iv x y kT kF
  | .ne => fv_eq2 iv x y kF kT
  | .lt => fv_lt2 iv x y kT kF
  | .ge => fv_lt2 iv x y kF kT
  | .gt => fv_lt2 iv y x kT kF
  | .le => fv_lt2 iv y x kF kT
noncomputable def fv_tif (c : ClassFile.Cond) (o b1 : Nat) : fv_C := fun e lv st n t iv => fv_u st (fun x r => fv_cmp c x 0 (fv_kg e o lv r n t) (fv_kg e b1 lv r n t) iv)
noncomputable def fv_tic (c : ClassFile.Cond) (o b1 : Nat) : fv_C := fun e lv st n t iv => fv_2 st (fun x y r => fv_cmp c x y (fv_kg e o lv r n t) (fv_kg e b1 lv r n t) iv)
noncomputable def fv_tgo (o : Nat) : fv_C := fun e lv st n t iv => e 0 o 0 lv st n t iv
noncomputable def fv_tac (b : Nat) : fv_C := fun e lv st n t iv => fv_2 st (fun x y r => fv_if (Nat.beq x y) (fv_if (Nat.beq (Nat.mod x 8) 3) (e 0 b 0 lv r n t iv) false) false)
noncomputable def fv_tnl (o b1 : Nat) : fv_C := fun e lv st n t iv => fv_u st (fun x r => fv_if (Nat.beq x 4) (e 0 o 0 lv r n t iv) (fv_if (Nat.beq (Nat.mod x 8) 2) (e 0 b1 0 lv r n t iv) false))
/-- the int c: on at b; else the next -/
noncomputable def fv_sw (L : List (Nat × Nat)) (d x : Nat) (kk : Nat → fv_Iv → Bool) (iv : fv_Iv) : Bool := @List.rec (Nat × Nat) (fun _ => fv_Iv → Bool) (fun iv => kk d iv) (fun q _ ih iv => @Prod.rec Nat Nat (fun _ => Bool) (fun c b => fv_eq2 iv x c (kk b) ih) q) L iv
noncomputable def fv_kg2 (e : fv_E) (lv r : List Nat) (n : Nat) (t : fv_T) : Nat → fv_Iv → Bool := fun b iv => e 0 b 0 lv r n t iv
def fv_tl (lo : Int) (offs : List Int) : List (Nat × Nat) := match offs with
  | [] => []
  | o :: r => (8 * Int.toNat (lo % 4294967296), o.toNat) :: fv_tl (lo + 1) r
noncomputable def fv_ttb (L : List (Nat × Nat)) (d : Nat) : fv_C := fun e lv st n t iv => fv_u st (fun x r => fv_if (fv_isI x) (fv_sw L d x (fv_kg2 e lv r n t) iv) false)
noncomputable def fv_ret (p : Nat → Bool) : fv_C := fun e lv st n t iv => fv_u st (fun v r => fv_e r (fv_if (p v) (e 1 0 0 lv st n t iv) false))
noncomputable def fv_rev : fv_C := fun e lv st n t iv => fv_e st (e 1 0 0 lv st n t iv)
noncomputable def fv_thr (x : Nat) : fv_C := fun e lv st n t iv => fv_e st (fv_if (fv_lt x 3) (e 2 x 0 lv st n t iv) false)
noncomputable def fv_cll (bi y m : Nat) : fv_C := fun e lv st n t iv => e (Nat.add bi 3) y m lv st n t iv
noncomputable def fv_tm (bi : Nat) (t : Instr) : fv_C × Unit := match t with
  | .nop => (fv_tgo (Nat.succ bi), ())
  | .goto o => (fv_tgo o.toNat, ())
  | .ifCond c o => (fv_tif c o.toNat (Nat.succ bi), ())
  | .if_icmp c o => (fv_tic c o.toNat (Nat.succ bi), ())
  | .if_acmp c o => match c with
    | .eq => (fv_tac o.toNat, ())
    | .ne => (fv_tac (Nat.succ bi), ())
  | .ifnull o => (fv_tnl o.toNat (Nat.succ bi), ())
  | .ifnonnull o => (fv_tnl (Nat.succ bi) o.toNat, ())
  | .tableswitch d lo hi offs => match decide (offs.toList.length = (hi - lo + 1).toNat ∧ -2147483648 ≤ lo ∧ hi < 2147483648) with
    | true => (fv_ttb (fv_tl lo offs.toList) d.toNat, ())
    | false => (fun _ _ _ _ _ _ => false, ())
  | .invokeinterface y m => (fv_cll bi y m, ())
  | .multianewarray x _ => (fv_thr x, ())
  | .ireturn => (fv_ret fv_isI, ())
  | .lreturn => (fv_ret fv_isJ, ())
  | .areturn => (fv_ret fv_isR, ())
  | .dreturn => (fv_ret fv_isD, ())
  | .freturn => (fv_ret (Nat.beq 23), ())
  | .return_ => (fv_rev, ())
  | _ => (fun _ _ _ _ _ _ => false, ())
noncomputable def fv_cb (bi : Nat) (t : Instr) (is : List Instr) : fv_C × Unit := @List.rec Instr (fun _ => fv_C × Unit) (fv_tm bi t) (fun a _ ih => fv_in a (fv_go ih)) is
noncomputable def fv_bl (code : List (List Instr × Instr)) (bi : Nat) : fv_C × Unit := @Prod.rec (List Instr) Instr (fun _ => fv_C × Unit) (fun is t => fv_cb bi t is) (fv_nth code bi ([], .athrow))
/-! runs -/
abbrev fv_R : Type := List Nat → Nat → fv_T → fv_Iv → Bool
abbrev fv_H : Type := Nat → Nat → fv_T → fv_Iv → Bool
abbrev fv_Cl : Type := Nat → List Nat → fv_R → fv_H → Nat → fv_T → fv_Iv → Bool
/-- m values from the stack, the deepest first -/
noncomputable def fv_tk (m : Nat) (st acc : List Nat) (k : List Nat → List Nat → Bool) : Bool := @Nat.rec (fun _ => List Nat → List Nat → Bool) (fun st acc => k acc st) (fun _ ih st acc => fv_u st (fun a r => ih r (a :: acc))) m st acc
noncomputable def fv_rc (ci : Nat) (as : List Nat) (t : fv_T) : Bool := fv_u as (fun v _ => fv_if (Nat.beq (Nat.mod v 8) 2) (fv_o t (Nat.div v 8) (fun c _ _ => fv_if (Nat.beq c ci) (fv_lt c 100) false)) (fv_if (Nat.beq (Nat.mod v 8) 3) (fv_if (Nat.beq ci 63) (fv_lt (Nat.div v 8) 103) false) false))
noncomputable def fv_rk (go : Nat → fv_S) (b1 : Nat) (lv r : List Nat) : fv_R := fun vs n t iv => @List.rec Nat (fun _ => Bool) (go b1 lv r n t iv) (fun v _ _ => go b1 lv (v :: r) n t iv) vs
noncomputable def fv_hd (hds : List (Nat × Nat × Nat)) (bi x : Nat) : Nat := @List.rec (Nat × Nat × Nat) (fun _ => Nat) 0 (fun q _ ih => @Bool.rec (fun _ => Nat) ih (Nat.succ q.2.2) (fv_if (Nat.beq q.1 bi) (Nat.beq q.2.1 x) false)) hds
noncomputable def fv_hk (go : Nat → fv_S) (hds : List (Nat × Nat × Nat)) (bi : Nat) (lv : List Nat) : fv_H := fun x n t iv => @Nat.rec (fun _ => Bool) false (fun b2 _ => fv_mk 199 6 [4, 4, 4, 4, 4, 4] (fun _ n t => go (Nat.div b2 64) (fv_s1 lv (Nat.mod b2 64) 7) [] n t iv) n t) (fv_hd hds bi x)
noncomputable def fv_call (cal : fv_Cl) (hds : List (Nat × Nat × Nat)) (go : Nat → fv_S) (bi y m : Nat) (lv st : List Nat) (n : Nat) (t : fv_T) (iv : fv_Iv) : Bool := fv_tk (Nat.mod m 64) st [] (fun as r => fv_if (fv_cl r 8) (fv_if (@Nat.rec (fun _ => Bool) true (fun _ _ => fv_rc (Nat.div m 64) as t) (Nat.div m 64)) (cal y as (fv_rk go (Nat.succ bi) lv r) (fv_hk go hds bi lv) n t iv) false) false)
noncomputable def fv_ac (cal : fv_Cl) (hds : List (Nat × Nat × Nat)) (ret : fv_R) (thr : fv_H) (go : Nat → fv_S) : fv_E := fun a b c lv st n t iv => @Nat.rec (fun _ => Bool) (go b lv st n t iv) (fun a _ => @Nat.rec (fun _ => Bool) (ret st n t iv) (fun a _ => @Nat.rec (fun _ => Bool) (thr b n t iv) (fun bi _ => fv_call cal hds go bi b c lv st n t iv) a) a) a
noncomputable def fv_ev (cal : fv_Cl) (code : List (List Instr × Instr)) (hds : List (Nat × Nat × Nat)) (ret : fv_R) (thr : fv_H) (fuel : Nat) : Nat → fv_S := @Nat.rec (fun _ => Nat → fv_S) (fun _ _ _ _ _ _ => false) (fun _ ih bi lv st n t iv => fv_go (fv_bl code bi) (fv_ac cal hds ret thr ih) lv st n t iv) fuel
/-- a run that stops at the blocks of a list -/
noncomputable def fv_evs (cal : fv_Cl) (code : List (List Instr × Instr)) (sb : Nat) (sto : fv_S) (ret : fv_R) (fuel : Nat) : Nat → fv_S := @Nat.rec (fun _ => Nat → fv_S) (fun _ _ _ _ _ _ => false) (fun _ ih bi lv st n t iv => fv_if (Nat.beq bi sb) (sto lv st n t iv) (fv_go (fv_bl code bi) (fv_ac cal [] ret (fun _ _ _ _ => false) ih) lv st n t iv)) fuel
noncomputable def fv_fm (ms : am_Ms) (y : Nat) : Option (Nat × Option FieldType × List (List Instr × Instr)) := @List.rec (Nat × Nat × Option FieldType × List (List Instr × Instr)) (fun _ => Option (Nat × Option FieldType × List (List Instr × Instr))) none (fun z _ ih => @Prod.rec Nat (Nat × Option FieldType × List (List Instr × Instr)) (fun _ => Option (Nat × Option FieldType × List (List Instr × Instr))) (fun i w => @Bool.rec (fun _ => Option (Nat × Option FieldType × List (List Instr × Instr))) ih (some w) (Nat.beq i y)) z) ms
noncomputable def fv_me (o : Option (Nat × Option FieldType × List (List Instr × Instr))) (k : Nat → Option FieldType → List (List Instr × Instr) → Bool) : Bool := @Option.rec (Nat × Option FieldType × List (List Instr × Instr)) (fun _ => Bool) false (fun z => @Prod.rec Nat (Option FieldType × List (List Instr × Instr)) (fun _ => Bool) (fun mx w => @Prod.rec (Option FieldType) (List (List Instr × Instr)) (fun _ => Bool) (fun ty code => k mx ty code) w) z) o
/-- the type of an answer: 0 none, 1 int, 2 boolean, 3 long, 4 byte, 5 char, 6 a reference, 7 double, 8 float -/
noncomputable def fv_tn (ty : Option FieldType) : Nat := match ty with
  | none => 0
  | some .int => 1
  | some .boolean => 2
  | some .long => 3
  | some .byte => 4
  | some .char => 5
  | some (.object _) => 6
  | some (.array _) => 6
  | some .double => 7
  | some .float => 8
  | _ => 9
noncomputable def fv_ty1 (c v : Nat) : Bool := @Nat.rec (fun _ => Bool) false (fun c _ => @Nat.rec (fun _ => Bool) (fv_isI v) (fun c _ => @Nat.rec (fun _ => Bool) (fv_b01 v) (fun c _ => @Nat.rec (fun _ => Bool) (fv_isJ v) (fun c _ => @Nat.rec (fun _ => Bool) (Nat.beq v 0) (fun c _ => @Nat.rec (fun _ => Bool) (fv_if (Nat.beq (Nat.mod v 8) 0) (fv_lt v 524288) false) (fun c _ => @Nat.rec (fun _ => Bool) (fv_isR v) (fun c _ => @Nat.rec (fun _ => Bool) (fv_isD v) (fun c _ => @Nat.rec (fun _ => Bool) (Nat.beq v 23) (fun _ _ => false) c) c) c) c) c) c) c) c) c
noncomputable def fv_ty (c : Nat) (vs : List Nat) : Bool := @List.rec Nat (fun _ => Bool) (Nat.beq c 0) (fun v r _ => fv_e r (fv_ty1 c v)) vs
noncomputable def fv_rt (ty : Option FieldType) (ret : fv_R) : fv_R := fun vs n t iv => fv_if (fv_ty (fv_tn ty) vs) (ret vs n t iv) false
/-- the first locals -/
noncomputable def fv_lvs (as : List Nat) (mx : Nat) : List Nat := @List.rec Nat (fun _ => Nat → List Nat) (fun mx => fv_rep mx 7) (fun v _ ih mx => @Bool.rec (fun _ => List Nat) (v :: 7 :: ih (Nat.sub mx 2)) (v :: ih (Nat.pred mx)) (fv_c1 v)) as mx
/-- String.checkIndex -/
noncomputable def fv_chk (as : List Nat) (iv : fv_Iv) (k : Bool) : Bool := fv_u as (fun x r => fv_u r (fun y q => fv_e q (fv_int iv x (fun a => fv_int iv y (fun b => fv_if (fv_lt a b) (fv_if (fv_lt b 2147483648) k false) false)))))
noncomputable def fv_cal (ms : am_Ms) (d : Nat) : fv_Cl := @Nat.rec (fun _ => fv_Cl) (fun _ _ _ _ _ _ _ => false) (fun d ih y as ret thr n t iv => fv_if (Nat.beq y 533) (@Nat.rec (fun _ => Bool) false (fun _ _ => fv_chk as iv (ret [] n t iv)) d) (fv_me (fv_fm ms y) (fun mx ty code => fv_if (fv_cl as mx) (fv_ev ih code [] (fv_rt ty ret) thr 100000 0 (fv_lvs as mx) [] n t iv) false))) d
/-- the law's wrappers -/
abbrev fv_Ws : Type := List (Nat × Nat × Option FieldType × List (List Instr × Instr) × List (Nat × Nat × Nat))
noncomputable def fv_fw (ws : fv_Ws) (y : Nat) : Option (Nat × Option FieldType × List (List Instr × Instr) × List (Nat × Nat × Nat)) := @List.rec (Nat × Nat × Option FieldType × List (List Instr × Instr) × List (Nat × Nat × Nat)) (fun _ => Option (Nat × Option FieldType × List (List Instr × Instr) × List (Nat × Nat × Nat))) none (fun z _ ih => @Prod.rec Nat (Nat × Option FieldType × List (List Instr × Instr) × List (Nat × Nat × Nat)) (fun _ => Option (Nat × Option FieldType × List (List Instr × Instr) × List (Nat × Nat × Nat))) (fun i w => @Bool.rec (fun _ => Option (Nat × Option FieldType × List (List Instr × Instr) × List (Nat × Nat × Nat))) ih (some w) (Nat.beq i y)) z) ws
noncomputable def fv_cw (ms : am_Ms) (ws : fv_Ws) (d : Nat) : fv_Cl := fun y as ret thr n t iv => @Option.rec (Nat × Option FieldType × List (List Instr × Instr) × List (Nat × Nat × Nat)) (fun _ => Bool) (fv_cal ms (Nat.succ (Nat.succ d)) y as ret thr n t iv) (fun z => @Prod.rec Nat (Option FieldType × List (List Instr × Instr) × List (Nat × Nat × Nat)) (fun _ => Bool) (fun mx w => @Prod.rec (Option FieldType) (List (List Instr × Instr) × List (Nat × Nat × Nat)) (fun _ => Bool) (fun ty w => @Prod.rec (List (List Instr × Instr)) (List (Nat × Nat × Nat)) (fun _ => Bool) (fun code hds => fv_if (fv_cl as mx) (fv_ev (fv_cal ms (Nat.succ d)) code hds (fv_rt ty ret) (fun _ _ _ _ => false) 100000 0 (fv_lvs as mx) [] n t iv) false) w) w) z) (fv_fw ws y)
end
section
variable {sc : List Int32}
/-! THE QUICK MACHINE: what its words mean -/
theorem fv_ift {b x y : Bool} (h : fv_if b x y = true) : (b = true ∧ x = true) ∨ (b = false ∧ y = true) := by
  cases b
  · exact Or.inr ⟨rfl, h⟩
  · exact Or.inl ⟨rfl, h⟩
theorem fv_iff {b x : Bool} (h : fv_if b x false = true) : b = true ∧ x = true := by
  cases b
  · exact absurd h Bool.false_ne_true
  · exact ⟨rfl, h⟩
theorem fv_ifn {b y : Bool} (h : fv_if b false y = true) : b = false ∧ y = true := by
  cases b
  · exact ⟨rfl, h⟩
  · exact absurd h Bool.false_ne_true
theorem fv_f_eq (x : Nat) (k : Nat → Bool) : fv_f x k = k x := by cases x <;> rfl
theorem fv_mod_h (a b : Nat) : Nat.mod a b = a % b := by cases b <;> rfl
theorem fv_div_h (a b : Nat) : Nat.div a b = a / b := by cases b <;> rfl
theorem fv_add_h (a b : Nat) : Nat.add a b = a + b := by cases b <;> rfl
theorem fv_mul_h (a b : Nat) : Nat.mul a b = a * b := by cases b <;> rfl
theorem fv_sub_h (a b : Nat) : Nat.sub a b = a - b := by cases b <;> rfl
theorem fv_u_t {l : List Nat} {k : Nat → List Nat → Bool} (h : fv_u l k = true) : ∃ a r, l = a :: r ∧ k a r = true := by
  cases l with
  | nil => exact absurd h Bool.false_ne_true
  | cons a r => exact ⟨a, r, rfl, h⟩
theorem fv_e_t {l : List Nat} {k : Bool} (h : fv_e l k = true) : l = [] ∧ k = true := by
  cases l with
  | nil => exact ⟨rfl, h⟩
  | cons a r => exact absurd h Bool.false_ne_true
theorem fv_2_t {st : List Nat} {k : Nat → Nat → List Nat → Bool} (h : fv_2 st k = true) : ∃ x y q, st = y :: x :: q ∧ k x y q = true := by
  obtain ⟨y, r, h1, h⟩ := fv_u_t h
  obtain ⟨x, q, h2, h⟩ := fv_u_t h
  exact ⟨x, y, q, by rw [h1, h2], h⟩
theorem fv_3_t {st : List Nat} {k : Nat → Nat → Nat → List Nat → Bool} (h : fv_3 st k = true) : ∃ x y v q, st = v :: y :: x :: q ∧ k x y v q = true := by
  obtain ⟨v, r, h1, h⟩ := fv_u_t h
  obtain ⟨y, r2, h2, h⟩ := fv_u_t h
  obtain ⟨x, q, h3, h⟩ := fv_u_t h
  exact ⟨x, y, v, q, by rw [h1, h2, h3], h⟩
theorem fv_nth_eq {α : Type} {l : List α} {i : Nat} {d : α} : fv_nth l i d = l.getD i d := by
  induction l generalizing i with
  | nil => rfl
  | cons a r ih =>
    cases i with
    | zero => rfl
    | succ m => exact ih
theorem fv_set_eq {α : Type} {l : List α} {i : Nat} {x : α} : fv_set l i x = l.set i x := by
  induction l generalizing i with
  | nil => rfl
  | cons a r ih =>
    cases i with
    | zero => rfl
    | succ m => exact congrArg (a :: ·) ih
theorem fv_rep_eq {n v : Nat} : fv_rep n v = List.replicate n v := by
  induction n with
  | zero => rfl
  | succ m ih => exact congrArg (v :: ·) ih
theorem fv_gs {α : Type} {l : List α} {i j : Nat} {x d : α} (hi : i < l.length) : (l.set i x).getD j d = if i = j then x else l.getD j d := by
  rw [List.getD_eq_getElem?_getD, List.getElem?_set]
  by_cases h : i = j
  · subst h
    simp [hi]
  · simp [h, List.getD_eq_getElem?_getD]
theorem fv_gd {α : Type} {l : List α} {j : Nat} {d : α} (h : l.length ≤ j) : l.getD j d = d := by
  rw [List.getD_eq_getElem?_getD, List.getElem?_eq_none h]
  rfl
theorem fv_ltt {a b : Nat} (h : fv_lt a b = true) : a < b := Nat.le_of_ble_eq_true h
theorem fv_ltf {a b : Nat} (h : fv_lt a b = false) : b ≤ a := by
  have h1 : ¬ a + 1 ≤ b := Nat.not_le_of_not_ble_eq_true (by rw [show (a + 1).ble b = false from h]; exact Bool.false_ne_true)
  omega
theorem fv_bf {a b : Nat} (h : Nat.ble a b = false) : b < a := by
  have h1 : ¬ a ≤ b := Nat.not_le_of_not_ble_eq_true (by rw [h]; exact Bool.false_ne_true)
  omega
theorem fv_min_eq (a b : Nat) : fv_min a b = min a b := by
  unfold fv_min
  cases h : Nat.ble a b with
  | true => have := Nat.le_of_ble_eq_true h; show a = min a b; omega
  | false => have := fv_bf h; show b = min a b; omega
theorem fv_max_eq (a b : Nat) : fv_max a b = max a b := by
  unfold fv_max
  cases h : Nat.ble a b with
  | true => have := Nat.le_of_ble_eq_true h; show b = max a b; omega
  | false => have := fv_bf h; show a = max a b; omega
/-! numbers -/
theorem fv_m32 (n : Nat) : Int32.ofNat (n % 4294967296) = Int32.ofNat n := Int32.toBitVec_inj.1 (BitVec.eq_of_toNat_eq (by
  show (BitVec.ofNat 32 (n % 4294967296)).toNat = (BitVec.ofNat 32 n).toNat
  simp))
theorem fv_m64 (n : Nat) : Int64.ofNat (n % 18446744073709551616) = Int64.ofNat n := Int64.toBitVec_inj.1 (BitVec.eq_of_toNat_eq (by
  show (BitVec.ofNat 64 (n % 18446744073709551616)).toNat = (BitVec.ofNat 64 n).toNat
  simp))
theorem fv_ni_eq (n : Int) : Int32.ofInt n = Int32.ofNat (fv_ni n) := by
  rw [← Int32.ofInt_eq_ofNat]
  apply Int32.toInt_inj.1
  rw [Int32.toInt_ofInt, Int32.toInt_ofInt]
  unfold fv_ni
  rw [Int.toNat_of_nonneg (Int.emod_nonneg _ (by decide))]
  exact (Int.emod_bmod _ _).symm
theorem fv_nj_eq (n : Int) : Int64.ofInt n = Int64.ofNat (fv_nj n) := by
  rw [← Int64.ofInt_eq_ofNat]
  apply Int64.toInt_inj.1
  rw [Int64.toInt_ofInt, Int64.toInt_ofInt]
  unfold fv_nj
  rw [Int.toNat_of_nonneg (Int.emod_nonneg _ (by decide))]
  exact (Int.emod_bmod _ _).symm
theorem fv_add32 (a b : Nat) : Int32.ofNat ((a + b) % 4294967296) = Int32.ofNat a + Int32.ofNat b := by rw [fv_m32, Int32.ofNat_add]
theorem fv_sub32 (a b : Nat) : Int32.ofNat ((a + (4294967296 - b % 4294967296)) % 4294967296) = Int32.ofNat a - Int32.ofNat b := by
  rw [fv_m32, Int32.ofNat_add, Int32.ofNat_sub _ _ (by omega), fv_m32, show Int32.ofNat 4294967296 = 0 from rfl, Int32.zero_sub, ← Int32.sub_eq_add_neg]
theorem fv_and32 (a b : Nat) : Int32.ofNat (a &&& b) = Int32.ofNat a &&& Int32.ofNat b := Int32.toBitVec_inj.1 (BitVec.ofNat_and)
theorem fv_or32 (a b : Nat) : Int32.ofNat (a ||| b) = Int32.ofNat a ||| Int32.ofNat b := Int32.toBitVec_inj.1 (BitVec.ofNat_or)
theorem fv_add64 (a b : Nat) : Int64.ofNat ((a + b) % 18446744073709551616) = Int64.ofNat a + Int64.ofNat b := by rw [fv_m64, Int64.ofNat_add]
theorem fv_sub64 (a b : Nat) : Int64.ofNat ((a + (18446744073709551616 - b % 18446744073709551616)) % 18446744073709551616) = Int64.ofNat a - Int64.ofNat b := by
  rw [fv_m64, Int64.ofNat_add, Int64.ofNat_sub _ _ (by omega), fv_m64, show Int64.ofNat 18446744073709551616 = 0 from rfl, Int64.zero_sub, ← Int64.sub_eq_add_neg]
theorem fv_and64 (a b : Nat) : Int64.ofNat (a &&& b) = Int64.ofNat a &&& Int64.ofNat b := Int64.toBitVec_inj.1 (BitVec.ofNat_and)
/-- an int's place among all ints -/
def fv_of (x : Int32) : Nat := (x.toInt + 2147483648).toNat
theorem fv_of_i (x : Int32) : (fv_of x : Int) = x.toInt + 2147483648 := by
  have := x.le_toInt
  unfold fv_of
  omega
theorem fv_of_lt (x : Int32) : fv_of x < 4294967296 := by
  have := fv_of_i x
  have := x.toInt_lt
  omega
theorem fv_of_nat (a : Nat) : fv_of (Int32.ofNat a) = (a + 2147483648) % 4294967296 := by
  have h := fv_of_i (Int32.ofNat a)
  rw [Int32.toInt_ofNat'] at h
  have h2 : (a : Int).bmod Int32.size = (a : Int).bmod 4294967296 := rfl
  rw [h2, Int.bmod_def] at h
  split at h <;> omega
theorem fv_of_inj {x y : Int32} : fv_of x = fv_of y ↔ x = y := by
  constructor
  · intro h
    apply Int32.toInt_inj.1
    have := fv_of_i x
    have := fv_of_i y
    omega
  · rintro rfl
    rfl
theorem fv_of_lt_iff {x y : Int32} : fv_of x < fv_of y ↔ x < y := by
  rw [Int32.lt_iff_toInt_lt]
  have := fv_of_i x
  have := fv_of_i y
  omega
theorem fv_of_back (x : Int32) : Int32.ofNat ((fv_of x + 2147483648) % 4294967296) = x := by
  apply fv_of_inj.1
  rw [fv_of_nat]
  have := fv_of_lt x
  omega
/-! values -/
section FVV
variable {ρ : Nat → Int32}
theorem fv_d0 {v : Nat} (h : v % 8 = 0) : fv_de ρ v = .int (Int32.ofNat (v / 8)) := by simp only [fv_de, h]
theorem fv_d1 {v : Nat} (h : v % 8 = 1) : fv_de ρ v = .int (ρ (v / 8)) := by simp only [fv_de, h]
theorem fv_d2 {v : Nat} (h : v % 8 = 2) : fv_de ρ v = .ref (v / 8) := by simp only [fv_de, h]
theorem fv_d3 {v : Nat} (h : v % 8 = 3) : fv_de ρ v = .retAddr (v / 8) := by simp only [fv_de, h]
theorem fv_d4 {v : Nat} (h : v % 8 = 4) : fv_de ρ v = .null := by simp only [fv_de, h]
theorem fv_d5 {v : Nat} (h : v % 8 = 5) : fv_de ρ v = .long (Int64.ofNat (v / 8)) := by simp only [fv_de, h]
theorem fv_d6 {v : Nat} (h : v % 8 = 6) : fv_de ρ v = .long (ρ (v / 8)).toInt64 := by simp only [fv_de, h]
theorem fv_d7l {v : Nat} (h : v % 8 = 7) (h1 : 128 ≤ v) : fv_de ρ v = .long (fv_lo ρ (v / 8)) := by
  simp only [fv_de, h]
  split
  · omega
  · omega
  · omega
  · rw [if_pos (by omega)]
theorem fv_m0 (p : Nat) : fv_de ρ (8 * p) = .int (Int32.ofNat p) := by
  rw [fv_d0 (by omega), show 8 * p / 8 = p by omega]
theorem fv_m1 (p : Nat) : fv_de ρ (8 * p + 1) = .int (ρ p) := by
  rw [fv_d1 (by omega), show (8 * p + 1) / 8 = p by omega]
theorem fv_m2 (p : Nat) : fv_de ρ (8 * p + 2) = .ref p := by
  rw [fv_d2 (by omega), show (8 * p + 2) / 8 = p by omega]
theorem fv_m3 (p : Nat) : fv_de ρ (8 * p + 3) = .retAddr p := by
  rw [fv_d3 (by omega), show (8 * p + 3) / 8 = p by omega]
theorem fv_m5 (p : Nat) : fv_de ρ (8 * p + 5) = .long (Int64.ofNat p) := by
  rw [fv_d5 (by omega), show (8 * p + 5) / 8 = p by omega]
theorem fv_beq {a b : Nat} (h : Nat.beq a b = true) : a = b := Nat.eq_of_beq_eq_true h
theorem fv_bne {a b : Nat} (h : Nat.beq a b = false) : ¬ a = b := Nat.ne_of_beq_eq_false h
theorem fv_ble {a b : Nat} (h : Nat.ble a b = true) : a ≤ b := Nat.le_of_ble_eq_true h
theorem fv_isI_t {v : Nat} (h : fv_isI v = true) : ∃ x, fv_de ρ v = .int x := by
  have h1 : v % 8 ≤ 1 := fv_ble h
  by_cases h0 : v % 8 = 0
  · exact ⟨_, fv_d0 h0⟩
  · exact ⟨_, fv_d1 (by omega)⟩
theorem fv_isJ_t {v : Nat} (h : fv_isJ v = true) : ∃ x, fv_de ρ v = .long x := by
  rcases fv_ift h with ⟨h, -⟩ | ⟨-, h⟩
  · exact ⟨_, fv_d5 (fv_beq h)⟩
  · rcases fv_ift h with ⟨h, -⟩ | ⟨-, h⟩
    · exact ⟨_, fv_d6 (fv_beq h)⟩
    · obtain ⟨h1, h2⟩ := fv_iff h
      exact ⟨_, fv_d7l (fv_beq h1) (fv_ble h2)⟩
theorem fv_isR_t {v : Nat} (h : fv_isR v = true) : am_isR (fv_de ρ v) = true := by
  obtain ⟨h1, h2⟩ := fv_iff h
  have h1 : 2 ≤ v % 8 := fv_ble h1
  have h2 : v % 8 ≤ 4 := fv_ble h2
  rcases (show v % 8 = 2 ∨ v % 8 = 3 ∨ v % 8 = 4 by omega) with h | h | h
  · rw [fv_d2 h]; rfl
  · rw [fv_d3 h]; rfl
  · rw [fv_d4 h]; rfl
theorem fv_isD_t {v : Nat} (h : fv_isD v = true) : (v = 15 ∧ fv_de ρ v = .double FP.dconst0) ∨ (v = 31 ∧ fv_de ρ v = .double (FP.f2d FP.fconst0)) := by
  rcases fv_ift h with ⟨h, -⟩ | ⟨-, h⟩
  · cases fv_beq h
    exact Or.inl ⟨rfl, rfl⟩
  · cases fv_beq h
    exact Or.inr ⟨rfl, rfl⟩
theorem fv_isD_d {v : Nat} (h : fv_isD v = true) : ∃ x, fv_de ρ v = .double x := by
  rcases fv_isD_t (ρ := ρ) h with h | h
  · exact ⟨_, h.2⟩
  · exact ⟨_, h.2⟩
theorem fv_d7 {v : Nat} (h : v % 8 = 7) (h1 : ¬ v = 15) (h3 : ¬ v = 31) (h4 : v < 128) : fv_de ρ v = .float FP.fconst0 ∨ fv_de ρ v = .null := by
  by_cases h2 : v / 8 = 2
  · exact Or.inl (by simp only [fv_de, h, h2])
  · refine Or.inr ?_
    simp only [fv_de, h]
    split
    · omega
    · omega
    · omega
    · rw [if_neg (by omega)]
theorem fv_c1_ok (v : Nat) : (fv_c1 v = true ∧ (fv_de ρ v).category = 1) ∨ (fv_c1 v = false ∧ (fv_de ρ v).category = 2) := by
  cases hc : fv_c1 v with
  | true =>
    refine Or.inl ⟨rfl, ?_⟩
    rcases fv_ift hc with ⟨-, h⟩ | ⟨h, -⟩
    · obtain ⟨h, h2⟩ := fv_iff h
      obtain ⟨h3, h2⟩ := fv_ifn h2
      obtain ⟨h4, h2⟩ := fv_ifn h2
      obtain ⟨h5, -⟩ := fv_ifn h2
      rcases fv_d7 (ρ := ρ) (fv_beq h) (fv_bne h3) (fv_bne h4) (fv_bf h5) with h | h <;> rw [h] <;> rfl
    · have h : v % 8 < 5 := fv_bf h
      rcases (show v % 8 = 0 ∨ v % 8 = 1 ∨ v % 8 = 2 ∨ v % 8 = 3 ∨ v % 8 = 4 by omega) with h | h | h | h | h
      · rw [fv_d0 h]; rfl
      · rw [fv_d1 h]; rfl
      · rw [fv_d2 h]; rfl
      · rw [fv_d3 h]; rfl
      · rw [fv_d4 h]; rfl
  | false =>
    refine Or.inr ⟨rfl, ?_⟩
    unfold fv_c1 at hc
    cases h5 : Nat.ble 5 (Nat.mod v 8) with
    | false => rw [h5] at hc; exact absurd (show true = false from hc) (by decide)
    | true =>
      rw [h5] at hc
      have h5 : 5 ≤ v % 8 := fv_ble h5
      have hc : fv_if (Nat.beq (Nat.mod v 8) 7) (fv_if (Nat.beq v 15) false (fv_if (Nat.beq v 31) false (fv_if (Nat.ble 128 v) false true))) false = false := hc
      cases h7 : Nat.beq (Nat.mod v 8) 7 with
      | false =>
        have h7 : ¬ v % 8 = 7 := fv_bne h7
        rcases (show v % 8 = 5 ∨ v % 8 = 6 by omega) with h | h
        · rw [fv_d5 h]; rfl
        · rw [fv_d6 h]; rfl
      | true =>
        rw [h7] at hc
        have hc : fv_if (Nat.beq v 15) false (fv_if (Nat.beq v 31) false (fv_if (Nat.ble 128 v) false true)) = false := hc
        cases h15 : Nat.beq v 15 with
        | true => cases fv_beq h15; rfl
        | false =>
          rw [h15] at hc
          have hc : fv_if (Nat.beq v 31) false (fv_if (Nat.ble 128 v) false true) = false := hc
          cases h31 : Nat.beq v 31 with
          | true => cases fv_beq h31; rfl
          | false =>
            rw [h31] at hc
            have hc : fv_if (Nat.ble 128 v) false true = false := hc
            cases h128 : Nat.ble 128 v with
            | true =>
              have h7 := fv_beq h7
              rw [fv_d7l h7 (fv_ble h128)]
              rfl
            | false => rw [h128] at hc; exact absurd (show true = false from hc) (by decide)
theorem fv_c1_t {v : Nat} (h : fv_c1 v = true) : (fv_de ρ v).category = 1 := by
  rcases fv_c1_ok (ρ := ρ) v with h1 | h1
  · exact h1.2
  · rw [h] at h1; exact absurd h1.1 (by decide)
theorem fv_cl_t {l : List Nat} {b : Nat} (h : fv_cl l b = true) : am_cs (l.map (fv_de ρ)) ≤ b := by
  induction l generalizing b with
  | nil => exact Nat.zero_le _
  | cons v r ih =>
    have hs : am_cs ((v :: r).map (fv_de ρ)) = (fv_de ρ v).category + am_cs (r.map (fv_de ρ)) := by simp [am_cs]
    rw [hs]
    rcases fv_ift h with ⟨hc, h⟩ | ⟨hc, h⟩
    · rw [fv_c1_t hc]
      cases b with
      | zero => exact absurd h Bool.false_ne_true
      | succ m => have := ih (b := m) h; omega
    · rcases fv_c1_ok (ρ := ρ) v with h1 | h1
      · rw [hc] at h1; exact absurd h1.1 (by decide)
      · rw [h1.2]
        cases b with
        | zero => exact absurd h Bool.false_ne_true
        | succ m =>
          cases m with
          | zero => exact absurd h Bool.false_ne_true
          | succ m => have := ih (b := m) h; omega
/-! what is known of the unknowns -/
def fv_iok (ρ : Nat → Int32) (iv : fv_Iv) : Prop := ∀ u, (iv.getD u (0, 4294967296)).1 ≤ fv_of (ρ u) ∧ fv_of (ρ u) < (iv.getD u (0, 4294967296)).2
theorem fv_iok_set {iv : fv_Iv} {u lo hi : Nat} (io : fv_iok ρ iv) (h1 : lo ≤ fv_of (ρ u)) (h2 : fv_of (ρ u) < hi) : fv_iok ρ (fv_set iv u (lo, hi)) := by
  intro w
  rw [fv_set_eq]
  by_cases hu : u < iv.length
  · rw [fv_gs hu]
    by_cases h : u = w
    · subst h
      rw [if_pos rfl]
      exact ⟨h1, h2⟩
    · rw [if_neg h]
      exact io w
  · rw [List.set_eq_of_length_le (by omega)]
    exact io w
theorem fv_pc_ok {iv : fv_Iv} {u lo hi : Nat} {k : fv_Iv → Bool} (h : fv_pc iv u lo hi k = true) (io : fv_iok ρ iv) (h1 : lo ≤ fv_of (ρ u)) (h2 : fv_of (ρ u) < hi) : ∃ iv2, fv_iok ρ iv2 ∧ k iv2 = true := by
  rcases fv_ift h with ⟨-, h⟩ | ⟨h, -⟩
  · exact ⟨_, fv_iok_set io h1 h2, h⟩
  · have := fv_ltf h
    omega
theorem fv_ltk_ok {iv : fv_Iv} {u c : Nat} {kT kF : fv_Iv → Bool} (h : fv_ltk iv u c kT kF = true) (io : fv_iok ρ iv) : (fv_of (ρ u) < c ∧ ∃ iv2, fv_iok ρ iv2 ∧ kT iv2 = true) ∨ (c ≤ fv_of (ρ u) ∧ ∃ iv2, fv_iok ρ iv2 ∧ kF iv2 = true) := by
  have h : fv_if (fv_pc iv u (fv_nth iv u (0, 4294967296)).1 (fv_min (fv_nth iv u (0, 4294967296)).2 c) kT) (fv_pc iv u (fv_max (fv_nth iv u (0, 4294967296)).1 c) (fv_nth iv u (0, 4294967296)).2 kF) false = true := h
  rw [fv_nth_eq, fv_min_eq, fv_max_eq] at h
  obtain ⟨h1, h2⟩ := fv_iff h
  have hu := io u
  by_cases hc : fv_of (ρ u) < c
  · exact Or.inl ⟨hc, fv_pc_ok h1 io hu.1 (by omega)⟩
  · exact Or.inr ⟨by omega, fv_pc_ok h2 io (by omega) hu.2⟩
theorem fv_eqk_ok {iv : fv_Iv} {u c : Nat} {kT kF : fv_Iv → Bool} (h : fv_eqk iv u c kT kF = true) (io : fv_iok ρ iv) : (fv_of (ρ u) = c ∧ ∃ iv2, fv_iok ρ iv2 ∧ kT iv2 = true) ∨ (¬ fv_of (ρ u) = c ∧ ∃ iv2, fv_iok ρ iv2 ∧ kF iv2 = true) := by
  have h : fv_if (fv_pc iv u (fv_nth iv u (0, 4294967296)).1 (fv_min (fv_nth iv u (0, 4294967296)).2 c) kF) (fv_if (fv_pc iv u (fv_max (fv_nth iv u (0, 4294967296)).1 c) (fv_min (fv_nth iv u (0, 4294967296)).2 (c + 1)) kT) (fv_pc iv u (fv_max (fv_nth iv u (0, 4294967296)).1 (c + 1)) (fv_nth iv u (0, 4294967296)).2 kF) false) false = true := h
  rw [fv_nth_eq, fv_min_eq, fv_max_eq, fv_min_eq, fv_max_eq] at h
  obtain ⟨h1, h2⟩ := fv_iff h
  obtain ⟨h2, h3⟩ := fv_iff h2
  have hu := io u
  by_cases hc : fv_of (ρ u) = c
  · exact Or.inl ⟨hc, fv_pc_ok h2 io (by omega) (by omega)⟩
  · by_cases hl : fv_of (ρ u) < c
    · exact Or.inr ⟨hc, fv_pc_ok h1 io hu.1 (by omega)⟩
    · exact Or.inr ⟨hc, fv_pc_ok h3 io (by omega) hu.2⟩
theorem fv_pt_t {q : Nat × Nat} {k : Nat → Bool} (h : fv_pt q k = true) : q.2 = q.1 + 1 ∧ k ((q.1 + 2147483648) % 4294967296) = true := by
  obtain ⟨lo, hi⟩ := q
  unfold fv_pt at h
  simp only [fv_f_eq, fv_mod_h, fv_add_h] at h
  obtain ⟨h1, h2⟩ := fv_iff h
  exact ⟨fv_beq h1, h2⟩
theorem fv_int_ok {iv : fv_Iv} {v : Nat} {k : Nat → Bool} (h : fv_int iv v k = true) (io : fv_iok ρ iv) : ∃ a, fv_de ρ v = .int (Int32.ofNat a) ∧ k a = true := by
  rcases fv_ift h with ⟨h0, h⟩ | ⟨-, h⟩
  · exact ⟨v / 8, fv_d0 (fv_beq h0), h⟩
  · obtain ⟨h1, h⟩ := fv_iff h
    obtain ⟨h2, h⟩ := fv_pt_t h
    rw [fv_nth_eq] at h2 h
    have h2 : (iv.getD (v / 8) (0, 4294967296)).2 = (iv.getD (v / 8) (0, 4294967296)).1 + 1 := h2
    have h : k (((iv.getD (v / 8) (0, 4294967296)).1 + 2147483648) % 4294967296) = true := h
    have hu := io (v / 8)
    have h3 : (iv.getD (v / 8) (0, 4294967296)).1 = fv_of (ρ (v / 8)) := by omega
    rw [h3] at h
    exact ⟨_, by rw [fv_d1 (fv_beq h1)]; exact congrArg Value.int (fv_of_back _).symm, h⟩
theorem fv_lk_ok {op x y : Nat} {k : Nat → Bool} {b : Bool} : ∀ {L : List (Nat × Nat × Nat × Nat)}, fv_lk op x y L k b = true → (∃ r, (op, x, y, r) ∈ L ∧ k r = true) ∨ b = true
  | [], h => Or.inr h
  | (o, a, c, r) :: L, h => by
    have h : fv_if (Nat.beq o op) (fv_if (Nat.beq a x) (fv_if (Nat.beq c y) (k r) (fv_lk op x y L k b)) (fv_lk op x y L k b)) (fv_lk op x y L k b) = true := h
    have up : fv_lk op x y L k b = true → (∃ r2, (op, x, y, r2) ∈ (o, a, c, r) :: L ∧ k r2 = true) ∨ b = true := fun z => by
      rcases fv_lk_ok z with ⟨r2, h1, h2⟩ | h1
      · exact Or.inl ⟨r2, List.mem_cons_of_mem _ h1, h2⟩
      · exact Or.inr h1
    rcases fv_ift h with ⟨h1, k1⟩ | ⟨-, k1⟩
    · rcases fv_ift k1 with ⟨h2, k2⟩ | ⟨-, k2⟩
      · rcases fv_ift k2 with ⟨h3, k3⟩ | ⟨-, k3⟩
        · cases fv_beq h1
          cases fv_beq h2
          cases fv_beq h3
          exact Or.inl ⟨r, List.mem_cons_self, k3⟩
        · exact up k3
      · exact up k2
    · exact up k1
theorem fv_lng_ok {v : Nat} {k : Nat → Bool} (h : fv_lng v k = true) : fv_de ρ v = .long (Int64.ofNat (v / 8)) ∧ v % 8 = 5 ∧ k (v / 8) = true := by
  obtain ⟨h0, h⟩ := fv_iff h
  exact ⟨fv_d5 (fv_beq h0), fv_beq h0, h⟩
theorem fv_ref_ok {v : Nat} {k : Nat → Bool} (h : fv_ref v k = true) : fv_de ρ v = .ref (v / 8) ∧ v % 8 = 2 ∧ k (v / 8) = true := by
  obtain ⟨h0, h⟩ := fv_iff h
  exact ⟨fv_d2 (fv_beq h0), fv_beq h0, h⟩
theorem fv_off_eq {v : Nat} (h : v % 8 = 0) : fv_off v = fv_of (Int32.ofNat (v / 8)) := (fv_of_nat _).symm
theorem fv_sg_ok {iv : fv_Iv} {u : Nat} {k : Nat → Bool} {b : Bool} (h : fv_sg (fv_nth iv u (0, 4294967296)) k b = true) (io : fv_iok ρ iv) : k (fv_of (ρ u)) = true ∨ b = true := by
  have h : fv_if (Nat.beq (fv_nth iv u (0, 4294967296)).2 (Nat.succ (fv_nth iv u (0, 4294967296)).1)) (fv_f (fv_nth iv u (0, 4294967296)).1 k) b = true := h
  rw [fv_nth_eq, fv_f_eq] at h
  rcases fv_ift h with ⟨h1, h2⟩ | ⟨-, h2⟩
  · have h1 := fv_beq h1
    have hu := io u
    rw [show (iv.getD u (0, 4294967296)).1 = fv_of (ρ u) by omega] at h2
    exact Or.inl h2
  · exact Or.inr h2
theorem fv_lt2_ok {iv : fv_Iv} {x y : Nat} {kT kF : fv_Iv → Bool} (h : fv_lt2 iv x y kT kF = true) (io : fv_iok ρ iv) : ∃ a b : Int32, fv_de ρ x = .int a ∧ fv_de ρ y = .int b ∧ ((a < b ∧ ∃ iv2, fv_iok ρ iv2 ∧ kT iv2 = true) ∨ (¬ a < b ∧ ∃ iv2, fv_iok ρ iv2 ∧ kF iv2 = true)) := by
  rcases fv_ift h with ⟨hx, h⟩ | ⟨-, h⟩
  · have hx := fv_beq hx
    rcases fv_ift h with ⟨hy, h⟩ | ⟨-, h⟩
    · have hy := fv_beq hy
      refine ⟨_, _, fv_d0 hx, fv_d0 hy, ?_⟩
      rw [fv_off_eq hx, fv_off_eq hy] at h
      rcases fv_ift h with ⟨hl, h⟩ | ⟨hl, h⟩
      · exact Or.inl ⟨fv_of_lt_iff.1 (fv_ltt hl), iv, io, h⟩
      · exact Or.inr ⟨fun z => by have := fv_of_lt_iff.2 z; have := fv_ltf hl; omega, iv, io, h⟩
    · obtain ⟨hy, h⟩ := fv_iff h
      have hy := fv_beq hy
      refine ⟨_, _, fv_d0 hx, fv_d1 hy, ?_⟩
      rw [fv_off_eq hx] at h
      rcases fv_ltk_ok h io with ⟨h1, h2⟩ | ⟨h1, h2⟩
      · exact Or.inr ⟨fun z => by have := fv_of_lt_iff.2 z; have h1 : fv_of (ρ (y / 8)) < fv_of (Int32.ofNat (x / 8)) + 1 := h1; omega, h2⟩
      · exact Or.inl ⟨fv_of_lt_iff.1 h1, h2⟩
  · obtain ⟨hx, h⟩ := fv_iff h
    have hx := fv_beq hx
    rcases fv_ift h with ⟨hy, h⟩ | ⟨-, h⟩
    · have hy := fv_beq hy
      refine ⟨_, _, fv_d1 hx, fv_d0 hy, ?_⟩
      rw [fv_off_eq hy] at h
      rcases fv_ltk_ok h io with ⟨h1, h2⟩ | ⟨h1, h2⟩
      · exact Or.inl ⟨fv_of_lt_iff.1 h1, h2⟩
      · exact Or.inr ⟨fun z => by have := fv_of_lt_iff.2 z; have h1 : fv_of (Int32.ofNat (y / 8)) ≤ fv_of (ρ (x / 8)) := h1; omega, h2⟩
    · obtain ⟨hy, h⟩ := fv_iff h
      refine ⟨_, _, fv_d1 hx, fv_d1 (fv_beq hy), ?_⟩
      rcases fv_sg_ok h io with h | h
      · rcases fv_ltk_ok h io with ⟨h1, h2⟩ | ⟨h1, h2⟩
        · exact Or.inr ⟨fun z => by have := fv_of_lt_iff.2 z; have h1 : fv_of (ρ (y / 8)) < fv_of (ρ (x / 8)) + 1 := h1; omega, h2⟩
        · exact Or.inl ⟨fv_of_lt_iff.1 h1, h2⟩
      rcases fv_sg_ok h io with h | h
      · rcases fv_ltk_ok h io with ⟨h1, h2⟩ | ⟨h1, h2⟩
        · exact Or.inl ⟨fv_of_lt_iff.1 h1, h2⟩
        · exact Or.inr ⟨fun z => by have := fv_of_lt_iff.2 z; have h1 : fv_of (ρ (y / 8)) ≤ fv_of (ρ (x / 8)) := h1; omega, h2⟩
      unfold fv_vv at h
      rw [fv_nth_eq, fv_nth_eq] at h
      have hux := io (x / 8)
      have huy := io (y / 8)
      rcases fv_ift h with ⟨h1, h⟩ | ⟨-, h⟩
      · have h1 : (iv.getD (x / 8) (0, 4294967296)).2 ≤ (iv.getD (y / 8) (0, 4294967296)).1 := fv_ble h1
        exact Or.inl ⟨fv_of_lt_iff.1 (by omega), iv, io, h⟩
      rcases fv_ift h with ⟨h1, h⟩ | ⟨-, h⟩
      · have h1 : (iv.getD (y / 8) (0, 4294967296)).2 ≤ (iv.getD (x / 8) (0, 4294967296)).1 + 1 := fv_ble h1
        exact Or.inr ⟨fun z => by have := fv_of_lt_iff.2 z; omega, iv, io, h⟩
      obtain ⟨h1, h2⟩ := fv_iff h
      by_cases hl : ρ (x / 8) < ρ (y / 8)
      · exact Or.inl ⟨hl, iv, io, h1⟩
      · exact Or.inr ⟨hl, iv, io, h2⟩
theorem fv_eq2_ok {iv : fv_Iv} {x y : Nat} {kT kF : fv_Iv → Bool} (h : fv_eq2 iv x y kT kF = true) (io : fv_iok ρ iv) : ∃ a b : Int32, fv_de ρ x = .int a ∧ fv_de ρ y = .int b ∧ ((a = b ∧ ∃ iv2, fv_iok ρ iv2 ∧ kT iv2 = true) ∨ (¬ a = b ∧ ∃ iv2, fv_iok ρ iv2 ∧ kF iv2 = true)) := by
  rcases fv_ift h with ⟨hx, h⟩ | ⟨-, h⟩
  · have hx := fv_beq hx
    rcases fv_ift h with ⟨hy, h⟩ | ⟨-, h⟩
    · have hy := fv_beq hy
      refine ⟨_, _, fv_d0 hx, fv_d0 hy, ?_⟩
      rw [fv_off_eq hx, fv_off_eq hy] at h
      rcases fv_ift h with ⟨hl, h⟩ | ⟨hl, h⟩
      · exact Or.inl ⟨fv_of_inj.1 (fv_beq hl), iv, io, h⟩
      · exact Or.inr ⟨fun z => fv_bne hl (fv_of_inj.2 z), iv, io, h⟩
    · obtain ⟨hy, h⟩ := fv_iff h
      have hy := fv_beq hy
      refine ⟨_, _, fv_d0 hx, fv_d1 hy, ?_⟩
      rw [fv_off_eq hx] at h
      rcases fv_eqk_ok h io with ⟨h1, h2⟩ | ⟨h1, h2⟩
      · exact Or.inl ⟨(fv_of_inj.1 h1).symm, h2⟩
      · exact Or.inr ⟨fun z => h1 (fv_of_inj.2 z.symm), h2⟩
  · obtain ⟨hx, h⟩ := fv_iff h
    have hx := fv_beq hx
    rcases fv_ift h with ⟨hy, h⟩ | ⟨-, h⟩
    · have hy := fv_beq hy
      refine ⟨_, _, fv_d1 hx, fv_d0 hy, ?_⟩
      rw [fv_off_eq hy] at h
      rcases fv_eqk_ok h io with ⟨h1, h2⟩ | ⟨h1, h2⟩
      · exact Or.inl ⟨fv_of_inj.1 h1, h2⟩
      · exact Or.inr ⟨fun z => h1 (fv_of_inj.2 z), h2⟩
    · obtain ⟨hy, h⟩ := fv_iff h
      refine ⟨_, _, fv_d1 hx, fv_d1 (fv_beq hy), ?_⟩
      rcases fv_sg_ok h io with h | h
      · rcases fv_eqk_ok h io with ⟨h1, h2⟩ | ⟨h1, h2⟩
        · exact Or.inl ⟨(fv_of_inj.1 h1).symm, h2⟩
        · exact Or.inr ⟨fun z => h1 (fv_of_inj.2 z.symm), h2⟩
      rcases fv_sg_ok h io with h | h
      · rcases fv_eqk_ok h io with ⟨h1, h2⟩ | ⟨h1, h2⟩
        · exact Or.inl ⟨fv_of_inj.1 h1, h2⟩
        · exact Or.inr ⟨fun z => h1 (fv_of_inj.2 z), h2⟩
      obtain ⟨h1, h2⟩ := fv_iff h
      by_cases hl : ρ (x / 8) = ρ (y / 8)
      · exact Or.inl ⟨hl, iv, io, h1⟩
      · exact Or.inr ⟨hl, iv, io, h2⟩
/-! locals -/
def fv_L (ρ : Nat → Int32) (lvN : List Nat) (lv : am_V) : Prop := ∀ i, ¬ lvN.getD i 7 = 7 → am_ld lv i = some (fv_de ρ (lvN.getD i 7))
theorem fv_ld_filter {p : Nat × Value → Bool} {j : Nat} {w : Value} : ∀ {lv : am_V}, am_ld lv j = some w → p (j, w) = true → am_ld (lv.filter p) j = some w
  | [], h, _ => by simp [am_ld] at h
  | q :: r, h, hp => by
    unfold am_ld at h
    by_cases hq : q.1 = j
    · rw [if_pos hq] at h
      cases h
      obtain ⟨q1, q2⟩ := q
      simp only at hq
      subst hq
      rw [List.filter_cons_of_pos hp]
      simp [am_ld]
    · rw [if_neg hq] at h
      by_cases hq2 : p q = true
      · rw [List.filter_cons_of_pos hq2]
        unfold am_ld
        rw [if_neg hq]
        exact fv_ld_filter h hp
      · rw [List.filter_cons_of_neg hq2]
        exact fv_ld_filter h hp
theorem fv_getD_set {l : List Nat} {i j v : Nat} : (l.set i v).getD j 7 = if i = j ∧ i < l.length then v else l.getD j 7 := by
  by_cases h : i < l.length
  · rw [fv_gs h]
    by_cases hj : i = j
    · rw [if_pos hj, if_pos ⟨hj, h⟩]
    · rw [if_neg hj, if_neg (fun z => hj z.1)]
  · rw [List.set_eq_of_length_le (by omega), if_neg (fun z => h z.2)]
/-- what stands in the new list is the value that was written, or stood there before and isn't touched -/
theorem fv_s1_get {lvN : List Nat} {i c j : Nat} (h : ¬ (fv_s1 lvN i c).getD j 7 = 7) : (j = i ∧ (fv_s1 lvN i c).getD j 7 = c) ∨ (¬ j = i ∧ (fv_s1 lvN i c).getD j 7 = lvN.getD j 7 ∧ (j + 1 = i → (fv_de ρ (lvN.getD j 7)).category = 1)) := by
  unfold fv_s1 at h ⊢
  rw [fv_nth_eq, fv_set_eq, fv_set_eq] at h ⊢
  rcases fv_c1_ok (ρ := ρ) (lvN.getD (Nat.pred i) 7) with ⟨hc, h1⟩ | ⟨hc, h1⟩
  · rw [hc] at h ⊢
    have h : ¬ (lvN.set i c).getD j 7 = 7 := h
    show (j = i ∧ (lvN.set i c).getD j 7 = c) ∨ (¬ j = i ∧ (lvN.set i c).getD j 7 = lvN.getD j 7 ∧ (j + 1 = i → (fv_de ρ (lvN.getD j 7)).category = 1))
    rw [fv_getD_set] at h ⊢
    by_cases hj : i = j
    · subst hj
      by_cases hl : i < lvN.length
      · rw [if_pos ⟨rfl, hl⟩]
        exact Or.inl ⟨rfl, rfl⟩
      · rw [if_neg (fun z => hl z.2), fv_gd (by omega)] at h
        exact absurd rfl h
    · rw [if_neg (fun z => hj z.1)]
      refine Or.inr ⟨fun z => hj z.symm, rfl, fun z => ?_⟩
      subst z
      exact h1
  · rw [hc] at h ⊢
    have h9 : ¬ ((lvN.set i c).set (Nat.pred i) 7).getD j 7 = 7 := h
    clear h
    show (j = i ∧ ((lvN.set i c).set (Nat.pred i) 7).getD j 7 = c) ∨ (¬ j = i ∧ ((lvN.set i c).set (Nat.pred i) 7).getD j 7 = lvN.getD j 7 ∧ (j + 1 = i → (fv_de ρ (lvN.getD j 7)).category = 1))
    rw [fv_getD_set] at h9 ⊢
    by_cases hp : Nat.pred i = j ∧ Nat.pred i < (lvN.set i c).length
    · rw [if_pos hp] at h9
      exact absurd rfl h9
    · rw [if_neg hp] at h9 ⊢
      rw [fv_getD_set] at h9 ⊢
      by_cases hj : i = j
      · subst hj
        by_cases hl : i < lvN.length
        · rw [if_pos ⟨rfl, hl⟩]
          exact Or.inl ⟨rfl, rfl⟩
        · rw [if_neg (fun z => hl z.2), fv_gd (by omega)] at h9
          exact absurd rfl h9
      · rw [if_neg (fun z => hj z.1)] at h9 ⊢
        refine Or.inr ⟨fun z => hj z.symm, rfl, fun z => ?_⟩
        subst z
        refine absurd ⟨rfl, ?_⟩ hp
        rw [List.length_set]
        by_cases hl : j < lvN.length
        · exact hl
        · exact absurd (fv_gd (l := lvN) (d := 7) (by omega)) h9
theorem fv_L_s1 {lvN : List Nat} {lv : am_V} {i c : Nat} (h : fv_L ρ lvN lv) : fv_L ρ (fv_s1 lvN i c) (am_s1 lv i (fv_de ρ c)) := by
  intro j hj
  rcases fv_s1_get (ρ := ρ) hj with ⟨h1, h2⟩ | ⟨h1, h2, h3⟩
  · rw [h2, h1]
    simp [am_s1, am_ld]
  · rw [h2] at hj ⊢
    unfold am_s1 am_ld
    rw [if_neg (fun z => h1 z.symm)]
    refine fv_ld_filter (h j hj) ?_
    have h1' : (j == i) = false := by simp [h1]
    show (!(j == i) && !(j + 1 == i && (fv_de ρ (lvN.getD j 7)).category == 2)) = true
    rw [h1']
    by_cases hi : j + 1 = i
    · rw [h3 hi]
      simp
    · simp [hi]
theorem fv_L_dl {lvN : List Nat} {lv : am_V} {i : Nat} (h : fv_L ρ lvN lv) : fv_L ρ (fv_s1 lvN i 7) (am_dl lv i) := by
  intro j hj
  rcases fv_s1_get (ρ := ρ) hj with ⟨h1, h2⟩ | ⟨h1, h2, h3⟩
  · exact absurd h2 hj
  · rw [h2] at hj ⊢
    unfold am_dl
    refine fv_ld_filter (h j hj) ?_
    have h1' : (j == i) = false := by simp [h1]
    show (!(j == i) && !(j + 1 == i && (fv_de ρ (lvN.getD j 7)).category == 2)) = true
    rw [h1']
    by_cases hi : j + 1 = i
    · rw [h3 hi]
      simp
    · simp [hi]
theorem fv_L_s2 {lvN : List Nat} {lv : am_V} {i c : Nat} (h : fv_L ρ lvN lv) : fv_L ρ (fv_s2 lvN i c) (am_s2 lv i (fv_de ρ c)) := by
  intro j hj
  unfold fv_s2 at hj ⊢
  rw [fv_set_eq, fv_getD_set] at hj ⊢
  by_cases hs : Nat.succ i = j ∧ Nat.succ i < (fv_s1 lvN i c).length
  · rw [if_pos hs] at hj
    exact absurd rfl hj
  · rw [if_neg hs] at hj ⊢
    have hji : ¬ j = i + 1 := fun z => by
      by_cases hl : i + 1 < (fv_s1 lvN i c).length
      · exact hs ⟨z.symm, hl⟩
      · rw [fv_gd (by omega)] at hj
        exact hj rfl
    rcases fv_s1_get (ρ := ρ) hj with ⟨h1, h2⟩ | ⟨h1, h2, h3⟩
    · rw [h2, h1]
      simp [am_s2, am_ld]
    · rw [h2] at hj ⊢
      unfold am_s2 am_ld
      rw [if_neg (fun z => h1 z.symm)]
      refine fv_ld_filter (h j hj) ?_
      have h1' : (j == i) = false := by simp [h1]
      have h2' : (j == i + 1) = false := by simp [hji]
      show (!(j == i) && (!(j == i + 1) && !(j + 1 == i && (fv_de ρ (lvN.getD j 7)).category == 2))) = true
      rw [h1', h2']
      by_cases hi : j + 1 = i
      · rw [h3 hi]
        simp
      · simp [hi]
theorem fv_lvs_ok : ∀ (as : List Nat) (mx i j : Nat), ¬ (fv_lvs as mx).getD j 7 = 7 → am_ld (lv_args i (as.map (fv_de ρ))) (i + j) = some (fv_de ρ ((fv_lvs as mx).getD j 7))
  | [], mx, i, j, h => by
    refine absurd ?_ h
    show (fv_rep mx 7).getD j 7 = 7
    rw [fv_rep_eq, List.getD_eq_getElem?_getD, List.getElem?_replicate]
    split <;> rfl
  | v :: r, mx, i, j, h => by
    have e : fv_lvs (v :: r) mx = @Bool.rec (fun _ => List Nat) (v :: 7 :: fv_lvs r (Nat.sub mx 2)) (v :: fv_lvs r (Nat.pred mx)) (fv_c1 v) := rfl
    show am_ld ((i, fv_de ρ v) :: lv_args (if (fv_de ρ v).category = 2 then i + 2 else i + 1) (r.map (fv_de ρ))) (i + j) = _
    rcases fv_c1_ok (ρ := ρ) v with ⟨hc, h1⟩ | ⟨hc, h1⟩
    · rw [hc] at e
      have e : fv_lvs (v :: r) mx = v :: fv_lvs r (Nat.pred mx) := e
      rw [e] at h ⊢
      cases j with
      | zero => simp [am_ld]
      | succ j =>
        have ih := fv_lvs_ok r (Nat.pred mx) (i + 1) j h
        unfold am_ld
        rw [if_neg (by show ¬ i = i + (j + 1); omega), h1, if_neg (by decide), show i + (j + 1) = i + 1 + j by omega]
        exact ih
    · rw [hc] at e
      have e : fv_lvs (v :: r) mx = v :: 7 :: fv_lvs r (Nat.sub mx 2) := e
      rw [e] at h ⊢
      cases j with
      | zero => simp [am_ld]
      | succ j =>
        cases j with
        | zero => exact absurd rfl h
        | succ j =>
          have ih := fv_lvs_ok r (Nat.sub mx 2) (i + 2) j h
          unfold am_ld
          rw [if_neg (by show ¬ i = i + (j + 1 + 1); omega), h1, if_pos rfl, show i + (j + 1 + 1) = i + 2 + j by omega]
          exact ih
theorem fv_L_args (as : List Nat) (mx : Nat) : fv_L ρ (fv_lvs as mx) (lv_args 0 (as.map (fv_de ρ))) := fun j h => by
  have := fv_lvs_ok (ρ := ρ) as mx 0 j h
  rw [Nat.zero_add] at this
  exact this
/-! things -/
def fv_sh (t : fv_T) : Prop := t.length = 11 ∧ ∀ i, i < 11 → (t.getD i []).length = 11 ∧ ∀ j, j < 11 → ((t.getD i []).getD j []).length = 11
theorem fv_hg_eq (t : fv_T) (a : Nat) : fv_hg t a = ((t.getD (a / 121) []).getD (a / 11 % 11) []).getD (a % 11) (199, 0, []) := by
  unfold fv_hg
  rw [fv_nth_eq, fv_nth_eq, fv_nth_eq]
  rfl
theorem fv_hs_eq (t : fv_T) (a : Nat) (o : fv_Ob) : fv_hs t a o = t.set (a / 121) ((t.getD (a / 121) []).set (a / 11 % 11) (((t.getD (a / 121) []).getD (a / 11 % 11) []).set (a % 11) o)) := by
  unfold fv_hs
  rw [fv_set_eq, fv_set_eq, fv_set_eq, fv_nth_eq, fv_nth_eq]
  rfl
theorem fv_hs_sh {t : fv_T} {a : Nat} {o : fv_Ob} (ha : a < 1331) (h : fv_sh t) : fv_sh (fv_hs t a o) := by
  rw [fv_hs_eq]
  have h1 : a / 121 < t.length := by rw [h.1]; omega
  have h2 := (h.2 (a / 121) (by omega)).1
  refine ⟨by rw [List.length_set]; exact h.1, fun i hi => ?_⟩
  rw [fv_gs h1]
  by_cases hai : a / 121 = i
  · rw [if_pos hai]
    refine ⟨by rw [List.length_set]; exact h2, fun j hj => ?_⟩
    rw [fv_gs (by rw [h2]; omega)]
    by_cases haj : a / 11 % 11 = j
    · rw [if_pos haj, List.length_set]
      exact (h.2 (a / 121) (by omega)).2 _ (by omega)
    · rw [if_neg haj]
      exact (h.2 (a / 121) (by omega)).2 _ hj
  · rw [if_neg hai]
    exact h.2 i hi
theorem fv_hg_hs {t : fv_T} {a b : Nat} {o : fv_Ob} (ha : a < 1331) (h : fv_sh t) : fv_hg (fv_hs t a o) b = if a = b then o else fv_hg t b := by
  rw [fv_hs_eq, fv_hg_eq, fv_hg_eq]
  have h1 : a / 121 < t.length := by rw [h.1]; omega
  have h2 := (h.2 (a / 121) (by omega)).1
  have h3 := (h.2 (a / 121) (by omega)).2 (a / 11 % 11) (by omega)
  rw [fv_gs h1]
  by_cases hab : a = b
  · subst hab
    rw [if_pos rfl, if_pos rfl, fv_gs (by rw [h2]; omega), if_pos rfl, fv_gs (by rw [h3]; omega), if_pos rfl]
  · rw [if_neg hab]
    by_cases hi : a / 121 = b / 121
    · rw [if_pos hi, fv_gs (by rw [h2]; omega)]
      by_cases hj : a / 11 % 11 = b / 11 % 11
      · rw [if_pos hj, fv_gs (by rw [h3]; omega), if_neg (by omega), hi, hj]
      · rw [if_neg hj, hi]
    · rw [if_neg hi]
theorem fv_hg_big {t : fv_T} {a : Nat} (ha : 1331 ≤ a) (h : fv_sh t) : fv_hg t a = (199, 0, []) := by
  rw [fv_hg_eq, fv_gd (l := t) (by rw [h.1]; omega)]
  rfl
def fv_ob (ρ : Nat → Int32) (q : fv_Ob) (o : am_O) : Prop := o.1 = q.1 ∧ q.2.1 = q.2.2.length ∧ o.2 = q.2.2.map (fv_de ρ) ∧ q.2.1 ≤ 1000000
def fv_rel (ρ : Nat → Int32) (n : Nat) (t : fv_T) (h : am_H) : Prop := fv_sh t ∧ h.length = n % 2048 ∧ h.length ≤ 1331 ∧ am_sz h = n / 2048 ∧ ∀ a, (∃ o, h[a]? = some o ∧ fv_ob ρ (fv_hg t a) o) ∨ (h[a]? = none ∧ (fv_hg t a).1 = 199)
theorem fv_rel_get {n a : Nat} {t : fv_T} {h : am_H} (r : fv_rel ρ n t h) (hk : ¬ (fv_hg t a).1 = 199) : ∃ o, h[a]? = some o ∧ fv_ob ρ (fv_hg t a) o := by
  rcases r.2.2.2.2 a with h1 | h1
  · exact h1
  · exact absurd h1.2 hk
theorem fv_rel_set {n a : Nat} {t : fv_T} {h : am_H} {o o2 : am_O} {q : fv_Ob} (r : fv_rel ρ n t h) (e : h[a]? = some o) (hq : fv_ob ρ q o2) (hl : o2.2.length = o.2.length) : fv_rel ρ n (fv_hs t a q) (h.set a o2) := by
  have hlt := (List.getElem?_eq_some_iff.mp e).1
  have ha : a < 1331 := Nat.lt_of_lt_of_le hlt r.2.2.1
  refine ⟨fv_hs_sh ha r.1, by rw [List.length_set]; exact r.2.1, by rw [List.length_set]; exact r.2.2.1, by rw [am_sz_set hl e]; exact r.2.2.2.1, fun b => ?_⟩
  rw [fv_hg_hs ha r.1]
  by_cases hab : a = b
  · subst hab
    rw [if_pos rfl, List.getElem?_set_self hlt]
    exact Or.inl ⟨o2, rfl, hq⟩
  · rw [if_neg hab, List.getElem?_set_ne hab]
    exact r.2.2.2.2 b
theorem fv_rel_push {n : Nat} {t : fv_T} {h : am_H} {o : am_O} {q : fv_Ob} (r : fv_rel ρ n t h) (hn : n % 2048 < 1331) (hq : fv_ob ρ q o) : fv_rel ρ (n + (2048 * q.2.1 + 1)) (fv_hs t (n % 2048) q) (h ++ [o]) := by
  have hl := r.2.1
  have hz := r.2.2.2.1
  refine ⟨fv_hs_sh hn r.1, by rw [List.length_append]; show h.length + 1 = _; omega, by rw [List.length_append]; show h.length + 1 ≤ _; omega, ?_, fun b => ?_⟩
  · rw [am_sz_push, hz, hq.2.2.1, List.length_map, ← hq.2.1]
    omega
  · rw [fv_hg_hs hn r.1]
    by_cases hb : n % 2048 = b
    · rw [if_pos hb, List.getElem?_append_right (by omega), show b - h.length = 0 by omega]
      exact Or.inl ⟨o, rfl, hq⟩
    · rw [if_neg hb]
      by_cases hlt : b < h.length
      · rw [List.getElem?_append_left hlt]
        exact r.2.2.2.2 b
      · rcases r.2.2.2.2 b with ⟨o9, h9, -⟩ | ⟨-, h9⟩
        · exact absurd (List.getElem?_eq_some_iff.mp h9).1 hlt
        · refine Or.inr ⟨?_, h9⟩
          rw [List.getElem?_append_right (by omega)]
          exact List.getElem?_eq_none (by show 1 ≤ b - h.length; omega)
theorem fv_o_eq (t : fv_T) (a : Nat) (k : Nat → Nat → List Nat → Bool) : fv_o t a k = k (fv_hg t a).1 (fv_hg t a).2.1 (fv_hg t a).2.2 := rfl
/-- the thing that is got: in the abstract -/
theorem fv_o_ok {n a : Nat} {t : fv_T} {h : am_H} {k : Nat → Nat → List Nat → Bool} (r : fv_rel ρ n t h) (e : fv_o t a k = true) : ∃ c z s, k c z s = true ∧ (c = 199 ∨ (z = s.length ∧ h[a]? = some (c, s.map (fv_de ρ)) ∧ z ≤ 1000000)) := by
  rw [fv_o_eq] at e
  by_cases hk : (fv_hg t a).1 = 199
  · exact ⟨_, _, _, e, Or.inl hk⟩
  · obtain ⟨o, h1, h2⟩ := fv_rel_get r hk
    refine ⟨_, _, _, e, Or.inr ⟨h2.2.1, ?_, h2.2.2.2⟩⟩
    rw [h1]
    obtain ⟨o1, o2⟩ := o
    rw [← h2.1, ← h2.2.2.1]
theorem fv_ix {i n : Nat} (h : i < n) (hn : n ≤ 1000000) : am_ix (Int32.ofNat i) n = some i := by
  have h1 : i < 2 ^ 31 := by omega
  have h2 : ¬ Int32.ofNat i < 0 := fun z => by
    have z2 := Int32.lt_iff_toInt_lt.mp z
    rw [Int32.toInt_ofNat_of_lt h1] at z2
    have : (0 : Int32).toInt = 0 := rfl
    omega
  unfold am_ix
  rw [if_neg h2, Int32.toNatClampNeg_ofNat_of_lt h1, if_pos h]
theorem fv_map_get {s : List Nat} {i : Nat} (h : i < s.length) : (s.map (fv_de ρ))[i]? = some (fv_de ρ (fv_nth s i 7)) := by
  rw [List.getElem?_map, fv_nth_eq, List.getD_eq_getElem?_getD, List.getElem?_eq_getElem h]
  rfl
theorem fv_map_set {s : List Nat} {i v : Nat} : (s.map (fv_de ρ)).set i (fv_de ρ v) = (fv_set s i v).map (fv_de ρ) := by
  rw [fv_set_eq, List.map_set]
end FVV
end
section
variable {sc : List Int32}
/-! THE QUICK MACHINE: each instruction does what the abstract machine's does -/
def fv_snd (sc : List Int32) (ρ : Nat → Int32) (a : Instr) (X : fv_C → fv_C) : Prop := ∀ (K : fv_C) (e : fv_E) (lvN st : List Nat) (n : Nat) (t : fv_T) (iv : fv_Iv) (lv : am_V) (h : am_H), X K e lvN st n t iv = true → fv_iok ρ iv → fv_L ρ lvN lv → fv_rel ρ n t h →
  ∃ (lvN2 st2 : List Nat) (n2 : Nat) (t2 : fv_T) (iv2 : fv_Iv) (lv2 : am_V) (h2 : am_H), K e lvN2 st2 n2 t2 iv2 = true ∧ fv_iok ρ iv2 ∧ fv_L ρ lvN2 lv2 ∧ fv_rel ρ n2 t2 h2 ∧ am_i1 sc a lv (st.map (fv_de ρ)) h = some (lv2, st2.map (fv_de ρ), h2)
section FVI
variable {ρ : Nat → Int32}
theorem fv_p_no {a : Instr} : fv_snd sc ρ a fv_no := by
  intro K e lvN st n t iv lv h hx
  exact absurd hx Bool.false_ne_true
theorem fv_p_push {a : Instr} {v : Nat} (hv : ∀ lv st h, am_i1 sc a lv st h = some (lv, fv_de ρ v :: st, h)) : fv_snd sc ρ a (fv_push v) := by
  intro K e lvN st n t iv lv h hx io hl hr
  simp only [fv_push, fv_f_eq] at hx
  exact ⟨lvN, _, n, t, iv, lv, h, hx, io, hl, hr, hv lv _ h⟩
theorem fv_p_load {a : Instr} {p : Nat → Bool} {i : Nat} (h7 : p 7 = false) (hv : ∀ v lv st h, p v = true → am_ld lv i = some (fv_de ρ v) → am_i1 sc a lv st h = some (lv, fv_de ρ v :: st, h)) : fv_snd sc ρ a (fv_load p i) := by
  intro K e lvN st n t iv lv h hx io hl hr
  simp only [fv_load, fv_f_eq] at hx
  obtain ⟨h1, h2⟩ := fv_iff hx
  rw [fv_nth_eq] at h1 h2
  refine ⟨lvN, _, n, t, iv, lv, h, h2, io, hl, hr, hv _ lv _ h h1 (hl i fun z => ?_)⟩
  rw [z, h7] at h1
  exact absurd h1 Bool.false_ne_true
theorem fv_p_store {a : Instr} {p : Nat → Bool} {i : Nat} (hv : ∀ v lv st h, p v = true → am_i1 sc a lv (fv_de ρ v :: st) h = some (am_s1 lv i (fv_de ρ v), st, h)) : fv_snd sc ρ a (fv_store p i) := by
  intro K e lvN st n t iv lv h hx io hl hr
  simp only [fv_store] at hx
  obtain ⟨v, r, rfl, hy⟩ := fv_u_t hx
  obtain ⟨h1, h2⟩ := fv_iff hy
  exact ⟨_, _, n, t, iv, _, h, h2, io, fv_L_s1 hl, hr, hv v lv _ h h1⟩
theorem fv_p_store2 {a : Instr} {p : Nat → Bool} {i : Nat} (hv : ∀ v lv st h, p v = true → am_i1 sc a lv (fv_de ρ v :: st) h = some (am_s2 lv i (fv_de ρ v), st, h)) : fv_snd sc ρ a (fv_store2 p i) := by
  intro K e lvN st n t iv lv h hx io hl hr
  simp only [fv_store2] at hx
  obtain ⟨v, r, rfl, hy⟩ := fv_u_t hx
  obtain ⟨h1, h2⟩ := fv_iff hy
  exact ⟨_, _, n, t, iv, _, h, h2, io, fv_L_s2 hl, hr, hv v lv _ h h1⟩
/-- what the table says of the unknowns -/
def fv_opc (op : Nat) : Instr := match op with
  | 1 => .imul
  | 2 => .iadd
  | 3 => .iushr
  | 4 => .irem
  | 5 => .lshl
  | 6 => .land
  | _ => .lor
def fv_ts (ρ : Nat → Int32) : Prop := ∀ q ∈ fv_tbl, ∀ (sc : List Int32) (lv : am_V) (r : List Value) (h : am_H), am_i1 sc (fv_opc q.1) lv (fv_de ρ q.2.2.1 :: fv_de ρ q.2.1 :: r) h = some (lv, fv_de ρ q.2.2.2 :: r, h)
theorem fv_p_tbo {op : Nat} (hts : fv_ts ρ) : fv_snd sc ρ (fv_opc op) (fv_tbo op) := by
  intro K e lvN st n t iv lv h hx io hl hr
  simp only [fv_tbo] at hx
  obtain ⟨x, y, q, rfl, h1⟩ := fv_2_t hx
  rcases fv_lk_ok h1 with ⟨r, h2, h3⟩ | h2
  · refine ⟨_, _, n, t, iv, lv, h, h3, io, hl, hr, ?_⟩
    simp only [List.map_cons]
    exact hts _ h2 sc lv _ h
  · exact absurd h2 Bool.false_ne_true
theorem fv_p_iinc {i : Nat} {m : Int} (hts : fv_ts ρ) : fv_snd sc ρ (.iinc i m) (fv_iinc i (fv_ni m)) := by
  intro K e lvN st n t iv lv h hx io hl hr
  simp only [fv_iinc, fv_f_eq, fv_mul_h, fv_mod_h, fv_add_h] at hx
  have hv : ∀ x, am_ld lv i = some (.int x) → am_i1 sc (.iinc i m) lv (st.map (fv_de ρ)) h = some (am_s1 lv i (.int (x + Int32.ofInt m)), st.map (fv_de ρ), h) := fun x hld => by
    show (match am_ld lv i with
      | some (.int x) => some (am_s1 lv i (.int (x + Int32.ofInt m)), st.map (fv_de ρ), h)
      | _ => none) = _
    rw [hld]
  have old : fv_int iv (fv_nth lvN i 7) (fun a => K e (fv_s1 lvN i (8 * ((a + fv_ni m) % 4294967296))) st n t iv) = true → ∃ (lvN2 st2 : List Nat) (n2 : Nat) (t2 : fv_T) (iv2 : fv_Iv) (lv2 : am_V) (h2 : am_H), K e lvN2 st2 n2 t2 iv2 = true ∧ fv_iok ρ iv2 ∧ fv_L ρ lvN2 lv2 ∧ fv_rel ρ n2 t2 h2 ∧ am_i1 sc (.iinc i m) lv (st.map (fv_de ρ)) h = some (lv2, st2.map (fv_de ρ), h2) := fun hx => by
    obtain ⟨a, h1, h2⟩ := fv_int_ok (ρ := ρ) hx io
    rw [fv_nth_eq] at h1
    have hld := hl i fun z => by rw [z] at h1; cases h1
    rw [h1] at hld
    refine ⟨_, _, n, t, iv, _, h, h2, io, fv_L_s1 hl, hr, ?_⟩
    rw [hv _ hld, fv_m0, fv_add32, ← fv_ni_eq]
  rcases fv_ift hx with ⟨h0, h1⟩ | ⟨-, h1⟩
  · rcases fv_lk_ok h1 with ⟨r, h2, h3⟩ | h2
    · have h0 := fv_beq h0
      rw [fv_nth_eq] at h0 h2
      have hld := hl i fun z => by rw [z] at h0; cases h0
      rw [fv_d1 h0] at hld
      have hq := hts _ h2 sc lv [] h
      simp only [fv_d1 h0, fv_m0] at hq
      have hq : some (lv, [Value.int (ρ (lvN.getD i 7 / 8) + Int32.ofNat (fv_ni m))], h) = some (lv, [fv_de ρ r], h) := hq
      have hr2 : fv_de ρ r = .int (ρ (lvN.getD i 7 / 8) + Int32.ofNat (fv_ni m)) := by
        simp only [Option.some.injEq, Prod.mk.injEq, List.cons.injEq, and_true, true_and] at hq
        exact hq.symm
      refine ⟨_, _, n, t, iv, _, h, h3, io, fv_L_s1 hl, hr, ?_⟩
      rw [hv _ hld, hr2, ← fv_ni_eq]
    · exact old h2
  · exact old h1
theorem fv_p_op {a : Instr} {f : Nat → Nat → Nat} {g : Int32 → Int32 → Int32} (hf : ∀ x y, Int32.ofNat (f x y) = g (Int32.ofNat x) (Int32.ofNat y)) (hv : ∀ lv x y r h, am_i1 sc a lv (.int y :: .int x :: r) h = some (lv, .int (g x y) :: r, h)) : fv_snd sc ρ a (fv_op f) := by
  intro K e lvN st n t iv lv h hx io hl hr
  simp only [fv_op, fv_f_eq, fv_mul_h] at hx
  obtain ⟨x, y, q, rfl, h1⟩ := fv_2_t hx
  obtain ⟨x1, hx1, h2⟩ := fv_int_ok (ρ := ρ) h1 io
  obtain ⟨y1, hy1, h3⟩ := fv_int_ok (ρ := ρ) h2 io
  refine ⟨_, _, n, t, iv, lv, h, h3, io, hl, hr, ?_⟩
  simp only [List.map_cons, hx1, hy1, fv_m0, hv, hf]
theorem fv_p_iadd (hts : fv_ts ρ) : fv_snd sc ρ .iadd fv_iadd := by
  intro K e lvN st n t iv lv h hx io hl hr
  simp only [fv_iadd, fv_f_eq, fv_mul_h, fv_mod_h, fv_add_h] at hx
  obtain ⟨x, y, q, rfl, h1⟩ := fv_2_t hx
  have hv : ∀ x y r, am_i1 sc .iadd lv (.int y :: .int x :: r) h = some (lv, .int (x + y) :: r, h) := fun _ _ _ => rfl
  rcases fv_ift h1 with ⟨h0, h1⟩ | ⟨-, h1⟩
  · cases fv_beq h0
    obtain ⟨h2, h3⟩ := fv_iff h1
    obtain ⟨z, hz⟩ := fv_isI_t (ρ := ρ) h2
    refine ⟨_, _, n, t, iv, lv, h, h3, io, hl, hr, ?_⟩
    have h00 : fv_de ρ 0 = .int 0 := rfl
    simp only [List.map_cons, hz, h00, hv, Int32.zero_add]
  · rcases fv_ift h1 with ⟨h0, h1⟩ | ⟨-, h1⟩
    · cases fv_beq h0
      obtain ⟨h2, h3⟩ := fv_iff h1
      obtain ⟨z, hz⟩ := fv_isI_t (ρ := ρ) h2
      refine ⟨_, _, n, t, iv, lv, h, h3, io, hl, hr, ?_⟩
      have h00 : fv_de ρ 0 = .int 0 := rfl
      simp only [List.map_cons, hz, h00, hv, Int32.add_zero]
    have old : fv_int iv x (fun a => fv_int iv y (fun b => K e lvN (8 * ((a + b) % 4294967296) :: q) n t iv)) = true → ∃ (lvN2 st2 : List Nat) (n2 : Nat) (t2 : fv_T) (iv2 : fv_Iv) (lv2 : am_V) (h2 : am_H), K e lvN2 st2 n2 t2 iv2 = true ∧ fv_iok ρ iv2 ∧ fv_L ρ lvN2 lv2 ∧ fv_rel ρ n2 t2 h2 ∧ am_i1 sc .iadd lv ((y :: x :: q).map (fv_de ρ)) h = some (lv2, st2.map (fv_de ρ), h2) := fun h1 => by
      obtain ⟨x1, hx1, h2⟩ := fv_int_ok (ρ := ρ) h1 io
      obtain ⟨y1, hy1, h3⟩ := fv_int_ok (ρ := ρ) h2 io
      refine ⟨_, _, n, t, iv, lv, h, h3, io, hl, hr, ?_⟩
      simp only [List.map_cons, hx1, hy1, fv_m0, hv, fv_add32]
    rcases fv_ift h1 with ⟨h0, h1⟩ | ⟨-, h1⟩
    · rcases fv_lk_ok h1 with ⟨r, h2, h3⟩ | h2
      · refine ⟨_, _, n, t, iv, lv, h, h3, io, hl, hr, ?_⟩
        simp only [List.map_cons]
        exact hts _ h2 sc lv _ h
      · exact old h2
    · exact old h1
theorem fv_p_isub : fv_snd sc ρ .isub fv_isub := by
  intro K e lvN st n t iv lv h hx io hl hr
  simp only [fv_isub, fv_f_eq, fv_mul_h, fv_mod_h, fv_add_h, fv_sub_h] at hx
  obtain ⟨x, y, q, rfl, h1⟩ := fv_2_t hx
  have hv : ∀ x y r, am_i1 sc .isub lv (.int y :: .int x :: r) h = some (lv, .int (x - y) :: r, h) := fun _ _ _ => rfl
  rcases fv_ift h1 with ⟨h0, h1⟩ | ⟨-, h1⟩
  · cases fv_beq h0
    obtain ⟨h2, h3⟩ := fv_iff h1
    obtain ⟨z, hz⟩ := fv_isI_t (ρ := ρ) h2
    refine ⟨_, _, n, t, iv, lv, h, h3, io, hl, hr, ?_⟩
    have h00 : fv_de ρ 0 = .int 0 := rfl
    simp only [List.map_cons, hz, h00, hv, Int32.sub_zero]
  · obtain ⟨x1, hx1, h2⟩ := fv_int_ok (ρ := ρ) h1 io
    obtain ⟨y1, hy1, h3⟩ := fv_int_ok (ρ := ρ) h2 io
    refine ⟨_, _, n, t, iv, lv, h, h3, io, hl, hr, ?_⟩
    simp only [List.map_cons, hx1, hy1, fv_m0, hv, fv_sub32]
theorem fv_p_iand (hρ : ρ 13 = ρ 0 &&& 63) : fv_snd sc ρ .iand fv_iand := by
  intro K e lvN st n t iv lv h hx io hl hr
  simp only [fv_iand, fv_f_eq, fv_mul_h] at hx
  obtain ⟨x, y, q, rfl, h1⟩ := fv_2_t hx
  have hv : ∀ x y r, am_i1 sc .iand lv (.int y :: .int x :: r) h = some (lv, .int (x &&& y) :: r, h) := fun _ _ _ => rfl
  rcases fv_ift h1 with ⟨h0, h1⟩ | ⟨-, h1⟩
  · cases fv_beq h0
    obtain ⟨h2, h3⟩ := fv_iff h1
    cases fv_beq h2
    refine ⟨_, _, n, t, iv, lv, h, h3, io, hl, hr, ?_⟩
    have h1 : fv_de ρ 1 = .int (ρ 0) := rfl
    have h63 : fv_de ρ 504 = .int 63 := rfl
    have h13 : fv_de ρ 105 = .int (ρ 13) := rfl
    simp only [List.map_cons, h1, h63, h13, hv, hρ]
  · obtain ⟨x1, hx1, h2⟩ := fv_int_ok (ρ := ρ) h1 io
    obtain ⟨y1, hy1, h3⟩ := fv_int_ok (ρ := ρ) h2 io
    refine ⟨_, _, n, t, iv, lv, h, h3, io, hl, hr, ?_⟩
    have ha : Int32.ofNat (x1.land y1) = Int32.ofNat x1 &&& Int32.ofNat y1 := fv_and32 x1 y1
    simp only [List.map_cons, hx1, hy1, fv_m0, hv, ha]
theorem fv_p_ishr : fv_snd sc ρ .ishr fv_ishr := by
  intro K e lvN st n t iv lv h hx io hl hr
  simp only [fv_ishr] at hx
  obtain ⟨x, y, q, rfl, h1⟩ := fv_2_t hx
  have hv : ∀ x y r, am_i1 sc .ishr lv (.int y :: .int x :: r) h = some (lv, .int (x >>> (y &&& 31)) :: r, h) := fun _ _ _ => rfl
  obtain ⟨h0, hb⟩ := fv_iff h1
  obtain ⟨h2, h3⟩ := fv_iff hb
  cases fv_beq h0
  obtain ⟨z, hz⟩ := fv_isI_t (ρ := ρ) h2
  refine ⟨_, _, n, t, iv, lv, h, h3, io, hl, hr, ?_⟩
  have h00 : fv_de ρ 0 = .int 0 := rfl
  have h31 : (0 : Int32) &&& 31 = 0 := rfl
  simp only [List.map_cons, hz, h00, hv, h31, Int32.shiftRight_zero]
theorem fv_p_idiv : fv_snd sc ρ .idiv fv_idiv := by
  intro K e lvN st n t iv lv h hx io hl hr
  simp only [fv_idiv, fv_f_eq, fv_mul_h, fv_div_h] at hx
  obtain ⟨x, y, q, rfl, h1⟩ := fv_2_t hx
  obtain ⟨x1, hx1, h2⟩ := fv_int_ok (ρ := ρ) h1 io
  obtain ⟨y1, hy1, h3⟩ := fv_int_ok (ρ := ρ) h2 io
  obtain ⟨h4, h5⟩ := fv_iff h3
  obtain ⟨h6, h7⟩ := fv_iff h5
  obtain ⟨h8, h9⟩ := fv_ifn h7
  have g4 := fv_ltt h4
  have g6 := fv_ltt h6
  have g8 := fv_bne h8
  have hne : ¬ Int32.ofNat y1 = 0 := fun z => by
    have z2 := fv_of_inj.2 z
    rw [fv_of_nat] at z2
    have z3 : fv_of 0 = 2147483648 := rfl
    omega
  refine ⟨_, _, n, t, iv, lv, h, h9, io, hl, hr, ?_⟩
  simp only [List.map_cons, hx1, hy1, fv_m0]
  show (if Int32.ofNat y1 = 0 then none else some (lv, .int (Int32.ofNat x1 / Int32.ofNat y1) :: q.map (fv_de ρ), h)) = _
  rw [if_neg hne, Int32.ofNat_div (by omega) (by omega)]
theorem fv_p_lop {a : Instr} {f : Nat → Nat → Nat} {g : Int64 → Int64 → Int64} (hf : ∀ x y, Int64.ofNat (f x y) = g (Int64.ofNat x) (Int64.ofNat y)) (hv : ∀ lv x y r h, am_i1 sc a lv (.long y :: .long x :: r) h = some (lv, .long (g x y) :: r, h)) : fv_snd sc ρ a (fv_lop f) := by
  intro K e lvN st n t iv lv h hx io hl hr
  simp only [fv_lop, fv_f_eq, fv_mul_h, fv_add_h] at hx
  obtain ⟨x, y, q, rfl, h1⟩ := fv_2_t hx
  obtain ⟨hx1, -, h2⟩ := fv_lng_ok (ρ := ρ) h1
  obtain ⟨hy1, -, h3⟩ := fv_lng_ok (ρ := ρ) h2
  refine ⟨_, _, n, t, iv, lv, h, h3, io, hl, hr, ?_⟩
  simp only [List.map_cons, hx1, hy1, fv_m5, hv, hf]
theorem fv_p_land (hts : fv_ts ρ) : fv_snd sc ρ .land fv_land := by
  intro K e lvN st n t iv lv h hx io hl hr
  simp only [fv_land, fv_f_eq, fv_mul_h, fv_add_h] at hx
  obtain ⟨x, y, q, rfl, h1⟩ := fv_2_t hx
  have hv : ∀ x y r, am_i1 sc .land lv (.long y :: .long x :: r) h = some (lv, .long (x &&& y) :: r, h) := fun _ _ _ => rfl
  rcases fv_ift h1 with ⟨-, h1⟩ | ⟨-, h1⟩
  · obtain ⟨hx1, -, h2⟩ := fv_lng_ok (ρ := ρ) h1
    obtain ⟨hy1, -, h3⟩ := fv_lng_ok (ρ := ρ) h2
    refine ⟨_, _, n, t, iv, lv, h, h3, io, hl, hr, ?_⟩
    have ha : Int64.ofNat ((x / 8).land (y / 8)) = Int64.ofNat (x / 8) &&& Int64.ofNat (y / 8) := fv_and64 _ _
    simp only [List.map_cons, hx1, hy1, fv_m5, hv, ha]
  · rcases fv_lk_ok h1 with ⟨r, h2, h3⟩ | h2
    · refine ⟨_, _, n, t, iv, lv, h, h3, io, hl, hr, ?_⟩
      simp only [List.map_cons]
      exact hts _ h2 sc lv _ h
    · exact absurd h2 Bool.false_ne_true
theorem fv_p_ladd : fv_snd sc ρ .ladd fv_ladd := by
  intro K e lvN st n t iv lv h hx io hl hr
  simp only [fv_ladd, fv_f_eq, fv_mul_h, fv_mod_h, fv_add_h] at hx
  obtain ⟨x, y, q, rfl, h1⟩ := fv_2_t hx
  have hv : ∀ x y r, am_i1 sc .ladd lv (.long y :: .long x :: r) h = some (lv, .long (x + y) :: r, h) := fun _ _ _ => rfl
  have h00 : fv_de ρ 5 = .long 0 := rfl
  rcases fv_ift h1 with ⟨h0, h1⟩ | ⟨-, h1⟩
  · cases fv_beq h0
    obtain ⟨h2, h3⟩ := fv_iff h1
    obtain ⟨z, hz⟩ := fv_isJ_t (ρ := ρ) h2
    refine ⟨_, _, n, t, iv, lv, h, h3, io, hl, hr, ?_⟩
    simp only [List.map_cons, hz, h00, hv, Int64.zero_add]
  · rcases fv_ift h1 with ⟨h0, h1⟩ | ⟨-, h1⟩
    · cases fv_beq h0
      obtain ⟨h2, h3⟩ := fv_iff h1
      obtain ⟨z, hz⟩ := fv_isJ_t (ρ := ρ) h2
      refine ⟨_, _, n, t, iv, lv, h, h3, io, hl, hr, ?_⟩
      simp only [List.map_cons, hz, h00, hv, Int64.add_zero]
    · obtain ⟨hx1, -, h2⟩ := fv_lng_ok (ρ := ρ) h1
      obtain ⟨hy1, -, h3⟩ := fv_lng_ok (ρ := ρ) h2
      refine ⟨_, _, n, t, iv, lv, h, h3, io, hl, hr, ?_⟩
      simp only [List.map_cons, hx1, hy1, fv_m5, hv, fv_add64]
theorem fv_p_lushr : fv_snd sc ρ .lushr fv_lushr := by
  intro K e lvN st n t iv lv h hx io hl hr
  simp only [fv_lushr] at hx
  obtain ⟨x, y, q, rfl, h1⟩ := fv_2_t hx
  have hv : ∀ x y r, am_i1 sc .lushr lv (.int y :: .long x :: r) h = some (lv, .long (x.toUInt64 >>> (y.toInt64.toUInt64 &&& Int64.toUInt64 63)).toInt64 :: r, h) := fun _ _ _ => rfl
  obtain ⟨h0, hb⟩ := fv_iff h1
  obtain ⟨h2, h3⟩ := fv_iff hb
  cases fv_beq h0
  obtain ⟨z, hz⟩ := fv_isI_t (ρ := ρ) h2
  refine ⟨_, _, n, t, iv, lv, h, h3, io, hl, hr, ?_⟩
  have h00 : fv_de ρ 5 = .long 0 := rfl
  have hz2 : ((0 : Int64).toUInt64 >>> (z.toInt64.toUInt64 &&& Int64.toUInt64 63)).toInt64 = 0 := by
    rw [show (0 : Int64).toUInt64 = 0 from rfl, UInt64.zero_shiftRight]
    rfl
  simp only [List.map_cons, hz, h00, hv, hz2]
theorem fv_sx1 {a : Nat} (h : a % 4294967296 < 2147483648) : (Int32.ofNat a).toInt64 = Int64.ofNat (a % 4294967296) := by
  rw [← fv_m32 a, Int32.toInt64_ofNat' (by show ((a % 4294967296 : Nat) : Int) ≤ 2147483647; omega)]
theorem fv_sx2 {a : Nat} (h : 2147483648 ≤ a % 4294967296) : (Int32.ofNat a).toInt64 = Int64.ofNat (a % 4294967296 + 18446744069414584320) := by
  apply Int64.toInt_inj.1
  rw [Int32.toInt_toInt64, Int32.toInt_ofNat', Int64.toInt_ofNat']
  have h1 : (a : Int).bmod Int32.size = (a : Int).bmod 4294967296 := rfl
  have h2 : ((a % 4294967296 + 18446744069414584320 : Nat) : Int).bmod Int64.size = ((a % 4294967296 + 18446744069414584320 : Nat) : Int).bmod 18446744073709551616 := rfl
  rw [h1, h2, Int.bmod_def, Int.bmod_def]
  split <;> split <;> omega
theorem fv_p_i2l : fv_snd sc ρ .i2l fv_i2l := by
  intro K e lvN st n t iv lv h hx io hl hr
  simp only [fv_i2l, fv_f_eq, fv_mul_h, fv_mod_h, fv_add_h, fv_div_h] at hx
  obtain ⟨x, q, rfl, h1⟩ := fv_u_t hx
  have hv : ∀ x r, am_i1 sc .i2l lv (.int x :: r) h = some (lv, .long x.toInt64 :: r, h) := fun _ _ => rfl
  rcases fv_ift h1 with ⟨h0, h1⟩ | ⟨-, h1⟩
  · have h0 := fv_beq h0
    rcases fv_ift h1 with ⟨h2, h3⟩ | ⟨h2, h3⟩
    · refine ⟨_, _, n, t, iv, lv, h, h3, io, hl, hr, ?_⟩
      simp only [List.map_cons, fv_d0 h0, hv, fv_m5, fv_sx1 (fv_ltt h2)]
    · refine ⟨_, _, n, t, iv, lv, h, h3, io, hl, hr, ?_⟩
      simp only [List.map_cons, fv_d0 h0, hv, fv_m5, fv_sx2 (fv_ltf h2)]
  · obtain ⟨h0, h3⟩ := fv_iff h1
    have h0 := fv_beq h0
    refine ⟨_, _, n, t, iv, lv, h, h3, io, hl, hr, ?_⟩
    simp only [List.map_cons, fv_d1 h0, hv, fv_d6 (show (x + 5) % 8 = 6 by omega), show (x + 5) / 8 = x / 8 by omega]
theorem fv_p_l2i : fv_snd sc ρ .l2i fv_l2i := by
  intro K e lvN st n t iv lv h hx io hl hr
  simp only [fv_l2i, fv_f_eq, fv_mul_h, fv_mod_h, fv_sub_h, fv_div_h] at hx
  obtain ⟨x, q, rfl, h1⟩ := fv_u_t hx
  have hv : ∀ x r, am_i1 sc .l2i lv (.long x :: r) h = some (lv, .int x.toInt32 :: r, h) := fun _ _ => rfl
  rcases fv_ift h1 with ⟨h0, h3⟩ | ⟨-, h1⟩
  · have h0 := fv_beq h0
    refine ⟨_, _, n, t, iv, lv, h, h3, io, hl, hr, ?_⟩
    simp only [List.map_cons, fv_d5 h0, hv, fv_m0, fv_m32, Int64.toInt32_ofNat']
  · obtain ⟨h0, h3⟩ := fv_iff h1
    have h0 := fv_beq h0
    refine ⟨_, _, n, t, iv, lv, h, h3, io, hl, hr, ?_⟩
    simp only [List.map_cons, fv_d6 h0, hv, fv_d1 (show (x - 5) % 8 = 1 by omega), show (x - 5) / 8 = x / 8 by omega, Int32.toInt32_toInt64]
theorem fv_p_i2c : fv_snd sc ρ .i2c fv_i2c := by
  intro K e lvN st n t iv lv h hx io hl hr
  simp only [fv_i2c, fv_f_eq, fv_mul_h, fv_mod_h] at hx
  obtain ⟨x, q, rfl, h1⟩ := fv_u_t hx
  obtain ⟨a, h2, h3⟩ := fv_int_ok (ρ := ρ) h1 io
  refine ⟨_, _, n, t, iv, lv, h, h3, io, hl, hr, ?_⟩
  have hv : ∀ x r, am_i1 sc .i2c lv (.int x :: r) h = some (lv, .int (x.toUInt32 % 65536).toInt32 :: r, h) := fun _ _ => rfl
  have ha : ((Int32.ofNat a).toUInt32 % 65536).toInt32 = Int32.ofNat (a % 65536) := by
    have e : (UInt32.ofNat a % 65536) = UInt32.ofNat (a % 65536) := by
      apply UInt32.toNat_inj.1
      rw [UInt32.toNat_mod, UInt32.toNat_ofNat', UInt32.toNat_ofNat']
      show a % 4294967296 % 65536 = a % 65536 % 4294967296
      omega
    show (UInt32.ofNat a % 65536).toInt32 = _
    rw [e]
    rfl
  simp only [List.map_cons, h2, hv, fv_m0, ha]
theorem fv_p_dup : fv_snd sc ρ .dup fv_dup := by
  intro K e lvN st n t iv lv h hx io hl hr
  simp only [fv_dup] at hx
  obtain ⟨v, r, rfl, h1⟩ := fv_u_t hx
  obtain ⟨h2, h3⟩ := fv_iff h1
  refine ⟨_, _, n, t, iv, lv, h, h3, io, hl, hr, ?_⟩
  show (if (fv_de ρ v).category = 1 then _ else none) = _
  rw [if_pos (fv_c1_t h2)]
  rfl
theorem fv_p_pop : fv_snd sc ρ .pop fv_pop := by
  intro K e lvN st n t iv lv h hx io hl hr
  simp only [fv_pop] at hx
  obtain ⟨v, r, rfl, h1⟩ := fv_u_t hx
  obtain ⟨h2, h3⟩ := fv_iff h1
  refine ⟨_, _, n, t, iv, lv, h, h3, io, hl, hr, ?_⟩
  show (if (fv_de ρ v).category = 1 then _ else none) = _
  rw [if_pos (fv_c1_t h2)]
theorem fv_p_dupx : fv_snd sc ρ .dup_x1 fv_dupx := by
  intro K e lvN st n t iv lv h hx io hl hr
  simp only [fv_dupx] at hx
  obtain ⟨w, v, r, rfl, h1⟩ := fv_2_t hx
  obtain ⟨h2, h3⟩ := fv_iff h1
  obtain ⟨h4, h5⟩ := fv_iff h3
  refine ⟨_, _, n, t, iv, lv, h, h5, io, hl, hr, ?_⟩
  show (if (fv_de ρ v).category = 1 ∧ (fv_de ρ w).category = 1 then _ else none) = _
  rw [if_pos ⟨fv_c1_t h2, fv_c1_t h4⟩]
  rfl
end FVI
end
section
variable {sc : List Int32}
/-! THE QUICK MACHINE: comparisons of longs, fields, rows, new things -/
section FVH
variable {ρ : Nat → Int32}
theorem fv_cmp_lt {x y : Int64} (h : x.toInt < y.toInt) : lg_cmp x y = -1 := by
  unfold lg_cmp
  rw [if_neg (fun z => by have := Int64.lt_iff_toInt_lt.mp z; omega), if_neg (fun z => by subst z; omega)]
theorem fv_cmp_eq {x y : Int64} (h : x.toInt = y.toInt) : lg_cmp x y = 0 := by
  have := Int64.toInt_inj.mp h
  subst this
  unfold lg_cmp
  rw [if_neg (fun z => by have := Int64.lt_iff_toInt_lt.mp z; omega), if_pos rfl]
theorem fv_cmp_gt {x y : Int64} (h : y.toInt < x.toInt) : lg_cmp x y = 1 := by
  unfold lg_cmp
  rw [if_pos (Int64.lt_iff_toInt_lt.mpr h)]
theorem fv_jsg_eq (a : Nat) : ((fv_jsg a : Nat) : Int) = (Int64.ofNat a).toInt + 9223372036854775808 := by
  unfold fv_jsg
  rw [fv_mod_h, fv_add_h, Int64.toInt_ofNat']
  have h2 : (a : Int).bmod Int64.size = (a : Int).bmod 18446744073709551616 := rfl
  rw [h2, Int.bmod_def]
  split <;> omega
theorem fv_jo_ok {v : Nat} {k : Nat → Bool} (h : fv_jo v k = true) : fv_de ρ v = .long (Int64.ofNat (v / 8)) ∧ ∃ c, ((c : Nat) : Int) = (Int64.ofNat (v / 8)).toInt + 2147483648 ∧ k c = true := by
  unfold fv_jo at h
  simp only [fv_f_eq, fv_mod_h, fv_add_h] at h
  obtain ⟨h1, -, h2⟩ := fv_lng_ok (ρ := ρ) h
  obtain ⟨h3, h4⟩ := fv_iff h2
  have h3 := fv_ltt h3
  refine ⟨h1, _, ?_, h4⟩
  rw [Int64.toInt_ofNat']
  have h2 : ((v / 8 : Nat) : Int).bmod Int64.size = ((v / 8 : Nat) : Int).bmod 18446744073709551616 := rfl
  rw [h2, Int.bmod_def]
  split <;> omega
theorem fv_p_lcmp : fv_snd sc ρ .lcmp fv_lcmp := by
  intro K e lvN st n t iv lv h hx io hl hr
  simp only [fv_lcmp, fv_mod_h, fv_div_h] at hx
  obtain ⟨x, y, q, rfl, h1⟩ := fv_2_t hx
  have hv : ∀ x y r, am_i1 sc .lcmp lv (.long y :: .long x :: r) h = some (lv, .int (lg_cmp x y) :: r, h) := fun _ _ _ => rfl
  have c0 : fv_de ρ 34359738360 = .int (-1) := rfl
  have c1 : fv_de ρ 0 = .int 0 := rfl
  have c2 : fv_de ρ 8 = .int 1 := rfl
  rcases fv_ift h1 with ⟨h0, k1⟩ | ⟨-, h1⟩
  · cases fv_beq h0
    obtain ⟨h2, h3⟩ := fv_iff k1
    obtain ⟨z, hz⟩ := fv_isJ_t (ρ := ρ) h2
    refine ⟨_, _, n, t, iv, lv, h, h3, io, hl, hr, ?_⟩
    simp only [List.map_cons, hz, hv, c1, fv_cmp_eq (x := z) (y := z) rfl]
  rcases fv_ift h1 with ⟨hx1, h2⟩ | ⟨-, h2⟩
  · have hx1 := fv_beq hx1
    rcases fv_ift h2 with ⟨hy1, h3⟩ | ⟨-, h3⟩
    · have hy1 := fv_beq hy1
      have ex := fv_jsg_eq (x / 8)
      have ey := fv_jsg_eq (y / 8)
      rcases fv_ift h3 with ⟨h4, h5⟩ | ⟨h4, h5⟩
      · have h4 := fv_ltt h4
        refine ⟨_, _, n, t, iv, lv, h, h5, io, hl, hr, ?_⟩
        simp only [List.map_cons, fv_d5 hx1, fv_d5 hy1, hv, c0, fv_cmp_lt (x := Int64.ofNat (x / 8)) (y := Int64.ofNat (y / 8)) (by omega)]
      · have h4 := fv_ltf h4
        rcases fv_ift h5 with ⟨h6, h7⟩ | ⟨h6, h7⟩
        · have h6 := fv_beq h6
          refine ⟨_, _, n, t, iv, lv, h, h7, io, hl, hr, ?_⟩
          simp only [List.map_cons, fv_d5 hx1, fv_d5 hy1, hv, c1, fv_cmp_eq (x := Int64.ofNat (x / 8)) (y := Int64.ofNat (y / 8)) (by omega)]
        · have h6 := fv_bne h6
          refine ⟨_, _, n, t, iv, lv, h, h7, io, hl, hr, ?_⟩
          simp only [List.map_cons, fv_d5 hx1, fv_d5 hy1, hv, c2, fv_cmp_gt (x := Int64.ofNat (x / 8)) (y := Int64.ofNat (y / 8)) (by omega)]
    · obtain ⟨hy1, h4⟩ := fv_iff h3
      have hy1 := fv_beq hy1
      obtain ⟨ex, c, hc, h5⟩ := fv_jo_ok (ρ := ρ) h4
      have hu := fv_of_i (ρ (y / 8))
      have ht := Int32.toInt_toInt64 (ρ (y / 8))
      rcases fv_ltk_ok h5 io with ⟨h6, iv2, io2, h7⟩ | ⟨h6, iv2, io2, h7⟩
      · refine ⟨_, _, n, t, iv2, lv, h, h7, io2, hl, hr, ?_⟩
        simp only [List.map_cons, ex, fv_d6 hy1, hv, c2, fv_cmp_gt (x := Int64.ofNat (x / 8)) (y := (ρ (y / 8)).toInt64) (by omega)]
      · rcases fv_eqk_ok h7 io2 with ⟨h8, iv3, io3, h9⟩ | ⟨h8, iv3, io3, h9⟩
        · refine ⟨_, _, n, t, iv3, lv, h, h9, io3, hl, hr, ?_⟩
          simp only [List.map_cons, ex, fv_d6 hy1, hv, c1, fv_cmp_eq (x := Int64.ofNat (x / 8)) (y := (ρ (y / 8)).toInt64) (by omega)]
        · refine ⟨_, _, n, t, iv3, lv, h, h9, io3, hl, hr, ?_⟩
          simp only [List.map_cons, ex, fv_d6 hy1, hv, c0, fv_cmp_lt (x := Int64.ofNat (x / 8)) (y := (ρ (y / 8)).toInt64) (by omega)]
  · obtain ⟨hx1, h3⟩ := fv_iff h2
    have hx1 := fv_beq hx1
    obtain ⟨ey, c, hc, h5⟩ := fv_jo_ok (ρ := ρ) h3
    have hu := fv_of_i (ρ (x / 8))
    have ht := Int32.toInt_toInt64 (ρ (x / 8))
    rcases fv_ltk_ok h5 io with ⟨h6, iv2, io2, h7⟩ | ⟨h6, iv2, io2, h7⟩
    · refine ⟨_, _, n, t, iv2, lv, h, h7, io2, hl, hr, ?_⟩
      simp only [List.map_cons, ey, fv_d6 hx1, hv, c0, fv_cmp_lt (x := (ρ (x / 8)).toInt64) (y := Int64.ofNat (y / 8)) (by omega)]
    · rcases fv_eqk_ok h7 io2 with ⟨h8, iv3, io3, h9⟩ | ⟨h8, iv3, io3, h9⟩
      · refine ⟨_, _, n, t, iv3, lv, h, h9, io3, hl, hr, ?_⟩
        simp only [List.map_cons, ey, fv_d6 hx1, hv, c1, fv_cmp_eq (x := (ρ (x / 8)).toInt64) (y := Int64.ofNat (y / 8)) (by omega)]
      · refine ⟨_, _, n, t, iv3, lv, h, h9, io3, hl, hr, ?_⟩
        simp only [List.map_cons, ey, fv_d6 hx1, hv, c2, fv_cmp_gt (x := (ρ (x / 8)).toInt64) (y := Int64.ofNat (y / 8)) (by omega)]
theorem fv_p_jsr {k : Int} : fv_snd sc ρ (.jsr k) (fv_jsr (Int.natAbs k)) := by
  intro K e lvN st n t iv lv h hx io hl hr
  simp only [fv_jsr, fv_f_eq, fv_mul_h] at hx
  obtain ⟨x, y, q, rfl, h1⟩ := fv_2_t hx
  obtain ⟨a, ha, h2⟩ := fv_int_ok (ρ := ρ) h1 io
  obtain ⟨b, hb, h3⟩ := fv_int_ok (ρ := ρ) h2 io
  obtain ⟨h4, h5⟩ := fv_iff h3
  obtain ⟨h6, h7⟩ := fv_iff h5
  obtain ⟨h8, h9⟩ := fv_iff h7
  have h4 := fv_ltt h4
  have h6 := fv_ltt h6
  have hlt : ∀ {a b : Nat}, a < 2147483648 → b < 2147483648 → (Int32.ofNat a < Int32.ofNat b ↔ a < b) := fun {a b} ha hb => by
    rw [← fv_of_lt_iff, fv_of_nat, fv_of_nat]
    omega
  refine ⟨_, _, n, t, iv, lv, h, h9, io, hl, hr, ?_⟩
  simp only [List.map_cons, ha, hb, fv_m0]
  show (if am_cs (q.map (fv_de ρ)) ≤ 8 then some (lv, Value.int (if k = 0 then (if Int32.ofNat b < Int32.ofNat a then Int32.ofNat b else Int32.ofNat a) else (if Int32.ofNat a < Int32.ofNat b then Int32.ofNat b else Int32.ofNat a)) :: q.map (fv_de ρ), h) else none) = _
  rw [if_pos (fv_cl_t h8)]
  by_cases hk : k = 0
  · subst hk
    rw [if_pos rfl]
    have e : @Nat.rec (fun _ => Nat) (fv_min a b) (fun _ _ => fv_max a b) (Int.natAbs 0) = min a b := fv_min_eq a b
    rw [e]
    by_cases hab : b < a
    · rw [if_pos ((hlt h6 h4).mpr hab), show min a b = b by omega]
    · rw [if_neg (fun z => hab ((hlt h6 h4).mp z)), show min a b = a by omega]
  · rw [if_neg hk]
    obtain ⟨m, hm⟩ : ∃ m, Int.natAbs k = m + 1 := ⟨Int.natAbs k - 1, by omega⟩
    rw [hm]
    have e : @Nat.rec (fun _ => Nat) (fv_min a b) (fun _ _ => fv_max a b) (m + 1) = max a b := fv_max_eq a b
    rw [e]
    by_cases hab : a < b
    · rw [if_pos ((hlt h4 h6).mpr hab), show max a b = b by omega]
    · rw [if_neg (fun z => hab ((hlt h4 h6).mp z)), show max a b = a by omega]
theorem fv_p_get {f : Nat} (h3 : 384 ≤ f) (h4 : f < 12800) : fv_snd sc ρ (.getfield f) (fv_get f) := by
  intro K e lvN st n t iv lv h hx io hl hr
  simp only [fv_get, fv_f_eq, fv_mod_h, fv_div_h] at hx
  obtain ⟨v, r, rfl, h1⟩ := fv_u_t hx
  obtain ⟨hv, -, h2⟩ := fv_ref_ok (ρ := ρ) h1
  obtain ⟨c, z, s, h5, h6⟩ := fv_o_ok hr h2
  obtain ⟨h7, h8⟩ := fv_iff h5
  obtain ⟨h9, h10⟩ := fv_iff h8
  have h7 := fv_beq h7
  rcases h6 with h6 | ⟨h6, h11, -⟩
  · omega
  · subst h6 h7
    refine ⟨_, _, n, t, iv, lv, h, h10, io, hl, hr, ?_⟩
    show am_st lv h (am_get f h (fv_de ρ v :: r.map (fv_de ρ))) = _
    rw [hv]
    unfold am_get
    simp only [h11]
    rw [if_pos ⟨by omega, trivial⟩]
    simp only [fv_map_get (fv_ltt h9)]
    rfl
theorem fv_txt_len : am_txt.length = 103 := by decide +kernel
theorem fv_p_getx {f : Nat} : fv_snd sc ρ (.getfield f) (fv_getx f) := by
  intro K e lvN st n t iv lv h hx io hl hr
  simp only [fv_getx, fv_f_eq, fv_mod_h, fv_div_h, fv_add_h] at hx
  obtain ⟨v, r, rfl, h1⟩ := fv_u_t hx
  obtain ⟨h2, h3⟩ := fv_iff h1
  obtain ⟨h4, h5⟩ := fv_iff h3
  have h2 := fv_beq h2
  have h4 := fv_ltt h4
  have hlt : v / 8 < am_txt.length := by rw [fv_txt_len]; exact h4
  rcases fv_ift h5 with ⟨h6, h7⟩ | ⟨h6, h7⟩
  · cases fv_beq h6
    refine ⟨_, _, n, t, iv, lv, h, h7, io, hl, hr, ?_⟩
    show am_st lv h (am_get 0 h (fv_de ρ v :: r.map (fv_de ρ))) = _
    rw [fv_d3 h2]
    unfold am_get
    simp only
    rw [if_pos ⟨by decide, hlt⟩]
    show some (lv, Value.retAddr (3000 + v / 8) :: r.map (fv_de ρ), h) = some (lv, fv_de ρ (v + 24000) :: r.map (fv_de ρ), h)
    rw [fv_d3 (show (v + 24000) % 8 = 3 by omega), show (v + 24000) / 8 = 3000 + v / 8 by omega]
  · obtain ⟨h8, h9⟩ := fv_iff h7
    cases fv_beq h8
    refine ⟨_, _, n, t, iv, lv, h, h9, io, hl, hr, ?_⟩
    show am_st lv h (am_get 1 h (fv_de ρ v :: r.map (fv_de ρ))) = _
    rw [fv_d3 h2]
    unfold am_get
    simp only
    rw [if_pos ⟨by decide, hlt⟩]
    rfl
theorem fv_b01_t {v : Nat} (h : fv_b01 v = true) : ∃ x, fv_de ρ v = .int x ∧ (x = 0 ∨ x = 1) := by
  rcases fv_ift h with ⟨h, -⟩ | ⟨-, h⟩
  · cases fv_beq h
    exact ⟨0, rfl, Or.inl rfl⟩
  · cases fv_beq h
    exact ⟨1, rfl, Or.inr rfl⟩
theorem fv_okR {ty : FieldType} {v : Nat} (ht : (∃ c, ty = .object c) ∨ ∃ c, ty = .array c) (h : fv_isR v = true) : am_ok ty (fv_de ρ v) = true := by
  have h1 := fv_isR_t (ρ := ρ) h
  rcases ht with ⟨c, rfl⟩ | ⟨c, rfl⟩ <;> (revert h1; cases fv_de ρ v <;> simp [am_isR, am_ok])
theorem fv_vt_ok {f v : Nat} (h : fv_vt (fv_tc f) v = true) : am_ok (am_fty (f / 128) (f % 128)) (fv_de ρ v) = true := by
  unfold fv_tc at h
  revert h
  generalize am_fty (f / 128) (f % 128) = ty
  intro h
  cases ty with
  | int => obtain ⟨x, hx⟩ := fv_isI_t (ρ := ρ) h; rw [hx]; rfl
  | long => obtain ⟨x, hx⟩ := fv_isJ_t (ρ := ρ) h; rw [hx]; rfl
  | object c => exact fv_okR (Or.inl ⟨c, rfl⟩) h
  | array c => exact fv_okR (Or.inr ⟨c, rfl⟩) h
  | boolean =>
    obtain ⟨x, hx, h01⟩ := fv_b01_t (ρ := ρ) h
    rw [hx]
    rcases h01 with rfl | rfl <;> rfl
  | byte => exact absurd h Bool.false_ne_true
  | char => exact absurd h Bool.false_ne_true
  | double => exact absurd h Bool.false_ne_true
  | float => exact absurd h Bool.false_ne_true
  | short => exact absurd h Bool.false_ne_true
theorem fv_p_put {f : Nat} (h4 : f < 12800) : fv_snd sc ρ (.putfield f) (fv_put f) := by
  intro K e lvN st n t iv lv h hx io hl hr
  simp only [fv_put, fv_mod_h, fv_div_h] at hx
  obtain ⟨x, v, r, rfl, h1⟩ := fv_2_t hx
  obtain ⟨hv, -, h2⟩ := fv_ref_ok (ρ := ρ) h1
  obtain ⟨c, z, s, h5, h6⟩ := fv_o_ok hr h2
  obtain ⟨h7, h8⟩ := fv_iff h5
  obtain ⟨h9, h10⟩ := fv_iff h8
  obtain ⟨h12, h13⟩ := fv_iff h10
  have h7 := fv_beq h7
  rcases h6 with h6 | ⟨h6, h11, hz⟩
  · omega
  · subst h6 h7
    have hob : fv_ob ρ (f / 128, s.length, fv_set s (f % 128) v) (f / 128, (s.map (fv_de ρ)).set (f % 128) (fv_de ρ v)) := ⟨rfl, by rw [fv_set_eq, List.length_set], fv_map_set, hz⟩
    refine ⟨_, _, n, _, iv, lv, _, h13, io, hl, fv_rel_set hr h11 hob (by simp), ?_⟩
    show am_sh lv (am_put f h (fv_de ρ v :: fv_de ρ x :: r.map (fv_de ρ))) = _
    rw [hv]
    unfold am_put
    simp only [h11]
    rw [if_pos ⟨trivial, by rw [List.length_map]; exact fv_ltt h9, fv_vt_ok h12⟩]
    rfl
theorem fv_p_ald {a : Instr} {p : Nat → Bool} {k : Nat → Bool} (h199 : p 199 = false) (hpk : ∀ c, p c = true → k c = true) (hv : ∀ lv i x r h, am_i1 sc a lv (.int i :: .ref x :: r) h = am_st lv h (am_gld k h (.int i :: .ref x :: r))) : fv_snd sc ρ a (fv_ald p) := by
  intro K e lvN st n t iv lv h hx io hl hr
  simp only [fv_ald, fv_f_eq] at hx
  obtain ⟨x, y, r, rfl, h1⟩ := fv_2_t hx
  obtain ⟨i, hi, h2⟩ := fv_int_ok (ρ := ρ) h1 io
  obtain ⟨hx1, -, h3⟩ := fv_ref_ok (ρ := ρ) h2
  obtain ⟨c, z, s, h5, h6⟩ := fv_o_ok hr h3
  obtain ⟨h7, h8⟩ := fv_iff h5
  obtain ⟨h9, h10⟩ := fv_iff h8
  have h9 := fv_ltt h9
  rcases h6 with h6 | ⟨h6, h11, hz⟩
  · subst h6
    rw [h199] at h7
    exact absurd h7 Bool.false_ne_true
  · subst h6
    refine ⟨_, _, n, t, iv, lv, h, h10, io, hl, hr, ?_⟩
    simp only [List.map_cons, hi, hx1, hv]
    unfold am_gld
    simp only [h11]
    rw [if_pos (hpk _ h7), List.length_map, fv_ix h9 hz]
    simp only [fv_map_get h9]
    rfl
theorem fv_p_iald (hsc : sc.length ≤ 13) (hρ : ∀ j, j < 13 → ρ j = sc.getD j 0) (hρ2 : ρ 15 = Int32.ofNat sc.length) : fv_snd sc ρ .iaload fv_iald := by
  intro K e lvN st n t iv lv h hx io hl hr
  simp only [fv_iald, fv_f_eq, fv_mul_h, fv_add_h] at hx
  obtain ⟨x, y, r, rfl, h1⟩ := fv_2_t hx
  obtain ⟨i, hi, h2⟩ := fv_int_ok (ρ := ρ) h1 io
  rcases fv_ift h2 with ⟨h3, h4⟩ | ⟨-, h4⟩
  · cases fv_beq h3
    obtain ⟨h5, h6⟩ := fv_iff h4
    have h5 := fv_ltt h5
    unfold fv_sc at h6
    obtain ⟨h7, h6⟩ := fv_iff h6
    rw [fv_nth_eq] at h7
    have h7 := fv_ble h7
    rw [fv_add_h] at h7
    have hu := io 15
    rw [hρ2, fv_of_nat] at hu
    have hil : i < sc.length := by omega
    refine ⟨_, _, n, t, iv, lv, h, h6, io, hl, hr, ?_⟩
    have hs : fv_de ρ 16003 = .retAddr 2000 := rfl
    simp only [List.map_cons, hi, hs, fv_m1]
    show am_st lv h (match am_ix (Int32.ofNat i) sc.length with
      | some j => some (.int (sc.getD j 0) :: r.map (fv_de ρ))
      | none => none) = _
    rw [fv_ix hil (by omega), hρ i h5]
    rfl
  · obtain ⟨hx1, -, h3⟩ := fv_ref_ok (ρ := ρ) h4
    obtain ⟨c, z, s, h5, h6⟩ := fv_o_ok hr h3
    obtain ⟨h7, h8⟩ := fv_iff h5
    obtain ⟨h9, h10⟩ := fv_iff h8
    have h9 := fv_ltt h9
    have h7 := fv_beq h7
    rcases h6 with h6 | ⟨h6, h11, hz⟩
    · omega
    · subst h6 h7
      refine ⟨_, _, n, t, iv, lv, h, h10, io, hl, hr, ?_⟩
      simp only [List.map_cons, hi, hx1]
      show am_st lv h (am_gld (fun k => k == 100) h (.int (Int32.ofNat i) :: .ref (x / 8) :: r.map (fv_de ρ))) = _
      unfold am_gld
      simp only [h11]
      rw [if_pos (by decide), List.length_map, fv_ix h9 hz]
      simp only [fv_map_get h9]
      rfl
theorem fv_gdi {l : List Nat} {i a b : Nat} (h : i < l.length) : l.getD i a = l.getD i b := by
  rw [List.getD_eq_getElem?_getD, List.getD_eq_getElem?_getD, List.getElem?_eq_getElem h]
  rfl
theorem fv_p_bald : fv_snd sc ρ .baload fv_bald := by
  intro K e lvN st n t iv lv h hx io hl hr
  simp only [fv_bald, fv_f_eq, fv_mul_h, fv_sub_h, fv_div_h, fv_mod_h] at hx
  obtain ⟨x, y, r, rfl, h1⟩ := fv_2_t hx
  obtain ⟨i, hi, h2⟩ := fv_int_ok (ρ := ρ) h1 io
  rcases fv_ift h2 with ⟨h3, h4⟩ | ⟨-, h4⟩
  · have h3 := fv_beq h3
    obtain ⟨h5, h6⟩ := fv_iff h4
    obtain ⟨h7, h8⟩ := fv_iff h6
    obtain ⟨h9, h10⟩ := fv_iff h8
    have h5 := fv_ble h5
    have h7 := fv_ltt h7
    have h9 := fv_ltt h9
    rw [fv_nth_eq, fv_nth_eq] at h9 h10
    have hil : i < (am_txt.getD (x / 8 - 3000) []).length := by
      by_cases z : i < (am_txt.getD (x / 8 - 3000) []).length
      · exact z
      · rw [fv_gd (by omega)] at h9
        omega
    have hlen : (am_txt.getD (x / 8 - 3000) []).length ≤ 1000000 := by
      have hall : am_txt.all (fun l => Nat.ble l.length 1000000) = true := by decide +kernel
      by_cases z : x / 8 - 3000 < am_txt.length
      · rw [List.getD_eq_getElem?_getD, List.getElem?_eq_getElem z]
        exact fv_ble (List.all_eq_true.mp hall _ (List.getElem_mem z))
      · rw [fv_gd (by omega)]
        decide
    refine ⟨_, _, n, t, iv, lv, h, h10, io, hl, hr, ?_⟩
    simp only [List.map_cons, hi, fv_d3 h3, fv_m0]
    show am_st lv h (if 3000 ≤ x / 8 ∧ x / 8 < 3000 + am_txt.length then match am_ix (Int32.ofNat i) (am_txt.getD (x / 8 - 3000) []).length with
      | some j => some (.int (nI ((am_txt.getD (x / 8 - 3000) []).getD j 0)) :: r.map (fv_de ρ))
      | none => none
      else none) = _
    rw [if_pos ⟨h5, by rw [fv_txt_len]; omega⟩, fv_ix hil hlen]
    have e : (am_txt.getD (x / 8 - 3000) []).getD i 0 = (am_txt.getD (x / 8 - 3000) []).getD i 256 := by
      exact fv_gdi hil
    show am_st lv h (some (.int (nI ((am_txt.getD (x / 8 - 3000) []).getD i 0)) :: r.map (fv_de ρ))) = _
    rw [e]
    rfl
  · obtain ⟨hx1, -, h3⟩ := fv_ref_ok (ρ := ρ) h4
    obtain ⟨c, z, s, h5, h6⟩ := fv_o_ok hr h3
    obtain ⟨h7, h8⟩ := fv_iff h5
    obtain ⟨h9, h10⟩ := fv_iff h8
    have h9 := fv_ltt h9
    have h7 := fv_beq h7
    rcases h6 with h6 | ⟨h6, h11, hz⟩
    · omega
    · subst h6 h7
      refine ⟨_, _, n, t, iv, lv, h, h10, io, hl, hr, ?_⟩
      simp only [List.map_cons, hi, hx1]
      show am_st lv h (am_gld (fun k => k == 102) h (.int (Int32.ofNat i) :: .ref (x / 8) :: r.map (fv_de ρ))) = _
      unfold am_gld
      simp only [h11]
      rw [if_pos (by decide), List.length_map, fv_ix h9 hz]
      simp only [fv_map_get h9]
      rfl
theorem fv_lens_get (k : Nat) : fv_nth fv_lens k 0 = (am_txt.getD k []).length := by
  rw [fv_nth_eq]
  unfold fv_lens
  rw [List.getD_eq_getElem?_getD, List.getD_eq_getElem?_getD, List.getElem?_map]
  cases am_txt[k]? <;> rfl
theorem fv_p_len (hρ2 : ρ 15 = Int32.ofNat sc.length) : fv_snd sc ρ .arraylength fv_len := by
  intro K e lvN st n t iv lv h hx io hl hr
  simp only [fv_len, fv_f_eq, fv_mul_h, fv_sub_h, fv_div_h, fv_mod_h] at hx
  obtain ⟨x, r, rfl, h1⟩ := fv_u_t hx
  rcases fv_ift h1 with ⟨h2, h3⟩ | ⟨-, h2⟩
  · have h2 := fv_beq h2
    obtain ⟨c, z, s, h5, h6⟩ := fv_o_ok hr h3
    obtain ⟨h7, h8⟩ := fv_iff h5
    obtain ⟨h9, h10⟩ := fv_ifn h8
    rcases h6 with h6 | ⟨h6, h11, hz⟩
    · exact absurd h6 (fv_bne h9)
    · subst h6
      refine ⟨_, _, n, t, iv, lv, h, h10, io, hl, hr, ?_⟩
      simp only [List.map_cons, fv_d2 h2, fv_m0]
      show am_st lv h (am_alen sc h (.ref (x / 8) :: r.map (fv_de ρ))) = _
      unfold am_alen
      simp only [h11]
      rw [if_pos ⟨fv_ble h7, fv_bne h9⟩, List.length_map]
      rfl
  · rcases fv_ift h2 with ⟨h3, h4⟩ | ⟨hne, h3⟩
    · cases fv_beq h3
      refine ⟨_, _, n, t, iv, lv, h, h4, io, hl, hr, ?_⟩
      have hs : fv_de ρ 16003 = .retAddr 2000 := rfl
      have h104 : fv_de ρ 121 = .int (ρ 15) := rfl
      simp only [List.map_cons, hs, h104]
      have ha : am_alen sc h (.retAddr 2000 :: r.map (fv_de ρ)) = some (.int (Int32.ofNat sc.length) :: r.map (fv_de ρ)) := rfl
      show am_st lv h (am_alen sc h (.retAddr 2000 :: r.map (fv_de ρ))) = _
      rw [ha, hρ2]
      rfl
    · rcases fv_ift h3 with ⟨h4, h5⟩ | ⟨hne2, h4⟩
      · cases fv_beq h4
        refine ⟨_, _, n, t, iv, lv, h, h5, io, hl, hr, ?_⟩
        rfl
      · obtain ⟨h5, h6⟩ := fv_iff h4
        obtain ⟨h7, h8⟩ := fv_iff h6
        obtain ⟨h9, h10⟩ := fv_iff h8
        have h5 := fv_beq h5
        have h7 := fv_ble h7
        have h9 := fv_ltt h9
        rw [fv_lens_get] at h10
        refine ⟨_, _, n, t, iv, lv, h, h10, io, hl, hr, ?_⟩
        simp only [List.map_cons, fv_d3 h5, fv_m0]
        show am_st lv h (am_alen sc h (.retAddr (x / 8) :: r.map (fv_de ρ))) = _
        unfold am_alen
        simp only
        rw [if_neg (by omega), if_neg (by omega), if_pos ⟨h7, by rw [fv_txt_len]; omega⟩]
        rfl
theorem fv_p_ast {a : Instr} {p : Nat → fv_T → Nat → Bool} {k : am_H → Nat → Value → Bool} (h199 : ∀ t v, p 199 t v = false) (hpk : ∀ c n t v h, fv_rel ρ n t h → p c t v = true → k h c (fv_de ρ v) = true) (hv : ∀ lv v i x r h, am_i1 sc a lv (v :: .int i :: .ref x :: r) h = am_sh lv (am_gst k h (v :: .int i :: .ref x :: r))) : fv_snd sc ρ a (fv_ast p) := by
  intro K e lvN st n t iv lv h hx io hl hr
  simp only [fv_ast] at hx
  obtain ⟨x, y, v, r, rfl, h1⟩ := fv_3_t hx
  obtain ⟨i, hi, h2⟩ := fv_int_ok (ρ := ρ) h1 io
  obtain ⟨hx1, -, h3⟩ := fv_ref_ok (ρ := ρ) h2
  obtain ⟨c, z, s, h5, h6⟩ := fv_o_ok hr h3
  obtain ⟨h7, h8⟩ := fv_iff h5
  obtain ⟨h9, h10⟩ := fv_iff h8
  have h9 := fv_ltt h9
  rcases h6 with h6 | ⟨h6, h11, hz⟩
  · subst h6
    rw [h199] at h7
    exact absurd h7 Bool.false_ne_true
  · subst h6
    have hob : fv_ob ρ (c, s.length, fv_set s i v) (c, (s.map (fv_de ρ)).set i (fv_de ρ v)) := ⟨rfl, by rw [fv_set_eq, List.length_set], fv_map_set, hz⟩
    refine ⟨_, _, n, _, iv, lv, _, h10, io, hl, fv_rel_set hr h11 hob (by simp), ?_⟩
    simp only [List.map_cons, hi, hx1, hv]
    unfold am_gst
    simp only [h11]
    rw [if_pos (hpk _ _ _ _ _ hr h7), List.length_map, fv_ix h9 hz]
    rfl
theorem fv_pI_ok {c n v : Nat} {t : fv_T} {h : am_H} (_ : fv_rel ρ n t h) (e : fv_pI c t v = true) : am_kI h c (fv_de ρ v) = true := by
  obtain ⟨h1, h2⟩ := fv_iff e
  obtain ⟨x, hx⟩ := fv_isI_t (ρ := ρ) h2
  cases fv_beq h1
  rw [hx]
  rfl
theorem fv_pJ_ok {c n v : Nat} {t : fv_T} {h : am_H} (_ : fv_rel ρ n t h) (e : fv_pJ c t v = true) : am_kJ h c (fv_de ρ v) = true := by
  obtain ⟨h1, h2⟩ := fv_iff e
  obtain ⟨x, hx⟩ := fv_isJ_t (ρ := ρ) h2
  cases fv_beq h1
  rw [hx]
  rfl
theorem fv_pZ_ok {c n v : Nat} {t : fv_T} {h : am_H} (_ : fv_rel ρ n t h) (e : fv_pZ c t v = true) : am_kZ h c (fv_de ρ v) = true := by
  obtain ⟨h1, h2⟩ := fv_iff e
  obtain ⟨x, hx, h01⟩ := fv_b01_t (ρ := ρ) h2
  cases fv_beq h1
  rw [hx]
  rcases h01 with rfl | rfl <;> rfl
theorem fv_pA_ok {c n v : Nat} {t : fv_T} {h : am_H} (r : fv_rel ρ n t h) (e : fv_pA c t v = true) : am_kA h c (fv_de ρ v) = true := by
  rcases fv_ift e with ⟨h1, h2⟩ | ⟨-, h2⟩
  · cases fv_beq h1
    obtain ⟨h3, h4⟩ := fv_iff h2
    obtain ⟨h5, -⟩ := fv_ifn h4
    have h3 := fv_ble h3
    have h5 := fv_bne h5
    show (decide (104 ≤ c) && decide (c ≠ 199)) = true
    simp [h3, h5]
  · obtain ⟨hv, -, h3⟩ := fv_ref_ok (ρ := ρ) h2
    obtain ⟨k, z, s, h5, h6⟩ := fv_o_ok r h3
    obtain ⟨h7, h8⟩ := fv_iff h5
    have h7 := fv_ltt h7
    rcases h6 with h6 | ⟨-, h6, -⟩
    · omega
    · rw [hv]
      show (match h[v / 8]? with
        | some o => decide (o.1 < 100) && (decide (c = 200 + o.1) || (decide (c = 104) && (o.1 == 4 || (o.1 == 5 || o.1 == 7))))
        | none => false) = true
      rw [h6]
      simp only [Bool.and_eq_true, Bool.or_eq_true, decide_eq_true_eq, beq_iff_eq]
      refine ⟨h7, ?_⟩
      rcases fv_ift h8 with ⟨h9, -⟩ | ⟨-, h9⟩
      · exact Or.inl (fv_beq h9)
      · obtain ⟨h10, h11⟩ := fv_iff h9
        refine Or.inr ⟨fv_beq h10, ?_⟩
        rcases fv_ift h11 with ⟨h12, -⟩ | ⟨-, h12⟩
        · exact Or.inl (fv_beq h12)
        · rcases fv_ift h12 with ⟨h13, -⟩ | ⟨-, h13⟩
          · exact Or.inr (Or.inl (fv_beq h13))
          · exact Or.inr (Or.inr (fv_beq h13))
theorem fv_mk_ok {c z n : Nat} {s : List Nat} {t : fv_T} {h : am_H} {k : Nat → Nat → fv_T → Bool} (r : fv_rel ρ n t h) (hz : z = s.length) (e : fv_mk c z s k n t = true) : z ≤ 1000000 ∧ ∃ v n2 t2, k v n2 t2 = true ∧ fv_de ρ v = .ref h.length ∧ fv_rel ρ n2 t2 (h ++ [(c, s.map (fv_de ρ))]) := by
  unfold fv_mk at e
  simp only [fv_f_eq, fv_mod_h, fv_mul_h, fv_add_h] at e
  obtain ⟨h1, h2⟩ := fv_iff e
  obtain ⟨h3, h4⟩ := fv_iff h2
  have h1 := fv_ltt h1
  have h3 := fv_ble h3
  refine ⟨h3, _, _, _, h4, ?_, fv_rel_push (q := (c, z, s)) r h1 ⟨rfl, hz, rfl, h3⟩⟩
  rw [fv_m2, r.2.1]
theorem fv_df_ok (ci : Nat) : (fv_df ci).map (fv_de ρ) = am_df ci := by
  unfold fv_df am_df
  split <;> rfl
theorem fv_p_new {ci : Nat} : fv_snd sc ρ (.new ci) (fv_new ci) := by
  intro K e lvN st n t iv lv h hx io hl hr
  simp only [fv_new, fv_f_eq] at hx
  obtain ⟨-, v, n2, t2, h1, h2, h3⟩ := fv_mk_ok hr rfl hx
  refine ⟨_, _, n2, t2, iv, lv, _, h1, io, hl, h3, ?_⟩
  rw [fv_df_ok, List.map_cons, h2]
  rfl
theorem fv_p_newa {a : Instr} {c v : Nat} {w : Value} (hw : fv_de ρ v = w) (hv : ∀ lv st h, am_i1 sc a lv st h = am_sh lv (am_mka c w h st)) : fv_snd sc ρ a (fv_newa c v) := by
  intro K e lvN st n t iv lv h hx io hl hr
  simp only [fv_newa] at hx
  obtain ⟨x, r, rfl, h1⟩ := fv_u_t hx
  obtain ⟨z, hz, h2⟩ := fv_int_ok (ρ := ρ) h1 io
  obtain ⟨h3, u, n2, t2, h4, h5, h6⟩ := fv_mk_ok hr (by rw [fv_rep_eq, List.length_replicate]) h2
  refine ⟨_, _, n2, t2, iv, lv, _, h4, io, hl, h6, ?_⟩
  have hi := fv_ix (i := z) (n := z + 1) (by omega)
  have h7 : z < 2 ^ 31 := by omega
  have h8 : ¬ Int32.ofNat z < 0 := fun y => by
    have z2 := Int32.lt_iff_toInt_lt.mp y
    rw [Int32.toInt_ofNat_of_lt h7] at z2
    have : (0 : Int32).toInt = 0 := rfl
    omega
  rw [hv, List.map_cons, List.map_cons, hz, h5]
  unfold am_mka
  simp only
  rw [Int32.toNatClampNeg_ofNat_of_lt h7, if_pos ⟨h8, h3⟩, fv_rep_eq, List.map_replicate, hw]
  rfl
theorem fv_p_cast {ci : Nat} : fv_snd sc ρ (.checkcast ci) (fv_cast ci) := by
  intro K e lvN st n t iv lv h hx io hl hr
  simp only [fv_cast] at hx
  obtain ⟨x, r, rfl, h1⟩ := fv_u_t hx
  rcases fv_ift h1 with ⟨h2, h3⟩ | ⟨-, h2⟩
  · cases fv_beq h2
    exact ⟨_, _, n, t, iv, lv, h, h3, io, hl, hr, rfl⟩
  · obtain ⟨hv, -, h3⟩ := fv_ref_ok (ρ := ρ) h2
    obtain ⟨c, z, s, h5, h6⟩ := fv_o_ok hr h3
    obtain ⟨h7, h8⟩ := fv_iff h5
    obtain ⟨h9, h10⟩ := fv_iff h8
    have h9 := fv_ltt h9
    rcases h6 with h6 | ⟨-, h6, -⟩
    · omega
    · refine ⟨_, _, n, t, iv, lv, h, h10, io, hl, hr, ?_⟩
      rw [List.map_cons, hv]
      show (match h[x / 8]? with
        | some o => if o.1 = ci then some (lv, Value.ref (x / 8) :: r.map (fv_de ρ), h) else none
        | none => none) = _
      rw [h6]
      simp only
      rw [if_pos (fv_beq h7)]
theorem fv_p_oi {k : Nat} : fv_snd sc ρ (.invokedynamic k) fv_oi := by
  intro K e lvN st n t iv lv h hx io hl hr
  simp only [fv_oi, fv_mod_h] at hx
  obtain ⟨x, r, rfl, h1⟩ := fv_u_t hx
  obtain ⟨h2, h3⟩ := fv_iff h1
  obtain ⟨h4, h5⟩ := fv_iff h3
  refine ⟨_, _, n, t, iv, lv, h, h5, io, hl, hr, ?_⟩
  rw [List.map_cons, fv_d2 (fv_beq h2)]
  show (if am_cs (r.map (fv_de ρ)) ≤ 8 then some (lv, r.map (fv_de ρ), h) else none) = _
  rw [if_pos (fv_cl_t h4)]
theorem fv_f2d_ok : FP.f2d FP.fconst0 &&& 0x7fffffffffffffff ≤ 0x7ff0000000000000 := by decide +kernel
theorem fv_p_f2d : fv_snd sc ρ .f2d fv_f2d := by
  intro K e lvN st n t iv lv h hx io hl hr
  simp only [fv_f2d] at hx
  obtain ⟨x, r, rfl, h1⟩ := fv_u_t hx
  obtain ⟨h2, h3⟩ := fv_iff h1
  cases fv_beq h2
  refine ⟨_, _, n, t, iv, lv, h, h3, io, hl, hr, ?_⟩
  show (if FP.f2d FP.fconst0 &&& 0x7fffffffffffffff ≤ 0x7ff0000000000000 then some (lv, Value.double (FP.f2d FP.fconst0) :: r.map (fv_de ρ), h) else none) = _
  rw [if_pos fv_f2d_ok]
  rfl
theorem fv_dcmp1 (op : CmpOp) : Op.cmpValue (FP.dcmp FP.dconst0 FP.dconst0) op = 0 := by cases op <;> decide +kernel
theorem fv_dcmp2 (op : CmpOp) : Op.cmpValue (FP.dcmp (FP.f2d FP.fconst0) (FP.f2d FP.fconst0)) op = 0 := by cases op <;> decide +kernel
theorem fv_p_dcmp {op : CmpOp} : fv_snd sc ρ (.dcmp op) fv_dcmp := by
  intro K e lvN st n t iv lv h hx io hl hr
  simp only [fv_dcmp] at hx
  obtain ⟨x, y, r, rfl, h1⟩ := fv_2_t hx
  obtain ⟨h2, h3⟩ := fv_iff h1
  obtain ⟨h4, h5⟩ := fv_iff h3
  have hxy := fv_beq h2
  refine ⟨_, _, n, t, iv, lv, h, h5, io, hl, hr, ?_⟩
  rcases fv_isD_t (ρ := ρ) h4 with ⟨h6, h7⟩ | ⟨h6, h7⟩
  · rw [← hxy, List.map_cons, List.map_cons, h7]
    show some (lv, Value.int (Op.cmpValue (FP.dcmp FP.dconst0 FP.dconst0) op) :: r.map (fv_de ρ), h) = _
    rw [fv_dcmp1]
    rfl
  · rw [← hxy, List.map_cons, List.map_cons, h7]
    show some (lv, Value.int (Op.cmpValue (FP.dcmp (FP.f2d FP.fconst0) (FP.f2d FP.fconst0)) op) :: r.map (fv_de ρ), h) = _
    rw [fv_dcmp2]
    rfl
end FVH
end
section
variable {sc : List Int32}
/-! THE QUICK MACHINE: blocks, runs of blocks, methods -/
/-- what the unknowns are: the script's ints, and which call it is -/
def fv_rh (sc : List Int32) (ρ : Nat → Int32) : Prop := (∀ j, j < 13 → ρ j = sc.getD j 0) ∧ ρ 13 = ρ 0 &&& 63 ∧ ρ 15 = Int32.ofNat sc.length ∧ fv_ts ρ
section FVR
variable {ρ : Nat → Int32}
theorem fv_sn {a : Instr} {X : fv_C → fv_C} (h : fv_snd sc ρ a X) (e : ∀ K, fv_go (fv_in a K) = X K) : fv_snd sc ρ a (fun K => fv_go (fv_in a K)) := by
  intro K e9 lvN st n t iv lv h9 hx
  have hx : fv_go (fv_in a K) e9 lvN st n t iv = true := hx
  rw [e] at hx
  exact h K e9 lvN st n t iv lv h9 hx
theorem fv_ldI {v i : Nat} {lv : am_V} {st : List Value} {h : am_H} (hp : fv_isI v = true) (e : am_ld lv i = some (fv_de ρ v)) : am_i1 sc (.iload i) lv st h = some (lv, fv_de ρ v :: st, h) := by
  obtain ⟨x, hx⟩ := fv_isI_t (ρ := ρ) hp
  rw [hx] at e ⊢
  show (match am_ld lv i with
    | some (.int x) => some (lv, Value.int x :: st, h)
    | _ => none) = _
  rw [e]
theorem fv_ldJ {v i : Nat} {lv : am_V} {st : List Value} {h : am_H} (hp : fv_isJ v = true) (e : am_ld lv i = some (fv_de ρ v)) : am_i1 sc (.lload i) lv st h = some (lv, fv_de ρ v :: st, h) := by
  obtain ⟨x, hx⟩ := fv_isJ_t (ρ := ρ) hp
  rw [hx] at e ⊢
  show (match am_ld lv i with
    | some (.long x) => some (lv, Value.long x :: st, h)
    | _ => none) = _
  rw [e]
theorem fv_ldR {v i : Nat} {lv : am_V} {st : List Value} {h : am_H} (hp : fv_isR v = true) (e : am_ld lv i = some (fv_de ρ v)) : am_i1 sc (.aload i) lv st h = some (lv, fv_de ρ v :: st, h) := by
  show (match am_ld lv i with
    | some v => if am_isR v = true then some (lv, v :: st, h) else none
    | none => none) = _
  rw [e]
  simp only
  rw [if_pos (fv_isR_t hp)]
theorem fv_ldD {v i : Nat} {lv : am_V} {st : List Value} {h : am_H} (hp : fv_isD v = true) (e : am_ld lv i = some (fv_de ρ v)) : am_i1 sc (.dload i) lv st h = some (lv, fv_de ρ v :: st, h) := by
  obtain ⟨x, hx⟩ := fv_isD_d (ρ := ρ) hp
  rw [hx] at e ⊢
  show (match am_ld lv i with
    | some (.double x) => some (lv, Value.double x :: st, h)
    | _ => none) = _
  rw [e]
theorem fv_stI {v i : Nat} {lv : am_V} {st : List Value} {h : am_H} (hp : fv_isI v = true) : am_i1 sc (.istore i) lv (fv_de ρ v :: st) h = some (am_s1 lv i (fv_de ρ v), st, h) := by
  obtain ⟨x, hx⟩ := fv_isI_t (ρ := ρ) hp
  rw [hx]
  rfl
theorem fv_stJ {v i : Nat} {lv : am_V} {st : List Value} {h : am_H} (hp : fv_isJ v = true) : am_i1 sc (.lstore i) lv (fv_de ρ v :: st) h = some (am_s2 lv i (fv_de ρ v), st, h) := by
  obtain ⟨x, hx⟩ := fv_isJ_t (ρ := ρ) hp
  rw [hx]
  rfl
theorem fv_stD {v i : Nat} {lv : am_V} {st : List Value} {h : am_H} (hp : fv_isD v = true) : am_i1 sc (.dstore i) lv (fv_de ρ v :: st) h = some (am_s2 lv i (fv_de ρ v), st, h) := by
  obtain ⟨x, hx⟩ := fv_isD_d (ρ := ρ) hp
  rw [hx]
  rfl
theorem fv_stR {v i : Nat} {lv : am_V} {st : List Value} {h : am_H} (hp : fv_isR v = true) : am_i1 sc (.astore i) lv (fv_de ρ v :: st) h = some (am_s1 lv i (fv_de ρ v), st, h) := by
  show (if am_isR (fv_de ρ v) = true then some (am_s1 lv i (fv_de ρ v), st, h) else none) = _
  rw [if_pos (fv_isR_t hp)]
theorem fv_kI (m : Int) (lv : am_V) (st : List Value) (h : am_H) : am_i1 sc (.iconst m) lv st h = some (lv, fv_de ρ (Nat.mul 8 (fv_ni m)) :: st, h) := by
  rw [fv_mul_h, fv_m0, ← fv_ni_eq]
  rfl
theorem fv_kJ (m : Int) (lv : am_V) (st : List Value) (h : am_H) : am_i1 sc (.jsr_w m) lv st h = some (lv, fv_de ρ (Nat.add (Nat.mul 8 (fv_nj m)) 5) :: st, h) := by
  rw [fv_mul_h, fv_add_h, fv_m5, ← fv_nj_eq]
  rfl
theorem fv_kX (k : Nat) (lv : am_V) (st : List Value) (h : am_H) : am_i1 sc (.ldc k) lv st h = some (lv, fv_de ρ (Nat.add (Nat.mul 8 k) 3) :: st, h) := by
  rw [fv_mul_h, fv_add_h, fv_m3]
  rfl
theorem fv_in_ok (hsc : sc.length ≤ 13) (hρ : fv_rh sc ρ) (a : Instr) : fv_snd sc ρ a (fun K => fv_go (fv_in a K)) := by
  cases a
  case iconst m => exact fv_sn (fv_p_push (fv_kI m)) (fun _ => rfl)
  case jsr_w m => exact fv_sn (fv_p_push (fv_kJ m)) (fun _ => rfl)
  case aconst_null => exact fv_sn (fv_p_push (v := 4) fun lv st h => rfl) (fun _ => rfl)
  case ldc k => exact fv_sn (fv_p_push (fv_kX k)) (fun _ => rfl)
  case iload i => exact fv_sn (fv_p_load (p := fv_isI) (i := i) rfl fun _ _ _ _ => fv_ldI) (fun _ => rfl)
  case lload i => exact fv_sn (fv_p_load (p := fv_isJ) (i := i) rfl fun _ _ _ _ => fv_ldJ) (fun _ => rfl)
  case aload i => exact fv_sn (fv_p_load (p := fv_isR) (i := i) rfl fun _ _ _ _ => fv_ldR) (fun _ => rfl)
  case dload i => exact fv_sn (fv_p_load (p := fv_isD) (i := i) rfl fun _ _ _ _ => fv_ldD) (fun _ => rfl)
  case istore i => exact fv_sn (fv_p_store (p := fv_isI) (i := i) fun _ _ _ _ => fv_stI) (fun _ => rfl)
  case astore i => exact fv_sn (fv_p_store (p := fv_isR) (i := i) fun _ _ _ _ => fv_stR) (fun _ => rfl)
  case lstore i => exact fv_sn (fv_p_store2 (p := fv_isJ) (i := i) fun _ _ _ _ => fv_stJ) (fun _ => rfl)
  case dstore i => exact fv_sn (fv_p_store2 (p := fv_isD) (i := i) fun _ _ _ _ => fv_stD) (fun _ => rfl)
  case iinc i m => exact fv_sn (fv_p_iinc hρ.2.2.2) (fun _ => rfl)
  case iadd => exact fv_sn (fv_p_iadd hρ.2.2.2) (fun _ => rfl)
  case isub => exact fv_sn fv_p_isub (fun _ => rfl)
  case iand => exact fv_sn (fv_p_iand hρ.2.1) (fun _ => rfl)
  case ior => exact fv_sn (fv_p_op (f := Nat.lor) (g := fun x y => x ||| y) fv_or32 fun _ _ _ _ _ => rfl) (fun _ => rfl)
  case ishr => exact fv_sn fv_p_ishr (fun _ => rfl)
  case idiv => exact fv_sn fv_p_idiv (fun _ => rfl)
  case ladd => exact fv_sn fv_p_ladd (fun _ => rfl)
  case lsub => exact fv_sn (fv_p_lop (g := fun x y => x - y) fv_sub64 fun _ _ _ _ _ => rfl) (fun _ => rfl)
  case land => exact fv_sn (fv_p_land hρ.2.2.2) (fun _ => rfl)
  case imul => exact fv_sn (fv_p_tbo (op := 1) hρ.2.2.2) (fun _ => rfl)
  case iushr => exact fv_sn (fv_p_tbo (op := 3) hρ.2.2.2) (fun _ => rfl)
  case irem => exact fv_sn (fv_p_tbo (op := 4) hρ.2.2.2) (fun _ => rfl)
  case lshl => exact fv_sn (fv_p_tbo (op := 5) hρ.2.2.2) (fun _ => rfl)
  case lor => exact fv_sn (fv_p_tbo (op := 7) hρ.2.2.2) (fun _ => rfl)
  case lushr => exact fv_sn fv_p_lushr (fun _ => rfl)
  case lcmp => exact fv_sn fv_p_lcmp (fun _ => rfl)
  case i2l => exact fv_sn fv_p_i2l (fun _ => rfl)
  case l2i => exact fv_sn fv_p_l2i (fun _ => rfl)
  case i2c => exact fv_sn fv_p_i2c (fun _ => rfl)
  case dup => exact fv_sn fv_p_dup (fun _ => rfl)
  case pop => exact fv_sn fv_p_pop (fun _ => rfl)
  case dup_x1 => exact fv_sn fv_p_dupx (fun _ => rfl)
  case getfield f =>
    cases h1 : Nat.ble 384 f with
    | false => exact fv_sn fv_p_getx (fun K => by
        show fv_go (@Bool.rec (fun _ => fv_C × Unit) (fv_getx f K, ()) _ (Nat.ble 384 f)) = _
        rw [h1]
        rfl)
    | true =>
      cases h2 : fv_lt f 12800 with
      | false => exact fv_sn fv_p_no (fun K => by
          show fv_go (@Bool.rec (fun _ => fv_C × Unit) (fv_getx f K, ()) (@Bool.rec (fun _ => fv_C × Unit) (fv_no K, ()) (fv_get f K, ()) (fv_lt f 12800)) (Nat.ble 384 f)) = _
          rw [h1, h2]
          rfl)
      | true => exact fv_sn (fv_p_get (fv_ble h1) (fv_ltt h2)) (fun K => by
          show fv_go (@Bool.rec (fun _ => fv_C × Unit) (fv_getx f K, ()) (@Bool.rec (fun _ => fv_C × Unit) (fv_no K, ()) (fv_get f K, ()) (fv_lt f 12800)) (Nat.ble 384 f)) = _
          rw [h1, h2]
          rfl)
  case putfield f =>
    cases h2 : fv_lt f 12800 with
    | false => exact fv_sn fv_p_no (fun K => by
        show fv_go (@Bool.rec (fun _ => fv_C × Unit) (fv_no K, ()) (fv_put f K, ()) (fv_lt f 12800)) = _
        rw [h2]
        rfl)
    | true => exact fv_sn (fv_p_put (fv_ltt h2)) (fun K => by
        show fv_go (@Bool.rec (fun _ => fv_C × Unit) (fv_no K, ()) (fv_put f K, ()) (fv_lt f 12800)) = _
        rw [h2]
        rfl)
  case iaload => exact fv_sn (fv_p_iald hsc hρ.1 hρ.2.2.1) (fun _ => rfl)
  case laload => exact fv_sn (fv_p_ald (p := Nat.beq 101) (k := fun k => k == 101) rfl (fun c h => by rw [← fv_beq h]; rfl) (fun _ _ _ _ _ => rfl)) (fun _ => rfl)
  case baload => exact fv_sn fv_p_bald (fun _ => rfl)
  case aaload => exact fv_sn (fv_p_ald (p := fv_kA) (k := fun k => decide (103 ≤ k) && decide (k ≠ 199)) rfl (fun c h => by
    obtain ⟨h1, h2⟩ := fv_iff h
    obtain ⟨h3, -⟩ := fv_ifn h2
    have h1 := fv_ble h1
    have h3 := fv_bne h3
    simp [h1, h3]) (fun _ _ _ _ _ => rfl)) (fun _ => rfl)
  case arraylength => exact fv_sn (fv_p_len hρ.2.2.1) (fun _ => rfl)
  case iastore => exact fv_sn (fv_p_ast (p := fv_pI) (k := am_kI) (fun _ _ => rfl) (fun _ _ _ _ _ => fv_pI_ok) (fun _ _ _ _ _ _ => rfl)) (fun _ => rfl)
  case lastore => exact fv_sn (fv_p_ast (p := fv_pJ) (k := am_kJ) (fun _ _ => rfl) (fun _ _ _ _ _ => fv_pJ_ok) (fun _ _ _ _ _ _ => rfl)) (fun _ => rfl)
  case bastore => exact fv_sn (fv_p_ast (p := fv_pZ) (k := am_kZ) (fun _ _ => rfl) (fun _ _ _ _ _ => fv_pZ_ok) (fun _ _ _ _ _ _ => rfl)) (fun _ => rfl)
  case aastore => exact fv_sn (fv_p_ast (p := fv_pA) (k := am_kA) (fun t v => by
    cases hc : fv_pA 199 t v with
    | false => rfl
    | true =>
      rcases fv_ift hc with ⟨-, h⟩ | ⟨-, h⟩
      · exact absurd h Bool.false_ne_true
      · obtain ⟨-, -, h3⟩ := fv_ref_ok (ρ := ρ) h
        rw [fv_o_eq] at h3
        obtain ⟨h4, h5⟩ := fv_iff h3
        have h4 := fv_ltt h4
        rcases fv_ift h5 with ⟨h6, -⟩ | ⟨-, h6⟩
        · have h6 := fv_beq h6
          rw [fv_add_h] at h6
          omega
        · exact absurd h6 Bool.false_ne_true) (fun _ _ _ _ _ => fv_pA_ok) (fun _ _ _ _ _ _ => rfl)) (fun _ => rfl)
  case getstatic k =>
    cases k with
    | zero => exact fv_sn (fv_p_push (v := 8) fun lv st h => rfl) (fun _ => rfl)
    | succ k =>
      cases k with
      | zero => exact fv_sn (fv_p_push (v := 8003) fun lv st h => rfl) (fun _ => rfl)
      | succ k => exact fv_sn fv_p_no (fun _ => rfl)
  case new ci => exact fv_sn fv_p_new (fun _ => rfl)
  case newarray t =>
    cases t
    case int => exact fv_sn (fv_p_newa (c := 100) (v := 0) (w := .int 0) rfl (fun _ _ _ => rfl)) (fun _ => rfl)
    case long => exact fv_sn (fv_p_newa (c := 101) (v := 5) (w := .long 0) rfl (fun _ _ _ => rfl)) (fun _ => rfl)
    case boolean => exact fv_sn (fv_p_newa (c := 102) (v := 0) (w := .int 0) rfl (fun _ _ _ => rfl)) (fun _ => rfl)
    all_goals exact fv_sn fv_p_no (fun _ => rfl)
  case anewarray k => exact fv_sn (fv_p_newa (c := k) (v := 4) (w := .null) rfl (fun _ _ _ => rfl)) (fun _ => rfl)
  case checkcast ci => exact fv_sn fv_p_cast (fun _ => rfl)
  case invokedynamic k => exact fv_sn fv_p_oi (fun _ => rfl)
  case jsr k => exact fv_sn fv_p_jsr (fun _ => rfl)
  case dconst k =>
    obtain ⟨k, hk⟩ := k
    cases k with
    | zero => exact fv_sn (fv_p_push (v := 15) fun lv st h => rfl) (fun _ => rfl)
    | succ k => exact fv_sn fv_p_no (fun _ => rfl)
  case fconst k =>
    obtain ⟨k, hk⟩ := k
    cases k with
    | zero => exact fv_sn (fv_p_push (v := 23) fun lv st h => rfl) (fun _ => rfl)
    | succ k => exact fv_sn fv_p_no (fun _ => rfl)
  case f2d => exact fv_sn fv_p_f2d (fun _ => rfl)
  case dcmp op => exact fv_sn fv_p_dcmp (fun _ => rfl)
  all_goals exact fv_sn fv_p_no (fun _ => rfl)
theorem fv_cmp_ok {c : ClassFile.Cond} {x y : Nat} {kT kF : fv_Iv → Bool} {iv : fv_Iv} (h : fv_cmp c x y kT kF iv = true) (io : fv_iok ρ iv) : ∃ a b : Int32, fv_de ρ x = .int a ∧ fv_de ρ y = .int b ∧ ((am_cnd c a b ∧ ∃ iv2, fv_iok ρ iv2 ∧ kT iv2 = true) ∨ (¬ am_cnd c a b ∧ ∃ iv2, fv_iok ρ iv2 ∧ kF iv2 = true)) := by
  cases c with
  | eq => exact fv_eq2_ok h io
  | ne =>
    obtain ⟨a, b, h1, h2, h3⟩ := fv_eq2_ok h io
    refine ⟨a, b, h1, h2, ?_⟩
    rcases h3 with ⟨h3, h4⟩ | ⟨h3, h4⟩
    · exact Or.inr ⟨fun z => z h3, h4⟩
    · exact Or.inl ⟨h3, h4⟩
  | lt => exact fv_lt2_ok h io
  | ge =>
    obtain ⟨a, b, h1, h2, h3⟩ := fv_lt2_ok h io
    refine ⟨a, b, h1, h2, ?_⟩
    rcases h3 with ⟨h3, h4⟩ | ⟨h3, h4⟩
    · exact Or.inr ⟨fun z => Int32.not_le.mpr h3 z, h4⟩
    · exact Or.inl ⟨Int32.not_lt.mp h3, h4⟩
  | gt =>
    obtain ⟨a, b, h1, h2, h3⟩ := fv_lt2_ok h io
    exact ⟨b, a, h2, h1, h3⟩
  | le =>
    obtain ⟨a, b, h1, h2, h3⟩ := fv_lt2_ok h io
    refine ⟨b, a, h2, h1, ?_⟩
    rcases h3 with ⟨h3, h4⟩ | ⟨h3, h4⟩
    · exact Or.inr ⟨fun z => Int32.not_le.mpr h3 z, h4⟩
    · exact Or.inl ⟨Int32.not_lt.mp h3, h4⟩
theorem fv_sw_ok {kk : Nat → fv_Iv → Bool} {x d : Nat} {a : Int32} (hx : fv_de ρ x = .int a) : ∀ {offs : List Int} {lo D : Int} {iv : fv_Iv}, fv_sw (fv_tl lo offs) d x kk iv = true → fv_iok ρ iv → -2147483648 ≤ lo → lo + offs.length ≤ 2147483648 → ∃ b iv2, kk b iv2 = true ∧ fv_iok ρ iv2 ∧ b = if a.toInt < lo ∨ lo + offs.length ≤ a.toInt then d else (offs.getD (a.toInt - lo).toNat D).toNat
  | [], lo, D, iv, h, io, h1, h2 => by
    refine ⟨d, iv, h, io, ?_⟩
    rw [if_pos (by simp only [List.length_nil]; omega)]
  | o :: r, lo, D, iv, h, io, h1, h2 => by
    have h : fv_eq2 iv x (8 * Int.toNat (lo % 4294967296)) (kk o.toNat) (fun iv => fv_sw (fv_tl (lo + 1) r) d x kk iv) = true := h
    simp only [List.length_cons] at h2 ⊢
    obtain ⟨a2, b2, g1, g2, g3⟩ := fv_eq2_ok h io
    rw [hx] at g1
    cases g1
    rw [fv_m0] at g2
    have e : Int32.ofNat (Int.toNat (lo % 4294967296)) = Int32.ofInt lo := (fv_ni_eq lo).symm
    rw [e] at g2
    cases g2
    have e2 : (Int32.ofInt lo).toInt = lo := Int32.toInt_ofInt_of_le (by omega) (by omega)
    rcases g3 with ⟨g3, iv2, io2, g4⟩ | ⟨g3, iv2, io2, g4⟩
    · refine ⟨_, iv2, g4, io2, ?_⟩
      have e3 : a.toInt = lo := by rw [g3]; exact e2
      rw [if_neg (by omega), show (a.toInt - lo).toNat = 0 by omega]
      rfl
    · have hne : ¬ a.toInt = lo := fun z => g3 (Int32.toInt_inj.mp (by rw [e2]; exact z))
      obtain ⟨b, iv3, k1, k2, k3⟩ := fv_sw_ok hx (offs := r) (lo := lo + 1) (D := D) g4 io2 (by omega) (by omega)
      refine ⟨b, iv3, k1, k2, ?_⟩
      rw [k3]
      by_cases hc : a.toInt < lo + 1 ∨ lo + 1 + r.length ≤ a.toInt
      · rw [if_pos hc, if_pos (by omega)]
      · rw [if_neg hc, if_neg (by omega), show (a.toInt - lo).toNat = (a.toInt - (lo + 1)).toNat + 1 by omega]
        rfl
/-- what the end of a block comes to -/
theorem fv_tm_ok {bi : Nat} {t : Instr} {e : fv_E} {lvN st : List Nat} {n : Nat} {T : fv_T} {iv : fv_Iv} {lv : am_V} {h : am_H} (hx : fv_go (fv_tm bi t) e lvN st n T iv = true) (io : fv_iok ρ iv) :
    (∃ b st2 iv2, e 0 b 0 lvN st2 n T iv2 = true ∧ fv_iok ρ iv2 ∧ ∀ (C : am_Rl) (CT : am_Rt) (hds : List (Nat × Nat × Nat)) (nx : Nat → am_V → List Value → am_H → Prop) (fin : Option Value → am_H → Prop) (thr : Nat → am_H → Prop), nx b lv (st2.map (fv_de ρ)) h → am_tm C CT hds nx fin thr t bi lv (st.map (fv_de ρ)) h) ∨
    (e 1 0 0 lvN st n T iv = true ∧ ∃ r : Option Value, r.toList = st.map (fv_de ρ) ∧ ∀ (C : am_Rl) (CT : am_Rt) (hds : List (Nat × Nat × Nat)) (nx : Nat → am_V → List Value → am_H → Prop) (fin : Option Value → am_H → Prop) (thr : Nat → am_H → Prop), fin r h → am_tm C CT hds nx fin thr t bi lv (st.map (fv_de ρ)) h) ∨
    (∃ x, x < 3 ∧ e 2 x 0 lvN st n T iv = true ∧ ∀ (C : am_Rl) (CT : am_Rt) (hds : List (Nat × Nat × Nat)) (nx : Nat → am_V → List Value → am_H → Prop) (fin : Option Value → am_H → Prop) (thr : Nat → am_H → Prop), thr x h → am_tm C CT hds nx fin thr t bi lv (st.map (fv_de ρ)) h) ∨
    (∃ y m, t = .invokeinterface y m ∧ e (bi + 3) y m lvN st n T iv = true) := by
  have hret : ∀ {p : Nat → Bool} {e : fv_E}, fv_ret p e lvN st n T iv = true → ∃ v, st = [v] ∧ p v = true ∧ e 1 0 0 lvN st n T iv = true := by
    intro p e hx
    obtain ⟨v, r, h1, h2⟩ := fv_u_t hx
    obtain ⟨h3, h4⟩ := fv_e_t h2
    obtain ⟨h5, h6⟩ := fv_iff h4
    subst h3
    exact ⟨v, h1, h5, h6⟩
  cases t
  case nop => exact Or.inl ⟨_, _, iv, hx, io, fun _ _ _ _ _ _ z => z⟩
  case goto o => exact Or.inl ⟨_, _, iv, hx, io, fun _ _ _ _ _ _ z => z⟩
  case ifCond c o =>
    obtain ⟨x, r, rfl, h1⟩ := fv_u_t (show fv_u st _ = true from hx)
    obtain ⟨a, b, h2, h3, h4⟩ := fv_cmp_ok h1 io
    cases h3
    rcases h4 with ⟨h4, iv2, io2, h5⟩ | ⟨h4, iv2, io2, h5⟩
    · refine Or.inl ⟨_, _, iv2, h5, io2, fun C CT hds nx fin thr z => ?_⟩
      rw [List.map_cons, h2]
      exact ⟨fun _ => z, fun y => absurd h4 y⟩
    · refine Or.inl ⟨_, _, iv2, h5, io2, fun C CT hds nx fin thr z => ?_⟩
      rw [List.map_cons, h2]
      exact ⟨fun y => absurd y h4, fun _ => z⟩
  case if_icmp c o =>
    obtain ⟨x, y, r, rfl, h1⟩ := fv_2_t (show fv_2 st _ = true from hx)
    obtain ⟨a, b, h2, h3, h4⟩ := fv_cmp_ok h1 io
    rcases h4 with ⟨h4, iv2, io2, h5⟩ | ⟨h4, iv2, io2, h5⟩
    · refine Or.inl ⟨_, _, iv2, h5, io2, fun C CT hds nx fin thr z => ?_⟩
      rw [List.map_cons, List.map_cons, h2, h3]
      exact ⟨fun _ => z, fun y => absurd h4 y⟩
    · refine Or.inl ⟨_, _, iv2, h5, io2, fun C CT hds nx fin thr z => ?_⟩
      rw [List.map_cons, List.map_cons, h2, h3]
      exact ⟨fun y => absurd y h4, fun _ => z⟩
  case if_acmp c o =>
    cases c with
    | eq =>
      obtain ⟨x, y, r, rfl, h1⟩ := fv_2_t (show fv_2 st _ = true from hx)
      obtain ⟨h2, h3⟩ := fv_iff h1
      obtain ⟨h4, h5⟩ := fv_iff h3
      have h2 := fv_beq h2
      refine Or.inl ⟨_, _, iv, h5, io, fun C CT hds nx fin thr z => ?_⟩
      rw [List.map_cons, List.map_cons, ← h2, fv_d3 (fv_beq h4)]
      exact ⟨rfl, fun _ => z, (fun y => by cases y)⟩
    | ne =>
      obtain ⟨x, y, r, rfl, h1⟩ := fv_2_t (show fv_2 st _ = true from hx)
      obtain ⟨h2, h3⟩ := fv_iff h1
      obtain ⟨h4, h5⟩ := fv_iff h3
      have h2 := fv_beq h2
      refine Or.inl ⟨_, _, iv, h5, io, fun C CT hds nx fin thr z => ?_⟩
      rw [List.map_cons, List.map_cons, ← h2, fv_d3 (fv_beq h4)]
      exact ⟨rfl, (fun y => by cases y), fun _ => z⟩
  case ifnull o =>
    obtain ⟨x, r, rfl, h1⟩ := fv_u_t (show fv_u st _ = true from hx)
    rcases fv_ift h1 with ⟨h2, h3⟩ | ⟨-, h3⟩
    · cases fv_beq h2
      exact Or.inl ⟨_, _, iv, h3, io, fun C CT hds nx fin thr z => z⟩
    · obtain ⟨h4, h5⟩ := fv_iff h3
      refine Or.inl ⟨_, _, iv, h5, io, fun C CT hds nx fin thr z => ?_⟩
      rw [List.map_cons, fv_d2 (fv_beq h4)]
      exact z
  case ifnonnull o =>
    obtain ⟨x, r, rfl, h1⟩ := fv_u_t (show fv_u st _ = true from hx)
    rcases fv_ift h1 with ⟨h2, h3⟩ | ⟨-, h3⟩
    · cases fv_beq h2
      exact Or.inl ⟨_, _, iv, h3, io, fun C CT hds nx fin thr z => z⟩
    · obtain ⟨h4, h5⟩ := fv_iff h3
      refine Or.inl ⟨_, _, iv, h5, io, fun C CT hds nx fin thr z => ?_⟩
      rw [List.map_cons, fv_d2 (fv_beq h4)]
      exact z
  case tableswitch d lo hi offs =>
    by_cases hd : offs.toList.length = (hi - lo + 1).toNat ∧ -2147483648 ≤ lo ∧ hi < 2147483648
    · have e1 : fv_tm bi (.tableswitch d lo hi offs) = (fv_ttb (fv_tl lo offs.toList) d.toNat, ()) := by
        unfold fv_tm
        simp only [hd, and_self, decide_true]
      rw [e1] at hx
      obtain ⟨x, r, rfl, h1⟩ := fv_u_t (show fv_u st _ = true from hx)
      obtain ⟨h2, h3⟩ := fv_iff h1
      obtain ⟨a, ha⟩ := fv_isI_t (ρ := ρ) h2
      obtain ⟨hd1, hd2, hd3⟩ := hd
      by_cases hneg : hi - lo + 1 < 0
      · have hnil : offs.toList = [] := List.eq_nil_of_length_eq_zero (by omega)
        rw [hnil] at h3
        refine Or.inl ⟨_, _, iv, h3, io, fun C CT hds nx fin thr z => ?_⟩
        rw [List.map_cons, ha]
        show nx (am_ts d lo hi offs a) lv (r.map (fv_de ρ)) h
        unfold am_ts
        rw [if_pos (by omega)]
        exact z
      · obtain ⟨b, iv2, k1, k2, k3⟩ := fv_sw_ok ha (D := d) h3 io hd2 (by omega)
        refine Or.inl ⟨_, _, iv2, k1, k2, fun C CT hds nx fin thr z => ?_⟩
        rw [List.map_cons, ha]
        show nx (am_ts d lo hi offs a) lv (r.map (fv_de ρ)) h
        have e2 : am_ts d lo hi offs a = b := by
          rw [k3]
          unfold am_ts
          by_cases hc : a.toInt < lo ∨ hi < a.toInt
          · rw [if_pos hc, if_pos (by omega)]
          · rw [if_neg hc, if_neg (by omega)]
            simp [Array.getD_eq_getD_getElem?, List.getD_eq_getElem?_getD]
        rw [e2]
        exact z
    · have e1 : fv_tm bi (.tableswitch d lo hi offs) = (fun _ _ _ _ _ _ => false, ()) := by
        unfold fv_tm
        simp only [hd, decide_false]
      rw [e1] at hx
      exact absurd hx Bool.false_ne_true
  case invokeinterface y m => exact Or.inr (Or.inr (Or.inr ⟨y, m, rfl, hx⟩))
  case multianewarray x i =>
    obtain ⟨h1, h2⟩ := fv_e_t (show fv_e st _ = true from hx)
    obtain ⟨h3, h4⟩ := fv_iff h2
    subst h1
    exact Or.inr (Or.inr (Or.inl ⟨x, fv_ltt h3, h4, fun C CT hds nx fin thr z => z⟩))
  case ireturn =>
    obtain ⟨v, h1, h2, h3⟩ := hret (show fv_ret fv_isI e lvN st n T iv = true from hx)
    obtain ⟨x, hv⟩ := fv_isI_t (ρ := ρ) h2
    refine Or.inr (Or.inl ⟨h3, some (.int x), ?_, fun C CT hds nx fin thr z => ?_⟩) <;> rw [h1, List.map_cons, hv]
    · rfl
    · exact z
  case lreturn =>
    obtain ⟨v, h1, h2, h3⟩ := hret (show fv_ret fv_isJ e lvN st n T iv = true from hx)
    obtain ⟨x, hv⟩ := fv_isJ_t (ρ := ρ) h2
    refine Or.inr (Or.inl ⟨h3, some (.long x), ?_, fun C CT hds nx fin thr z => ?_⟩) <;> rw [h1, List.map_cons, hv]
    · rfl
    · exact z
  case dreturn =>
    obtain ⟨v, h1, h2, h3⟩ := hret (show fv_ret fv_isD e lvN st n T iv = true from hx)
    obtain ⟨x, hv⟩ := fv_isD_d (ρ := ρ) h2
    refine Or.inr (Or.inl ⟨h3, some (.double x), ?_, fun C CT hds nx fin thr z => ?_⟩) <;> rw [h1, List.map_cons, hv]
    · rfl
    · exact z
  case freturn =>
    obtain ⟨v, h1, h2, h3⟩ := hret (show fv_ret (Nat.beq 23) e lvN st n T iv = true from hx)
    cases fv_beq h2
    refine Or.inr (Or.inl ⟨h3, some (.float FP.fconst0), ?_, fun C CT hds nx fin thr z => ?_⟩) <;> rw [h1]
    · rfl
    · exact z
  case areturn =>
    obtain ⟨v, h1, h2, h3⟩ := hret (show fv_ret fv_isR e lvN st n T iv = true from hx)
    have hv := fv_isR_t (ρ := ρ) h2
    refine Or.inr (Or.inl ⟨h3, some (fv_de ρ v), ?_, fun C CT hds nx fin thr z => ?_⟩) <;> rw [h1]
    · rfl
    · show (match (if am_isR (fv_de ρ v) = true then some (some (fv_de ρ v)) else none) with
        | some v => fin v h
        | none => False)
      rw [if_pos hv]
      exact z
  case return_ =>
    obtain ⟨h1, h2⟩ := fv_e_t (show fv_e st _ = true from hx)
    subst h1
    exact Or.inr (Or.inl ⟨h2, none, rfl, fun C CT hds nx fin thr z => z⟩)
  all_goals exact absurd hx Bool.false_ne_true
theorem fv_cb_ok (hsc : sc.length ≤ 13) (hρ : fv_rh sc ρ) {bi : Nat} {t : Instr} {e : fv_E} : ∀ {is : List Instr} {lvN st : List Nat} {n : Nat} {T : fv_T} {iv : fv_Iv} {lv : am_V} {h : am_H}, fv_go (fv_cb bi t is) e lvN st n T iv = true → fv_iok ρ iv → fv_L ρ lvN lv → fv_rel ρ n T h →
    ∃ (lvN2 st2 : List Nat) (n2 : Nat) (T2 : fv_T) (iv2 : fv_Iv) (lv2 : am_V) (h2 : am_H), fv_go (fv_tm bi t) e lvN2 st2 n2 T2 iv2 = true ∧ fv_iok ρ iv2 ∧ fv_L ρ lvN2 lv2 ∧ fv_rel ρ n2 T2 h2 ∧ am_bk sc is lv (st.map (fv_de ρ)) h = some (lv2, st2.map (fv_de ρ), h2)
  | [], lvN, st, n, T, iv, lv, h, hx, io, hl, hr => ⟨lvN, st, n, T, iv, lv, h, hx, io, hl, hr, rfl⟩
  | a :: r, lvN, st, n, T, iv, lv, h, hx, io, hl, hr => by
    have hx : fv_go (fv_in a (fv_go (fv_cb bi t r))) e lvN st n T iv = true := hx
    obtain ⟨lvN1, st1, n1, T1, iv1, lv1, h1, k1, k2, k3, k4, k5⟩ := fv_in_ok hsc hρ a _ e lvN st n T iv lv h hx io hl hr
    obtain ⟨lvN2, st2, n2, T2, iv2, lv2, h2, j1, j2, j3, j4, j5⟩ := fv_cb_ok hsc hρ k1 k2 k3 k4
    refine ⟨lvN2, st2, n2, T2, iv2, lv2, h2, j1, j2, j3, j4, ?_⟩
    unfold am_bk
    rw [k5]
    exact j5
theorem fv_bl_ok (hsc : sc.length ≤ 13) (hρ : fv_rh sc ρ) {code : List (List Instr × Instr)} {bi : Nat} {e : fv_E} {lvN st : List Nat} {n : Nat} {T : fv_T} {iv : fv_Iv} {lv : am_V} {h : am_H} (hx : fv_go (fv_bl code bi) e lvN st n T iv = true) (io : fv_iok ρ iv) (hl : fv_L ρ lvN lv) (hr : fv_rel ρ n T h) :
    ∃ q, code[bi]? = some q ∧ ∃ (lvN2 st2 : List Nat) (n2 : Nat) (T2 : fv_T) (iv2 : fv_Iv) (lv2 : am_V) (h2 : am_H), fv_go (fv_tm bi q.2) e lvN2 st2 n2 T2 iv2 = true ∧ fv_iok ρ iv2 ∧ fv_L ρ lvN2 lv2 ∧ fv_rel ρ n2 T2 h2 ∧ am_bk sc q.1 lv (st.map (fv_de ρ)) h = some (lv2, st2.map (fv_de ρ), h2) := by
  have hx : fv_go (fv_cb bi (fv_nth code bi ([], .athrow)).2 (fv_nth code bi ([], .athrow)).1) e lvN st n T iv = true := hx
  rw [fv_nth_eq] at hx
  by_cases hb : bi < code.length
  · refine ⟨code.getD bi ([], .athrow), ?_, fv_cb_ok hsc hρ hx io hl hr⟩
    rw [List.getD_eq_getElem?_getD, List.getElem?_eq_getElem hb]
    rfl
  · rw [fv_gd (by omega)] at hx
    exact absurd hx Bool.false_ne_true
theorem fv_tk_ok {k : List Nat → List Nat → Bool} : ∀ {m : Nat} {st acc : List Nat}, fv_tk m st acc k = true → m ≤ st.length ∧ k ((st.take m).reverse ++ acc) (st.drop m) = true
  | 0, st, acc, h => ⟨Nat.zero_le _, h⟩
  | m + 1, st, acc, h => by
    obtain ⟨a, r, rfl, h1⟩ := fv_u_t (show fv_u st (fun a r => fv_tk m r (a :: acc) k) = true from h)
    obtain ⟨h2, h3⟩ := fv_tk_ok h1
    refine ⟨by simp only [List.length_cons]; omega, ?_⟩
    simpa using h3
theorem fv_hd_ok {hds : List (Nat × Nat × Nat)} {bi x b : Nat} (h : fv_hd hds bi x = b + 1) : am_hdl hds bi x = some b := by
  induction hds with
  | nil => exact absurd h (by show ¬ 0 = b + 1; omega)
  | cons q r ih =>
    have h : @Bool.rec (fun _ => Nat) (fv_hd r bi x) (Nat.succ q.2.2) (fv_if (Nat.beq q.1 bi) (Nat.beq q.2.1 x) false) = b + 1 := h
    unfold am_hdl
    cases hc : fv_if (Nat.beq q.1 bi) (Nat.beq q.2.1 x) false with
    | true =>
      rw [hc] at h
      obtain ⟨h1, h2⟩ := fv_iff hc
      rw [if_pos ⟨fv_beq h1, fv_beq h2⟩]
      have h : q.2.2 + 1 = b + 1 := h
      exact congrArg some (by omega)
    | false =>
      rw [hc] at h
      rw [if_neg]
      · exact ih h
      · rintro ⟨h1, h2⟩
        subst h1 h2
        have e1 : Nat.beq q.1 q.1 = true := Nat.beq_refl _
        have e2 : Nat.beq q.2.1 q.2.1 = true := Nat.beq_refl _
        rw [e1, e2] at hc
        exact absurd hc (by decide)
/-- a callee, as the quick machine has it -/
def fv_cok (ρ : Nat → Int32) (cal : fv_Cl) (C : am_Rl) (CT : am_Rt) : Prop := ∀ (y : Nat) (as : List Nat) (ret : fv_R) (thr : fv_H) (n : Nat) (T : fv_T) (iv : fv_Iv) (h : am_H), cal y as ret thr n T iv = true → fv_iok ρ iv → fv_rel ρ n T h →
  (∃ vs n2 T2 iv2 v h2, ret vs n2 T2 iv2 = true ∧ fv_iok ρ iv2 ∧ fv_rel ρ n2 T2 h2 ∧ (v : Option Value).toList = vs.map (fv_de ρ) ∧ C y (as.map (fv_de ρ)) h v h2) ∨
  (∃ x n2 T2 iv2 h2, thr x n2 T2 iv2 = true ∧ fv_iok ρ iv2 ∧ fv_rel ρ n2 T2 h2 ∧ CT y (as.map (fv_de ρ)) h x h2)
/-- where a run comes to: stops at a block, an answer, a throw -/
def fv_out (sc : List Int32) (ρ : Nat → Int32) (C : am_Rl) (CT : am_Rt) (code : List (List Instr × Instr)) (hds : List (Nat × Nat × Nat)) (sb : Nat) (sto : fv_S) (ret : fv_R) (thr : fv_H) (bi : Nat) (lv : am_V) (st : List Value) (h : am_H) : Prop :=
  (∃ lvN st2 n2 T2 iv2 lv2 h2, sto lvN st2 n2 T2 iv2 = true ∧ fv_iok ρ iv2 ∧ fv_L ρ lvN lv2 ∧ fv_rel ρ n2 T2 h2 ∧ ∀ fin thr0, (∃ k, am_go sc C CT code hds fin thr0 k sb lv2 (st2.map (fv_de ρ)) h2) → ∃ k, am_go sc C CT code hds fin thr0 k bi lv st h) ∨
  (∃ vs n2 T2 iv2 v h2, ret vs n2 T2 iv2 = true ∧ fv_iok ρ iv2 ∧ fv_rel ρ n2 T2 h2 ∧ (v : Option Value).toList = vs.map (fv_de ρ) ∧ ∀ fin thr0, fin v h2 → ∃ k, am_go sc C CT code hds fin thr0 k bi lv st h) ∨
  (∃ x n2 T2 iv2 h2, x < 3 ∧ thr x n2 T2 iv2 = true ∧ fv_iok ρ iv2 ∧ fv_rel ρ n2 T2 h2 ∧ ∀ fin thr0, thr0 x h2 → ∃ k, am_go sc C CT code hds fin thr0 k bi lv st h)
theorem fv_rc_ok {ci n : Nat} {as : List Nat} {T : fv_T} {h : am_H} (r : fv_rel ρ n T h) (e : fv_rc ci as T = true) : am_rcv ci (as.map (fv_de ρ)) h = true := by
  obtain ⟨v, q, rfl, h1⟩ := fv_u_t (show fv_u as _ = true from e)
  rcases fv_ift h1 with ⟨h2, h3⟩ | ⟨-, h2⟩
  · obtain ⟨c, z, s, h5, h6⟩ := fv_o_ok r h3
    obtain ⟨h7, h8⟩ := fv_iff h5
    have h8 := fv_ltt h8
    rcases h6 with h6 | ⟨-, h6, -⟩
    · omega
    · rw [List.map_cons, fv_d2 (fv_beq h2)]
      show (match h[v / 8]? with
        | some o => o.1 == ci
        | none => false) = true
      rw [fv_div_h] at h6
      rw [h6]
      simp [fv_beq h7]
  · obtain ⟨h3, h4⟩ := fv_iff h2
    obtain ⟨h5, h6⟩ := fv_iff h4
    rw [List.map_cons, fv_d3 (fv_beq h3)]
    show (ci == 63 && decide (v / 8 < am_txt.length)) = true
    have h7 := fv_ltt h6
    rw [fv_div_h] at h7
    rw [fv_txt_len]
    simp [fv_beq h5, h7]
/-- one block more -/
theorem fv_step (hsc : sc.length ≤ 13) (hρ : fv_rh sc ρ) {cal : fv_Cl} {C : am_Rl} {CT0 CT : am_Rt} {code : List (List Instr × Instr)} {hds : List (Nat × Nat × Nat)} {sb : Nat} {sto : fv_S} {ret : fv_R} {thr : fv_H} {go : Nat → fv_S} (hcal : fv_cok ρ cal C CT0) (hT : ∀ y As h x h2, CT0 y As h x h2 → ¬ hds = [] → CT y As h x h2)
    (hgo : ∀ bi lvN st n T iv lv h, go bi lvN st n T iv = true → fv_iok ρ iv → fv_L ρ lvN lv → fv_rel ρ n T h → fv_out sc ρ C CT code hds sb sto ret thr bi lv (st.map (fv_de ρ)) h)
    {bi : Nat} {lvN st : List Nat} {n : Nat} {T : fv_T} {iv : fv_Iv} {lv : am_V} {h : am_H} (hx : fv_go (fv_bl code bi) (fv_ac cal hds ret thr go) lvN st n T iv = true) (io : fv_iok ρ iv) (hl : fv_L ρ lvN lv) (hr : fv_rel ρ n T h) : fv_out sc ρ C CT code hds sb sto ret thr bi lv (st.map (fv_de ρ)) h := by
  obtain ⟨q, hq, lvN1, st1, n1, T1, iv1, lv1, h1, k1, k2, k3, k4, k5⟩ := fv_bl_ok hsc hρ hx io hl hr
  have lift : ∀ {fin : Option Value → am_H → Prop} {thr0 : Nat → am_H → Prop}, (∃ k, am_tm C CT hds (am_go sc C CT code hds fin thr0 k) fin thr0 q.2 bi lv1 (st1.map (fv_de ρ)) h1) → ∃ k, am_go sc C CT code hds fin thr0 k bi lv (st.map (fv_de ρ)) h := by
    rintro fin thr0 ⟨k, hk⟩
    refine ⟨k + 1, ?_⟩
    unfold am_go
    rw [hq]
    simp only [k5]
    exact hk
  rcases fv_tm_ok (lv := lv1) (h := h1) k1 k2 with ⟨b, st2, iv2, j1, j2, j3⟩ | ⟨j1, r, j2, j3⟩ | ⟨x, j1, j2, j3⟩ | ⟨y, m, j1, j2⟩
  · have j1 : go b lvN1 st2 n1 T1 iv2 = true := j1
    rcases hgo _ _ _ _ _ _ _ _ j1 j2 k3 k4 with ⟨lvN2, st3, n2, T2, iv3, lv2, h2, g1, g2, g3, g4, g5⟩ | ⟨vs, n2, T2, iv3, v, h2, g1, g2, g3, g4, g5⟩ | ⟨x, n2, T2, iv3, h2, g1, g2, g3, g4, g5⟩
    · exact Or.inl ⟨lvN2, st3, n2, T2, iv3, lv2, h2, g1, g2, g3, g4, fun fin thr0 z => lift (by
        obtain ⟨k, hk⟩ := g5 fin thr0 z
        exact ⟨k, j3 _ _ _ _ _ _ hk⟩)⟩
    · exact Or.inr (Or.inl ⟨vs, n2, T2, iv3, v, h2, g1, g2, g3, g4, fun fin thr0 z => lift (by
        obtain ⟨k, hk⟩ := g5 fin thr0 z
        exact ⟨k, j3 _ _ _ _ _ _ hk⟩)⟩)
    · exact Or.inr (Or.inr ⟨x, n2, T2, iv3, h2, g1, g2, g3, g4, fun fin thr0 z => lift (by
        obtain ⟨k, hk⟩ := g5 fin thr0 z
        exact ⟨k, j3 _ _ _ _ _ _ hk⟩)⟩)
  · exact Or.inr (Or.inl ⟨st1, n1, T1, iv1, r, h1, j1, k2, k4, j2, fun fin thr0 z => lift ⟨0, j3 _ _ _ _ _ _ z⟩⟩)
  · exact Or.inr (Or.inr ⟨x, n1, T1, iv1, h1, j1, j2, k2, k4, fun fin thr0 z => lift ⟨0, j3 _ _ _ _ _ _ z⟩⟩)
  · have j2 : fv_call cal hds go bi y m lvN1 st1 n1 T1 iv1 = true := j2
    unfold fv_call at j2
    obtain ⟨i1, i2⟩ := fv_tk_ok j2
    rw [List.append_nil] at i2
    obtain ⟨i3, i4⟩ := fv_iff i2
    obtain ⟨i5, i6⟩ := fv_iff i4
    rw [fv_mod_h] at i1 i3 i5 i6
    rw [fv_div_h] at i5
    have hargs : ((st1.map (fv_de ρ)).take (m % 64)).reverse = ((st1.take (m % 64)).reverse).map (fv_de ρ) := by rw [List.map_reverse, List.map_take]
    have hrest : (st1.map (fv_de ρ)).drop (m % 64) = (st1.drop (m % 64)).map (fv_de ρ) := by rw [List.map_drop]
    have w1 : m % 64 ≤ (st1.map (fv_de ρ)).length := by rw [List.length_map]; exact i1
    have w2 : am_cs ((st1.map (fv_de ρ)).drop (m % 64)) ≤ 8 := by rw [hrest]; exact fv_cl_t i3
    have w3 : m / 64 = 0 ∨ am_rcv (m / 64) ((st1.map (fv_de ρ)).take (m % 64)).reverse h1 = true := by
      by_cases hz : m / 64 = 0
      · exact Or.inl hz
      · refine Or.inr ?_
        obtain ⟨c, hc⟩ : ∃ c, m / 64 = c + 1 := ⟨m / 64 - 1, by omega⟩
        rw [hc] at i5 ⊢
        rw [hargs]
        exact fv_rc_ok k4 i5
    have tmc : ∀ {fin : Option Value → am_H → Prop} {thr0 : Nat → am_H → Prop} {k : Nat}, ((∃ v h2, C y ((st1.map (fv_de ρ)).take (m % 64)).reverse h1 v h2 ∧ am_go sc C CT code hds fin thr0 k (bi + 1) lv1 (v.toList ++ (st1.map (fv_de ρ)).drop (m % 64)) h2) ∨ (∃ x h2 b2, CT y ((st1.map (fv_de ρ)).take (m % 64)).reverse h1 x h2 ∧ am_hdl hds bi x = some b2 ∧ am_go sc C CT code hds fin thr0 k (b2 / 64) (am_dl lv1 (b2 % 64)) [] (h2 ++ [am_junk]))) → am_tm C CT hds (am_go sc C CT code hds fin thr0 k) fin thr0 q.2 bi lv1 (st1.map (fv_de ρ)) h1 := by
      intro fin thr0 k z
      rw [j1]
      exact ⟨w1, w2, w3, z⟩
    rcases hcal y _ _ _ _ _ _ _ i6 k2 k4 with ⟨vs, n2, T2, iv2, v, h2, g1, g2, g3, g4, g5⟩ | ⟨x, n2, T2, iv2, h2, g1, g2, g3, g4⟩
    · have g1 : ∃ st3, go (bi + 1) lvN1 st3 n2 T2 iv2 = true ∧ st3.map (fv_de ρ) = v.toList ++ (st1.map (fv_de ρ)).drop (m % 64) := by
        rw [hrest, g4]
        cases vs with
        | nil => exact ⟨_, g1, rfl⟩
        | cons w ws =>
          cases ws with
          | nil => exact ⟨_, g1, rfl⟩
          | cons w2 ws => cases v <;> simp at g4
      obtain ⟨st3, g1, g6⟩ := g1
      rw [← hargs] at g5
      rcases hgo _ _ _ _ _ _ _ _ g1 g2 k3 g3 with ⟨lvN2, st4, n3, T3, iv3, lv2, h3, f1, f2, f3, f4, f5⟩ | ⟨vs3, n3, T3, iv3, v3, h3, f1, f2, f3, f4, f5⟩ | ⟨x, n3, T3, iv3, h3, f1, f2, f3, f4, f5⟩
      · exact Or.inl ⟨lvN2, st4, n3, T3, iv3, lv2, h3, f1, f2, f3, f4, fun fin thr0 z => lift (by
          obtain ⟨k, hk⟩ := f5 fin thr0 z
          rw [g6] at hk
          exact ⟨k, tmc (Or.inl ⟨v, h2, g5, hk⟩)⟩)⟩
      · exact Or.inr (Or.inl ⟨vs3, n3, T3, iv3, v3, h3, f1, f2, f3, f4, fun fin thr0 z => lift (by
          obtain ⟨k, hk⟩ := f5 fin thr0 z
          rw [g6] at hk
          exact ⟨k, tmc (Or.inl ⟨v, h2, g5, hk⟩)⟩)⟩)
      · exact Or.inr (Or.inr ⟨x, n3, T3, iv3, h3, f1, f2, f3, f4, fun fin thr0 z => lift (by
          obtain ⟨k, hk⟩ := f5 fin thr0 z
          rw [g6] at hk
          exact ⟨k, tmc (Or.inl ⟨v, h2, g5, hk⟩)⟩)⟩)
    · unfold fv_hk at g1
      cases hb : fv_hd hds bi x with
      | zero =>
        rw [hb] at g1
        exact absurd g1 Bool.false_ne_true
      | succ b2 =>
        rw [hb] at g1
        have hne : ¬ hds = [] := by
          rintro rfl
          exact absurd hb (by show ¬ 0 = b2 + 1; omega)
        have g1 : fv_mk 199 6 [4, 4, 4, 4, 4, 4] (fun _ n t => go (Nat.div b2 64) (fv_s1 lvN1 (Nat.mod b2 64) 7) [] n t iv2) n2 T2 = true := g1
        obtain ⟨-, u, n3, T3, g5, -, g6⟩ := fv_mk_ok g3 (s := [4, 4, 4, 4, 4, 4]) rfl g1
        have g5 : go (b2 / 64) (fv_s1 lvN1 (b2 % 64) 7) [] n3 T3 iv2 = true := g5
        have g6 : fv_rel ρ n3 T3 (h2 ++ [am_junk]) := g6
        have g7 := hT _ _ _ _ _ g4 hne
        rw [← hargs] at g7
        rcases hgo _ _ _ _ _ _ _ _ g5 g2 (fv_L_dl k3) g6 with ⟨lvN2, st4, n4, T4, iv3, lv2, h3, f1, f2, f3, f4, f5⟩ | ⟨vs3, n4, T4, iv3, v3, h3, f1, f2, f3, f4, f5⟩ | ⟨x2, n4, T4, iv3, h3, f1, f2, f3, f4, f5⟩
        · exact Or.inl ⟨lvN2, st4, n4, T4, iv3, lv2, h3, f1, f2, f3, f4, fun fin thr0 z => lift (by
            obtain ⟨k, hk⟩ := f5 fin thr0 z
            exact ⟨k, tmc (Or.inr ⟨x, h2, b2, g7, fv_hd_ok hb, hk⟩)⟩)⟩
        · exact Or.inr (Or.inl ⟨vs3, n4, T4, iv3, v3, h3, f1, f2, f3, f4, fun fin thr0 z => lift (by
            obtain ⟨k, hk⟩ := f5 fin thr0 z
            exact ⟨k, tmc (Or.inr ⟨x, h2, b2, g7, fv_hd_ok hb, hk⟩)⟩)⟩)
        · exact Or.inr (Or.inr ⟨x2, n4, T4, iv3, h3, f1, f2, f3, f4, fun fin thr0 z => lift (by
            obtain ⟨k, hk⟩ := f5 fin thr0 z
            exact ⟨k, tmc (Or.inr ⟨x, h2, b2, g7, fv_hd_ok hb, hk⟩)⟩)⟩)
theorem fv_ev_ok (hsc : sc.length ≤ 13) (hρ : fv_rh sc ρ) {cal : fv_Cl} {C : am_Rl} {CT0 CT : am_Rt} {code : List (List Instr × Instr)} {hds : List (Nat × Nat × Nat)} {sb : Nat} {ret : fv_R} {thr : fv_H} (hcal : fv_cok ρ cal C CT0) (hT : ∀ y As h x h2, CT0 y As h x h2 → ¬ hds = [] → CT y As h x h2) :
    ∀ (fuel bi : Nat) (lvN st : List Nat) (n : Nat) (T : fv_T) (iv : fv_Iv) (lv : am_V) (h : am_H), fv_ev cal code hds ret thr fuel bi lvN st n T iv = true → fv_iok ρ iv → fv_L ρ lvN lv → fv_rel ρ n T h → fv_out sc ρ C CT code hds sb (fun _ _ _ _ _ => false) ret thr bi lv (st.map (fv_de ρ)) h
  | 0, _, _, _, _, _, _, _, _, hx, _, _, _ => absurd hx Bool.false_ne_true
  | f + 1, bi, lvN, st, n, T, iv, lv, h, hx, io, hl, hr => by
    have hx : fv_go (fv_bl code bi) (fv_ac cal hds ret thr (fv_ev cal code hds ret thr f)) lvN st n T iv = true := hx
    exact fv_step hsc hρ hcal hT (fun bi lvN st n T iv lv h => fv_ev_ok hsc hρ hcal hT f bi lvN st n T iv lv h) hx io hl hr
theorem fv_evs_ok (hsc : sc.length ≤ 13) (hρ : fv_rh sc ρ) {cal : fv_Cl} {C : am_Rl} {CT0 CT : am_Rt} {code : List (List Instr × Instr)} {sb : Nat} {sto : fv_S} {ret : fv_R} (hcal : fv_cok ρ cal C CT0) :
    ∀ (fuel bi : Nat) (lvN st : List Nat) (n : Nat) (T : fv_T) (iv : fv_Iv) (lv : am_V) (h : am_H), fv_evs cal code sb sto ret fuel bi lvN st n T iv = true → fv_iok ρ iv → fv_L ρ lvN lv → fv_rel ρ n T h → fv_out sc ρ C CT code [] sb sto ret (fun _ _ _ _ => false) bi lv (st.map (fv_de ρ)) h
  | 0, _, _, _, _, _, _, _, _, hx, _, _, _ => absurd hx Bool.false_ne_true
  | f + 1, bi, lvN, st, n, T, iv, lv, h, hx, io, hl, hr => by
    have hx : fv_if (Nat.beq bi sb) (sto lvN st n T iv) (fv_go (fv_bl code bi) (fv_ac cal [] ret (fun _ _ _ _ => false) (fv_evs cal code sb sto ret f)) lvN st n T iv) = true := hx
    rcases fv_ift hx with ⟨h1, h2⟩ | ⟨-, h2⟩
    · have h1 := fv_beq h1
      subst h1
      exact Or.inl ⟨lvN, st, n, T, iv, lv, h, h2, io, hl, hr, fun _ _ z => z⟩
    · exact fv_step hsc hρ hcal (fun _ _ _ _ _ _ z => absurd rfl z) (fun bi lvN st n T iv lv h => fv_evs_ok hsc hρ hcal f bi lvN st n T iv lv h) h2 io hl hr
theorem fv_ty_ok {ty : Option FieldType} {vs : List Nat} {v : Option Value} (h : fv_ty (fv_tn ty) vs = true) (hv : v.toList = vs.map (fv_de ρ)) : am_tyok ty v = true := by
  cases vs with
  | nil =>
    have h : Nat.beq (fv_tn ty) 0 = true := h
    have h := fv_beq h
    cases v with
    | some w => simp at hv
    | none =>
      cases ty with
      | none => rfl
      | some ty => cases ty <;> (unfold fv_tn at h; simp at h)
  | cons w r =>
    obtain ⟨h1, h2⟩ := fv_e_t (show fv_e r (fv_ty1 (fv_tn ty) w) = true from h)
    subst h1
    cases v with
    | none => simp at hv
    | some u =>
      have hu : u = fv_de ρ w := by simpa using hv
      subst hu
      cases ty with
      | none => exact absurd h2 Bool.false_ne_true
      | some ty =>
        cases ty with
        | int => obtain ⟨x, hx⟩ := fv_isI_t (ρ := ρ) h2; rw [hx]; rfl
        | boolean =>
          obtain ⟨x, hx, h01⟩ := fv_b01_t (ρ := ρ) h2
          rw [hx]
          rcases h01 with rfl | rfl <;> rfl
        | long => obtain ⟨x, hx⟩ := fv_isJ_t (ρ := ρ) h2; rw [hx]; rfl
        | byte =>
          have h2 : Nat.beq w 0 = true := h2
          cases fv_beq h2
          rfl
        | char =>
          have h2 : fv_if (Nat.beq (Nat.mod w 8) 0) (fv_lt w 524288) false = true := h2
          obtain ⟨h3, h4⟩ := fv_iff h2
          have h4 := fv_ltt h4
          rw [fv_d0 (fv_beq h3)]
          show ((Int32.ofNat (w / 8)).toUInt32.toUInt16.toUInt32.toInt32 == Int32.ofNat (w / 8)) = true
          have e : (Int32.ofNat (w / 8)).toUInt32.toUInt16.toUInt32.toInt32 = Int32.ofNat (w / 8) := by
            have e2 : (UInt32.ofNat (w / 8)).toUInt16.toUInt32 = UInt32.ofNat (w / 8) := by
              apply UInt32.toNat_inj.1
              rw [UInt16.toNat_toUInt32, UInt32.toNat_toUInt16, UInt32.toNat_ofNat']
              show w / 8 % 4294967296 % 65536 = w / 8 % 4294967296
              omega
            show ((UInt32.ofNat (w / 8)).toUInt16.toUInt32).toInt32 = _
            rw [e2]
            rfl
          rw [e]
          exact beq_self_eq_true _
        | object c => exact fv_isR_t h2
        | array c => exact fv_isR_t h2
        | double => obtain ⟨x, hx⟩ := fv_isD_d (ρ := ρ) h2; rw [hx]; rfl
        | float =>
          have h2 : Nat.beq w 23 = true := h2
          cases fv_beq h2
          rfl
        | short => exact absurd h2 Bool.false_ne_true
theorem fv_fm_eq {ms : am_Ms} {y : Nat} : fv_fm ms y = am_fm ms y := by
  induction ms with
  | nil => rfl
  | cons z r ih =>
    have e : fv_fm (z :: r) y = @Bool.rec (fun _ => Option (Nat × Option FieldType × List (List Instr × Instr))) (fv_fm r y) (some z.2) (Nat.beq z.1 y) := rfl
    rw [e]
    unfold am_fm
    cases h : Nat.beq z.1 y with
    | true => rw [if_pos (fv_beq h)]
    | false => rw [if_neg (fv_bne h)]; exact ih
theorem fv_chk_ok {as : List Nat} {iv : fv_Iv} {k : Bool} (h : fv_chk as iv k = true) (io : fv_iok ρ iv) : k = true ∧ ∃ a b : Nat, as.map (fv_de ρ) = [.int (Int32.ofNat a), .int (Int32.ofNat b)] ∧ a < b ∧ b < 2147483648 := by
  obtain ⟨x, r, h1, h⟩ := fv_u_t (show fv_u as _ = true from h)
  obtain ⟨y, q, h2, h⟩ := fv_u_t h
  obtain ⟨h3, h⟩ := fv_e_t h
  obtain ⟨a, h4, h⟩ := fv_int_ok (ρ := ρ) h io
  obtain ⟨b, h5, h⟩ := fv_int_ok (ρ := ρ) h io
  obtain ⟨h6, h⟩ := fv_iff h
  obtain ⟨h7, h⟩ := fv_iff h
  refine ⟨h, a, b, ?_, fv_ltt h6, fv_ltt h7⟩
  rw [h1, h2, h3, List.map_cons, List.map_cons, h4, h5]
  rfl
def fv_ctd (sc : List Int32) (cds : List am_Cd) : Nat → am_Rt
  | 0 => am_noT
  | d + 1 => am_ct sc cds d
theorem fv_cal_ok (hsc : sc.length ≤ 13) (hρ : fv_rh sc ρ) {cds : List am_Cd} {ms : am_Ms} (hms : am_msok cds ms) (h533 : ∀ (d a b : Nat) (h : am_H), a < b → b < 2147483648 → am_ca sc cds (d + 2) 533 [.int (Int32.ofNat a), .int (Int32.ofNat b)] h none h) :
    ∀ d, fv_cok ρ (fv_cal ms d) (am_ca sc cds d) (fv_ctd sc cds d)
  | 0 => fun _ _ _ _ _ _ _ _ hx => absurd hx Bool.false_ne_true
  | d + 1 => fun y as ret thr n T iv h hx io hr => by
    have hx : fv_if (Nat.beq y 533) (@Nat.rec (fun _ => Bool) false (fun _ _ => fv_chk as iv (ret [] n T iv)) d) (fv_me (fv_fm ms y) (fun mx ty code => fv_if (fv_cl as mx) (fv_ev (fv_cal ms d) code [] (fv_rt ty ret) thr 100000 0 (fv_lvs as mx) [] n T iv) false)) = true := hx
    rcases fv_ift hx with ⟨h1, h2⟩ | ⟨-, h2⟩
    · cases fv_beq h1
      cases d with
      | zero => exact absurd h2 Bool.false_ne_true
      | succ d =>
        obtain ⟨h3, a, b, h4, h5, h6⟩ := fv_chk_ok h2 io
        exact Or.inl ⟨[], n, T, iv, none, h, h3, io, hr, rfl, by rw [h4]; exact h533 d a b h h5 h6⟩
    · rw [fv_fm_eq] at h2
      cases hz : am_fm ms y with
      | none => rw [hz] at h2; exact absurd h2 Bool.false_ne_true
      | some z =>
        rw [hz] at h2
        have h2 : fv_if (fv_cl as z.1) (fv_ev (fv_cal ms d) z.2.2 [] (fv_rt z.2.1 ret) thr 100000 0 (fv_lvs as z.1) [] n T iv) false = true := h2
        obtain ⟨h3, h4⟩ := fv_iff h2
        obtain ⟨q, starts, q1, q2, q3, q4, q5⟩ := hms _ (am_fm_in hz)
        simp only at q1 q3 q4 q5
        have hca : am_cs (as.map (fv_de ρ)) ≤ q.2.1 := by rw [q4]; exact fv_cl_t h3
        rcases fv_ev_ok hsc hρ (CT := am_noT) (sb := 0) (fv_cal_ok hsc hρ hms h533 d) (fun _ _ _ _ _ _ z => absurd rfl z) _ _ _ _ _ _ _ _ _ h4 io (fv_L_args as z.1) hr with ⟨_, _, _, _, _, _, _, g1, -⟩ | ⟨vs, n2, T2, iv2, v, h2, g1, g2, g3, g4, g5⟩ | ⟨x, n2, T2, iv2, h2, g0, g1, g2, g3, g4⟩
        · exact absurd g1 Bool.false_ne_true
        · obtain ⟨g6, g7⟩ := fv_iff (show fv_if (fv_ty (fv_tn z.2.1) vs) (ret vs n2 T2 iv2) false = true from g1)
          exact Or.inl ⟨vs, n2, T2, iv2, v, h2, g7, g2, g3, g4, q, z.2.2, starts, q1, q2, q3, by rw [q5]; exact fv_ty_ok g6 g4, hca, g5 _ _ ⟨rfl, rfl⟩⟩
        · exact Or.inr ⟨x, n2, T2, iv2, h2, g1, g2, g3, q, z.2.2, starts, q1, q2, q3, g0, hca, g4 _ _ ⟨rfl, rfl⟩⟩
/-- the wrappers are those of the code -/
def fv_wok (ws : fv_Ws) : Prop := ∀ z, z ∈ ws → ∃ (q : am_M) (starts : List Nat), am_mds[z.1]? = some q ∧ am_mk q = 3 ∧ am_ckW (am_hh q) (z.1, z.2.2.2.1, starts, z.2.2.2.2) = true ∧ q.2.1 = z.2.1 ∧ q.2.2.1 = z.2.2.1
theorem fv_fw_in {ws : fv_Ws} {y : Nat} {w : Nat × Option FieldType × List (List Instr × Instr) × List (Nat × Nat × Nat)} (h : fv_fw ws y = some w) : (y, w) ∈ ws := by
  induction ws with
  | nil => cases h
  | cons z r ih =>
    have e : fv_fw (z :: r) y = @Bool.rec (fun _ => Option (Nat × Option FieldType × List (List Instr × Instr) × List (Nat × Nat × Nat))) (fv_fw r y) (some z.2) (Nat.beq z.1 y) := rfl
    rw [e] at h
    cases hb : Nat.beq z.1 y with
    | true =>
      rw [hb] at h
      have h : some z.2 = some w := h
      cases h
      rw [← fv_beq hb]
      exact List.mem_cons_self
    | false =>
      rw [hb] at h
      exact List.mem_cons_of_mem _ (ih h)
/-- what the law calls: wrappers, and plain methods -/
def fv_CL (sc : List Int32) (cds : List am_Cd) (d : Nat) : am_Rl := fun y As h v h2 => am_cw sc cds d y As h v h2 ∨ am_ca sc cds (d + 2) y As h v h2
theorem fv_cw_ok (hsc : sc.length ≤ 13) (hρ : fv_rh sc ρ) {cds : List am_Cd} {ms : am_Ms} {ws : fv_Ws} (hms : am_msok cds ms) (hws : fv_wok ws) (h533 : ∀ (d a b : Nat) (h : am_H), a < b → b < 2147483648 → am_ca sc cds (d + 2) 533 [.int (Int32.ofNat a), .int (Int32.ofNat b)] h none h) (d : Nat) :
    fv_cok ρ (fv_cw ms ws d) (fv_CL sc cds d) (fun y As h x h2 => fv_ctd sc cds (d + 2) y As h x h2) := by
  intro y as ret thr n T iv h hx io hr
  unfold fv_cw at hx
  cases hw : fv_fw ws y with
  | none =>
    rw [hw] at hx
    have hx : fv_cal ms (d + 2) y as ret thr n T iv = true := hx
    rcases fv_cal_ok hsc hρ hms h533 (d + 2) y as ret thr n T iv h hx io hr with ⟨vs, n2, T2, iv2, v, h2, g1, g2, g3, g4, g5⟩ | g
    · exact Or.inl ⟨vs, n2, T2, iv2, v, h2, g1, g2, g3, g4, Or.inr g5⟩
    · exact Or.inr g
  | some w =>
    rw [hw] at hx
    have hx : fv_if (fv_cl as w.1) (fv_ev (fv_cal ms (d + 1)) w.2.2.1 w.2.2.2 (fv_rt w.2.1 ret) (fun _ _ _ _ => false) 100000 0 (fv_lvs as w.1) [] n T iv) false = true := hx
    obtain ⟨h3, h4⟩ := fv_iff hx
    obtain ⟨q, starts, q1, q2, q3, q4, q5⟩ := hws _ (fv_fw_in hw)
    simp only at q1 q3 q4 q5
    have hca : am_cs (as.map (fv_de ρ)) ≤ q.2.1 := by rw [q4]; exact fv_cl_t h3
    rcases fv_ev_ok hsc hρ (CT := am_ct sc cds d) (sb := 0) (fv_cal_ok hsc hρ hms h533 (d + 1)) (fun _ _ _ _ _ z _ => z) _ _ _ _ _ _ _ _ _ h4 io (fv_L_args as w.1) hr with ⟨_, _, _, _, _, _, _, g1, -⟩ | ⟨vs, n2, T2, iv2, v, h2, g1, g2, g3, g4, g5⟩ | ⟨x, n2, T2, iv2, h2, g0, g1, g2, g3, g4⟩
    · exact absurd g1 Bool.false_ne_true
    · obtain ⟨g6, g7⟩ := fv_iff (show fv_if (fv_ty (fv_tn w.2.1) vs) (ret vs n2 T2 iv2) false = true from g1)
      exact Or.inl ⟨vs, n2, T2, iv2, v, h2, g7, g2, g3, g4, Or.inl ⟨q, w.2.2.1, starts, w.2.2.2, q1, q2, q3, by rw [q5]; exact fv_ty_ok g6 g4, hca, g5 _ _ ⟨rfl, rfl⟩⟩⟩
    · exact absurd g1 Bool.false_ne_true
end FVR
end
