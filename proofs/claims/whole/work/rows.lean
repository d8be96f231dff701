section
-- ===== PART A: goes FIRST, ahead of the names: the tables' words, and 'selects' of the private methods out of them =====
/-- a private method of a class that the tables say can be made, by its rows of tables_1 -/
def lw_okq (q : MethodName × Nat) : Prop := (q.1.cls ≠ "java/lang/invoke/MethodHandle" ∧ q.1.cls ≠ "java/lang/invoke/VarHandle") ∧ Cond.instantiable q.1.cls q.2 ∈ tables_1 ∧ Cond.privateMethod q.1 ∈ tables_1 ∧ Cond.instanceMethod q.1 ∈ tables_1
theorem lw_p0 : lw_okq (⟨"java/util/ArrayList", "add", "(Ljava/lang/Object;[Ljava/lang/Object;I)V"⟩, 3) := ⟨⟨by decide +kernel, by decide +kernel⟩, List.mem_of_getElem? (i := 229) (by decide +kernel), List.mem_of_getElem? (i := 521) (by decide +kernel), List.mem_of_getElem? (i := 522) (by decide +kernel)⟩
theorem lw_p1 : lw_okq (⟨"java/util/ArrayList", "grow", "()[Ljava/lang/Object;"⟩, 3) := ⟨⟨by decide +kernel, by decide +kernel⟩, List.mem_of_getElem? (i := 229) (by decide +kernel), List.mem_of_getElem? (i := 525) (by decide +kernel), List.mem_of_getElem? (i := 526) (by decide +kernel)⟩
theorem lw_p2 : lw_okq (⟨"java/util/ArrayList", "grow", "(I)[Ljava/lang/Object;"⟩, 3) := ⟨⟨by decide +kernel, by decide +kernel⟩, List.mem_of_getElem? (i := 229) (by decide +kernel), List.mem_of_getElem? (i := 529) (by decide +kernel), List.mem_of_getElem? (i := 530) (by decide +kernel)⟩
theorem lw_p3 : lw_okq (⟨"Lanternserver", "servedMany", "()I"⟩, 17) := ⟨⟨by decide +kernel, by decide +kernel⟩, List.mem_of_getElem? (i := 46) (by decide +kernel), List.mem_of_getElem? (i := 664) (by decide +kernel), List.mem_of_getElem? (i := 665) (by decide +kernel)⟩
theorem lw_p4 : lw_okq (⟨"Lanternserver", "isServedNaively", "(I)Z"⟩, 17) := ⟨⟨by decide +kernel, by decide +kernel⟩, List.mem_of_getElem? (i := 46) (by decide +kernel), List.mem_of_getElem? (i := 668) (by decide +kernel), List.mem_of_getElem? (i := 669) (by decide +kernel)⟩
theorem lw_p5 : lw_okq (⟨"Lanternserver", "servedNumber", "(II)I"⟩, 17) := ⟨⟨by decide +kernel, by decide +kernel⟩, List.mem_of_getElem? (i := 46) (by decide +kernel), List.mem_of_getElem? (i := 672) (by decide +kernel), List.mem_of_getElem? (i := 673) (by decide +kernel)⟩
theorem lw_p6 : lw_okq (⟨"Lanternserver", "hasConnection", "(I)Z"⟩, 17) := ⟨⟨by decide +kernel, by decide +kernel⟩, List.mem_of_getElem? (i := 46) (by decide +kernel), List.mem_of_getElem? (i := 680) (by decide +kernel), List.mem_of_getElem? (i := 681) (by decide +kernel)⟩
theorem lw_p7 : lw_okq (⟨"Lanternserver$Reader", "feedBody", "(I)I"⟩, 19) := ⟨⟨by decide +kernel, by decide +kernel⟩, List.mem_of_getElem? (i := 374) (by decide +kernel), List.mem_of_getElem? (i := 712) (by decide +kernel), List.mem_of_getElem? (i := 713) (by decide +kernel)⟩
theorem lw_p8 : lw_okq (⟨"Lanternserver$Reader", "feedSize", "(I)I"⟩, 19) := ⟨⟨by decide +kernel, by decide +kernel⟩, List.mem_of_getElem? (i := 374) (by decide +kernel), List.mem_of_getElem? (i := 730) (by decide +kernel), List.mem_of_getElem? (i := 731) (by decide +kernel)⟩
theorem lw_p9 : lw_okq (⟨"Lanternserver$Reader", "expect", "(III)I"⟩, 19) := ⟨⟨by decide +kernel, by decide +kernel⟩, List.mem_of_getElem? (i := 374) (by decide +kernel), List.mem_of_getElem? (i := 735) (by decide +kernel), List.mem_of_getElem? (i := 736) (by decide +kernel)⟩
theorem lw_p10 : lw_okq (⟨"Lanternserver$Reader", "wrongInHead", "(I)I"⟩, 19) := ⟨⟨by decide +kernel, by decide +kernel⟩, List.mem_of_getElem? (i := 374) (by decide +kernel), List.mem_of_getElem? (i := 739) (by decide +kernel), List.mem_of_getElem? (i := 740) (by decide +kernel)⟩
theorem lw_p11 : lw_okq (⟨"Lanternserver$Reader", "canStand", "(I)Z"⟩, 19) := ⟨⟨by decide +kernel, by decide +kernel⟩, List.mem_of_getElem? (i := 374) (by decide +kernel), List.mem_of_getElem? (i := 743) (by decide +kernel), List.mem_of_getElem? (i := 744) (by decide +kernel)⟩
theorem lw_p12 : lw_okq (⟨"Lanternserver$Reader", "stepOn", "(I)V"⟩, 19) := ⟨⟨by decide +kernel, by decide +kernel⟩, List.mem_of_getElem? (i := 374) (by decide +kernel), List.mem_of_getElem? (i := 747) (by decide +kernel), List.mem_of_getElem? (i := 748) (by decide +kernel)⟩
theorem lw_p13 : lw_okq (⟨"Lanternserver$Reader", "methodIn", "()I"⟩, 19) := ⟨⟨by decide +kernel, by decide +kernel⟩, List.mem_of_getElem? (i := 374) (by decide +kernel), List.mem_of_getElem? (i := 751) (by decide +kernel), List.mem_of_getElem? (i := 752) (by decide +kernel)⟩
theorem lw_p14 : lw_okq (⟨"Lanternserver$Reader", "judge", "()I"⟩, 19) := ⟨⟨by decide +kernel, by decide +kernel⟩, List.mem_of_getElem? (i := 374) (by decide +kernel), List.mem_of_getElem? (i := 811) (by decide +kernel), List.mem_of_getElem? (i := 812) (by decide +kernel)⟩
theorem lw_p15 : lw_okq (⟨"Lanternserver$Reader", "noteVersion", "()V"⟩, 19) := ⟨⟨by decide +kernel, by decide +kernel⟩, List.mem_of_getElem? (i := 374) (by decide +kernel), List.mem_of_getElem? (i := 815) (by decide +kernel), List.mem_of_getElem? (i := 816) (by decide +kernel)⟩
def lw_privs_1 : List (MethodName × Nat) := [(⟨"java/util/ArrayList", "add", "(Ljava/lang/Object;[Ljava/lang/Object;I)V"⟩, 3), (⟨"java/util/ArrayList", "grow", "()[Ljava/lang/Object;"⟩, 3), (⟨"java/util/ArrayList", "grow", "(I)[Ljava/lang/Object;"⟩, 3), (⟨"Lanternserver", "servedMany", "()I"⟩, 17), (⟨"Lanternserver", "isServedNaively", "(I)Z"⟩, 17), (⟨"Lanternserver", "servedNumber", "(II)I"⟩, 17), (⟨"Lanternserver", "hasConnection", "(I)Z"⟩, 17), (⟨"Lanternserver$Reader", "feedBody", "(I)I"⟩, 19), (⟨"Lanternserver$Reader", "feedSize", "(I)I"⟩, 19), (⟨"Lanternserver$Reader", "expect", "(III)I"⟩, 19), (⟨"Lanternserver$Reader", "wrongInHead", "(I)I"⟩, 19), (⟨"Lanternserver$Reader", "canStand", "(I)Z"⟩, 19), (⟨"Lanternserver$Reader", "stepOn", "(I)V"⟩, 19), (⟨"Lanternserver$Reader", "methodIn", "()I"⟩, 19), (⟨"Lanternserver$Reader", "judge", "()I"⟩, 19), (⟨"Lanternserver$Reader", "noteVersion", "()V"⟩, 19)]
theorem lw_r1 : ∀ q ∈ lw_privs_1, lw_okq q := List.forall_mem_cons.mpr ⟨lw_p0, List.forall_mem_cons.mpr ⟨lw_p1, List.forall_mem_cons.mpr ⟨lw_p2, List.forall_mem_cons.mpr ⟨lw_p3, List.forall_mem_cons.mpr ⟨lw_p4, List.forall_mem_cons.mpr ⟨lw_p5, List.forall_mem_cons.mpr ⟨lw_p6, List.forall_mem_cons.mpr ⟨lw_p7, List.forall_mem_cons.mpr ⟨lw_p8, List.forall_mem_cons.mpr ⟨lw_p9, List.forall_mem_cons.mpr ⟨lw_p10, List.forall_mem_cons.mpr ⟨lw_p11, List.forall_mem_cons.mpr ⟨lw_p12, List.forall_mem_cons.mpr ⟨lw_p13, List.forall_mem_cons.mpr ⟨lw_p14, List.forall_mem_cons.mpr ⟨lw_p15, fun _ h => absurd h List.not_mem_nil⟩⟩⟩⟩⟩⟩⟩⟩⟩⟩⟩⟩⟩⟩⟩⟩
theorem lw_p16 : lw_okq (⟨"Lanternserver$Reader", "noteField", "()V"⟩, 19) := ⟨⟨by decide +kernel, by decide +kernel⟩, List.mem_of_getElem? (i := 374) (by decide +kernel), List.mem_of_getElem? (i := 821) (by decide +kernel), List.mem_of_getElem? (i := 822) (by decide +kernel)⟩
theorem lw_p17 : lw_okq (⟨"Lanternserver$Reader", "noteLength", "(I)V"⟩, 19) := ⟨⟨by decide +kernel, by decide +kernel⟩, List.mem_of_getElem? (i := 374) (by decide +kernel), List.mem_of_getElem? (i := 836) (by decide +kernel), List.mem_of_getElem? (i := 837) (by decide +kernel)⟩
theorem lw_p18 : lw_okq (⟨"Lanternserver$Reader", "noteValue", "(LLanternserver$Row;II)V"⟩, 19) := ⟨⟨by decide +kernel, by decide +kernel⟩, List.mem_of_getElem? (i := 374) (by decide +kernel), List.mem_of_getElem? (i := 846) (by decide +kernel), List.mem_of_getElem? (i := 847) (by decide +kernel)⟩
theorem lw_p19 : lw_okq (⟨"Lanternserver$House", "showList", "()I"⟩, 11) := ⟨⟨by decide +kernel, by decide +kernel⟩, List.mem_of_getElem? (i := 326) (by decide +kernel), List.mem_of_getElem? (i := 867) (by decide +kernel), List.mem_of_getElem? (i := 868) (by decide +kernel)⟩
theorem lw_p20 : lw_okq (⟨"Lanternserver$House", "placeOf", "(LLanternserver$Row;)I"⟩, 11) := ⟨⟨by decide +kernel, by decide +kernel⟩, List.mem_of_getElem? (i := 326) (by decide +kernel), List.mem_of_getElem? (i := 873) (by decide +kernel), List.mem_of_getElem? (i := 874) (by decide +kernel)⟩
theorem lw_p21 : lw_okq (⟨"Lanternserver$House", "show", "(LLanternserver$Reader;I)I"⟩, 11) := ⟨⟨by decide +kernel, by decide +kernel⟩, List.mem_of_getElem? (i := 326) (by decide +kernel), List.mem_of_getElem? (i := 882) (by decide +kernel), List.mem_of_getElem? (i := 883) (by decide +kernel)⟩
theorem lw_p22 : lw_okq (⟨"Lanternserver$House", "isMatched", "(LLanternserver$Row;IZ)Z"⟩, 11) := ⟨⟨by decide +kernel, by decide +kernel⟩, List.mem_of_getElem? (i := 326) (by decide +kernel), List.mem_of_getElem? (i := 886) (by decide +kernel), List.mem_of_getElem? (i := 887) (by decide +kernel)⟩
theorem lw_p23 : lw_okq (⟨"Lanternserver$House", "cutRange", "(LLanternserver$Row;)I"⟩, 11) := ⟨⟨by decide +kernel, by decide +kernel⟩, List.mem_of_getElem? (i := 326) (by decide +kernel), List.mem_of_getElem? (i := 903) (by decide +kernel), List.mem_of_getElem? (i := 904) (by decide +kernel)⟩
theorem lw_p24 : lw_okq (⟨"Lanternserver$House", "replace", "(LLanternserver$Reader;I)I"⟩, 11) := ⟨⟨by decide +kernel, by decide +kernel⟩, List.mem_of_getElem? (i := 326) (by decide +kernel), List.mem_of_getElem? (i := 912) (by decide +kernel), List.mem_of_getElem? (i := 913) (by decide +kernel)⟩
theorem lw_p25 : lw_okq (⟨"Lanternserver$House", "insert", "(LLanternserver$Row;)I"⟩, 11) := ⟨⟨by decide +kernel, by decide +kernel⟩, List.mem_of_getElem? (i := 326) (by decide +kernel), List.mem_of_getElem? (i := 916) (by decide +kernel), List.mem_of_getElem? (i := 917) (by decide +kernel)⟩
theorem lw_p26 : lw_okq (⟨"Lanternserver$House", "change", "(I)V"⟩, 11) := ⟨⟨by decide +kernel, by decide +kernel⟩, List.mem_of_getElem? (i := 326) (by decide +kernel), List.mem_of_getElem? (i := 920) (by decide +kernel), List.mem_of_getElem? (i := 921) (by decide +kernel)⟩
theorem lw_p27 : lw_okq (⟨"Lanternserver$House", "append", "(LLanternserver$Reader;I)I"⟩, 11) := ⟨⟨by decide +kernel, by decide +kernel⟩, List.mem_of_getElem? (i := 326) (by decide +kernel), List.mem_of_getElem? (i := 924) (by decide +kernel), List.mem_of_getElem? (i := 925) (by decide +kernel)⟩
theorem lw_p28 : lw_okq (⟨"Lanternserver$House", "remove", "(I)V"⟩, 11) := ⟨⟨by decide +kernel, by decide +kernel⟩, List.mem_of_getElem? (i := 326) (by decide +kernel), List.mem_of_getElem? (i := 928) (by decide +kernel), List.mem_of_getElem? (i := 929) (by decide +kernel)⟩
theorem lw_p29 : lw_okq (⟨"Lanternserver$House", "writeRange", "(ILLanternserver$Row;)V"⟩, 11) := ⟨⟨by decide +kernel, by decide +kernel⟩, List.mem_of_getElem? (i := 326) (by decide +kernel), List.mem_of_getElem? (i := 969) (by decide +kernel), List.mem_of_getElem? (i := 970) (by decide +kernel)⟩
theorem lw_p30 : lw_okq (⟨"Lanternserver", "hasReadOtherwise", "(LLanternserver$Connection;)Z"⟩, 17) := ⟨⟨by decide +kernel, by decide +kernel⟩, List.mem_of_getElem? (i := 46) (by decide +kernel), List.mem_of_getElem? (i := 1002) (by decide +kernel), List.mem_of_getElem? (i := 1003) (by decide +kernel)⟩
theorem lw_p31 : lw_okq (⟨"java/lang/Throwable", "fillInStackTrace", "(I)Ljava/lang/Throwable;"⟩, 6) := ⟨⟨by decide +kernel, by decide +kernel⟩, List.mem_of_getElem? (i := 1073) (by decide +kernel), List.mem_of_getElem? (i := 1071) (by decide +kernel), List.mem_of_getElem? (i := 1072) (by decide +kernel)⟩
def lw_privs_2 : List (MethodName × Nat) := [(⟨"Lanternserver$Reader", "noteField", "()V"⟩, 19), (⟨"Lanternserver$Reader", "noteLength", "(I)V"⟩, 19), (⟨"Lanternserver$Reader", "noteValue", "(LLanternserver$Row;II)V"⟩, 19), (⟨"Lanternserver$House", "showList", "()I"⟩, 11), (⟨"Lanternserver$House", "placeOf", "(LLanternserver$Row;)I"⟩, 11), (⟨"Lanternserver$House", "show", "(LLanternserver$Reader;I)I"⟩, 11), (⟨"Lanternserver$House", "isMatched", "(LLanternserver$Row;IZ)Z"⟩, 11), (⟨"Lanternserver$House", "cutRange", "(LLanternserver$Row;)I"⟩, 11), (⟨"Lanternserver$House", "replace", "(LLanternserver$Reader;I)I"⟩, 11), (⟨"Lanternserver$House", "insert", "(LLanternserver$Row;)I"⟩, 11), (⟨"Lanternserver$House", "change", "(I)V"⟩, 11), (⟨"Lanternserver$House", "append", "(LLanternserver$Reader;I)I"⟩, 11), (⟨"Lanternserver$House", "remove", "(I)V"⟩, 11), (⟨"Lanternserver$House", "writeRange", "(ILLanternserver$Row;)V"⟩, 11), (⟨"Lanternserver", "hasReadOtherwise", "(LLanternserver$Connection;)Z"⟩, 17), (⟨"java/lang/Throwable", "fillInStackTrace", "(I)Ljava/lang/Throwable;"⟩, 6)]
theorem lw_r2 : ∀ q ∈ lw_privs_2, lw_okq q := List.forall_mem_cons.mpr ⟨lw_p16, List.forall_mem_cons.mpr ⟨lw_p17, List.forall_mem_cons.mpr ⟨lw_p18, List.forall_mem_cons.mpr ⟨lw_p19, List.forall_mem_cons.mpr ⟨lw_p20, List.forall_mem_cons.mpr ⟨lw_p21, List.forall_mem_cons.mpr ⟨lw_p22, List.forall_mem_cons.mpr ⟨lw_p23, List.forall_mem_cons.mpr ⟨lw_p24, List.forall_mem_cons.mpr ⟨lw_p25, List.forall_mem_cons.mpr ⟨lw_p26, List.forall_mem_cons.mpr ⟨lw_p27, List.forall_mem_cons.mpr ⟨lw_p28, List.forall_mem_cons.mpr ⟨lw_p29, List.forall_mem_cons.mpr ⟨lw_p30, List.forall_mem_cons.mpr ⟨lw_p31, fun _ h => absurd h List.not_mem_nil⟩⟩⟩⟩⟩⟩⟩⟩⟩⟩⟩⟩⟩⟩⟩⟩
theorem lw_p32 : lw_okq (⟨"Lanternserver", "typeNumber", "(J)V"⟩, 17) := ⟨⟨by decide +kernel, by decide +kernel⟩, List.mem_of_getElem? (i := 46) (by decide +kernel), List.mem_of_getElem? (i := 1102) (by decide +kernel), List.mem_of_getElem? (i := 1103) (by decide +kernel)⟩
theorem lw_p33 : lw_okq (⟨"Lanternserver", "hasHost", "(I)Z"⟩, 17) := ⟨⟨by decide +kernel, by decide +kernel⟩, List.mem_of_getElem? (i := 46) (by decide +kernel), List.mem_of_getElem? (i := 1191) (by decide +kernel), List.mem_of_getElem? (i := 1192) (by decide +kernel)⟩
theorem lw_p34 : lw_okq (⟨"Lanternserver", "carryOne", "(I)I"⟩, 17) := ⟨⟨by decide +kernel, by decide +kernel⟩, List.mem_of_getElem? (i := 46) (by decide +kernel), List.mem_of_getElem? (i := 1232) (by decide +kernel), List.mem_of_getElem? (i := 1233) (by decide +kernel)⟩
theorem lw_p35 : lw_okq (⟨"Lanternserver$Host", "takeMessage", "(LLanternserver$Row;I)V"⟩, 16) := ⟨⟨by decide +kernel, by decide +kernel⟩, List.mem_of_getElem? (i := 447) (by decide +kernel), List.mem_of_getElem? (i := 1260) (by decide +kernel), List.mem_of_getElem? (i := 1261) (by decide +kernel)⟩
theorem lw_p36 : lw_okq (⟨"Lanternserver$Host", "learn", "(IIJI)V"⟩, 16) := ⟨⟨by decide +kernel, by decide +kernel⟩, List.mem_of_getElem? (i := 447) (by decide +kernel), List.mem_of_getElem? (i := 1267) (by decide +kernel), List.mem_of_getElem? (i := 1268) (by decide +kernel)⟩
theorem lw_p37 : lw_okq (⟨"Lanternserver$Host", "isDatagram", "(LLanternserver$Row;)Z"⟩, 16) := ⟨⟨by decide +kernel, by decide +kernel⟩, List.mem_of_getElem? (i := 447) (by decide +kernel), List.mem_of_getElem? (i := 1280) (by decide +kernel), List.mem_of_getElem? (i := 1281) (by decide +kernel)⟩
theorem lw_p38 : lw_okq (⟨"Lanternserver$Host", "takeDatagram", "(LLanternserver$Row;ILLanternserver$Datagram;)Z"⟩, 16) := ⟨⟨by decide +kernel, by decide +kernel⟩, List.mem_of_getElem? (i := 447) (by decide +kernel), List.mem_of_getElem? (i := 1286) (by decide +kernel), List.mem_of_getElem? (i := 1287) (by decide +kernel)⟩
theorem lw_p39 : lw_okq (⟨"Lanternserver$Host", "keptPlace", "(LLanternserver$Datagram;)I"⟩, 16) := ⟨⟨by decide +kernel, by decide +kernel⟩, List.mem_of_getElem? (i := 447) (by decide +kernel), List.mem_of_getElem? (i := 1296) (by decide +kernel), List.mem_of_getElem? (i := 1297) (by decide +kernel)⟩
theorem lw_p40 : lw_okq (⟨"Lanternserver$Host", "dropKept", "(I)V"⟩, 16) := ⟨⟨by decide +kernel, by decide +kernel⟩, List.mem_of_getElem? (i := 447) (by decide +kernel), List.mem_of_getElem? (i := 1300) (by decide +kernel), List.mem_of_getElem? (i := 1301) (by decide +kernel)⟩
theorem lw_p41 : lw_okq (⟨"Lanternserver$Host", "sendPieces", "(LLanternserver$Datagram;JLLanternserver$Wire;)V"⟩, 16) := ⟨⟨by decide +kernel, by decide +kernel⟩, List.mem_of_getElem? (i := 447) (by decide +kernel), List.mem_of_getElem? (i := 1564) (by decide +kernel), List.mem_of_getElem? (i := 1565) (by decide +kernel)⟩
theorem lw_p42 : lw_okq (⟨"Lanternserver$Host", "sendPart", "(LLanternserver$Wire;LLanternserver$Datagram;JII)V"⟩, 16) := ⟨⟨by decide +kernel, by decide +kernel⟩, List.mem_of_getElem? (i := 447) (by decide +kernel), List.mem_of_getElem? (i := 1568) (by decide +kernel), List.mem_of_getElem? (i := 1569) (by decide +kernel)⟩
theorem lw_p43 : lw_okq (⟨"Lanternserver$Host", "dropWaiting", "(I)V"⟩, 16) := ⟨⟨by decide +kernel, by decide +kernel⟩, List.mem_of_getElem? (i := 447) (by decide +kernel), List.mem_of_getElem? (i := 1593) (by decide +kernel), List.mem_of_getElem? (i := 1594) (by decide +kernel)⟩
theorem lw_p44 : lw_okq (⟨"Lanternserver$Host", "sendMessage", "(LLanternserver$Wire;IJJI)V"⟩, 16) := ⟨⟨by decide +kernel, by decide +kernel⟩, List.mem_of_getElem? (i := 447) (by decide +kernel), List.mem_of_getElem? (i := 1597) (by decide +kernel), List.mem_of_getElem? (i := 1598) (by decide +kernel)⟩
theorem lw_p45 : lw_okq (⟨"Lanternserver", "takeEcho", "(I)V"⟩, 17) := ⟨⟨by decide +kernel, by decide +kernel⟩, List.mem_of_getElem? (i := 46) (by decide +kernel), List.mem_of_getElem? (i := 1601) (by decide +kernel), List.mem_of_getElem? (i := 1602) (by decide +kernel)⟩
theorem lw_p46 : lw_okq (⟨"Lanternserver", "takeNames", "(I)V"⟩, 17) := ⟨⟨by decide +kernel, by decide +kernel⟩, List.mem_of_getElem? (i := 46) (by decide +kernel), List.mem_of_getElem? (i := 1613) (by decide +kernel), List.mem_of_getElem? (i := 1614) (by decide +kernel)⟩
theorem lw_p47 : lw_okq (⟨"Lanternserver", "answerName", "()V"⟩, 17) := ⟨⟨by decide +kernel, by decide +kernel⟩, List.mem_of_getElem? (i := 46) (by decide +kernel), List.mem_of_getElem? (i := 1622) (by decide +kernel), List.mem_of_getElem? (i := 1623) (by decide +kernel)⟩
def lw_privs_3 : List (MethodName × Nat) := [(⟨"Lanternserver", "typeNumber", "(J)V"⟩, 17), (⟨"Lanternserver", "hasHost", "(I)Z"⟩, 17), (⟨"Lanternserver", "carryOne", "(I)I"⟩, 17), (⟨"Lanternserver$Host", "takeMessage", "(LLanternserver$Row;I)V"⟩, 16), (⟨"Lanternserver$Host", "learn", "(IIJI)V"⟩, 16), (⟨"Lanternserver$Host", "isDatagram", "(LLanternserver$Row;)Z"⟩, 16), (⟨"Lanternserver$Host", "takeDatagram", "(LLanternserver$Row;ILLanternserver$Datagram;)Z"⟩, 16), (⟨"Lanternserver$Host", "keptPlace", "(LLanternserver$Datagram;)I"⟩, 16), (⟨"Lanternserver$Host", "dropKept", "(I)V"⟩, 16), (⟨"Lanternserver$Host", "sendPieces", "(LLanternserver$Datagram;JLLanternserver$Wire;)V"⟩, 16), (⟨"Lanternserver$Host", "sendPart", "(LLanternserver$Wire;LLanternserver$Datagram;JII)V"⟩, 16), (⟨"Lanternserver$Host", "dropWaiting", "(I)V"⟩, 16), (⟨"Lanternserver$Host", "sendMessage", "(LLanternserver$Wire;IJJI)V"⟩, 16), (⟨"Lanternserver", "takeEcho", "(I)V"⟩, 17), (⟨"Lanternserver", "takeNames", "(I)V"⟩, 17), (⟨"Lanternserver", "answerName", "()V"⟩, 17)]
theorem lw_r3 : ∀ q ∈ lw_privs_3, lw_okq q := List.forall_mem_cons.mpr ⟨lw_p32, List.forall_mem_cons.mpr ⟨lw_p33, List.forall_mem_cons.mpr ⟨lw_p34, List.forall_mem_cons.mpr ⟨lw_p35, List.forall_mem_cons.mpr ⟨lw_p36, List.forall_mem_cons.mpr ⟨lw_p37, List.forall_mem_cons.mpr ⟨lw_p38, List.forall_mem_cons.mpr ⟨lw_p39, List.forall_mem_cons.mpr ⟨lw_p40, List.forall_mem_cons.mpr ⟨lw_p41, List.forall_mem_cons.mpr ⟨lw_p42, List.forall_mem_cons.mpr ⟨lw_p43, List.forall_mem_cons.mpr ⟨lw_p44, List.forall_mem_cons.mpr ⟨lw_p45, List.forall_mem_cons.mpr ⟨lw_p46, List.forall_mem_cons.mpr ⟨lw_p47, fun _ h => absurd h List.not_mem_nil⟩⟩⟩⟩⟩⟩⟩⟩⟩⟩⟩⟩⟩⟩⟩⟩
theorem lw_p48 : lw_okq (⟨"Lanternserver", "ownerOf", "(LLanternserver$Row;II)I"⟩, 17) := ⟨⟨by decide +kernel, by decide +kernel⟩, List.mem_of_getElem? (i := 46) (by decide +kernel), List.mem_of_getElem? (i := 1634) (by decide +kernel), List.mem_of_getElem? (i := 1635) (by decide +kernel)⟩
theorem lw_p49 : lw_okq (⟨"Lanternserver", "takeAnswer", "(I)V"⟩, 17) := ⟨⟨by decide +kernel, by decide +kernel⟩, List.mem_of_getElem? (i := 46) (by decide +kernel), List.mem_of_getElem? (i := 1650) (by decide +kernel), List.mem_of_getElem? (i := 1651) (by decide +kernel)⟩
theorem lw_p50 : lw_okq (⟨"Lanternserver", "takeSegment", "(I)V"⟩, 17) := ⟨⟨by decide +kernel, by decide +kernel⟩, List.mem_of_getElem? (i := 46) (by decide +kernel), List.mem_of_getElem? (i := 1654) (by decide +kernel), List.mem_of_getElem? (i := 1655) (by decide +kernel)⟩
theorem lw_p51 : lw_okq (⟨"Lanternserver", "connectionOf", "(I)LLanternserver$Connection;"⟩, 17) := ⟨⟨by decide +kernel, by decide +kernel⟩, List.mem_of_getElem? (i := 46) (by decide +kernel), List.mem_of_getElem? (i := 1675) (by decide +kernel), List.mem_of_getElem? (i := 1676) (by decide +kernel)⟩
theorem lw_p52 : lw_okq (⟨"Lanternserver", "isBeginning", "(I)Z"⟩, 17) := ⟨⟨by decide +kernel, by decide +kernel⟩, List.mem_of_getElem? (i := 46) (by decide +kernel), List.mem_of_getElem? (i := 1679) (by decide +kernel), List.mem_of_getElem? (i := 1680) (by decide +kernel)⟩
theorem lw_p53 : lw_okq (⟨"Lanternserver", "openMany", "(Z)I"⟩, 17) := ⟨⟨by decide +kernel, by decide +kernel⟩, List.mem_of_getElem? (i := 46) (by decide +kernel), List.mem_of_getElem? (i := 1684) (by decide +kernel), List.mem_of_getElem? (i := 1685) (by decide +kernel)⟩
theorem lw_p54 : lw_okq (⟨"Lanternserver", "newServers", "()LLanternserver$Connection;"⟩, 17) := ⟨⟨by decide +kernel, by decide +kernel⟩, List.mem_of_getElem? (i := 46) (by decide +kernel), List.mem_of_getElem? (i := 1692) (by decide +kernel), List.mem_of_getElem? (i := 1693) (by decide +kernel)⟩
theorem lw_p55 : lw_okq (⟨"Lanternserver$Connection", "sendNew", "(II)V"⟩, 19) := ⟨⟨by decide +kernel, by decide +kernel⟩, List.mem_of_getElem? (i := 1695) (by decide +kernel), List.mem_of_getElem? (i := 1913) (by decide +kernel), List.mem_of_getElem? (i := 1914) (by decide +kernel)⟩
theorem lw_p56 : lw_okq (⟨"Lanternserver$Connection", "emit", "(IIII)V"⟩, 19) := ⟨⟨by decide +kernel, by decide +kernel⟩, List.mem_of_getElem? (i := 1695) (by decide +kernel), List.mem_of_getElem? (i := 1921) (by decide +kernel), List.mem_of_getElem? (i := 1922) (by decide +kernel)⟩
theorem lw_p57 : lw_okq (⟨"Lanternserver$Connection", "arriveAsked", "(LLanternserver$Segment;)Z"⟩, 19) := ⟨⟨by decide +kernel, by decide +kernel⟩, List.mem_of_getElem? (i := 1695) (by decide +kernel), List.mem_of_getElem? (i := 1955) (by decide +kernel), List.mem_of_getElem? (i := 1956) (by decide +kernel)⟩
theorem lw_p58 : lw_okq (⟨"Lanternserver$Connection", "end", "(I)V"⟩, 19) := ⟨⟨by decide +kernel, by decide +kernel⟩, List.mem_of_getElem? (i := 1695) (by decide +kernel), List.mem_of_getElem? (i := 1961) (by decide +kernel), List.mem_of_getElem? (i := 1962) (by decide +kernel)⟩
theorem lw_p59 : lw_okq (⟨"Lanternserver$Connection", "establish", "(LLanternserver$Segment;)V"⟩, 19) := ⟨⟨by decide +kernel, by decide +kernel⟩, List.mem_of_getElem? (i := 1695) (by decide +kernel), List.mem_of_getElem? (i := 1965) (by decide +kernel), List.mem_of_getElem? (i := 1966) (by decide +kernel)⟩
theorem lw_p60 : lw_okq (⟨"Lanternserver$Connection", "sendAgain", "()V"⟩, 19) := ⟨⟨by decide +kernel, by decide +kernel⟩, List.mem_of_getElem? (i := 1695) (by decide +kernel), List.mem_of_getElem? (i := 1969) (by decide +kernel), List.mem_of_getElem? (i := 1970) (by decide +kernel)⟩
theorem lw_p61 : lw_okq (⟨"Lanternserver$Connection", "flagsOf", "(I)I"⟩, 19) := ⟨⟨by decide +kernel, by decide +kernel⟩, List.mem_of_getElem? (i := 1695) (by decide +kernel), List.mem_of_getElem? (i := 1978) (by decide +kernel), List.mem_of_getElem? (i := 1979) (by decide +kernel)⟩
theorem lw_p62 : lw_okq (⟨"Lanternserver$Connection", "isThirdDouble", "(LLanternserver$Segment;)Z"⟩, 19) := ⟨⟨by decide +kernel, by decide +kernel⟩, List.mem_of_getElem? (i := 1695) (by decide +kernel), List.mem_of_getElem? (i := 1985) (by decide +kernel), List.mem_of_getElem? (i := 1986) (by decide +kernel)⟩
theorem lw_p63 : lw_okq (⟨"Lanternserver$Sender", "measure", "(I)V"⟩, 20) := ⟨⟨by decide +kernel, by decide +kernel⟩, List.mem_of_getElem? (i := 1741) (by decide +kernel), List.mem_of_getElem? (i := 1995) (by decide +kernel), List.mem_of_getElem? (i := 1996) (by decide +kernel)⟩
def lw_privs_4 : List (MethodName × Nat) := [(⟨"Lanternserver", "ownerOf", "(LLanternserver$Row;II)I"⟩, 17), (⟨"Lanternserver", "takeAnswer", "(I)V"⟩, 17), (⟨"Lanternserver", "takeSegment", "(I)V"⟩, 17), (⟨"Lanternserver", "connectionOf", "(I)LLanternserver$Connection;"⟩, 17), (⟨"Lanternserver", "isBeginning", "(I)Z"⟩, 17), (⟨"Lanternserver", "openMany", "(Z)I"⟩, 17), (⟨"Lanternserver", "newServers", "()LLanternserver$Connection;"⟩, 17), (⟨"Lanternserver$Connection", "sendNew", "(II)V"⟩, 19), (⟨"Lanternserver$Connection", "emit", "(IIII)V"⟩, 19), (⟨"Lanternserver$Connection", "arriveAsked", "(LLanternserver$Segment;)Z"⟩, 19), (⟨"Lanternserver$Connection", "end", "(I)V"⟩, 19), (⟨"Lanternserver$Connection", "establish", "(LLanternserver$Segment;)V"⟩, 19), (⟨"Lanternserver$Connection", "sendAgain", "()V"⟩, 19), (⟨"Lanternserver$Connection", "flagsOf", "(I)I"⟩, 19), (⟨"Lanternserver$Connection", "isThirdDouble", "(LLanternserver$Segment;)Z"⟩, 19), (⟨"Lanternserver$Sender", "measure", "(I)V"⟩, 20)]
theorem lw_r4 : ∀ q ∈ lw_privs_4, lw_okq q := List.forall_mem_cons.mpr ⟨lw_p48, List.forall_mem_cons.mpr ⟨lw_p49, List.forall_mem_cons.mpr ⟨lw_p50, List.forall_mem_cons.mpr ⟨lw_p51, List.forall_mem_cons.mpr ⟨lw_p52, List.forall_mem_cons.mpr ⟨lw_p53, List.forall_mem_cons.mpr ⟨lw_p54, List.forall_mem_cons.mpr ⟨lw_p55, List.forall_mem_cons.mpr ⟨lw_p56, List.forall_mem_cons.mpr ⟨lw_p57, List.forall_mem_cons.mpr ⟨lw_p58, List.forall_mem_cons.mpr ⟨lw_p59, List.forall_mem_cons.mpr ⟨lw_p60, List.forall_mem_cons.mpr ⟨lw_p61, List.forall_mem_cons.mpr ⟨lw_p62, List.forall_mem_cons.mpr ⟨lw_p63, fun _ h => absurd h List.not_mem_nil⟩⟩⟩⟩⟩⟩⟩⟩⟩⟩⟩⟩⟩⟩⟩⟩
theorem lw_p64 : lw_okq (⟨"Lanternserver$Connection", "isEndedByAcknowledgement", "()Z"⟩, 19) := ⟨⟨by decide +kernel, by decide +kernel⟩, List.mem_of_getElem? (i := 1695) (by decide +kernel), List.mem_of_getElem? (i := 2016) (by decide +kernel), List.mem_of_getElem? (i := 2017) (by decide +kernel)⟩
theorem lw_p65 : lw_okq (⟨"Lanternserver$Connection", "waitOut", "()V"⟩, 19) := ⟨⟨by decide +kernel, by decide +kernel⟩, List.mem_of_getElem? (i := 1695) (by decide +kernel), List.mem_of_getElem? (i := 2020) (by decide +kernel), List.mem_of_getElem? (i := 2021) (by decide +kernel)⟩
theorem lw_p66 : lw_okq (⟨"Lanternserver$Connection", "takeIn", "(LLanternserver$Segment;)V"⟩, 19) := ⟨⟨by decide +kernel, by decide +kernel⟩, List.mem_of_getElem? (i := 1695) (by decide +kernel), List.mem_of_getElem? (i := 2024) (by decide +kernel), List.mem_of_getElem? (i := 2025) (by decide +kernel)⟩
theorem lw_p67 : lw_okq (⟨"Lanternserver$Receiver", "joinPieces", "()V"⟩, 8) := ⟨⟨by decide +kernel, by decide +kernel⟩, List.mem_of_getElem? (i := 1701) (by decide +kernel), List.mem_of_getElem? (i := 2035) (by decide +kernel), List.mem_of_getElem? (i := 2036) (by decide +kernel)⟩
theorem lw_p68 : lw_okq (⟨"Lanternserver$Receiver", "firstPiece", "()I"⟩, 8) := ⟨⟨by decide +kernel, by decide +kernel⟩, List.mem_of_getElem? (i := 1701) (by decide +kernel), List.mem_of_getElem? (i := 2039) (by decide +kernel), List.mem_of_getElem? (i := 2040) (by decide +kernel)⟩
theorem lw_p69 : lw_okq (⟨"Lanternserver", "serversOf", "(LLanternserver$Connection;I)I"⟩, 17) := ⟨⟨by decide +kernel, by decide +kernel⟩, List.mem_of_getElem? (i := 46) (by decide +kernel), List.mem_of_getElem? (i := 2045) (by decide +kernel), List.mem_of_getElem? (i := 2046) (by decide +kernel)⟩
theorem lw_p70 : lw_okq (⟨"Lanternserver", "serve", "(LLanternserver$Connection;)V"⟩, 17) := ⟨⟨by decide +kernel, by decide +kernel⟩, List.mem_of_getElem? (i := 46) (by decide +kernel), List.mem_of_getElem? (i := 2049) (by decide +kernel), List.mem_of_getElem? (i := 2050) (by decide +kernel)⟩
theorem lw_p71 : lw_okq (⟨"Lanternserver", "noteServed", "(LLanternserver$Connection;II)V"⟩, 17) := ⟨⟨by decide +kernel, by decide +kernel⟩, List.mem_of_getElem? (i := 46) (by decide +kernel), List.mem_of_getElem? (i := 2075) (by decide +kernel), List.mem_of_getElem? (i := 2076) (by decide +kernel)⟩
theorem lw_p72 : lw_okq (⟨"Lanternserver$Connection", "isSending", "()Z"⟩, 19) := ⟨⟨by decide +kernel, by decide +kernel⟩, List.mem_of_getElem? (i := 1695) (by decide +kernel), List.mem_of_getElem? (i := 2083) (by decide +kernel), List.mem_of_getElem? (i := 2084) (by decide +kernel)⟩
theorem lw_p73 : lw_okq (⟨"Lanternserver$Connection", "noteProbing", "()V"⟩, 19) := ⟨⟨by decide +kernel, by decide +kernel⟩, List.mem_of_getElem? (i := 1695) (by decide +kernel), List.mem_of_getElem? (i := 2092) (by decide +kernel), List.mem_of_getElem? (i := 2093) (by decide +kernel)⟩
theorem lw_p74 : lw_okq (⟨"Lanternserver", "postAll", "()V"⟩, 17) := ⟨⟨by decide +kernel, by decide +kernel⟩, List.mem_of_getElem? (i := 46) (by decide +kernel), List.mem_of_getElem? (i := 2096) (by decide +kernel), List.mem_of_getElem? (i := 2097) (by decide +kernel)⟩
theorem lw_p75 : lw_okq (⟨"Lanternserver$Host", "ask", "(ILLanternserver$Wire;)V"⟩, 16) := ⟨⟨by decide +kernel, by decide +kernel⟩, List.mem_of_getElem? (i := 447) (by decide +kernel), List.mem_of_getElem? (i := 2105) (by decide +kernel), List.mem_of_getElem? (i := 2106) (by decide +kernel)⟩
theorem lw_p76 : lw_okq (⟨"Lanternserver", "tick", "()V"⟩, 17) := ⟨⟨by decide +kernel, by decide +kernel⟩, List.mem_of_getElem? (i := 46) (by decide +kernel), List.mem_of_getElem? (i := 2176) (by decide +kernel), List.mem_of_getElem? (i := 2177) (by decide +kernel)⟩
theorem lw_p77 : lw_okq (⟨"Lanternserver$Connection", "runOut", "()V"⟩, 19) := ⟨⟨by decide +kernel, by decide +kernel⟩, List.mem_of_getElem? (i := 1695) (by decide +kernel), List.mem_of_getElem? (i := 2192) (by decide +kernel), List.mem_of_getElem? (i := 2193) (by decide +kernel)⟩
theorem lw_p78 : lw_okq (⟨"Lanternserver", "isTimerRunning", "()Z"⟩, 17) := ⟨⟨by decide +kernel, by decide +kernel⟩, List.mem_of_getElem? (i := 46) (by decide +kernel), List.mem_of_getElem? (i := 2209) (by decide +kernel), List.mem_of_getElem? (i := 2210) (by decide +kernel)⟩
theorem lw_p79 : lw_okq (⟨"Lanternserver", "readName", "()I"⟩, 17) := ⟨⟨by decide +kernel, by decide +kernel⟩, List.mem_of_getElem? (i := 46) (by decide +kernel), List.mem_of_getElem? (i := 2258) (by decide +kernel), List.mem_of_getElem? (i := 2259) (by decide +kernel)⟩
def lw_privs_5 : List (MethodName × Nat) := [(⟨"Lanternserver$Connection", "isEndedByAcknowledgement", "()Z"⟩, 19), (⟨"Lanternserver$Connection", "waitOut", "()V"⟩, 19), (⟨"Lanternserver$Connection", "takeIn", "(LLanternserver$Segment;)V"⟩, 19), (⟨"Lanternserver$Receiver", "joinPieces", "()V"⟩, 8), (⟨"Lanternserver$Receiver", "firstPiece", "()I"⟩, 8), (⟨"Lanternserver", "serversOf", "(LLanternserver$Connection;I)I"⟩, 17), (⟨"Lanternserver", "serve", "(LLanternserver$Connection;)V"⟩, 17), (⟨"Lanternserver", "noteServed", "(LLanternserver$Connection;II)V"⟩, 17), (⟨"Lanternserver$Connection", "isSending", "()Z"⟩, 19), (⟨"Lanternserver$Connection", "noteProbing", "()V"⟩, 19), (⟨"Lanternserver", "postAll", "()V"⟩, 17), (⟨"Lanternserver$Host", "ask", "(ILLanternserver$Wire;)V"⟩, 16), (⟨"Lanternserver", "tick", "()V"⟩, 17), (⟨"Lanternserver$Connection", "runOut", "()V"⟩, 19), (⟨"Lanternserver", "isTimerRunning", "()Z"⟩, 17), (⟨"Lanternserver", "readName", "()I"⟩, 17)]
theorem lw_r5 : ∀ q ∈ lw_privs_5, lw_okq q := List.forall_mem_cons.mpr ⟨lw_p64, List.forall_mem_cons.mpr ⟨lw_p65, List.forall_mem_cons.mpr ⟨lw_p66, List.forall_mem_cons.mpr ⟨lw_p67, List.forall_mem_cons.mpr ⟨lw_p68, List.forall_mem_cons.mpr ⟨lw_p69, List.forall_mem_cons.mpr ⟨lw_p70, List.forall_mem_cons.mpr ⟨lw_p71, List.forall_mem_cons.mpr ⟨lw_p72, List.forall_mem_cons.mpr ⟨lw_p73, List.forall_mem_cons.mpr ⟨lw_p74, List.forall_mem_cons.mpr ⟨lw_p75, List.forall_mem_cons.mpr ⟨lw_p76, List.forall_mem_cons.mpr ⟨lw_p77, List.forall_mem_cons.mpr ⟨lw_p78, List.forall_mem_cons.mpr ⟨lw_p79, fun _ h => absurd h List.not_mem_nil⟩⟩⟩⟩⟩⟩⟩⟩⟩⟩⟩⟩⟩⟩⟩⟩
theorem lw_p80 : lw_okq (⟨"Lanternserver", "servedWell", "()I"⟩, 17) := ⟨⟨by decide +kernel, by decide +kernel⟩, List.mem_of_getElem? (i := 46) (by decide +kernel), List.mem_of_getElem? (i := 2401) (by decide +kernel), List.mem_of_getElem? (i := 2402) (by decide +kernel)⟩
theorem lw_p81 : lw_okq (⟨"Lanternserver", "answeredEchoes", "()I"⟩, 17) := ⟨⟨by decide +kernel, by decide +kernel⟩, List.mem_of_getElem? (i := 46) (by decide +kernel), List.mem_of_getElem? (i := 2405) (by decide +kernel), List.mem_of_getElem? (i := 2406) (by decide +kernel)⟩
theorem lw_p82 : lw_okq (⟨"LanternserverModel", "fine", "(Z)Z"⟩, 96) := ⟨⟨by decide +kernel, by decide +kernel⟩, List.mem_of_getElem? (i := 2410) (by decide +kernel), List.mem_of_getElem? (i := 2796) (by decide +kernel), List.mem_of_getElem? (i := 2797) (by decide +kernel)⟩
theorem lw_p83 : lw_okq (⟨"LanternserverModel", "puts", "(J)V"⟩, 96) := ⟨⟨by decide +kernel, by decide +kernel⟩, List.mem_of_getElem? (i := 2410) (by decide +kernel), List.mem_of_getElem? (i := 2800) (by decide +kernel), List.mem_of_getElem? (i := 2801) (by decide +kernel)⟩
theorem lw_p84 : lw_okq (⟨"LanternserverModel", "fine", "(ZZ)Z"⟩, 96) := ⟨⟨by decide +kernel, by decide +kernel⟩, List.mem_of_getElem? (i := 2410) (by decide +kernel), List.mem_of_getElem? (i := 2812) (by decide +kernel), List.mem_of_getElem? (i := 2813) (by decide +kernel)⟩
theorem lw_p85 : lw_okq (⟨"LanternserverModel", "isHost", "(I)Z"⟩, 96) := ⟨⟨by decide +kernel, by decide +kernel⟩, List.mem_of_getElem? (i := 2410) (by decide +kernel), List.mem_of_getElem? (i := 2859) (by decide +kernel), List.mem_of_getElem? (i := 2860) (by decide +kernel)⟩
theorem lw_p86 : lw_okq (⟨"LanternserverModel", "delivers", "(I)I"⟩, 96) := ⟨⟨by decide +kernel, by decide +kernel⟩, List.mem_of_getElem? (i := 2410) (by decide +kernel), List.mem_of_getElem? (i := 2883) (by decide +kernel), List.mem_of_getElem? (i := 2884) (by decide +kernel)⟩
theorem lw_p87 : lw_okq (⟨"LanternserverModel", "takenOff", "(I)LLanternserverModel$Frame;"⟩, 96) := ⟨⟨by decide +kernel, by decide +kernel⟩, List.mem_of_getElem? (i := 2410) (by decide +kernel), List.mem_of_getElem? (i := 2887) (by decide +kernel), List.mem_of_getElem? (i := 2888) (by decide +kernel)⟩
theorem lw_p88 : lw_okq (⟨"LanternserverModel", "takes", "(I[I)V"⟩, 96) := ⟨⟨by decide +kernel, by decide +kernel⟩, List.mem_of_getElem? (i := 2410) (by decide +kernel), List.mem_of_getElem? (i := 2899) (by decide +kernel), List.mem_of_getElem? (i := 2900) (by decide +kernel)⟩
theorem lw_p89 : lw_okq (⟨"LanternserverModel", "takesMessage", "(I[I)Z"⟩, 96) := ⟨⟨by decide +kernel, by decide +kernel⟩, List.mem_of_getElem? (i := 2410) (by decide +kernel), List.mem_of_getElem? (i := 2906) (by decide +kernel), List.mem_of_getElem? (i := 2907) (by decide +kernel)⟩
theorem lw_p90 : lw_okq (⟨"LanternserverModel", "keeps", "(LLanternserverModel$Host;LLanternserverModel$Known;IJ)V"⟩, 96) := ⟨⟨by decide +kernel, by decide +kernel⟩, List.mem_of_getElem? (i := 2410) (by decide +kernel), List.mem_of_getElem? (i := 2911) (by decide +kernel), List.mem_of_getElem? (i := 2912) (by decide +kernel)⟩
theorem lw_p91 : lw_okq (⟨"LanternserverModel", "sendsWaiting", "(IIJ)V"⟩, 96) := ⟨⟨by decide +kernel, by decide +kernel⟩, List.mem_of_getElem? (i := 2410) (by decide +kernel), List.mem_of_getElem? (i := 2931) (by decide +kernel), List.mem_of_getElem? (i := 2932) (by decide +kernel)⟩
theorem lw_p92 : lw_okq (⟨"LanternserverModel", "sendsRows", "(IJ[[I)V"⟩, 96) := ⟨⟨by decide +kernel, by decide +kernel⟩, List.mem_of_getElem? (i := 2410) (by decide +kernel), List.mem_of_getElem? (i := 2935) (by decide +kernel), List.mem_of_getElem? (i := 2936) (by decide +kernel)⟩
theorem lw_p93 : lw_okq (⟨"LanternserverModel", "frame", "(IJI[IZ)V"⟩, 96) := ⟨⟨by decide +kernel, by decide +kernel⟩, List.mem_of_getElem? (i := 2410) (by decide +kernel), List.mem_of_getElem? (i := 2939) (by decide +kernel), List.mem_of_getElem? (i := 2940) (by decide +kernel)⟩
theorem lw_p94 : lw_okq (⟨"LanternserverModel", "toWire", "(LLanternserverModel$Frame;)V"⟩, 96) := ⟨⟨by decide +kernel, by decide +kernel⟩, List.mem_of_getElem? (i := 2410) (by decide +kernel), List.mem_of_getElem? (i := 2964) (by decide +kernel), List.mem_of_getElem? (i := 2965) (by decide +kernel)⟩
theorem lw_p95 : lw_okq (⟨"LanternserverModel", "takesDatagram", "(I[I)Z"⟩, 96) := ⟨⟨by decide +kernel, by decide +kernel⟩, List.mem_of_getElem? (i := 2410) (by decide +kernel), List.mem_of_getElem? (i := 2972) (by decide +kernel), List.mem_of_getElem? (i := 2973) (by decide +kernel)⟩
def lw_privs_6 : List (MethodName × Nat) := [(⟨"Lanternserver", "servedWell", "()I"⟩, 17), (⟨"Lanternserver", "answeredEchoes", "()I"⟩, 17), (⟨"LanternserverModel", "fine", "(Z)Z"⟩, 96), (⟨"LanternserverModel", "puts", "(J)V"⟩, 96), (⟨"LanternserverModel", "fine", "(ZZ)Z"⟩, 96), (⟨"LanternserverModel", "isHost", "(I)Z"⟩, 96), (⟨"LanternserverModel", "delivers", "(I)I"⟩, 96), (⟨"LanternserverModel", "takenOff", "(I)LLanternserverModel$Frame;"⟩, 96), (⟨"LanternserverModel", "takes", "(I[I)V"⟩, 96), (⟨"LanternserverModel", "takesMessage", "(I[I)Z"⟩, 96), (⟨"LanternserverModel", "keeps", "(LLanternserverModel$Host;LLanternserverModel$Known;IJ)V"⟩, 96), (⟨"LanternserverModel", "sendsWaiting", "(IIJ)V"⟩, 96), (⟨"LanternserverModel", "sendsRows", "(IJ[[I)V"⟩, 96), (⟨"LanternserverModel", "frame", "(IJI[IZ)V"⟩, 96), (⟨"LanternserverModel", "toWire", "(LLanternserverModel$Frame;)V"⟩, 96), (⟨"LanternserverModel", "takesDatagram", "(I[I)Z"⟩, 96)]
theorem lw_r6 : ∀ q ∈ lw_privs_6, lw_okq q := List.forall_mem_cons.mpr ⟨lw_p80, List.forall_mem_cons.mpr ⟨lw_p81, List.forall_mem_cons.mpr ⟨lw_p82, List.forall_mem_cons.mpr ⟨lw_p83, List.forall_mem_cons.mpr ⟨lw_p84, List.forall_mem_cons.mpr ⟨lw_p85, List.forall_mem_cons.mpr ⟨lw_p86, List.forall_mem_cons.mpr ⟨lw_p87, List.forall_mem_cons.mpr ⟨lw_p88, List.forall_mem_cons.mpr ⟨lw_p89, List.forall_mem_cons.mpr ⟨lw_p90, List.forall_mem_cons.mpr ⟨lw_p91, List.forall_mem_cons.mpr ⟨lw_p92, List.forall_mem_cons.mpr ⟨lw_p93, List.forall_mem_cons.mpr ⟨lw_p94, List.forall_mem_cons.mpr ⟨lw_p95, fun _ h => absurd h List.not_mem_nil⟩⟩⟩⟩⟩⟩⟩⟩⟩⟩⟩⟩⟩⟩⟩⟩
theorem lw_p96 : lw_okq (⟨"LanternserverModel", "took", "(IIII[I)V"⟩, 96) := ⟨⟨by decide +kernel, by decide +kernel⟩, List.mem_of_getElem? (i := 2410) (by decide +kernel), List.mem_of_getElem? (i := 2977) (by decide +kernel), List.mem_of_getElem? (i := 2978) (by decide +kernel)⟩
theorem lw_p97 : lw_okq (⟨"LanternserverModel", "hostWith", "(I)I"⟩, 96) := ⟨⟨by decide +kernel, by decide +kernel⟩, List.mem_of_getElem? (i := 2410) (by decide +kernel), List.mem_of_getElem? (i := 2981) (by decide +kernel), List.mem_of_getElem? (i := 2982) (by decide +kernel)⟩
theorem lw_p98 : lw_okq (⟨"LanternserverModel", "isRight", "(III[I)Z"⟩, 96) := ⟨⟨by decide +kernel, by decide +kernel⟩, List.mem_of_getElem? (i := 2410) (by decide +kernel), List.mem_of_getElem? (i := 2986) (by decide +kernel), List.mem_of_getElem? (i := 2987) (by decide +kernel)⟩
theorem lw_p99 : lw_okq (⟨"LanternserverModel", "hasNoSum", "(I[I)Z"⟩, 96) := ⟨⟨by decide +kernel, by decide +kernel⟩, List.mem_of_getElem? (i := 2410) (by decide +kernel), List.mem_of_getElem? (i := 2990) (by decide +kernel), List.mem_of_getElem? (i := 2991) (by decide +kernel)⟩
theorem lw_p100 : lw_okq (⟨"LanternserverModel", "wasSent", "(IIII[I)Z"⟩, 96) := ⟨⟨by decide +kernel, by decide +kernel⟩, List.mem_of_getElem? (i := 2410) (by decide +kernel), List.mem_of_getElem? (i := 2998) (by decide +kernel), List.mem_of_getElem? (i := 2999) (by decide +kernel)⟩
theorem lw_p101 : lw_okq (⟨"LanternserverModel", "echoComes", "(II[I)V"⟩, 96) := ⟨⟨by decide +kernel, by decide +kernel⟩, List.mem_of_getElem? (i := 2410) (by decide +kernel), List.mem_of_getElem? (i := 3006) (by decide +kernel), List.mem_of_getElem? (i := 3007) (by decide +kernel)⟩
theorem lw_p102 : lw_okq (⟨"LanternserverModel", "datagram", "(III[IIIZ)[I"⟩, 96) := ⟨⟨by decide +kernel, by decide +kernel⟩, List.mem_of_getElem? (i := 2410) (by decide +kernel), List.mem_of_getElem? (i := 3014) (by decide +kernel), List.mem_of_getElem? (i := 3015) (by decide +kernel)⟩
theorem lw_p103 : lw_okq (⟨"LanternserverModel", "nameComes", "(II[I)V"⟩, 96) := ⟨⟨by decide +kernel, by decide +kernel⟩, List.mem_of_getElem? (i := 2410) (by decide +kernel), List.mem_of_getElem? (i := 3035) (by decide +kernel), List.mem_of_getElem? (i := 3036) (by decide +kernel)⟩
theorem lw_p104 : lw_okq (⟨"LanternserverModel", "questionComes", "(II[I)V"⟩, 96) := ⟨⟨by decide +kernel, by decide +kernel⟩, List.mem_of_getElem? (i := 2410) (by decide +kernel), List.mem_of_getElem? (i := 3039) (by decide +kernel), List.mem_of_getElem? (i := 3040) (by decide +kernel)⟩
theorem lw_p105 : lw_okq (⟨"LanternserverModel", "hostNamed", "([I)I"⟩, 96) := ⟨⟨by decide +kernel, by decide +kernel⟩, List.mem_of_getElem? (i := 2410) (by decide +kernel), List.mem_of_getElem? (i := 3050) (by decide +kernel), List.mem_of_getElem? (i := 3051) (by decide +kernel)⟩
theorem lw_p106 : lw_okq (⟨"LanternserverModel", "sendsByPorts", "(IIII[I)V"⟩, 96) := ⟨⟨by decide +kernel, by decide +kernel⟩, List.mem_of_getElem? (i := 2410) (by decide +kernel), List.mem_of_getElem? (i := 3068) (by decide +kernel), List.mem_of_getElem? (i := 3069) (by decide +kernel)⟩
theorem lw_p107 : lw_okq (⟨"LanternserverModel", "answerComes", "(II[I)V"⟩, 96) := ⟨⟨by decide +kernel, by decide +kernel⟩, List.mem_of_getElem? (i := 2410) (by decide +kernel), List.mem_of_getElem? (i := 3074) (by decide +kernel), List.mem_of_getElem? (i := 3075) (by decide +kernel)⟩
theorem lw_p108 : lw_okq (⟨"LanternserverModel", "segment", "(II[III)V"⟩, 96) := ⟨⟨by decide +kernel, by decide +kernel⟩, List.mem_of_getElem? (i := 2410) (by decide +kernel), List.mem_of_getElem? (i := 3078) (by decide +kernel), List.mem_of_getElem? (i := 3079) (by decide +kernel)⟩
theorem lw_p109 : lw_okq (⟨"LanternserverModel", "lineOf", "(IIII)LLanternserverModel$Line;"⟩, 96) := ⟨⟨by decide +kernel, by decide +kernel⟩, List.mem_of_getElem? (i := 2410) (by decide +kernel), List.mem_of_getElem? (i := 3088) (by decide +kernel), List.mem_of_getElem? (i := 3089) (by decide +kernel)⟩
theorem lw_p110 : lw_okq (⟨"LanternserverModel", "has", "(I)Z"⟩, 96) := ⟨⟨by decide +kernel, by decide +kernel⟩, List.mem_of_getElem? (i := 2410) (by decide +kernel), List.mem_of_getElem? (i := 3092) (by decide +kernel), List.mem_of_getElem? (i := 3093) (by decide +kernel)⟩
theorem lw_p111 : lw_okq (⟨"LanternserverModel", "comes", "(LLanternserverModel$Line;I)V"⟩, 96) := ⟨⟨by decide +kernel, by decide +kernel⟩, List.mem_of_getElem? (i := 2410) (by decide +kernel), List.mem_of_getElem? (i := 3099) (by decide +kernel), List.mem_of_getElem? (i := 3100) (by decide +kernel)⟩
def lw_privs_7 : List (MethodName × Nat) := [(⟨"LanternserverModel", "took", "(IIII[I)V"⟩, 96), (⟨"LanternserverModel", "hostWith", "(I)I"⟩, 96), (⟨"LanternserverModel", "isRight", "(III[I)Z"⟩, 96), (⟨"LanternserverModel", "hasNoSum", "(I[I)Z"⟩, 96), (⟨"LanternserverModel", "wasSent", "(IIII[I)Z"⟩, 96), (⟨"LanternserverModel", "echoComes", "(II[I)V"⟩, 96), (⟨"LanternserverModel", "datagram", "(III[IIIZ)[I"⟩, 96), (⟨"LanternserverModel", "nameComes", "(II[I)V"⟩, 96), (⟨"LanternserverModel", "questionComes", "(II[I)V"⟩, 96), (⟨"LanternserverModel", "hostNamed", "([I)I"⟩, 96), (⟨"LanternserverModel", "sendsByPorts", "(IIII[I)V"⟩, 96), (⟨"LanternserverModel", "answerComes", "(II[I)V"⟩, 96), (⟨"LanternserverModel", "segment", "(II[III)V"⟩, 96), (⟨"LanternserverModel", "lineOf", "(IIII)LLanternserverModel$Line;"⟩, 96), (⟨"LanternserverModel", "has", "(I)Z"⟩, 96), (⟨"LanternserverModel", "comes", "(LLanternserverModel$Line;I)V"⟩, 96)]
theorem lw_r7 : ∀ q ∈ lw_privs_7, lw_okq q := List.forall_mem_cons.mpr ⟨lw_p96, List.forall_mem_cons.mpr ⟨lw_p97, List.forall_mem_cons.mpr ⟨lw_p98, List.forall_mem_cons.mpr ⟨lw_p99, List.forall_mem_cons.mpr ⟨lw_p100, List.forall_mem_cons.mpr ⟨lw_p101, List.forall_mem_cons.mpr ⟨lw_p102, List.forall_mem_cons.mpr ⟨lw_p103, List.forall_mem_cons.mpr ⟨lw_p104, List.forall_mem_cons.mpr ⟨lw_p105, List.forall_mem_cons.mpr ⟨lw_p106, List.forall_mem_cons.mpr ⟨lw_p107, List.forall_mem_cons.mpr ⟨lw_p108, List.forall_mem_cons.mpr ⟨lw_p109, List.forall_mem_cons.mpr ⟨lw_p110, List.forall_mem_cons.mpr ⟨lw_p111, fun _ h => absurd h List.not_mem_nil⟩⟩⟩⟩⟩⟩⟩⟩⟩⟩⟩⟩⟩⟩⟩⟩
theorem lw_p112 : lw_okq (⟨"LanternserverModel", "answers", "(LLanternserverModel$Line;I)V"⟩, 96) := ⟨⟨by decide +kernel, by decide +kernel⟩, List.mem_of_getElem? (i := 2410) (by decide +kernel), List.mem_of_getElem? (i := 3103) (by decide +kernel), List.mem_of_getElem? (i := 3104) (by decide +kernel)⟩
theorem lw_p113 : lw_okq (⟨"LanternserverModel", "resets", "(LLanternserverModel$Line;I)V"⟩, 96) := ⟨⟨by decide +kernel, by decide +kernel⟩, List.mem_of_getElem? (i := 2410) (by decide +kernel), List.mem_of_getElem? (i := 3107) (by decide +kernel), List.mem_of_getElem? (i := 3108) (by decide +kernel)⟩
theorem lw_p114 : lw_okq (⟨"LanternserverModel", "sendSegment", "(IIIIIIIIILLanternserverModel$Bytes;II)V"⟩, 96) := ⟨⟨by decide +kernel, by decide +kernel⟩, List.mem_of_getElem? (i := 2410) (by decide +kernel), List.mem_of_getElem? (i := 3111) (by decide +kernel), List.mem_of_getElem? (i := 3112) (by decide +kernel)⟩
theorem lw_p115 : lw_okq (⟨"LanternserverModel", "answerer", "(LLanternserverModel$Line;)I"⟩, 96) := ⟨⟨by decide +kernel, by decide +kernel⟩, List.mem_of_getElem? (i := 2410) (by decide +kernel), List.mem_of_getElem? (i := 3122) (by decide +kernel), List.mem_of_getElem? (i := 3123) (by decide +kernel)⟩
theorem lw_p116 : lw_okq (⟨"LanternserverModel", "establishes", "(LLanternserverModel$Line;)V"⟩, 96) := ⟨⟨by decide +kernel, by decide +kernel⟩, List.mem_of_getElem? (i := 2410) (by decide +kernel), List.mem_of_getElem? (i := 3126) (by decide +kernel), List.mem_of_getElem? (i := 3127) (by decide +kernel)⟩
theorem lw_p117 : lw_okq (⟨"LanternserverModel", "acknowledges", "(LLanternserverModel$Line;)V"⟩, 96) := ⟨⟨by decide +kernel, by decide +kernel⟩, List.mem_of_getElem? (i := 2410) (by decide +kernel), List.mem_of_getElem? (i := 3130) (by decide +kernel), List.mem_of_getElem? (i := 3131) (by decide +kernel)⟩
theorem lw_p118 : lw_okq (⟨"LanternserverModel", "sendOn", "(LLanternserverModel$Line;IIII)V"⟩, 96) := ⟨⟨by decide +kernel, by decide +kernel⟩, List.mem_of_getElem? (i := 2410) (by decide +kernel), List.mem_of_getElem? (i := 3134) (by decide +kernel), List.mem_of_getElem? (i := 3135) (by decide +kernel)⟩
theorem lw_p119 : lw_okq (⟨"LanternserverModel", "sendsAll", "(LLanternserverModel$Line;)V"⟩, 96) := ⟨⟨by decide +kernel, by decide +kernel⟩, List.mem_of_getElem? (i := 2410) (by decide +kernel), List.mem_of_getElem? (i := 3150) (by decide +kernel), List.mem_of_getElem? (i := 3151) (by decide +kernel)⟩
theorem lw_p120 : lw_okq (⟨"LanternserverModel", "sendBytes", "(LLanternserverModel$Line;I)V"⟩, 96) := ⟨⟨by decide +kernel, by decide +kernel⟩, List.mem_of_getElem? (i := 2410) (by decide +kernel), List.mem_of_getElem? (i := 3168) (by decide +kernel), List.mem_of_getElem? (i := 3169) (by decide +kernel)⟩
theorem lw_p121 : lw_okq (⟨"LanternserverModel", "timesAnew", "(LLanternserverModel$Line;)V"⟩, 96) := ⟨⟨by decide +kernel, by decide +kernel⟩, List.mem_of_getElem? (i := 2410) (by decide +kernel), List.mem_of_getElem? (i := 3172) (by decide +kernel), List.mem_of_getElem? (i := 3173) (by decide +kernel)⟩
theorem lw_p122 : lw_okq (⟨"LanternserverModel", "isAcknowledged", "(LLanternserverModel$Line;)Z"⟩, 96) := ⟨⟨by decide +kernel, by decide +kernel⟩, List.mem_of_getElem? (i := 2410) (by decide +kernel), List.mem_of_getElem? (i := 3185) (by decide +kernel), List.mem_of_getElem? (i := 3186) (by decide +kernel)⟩
theorem lw_p123 : lw_okq (⟨"LanternserverModel", "measures", "(LLanternserverModel$Line;)V"⟩, 96) := ⟨⟨by decide +kernel, by decide +kernel⟩, List.mem_of_getElem? (i := 2410) (by decide +kernel), List.mem_of_getElem? (i := 3193) (by decide +kernel), List.mem_of_getElem? (i := 3194) (by decide +kernel)⟩
theorem lw_p124 : lw_okq (⟨"LanternserverModel", "sendsAgain", "(LLanternserverModel$Line;)V"⟩, 96) := ⟨⟨by decide +kernel, by decide +kernel⟩, List.mem_of_getElem? (i := 2410) (by decide +kernel), List.mem_of_getElem? (i := 3197) (by decide +kernel), List.mem_of_getElem? (i := 3198) (by decide +kernel)⟩
theorem lw_p125 : lw_okq (⟨"LanternserverModel", "shrinks", "(LLanternserverModel$Line;Z)V"⟩, 96) := ⟨⟨by decide +kernel, by decide +kernel⟩, List.mem_of_getElem? (i := 2410) (by decide +kernel), List.mem_of_getElem? (i := 3205) (by decide +kernel), List.mem_of_getElem? (i := 3206) (by decide +kernel)⟩
theorem lw_p126 : lw_okq (⟨"LanternserverModel", "isFinGone", "(LLanternserverModel$Line;)Z"⟩, 96) := ⟨⟨by decide +kernel, by decide +kernel⟩, List.mem_of_getElem? (i := 2410) (by decide +kernel), List.mem_of_getElem? (i := 3209) (by decide +kernel), List.mem_of_getElem? (i := 3210) (by decide +kernel)⟩
theorem lw_p127 : lw_okq (⟨"LanternserverModel", "takesBytes", "(LLanternserverModel$Line;)V"⟩, 96) := ⟨⟨by decide +kernel, by decide +kernel⟩, List.mem_of_getElem? (i := 2410) (by decide +kernel), List.mem_of_getElem? (i := 3213) (by decide +kernel), List.mem_of_getElem? (i := 3214) (by decide +kernel)⟩
def lw_privs_8 : List (MethodName × Nat) := [(⟨"LanternserverModel", "answers", "(LLanternserverModel$Line;I)V"⟩, 96), (⟨"LanternserverModel", "resets", "(LLanternserverModel$Line;I)V"⟩, 96), (⟨"LanternserverModel", "sendSegment", "(IIIIIIIIILLanternserverModel$Bytes;II)V"⟩, 96), (⟨"LanternserverModel", "answerer", "(LLanternserverModel$Line;)I"⟩, 96), (⟨"LanternserverModel", "establishes", "(LLanternserverModel$Line;)V"⟩, 96), (⟨"LanternserverModel", "acknowledges", "(LLanternserverModel$Line;)V"⟩, 96), (⟨"LanternserverModel", "sendOn", "(LLanternserverModel$Line;IIII)V"⟩, 96), (⟨"LanternserverModel", "sendsAll", "(LLanternserverModel$Line;)V"⟩, 96), (⟨"LanternserverModel", "sendBytes", "(LLanternserverModel$Line;I)V"⟩, 96), (⟨"LanternserverModel", "timesAnew", "(LLanternserverModel$Line;)V"⟩, 96), (⟨"LanternserverModel", "isAcknowledged", "(LLanternserverModel$Line;)Z"⟩, 96), (⟨"LanternserverModel", "measures", "(LLanternserverModel$Line;)V"⟩, 96), (⟨"LanternserverModel", "sendsAgain", "(LLanternserverModel$Line;)V"⟩, 96), (⟨"LanternserverModel", "shrinks", "(LLanternserverModel$Line;Z)V"⟩, 96), (⟨"LanternserverModel", "isFinGone", "(LLanternserverModel$Line;)Z"⟩, 96), (⟨"LanternserverModel", "takesBytes", "(LLanternserverModel$Line;)V"⟩, 96)]
theorem lw_r8 : ∀ q ∈ lw_privs_8, lw_okq q := List.forall_mem_cons.mpr ⟨lw_p112, List.forall_mem_cons.mpr ⟨lw_p113, List.forall_mem_cons.mpr ⟨lw_p114, List.forall_mem_cons.mpr ⟨lw_p115, List.forall_mem_cons.mpr ⟨lw_p116, List.forall_mem_cons.mpr ⟨lw_p117, List.forall_mem_cons.mpr ⟨lw_p118, List.forall_mem_cons.mpr ⟨lw_p119, List.forall_mem_cons.mpr ⟨lw_p120, List.forall_mem_cons.mpr ⟨lw_p121, List.forall_mem_cons.mpr ⟨lw_p122, List.forall_mem_cons.mpr ⟨lw_p123, List.forall_mem_cons.mpr ⟨lw_p124, List.forall_mem_cons.mpr ⟨lw_p125, List.forall_mem_cons.mpr ⟨lw_p126, List.forall_mem_cons.mpr ⟨lw_p127, fun _ h => absurd h List.not_mem_nil⟩⟩⟩⟩⟩⟩⟩⟩⟩⟩⟩⟩⟩⟩⟩⟩
theorem lw_p128 : lw_okq (⟨"LanternserverModel", "keeps", "(LLanternserverModel$Line;I)V"⟩, 96) := ⟨⟨by decide +kernel, by decide +kernel⟩, List.mem_of_getElem? (i := 2410) (by decide +kernel), List.mem_of_getElem? (i := 3217) (by decide +kernel), List.mem_of_getElem? (i := 3218) (by decide +kernel)⟩
theorem lw_p129 : lw_okq (⟨"LanternserverModel", "finComes", "(LLanternserverModel$Line;)V"⟩, 96) := ⟨⟨by decide +kernel, by decide +kernel⟩, List.mem_of_getElem? (i := 2410) (by decide +kernel), List.mem_of_getElem? (i := 3243) (by decide +kernel), List.mem_of_getElem? (i := 3244) (by decide +kernel)⟩
theorem lw_p130 : lw_okq (⟨"LanternserverModel", "serves", "(I)V"⟩, 96) := ⟨⟨by decide +kernel, by decide +kernel⟩, List.mem_of_getElem? (i := 2410) (by decide +kernel), List.mem_of_getElem? (i := 3247) (by decide +kernel), List.mem_of_getElem? (i := 3248) (by decide +kernel)⟩
theorem lw_p131 : lw_okq (⟨"LanternserverModel", "beginsRequest", "(I)V"⟩, 96) := ⟨⟨by decide +kernel, by decide +kernel⟩, List.mem_of_getElem? (i := 2410) (by decide +kernel), List.mem_of_getElem? (i := 3251) (by decide +kernel), List.mem_of_getElem? (i := 3252) (by decide +kernel)⟩
theorem lw_p132 : lw_okq (⟨"LanternserverModel", "isOpen", "(I)Z"⟩, 96) := ⟨⟨by decide +kernel, by decide +kernel⟩, List.mem_of_getElem? (i := 2410) (by decide +kernel), List.mem_of_getElem? (i := 3255) (by decide +kernel), List.mem_of_getElem? (i := 3256) (by decide +kernel)⟩
theorem lw_p133 : lw_okq (⟨"LanternserverModel", "writesOn", "(I)V"⟩, 96) := ⟨⟨by decide +kernel, by decide +kernel⟩, List.mem_of_getElem? (i := 2410) (by decide +kernel), List.mem_of_getElem? (i := 3259) (by decide +kernel), List.mem_of_getElem? (i := 3260) (by decide +kernel)⟩
theorem lw_p134 : lw_okq (⟨"LanternserverModel", "room", "(I)I"⟩, 96) := ⟨⟨by decide +kernel, by decide +kernel⟩, List.mem_of_getElem? (i := 2410) (by decide +kernel), List.mem_of_getElem? (i := 3263) (by decide +kernel), List.mem_of_getElem? (i := 3264) (by decide +kernel)⟩
theorem lw_p135 : lw_okq (⟨"LanternserverModel", "writes", "(II)V"⟩, 96) := ⟨⟨by decide +kernel, by decide +kernel⟩, List.mem_of_getElem? (i := 2410) (by decide +kernel), List.mem_of_getElem? (i := 3267) (by decide +kernel), List.mem_of_getElem? (i := 3268) (by decide +kernel)⟩
theorem lw_p136 : lw_okq (⟨"LanternserverModel", "closes", "(I)V"⟩, 96) := ⟨⟨by decide +kernel, by decide +kernel⟩, List.mem_of_getElem? (i := 2410) (by decide +kernel), List.mem_of_getElem? (i := 3271) (by decide +kernel), List.mem_of_getElem? (i := 3272) (by decide +kernel)⟩
theorem lw_p137 : lw_okq (⟨"LanternserverModel", "isToRead", "(I)I"⟩, 96) := ⟨⟨by decide +kernel, by decide +kernel⟩, List.mem_of_getElem? (i := 2410) (by decide +kernel), List.mem_of_getElem? (i := 3275) (by decide +kernel), List.mem_of_getElem? (i := 3276) (by decide +kernel)⟩
theorem lw_p138 : lw_okq (⟨"LanternserverModel", "takes", "(I)I"⟩, 96) := ⟨⟨by decide +kernel, by decide +kernel⟩, List.mem_of_getElem? (i := 2410) (by decide +kernel), List.mem_of_getElem? (i := 3280) (by decide +kernel), List.mem_of_getElem? (i := 3281) (by decide +kernel)⟩
theorem lw_p139 : lw_okq (⟨"LanternserverModel", "reads", "(LLanternserverModel$Line;I)V"⟩, 96) := ⟨⟨by decide +kernel, by decide +kernel⟩, List.mem_of_getElem? (i := 2410) (by decide +kernel), List.mem_of_getElem? (i := 3284) (by decide +kernel), List.mem_of_getElem? (i := 3285) (by decide +kernel)⟩
theorem lw_p140 : lw_okq (⟨"LanternserverModel", "looksAt", "(II)I"⟩, 96) := ⟨⟨by decide +kernel, by decide +kernel⟩, List.mem_of_getElem? (i := 2410) (by decide +kernel), List.mem_of_getElem? (i := 3288) (by decide +kernel), List.mem_of_getElem? (i := 3289) (by decide +kernel)⟩
theorem lw_p141 : lw_okq (⟨"LanternserverModel", "looksInLine", "(II)I"⟩, 96) := ⟨⟨by decide +kernel, by decide +kernel⟩, List.mem_of_getElem? (i := 2410) (by decide +kernel), List.mem_of_getElem? (i := 3292) (by decide +kernel), List.mem_of_getElem? (i := 3293) (by decide +kernel)⟩
theorem lw_p142 : lw_okq (⟨"LanternserverModel", "stands", "(II)Z"⟩, 96) := ⟨⟨by decide +kernel, by decide +kernel⟩, List.mem_of_getElem? (i := 2410) (by decide +kernel), List.mem_of_getElem? (i := 3296) (by decide +kernel), List.mem_of_getElem? (i := 3297) (by decide +kernel)⟩
theorem lw_p143 : lw_okq (⟨"LanternserverModel", "endsLine", "(I)V"⟩, 96) := ⟨⟨by decide +kernel, by decide +kernel⟩, List.mem_of_getElem? (i := 2410) (by decide +kernel), List.mem_of_getElem? (i := 3313) (by decide +kernel), List.mem_of_getElem? (i := 3314) (by decide +kernel)⟩
def lw_privs_9 : List (MethodName × Nat) := [(⟨"LanternserverModel", "keeps", "(LLanternserverModel$Line;I)V"⟩, 96), (⟨"LanternserverModel", "finComes", "(LLanternserverModel$Line;)V"⟩, 96), (⟨"LanternserverModel", "serves", "(I)V"⟩, 96), (⟨"LanternserverModel", "beginsRequest", "(I)V"⟩, 96), (⟨"LanternserverModel", "isOpen", "(I)Z"⟩, 96), (⟨"LanternserverModel", "writesOn", "(I)V"⟩, 96), (⟨"LanternserverModel", "room", "(I)I"⟩, 96), (⟨"LanternserverModel", "writes", "(II)V"⟩, 96), (⟨"LanternserverModel", "closes", "(I)V"⟩, 96), (⟨"LanternserverModel", "isToRead", "(I)I"⟩, 96), (⟨"LanternserverModel", "takes", "(I)I"⟩, 96), (⟨"LanternserverModel", "reads", "(LLanternserverModel$Line;I)V"⟩, 96), (⟨"LanternserverModel", "looksAt", "(II)I"⟩, 96), (⟨"LanternserverModel", "looksInLine", "(II)I"⟩, 96), (⟨"LanternserverModel", "stands", "(II)Z"⟩, 96), (⟨"LanternserverModel", "endsLine", "(I)V"⟩, 96)]
theorem lw_r9 : ∀ q ∈ lw_privs_9, lw_okq q := List.forall_mem_cons.mpr ⟨lw_p128, List.forall_mem_cons.mpr ⟨lw_p129, List.forall_mem_cons.mpr ⟨lw_p130, List.forall_mem_cons.mpr ⟨lw_p131, List.forall_mem_cons.mpr ⟨lw_p132, List.forall_mem_cons.mpr ⟨lw_p133, List.forall_mem_cons.mpr ⟨lw_p134, List.forall_mem_cons.mpr ⟨lw_p135, List.forall_mem_cons.mpr ⟨lw_p136, List.forall_mem_cons.mpr ⟨lw_p137, List.forall_mem_cons.mpr ⟨lw_p138, List.forall_mem_cons.mpr ⟨lw_p139, List.forall_mem_cons.mpr ⟨lw_p140, List.forall_mem_cons.mpr ⟨lw_p141, List.forall_mem_cons.mpr ⟨lw_p142, List.forall_mem_cons.mpr ⟨lw_p143, fun _ h => absurd h List.not_mem_nil⟩⟩⟩⟩⟩⟩⟩⟩⟩⟩⟩⟩⟩⟩⟩⟩
theorem lw_p144 : lw_okq (⟨"LanternserverModel", "tellsLength", "(I)V"⟩, 96) := ⟨⟨by decide +kernel, by decide +kernel⟩, List.mem_of_getElem? (i := 2410) (by decide +kernel), List.mem_of_getElem? (i := 3317) (by decide +kernel), List.mem_of_getElem? (i := 3318) (by decide +kernel)⟩
theorem lw_p145 : lw_okq (⟨"LanternserverModel", "number", "(II)I"⟩, 96) := ⟨⟨by decide +kernel, by decide +kernel⟩, List.mem_of_getElem? (i := 2410) (by decide +kernel), List.mem_of_getElem? (i := 3321) (by decide +kernel), List.mem_of_getElem? (i := 3322) (by decide +kernel)⟩
theorem lw_p146 : lw_okq (⟨"LanternserverModel", "valueAt", "(II)I"⟩, 96) := ⟨⟨by decide +kernel, by decide +kernel⟩, List.mem_of_getElem? (i := 2410) (by decide +kernel), List.mem_of_getElem? (i := 3325) (by decide +kernel), List.mem_of_getElem? (i := 3326) (by decide +kernel)⟩
theorem lw_p147 : lw_okq (⟨"LanternserverModel", "isValue", "(II)Z"⟩, 96) := ⟨⟨by decide +kernel, by decide +kernel⟩, List.mem_of_getElem? (i := 2410) (by decide +kernel), List.mem_of_getElem? (i := 3332) (by decide +kernel), List.mem_of_getElem? (i := 3333) (by decide +kernel)⟩
theorem lw_p148 : lw_okq (⟨"LanternserverModel", "textLong", "(I)I"⟩, 96) := ⟨⟨by decide +kernel, by decide +kernel⟩, List.mem_of_getElem? (i := 2410) (by decide +kernel), List.mem_of_getElem? (i := 3336) (by decide +kernel), List.mem_of_getElem? (i := 3337) (by decide +kernel)⟩
theorem lw_p149 : lw_okq (⟨"LanternserverModel", "textAt", "(II)I"⟩, 96) := ⟨⟨by decide +kernel, by decide +kernel⟩, List.mem_of_getElem? (i := 2410) (by decide +kernel), List.mem_of_getElem? (i := 3343) (by decide +kernel), List.mem_of_getElem? (i := 3344) (by decide +kernel)⟩
theorem lw_p150 : lw_okq (⟨"LanternserverModel", "tagOf", "(I)I"⟩, 96) := ⟨⟨by decide +kernel, by decide +kernel⟩, List.mem_of_getElem? (i := 2410) (by decide +kernel), List.mem_of_getElem? (i := 3347) (by decide +kernel), List.mem_of_getElem? (i := 3348) (by decide +kernel)⟩
theorem lw_p151 : lw_okq (⟨"LanternserverModel", "tellsRange", "(I)V"⟩, 96) := ⟨⟨by decide +kernel, by decide +kernel⟩, List.mem_of_getElem? (i := 2410) (by decide +kernel), List.mem_of_getElem? (i := 3351) (by decide +kernel), List.mem_of_getElem? (i := 3352) (by decide +kernel)⟩
theorem lw_p152 : lw_okq (⟨"LanternserverModel", "takesMethod", "(II)V"⟩, 96) := ⟨⟨by decide +kernel, by decide +kernel⟩, List.mem_of_getElem? (i := 2410) (by decide +kernel), List.mem_of_getElem? (i := 3355) (by decide +kernel), List.mem_of_getElem? (i := 3356) (by decide +kernel)⟩
theorem lw_p153 : lw_okq (⟨"LanternserverModel", "through", "(III)I"⟩, 96) := ⟨⟨by decide +kernel, by decide +kernel⟩, List.mem_of_getElem? (i := 2410) (by decide +kernel), List.mem_of_getElem? (i := 3359) (by decide +kernel), List.mem_of_getElem? (i := 3360) (by decide +kernel)⟩
theorem lw_p154 : lw_okq (⟨"LanternserverModel", "fitting", "(IIII)I"⟩, 96) := ⟨⟨by decide +kernel, by decide +kernel⟩, List.mem_of_getElem? (i := 2410) (by decide +kernel), List.mem_of_getElem? (i := 3363) (by decide +kernel), List.mem_of_getElem? (i := 3364) (by decide +kernel)⟩
theorem lw_p155 : lw_okq (⟨"LanternserverModel", "takesTarget", "(II)V"⟩, 96) := ⟨⟨by decide +kernel, by decide +kernel⟩, List.mem_of_getElem? (i := 2410) (by decide +kernel), List.mem_of_getElem? (i := 3367) (by decide +kernel), List.mem_of_getElem? (i := 3368) (by decide +kernel)⟩
theorem lw_p156 : lw_okq (⟨"LanternserverModel", "nextWord", "(III)V"⟩, 96) := ⟨⟨by decide +kernel, by decide +kernel⟩, List.mem_of_getElem? (i := 2410) (by decide +kernel), List.mem_of_getElem? (i := 3371) (by decide +kernel), List.mem_of_getElem? (i := 3372) (by decide +kernel)⟩
theorem lw_p157 : lw_okq (⟨"LanternserverModel", "takesVersion", "(II)V"⟩, 96) := ⟨⟨by decide +kernel, by decide +kernel⟩, List.mem_of_getElem? (i := 2410) (by decide +kernel), List.mem_of_getElem? (i := 3375) (by decide +kernel), List.mem_of_getElem? (i := 3376) (by decide +kernel)⟩
theorem lw_p158 : lw_okq (⟨"LanternserverModel", "takesName", "(II)V"⟩, 96) := ⟨⟨by decide +kernel, by decide +kernel⟩, List.mem_of_getElem? (i := 2410) (by decide +kernel), List.mem_of_getElem? (i := 3380) (by decide +kernel), List.mem_of_getElem? (i := 3381) (by decide +kernel)⟩
theorem lw_p159 : lw_okq (⟨"LanternserverModel", "takesValue", "(II)V"⟩, 96) := ⟨⟨by decide +kernel, by decide +kernel⟩, List.mem_of_getElem? (i := 2410) (by decide +kernel), List.mem_of_getElem? (i := 3384) (by decide +kernel), List.mem_of_getElem? (i := 3385) (by decide +kernel)⟩
def lw_privs_10 : List (MethodName × Nat) := [(⟨"LanternserverModel", "tellsLength", "(I)V"⟩, 96), (⟨"LanternserverModel", "number", "(II)I"⟩, 96), (⟨"LanternserverModel", "valueAt", "(II)I"⟩, 96), (⟨"LanternserverModel", "isValue", "(II)Z"⟩, 96), (⟨"LanternserverModel", "textLong", "(I)I"⟩, 96), (⟨"LanternserverModel", "textAt", "(II)I"⟩, 96), (⟨"LanternserverModel", "tagOf", "(I)I"⟩, 96), (⟨"LanternserverModel", "tellsRange", "(I)V"⟩, 96), (⟨"LanternserverModel", "takesMethod", "(II)V"⟩, 96), (⟨"LanternserverModel", "through", "(III)I"⟩, 96), (⟨"LanternserverModel", "fitting", "(IIII)I"⟩, 96), (⟨"LanternserverModel", "takesTarget", "(II)V"⟩, 96), (⟨"LanternserverModel", "nextWord", "(III)V"⟩, 96), (⟨"LanternserverModel", "takesVersion", "(II)V"⟩, 96), (⟨"LanternserverModel", "takesName", "(II)V"⟩, 96), (⟨"LanternserverModel", "takesValue", "(II)V"⟩, 96)]
theorem lw_r10 : ∀ q ∈ lw_privs_10, lw_okq q := List.forall_mem_cons.mpr ⟨lw_p144, List.forall_mem_cons.mpr ⟨lw_p145, List.forall_mem_cons.mpr ⟨lw_p146, List.forall_mem_cons.mpr ⟨lw_p147, List.forall_mem_cons.mpr ⟨lw_p148, List.forall_mem_cons.mpr ⟨lw_p149, List.forall_mem_cons.mpr ⟨lw_p150, List.forall_mem_cons.mpr ⟨lw_p151, List.forall_mem_cons.mpr ⟨lw_p152, List.forall_mem_cons.mpr ⟨lw_p153, List.forall_mem_cons.mpr ⟨lw_p154, List.forall_mem_cons.mpr ⟨lw_p155, List.forall_mem_cons.mpr ⟨lw_p156, List.forall_mem_cons.mpr ⟨lw_p157, List.forall_mem_cons.mpr ⟨lw_p158, List.forall_mem_cons.mpr ⟨lw_p159, fun _ h => absurd h List.not_mem_nil⟩⟩⟩⟩⟩⟩⟩⟩⟩⟩⟩⟩⟩⟩⟩⟩
theorem lw_p160 : lw_okq (⟨"LanternserverModel", "looksAtLine", "(II)I"⟩, 96) := ⟨⟨by decide +kernel, by decide +kernel⟩, List.mem_of_getElem? (i := 2410) (by decide +kernel), List.mem_of_getElem? (i := 3388) (by decide +kernel), List.mem_of_getElem? (i := 3389) (by decide +kernel)⟩
theorem lw_p161 : lw_okq (⟨"LanternserverModel", "endsHead", "(I)I"⟩, 96) := ⟨⟨by decide +kernel, by decide +kernel⟩, List.mem_of_getElem? (i := 2410) (by decide +kernel), List.mem_of_getElem? (i := 3392) (by decide +kernel), List.mem_of_getElem? (i := 3393) (by decide +kernel)⟩
theorem lw_p162 : lw_okq (⟨"LanternserverModel", "takesBody", "(II)V"⟩, 96) := ⟨⟨by decide +kernel, by decide +kernel⟩, List.mem_of_getElem? (i := 2410) (by decide +kernel), List.mem_of_getElem? (i := 3396) (by decide +kernel), List.mem_of_getElem? (i := 3397) (by decide +kernel)⟩
theorem lw_p163 : lw_okq (⟨"LanternserverModel", "looksInChunks", "(II)I"⟩, 96) := ⟨⟨by decide +kernel, by decide +kernel⟩, List.mem_of_getElem? (i := 2410) (by decide +kernel), List.mem_of_getElem? (i := 3400) (by decide +kernel), List.mem_of_getElem? (i := 3401) (by decide +kernel)⟩
theorem lw_p164 : lw_okq (⟨"LanternserverModel", "looksAtSize", "(II)I"⟩, 96) := ⟨⟨by decide +kernel, by decide +kernel⟩, List.mem_of_getElem? (i := 2410) (by decide +kernel), List.mem_of_getElem? (i := 3404) (by decide +kernel), List.mem_of_getElem? (i := 3405) (by decide +kernel)⟩
theorem lw_p165 : lw_okq (⟨"LanternserverModel", "goesTo", "(II)I"⟩, 96) := ⟨⟨by decide +kernel, by decide +kernel⟩, List.mem_of_getElem? (i := 2410) (by decide +kernel), List.mem_of_getElem? (i := 3408) (by decide +kernel), List.mem_of_getElem? (i := 3409) (by decide +kernel)⟩
theorem lw_p166 : lw_okq (⟨"LanternserverModel", "servesOne", "(II)V"⟩, 96) := ⟨⟨by decide +kernel, by decide +kernel⟩, List.mem_of_getElem? (i := 2410) (by decide +kernel), List.mem_of_getElem? (i := 3416) (by decide +kernel), List.mem_of_getElem? (i := 3417) (by decide +kernel)⟩
theorem lw_p167 : lw_okq (⟨"LanternserverModel", "isLast", "(IZ)Z"⟩, 96) := ⟨⟨by decide +kernel, by decide +kernel⟩, List.mem_of_getElem? (i := 2410) (by decide +kernel), List.mem_of_getElem? (i := 3423) (by decide +kernel), List.mem_of_getElem? (i := 3424) (by decide +kernel)⟩
theorem lw_p168 : lw_okq (⟨"LanternserverModel", "does", "(III)I"⟩, 96) := ⟨⟨by decide +kernel, by decide +kernel⟩, List.mem_of_getElem? (i := 2410) (by decide +kernel), List.mem_of_getElem? (i := 3427) (by decide +kernel), List.mem_of_getElem? (i := 3428) (by decide +kernel)⟩
theorem lw_p169 : lw_okq (⟨"LanternserverModel", "isDone", "(II)I"⟩, 96) := ⟨⟨by decide +kernel, by decide +kernel⟩, List.mem_of_getElem? (i := 2410) (by decide +kernel), List.mem_of_getElem? (i := 3431) (by decide +kernel), List.mem_of_getElem? (i := 3432) (by decide +kernel)⟩
theorem lw_p170 : lw_okq (⟨"LanternserverModel", "targetKind", "(I)I"⟩, 96) := ⟨⟨by decide +kernel, by decide +kernel⟩, List.mem_of_getElem? (i := 2410) (by decide +kernel), List.mem_of_getElem? (i := 3435) (by decide +kernel), List.mem_of_getElem? (i := 3436) (by decide +kernel)⟩
theorem lw_p171 : lw_okq (⟨"LanternserverModel", "targetAt", "(II)I"⟩, 96) := ⟨⟨by decide +kernel, by decide +kernel⟩, List.mem_of_getElem? (i := 2410) (by decide +kernel), List.mem_of_getElem? (i := 3439) (by decide +kernel), List.mem_of_getElem? (i := 3440) (by decide +kernel)⟩
theorem lw_p172 : lw_okq (⟨"LanternserverModel", "fileOf", "(II)I"⟩, 96) := ⟨⟨by decide +kernel, by decide +kernel⟩, List.mem_of_getElem? (i := 2410) (by decide +kernel), List.mem_of_getElem? (i := 3443) (by decide +kernel), List.mem_of_getElem? (i := 3444) (by decide +kernel)⟩
theorem lw_p173 : lw_okq (⟨"LanternserverModel", "compares", "(II)I"⟩, 96) := ⟨⟨by decide +kernel, by decide +kernel⟩, List.mem_of_getElem? (i := 2410) (by decide +kernel), List.mem_of_getElem? (i := 3447) (by decide +kernel), List.mem_of_getElem? (i := 3448) (by decide +kernel)⟩
theorem lw_p174 : lw_okq (⟨"LanternserverModel", "isPut", "(III)I"⟩, 96) := ⟨⟨by decide +kernel, by decide +kernel⟩, List.mem_of_getElem? (i := 2410) (by decide +kernel), List.mem_of_getElem? (i := 3451) (by decide +kernel), List.mem_of_getElem? (i := 3452) (by decide +kernel)⟩
theorem lw_p175 : lw_okq (⟨"LanternserverModel", "isRefused", "(II)Z"⟩, 96) := ⟨⟨by decide +kernel, by decide +kernel⟩, List.mem_of_getElem? (i := 2410) (by decide +kernel), List.mem_of_getElem? (i := 3455) (by decide +kernel), List.mem_of_getElem? (i := 3456) (by decide +kernel)⟩
def lw_privs_11 : List (MethodName × Nat) := [(⟨"LanternserverModel", "looksAtLine", "(II)I"⟩, 96), (⟨"LanternserverModel", "endsHead", "(I)I"⟩, 96), (⟨"LanternserverModel", "takesBody", "(II)V"⟩, 96), (⟨"LanternserverModel", "looksInChunks", "(II)I"⟩, 96), (⟨"LanternserverModel", "looksAtSize", "(II)I"⟩, 96), (⟨"LanternserverModel", "goesTo", "(II)I"⟩, 96), (⟨"LanternserverModel", "servesOne", "(II)V"⟩, 96), (⟨"LanternserverModel", "isLast", "(IZ)Z"⟩, 96), (⟨"LanternserverModel", "does", "(III)I"⟩, 96), (⟨"LanternserverModel", "isDone", "(II)I"⟩, 96), (⟨"LanternserverModel", "targetKind", "(I)I"⟩, 96), (⟨"LanternserverModel", "targetAt", "(II)I"⟩, 96), (⟨"LanternserverModel", "fileOf", "(II)I"⟩, 96), (⟨"LanternserverModel", "compares", "(II)I"⟩, 96), (⟨"LanternserverModel", "isPut", "(III)I"⟩, 96), (⟨"LanternserverModel", "isRefused", "(II)Z"⟩, 96)]
theorem lw_r11 : ∀ q ∈ lw_privs_11, lw_okq q := List.forall_mem_cons.mpr ⟨lw_p160, List.forall_mem_cons.mpr ⟨lw_p161, List.forall_mem_cons.mpr ⟨lw_p162, List.forall_mem_cons.mpr ⟨lw_p163, List.forall_mem_cons.mpr ⟨lw_p164, List.forall_mem_cons.mpr ⟨lw_p165, List.forall_mem_cons.mpr ⟨lw_p166, List.forall_mem_cons.mpr ⟨lw_p167, List.forall_mem_cons.mpr ⟨lw_p168, List.forall_mem_cons.mpr ⟨lw_p169, List.forall_mem_cons.mpr ⟨lw_p170, List.forall_mem_cons.mpr ⟨lw_p171, List.forall_mem_cons.mpr ⟨lw_p172, List.forall_mem_cons.mpr ⟨lw_p173, List.forall_mem_cons.mpr ⟨lw_p174, List.forall_mem_cons.mpr ⟨lw_p175, fun _ h => absurd h List.not_mem_nil⟩⟩⟩⟩⟩⟩⟩⟩⟩⟩⟩⟩⟩⟩⟩⟩
theorem lw_p176 : lw_okq (⟨"LanternserverModel", "fitsTag", "(II)Z"⟩, 96) := ⟨⟨by decide +kernel, by decide +kernel⟩, List.mem_of_getElem? (i := 2410) (by decide +kernel), List.mem_of_getElem? (i := 3459) (by decide +kernel), List.mem_of_getElem? (i := 3460) (by decide +kernel)⟩
theorem lw_p177 : lw_okq (⟨"LanternserverModel", "newFile", "(II)I"⟩, 96) := ⟨⟨by decide +kernel, by decide +kernel⟩, List.mem_of_getElem? (i := 2410) (by decide +kernel), List.mem_of_getElem? (i := 3463) (by decide +kernel), List.mem_of_getElem? (i := 3464) (by decide +kernel)⟩
theorem lw_p178 : lw_okq (⟨"LanternserverModel", "copiesFile", "(II)V"⟩, 96) := ⟨⟨by decide +kernel, by decide +kernel⟩, List.mem_of_getElem? (i := 2410) (by decide +kernel), List.mem_of_getElem? (i := 3467) (by decide +kernel), List.mem_of_getElem? (i := 3468) (by decide +kernel)⟩
theorem lw_p179 : lw_okq (⟨"LanternserverModel", "putsBody", "(III)V"⟩, 96) := ⟨⟨by decide +kernel, by decide +kernel⟩, List.mem_of_getElem? (i := 2410) (by decide +kernel), List.mem_of_getElem? (i := 3471) (by decide +kernel), List.mem_of_getElem? (i := 3472) (by decide +kernel)⟩
theorem lw_p180 : lw_okq (⟨"LanternserverModel", "range", "(II)I"⟩, 96) := ⟨⟨by decide +kernel, by decide +kernel⟩, List.mem_of_getElem? (i := 2410) (by decide +kernel), List.mem_of_getElem? (i := 3475) (by decide +kernel), List.mem_of_getElem? (i := 3476) (by decide +kernel)⟩
theorem lw_p181 : lw_okq (⟨"LanternserverModel", "dropsFile", "(II)V"⟩, 96) := ⟨⟨by decide +kernel, by decide +kernel⟩, List.mem_of_getElem? (i := 2410) (by decide +kernel), List.mem_of_getElem? (i := 3479) (by decide +kernel), List.mem_of_getElem? (i := 3480) (by decide +kernel)⟩
theorem lw_p182 : lw_okq (⟨"LanternserverModel", "answers", "(IIIZZ)V"⟩, 96) := ⟨⟨by decide +kernel, by decide +kernel⟩, List.mem_of_getElem? (i := 2410) (by decide +kernel), List.mem_of_getElem? (i := 3483) (by decide +kernel), List.mem_of_getElem? (i := 3484) (by decide +kernel)⟩
theorem lw_p183 : lw_okq (⟨"LanternserverModel", "wordOf", "(I)I"⟩, 96) := ⟨⟨by decide +kernel, by decide +kernel⟩, List.mem_of_getElem? (i := 2410) (by decide +kernel), List.mem_of_getElem? (i := 3487) (by decide +kernel), List.mem_of_getElem? (i := 3488) (by decide +kernel)⟩
theorem lw_p184 : lw_okq (⟨"LanternserverModel", "listLong", "(I)I"⟩, 96) := ⟨⟨by decide +kernel, by decide +kernel⟩, List.mem_of_getElem? (i := 2410) (by decide +kernel), List.mem_of_getElem? (i := 3491) (by decide +kernel), List.mem_of_getElem? (i := 3492) (by decide +kernel)⟩
theorem lw_p185 : lw_okq (⟨"LanternserverModel", "saysText", "(I)V"⟩, 96) := ⟨⟨by decide +kernel, by decide +kernel⟩, List.mem_of_getElem? (i := 2410) (by decide +kernel), List.mem_of_getElem? (i := 3495) (by decide +kernel), List.mem_of_getElem? (i := 3496) (by decide +kernel)⟩
theorem lw_p186 : lw_okq (⟨"LanternserverModel", "says", "(I)V"⟩, 96) := ⟨⟨by decide +kernel, by decide +kernel⟩, List.mem_of_getElem? (i := 2410) (by decide +kernel), List.mem_of_getElem? (i := 3499) (by decide +kernel), List.mem_of_getElem? (i := 3500) (by decide +kernel)⟩
theorem lw_p187 : lw_okq (⟨"LanternserverModel", "saysNumber", "(I)V"⟩, 96) := ⟨⟨by decide +kernel, by decide +kernel⟩, List.mem_of_getElem? (i := 2410) (by decide +kernel), List.mem_of_getElem? (i := 3503) (by decide +kernel), List.mem_of_getElem? (i := 3504) (by decide +kernel)⟩
theorem lw_p188 : lw_okq (⟨"LanternserverModel", "saysLineEnd", "()V"⟩, 96) := ⟨⟨by decide +kernel, by decide +kernel⟩, List.mem_of_getElem? (i := 2410) (by decide +kernel), List.mem_of_getElem? (i := 3507) (by decide +kernel), List.mem_of_getElem? (i := 3508) (by decide +kernel)⟩
theorem lw_p189 : lw_okq (⟨"LanternserverModel", "saysPart", "(I)V"⟩, 96) := ⟨⟨by decide +kernel, by decide +kernel⟩, List.mem_of_getElem? (i := 2410) (by decide +kernel), List.mem_of_getElem? (i := 3511) (by decide +kernel), List.mem_of_getElem? (i := 3512) (by decide +kernel)⟩
theorem lw_p190 : lw_okq (⟨"LanternserverModel", "saysList", "(I)V"⟩, 96) := ⟨⟨by decide +kernel, by decide +kernel⟩, List.mem_of_getElem? (i := 2410) (by decide +kernel), List.mem_of_getElem? (i := 3515) (by decide +kernel), List.mem_of_getElem? (i := 3516) (by decide +kernel)⟩
theorem lw_p191 : lw_okq (⟨"LanternserverModel", "hasEnded", "(I)Z"⟩, 96) := ⟨⟨by decide +kernel, by decide +kernel⟩, List.mem_of_getElem? (i := 2410) (by decide +kernel), List.mem_of_getElem? (i := 3519) (by decide +kernel), List.mem_of_getElem? (i := 3520) (by decide +kernel)⟩
def lw_privs_12 : List (MethodName × Nat) := [(⟨"LanternserverModel", "fitsTag", "(II)Z"⟩, 96), (⟨"LanternserverModel", "newFile", "(II)I"⟩, 96), (⟨"LanternserverModel", "copiesFile", "(II)V"⟩, 96), (⟨"LanternserverModel", "putsBody", "(III)V"⟩, 96), (⟨"LanternserverModel", "range", "(II)I"⟩, 96), (⟨"LanternserverModel", "dropsFile", "(II)V"⟩, 96), (⟨"LanternserverModel", "answers", "(IIIZZ)V"⟩, 96), (⟨"LanternserverModel", "wordOf", "(I)I"⟩, 96), (⟨"LanternserverModel", "listLong", "(I)I"⟩, 96), (⟨"LanternserverModel", "saysText", "(I)V"⟩, 96), (⟨"LanternserverModel", "says", "(I)V"⟩, 96), (⟨"LanternserverModel", "saysNumber", "(I)V"⟩, 96), (⟨"LanternserverModel", "saysLineEnd", "()V"⟩, 96), (⟨"LanternserverModel", "saysPart", "(I)V"⟩, 96), (⟨"LanternserverModel", "saysList", "(I)V"⟩, 96), (⟨"LanternserverModel", "hasEnded", "(I)Z"⟩, 96)]
theorem lw_r12 : ∀ q ∈ lw_privs_12, lw_okq q := List.forall_mem_cons.mpr ⟨lw_p176, List.forall_mem_cons.mpr ⟨lw_p177, List.forall_mem_cons.mpr ⟨lw_p178, List.forall_mem_cons.mpr ⟨lw_p179, List.forall_mem_cons.mpr ⟨lw_p180, List.forall_mem_cons.mpr ⟨lw_p181, List.forall_mem_cons.mpr ⟨lw_p182, List.forall_mem_cons.mpr ⟨lw_p183, List.forall_mem_cons.mpr ⟨lw_p184, List.forall_mem_cons.mpr ⟨lw_p185, List.forall_mem_cons.mpr ⟨lw_p186, List.forall_mem_cons.mpr ⟨lw_p187, List.forall_mem_cons.mpr ⟨lw_p188, List.forall_mem_cons.mpr ⟨lw_p189, List.forall_mem_cons.mpr ⟨lw_p190, List.forall_mem_cons.mpr ⟨lw_p191, fun _ h => absurd h List.not_mem_nil⟩⟩⟩⟩⟩⟩⟩⟩⟩⟩⟩⟩⟩⟩⟩⟩
theorem lw_p192 : lw_okq (⟨"LanternserverModel", "comesToNone", "(IIIII)V"⟩, 96) := ⟨⟨by decide +kernel, by decide +kernel⟩, List.mem_of_getElem? (i := 2410) (by decide +kernel), List.mem_of_getElem? (i := 3527) (by decide +kernel), List.mem_of_getElem? (i := 3528) (by decide +kernel)⟩
theorem lw_p193 : lw_okq (⟨"LanternserverModel", "openOfServer", "()I"⟩, 96) := ⟨⟨by decide +kernel, by decide +kernel⟩, List.mem_of_getElem? (i := 2410) (by decide +kernel), List.mem_of_getElem? (i := 3531) (by decide +kernel), List.mem_of_getElem? (i := 3532) (by decide +kernel)⟩
theorem lw_p194 : lw_okq (⟨"LanternserverModel", "beginner", "(LLanternserverModel$Line;)I"⟩, 96) := ⟨⟨by decide +kernel, by decide +kernel⟩, List.mem_of_getElem? (i := 2410) (by decide +kernel), List.mem_of_getElem? (i := 3703) (by decide +kernel), List.mem_of_getElem? (i := 3704) (by decide +kernel)⟩
theorem lw_p195 : lw_okq (⟨"LanternserverModel", "isLine", "(I)Z"⟩, 96) := ⟨⟨by decide +kernel, by decide +kernel⟩, List.mem_of_getElem? (i := 2410) (by decide +kernel), List.mem_of_getElem? (i := 3708) (by decide +kernel), List.mem_of_getElem? (i := 3709) (by decide +kernel)⟩
theorem lw_p196 : lw_okq (⟨"LanternserverModel", "puts", "(III[IIIZ)V"⟩, 96) := ⟨⟨by decide +kernel, by decide +kernel⟩, List.mem_of_getElem? (i := 2410) (by decide +kernel), List.mem_of_getElem? (i := 3712) (by decide +kernel), List.mem_of_getElem? (i := 3713) (by decide +kernel)⟩
theorem lw_p197 : lw_okq (⟨"LanternserverModel", "fine", "(ZZZ)Z"⟩, 96) := ⟨⟨by decide +kernel, by decide +kernel⟩, List.mem_of_getElem? (i := 2410) (by decide +kernel), List.mem_of_getElem? (i := 3783) (by decide +kernel), List.mem_of_getElem? (i := 3784) (by decide +kernel)⟩
theorem lw_p198 : lw_okq (⟨"LanternserverModel", "nameOnTape", "()[I"⟩, 96) := ⟨⟨by decide +kernel, by decide +kernel⟩, List.mem_of_getElem? (i := 2410) (by decide +kernel), List.mem_of_getElem? (i := 3798) (by decide +kernel), List.mem_of_getElem? (i := 3799) (by decide +kernel)⟩
theorem lw_p199 : lw_okq (⟨"LanternserverModel", "asks", "(I)V"⟩, 96) := ⟨⟨by decide +kernel, by decide +kernel⟩, List.mem_of_getElem? (i := 2410) (by decide +kernel), List.mem_of_getElem? (i := 3812) (by decide +kernel), List.mem_of_getElem? (i := 3813) (by decide +kernel)⟩
theorem lw_p200 : lw_okq (⟨"LanternserverModel", "tick", "()V"⟩, 96) := ⟨⟨by decide +kernel, by decide +kernel⟩, List.mem_of_getElem? (i := 2410) (by decide +kernel), List.mem_of_getElem? (i := 3829) (by decide +kernel), List.mem_of_getElem? (i := 3830) (by decide +kernel)⟩
theorem lw_p201 : lw_okq (⟨"LanternserverModel", "connectionsTick", "(I)V"⟩, 96) := ⟨⟨by decide +kernel, by decide +kernel⟩, List.mem_of_getElem? (i := 2410) (by decide +kernel), List.mem_of_getElem? (i := 3833) (by decide +kernel), List.mem_of_getElem? (i := 3834) (by decide +kernel)⟩
theorem lw_p202 : lw_okq (⟨"LanternserverModel", "isOver", "(LLanternserverModel$Line;)V"⟩, 96) := ⟨⟨by decide +kernel, by decide +kernel⟩, List.mem_of_getElem? (i := 2410) (by decide +kernel), List.mem_of_getElem? (i := 3842) (by decide +kernel), List.mem_of_getElem? (i := 3843) (by decide +kernel)⟩
theorem lw_p203 : lw_okq (⟨"LanternserverModel", "aborts", "(LLanternserverModel$Line;)V"⟩, 96) := ⟨⟨by decide +kernel, by decide +kernel⟩, List.mem_of_getElem? (i := 2410) (by decide +kernel), List.mem_of_getElem? (i := 3846) (by decide +kernel), List.mem_of_getElem? (i := 3847) (by decide +kernel)⟩
theorem lw_p204 : lw_okq (⟨"LanternserverModel", "doesATimerRun", "()Z"⟩, 96) := ⟨⟨by decide +kernel, by decide +kernel⟩, List.mem_of_getElem? (i := 2410) (by decide +kernel), List.mem_of_getElem? (i := 3854) (by decide +kernel), List.mem_of_getElem? (i := 3855) (by decide +kernel)⟩
theorem lw_p205 : lw_okq (⟨"LanternserverModel", "draw", "(I)I"⟩, 96) := ⟨⟨by decide +kernel, by decide +kernel⟩, List.mem_of_getElem? (i := 2410) (by decide +kernel), List.mem_of_getElem? (i := 3863) (by decide +kernel), List.mem_of_getElem? (i := 3864) (by decide +kernel)⟩
theorem lw_p206 : lw_okq (⟨"LanternserverModel", "canWrite", "(LLanternserverModel$Line;)Z"⟩, 96) := ⟨⟨by decide +kernel, by decide +kernel⟩, List.mem_of_getElem? (i := 2410) (by decide +kernel), List.mem_of_getElem? (i := 3880) (by decide +kernel), List.mem_of_getElem? (i := 3881) (by decide +kernel)⟩
theorem lw_p207 : lw_okq (⟨"LanternserverModel", "countOfLines", "(I)I"⟩, 96) := ⟨⟨by decide +kernel, by decide +kernel⟩, List.mem_of_getElem? (i := 2410) (by decide +kernel), List.mem_of_getElem? (i := 3935) (by decide +kernel), List.mem_of_getElem? (i := 3936) (by decide +kernel)⟩
def lw_privs_13 : List (MethodName × Nat) := [(⟨"LanternserverModel", "comesToNone", "(IIIII)V"⟩, 96), (⟨"LanternserverModel", "openOfServer", "()I"⟩, 96), (⟨"LanternserverModel", "beginner", "(LLanternserverModel$Line;)I"⟩, 96), (⟨"LanternserverModel", "isLine", "(I)Z"⟩, 96), (⟨"LanternserverModel", "puts", "(III[IIIZ)V"⟩, 96), (⟨"LanternserverModel", "fine", "(ZZZ)Z"⟩, 96), (⟨"LanternserverModel", "nameOnTape", "()[I"⟩, 96), (⟨"LanternserverModel", "asks", "(I)V"⟩, 96), (⟨"LanternserverModel", "tick", "()V"⟩, 96), (⟨"LanternserverModel", "connectionsTick", "(I)V"⟩, 96), (⟨"LanternserverModel", "isOver", "(LLanternserverModel$Line;)V"⟩, 96), (⟨"LanternserverModel", "aborts", "(LLanternserverModel$Line;)V"⟩, 96), (⟨"LanternserverModel", "doesATimerRun", "()Z"⟩, 96), (⟨"LanternserverModel", "draw", "(I)I"⟩, 96), (⟨"LanternserverModel", "canWrite", "(LLanternserverModel$Line;)Z"⟩, 96), (⟨"LanternserverModel", "countOfLines", "(I)I"⟩, 96)]
theorem lw_r13 : ∀ q ∈ lw_privs_13, lw_okq q := List.forall_mem_cons.mpr ⟨lw_p192, List.forall_mem_cons.mpr ⟨lw_p193, List.forall_mem_cons.mpr ⟨lw_p194, List.forall_mem_cons.mpr ⟨lw_p195, List.forall_mem_cons.mpr ⟨lw_p196, List.forall_mem_cons.mpr ⟨lw_p197, List.forall_mem_cons.mpr ⟨lw_p198, List.forall_mem_cons.mpr ⟨lw_p199, List.forall_mem_cons.mpr ⟨lw_p200, List.forall_mem_cons.mpr ⟨lw_p201, List.forall_mem_cons.mpr ⟨lw_p202, List.forall_mem_cons.mpr ⟨lw_p203, List.forall_mem_cons.mpr ⟨lw_p204, List.forall_mem_cons.mpr ⟨lw_p205, List.forall_mem_cons.mpr ⟨lw_p206, List.forall_mem_cons.mpr ⟨lw_p207, fun _ h => absurd h List.not_mem_nil⟩⟩⟩⟩⟩⟩⟩⟩⟩⟩⟩⟩⟩⟩⟩⟩
theorem lw_p208 : lw_okq (⟨"LanternserverModel", "servedWell", "()I"⟩, 96) := ⟨⟨by decide +kernel, by decide +kernel⟩, List.mem_of_getElem? (i := 2410) (by decide +kernel), List.mem_of_getElem? (i := 3939) (by decide +kernel), List.mem_of_getElem? (i := 3940) (by decide +kernel)⟩
theorem lw_p209 : lw_okq (⟨"LanternserverModel", "isSameRequest", "(I)Z"⟩, 96) := ⟨⟨by decide +kernel, by decide +kernel⟩, List.mem_of_getElem? (i := 2410) (by decide +kernel), List.mem_of_getElem? (i := 3951) (by decide +kernel), List.mem_of_getElem? (i := 3952) (by decide +kernel)⟩
theorem lw_p210 : lw_okq (⟨"LanternserverModel", "otherEnd", "(I)I"⟩, 96) := ⟨⟨by decide +kernel, by decide +kernel⟩, List.mem_of_getElem? (i := 2410) (by decide +kernel), List.mem_of_getElem? (i := 3955) (by decide +kernel), List.mem_of_getElem? (i := 3956) (by decide +kernel)⟩
theorem lw_p211 : lw_okq (⟨"LanternserverModel", "writtenMany", "(I)I"⟩, 96) := ⟨⟨by decide +kernel, by decide +kernel⟩, List.mem_of_getElem? (i := 2410) (by decide +kernel), List.mem_of_getElem? (i := 3959) (by decide +kernel), List.mem_of_getElem? (i := 3960) (by decide +kernel)⟩
theorem lw_p212 : lw_okq (⟨"LanternserverModel", "writtenAt", "(II)I"⟩, 96) := ⟨⟨by decide +kernel, by decide +kernel⟩, List.mem_of_getElem? (i := 2410) (by decide +kernel), List.mem_of_getElem? (i := 3963) (by decide +kernel), List.mem_of_getElem? (i := 3964) (by decide +kernel)⟩
theorem lw_p213 : lw_okq (⟨"LanternserverModel", "isReadAsAnswered", "(II)Z"⟩, 96) := ⟨⟨by decide +kernel, by decide +kernel⟩, List.mem_of_getElem? (i := 2410) (by decide +kernel), List.mem_of_getElem? (i := 3967) (by decide +kernel), List.mem_of_getElem? (i := 3968) (by decide +kernel)⟩
theorem lw_p214 : lw_okq (⟨"LanternserverModel", "readMany", "(I)I"⟩, 96) := ⟨⟨by decide +kernel, by decide +kernel⟩, List.mem_of_getElem? (i := 2410) (by decide +kernel), List.mem_of_getElem? (i := 3971) (by decide +kernel), List.mem_of_getElem? (i := 3972) (by decide +kernel)⟩
theorem lw_p215 : lw_okq (⟨"LanternserverModel", "readByte", "(II)I"⟩, 96) := ⟨⟨by decide +kernel, by decide +kernel⟩, List.mem_of_getElem? (i := 2410) (by decide +kernel), List.mem_of_getElem? (i := 3975) (by decide +kernel), List.mem_of_getElem? (i := 3976) (by decide +kernel)⟩
theorem lw_p216 : lw_okq (⟨"LanternserverModel", "hostOfLine", "(I)I"⟩, 96) := ⟨⟨by decide +kernel, by decide +kernel⟩, List.mem_of_getElem? (i := 2410) (by decide +kernel), List.mem_of_getElem? (i := 3979) (by decide +kernel), List.mem_of_getElem? (i := 3980) (by decide +kernel)⟩
theorem lw_p217 : lw_okq (⟨"LanternserverModel", "areFilesAlike", "()Z"⟩, 96) := ⟨⟨by decide +kernel, by decide +kernel⟩, List.mem_of_getElem? (i := 2410) (by decide +kernel), List.mem_of_getElem? (i := 3983) (by decide +kernel), List.mem_of_getElem? (i := 3984) (by decide +kernel)⟩
theorem lw_p218 : lw_okq (⟨"LanternserverModel", "fits", "([IZ)Z"⟩, 96) := ⟨⟨by decide +kernel, by decide +kernel⟩, List.mem_of_getElem? (i := 2410) (by decide +kernel), List.mem_of_getElem? (i := 3995) (by decide +kernel), List.mem_of_getElem? (i := 3996) (by decide +kernel)⟩
theorem lw_p219 : lw_okq (⟨"LanternserverModel", "lineErrors", "()I"⟩, 96) := ⟨⟨by decide +kernel, by decide +kernel⟩, List.mem_of_getElem? (i := 2410) (by decide +kernel), List.mem_of_getElem? (i := 3999) (by decide +kernel), List.mem_of_getElem? (i := 4000) (by decide +kernel)⟩
def lw_privs_14 : List (MethodName × Nat) := [(⟨"LanternserverModel", "servedWell", "()I"⟩, 96), (⟨"LanternserverModel", "isSameRequest", "(I)Z"⟩, 96), (⟨"LanternserverModel", "otherEnd", "(I)I"⟩, 96), (⟨"LanternserverModel", "writtenMany", "(I)I"⟩, 96), (⟨"LanternserverModel", "writtenAt", "(II)I"⟩, 96), (⟨"LanternserverModel", "isReadAsAnswered", "(II)Z"⟩, 96), (⟨"LanternserverModel", "readMany", "(I)I"⟩, 96), (⟨"LanternserverModel", "readByte", "(II)I"⟩, 96), (⟨"LanternserverModel", "hostOfLine", "(I)I"⟩, 96), (⟨"LanternserverModel", "areFilesAlike", "()Z"⟩, 96), (⟨"LanternserverModel", "fits", "([IZ)Z"⟩, 96), (⟨"LanternserverModel", "lineErrors", "()I"⟩, 96)]
theorem lw_r14 : ∀ q ∈ lw_privs_14, lw_okq q := List.forall_mem_cons.mpr ⟨lw_p208, List.forall_mem_cons.mpr ⟨lw_p209, List.forall_mem_cons.mpr ⟨lw_p210, List.forall_mem_cons.mpr ⟨lw_p211, List.forall_mem_cons.mpr ⟨lw_p212, List.forall_mem_cons.mpr ⟨lw_p213, List.forall_mem_cons.mpr ⟨lw_p214, List.forall_mem_cons.mpr ⟨lw_p215, List.forall_mem_cons.mpr ⟨lw_p216, List.forall_mem_cons.mpr ⟨lw_p217, List.forall_mem_cons.mpr ⟨lw_p218, List.forall_mem_cons.mpr ⟨lw_p219, fun _ h => absurd h List.not_mem_nil⟩⟩⟩⟩⟩⟩⟩⟩⟩⟩⟩⟩
def lw_privs : List (MethodName × Nat) := lw_privs_1 ++ (lw_privs_2 ++ (lw_privs_3 ++ (lw_privs_4 ++ (lw_privs_5 ++ (lw_privs_6 ++ (lw_privs_7 ++ (lw_privs_8 ++ (lw_privs_9 ++ (lw_privs_10 ++ (lw_privs_11 ++ (lw_privs_12 ++ (lw_privs_13 ++ (lw_privs_14)))))))))))))
def lw_tbl : List Cond := k2_sels lw_privs ++ tables_1
theorem lw_privs_ok : ∀ q ∈ lw_privs, lw_okq q := by
  show ∀ q ∈ lw_privs_1 ++ (lw_privs_2 ++ (lw_privs_3 ++ (lw_privs_4 ++ (lw_privs_5 ++ (lw_privs_6 ++ (lw_privs_7 ++ (lw_privs_8 ++ (lw_privs_9 ++ (lw_privs_10 ++ (lw_privs_11 ++ (lw_privs_12 ++ (lw_privs_13 ++ (lw_privs_14))))))))))))), lw_okq q
  exact List.forall_mem_append.mpr ⟨lw_r1, List.forall_mem_append.mpr ⟨lw_r2, List.forall_mem_append.mpr ⟨lw_r3, List.forall_mem_append.mpr ⟨lw_r4, List.forall_mem_append.mpr ⟨lw_r5, List.forall_mem_append.mpr ⟨lw_r6, List.forall_mem_append.mpr ⟨lw_r7, List.forall_mem_append.mpr ⟨lw_r8, List.forall_mem_append.mpr ⟨lw_r9, List.forall_mem_append.mpr ⟨lw_r10, List.forall_mem_append.mpr ⟨lw_r11, List.forall_mem_append.mpr ⟨lw_r12, List.forall_mem_append.mpr ⟨lw_r13, lw_r14⟩⟩⟩⟩⟩⟩⟩⟩⟩⟩⟩⟩⟩
/-- the streams that the claim lets the run draw from -/
abbrev lw_cs : List Choice := [Jvm.Choice.named "NaN.bits"]
theorem lw_bits : nanBits ∈ lw_cs := by first | decide | exact List.mem_cons_self | simp [lw_cs, nanBits]
-- ===== end of PART A; then your names; then what follows =====
-- names, fields and types of the classes; a code and a name for each method
def RX0 : String := "Lanternserver$Connection"
def TX0 : u_T := fun k => match k with
  | 0 => ("Lanternserver$Connection", "number", "I", true)
  | 1 => ("Lanternserver$Connection", "host", "I", true)
  | 2 => ("Lanternserver$Connection", "port", "I", true)
  | 3 => ("Lanternserver$Connection", "otherAddress", "I", true)
  | 4 => ("Lanternserver$Connection", "otherPort", "I", true)
  | 5 => ("Lanternserver$Connection", "wire", "LLanternserver$Wire;", true)
  | 6 => ("Lanternserver$Connection", "sender", "LLanternserver$Sender;", true)
  | 7 => ("Lanternserver$Connection", "receiver", "LLanternserver$Receiver;", true)
  | 8 => ("Lanternserver$Connection", "reader", "LLanternserver$Reader;", true)
  | 9 => ("Lanternserver$Connection", "ownMss", "I", true)
  | 10 => ("Lanternserver$Connection", "mss", "I", false)
  | 11 => ("Lanternserver$Connection", "state", "I", false)
  | 12 => ("Lanternserver$Connection", "ended", "I", false)
  | 13 => ("Lanternserver$Connection", "other", "I", false)
  | 14 => ("Lanternserver$Connection", "isClosed", "Z", false)
  | 15 => ("Lanternserver$Connection", "isLast", "Z", false)
  | 16 => ("Lanternserver$Connection", "requests", "I", false)
  | 17 => ("Lanternserver$Connection", "cameAt", "I", false)
  | _ => ("Lanternserver$Connection", "waitFrom", "I", false)
def tyX0 : Nat → FieldType := fun k => match k with
  | 0 => .int
  | 1 => .int
  | 2 => .int
  | 3 => .int
  | 4 => .int
  | 5 => .object "Lanternserver$Wire"
  | 6 => .object "Lanternserver$Sender"
  | 7 => .object "Lanternserver$Receiver"
  | 8 => .object "Lanternserver$Reader"
  | 9 => .int
  | 10 => .int
  | 11 => .int
  | 12 => .int
  | 13 => .int
  | 14 => .boolean
  | 15 => .boolean
  | 16 => .int
  | 17 => .int
  | _ => .int
theorem nmX0 : ∀ a, a < 19 → ∀ b, b < 19 → a ≠ b → (TX0 a).2.1 ≠ (TX0 b).2.1 := by decide +kernel
theorem tyX0_ok : ∀ k, k < 19 → parseFieldDescriptor (TX0 k).2.2.1 = some (tyX0 k) := by decide +kernel
abbrev cX0_init : ByteArray := prog_2_method_1_code
def yX0_init : MethodName := ⟨RX0, "<init>", "(ILLanternserver$Host;IILLanternserver$Wire;)V"⟩
abbrev cX0_isServers : ByteArray := prog_2_method_2_code
def yX0_isServers : MethodName := ⟨RX0, "isServers", "()Z"⟩
abbrev cX0_isToBeClosed : ByteArray := prog_2_method_3_code
def yX0_isToBeClosed : MethodName := ⟨RX0, "isToBeClosed", "()Z"⟩
abbrev cX0_isSending : ByteArray := prog_2_method_4_code
def yX0_isSending : MethodName := ⟨RX0, "isSending", "()Z"⟩
abbrev cX0_isTimed : ByteArray := prog_2_method_5_code
def yX0_isTimed : MethodName := ⟨RX0, "isTimed", "()Z"⟩
abbrev cX0_beginAsClient : ByteArray := prog_2_method_6_code
def yX0_beginAsClient : MethodName := ⟨RX0, "beginAsClient", "()V"⟩
abbrev cX0_beginAsServer : ByteArray := prog_2_method_7_code
def yX0_beginAsServer : MethodName := ⟨RX0, "beginAsServer", "(LLanternserver$Segment;)V"⟩
abbrev cX0_finish : ByteArray := prog_2_method_8_code
def yX0_finish : MethodName := ⟨RX0, "finish", "()V"⟩
abbrev cX0_giveUpAtOnce : ByteArray := prog_2_method_9_code
def yX0_giveUpAtOnce : MethodName := ⟨RX0, "giveUpAtOnce", "()V"⟩
abbrev cX0_end : ByteArray := prog_2_method_10_code
def yX0_end : MethodName := ⟨RX0, "end", "(I)V"⟩
abbrev cX0_emit : ByteArray := prog_2_method_11_code
def yX0_emit : MethodName := ⟨RX0, "emit", "(IIII)V"⟩
abbrev cX0_flagsOf : ByteArray := prog_2_method_12_code
def yX0_flagsOf : MethodName := ⟨RX0, "flagsOf", "(I)I"⟩
abbrev cX0_sendNew : ByteArray := prog_2_method_13_code
def yX0_sendNew : MethodName := ⟨RX0, "sendNew", "(II)V"⟩
abbrev cX0_transmit : ByteArray := prog_2_method_14_code
def yX0_transmit : MethodName := ⟨RX0, "transmit", "()V"⟩
abbrev cX0_noteProbing : ByteArray := prog_2_method_15_code
def yX0_noteProbing : MethodName := ⟨RX0, "noteProbing", "()V"⟩
abbrev cX0_sendAgain : ByteArray := prog_2_method_16_code
def yX0_sendAgain : MethodName := ⟨RX0, "sendAgain", "()V"⟩
abbrev cX0_age : ByteArray := prog_2_method_17_code
def yX0_age : MethodName := ⟨RX0, "age", "()V"⟩
abbrev cX0_runOut : ByteArray := prog_2_method_18_code
def yX0_runOut : MethodName := ⟨RX0, "runOut", "()V"⟩
abbrev cX0_arrive : ByteArray := prog_2_method_19_code
def yX0_arrive : MethodName := ⟨RX0, "arrive", "(LLanternserver$Segment;)Z"⟩
abbrev cX0_arriveAsked : ByteArray := prog_2_method_20_code
def yX0_arriveAsked : MethodName := ⟨RX0, "arriveAsked", "(LLanternserver$Segment;)Z"⟩
abbrev cX0_establish : ByteArray := prog_2_method_21_code
def yX0_establish : MethodName := ⟨RX0, "establish", "(LLanternserver$Segment;)V"⟩
abbrev cX0_isThirdDouble : ByteArray := prog_2_method_22_code
def yX0_isThirdDouble : MethodName := ⟨RX0, "isThirdDouble", "(LLanternserver$Segment;)Z"⟩
abbrev cX0_isEndedByAcknowledgement : ByteArray := prog_2_method_23_code
def yX0_isEndedByAcknowledgement : MethodName := ⟨RX0, "isEndedByAcknowledgement", "()Z"⟩
abbrev cX0_waitOut : ByteArray := prog_2_method_24_code
def yX0_waitOut : MethodName := ⟨RX0, "waitOut", "()V"⟩
abbrev cX0_takeIn : ByteArray := prog_2_method_25_code
def yX0_takeIn : MethodName := ⟨RX0, "takeIn", "(LLanternserver$Segment;)V"⟩
abbrev cX0_takeWritten : ByteArray := prog_2_method_26_code
def yX0_takeWritten : MethodName := ⟨RX0, "takeWritten", "(LLanternserver$Row;)I"⟩
abbrev cX0_hasRest : ByteArray := prog_2_method_27_code
def yX0_hasRest : MethodName := ⟨RX0, "hasRest", "()Z"⟩
abbrev cX0_writeRest : ByteArray := prog_2_method_28_code
def yX0_writeRest : MethodName := ⟨RX0, "writeRest", "()V"⟩
abbrev cX0_takeUnread : ByteArray := prog_2_method_29_code
def yX0_takeUnread : MethodName := ⟨RX0, "takeUnread", "(I)I"⟩
abbrev cX0_isEndTold : ByteArray := prog_2_method_30_code
def yX0_isEndTold : MethodName := ⟨RX0, "isEndTold", "()Z"⟩
abbrev cX0_tell : ByteArray := prog_2_method_31_code
def yX0_tell : MethodName := ⟨RX0, "tell", "(I)I"⟩
def RX1 : String := "Lanternserver$Datagram"
def TX1 : u_T := fun k => match k with
  | 0 => ("Lanternserver$Datagram", "from", "I", false)
  | 1 => ("Lanternserver$Datagram", "sender", "I", false)
  | 2 => ("Lanternserver$Datagram", "receiver", "I", false)
  | 3 => ("Lanternserver$Datagram", "protocol", "I", false)
  | 4 => ("Lanternserver$Datagram", "identification", "I", false)
  | 5 => ("Lanternserver$Datagram", "mtu", "I", false)
  | 6 => ("Lanternserver$Datagram", "time", "I", false)
  | 7 => ("Lanternserver$Datagram", "end", "I", false)
  | 8 => ("Lanternserver$Datagram", "isSpoilt", "Z", false)
  | 9 => ("Lanternserver$Datagram", "bytes", "LLanternserver$Row;", true)
  | _ => ("Lanternserver$Datagram", "present", "LLanternserver$Row;", true)
def tyX1 : Nat → FieldType := fun k => match k with
  | 0 => .int
  | 1 => .int
  | 2 => .int
  | 3 => .int
  | 4 => .int
  | 5 => .int
  | 6 => .int
  | 7 => .int
  | 8 => .boolean
  | 9 => .object "Lanternserver$Row"
  | _ => .object "Lanternserver$Row"
theorem nmX1 : ∀ a, a < 11 → ∀ b, b < 11 → a ≠ b → (TX1 a).2.1 ≠ (TX1 b).2.1 := by decide +kernel
theorem tyX1_ok : ∀ k, k < 11 → parseFieldDescriptor (TX1 k).2.2.1 = some (tyX1 k) := by decide +kernel
abbrev cX1_init : ByteArray := prog_3_method_1_code
def yX1_init : MethodName := ⟨RX1, "<init>", "()V"⟩
abbrev cX1_begin : ByteArray := prog_3_method_2_code
def yX1_begin : MethodName := ⟨RX1, "begin", "(III)V"⟩
abbrev cX1_copyOf : ByteArray := prog_3_method_3_code
def yX1_copyOf : MethodName := ⟨RX1, "copyOf", "(LLanternserver$Datagram;)V"⟩
abbrev cX1_headSum : ByteArray := prog_3_method_4_code
def yX1_headSum : MethodName := ⟨RX1, "headSum", "()I"⟩
abbrev cX1_closeNames : ByteArray := prog_3_method_5_code
def yX1_closeNames : MethodName := ⟨RX1, "closeNames", "()V"⟩
abbrev cX1_closeSegment : ByteArray := prog_3_method_6_code
def yX1_closeSegment : MethodName := ⟨RX1, "closeSegment", "()V"⟩
abbrev cX1_putPiece : ByteArray := prog_3_method_7_code
def yX1_putPiece : MethodName := ⟨RX1, "putPiece", "(LLanternserver$Row;III)V"⟩
abbrev cX1_isWhole : ByteArray := prog_3_method_8_code
def yX1_isWhole : MethodName := ⟨RX1, "isWhole", "()Z"⟩
def RX2 : String := "Lanternserver$Frame"
def TX2 : u_T := fun k => match k with
  | 0 => ("Lanternserver$Frame", "bytes", "LLanternserver$Row;", true)
  | 1 => ("Lanternserver$Frame", "sender", "I", false)
  | 2 => ("Lanternserver$Frame", "isSpoilt", "Z", false)
  | 3 => ("Lanternserver$Frame", "isPiece", "Z", false)
  | _ => ("Lanternserver$Frame", "spoiltAt", "I", false)
def tyX2 : Nat → FieldType := fun k => match k with
  | 0 => .object "Lanternserver$Row"
  | 1 => .int
  | 2 => .boolean
  | 3 => .boolean
  | _ => .int
theorem nmX2 : ∀ a, a < 5 → ∀ b, b < 5 → a ≠ b → (TX2 a).2.1 ≠ (TX2 b).2.1 := by decide +kernel
theorem tyX2_ok : ∀ k, k < 5 → parseFieldDescriptor (TX2 k).2.2.1 = some (tyX2 k) := by decide +kernel
abbrev cX2_init : ByteArray := prog_4_method_1_code
def yX2_init : MethodName := ⟨RX2, "<init>", "()V"⟩
def RX3 : String := "Lanternserver$Host"
def TX3 : u_T := fun k => match k with
  | 0 => ("Lanternserver$Host", "number", "I", true)
  | 1 => ("Lanternserver$Host", "mtu", "I", false)
  | 2 => ("Lanternserver$Host", "mss", "I", true)
  | 3 => ("Lanternserver$Host", "ownName", "LLanternserver$Row;", true)
  | 4 => ("Lanternserver$Host", "addresses", "[I", false)
  | 5 => ("Lanternserver$Host", "hardwares", "[J", false)
  | 6 => ("Lanternserver$Host", "learnedAt", "[I", false)
  | 7 => ("Lanternserver$Host", "known", "I", false)
  | 8 => ("Lanternserver$Host", "askedAt", "[I", true)
  | 9 => ("Lanternserver$Host", "waiting", "[LLanternserver$Datagram;", true)
  | 10 => ("Lanternserver$Host", "waitingMany", "I", false)
  | 11 => ("Lanternserver$Host", "kept", "[LLanternserver$Datagram;", true)
  | 12 => ("Lanternserver$Host", "keptMany", "I", false)
  | 13 => ("Lanternserver$Host", "counted", "I", false)
  | 14 => ("Lanternserver$Host", "taken", "I", false)
  | _ => ("Lanternserver$Host", "refused", "I", false)
def tyX3 : Nat → FieldType := fun k => match k with
  | 0 => .int
  | 1 => .int
  | 2 => .int
  | 3 => .object "Lanternserver$Row"
  | 4 => .array .int
  | 5 => .array .long
  | 6 => .array .int
  | 7 => .int
  | 8 => .array .int
  | 9 => .array (.object "Lanternserver$Datagram")
  | 10 => .int
  | 11 => .array (.object "Lanternserver$Datagram")
  | 12 => .int
  | 13 => .int
  | 14 => .int
  | _ => .int
theorem nmX3 : ∀ a, a < 16 → ∀ b, b < 16 → a ≠ b → (TX3 a).2.1 ≠ (TX3 b).2.1 := by decide +kernel
theorem tyX3_ok : ∀ k, k < 16 → parseFieldDescriptor (TX3 k).2.2.1 = some (tyX3 k) := by decide +kernel
abbrev cX3_init : ByteArray := prog_5_method_1_code
def yX3_init : MethodName := ⟨RX3, "<init>", "(III)V"⟩
abbrev cX3_placeOf : ByteArray := prog_5_method_2_code
def yX3_placeOf : MethodName := ⟨RX3, "placeOf", "(I)I"⟩
abbrev cX3_hardwareAt : ByteArray := prog_5_method_3_code
def yX3_hardwareAt : MethodName := ⟨RX3, "hardwareAt", "(I)J"⟩
abbrev cX3_learn : ByteArray := prog_5_method_4_code
def yX3_learn : MethodName := ⟨RX3, "learn", "(IIJI)V"⟩
abbrev cX3_dropOld : ByteArray := prog_5_method_5_code
def yX3_dropOld : MethodName := ⟨RX3, "dropOld", "(I)V"⟩
abbrev cX3_post : ByteArray := prog_5_method_6_code
def yX3_post : MethodName := ⟨RX3, "post", "(LLanternserver$Datagram;LLanternserver$Wire;)V"⟩
abbrev cX3_ask : ByteArray := prog_5_method_7_code
def yX3_ask : MethodName := ⟨RX3, "ask", "(ILLanternserver$Wire;)V"⟩
abbrev cX3_sendMessage : ByteArray := prog_5_method_8_code
def yX3_sendMessage : MethodName := ⟨RX3, "sendMessage", "(LLanternserver$Wire;IJJI)V"⟩
abbrev cX3_sendPieces : ByteArray := prog_5_method_9_code
def yX3_sendPieces : MethodName := ⟨RX3, "sendPieces", "(LLanternserver$Datagram;JLLanternserver$Wire;)V"⟩
abbrev cX3_sendPart : ByteArray := prog_5_method_10_code
def yX3_sendPart : MethodName := ⟨RX3, "sendPart", "(LLanternserver$Wire;LLanternserver$Datagram;JII)V"⟩
abbrev cX3_dropWaiting : ByteArray := prog_5_method_11_code
def yX3_dropWaiting : MethodName := ⟨RX3, "dropWaiting", "(I)V"⟩
abbrev cX3_sendLearned : ByteArray := prog_5_method_12_code
def yX3_sendLearned : MethodName := ⟨RX3, "sendLearned", "(LLanternserver$Frame;LLanternserver$Wire;)V"⟩
abbrev cX3_takeFrame : ByteArray := prog_5_method_13_code
def yX3_takeFrame : MethodName := ⟨RX3, "takeFrame", "(LLanternserver$Frame;ILLanternserver$Datagram;)I"⟩
abbrev cX3_isMessage : ByteArray := prog_5_method_14_code
def yX3_isMessage : MethodName := ⟨RX3, "isMessage", "(LLanternserver$Row;)Z"⟩
abbrev cX3_takeMessage : ByteArray := prog_5_method_15_code
def yX3_takeMessage : MethodName := ⟨RX3, "takeMessage", "(LLanternserver$Row;I)V"⟩
abbrev cX3_isDatagram : ByteArray := prog_5_method_16_code
def yX3_isDatagram : MethodName := ⟨RX3, "isDatagram", "(LLanternserver$Row;)Z"⟩
abbrev cX3_takeDatagram : ByteArray := prog_5_method_17_code
def yX3_takeDatagram : MethodName := ⟨RX3, "takeDatagram", "(LLanternserver$Row;ILLanternserver$Datagram;)Z"⟩
abbrev cX3_keptPlace : ByteArray := prog_5_method_18_code
def yX3_keptPlace : MethodName := ⟨RX3, "keptPlace", "(LLanternserver$Datagram;)I"⟩
abbrev cX3_dropKept : ByteArray := prog_5_method_19_code
def yX3_dropKept : MethodName := ⟨RX3, "dropKept", "(I)V"⟩
def RX4 : String := "Lanternserver$House"
def TX4 : u_T := fun k => match k with
  | 0 => ("Lanternserver$House", "names", "[LLanternserver$Row;", true)
  | 1 => ("Lanternserver$House", "contents", "[LLanternserver$Row;", true)
  | 2 => ("Lanternserver$House", "versions", "[I", true)
  | 3 => ("Lanternserver$House", "many", "I", false)
  | 4 => ("Lanternserver$House", "latest", "I", false)
  | 5 => ("Lanternserver$House", "list", "LLanternserver$Row;", true)
  | 6 => ("Lanternserver$House", "tagText", "LLanternserver$Row;", true)
  | 7 => ("Lanternserver$House", "tag", "I", false)
  | 8 => ("Lanternserver$House", "source", "LLanternserver$Row;", false)
  | 9 => ("Lanternserver$House", "from", "I", false)
  | _ => ("Lanternserver$House", "behind", "I", false)
def tyX4 : Nat → FieldType := fun k => match k with
  | 0 => .array (.object "Lanternserver$Row")
  | 1 => .array (.object "Lanternserver$Row")
  | 2 => .array .int
  | 3 => .int
  | 4 => .int
  | 5 => .object "Lanternserver$Row"
  | 6 => .object "Lanternserver$Row"
  | 7 => .int
  | 8 => .object "Lanternserver$Row"
  | 9 => .int
  | _ => .int
theorem nmX4 : ∀ a, a < 11 → ∀ b, b < 11 → a ≠ b → (TX4 a).2.1 ≠ (TX4 b).2.1 := by decide +kernel
theorem tyX4_ok : ∀ k, k < 11 → parseFieldDescriptor (TX4 k).2.2.1 = some (tyX4 k) := by decide +kernel
abbrev cX4_init : ByteArray := prog_6_method_1_code
def yX4_init : MethodName := ⟨RX4, "<init>", "()V"⟩
abbrev cX4_forget : ByteArray := prog_6_method_2_code
def yX4_forget : MethodName := ⟨RX4, "forget", "()V"⟩
abbrev cX4_isLike : ByteArray := prog_6_method_3_code
def yX4_isLike : MethodName := ⟨RX4, "isLike", "(LLanternserver$House;)Z"⟩
abbrev cX4_perform : ByteArray := prog_6_method_4_code
def yX4_perform : MethodName := ⟨RX4, "perform", "(LLanternserver$Reader;I)I"⟩
abbrev cX4_isFileName : ByteArray := prog_6_method_5_code
def yX4_isFileName : MethodName := ⟨RX4, "isFileName", "(LLanternserver$Row;)Z"⟩
abbrev cX4_placeOf : ByteArray := prog_6_method_6_code
def yX4_placeOf : MethodName := ⟨RX4, "placeOf", "(LLanternserver$Row;)I"⟩
abbrev cX4_isMatched : ByteArray := prog_6_method_7_code
def yX4_isMatched : MethodName := ⟨RX4, "isMatched", "(LLanternserver$Row;IZ)Z"⟩
abbrev cX4_showList : ByteArray := prog_6_method_8_code
def yX4_showList : MethodName := ⟨RX4, "showList", "()I"⟩
abbrev cX4_show : ByteArray := prog_6_method_9_code
def yX4_show : MethodName := ⟨RX4, "show", "(LLanternserver$Reader;I)I"⟩
abbrev cX4_cutRange : ByteArray := prog_6_method_10_code
def yX4_cutRange : MethodName := ⟨RX4, "cutRange", "(LLanternserver$Row;)I"⟩
abbrev cX4_replace : ByteArray := prog_6_method_11_code
def yX4_replace : MethodName := ⟨RX4, "replace", "(LLanternserver$Reader;I)I"⟩
abbrev cX4_append : ByteArray := prog_6_method_12_code
def yX4_append : MethodName := ⟨RX4, "append", "(LLanternserver$Reader;I)I"⟩
abbrev cX4_change : ByteArray := prog_6_method_13_code
def yX4_change : MethodName := ⟨RX4, "change", "(I)V"⟩
abbrev cX4_insert : ByteArray := prog_6_method_14_code
def yX4_insert : MethodName := ⟨RX4, "insert", "(LLanternserver$Row;)I"⟩
abbrev cX4_remove : ByteArray := prog_6_method_15_code
def yX4_remove : MethodName := ⟨RX4, "remove", "(I)V"⟩
abbrev cX4_writeAnswer : ByteArray := prog_6_method_16_code
def yX4_writeAnswer : MethodName := ⟨RX4, "writeAnswer", "(LLanternserver$Reader;IZLLanternserver$Row;)V"⟩
abbrev cX4_writeRange : ByteArray := prog_6_method_17_code
def yX4_writeRange : MethodName := ⟨RX4, "writeRange", "(ILLanternserver$Row;)V"⟩
abbrev cX4_wordOf : ByteArray := prog_6_method_18_code
def yX4_wordOf : MethodName := ⟨RX4, "wordOf", "(I)Ljava/lang/String;"⟩
def RX5 : String := "Lanternserver$Reader"
def TX5 : u_T := fun k => match k with
  | 0 => ("Lanternserver$Reader", "step", "I", false)
  | 1 => ("Lanternserver$Reader", "bytes", "I", false)
  | 2 => ("Lanternserver$Reader", "line", "LLanternserver$Row;", true)
  | 3 => ("Lanternserver$Reader", "lines", "I", false)
  | 4 => ("Lanternserver$Reader", "mark", "I", false)
  | 5 => ("Lanternserver$Reader", "method", "I", false)
  | 6 => ("Lanternserver$Reader", "target", "LLanternserver$Row;", true)
  | 7 => ("Lanternserver$Reader", "version", "I", false)
  | 8 => ("Lanternserver$Reader", "hostLines", "I", false)
  | 9 => ("Lanternserver$Reader", "length", "I", false)
  | 10 => ("Lanternserver$Reader", "isLengthWrong", "Z", false)
  | 11 => ("Lanternserver$Reader", "coding", "I", false)
  | 12 => ("Lanternserver$Reader", "staying", "I", false)
  | 13 => ("Lanternserver$Reader", "match", "LLanternserver$Row;", true)
  | 14 => ("Lanternserver$Reader", "noneMatch", "LLanternserver$Row;", true)
  | 15 => ("Lanternserver$Reader", "range", "LLanternserver$Row;", true)
  | 16 => ("Lanternserver$Reader", "body", "LLanternserver$Row;", true)
  | 17 => ("Lanternserver$Reader", "need", "I", false)
  | _ => ("Lanternserver$Reader", "digits", "I", false)
def tyX5 : Nat → FieldType := fun k => match k with
  | 0 => .int
  | 1 => .int
  | 2 => .object "Lanternserver$Row"
  | 3 => .int
  | 4 => .int
  | 5 => .int
  | 6 => .object "Lanternserver$Row"
  | 7 => .int
  | 8 => .int
  | 9 => .int
  | 10 => .boolean
  | 11 => .int
  | 12 => .int
  | 13 => .object "Lanternserver$Row"
  | 14 => .object "Lanternserver$Row"
  | 15 => .object "Lanternserver$Row"
  | 16 => .object "Lanternserver$Row"
  | 17 => .int
  | _ => .int
theorem nmX5 : ∀ a, a < 19 → ∀ b, b < 19 → a ≠ b → (TX5 a).2.1 ≠ (TX5 b).2.1 := by decide +kernel
theorem tyX5_ok : ∀ k, k < 19 → parseFieldDescriptor (TX5 k).2.2.1 = some (tyX5 k) := by decide +kernel
abbrev cX5_init : ByteArray := prog_7_method_1_code
def yX5_init : MethodName := ⟨RX5, "<init>", "()V"⟩
abbrev cX5_begin : ByteArray := prog_7_method_2_code
def yX5_begin : MethodName := ⟨RX5, "begin", "()V"⟩
abbrev cX5_isLast : ByteArray := prog_7_method_3_code
def yX5_isLast : MethodName := ⟨RX5, "isLast", "()Z"⟩
abbrev cX5_feed : ByteArray := prog_7_method_4_code
def yX5_feed : MethodName := ⟨RX5, "feed", "(I)I"⟩
abbrev cX5_wrongInHead : ByteArray := prog_7_method_5_code
def yX5_wrongInHead : MethodName := ⟨RX5, "wrongInHead", "(I)I"⟩
abbrev cX5_canStand : ByteArray := prog_7_method_6_code
def yX5_canStand : MethodName := ⟨RX5, "canStand", "(I)Z"⟩
abbrev cX5_stepOn : ByteArray := prog_7_method_7_code
def yX5_stepOn : MethodName := ⟨RX5, "stepOn", "(I)V"⟩
abbrev cX5_methodIn : ByteArray := prog_7_method_8_code
def yX5_methodIn : MethodName := ⟨RX5, "methodIn", "()I"⟩
abbrev cX5_noteVersion : ByteArray := prog_7_method_9_code
def yX5_noteVersion : MethodName := ⟨RX5, "noteVersion", "()V"⟩
abbrev cX5_noteField : ByteArray := prog_7_method_10_code
def yX5_noteField : MethodName := ⟨RX5, "noteField", "()V"⟩
abbrev cX5_noteLength : ByteArray := prog_7_method_11_code
def yX5_noteLength : MethodName := ⟨RX5, "noteLength", "(I)V"⟩
abbrev cX5_noteValue : ByteArray := prog_7_method_12_code
def yX5_noteValue : MethodName := ⟨RX5, "noteValue", "(LLanternserver$Row;II)V"⟩
abbrev cX5_judge : ByteArray := prog_7_method_13_code
def yX5_judge : MethodName := ⟨RX5, "judge", "()I"⟩
abbrev cX5_feedBody : ByteArray := prog_7_method_14_code
def yX5_feedBody : MethodName := ⟨RX5, "feedBody", "(I)I"⟩
abbrev cX5_expect : ByteArray := prog_7_method_15_code
def yX5_expect : MethodName := ⟨RX5, "expect", "(III)I"⟩
abbrev cX5_feedSize : ByteArray := prog_7_method_16_code
def yX5_feedSize : MethodName := ⟨RX5, "feedSize", "(I)I"⟩
def RX6 : String := "Lanternserver$Receiver"
def TX6 : u_T := fun k => match k with
  | 0 => ("Lanternserver$Receiver", "irs", "I", false)
  | 1 => ("Lanternserver$Receiver", "rcv", "I", false)
  | 2 => ("Lanternserver$Receiver", "in", "LLanternserver$Row;", true)
  | 3 => ("Lanternserver$Receiver", "taken", "I", false)
  | 4 => ("Lanternserver$Receiver", "hasFin", "Z", false)
  | 5 => ("Lanternserver$Receiver", "pieces", "[LLanternserver$Row;", true)
  | 6 => ("Lanternserver$Receiver", "begins", "[I", true)
  | _ => ("Lanternserver$Receiver", "many", "I", false)
def tyX6 : Nat → FieldType := fun k => match k with
  | 0 => .int
  | 1 => .int
  | 2 => .object "Lanternserver$Row"
  | 3 => .int
  | 4 => .boolean
  | 5 => .array (.object "Lanternserver$Row")
  | 6 => .array .int
  | _ => .int
theorem nmX6 : ∀ a, a < 8 → ∀ b, b < 8 → a ≠ b → (TX6 a).2.1 ≠ (TX6 b).2.1 := by decide +kernel
theorem tyX6_ok : ∀ k, k < 8 → parseFieldDescriptor (TX6 k).2.2.1 = some (tyX6 k) := by decide +kernel
abbrev cX6_init : ByteArray := prog_8_method_1_code
def yX6_init : MethodName := ⟨RX6, "<init>", "()V"⟩
abbrev cX6_begin : ByteArray := prog_8_method_2_code
def yX6_begin : MethodName := ⟨RX6, "begin", "(I)V"⟩
abbrev cX6_unread : ByteArray := prog_8_method_3_code
def yX6_unread : MethodName := ⟨RX6, "unread", "()I"⟩
abbrev cX6_window : ByteArray := prog_8_method_4_code
def yX6_window : MethodName := ⟨RX6, "window", "()I"⟩
abbrev cX6_takeBytes : ByteArray := prog_8_method_5_code
def yX6_takeBytes : MethodName := ⟨RX6, "takeBytes", "(LLanternserver$Segment;)V"⟩
abbrev cX6_joinPieces : ByteArray := prog_8_method_6_code
def yX6_joinPieces : MethodName := ⟨RX6, "joinPieces", "()V"⟩
abbrev cX6_firstPiece : ByteArray := prog_8_method_7_code
def yX6_firstPiece : MethodName := ⟨RX6, "firstPiece", "()I"⟩
def RX7 : String := "Lanternserver$Row"
def TX7 : u_T := fun k => match k with
  | 0 => ("Lanternserver$Row", "cells", "[I", false)
  | _ => ("Lanternserver$Row", "length", "I", false)
def tyX7 : Nat → FieldType := fun k => match k with
  | 0 => .array .int
  | _ => .int
theorem nmX7 : ∀ a, a < 2 → ∀ b, b < 2 → a ≠ b → (TX7 a).2.1 ≠ (TX7 b).2.1 := by decide +kernel
theorem tyX7_ok : ∀ k, k < 2 → parseFieldDescriptor (TX7 k).2.2.1 = some (tyX7 k) := by decide +kernel
abbrev cX7_init : ByteArray := prog_9_method_1_code
def yX7_init : MethodName := ⟨RX7, "<init>", "(I)V"⟩
abbrev cX7_length : ByteArray := prog_9_method_2_code
def yX7_length : MethodName := ⟨RX7, "length", "()I"⟩
abbrev cX7_at : ByteArray := prog_9_method_3_code
def yX7_at : MethodName := ⟨RX7, "at", "(I)I"⟩
abbrev cX7_twoAt : ByteArray := prog_9_method_4_code
def yX7_twoAt : MethodName := ⟨RX7, "twoAt", "(I)I"⟩
abbrev cX7_fourAt : ByteArray := prog_9_method_5_code
def yX7_fourAt : MethodName := ⟨RX7, "fourAt", "(I)I"⟩
abbrev cX7_hardwareAt : ByteArray := prog_9_method_6_code
def yX7_hardwareAt : MethodName := ⟨RX7, "hardwareAt", "(I)J"⟩
abbrev cX7_empty : ByteArray := prog_9_method_7_code
def yX7_empty : MethodName := ⟨RX7, "empty", "()V"⟩
abbrev cX7_setAt : ByteArray := prog_9_method_8_code
def yX7_setAt : MethodName := ⟨RX7, "setAt", "(II)V"⟩
abbrev cX7_setTwo : ByteArray := prog_9_method_9_code
def yX7_setTwo : MethodName := ⟨RX7, "setTwo", "(II)V"⟩
abbrev cX7_add : ByteArray := prog_9_method_10_code
def yX7_add : MethodName := ⟨RX7, "add", "(I)V"⟩
abbrev cX7_addTwo : ByteArray := prog_9_method_11_code
def yX7_addTwo : MethodName := ⟨RX7, "addTwo", "(I)V"⟩
abbrev cX7_addFour : ByteArray := prog_9_method_12_code
def yX7_addFour : MethodName := ⟨RX7, "addFour", "(I)V"⟩
abbrev cX7_addHardware : ByteArray := prog_9_method_13_code
def yX7_addHardware : MethodName := ⟨RX7, "addHardware", "(J)V"⟩
abbrev cX7_addRow : ByteArray := prog_9_method_14_code
def yX7_addRow : MethodName := ⟨RX7, "addRow", "(LLanternserver$Row;II)V"⟩
abbrev cX7_addZeros : ByteArray := prog_9_method_15_code
def yX7_addZeros : MethodName := ⟨RX7, "addZeros", "(I)V"⟩
abbrev cX7_addText : ByteArray := prog_9_method_16_code
def yX7_addText : MethodName := ⟨RX7, "addText", "(Ljava/lang/String;)V"⟩
abbrev cX7_addNumber : ByteArray := prog_9_method_17_code
def yX7_addNumber : MethodName := ⟨RX7, "addNumber", "(I)V"⟩
abbrev cX7_removeFirst : ByteArray := prog_9_method_18_code
def yX7_removeFirst : MethodName := ⟨RX7, "removeFirst", "(I)V"⟩
abbrev cX7_isSame : ByteArray := prog_9_method_19_code
def yX7_isSame : MethodName := ⟨RX7, "isSame", "(ILLanternserver$Row;II)Z"⟩
abbrev cX7_compare : ByteArray := prog_9_method_20_code
def yX7_compare : MethodName := ⟨RX7, "compare", "(LLanternserver$Row;)I"⟩
abbrev cX7_hasText : ByteArray := prog_9_method_21_code
def yX7_hasText : MethodName := ⟨RX7, "hasText", "(ILjava/lang/String;)Z"⟩
abbrev cX7_isWord : ByteArray := prog_9_method_22_code
def yX7_isWord : MethodName := ⟨RX7, "isWord", "(IILjava/lang/String;)Z"⟩
abbrev cX7_numberAt : ByteArray := prog_9_method_23_code
def yX7_numberAt : MethodName := ⟨RX7, "numberAt", "(II)I"⟩
abbrev cX7_behindName : ByteArray := prog_9_method_24_code
def yX7_behindName : MethodName := ⟨RX7, "behindName", "(I)I"⟩
abbrev cX7_sumOver : ByteArray := prog_9_method_25_code
def yX7_sumOver : MethodName := ⟨RX7, "sumOver", "(III)I"⟩
def RX8 : String := "Lanternserver$Segment"
def TX8 : u_T := fun k => match k with
  | 0 => ("Lanternserver$Segment", "sender", "I", false)
  | 1 => ("Lanternserver$Segment", "receiver", "I", false)
  | 2 => ("Lanternserver$Segment", "port", "I", false)
  | 3 => ("Lanternserver$Segment", "toPort", "I", false)
  | 4 => ("Lanternserver$Segment", "sequence", "I", false)
  | 5 => ("Lanternserver$Segment", "acknowledgement", "I", false)
  | 6 => ("Lanternserver$Segment", "flags", "I", false)
  | 7 => ("Lanternserver$Segment", "window", "I", false)
  | 8 => ("Lanternserver$Segment", "mss", "I", false)
  | 9 => ("Lanternserver$Segment", "bytes", "LLanternserver$Row;", false)
  | 10 => ("Lanternserver$Segment", "from", "I", false)
  | _ => ("Lanternserver$Segment", "many", "I", false)
def tyX8 : Nat → FieldType := fun k => match k with
  | 0 => .int
  | 1 => .int
  | 2 => .int
  | 3 => .int
  | 4 => .int
  | 5 => .int
  | 6 => .int
  | 7 => .int
  | 8 => .int
  | 9 => .object "Lanternserver$Row"
  | 10 => .int
  | _ => .int
theorem nmX8 : ∀ a, a < 12 → ∀ b, b < 12 → a ≠ b → (TX8 a).2.1 ≠ (TX8 b).2.1 := by decide +kernel
theorem tyX8_ok : ∀ k, k < 12 → parseFieldDescriptor (TX8 k).2.2.1 = some (tyX8 k) := by decide +kernel
abbrev cX8_init : ByteArray := prog_10_method_1_code
def yX8_init : MethodName := ⟨RX8, "<init>", "()V"⟩
abbrev cX8_has : ByteArray := prog_10_method_2_code
def yX8_has : MethodName := ⟨RX8, "has", "(I)Z"⟩
abbrev cX8_isRightIn : ByteArray := prog_10_method_3_code
def yX8_isRightIn : MethodName := ⟨RX8, "isRightIn", "(LLanternserver$Datagram;)Z"⟩
abbrev cX8_optionIn : ByteArray := prog_10_method_4_code
def yX8_optionIn : MethodName := ⟨RX8, "optionIn", "(LLanternserver$Row;I)I"⟩
def RX9 : String := "Lanternserver$Sender"
def TX9 : u_T := fun k => match k with
  | 0 => ("Lanternserver$Sender", "iss", "I", true)
  | 1 => ("Lanternserver$Sender", "una", "I", false)
  | 2 => ("Lanternserver$Sender", "nxt", "I", false)
  | 3 => ("Lanternserver$Sender", "out", "LLanternserver$Row;", true)
  | 4 => ("Lanternserver$Sender", "wrote", "I", false)
  | 5 => ("Lanternserver$Sender", "window", "I", false)
  | 6 => ("Lanternserver$Sender", "windowSequence", "I", false)
  | 7 => ("Lanternserver$Sender", "windowAcknowledgement", "I", false)
  | 8 => ("Lanternserver$Sender", "cwnd", "I", false)
  | 9 => ("Lanternserver$Sender", "threshold", "I", false)
  | 10 => ("Lanternserver$Sender", "rto", "I", false)
  | 11 => ("Lanternserver$Sender", "since", "I", false)
  | 12 => ("Lanternserver$Sender", "times", "I", false)
  | 13 => ("Lanternserver$Sender", "doubles", "I", false)
  | 14 => ("Lanternserver$Sender", "isFinSent", "Z", false)
  | 15 => ("Lanternserver$Sender", "isProbing", "Z", false)
  | 16 => ("Lanternserver$Sender", "measuredAt", "I", false)
  | 17 => ("Lanternserver$Sender", "measuredEnd", "I", false)
  | 18 => ("Lanternserver$Sender", "smooth", "I", false)
  | _ => ("Lanternserver$Sender", "spread", "I", false)
def tyX9 : Nat → FieldType := fun k => match k with
  | 0 => .int
  | 1 => .int
  | 2 => .int
  | 3 => .object "Lanternserver$Row"
  | 4 => .int
  | 5 => .int
  | 6 => .int
  | 7 => .int
  | 8 => .int
  | 9 => .int
  | 10 => .int
  | 11 => .int
  | 12 => .int
  | 13 => .int
  | 14 => .boolean
  | 15 => .boolean
  | 16 => .int
  | 17 => .int
  | 18 => .int
  | _ => .int
theorem nmX9 : ∀ a, a < 20 → ∀ b, b < 20 → a ≠ b → (TX9 a).2.1 ≠ (TX9 b).2.1 := by decide +kernel
theorem tyX9_ok : ∀ k, k < 20 → parseFieldDescriptor (TX9 k).2.2.1 = some (tyX9 k) := by decide +kernel
abbrev cX9_init : ByteArray := prog_11_method_1_code
def yX9_init : MethodName := ⟨RX9, "<init>", "(I)V"⟩
abbrev cX9_underWay : ByteArray := prog_11_method_2_code
def yX9_underWay : MethodName := ⟨RX9, "underWay", "()I"⟩
abbrev cX9_sentBytes : ByteArray := prog_11_method_3_code
def yX9_sentBytes : MethodName := ⟨RX9, "sentBytes", "()I"⟩
abbrev cX9_acknowledgedBytes : ByteArray := prog_11_method_4_code
def yX9_acknowledgedBytes : MethodName := ⟨RX9, "acknowledgedBytes", "()I"⟩
abbrev cX9_unsent : ByteArray := prog_11_method_5_code
def yX9_unsent : MethodName := ⟨RX9, "unsent", "()I"⟩
abbrev cX9_room : ByteArray := prog_11_method_6_code
def yX9_room : MethodName := ⟨RX9, "room", "()I"⟩
abbrev cX9_noteSent : ByteArray := prog_11_method_7_code
def yX9_noteSent : MethodName := ⟨RX9, "noteSent", "(II)V"⟩
abbrev cX9_noteAcknowledged : ByteArray := prog_11_method_8_code
def yX9_noteAcknowledged : MethodName := ⟨RX9, "noteAcknowledged", "(III)V"⟩
abbrev cX9_measure : ByteArray := prog_11_method_9_code
def yX9_measure : MethodName := ⟨RX9, "measure", "(I)V"⟩
abbrev cX9_noteWindow : ByteArray := prog_11_method_10_code
def yX9_noteWindow : MethodName := ⟨RX9, "noteWindow", "(LLanternserver$Segment;)V"⟩
abbrev cX9_tellWindow : ByteArray := prog_11_method_11_code
def yX9_tellWindow : MethodName := ⟨RX9, "tellWindow", "(LLanternserver$Segment;)V"⟩
abbrev cX9_lowerThreshold : ByteArray := prog_11_method_12_code
def yX9_lowerThreshold : MethodName := ⟨RX9, "lowerThreshold", "(I)V"⟩
def RX10 : String := "Lanternserver$Wire"
def TX10 : u_T := fun k => match k with
  | 0 => ("Lanternserver$Wire", "frames", "[LLanternserver$Frame;", true)
  | 1 => ("Lanternserver$Wire", "spare", "LLanternserver$Frame;", false)
  | 2 => ("Lanternserver$Wire", "lostOne", "LLanternserver$Frame;", true)
  | 3 => ("Lanternserver$Wire", "many", "I", false)
  | 4 => ("Lanternserver$Wire", "sent", "I", false)
  | 5 => ("Lanternserver$Wire", "lost", "I", false)
  | 6 => ("Lanternserver$Wire", "delivered", "I", false)
  | 7 => ("Lanternserver$Wire", "spoilings", "I", false)
  | 8 => ("Lanternserver$Wire", "time", "I", false)
  | 9 => ("Lanternserver$Wire", "outgoing", "[LLanternserver$Datagram;", true)
  | 10 => ("Lanternserver$Wire", "laidOut", "I", false)
  | 11 => ("Lanternserver$Wire", "sentAgain", "I", false)
  | 12 => ("Lanternserver$Wire", "resets", "I", false)
  | _ => ("Lanternserver$Wire", "strangers", "I", false)
def tyX10 : Nat → FieldType := fun k => match k with
  | 0 => .array (.object "Lanternserver$Frame")
  | 1 => .object "Lanternserver$Frame"
  | 2 => .object "Lanternserver$Frame"
  | 3 => .int
  | 4 => .int
  | 5 => .int
  | 6 => .int
  | 7 => .int
  | 8 => .int
  | 9 => .array (.object "Lanternserver$Datagram")
  | 10 => .int
  | 11 => .int
  | 12 => .int
  | _ => .int
theorem nmX10 : ∀ a, a < 14 → ∀ b, b < 14 → a ≠ b → (TX10 a).2.1 ≠ (TX10 b).2.1 := by decide +kernel
theorem tyX10_ok : ∀ k, k < 14 → parseFieldDescriptor (TX10 k).2.2.1 = some (tyX10 k) := by decide +kernel
abbrev cX10_init : ByteArray := prog_12_method_1_code
def yX10_init : MethodName := ⟨RX10, "<init>", "()V"⟩
abbrev cX10_open : ByteArray := prog_12_method_2_code
def yX10_open : MethodName := ⟨RX10, "open", "(IZ)LLanternserver$Frame;"⟩
abbrev cX10_takeOut : ByteArray := prog_12_method_3_code
def yX10_takeOut : MethodName := ⟨RX10, "takeOut", "(I)LLanternserver$Frame;"⟩
abbrev cX10_loseOne : ByteArray := prog_12_method_4_code
def yX10_loseOne : MethodName := ⟨RX10, "loseOne", "(I)I"⟩
abbrev cX10_doubleOne : ByteArray := prog_12_method_5_code
def yX10_doubleOne : MethodName := ⟨RX10, "doubleOne", "(I)I"⟩
abbrev cX10_spoilOne : ByteArray := prog_12_method_6_code
def yX10_spoilOne : MethodName := ⟨RX10, "spoilOne", "(III)I"⟩
abbrev cX10_letter : ByteArray := prog_12_method_7_code
def yX10_letter : MethodName := ⟨RX10, "letter", "(III)LLanternserver$Datagram;"⟩
abbrev cX10_layOut : ByteArray := prog_12_method_8_code
def yX10_layOut : MethodName := ⟨RX10, "layOut", "(LLanternserver$Datagram;)V"⟩
abbrev cX10_answerByReset : ByteArray := prog_12_method_9_code
def yX10_answerByReset : MethodName := ⟨RX10, "answerByReset", "(LLanternserver$Segment;)V"⟩
abbrev cX10_wrongSums : ByteArray := prog_12_method_10_code
def yX10_wrongSums : MethodName := ⟨RX10, "wrongSums", "()I"⟩
def RX11 : String := "Lanternserver"
def TX11 : u_T := fun k => match k with
  | 0 => ("Lanternserver", "tape", "LLanternserver$Row;", true)
  | 1 => ("Lanternserver", "wire", "LLanternserver$Wire;", true)
  | 2 => ("Lanternserver", "hosts", "Ljava/util/ArrayList;", true)
  | 3 => ("Lanternserver", "connections", "Ljava/util/ArrayList;", true)
  | 4 => ("Lanternserver", "echoes", "Ljava/util/ArrayList;", true)
  | 5 => ("Lanternserver", "isEchoAnswered", "[Z", true)
  | 6 => ("Lanternserver", "lookups", "Ljava/util/ArrayList;", true)
  | 7 => ("Lanternserver", "foundHosts", "[I", true)
  | 8 => ("Lanternserver", "nameAsked", "LLanternserver$Row;", true)
  | 9 => ("Lanternserver", "arrived", "LLanternserver$Datagram;", true)
  | 10 => ("Lanternserver", "segment", "LLanternserver$Segment;", true)
  | 11 => ("Lanternserver", "house", "LLanternserver$House;", true)
  | 12 => ("Lanternserver", "served", "LLanternserver$Row;", true)
  | 13 => ("Lanternserver", "naiveHouse", "LLanternserver$House;", true)
  | 14 => ("Lanternserver", "naiveReader", "LLanternserver$Reader;", true)
  | 15 => ("Lanternserver", "naiveAnswer", "LLanternserver$Row;", true)
  | _ => ("Lanternserver", "naivePlaces", "[I", true)
def tyX11 : Nat → FieldType := fun k => match k with
  | 0 => .object "Lanternserver$Row"
  | 1 => .object "Lanternserver$Wire"
  | 2 => .object "java/util/ArrayList"
  | 3 => .object "java/util/ArrayList"
  | 4 => .object "java/util/ArrayList"
  | 5 => .array .boolean
  | 6 => .object "java/util/ArrayList"
  | 7 => .array .int
  | 8 => .object "Lanternserver$Row"
  | 9 => .object "Lanternserver$Datagram"
  | 10 => .object "Lanternserver$Segment"
  | 11 => .object "Lanternserver$House"
  | 12 => .object "Lanternserver$Row"
  | 13 => .object "Lanternserver$House"
  | 14 => .object "Lanternserver$Reader"
  | 15 => .object "Lanternserver$Row"
  | _ => .array .int
theorem nmX11 : ∀ a, a < 17 → ∀ b, b < 17 → a ≠ b → (TX11 a).2.1 ≠ (TX11 b).2.1 := by decide +kernel
theorem tyX11_ok : ∀ k, k < 17 → parseFieldDescriptor (TX11 k).2.2.1 = some (tyX11 k) := by decide +kernel
abbrev cX11_init : ByteArray := prog_1_method_1_code
def yX11_init : MethodName := ⟨RX11, "<init>", "()V"⟩
abbrev cX11_type : ByteArray := prog_1_method_2_code
def yX11_type : MethodName := ⟨RX11, "type", "(JJJJJJ)I"⟩
abbrev cX11_put : ByteArray := prog_1_method_3_code
def yX11_put : MethodName := ⟨RX11, "put", "(II)I"⟩
abbrev cX11_piece : ByteArray := prog_1_method_4_code
def yX11_piece : MethodName := ⟨RX11, "piece", "(I)I"⟩
abbrev cX11_clear : ByteArray := prog_1_method_5_code
def yX11_clear : MethodName := ⟨RX11, "clear", "()I"⟩
abbrev cX11_sum : ByteArray := prog_1_method_6_code
def yX11_sum : MethodName := ⟨RX11, "sum", "(II)I"⟩
abbrev cX11_addHost : ByteArray := prog_1_method_7_code
def yX11_addHost : MethodName := ⟨RX11, "addHost", "(II)I"⟩
abbrev cX11_setMtu : ByteArray := prog_1_method_8_code
def yX11_setMtu : MethodName := ⟨RX11, "setMtu", "(II)I"⟩
abbrev cX11_hostAt : ByteArray := prog_1_method_9_code
def yX11_hostAt : MethodName := ⟨RX11, "hostAt", "(II)I"⟩
abbrev cX11_tableAt : ByteArray := prog_1_method_10_code
def yX11_tableAt : MethodName := ⟨RX11, "tableAt", "(II)I"⟩
abbrev cX11_deliver : ByteArray := prog_1_method_11_code
def yX11_deliver : MethodName := ⟨RX11, "deliver", "(I)I"⟩
abbrev cX11_lose : ByteArray := prog_1_method_12_code
def yX11_lose : MethodName := ⟨RX11, "lose", "(I)I"⟩
abbrev cX11_twice : ByteArray := prog_1_method_13_code
def yX11_twice : MethodName := ⟨RX11, "twice", "(I)I"⟩
abbrev cX11_spoil : ByteArray := prog_1_method_14_code
def yX11_spoil : MethodName := ⟨RX11, "spoil", "(III)I"⟩
abbrev cX11_frameAt : ByteArray := prog_1_method_15_code
def yX11_frameAt : MethodName := ⟨RX11, "frameAt", "(II)I"⟩
abbrev cX11_byteAt : ByteArray := prog_1_method_16_code
def yX11_byteAt : MethodName := ⟨RX11, "byteAt", "(II)I"⟩
abbrev cX11_pass : ByteArray := prog_1_method_17_code
def yX11_pass : MethodName := ⟨RX11, "pass", "(I)I"⟩
abbrev cX11_settle : ByteArray := prog_1_method_18_code
def yX11_settle : MethodName := ⟨RX11, "settle", "(I)I"⟩
abbrev cX11_play : ByteArray := prog_1_method_19_code
def yX11_play : MethodName := ⟨RX11, "play", "(II)I"⟩
abbrev cX11_echo : ByteArray := prog_1_method_20_code
def yX11_echo : MethodName := ⟨RX11, "echo", "(III)I"⟩
abbrev cX11_isAnswered : ByteArray := prog_1_method_21_code
def yX11_isAnswered : MethodName := ⟨RX11, "isAnswered", "(I)Z"⟩
abbrev cX11_name : ByteArray := prog_1_method_22_code
def yX11_name : MethodName := ⟨RX11, "name", "(I)I"⟩
abbrev cX11_lookUp : ByteArray := prog_1_method_23_code
def yX11_lookUp : MethodName := ⟨RX11, "lookUp", "(I)I"⟩
abbrev cX11_askAgain : ByteArray := prog_1_method_24_code
def yX11_askAgain : MethodName := ⟨RX11, "askAgain", "(I)V"⟩
abbrev cX11_found : ByteArray := prog_1_method_25_code
def yX11_found : MethodName := ⟨RX11, "found", "(I)I"⟩
abbrev cX11_connect : ByteArray := prog_1_method_26_code
def yX11_connect : MethodName := ⟨RX11, "connect", "(III)I"⟩
abbrev cX11_write : ByteArray := prog_1_method_27_code
def yX11_write : MethodName := ⟨RX11, "write", "(I)I"⟩
abbrev cX11_read : ByteArray := prog_1_method_28_code
def yX11_read : MethodName := ⟨RX11, "read", "(II)I"⟩
abbrev cX11_readAt : ByteArray := prog_1_method_29_code
def yX11_readAt : MethodName := ⟨RX11, "readAt", "(II)I"⟩
abbrev cX11_close : ByteArray := prog_1_method_30_code
def yX11_close : MethodName := ⟨RX11, "close", "(IZ)I"⟩
abbrev cX11_connectionAt : ByteArray := prog_1_method_31_code
def yX11_connectionAt : MethodName := ⟨RX11, "connectionAt", "(II)I"⟩
abbrev cX11_fileAt : ByteArray := prog_1_method_32_code
def yX11_fileAt : MethodName := ⟨RX11, "fileAt", "(II)I"⟩
abbrev cX11_fileByteAt : ByteArray := prog_1_method_33_code
def yX11_fileByteAt : MethodName := ⟨RX11, "fileByteAt", "(IZI)I"⟩
abbrev cX11_servedAt : ByteArray := prog_1_method_34_code
def yX11_servedAt : MethodName := ⟨RX11, "servedAt", "(II)I"⟩
abbrev cX11_answerAt : ByteArray := prog_1_method_35_code
def yX11_answerAt : MethodName := ⟨RX11, "answerAt", "(II)I"⟩
abbrev cX11_count : ByteArray := prog_1_method_36_code
def yX11_count : MethodName := ⟨RX11, "count", "(I)I"⟩
abbrev cX11_agrees : ByteArray := prog_1_method_37_code
def yX11_agrees : MethodName := ⟨RX11, "agrees", "()Z"⟩
abbrev cX11_errors : ByteArray := prog_1_method_38_code
def yX11_errors : MethodName := ⟨RX11, "errors", "()I"⟩
abbrev cX11_deliveredShare : ByteArray := prog_1_method_39_code
def yX11_deliveredShare : MethodName := ⟨RX11, "deliveredShare", "()D"⟩
abbrev cX11_meanAnswer : ByteArray := prog_1_method_40_code
def yX11_meanAnswer : MethodName := ⟨RX11, "meanAnswer", "()F"⟩
abbrev cX11_hasHost : ByteArray := prog_1_method_41_code
def yX11_hasHost : MethodName := ⟨RX11, "hasHost", "(I)Z"⟩
abbrev cX11_hasConnection : ByteArray := prog_1_method_42_code
def yX11_hasConnection : MethodName := ⟨RX11, "hasConnection", "(I)Z"⟩
abbrev cX11_isNoChoice : ByteArray := prog_1_method_43_code
def yX11_isNoChoice : MethodName := ⟨RX11, "isNoChoice", "(I)Z"⟩
abbrev cX11_nextSeed : ByteArray := prog_1_method_44_code
def yX11_nextSeed : MethodName := ⟨RX11, "nextSeed", "(I)I"⟩
abbrev cX11_draw : ByteArray := prog_1_method_45_code
def yX11_draw : MethodName := ⟨RX11, "draw", "(II)I"⟩
abbrev cX11_isAhead : ByteArray := prog_1_method_46_code
def yX11_isAhead : MethodName := ⟨RX11, "isAhead", "(II)Z"⟩
abbrev cX11_bytesIn : ByteArray := prog_1_method_47_code
def yX11_bytesIn : MethodName := ⟨RX11, "bytesIn", "(J)I"⟩
abbrev cX11_typeNumber : ByteArray := prog_1_method_48_code
def yX11_typeNumber : MethodName := ⟨RX11, "typeNumber", "(J)V"⟩
abbrev cX11_pieceText : ByteArray := prog_1_method_49_code
def yX11_pieceText : MethodName := ⟨RX11, "pieceText", "(I)Ljava/lang/String;"⟩
abbrev cX11_answeredEchoes : ByteArray := prog_1_method_50_code
def yX11_answeredEchoes : MethodName := ⟨RX11, "answeredEchoes", "()I"⟩
abbrev cX11_openMany : ByteArray := prog_1_method_51_code
def yX11_openMany : MethodName := ⟨RX11, "openMany", "(Z)I"⟩
abbrev cX11_isTimerRunning : ByteArray := prog_1_method_52_code
def yX11_isTimerRunning : MethodName := ⟨RX11, "isTimerRunning", "()Z"⟩
abbrev cX11_postAll : ByteArray := prog_1_method_53_code
def yX11_postAll : MethodName := ⟨RX11, "postAll", "()V"⟩
abbrev cX11_carryOne : ByteArray := prog_1_method_54_code
def yX11_carryOne : MethodName := ⟨RX11, "carryOne", "(I)I"⟩
abbrev cX11_tick : ByteArray := prog_1_method_55_code
def yX11_tick : MethodName := ⟨RX11, "tick", "()V"⟩
abbrev cX11_takeEcho : ByteArray := prog_1_method_56_code
def yX11_takeEcho : MethodName := ⟨RX11, "takeEcho", "(I)V"⟩
abbrev cX11_takeNames : ByteArray := prog_1_method_57_code
def yX11_takeNames : MethodName := ⟨RX11, "takeNames", "(I)V"⟩
abbrev cX11_answerName : ByteArray := prog_1_method_58_code
def yX11_answerName : MethodName := ⟨RX11, "answerName", "()V"⟩
abbrev cX11_isQuestionHead : ByteArray := prog_1_method_59_code
def yX11_isQuestionHead : MethodName := ⟨RX11, "isQuestionHead", "(LLanternserver$Row;)Z"⟩
abbrev cX11_takeAnswer : ByteArray := prog_1_method_60_code
def yX11_takeAnswer : MethodName := ⟨RX11, "takeAnswer", "(I)V"⟩
abbrev cX11_readName : ByteArray := prog_1_method_61_code
def yX11_readName : MethodName := ⟨RX11, "readName", "()I"⟩
abbrev cX11_ownerOf : ByteArray := prog_1_method_62_code
def yX11_ownerOf : MethodName := ⟨RX11, "ownerOf", "(LLanternserver$Row;II)I"⟩
abbrev cX11_takeSegment : ByteArray := prog_1_method_63_code
def yX11_takeSegment : MethodName := ⟨RX11, "takeSegment", "(I)V"⟩
abbrev cX11_connectionOf : ByteArray := prog_1_method_64_code
def yX11_connectionOf : MethodName := ⟨RX11, "connectionOf", "(I)LLanternserver$Connection;"⟩
abbrev cX11_isBeginning : ByteArray := prog_1_method_65_code
def yX11_isBeginning : MethodName := ⟨RX11, "isBeginning", "(I)Z"⟩
abbrev cX11_newServers : ByteArray := prog_1_method_66_code
def yX11_newServers : MethodName := ⟨RX11, "newServers", "()LLanternserver$Connection;"⟩
abbrev cX11_serversOf : ByteArray := prog_1_method_67_code
def yX11_serversOf : MethodName := ⟨RX11, "serversOf", "(LLanternserver$Connection;I)I"⟩
abbrev cX11_serve : ByteArray := prog_1_method_68_code
def yX11_serve : MethodName := ⟨RX11, "serve", "(LLanternserver$Connection;)V"⟩
abbrev cX11_noteServed : ByteArray := prog_1_method_69_code
def yX11_noteServed : MethodName := ⟨RX11, "noteServed", "(LLanternserver$Connection;II)V"⟩
abbrev cX11_servedMany : ByteArray := prog_1_method_70_code
def yX11_servedMany : MethodName := ⟨RX11, "servedMany", "()I"⟩
abbrev cX11_servedNumber : ByteArray := prog_1_method_71_code
def yX11_servedNumber : MethodName := ⟨RX11, "servedNumber", "(II)I"⟩
abbrev cX11_servedWell : ByteArray := prog_1_method_72_code
def yX11_servedWell : MethodName := ⟨RX11, "servedWell", "()I"⟩
abbrev cX11_isServedNaively : ByteArray := prog_1_method_73_code
def yX11_isServedNaively : MethodName := ⟨RX11, "isServedNaively", "(I)Z"⟩
abbrev cX11_hasReadOtherwise : ByteArray := prog_1_method_74_code
def yX11_hasReadOtherwise : MethodName := ⟨RX11, "hasReadOtherwise", "(LLanternserver$Connection;)Z"⟩
def RX12 : String := "LanternserverModel$Bytes"
def TX12 : u_T := fun k => match k with
  | 0 => ("LanternserverModel$Bytes", "row", "[I", false)
  | _ => ("LanternserverModel$Bytes", "many", "I", false)
def tyX12 : Nat → FieldType := fun k => match k with
  | 0 => .array .int
  | _ => .int
theorem nmX12 : ∀ a, a < 2 → ∀ b, b < 2 → a ≠ b → (TX12 a).2.1 ≠ (TX12 b).2.1 := by decide +kernel
theorem tyX12_ok : ∀ k, k < 2 → parseFieldDescriptor (TX12 k).2.2.1 = some (tyX12 k) := by decide +kernel
abbrev cX12_init : ByteArray := prog_15_method_1_code
def yX12_init : MethodName := ⟨RX12, "<init>", "()V"⟩
abbrev cX12_add : ByteArray := prog_15_method_2_code
def yX12_add : MethodName := ⟨RX12, "add", "(I)V"⟩
def RX13 : String := "LanternserverModel$Early"
def TX13 : u_T := fun k => match k with
  | 0 => ("LanternserverModel$Early", "begin", "I", true)
  | _ => ("LanternserverModel$Early", "row", "[I", true)
def tyX13 : Nat → FieldType := fun k => match k with
  | 0 => .int
  | _ => .array .int
theorem nmX13 : ∀ a, a < 2 → ∀ b, b < 2 → a ≠ b → (TX13 a).2.1 ≠ (TX13 b).2.1 := by decide +kernel
theorem tyX13_ok : ∀ k, k < 2 → parseFieldDescriptor (TX13 k).2.2.1 = some (tyX13 k) := by decide +kernel
abbrev cX13_init : ByteArray := prog_16_method_1_code
def yX13_init : MethodName := ⟨RX13, "<init>", "(I[I)V"⟩
def RX14 : String := "LanternserverModel$Frame"
def TX14 : u_T := fun k => match k with
  | 0 => ("LanternserverModel$Frame", "row", "[I", false)
  | 1 => ("LanternserverModel$Frame", "from", "I", false)
  | 2 => ("LanternserverModel$Frame", "isSpoilt", "Z", false)
  | _ => ("LanternserverModel$Frame", "isPiece", "Z", false)
def tyX14 : Nat → FieldType := fun k => match k with
  | 0 => .array .int
  | 1 => .int
  | 2 => .boolean
  | _ => .boolean
theorem nmX14 : ∀ a, a < 4 → ∀ b, b < 4 → a ≠ b → (TX14 a).2.1 ≠ (TX14 b).2.1 := by decide +kernel
theorem tyX14_ok : ∀ k, k < 4 → parseFieldDescriptor (TX14 k).2.2.1 = some (tyX14 k) := by decide +kernel
abbrev cX14_init : ByteArray := prog_17_method_1_code
def yX14_init : MethodName := ⟨RX14, "<init>", "()V"⟩
def RX15 : String := "LanternserverModel$Host"
def TX15 : u_T := fun k => match k with
  | 0 => ("LanternserverModel$Host", "mss", "I", true)
  | 1 => ("LanternserverModel$Host", "mtu", "I", false)
  | 2 => ("LanternserverModel$Host", "counted", "I", false)
  | 3 => ("LanternserverModel$Host", "took", "I", false)
  | 4 => ("LanternserverModel$Host", "refused", "I", false)
  | 5 => ("LanternserverModel$Host", "known", "I", false)
  | 6 => ("LanternserverModel$Host", "waiting", "I", false)
  | 7 => ("LanternserverModel$Host", "together", "I", false)
  | 8 => ("LanternserverModel$Host", "table", "[LLanternserverModel$Known;", false)
  | 9 => ("LanternserverModel$Host", "waits", "[LLanternserverModel$Waits;", true)
  | 10 => ("LanternserverModel$Host", "parts", "[LLanternserverModel$Together;", true)
  | 11 => ("LanternserverModel$Host", "asked", "[I", true)
  | 12 => ("LanternserverModel$Host", "name", "[I", false)
  | 13 => ("LanternserverModel$Host", "made", "[[I", false)
  | 14 => ("LanternserverModel$Host", "madeProtocol", "[I", false)
  | _ => ("LanternserverModel$Host", "madeTo", "[I", false)
def tyX15 : Nat → FieldType := fun k => match k with
  | 0 => .int
  | 1 => .int
  | 2 => .int
  | 3 => .int
  | 4 => .int
  | 5 => .int
  | 6 => .int
  | 7 => .int
  | 8 => .array (.object "LanternserverModel$Known")
  | 9 => .array (.object "LanternserverModel$Waits")
  | 10 => .array (.object "LanternserverModel$Together")
  | 11 => .array .int
  | 12 => .array .int
  | 13 => .array (.array .int)
  | 14 => .array .int
  | _ => .array .int
theorem nmX15 : ∀ a, a < 16 → ∀ b, b < 16 → a ≠ b → (TX15 a).2.1 ≠ (TX15 b).2.1 := by decide +kernel
theorem tyX15_ok : ∀ k, k < 16 → parseFieldDescriptor (TX15 k).2.2.1 = some (tyX15 k) := by decide +kernel
abbrev cX15_init : ByteArray := prog_18_method_1_code
def yX15_init : MethodName := ⟨RX15, "<init>", "(II)V"⟩
def RX16 : String := "LanternserverModel$Known"
def TX16 : u_T := fun k => match k with
  | 0 => ("LanternserverModel$Known", "address", "I", false)
  | 1 => ("LanternserverModel$Known", "hardware", "J", false)
  | _ => ("LanternserverModel$Known", "since", "I", false)
def tyX16 : Nat → FieldType := fun k => match k with
  | 0 => .int
  | 1 => .long
  | _ => .int
theorem nmX16 : ∀ a, a < 3 → ∀ b, b < 3 → a ≠ b → (TX16 a).2.1 ≠ (TX16 b).2.1 := by decide +kernel
theorem tyX16_ok : ∀ k, k < 3 → parseFieldDescriptor (TX16 k).2.2.1 = some (tyX16 k) := by decide +kernel
abbrev cX16_init : ByteArray := prog_19_method_1_code
def yX16_init : MethodName := ⟨RX16, "<init>", "()V"⟩
def RX17 : String := "LanternserverModel$Line"
def TX17 : u_T := fun k => match k with
  | 0 => ("LanternserverModel$Line", "number", "I", true)
  | 1 => ("LanternserverModel$Line", "host", "I", true)
  | 2 => ("LanternserverModel$Line", "port", "I", true)
  | 3 => ("LanternserverModel$Line", "other", "I", true)
  | 4 => ("LanternserverModel$Line", "otherPort", "I", true)
  | 5 => ("LanternserverModel$Line", "iss", "I", true)
  | 6 => ("LanternserverModel$Line", "state", "I", false)
  | 7 => ("LanternserverModel$Line", "una", "I", false)
  | 8 => ("LanternserverModel$Line", "nxt", "I", false)
  | 9 => ("LanternserverModel$Line", "out", "LLanternserverModel$Bytes;", true)
  | 10 => ("LanternserverModel$Line", "isClosed", "Z", false)
  | 11 => ("LanternserverModel$Line", "isFinSent", "Z", false)
  | 12 => ("LanternserverModel$Line", "window", "I", false)
  | 13 => ("LanternserverModel$Line", "windowSequence", "I", false)
  | 14 => ("LanternserverModel$Line", "windowAcknowledged", "I", false)
  | 15 => ("LanternserverModel$Line", "cwnd", "I", false)
  | 16 => ("LanternserverModel$Line", "threshold", "I", false)
  | 17 => ("LanternserverModel$Line", "mss", "I", false)
  | 18 => ("LanternserverModel$Line", "hasOther", "Z", false)
  | 19 => ("LanternserverModel$Line", "irs", "I", false)
  | 20 => ("LanternserverModel$Line", "rcv", "I", false)
  | 21 => ("LanternserverModel$Line", "got", "LLanternserverModel$Bytes;", true)
  | 22 => ("LanternserverModel$Line", "read", "I", false)
  | 23 => ("LanternserverModel$Line", "hasFin", "Z", false)
  | 24 => ("LanternserverModel$Line", "early", "[LLanternserverModel$Early;", true)
  | 25 => ("LanternserverModel$Line", "earlyMany", "I", false)
  | 26 => ("LanternserverModel$Line", "rto", "I", false)
  | 27 => ("LanternserverModel$Line", "timedFrom", "I", false)
  | 28 => ("LanternserverModel$Line", "isProbing", "Z", false)
  | 29 => ("LanternserverModel$Line", "times", "I", false)
  | 30 => ("LanternserverModel$Line", "doubles", "I", false)
  | 31 => ("LanternserverModel$Line", "isMeasured", "Z", false)
  | 32 => ("LanternserverModel$Line", "measuredEnd", "I", false)
  | 33 => ("LanternserverModel$Line", "measuredFrom", "I", false)
  | 34 => ("LanternserverModel$Line", "hasSmooth", "Z", false)
  | 35 => ("LanternserverModel$Line", "smooth", "I", false)
  | 36 => ("LanternserverModel$Line", "varies", "I", false)
  | 37 => ("LanternserverModel$Line", "ended", "I", false)
  | 38 => ("LanternserverModel$Line", "latest", "I", false)
  | 39 => ("LanternserverModel$Line", "waitsFrom", "I", false)
  | _ => ("LanternserverModel$Line", "end", "I", false)
def tyX17 : Nat → FieldType := fun k => match k with
  | 0 => .int
  | 1 => .int
  | 2 => .int
  | 3 => .int
  | 4 => .int
  | 5 => .int
  | 6 => .int
  | 7 => .int
  | 8 => .int
  | 9 => .object "LanternserverModel$Bytes"
  | 10 => .boolean
  | 11 => .boolean
  | 12 => .int
  | 13 => .int
  | 14 => .int
  | 15 => .int
  | 16 => .int
  | 17 => .int
  | 18 => .boolean
  | 19 => .int
  | 20 => .int
  | 21 => .object "LanternserverModel$Bytes"
  | 22 => .int
  | 23 => .boolean
  | 24 => .array (.object "LanternserverModel$Early")
  | 25 => .int
  | 26 => .int
  | 27 => .int
  | 28 => .boolean
  | 29 => .int
  | 30 => .int
  | 31 => .boolean
  | 32 => .int
  | 33 => .int
  | 34 => .boolean
  | 35 => .int
  | 36 => .int
  | 37 => .int
  | 38 => .int
  | 39 => .int
  | _ => .int
theorem nmX17 : ∀ a, a < 41 → ∀ b, b < 41 → a ≠ b → (TX17 a).2.1 ≠ (TX17 b).2.1 := by decide +kernel
theorem tyX17_ok : ∀ k, k < 41 → parseFieldDescriptor (TX17 k).2.2.1 = some (tyX17 k) := by decide +kernel
abbrev cX17_init : ByteArray := prog_20_method_1_code
def yX17_init : MethodName := ⟨RX17, "<init>", "(IIIIIII)V"⟩
abbrev cX17_underWay : ByteArray := prog_20_method_2_code
def yX17_underWay : MethodName := ⟨RX17, "underWay", "()I"⟩
abbrev cX17_sentBytes : ByteArray := prog_20_method_3_code
def yX17_sentBytes : MethodName := ⟨RX17, "sentBytes", "()I"⟩
abbrev cX17_goneBytes : ByteArray := prog_20_method_4_code
def yX17_goneBytes : MethodName := ⟨RX17, "goneBytes", "()I"⟩
abbrev cX17_waiting : ByteArray := prog_20_method_5_code
def yX17_waiting : MethodName := ⟨RX17, "waiting", "()I"⟩
abbrev cX17_isTold : ByteArray := prog_20_method_6_code
def yX17_isTold : MethodName := ⟨RX17, "isTold", "()Z"⟩
abbrev cX17_ownWindow : ByteArray := prog_20_method_7_code
def yX17_ownWindow : MethodName := ⟨RX17, "ownWindow", "()I"⟩
abbrev cX17_isSending : ByteArray := prog_20_method_8_code
def yX17_isSending : MethodName := ⟨RX17, "isSending", "()Z"⟩
abbrev cX17_isShut : ByteArray := prog_20_method_9_code
def yX17_isShut : MethodName := ⟨RX17, "isShut", "()Z"⟩
abbrev cX17_isTimed : ByteArray := prog_20_method_10_code
def yX17_isTimed : MethodName := ⟨RX17, "isTimed", "()Z"⟩
def RX18 : String := "LanternserverModel$Together"
def TX18 : u_T := fun k => match k with
  | 0 => ("LanternserverModel$Together", "address", "I", false)
  | 1 => ("LanternserverModel$Together", "identification", "I", false)
  | 2 => ("LanternserverModel$Together", "protocol", "I", false)
  | 3 => ("LanternserverModel$Together", "since", "I", false)
  | 4 => ("LanternserverModel$Together", "end", "I", false)
  | 5 => ("LanternserverModel$Together", "bytes", "[I", true)
  | _ => ("LanternserverModel$Together", "has", "[Z", true)
def tyX18 : Nat → FieldType := fun k => match k with
  | 0 => .int
  | 1 => .int
  | 2 => .int
  | 3 => .int
  | 4 => .int
  | 5 => .array .int
  | _ => .array .boolean
theorem nmX18 : ∀ a, a < 7 → ∀ b, b < 7 → a ≠ b → (TX18 a).2.1 ≠ (TX18 b).2.1 := by decide +kernel
theorem tyX18_ok : ∀ k, k < 7 → parseFieldDescriptor (TX18 k).2.2.1 = some (tyX18 k) := by decide +kernel
abbrev cX18_init : ByteArray := prog_21_method_1_code
def yX18_init : MethodName := ⟨RX18, "<init>", "()V"⟩
abbrev cX18_isWhole : ByteArray := prog_21_method_2_code
def yX18_isWhole : MethodName := ⟨RX18, "isWhole", "()Z"⟩
def RX19 : String := "LanternserverModel$Waits"
def TX19 : u_T := fun k => match k with
  | 0 => ("LanternserverModel$Waits", "to", "I", false)
  | _ => ("LanternserverModel$Waits", "rows", "[[I", false)
def tyX19 : Nat → FieldType := fun k => match k with
  | 0 => .int
  | _ => .array (.array .int)
theorem nmX19 : ∀ a, a < 2 → ∀ b, b < 2 → a ≠ b → (TX19 a).2.1 ≠ (TX19 b).2.1 := by decide +kernel
theorem tyX19_ok : ∀ k, k < 2 → parseFieldDescriptor (TX19 k).2.2.1 = some (tyX19 k) := by decide +kernel
abbrev cX19_init : ByteArray := prog_22_method_1_code
def yX19_init : MethodName := ⟨RX19, "<init>", "()V"⟩
def RX20 : String := "LanternserverModel"
def TX20 : u_T := fun k => match k with
  | 0 => ("LanternserverModel", "thrown", "I", false)
  | 1 => ("LanternserverModel", "time", "I", false)
  | 2 => ("LanternserverModel", "hosts", "I", false)
  | 3 => ("LanternserverModel", "tape", "[I", true)
  | 4 => ("LanternserverModel", "tapeMany", "I", false)
  | 5 => ("LanternserverModel", "host", "[LLanternserverModel$Host;", true)
  | 6 => ("LanternserverModel", "wire", "[LLanternserverModel$Frame;", true)
  | 7 => ("LanternserverModel", "frames", "I", false)
  | 8 => ("LanternserverModel", "lost", "I", false)
  | 9 => ("LanternserverModel", "spoilt", "I", false)
  | 10 => ("LanternserverModel", "framesSent", "J", false)
  | 11 => ("LanternserverModel", "delivered", "J", false)
  | 12 => ("LanternserverModel", "strange", "I", false)
  | 13 => ("LanternserverModel", "echoes", "I", false)
  | 14 => ("LanternserverModel", "answered", "I", false)
  | 15 => ("LanternserverModel", "echoHost", "[I", true)
  | 16 => ("LanternserverModel", "echoTo", "[I", true)
  | 17 => ("LanternserverModel", "echoMany", "[I", true)
  | 18 => ("LanternserverModel", "isAnswered", "[Z", true)
  | 19 => ("LanternserverModel", "lookups", "I", false)
  | 20 => ("LanternserverModel", "lookupHost", "[I", true)
  | 21 => ("LanternserverModel", "lookupFound", "[I", true)
  | 22 => ("LanternserverModel", "lookupName", "[[I", true)
  | 23 => ("LanternserverModel", "seed", "I", false)
  | 24 => ("LanternserverModel", "lines", "[LLanternserverModel$Line;", true)
  | 25 => ("LanternserverModel", "connections", "I", false)
  | 26 => ("LanternserverModel", "sentAgain", "I", false)
  | 27 => ("LanternserverModel", "answeredByRst", "I", false)
  | 28 => ("LanternserverModel", "came", "[I", false)
  | 29 => ("LanternserverModel", "cameFrom", "I", false)
  | 30 => ("LanternserverModel", "cameMany", "I", false)
  | 31 => ("LanternserverModel", "sequence", "I", false)
  | 32 => ("LanternserverModel", "acknowledgement", "I", false)
  | 33 => ("LanternserverModel", "flags", "I", false)
  | 34 => ("LanternserverModel", "cameWindow", "I", false)
  | 35 => ("LanternserverModel", "letter", "[I", true)
  | 36 => ("LanternserverModel", "letterFrom", "[I", true)
  | 37 => ("LanternserverModel", "codes", "[I", true)
  | 38 => ("LanternserverModel", "phase", "[I", true)
  | 39 => ("LanternserverModel", "bytesRead", "[I", true)
  | 40 => ("LanternserverModel", "lineLong", "[I", true)
  | 41 => ("LanternserverModel", "linesRead", "[I", true)
  | 42 => ("LanternserverModel", "fits", "[I", true)
  | 43 => ("LanternserverModel", "wordLong", "[I", true)
  | 44 => ("LanternserverModel", "method", "[I", true)
  | 45 => ("LanternserverModel", "targetLong", "[I", true)
  | 46 => ("LanternserverModel", "edition", "[I", true)
  | 47 => ("LanternserverModel", "valueLong", "[I", true)
  | 48 => ("LanternserverModel", "valueEnd", "[I", true)
  | 49 => ("LanternserverModel", "nameOfLine", "[I", true)
  | 50 => ("LanternserverModel", "hostsTold", "[I", true)
  | 51 => ("LanternserverModel", "lengthTold", "[I", true)
  | 52 => ("LanternserverModel", "coding", "[I", true)
  | 53 => ("LanternserverModel", "staying", "[I", true)
  | 54 => ("LanternserverModel", "ifMatch", "[I", true)
  | 55 => ("LanternserverModel", "ifNone", "[I", true)
  | 56 => ("LanternserverModel", "isLengthBad", "[Z", true)
  | 57 => ("LanternserverModel", "rangeKind", "[I", true)
  | 58 => ("LanternserverModel", "rangeA", "[I", true)
  | 59 => ("LanternserverModel", "rangeB", "[I", true)
  | 60 => ("LanternserverModel", "bodyLong", "[I", true)
  | 61 => ("LanternserverModel", "bodyLeft", "[I", true)
  | 62 => ("LanternserverModel", "sizeDigits", "[I", true)
  | 63 => ("LanternserverModel", "sizeTold", "[I", true)
  | 64 => ("LanternserverModel", "target", "[I", true)
  | 65 => ("LanternserverModel", "value", "[I", true)
  | 66 => ("LanternserverModel", "body", "[I", true)
  | 67 => ("LanternserverModel", "numberEnd", "I", false)
  | 68 => ("LanternserverModel", "files", "[I", true)
  | 69 => ("LanternserverModel", "version", "[I", true)
  | 70 => ("LanternserverModel", "nameLong", "[I", true)
  | 71 => ("LanternserverModel", "nameByte", "[I", true)
  | 72 => ("LanternserverModel", "fileSize", "[I", true)
  | 73 => ("LanternserverModel", "fileVersion", "[I", true)
  | 74 => ("LanternserverModel", "fileByte", "[I", true)
  | 75 => ("LanternserverModel", "partFrom", "I", false)
  | 76 => ("LanternserverModel", "partLong", "I", false)
  | 77 => ("LanternserverModel", "tagTold", "I", false)
  | 78 => ("LanternserverModel", "sizeAsked", "I", false)
  | 79 => ("LanternserverModel", "said", "[I", false)
  | 80 => ("LanternserverModel", "saidLong", "I", false)
  | 81 => ("LanternserverModel", "servedConnection", "[I", false)
  | 82 => ("LanternserverModel", "servedNumber", "[I", false)
  | 83 => ("LanternserverModel", "servedCode", "[I", false)
  | 84 => ("LanternserverModel", "servedFrom", "[I", false)
  | 85 => ("LanternserverModel", "servedMany", "[I", false)
  | 86 => ("LanternserverModel", "servedBytes", "[I", false)
  | 87 => ("LanternserverModel", "servedTime", "[I", false)
  | 88 => ("LanternserverModel", "servedLast", "[I", false)
  | 89 => ("LanternserverModel", "served", "I", false)
  | 90 => ("LanternserverModel", "servedNow", "[I", true)
  | 91 => ("LanternserverModel", "servedWritten", "[I", true)
  | 92 => ("LanternserverModel", "servedHere", "[I", true)
  | 93 => ("LanternserverModel", "isServing", "[Z", true)
  | 94 => ("LanternserverModel", "houseAt", "[I", true)
  | _ => ("LanternserverModel", "clientAt", "[I", true)
def tyX20 : Nat → FieldType := fun k => match k with
  | 0 => .int
  | 1 => .int
  | 2 => .int
  | 3 => .array .int
  | 4 => .int
  | 5 => .array (.object "LanternserverModel$Host")
  | 6 => .array (.object "LanternserverModel$Frame")
  | 7 => .int
  | 8 => .int
  | 9 => .int
  | 10 => .long
  | 11 => .long
  | 12 => .int
  | 13 => .int
  | 14 => .int
  | 15 => .array .int
  | 16 => .array .int
  | 17 => .array .int
  | 18 => .array .boolean
  | 19 => .int
  | 20 => .array .int
  | 21 => .array .int
  | 22 => .array (.array .int)
  | 23 => .int
  | 24 => .array (.object "LanternserverModel$Line")
  | 25 => .int
  | 26 => .int
  | 27 => .int
  | 28 => .array .int
  | 29 => .int
  | 30 => .int
  | 31 => .int
  | 32 => .int
  | 33 => .int
  | 34 => .int
  | 35 => .array .int
  | 36 => .array .int
  | 37 => .array .int
  | 38 => .array .int
  | 39 => .array .int
  | 40 => .array .int
  | 41 => .array .int
  | 42 => .array .int
  | 43 => .array .int
  | 44 => .array .int
  | 45 => .array .int
  | 46 => .array .int
  | 47 => .array .int
  | 48 => .array .int
  | 49 => .array .int
  | 50 => .array .int
  | 51 => .array .int
  | 52 => .array .int
  | 53 => .array .int
  | 54 => .array .int
  | 55 => .array .int
  | 56 => .array .boolean
  | 57 => .array .int
  | 58 => .array .int
  | 59 => .array .int
  | 60 => .array .int
  | 61 => .array .int
  | 62 => .array .int
  | 63 => .array .int
  | 64 => .array .int
  | 65 => .array .int
  | 66 => .array .int
  | 67 => .int
  | 68 => .array .int
  | 69 => .array .int
  | 70 => .array .int
  | 71 => .array .int
  | 72 => .array .int
  | 73 => .array .int
  | 74 => .array .int
  | 75 => .int
  | 76 => .int
  | 77 => .int
  | 78 => .int
  | 79 => .array .int
  | 80 => .int
  | 81 => .array .int
  | 82 => .array .int
  | 83 => .array .int
  | 84 => .array .int
  | 85 => .array .int
  | 86 => .array .int
  | 87 => .array .int
  | 88 => .array .int
  | 89 => .int
  | 90 => .array .int
  | 91 => .array .int
  | 92 => .array .int
  | 93 => .array .boolean
  | 94 => .array .int
  | _ => .array .int
theorem nmX20 : ∀ a, a < 96 → ∀ b, b < 96 → a ≠ b → (TX20 a).2.1 ≠ (TX20 b).2.1 := by decide +kernel
theorem tyX20_ok : ∀ k, k < 96 → parseFieldDescriptor (TX20 k).2.2.1 = some (tyX20 k) := by decide +kernel
abbrev cX20_init : ByteArray := prog_14_method_1_code
def yX20_init : MethodName := ⟨RX20, "<init>", "()V"⟩
abbrev cX20_thrown : ByteArray := prog_14_method_2_code
def yX20_thrown : MethodName := ⟨RX20, "thrown", "()I"⟩
abbrev cX20_in : ByteArray := prog_14_method_3_code
def yX20_in : MethodName := ⟨RX20, "in", "(JJJ)Z"⟩
abbrev cX20_fine : ByteArray := prog_14_method_4_code
def yX20_fine : MethodName := ⟨RX20, "fine", "(Z)Z"⟩
abbrev cX20_fine_ : ByteArray := prog_14_method_5_code
def yX20_fine_ : MethodName := ⟨RX20, "fine", "(ZZ)Z"⟩
abbrev cX20_fine__ : ByteArray := prog_14_method_6_code
def yX20_fine__ : MethodName := ⟨RX20, "fine", "(ZZZ)Z"⟩
abbrev cX20_tapeLength : ByteArray := prog_14_method_7_code
def yX20_tapeLength : MethodName := ⟨RX20, "tapeLength", "()I"⟩
abbrev cX20_tapeAt : ByteArray := prog_14_method_8_code
def yX20_tapeAt : MethodName := ⟨RX20, "tapeAt", "(I)I"⟩
abbrev cX20_tapeDrops : ByteArray := prog_14_method_9_code
def yX20_tapeDrops : MethodName := ⟨RX20, "tapeDrops", "(I)V"⟩
abbrev cX20_bytesOf : ByteArray := prog_14_method_10_code
def yX20_bytesOf : MethodName := ⟨RX20, "bytesOf", "(J)I"⟩
abbrev cX20_puts : ByteArray := prog_14_method_11_code
def yX20_puts : MethodName := ⟨RX20, "puts", "(J)V"⟩
abbrev cX20_type : ByteArray := prog_14_method_12_code
def yX20_type : MethodName := ⟨RX20, "type", "(JJJJJJ)I"⟩
abbrev cX20_put : ByteArray := prog_14_method_13_code
def yX20_put : MethodName := ⟨RX20, "put", "(II)I"⟩
abbrev cX20_pieceOf : ByteArray := prog_14_method_14_code
def yX20_pieceOf : MethodName := ⟨RX20, "pieceOf", "(I)Ljava/lang/String;"⟩
abbrev cX20_piece : ByteArray := prog_14_method_15_code
def yX20_piece : MethodName := ⟨RX20, "piece", "(I)I"⟩
abbrev cX20_clear : ByteArray := prog_14_method_16_code
def yX20_clear : MethodName := ⟨RX20, "clear", "()I"⟩
abbrev cX20_added : ByteArray := prog_14_method_17_code
def yX20_added : MethodName := ⟨RX20, "added", "(I[III)I"⟩
abbrev cX20_sumOf : ByteArray := prog_14_method_18_code
def yX20_sumOf : MethodName := ⟨RX20, "sumOf", "([III)I"⟩
abbrev cX20_sumOver : ByteArray := prog_14_method_19_code
def yX20_sumOver : MethodName := ⟨RX20, "sumOver", "(III[III)I"⟩
abbrev cX20_sum : ByteArray := prog_14_method_20_code
def yX20_sum : MethodName := ⟨RX20, "sum", "(II)I"⟩
abbrev cX20_mssOf : ByteArray := prog_14_method_21_code
def yX20_mssOf : MethodName := ⟨RX20, "mssOf", "(I)I"⟩
abbrev cX20_addHost : ByteArray := prog_14_method_22_code
def yX20_addHost : MethodName := ⟨RX20, "addHost", "(II)I"⟩
abbrev cX20_setMtu : ByteArray := prog_14_method_23_code
def yX20_setMtu : MethodName := ⟨RX20, "setMtu", "(II)I"⟩
abbrev cX20_hostAt : ByteArray := prog_14_method_24_code
def yX20_hostAt : MethodName := ⟨RX20, "hostAt", "(II)I"⟩
abbrev cX20_addressOf : ByteArray := prog_14_method_25_code
def yX20_addressOf : MethodName := ⟨RX20, "addressOf", "(I)I"⟩
abbrev cX20_hostWith : ByteArray := prog_14_method_26_code
def yX20_hostWith : MethodName := ⟨RX20, "hostWith", "(I)I"⟩
abbrev cX20_hardwareOf : ByteArray := prog_14_method_27_code
def yX20_hardwareOf : MethodName := ⟨RX20, "hardwareOf", "(I)J"⟩
abbrev cX20_knownOf : ByteArray := prog_14_method_28_code
def yX20_knownOf : MethodName := ⟨RX20, "knownOf", "(LLanternserverModel$Host;I)LLanternserverModel$Known;"⟩
abbrev cX20_tableAt : ByteArray := prog_14_method_29_code
def yX20_tableAt : MethodName := ⟨RX20, "tableAt", "(II)I"⟩
abbrev cX20_puts_ : ByteArray := prog_14_method_30_code
def yX20_puts_ : MethodName := ⟨RX20, "puts", "([IIJI)V"⟩
abbrev cX20_number : ByteArray := prog_14_method_31_code
def yX20_number : MethodName := ⟨RX20, "number", "([III)J"⟩
abbrev cX20_toWire : ByteArray := prog_14_method_32_code
def yX20_toWire : MethodName := ⟨RX20, "toWire", "(LLanternserverModel$Frame;)V"⟩
abbrev cX20_frame : ByteArray := prog_14_method_33_code
def yX20_frame : MethodName := ⟨RX20, "frame", "(IJI[IZ)V"⟩
abbrev cX20_takenOff : ByteArray := prog_14_method_34_code
def yX20_takenOff : MethodName := ⟨RX20, "takenOff", "(I)LLanternserverModel$Frame;"⟩
abbrev cX20_delivers : ByteArray := prog_14_method_35_code
def yX20_delivers : MethodName := ⟨RX20, "delivers", "(I)I"⟩
abbrev cX20_deliver : ByteArray := prog_14_method_36_code
def yX20_deliver : MethodName := ⟨RX20, "deliver", "(I)I"⟩
abbrev cX20_lose : ByteArray := prog_14_method_37_code
def yX20_lose : MethodName := ⟨RX20, "lose", "(I)I"⟩
abbrev cX20_twice : ByteArray := prog_14_method_38_code
def yX20_twice : MethodName := ⟨RX20, "twice", "(I)I"⟩
abbrev cX20_spoil : ByteArray := prog_14_method_39_code
def yX20_spoil : MethodName := ⟨RX20, "spoil", "(III)I"⟩
abbrev cX20_frameAt : ByteArray := prog_14_method_40_code
def yX20_frameAt : MethodName := ⟨RX20, "frameAt", "(II)I"⟩
abbrev cX20_byteAt : ByteArray := prog_14_method_41_code
def yX20_byteAt : MethodName := ⟨RX20, "byteAt", "(II)I"⟩
abbrev cX20_copy : ByteArray := prog_14_method_42_code
def yX20_copy : MethodName := ⟨RX20, "copy", "([III)[I"⟩
abbrev cX20_takes : ByteArray := prog_14_method_43_code
def yX20_takes : MethodName := ⟨RX20, "takes", "(I[I)V"⟩
abbrev cX20_message : ByteArray := prog_14_method_44_code
def yX20_message : MethodName := ⟨RX20, "message", "(IJIJI)[I"⟩
abbrev cX20_takesMessage : ByteArray := prog_14_method_45_code
def yX20_takesMessage : MethodName := ⟨RX20, "takesMessage", "(I[I)Z"⟩
abbrev cX20_keeps : ByteArray := prog_14_method_46_code
def yX20_keeps : MethodName := ⟨RX20, "keeps", "(LLanternserverModel$Host;LLanternserverModel$Known;IJ)V"⟩
abbrev cX20_sendsWaiting : ByteArray := prog_14_method_47_code
def yX20_sendsWaiting : MethodName := ⟨RX20, "sendsWaiting", "(IIJ)V"⟩
abbrev cX20_sendsRows : ByteArray := prog_14_method_48_code
def yX20_sendsRows : MethodName := ⟨RX20, "sendsRows", "(IJ[[I)V"⟩
abbrev cX20_datagram : ByteArray := prog_14_method_49_code
def yX20_datagram : MethodName := ⟨RX20, "datagram", "(III[IIIZ)[I"⟩
abbrev cX20_sends : ByteArray := prog_14_method_50_code
def yX20_sends : MethodName := ⟨RX20, "sends", "(III[II)V"⟩
abbrev cX20_records : ByteArray := prog_14_method_51_code
def yX20_records : MethodName := ⟨RX20, "records", "(LLanternserverModel$Host;II[I)V"⟩
abbrev cX20_takesDatagram : ByteArray := prog_14_method_52_code
def yX20_takesDatagram : MethodName := ⟨RX20, "takesDatagram", "(I[I)Z"⟩
abbrev cX20_partOf : ByteArray := prog_14_method_53_code
def yX20_partOf : MethodName := ⟨RX20, "partOf", "(LLanternserverModel$Host;III)I"⟩
abbrev cX20_forgets : ByteArray := prog_14_method_54_code
def yX20_forgets : MethodName := ⟨RX20, "forgets", "(LLanternserverModel$Host;I)V"⟩
abbrev cX20_puts__ : ByteArray := prog_14_method_55_code
def yX20_puts__ : MethodName := ⟨RX20, "puts", "(III[IIIZ)V"⟩
abbrev cX20_areLike : ByteArray := prog_14_method_56_code
def yX20_areLike : MethodName := ⟨RX20, "areLike", "([I[I)Z"⟩
abbrev cX20_hasNoSum : ByteArray := prog_14_method_57_code
def yX20_hasNoSum : MethodName := ⟨RX20, "hasNoSum", "(I[I)Z"⟩
abbrev cX20_isRight : ByteArray := prog_14_method_58_code
def yX20_isRight : MethodName := ⟨RX20, "isRight", "(III[I)Z"⟩
abbrev cX20_wasSent : ByteArray := prog_14_method_59_code
def yX20_wasSent : MethodName := ⟨RX20, "wasSent", "(IIII[I)Z"⟩
abbrev cX20_took : ByteArray := prog_14_method_60_code
def yX20_took : MethodName := ⟨RX20, "took", "(IIII[I)V"⟩
abbrev cX20_wireErrors : ByteArray := prog_14_method_61_code
def yX20_wireErrors : MethodName := ⟨RX20, "wireErrors", "()I"⟩
abbrev cX20_fits : ByteArray := prog_14_method_62_code
def yX20_fits : MethodName := ⟨RX20, "fits", "([IZ)Z"⟩
abbrev cX20_echoRow : ByteArray := prog_14_method_63_code
def yX20_echoRow : MethodName := ⟨RX20, "echoRow", "(II)[I"⟩
abbrev cX20_echo : ByteArray := prog_14_method_64_code
def yX20_echo : MethodName := ⟨RX20, "echo", "(III)I"⟩
abbrev cX20_isAnswered : ByteArray := prog_14_method_65_code
def yX20_isAnswered : MethodName := ⟨RX20, "isAnswered", "(I)Z"⟩
abbrev cX20_echoComes : ByteArray := prog_14_method_66_code
def yX20_echoComes : MethodName := ⟨RX20, "echoComes", "(II[I)V"⟩
abbrev cX20_isNameByte : ByteArray := prog_14_method_67_code
def yX20_isNameByte : MethodName := ⟨RX20, "isNameByte", "(I)Z"⟩
abbrev cX20_nameOnTape : ByteArray := prog_14_method_68_code
def yX20_nameOnTape : MethodName := ⟨RX20, "nameOnTape", "()[I"⟩
abbrev cX20_hostNamed : ByteArray := prog_14_method_69_code
def yX20_hostNamed : MethodName := ⟨RX20, "hostNamed", "([I)I"⟩
abbrev cX20_partsOf : ByteArray := prog_14_method_70_code
def yX20_partsOf : MethodName := ⟨RX20, "partsOf", "([I)I"⟩
abbrev cX20_name : ByteArray := prog_14_method_71_code
def yX20_name : MethodName := ⟨RX20, "name", "(I)I"⟩
abbrev cX20_question : ByteArray := prog_14_method_72_code
def yX20_question : MethodName := ⟨RX20, "question", "([I)[I"⟩
abbrev cX20_joined : ByteArray := prog_14_method_73_code
def yX20_joined : MethodName := ⟨RX20, "joined", "([I[I)[I"⟩
abbrev cX20_start : ByteArray := prog_14_method_74_code
def yX20_start : MethodName := ⟨RX20, "start", "(III)[I"⟩
abbrev cX20_sendsByPorts : ByteArray := prog_14_method_75_code
def yX20_sendsByPorts : MethodName := ⟨RX20, "sendsByPorts", "(IIII[I)V"⟩
abbrev cX20_asks : ByteArray := prog_14_method_76_code
def yX20_asks : MethodName := ⟨RX20, "asks", "(I)V"⟩
abbrev cX20_lookUp : ByteArray := prog_14_method_77_code
def yX20_lookUp : MethodName := ⟨RX20, "lookUp", "(I)I"⟩
abbrev cX20_askAgain : ByteArray := prog_14_method_78_code
def yX20_askAgain : MethodName := ⟨RX20, "askAgain", "(I)V"⟩
abbrev cX20_found : ByteArray := prog_14_method_79_code
def yX20_found : MethodName := ⟨RX20, "found", "(I)I"⟩
abbrev cX20_nameComes : ByteArray := prog_14_method_80_code
def yX20_nameComes : MethodName := ⟨RX20, "nameComes", "(II[I)V"⟩
abbrev cX20_nameIn : ByteArray := prog_14_method_81_code
def yX20_nameIn : MethodName := ⟨RX20, "nameIn", "([I)[I"⟩
abbrev cX20_questionComes : ByteArray := prog_14_method_82_code
def yX20_questionComes : MethodName := ⟨RX20, "questionComes", "(II[I)V"⟩
abbrev cX20_place : ByteArray := prog_14_method_83_code
def yX20_place : MethodName := ⟨RX20, "place", "(I)[I"⟩
abbrev cX20_answerComes : ByteArray := prog_14_method_84_code
def yX20_answerComes : MethodName := ⟨RX20, "answerComes", "(II[I)V"⟩
abbrev cX20_tick : ByteArray := prog_14_method_85_code
def yX20_tick : MethodName := ⟨RX20, "tick", "()V"⟩
abbrev cX20_pass : ByteArray := prog_14_method_86_code
def yX20_pass : MethodName := ⟨RX20, "pass", "(I)I"⟩
abbrev cX20_settle : ByteArray := prog_14_method_87_code
def yX20_settle : MethodName := ⟨RX20, "settle", "(I)I"⟩
abbrev cX20_draw : ByteArray := prog_14_method_88_code
def yX20_draw : MethodName := ⟨RX20, "draw", "(I)I"⟩
abbrev cX20_play : ByteArray := prog_14_method_89_code
def yX20_play : MethodName := ⟨RX20, "play", "(II)I"⟩
abbrev cX20_countOfWire : ByteArray := prog_14_method_90_code
def yX20_countOfWire : MethodName := ⟨RX20, "countOfWire", "(I)I"⟩
abbrev cX20_isAhead : ByteArray := prog_14_method_91_code
def yX20_isAhead : MethodName := ⟨RX20, "isAhead", "(II)Z"⟩
abbrev cX20_isLine : ByteArray := prog_14_method_92_code
def yX20_isLine : MethodName := ⟨RX20, "isLine", "(I)Z"⟩
abbrev cX20_two : ByteArray := prog_14_method_93_code
def yX20_two : MethodName := ⟨RX20, "two", "([III)V"⟩
abbrev cX20_four : ByteArray := prog_14_method_94_code
def yX20_four : MethodName := ⟨RX20, "four", "([III)V"⟩
abbrev cX20_twoAt : ByteArray := prog_14_method_95_code
def yX20_twoAt : MethodName := ⟨RX20, "twoAt", "([II)I"⟩
abbrev cX20_fourAt : ByteArray := prog_14_method_96_code
def yX20_fourAt : MethodName := ⟨RX20, "fourAt", "([II)I"⟩
abbrev cX20_sendSegment : ByteArray := prog_14_method_97_code
def yX20_sendSegment : MethodName := ⟨RX20, "sendSegment", "(IIIIIIIIILLanternserverModel$Bytes;II)V"⟩
abbrev cX20_sendOn : ByteArray := prog_14_method_98_code
def yX20_sendOn : MethodName := ⟨RX20, "sendOn", "(LLanternserverModel$Line;IIII)V"⟩
abbrev cX20_acknowledges : ByteArray := prog_14_method_99_code
def yX20_acknowledges : MethodName := ⟨RX20, "acknowledges", "(LLanternserverModel$Line;)V"⟩
abbrev cX20_resets : ByteArray := prog_14_method_100_code
def yX20_resets : MethodName := ⟨RX20, "resets", "(LLanternserverModel$Line;I)V"⟩
abbrev cX20_timesAnew : ByteArray := prog_14_method_101_code
def yX20_timesAnew : MethodName := ⟨RX20, "timesAnew", "(LLanternserverModel$Line;)V"⟩
abbrev cX20_sendBytes : ByteArray := prog_14_method_102_code
def yX20_sendBytes : MethodName := ⟨RX20, "sendBytes", "(LLanternserverModel$Line;I)V"⟩
abbrev cX20_sendsAll : ByteArray := prog_14_method_103_code
def yX20_sendsAll : MethodName := ⟨RX20, "sendsAll", "(LLanternserverModel$Line;)V"⟩
abbrev cX20_sendsAgain : ByteArray := prog_14_method_104_code
def yX20_sendsAgain : MethodName := ⟨RX20, "sendsAgain", "(LLanternserverModel$Line;)V"⟩
abbrev cX20_shrinks : ByteArray := prog_14_method_105_code
def yX20_shrinks : MethodName := ⟨RX20, "shrinks", "(LLanternserverModel$Line;Z)V"⟩
abbrev cX20_isOver : ByteArray := prog_14_method_106_code
def yX20_isOver : MethodName := ⟨RX20, "isOver", "(LLanternserverModel$Line;)V"⟩
abbrev cX20_doesATimerRun : ByteArray := prog_14_method_107_code
def yX20_doesATimerRun : MethodName := ⟨RX20, "doesATimerRun", "()Z"⟩
abbrev cX20_connectionsTick : ByteArray := prog_14_method_108_code
def yX20_connectionsTick : MethodName := ⟨RX20, "connectionsTick", "(I)V"⟩
abbrev cX20_lineOf : ByteArray := prog_14_method_109_code
def yX20_lineOf : MethodName := ⟨RX20, "lineOf", "(IIII)LLanternserverModel$Line;"⟩
abbrev cX20_toldMss : ByteArray := prog_14_method_110_code
def yX20_toldMss : MethodName := ⟨RX20, "toldMss", "([III)I"⟩
abbrev cX20_has : ByteArray := prog_14_method_111_code
def yX20_has : MethodName := ⟨RX20, "has", "(I)Z"⟩
abbrev cX20_segment : ByteArray := prog_14_method_112_code
def yX20_segment : MethodName := ⟨RX20, "segment", "(II[III)V"⟩
abbrev cX20_openOfServer : ByteArray := prog_14_method_113_code
def yX20_openOfServer : MethodName := ⟨RX20, "openOfServer", "()I"⟩
abbrev cX20_comesToNone : ByteArray := prog_14_method_114_code
def yX20_comesToNone : MethodName := ⟨RX20, "comesToNone", "(IIIII)V"⟩
abbrev cX20_beginner : ByteArray := prog_14_method_115_code
def yX20_beginner : MethodName := ⟨RX20, "beginner", "(LLanternserverModel$Line;)I"⟩
abbrev cX20_comes : ByteArray := prog_14_method_116_code
def yX20_comes : MethodName := ⟨RX20, "comes", "(LLanternserverModel$Line;I)V"⟩
abbrev cX20_establishes : ByteArray := prog_14_method_117_code
def yX20_establishes : MethodName := ⟨RX20, "establishes", "(LLanternserverModel$Line;)V"⟩
abbrev cX20_answers : ByteArray := prog_14_method_118_code
def yX20_answers : MethodName := ⟨RX20, "answers", "(LLanternserverModel$Line;I)V"⟩
abbrev cX20_answerer : ByteArray := prog_14_method_119_code
def yX20_answerer : MethodName := ⟨RX20, "answerer", "(LLanternserverModel$Line;)I"⟩
abbrev cX20_isAcknowledged : ByteArray := prog_14_method_120_code
def yX20_isAcknowledged : MethodName := ⟨RX20, "isAcknowledged", "(LLanternserverModel$Line;)Z"⟩
abbrev cX20_grows : ByteArray := prog_14_method_121_code
def yX20_grows : MethodName := ⟨RX20, "grows", "(LLanternserverModel$Line;)V"⟩
abbrev cX20_measures : ByteArray := prog_14_method_122_code
def yX20_measures : MethodName := ⟨RX20, "measures", "(LLanternserverModel$Line;)V"⟩
abbrev cX20_isFinGone : ByteArray := prog_14_method_123_code
def yX20_isFinGone : MethodName := ⟨RX20, "isFinGone", "(LLanternserverModel$Line;)Z"⟩
abbrev cX20_takesBytes : ByteArray := prog_14_method_124_code
def yX20_takesBytes : MethodName := ⟨RX20, "takesBytes", "(LLanternserverModel$Line;)V"⟩
abbrev cX20_keeps_ : ByteArray := prog_14_method_125_code
def yX20_keeps_ : MethodName := ⟨RX20, "keeps", "(LLanternserverModel$Line;I)V"⟩
abbrev cX20_putsInOrder : ByteArray := prog_14_method_126_code
def yX20_putsInOrder : MethodName := ⟨RX20, "putsInOrder", "(LLanternserverModel$Line;)V"⟩
abbrev cX20_finComes : ByteArray := prog_14_method_127_code
def yX20_finComes : MethodName := ⟨RX20, "finComes", "(LLanternserverModel$Line;)V"⟩
abbrev cX20_isToRead : ByteArray := prog_14_method_128_code
def yX20_isToRead : MethodName := ⟨RX20, "isToRead", "(I)I"⟩
abbrev cX20_reads : ByteArray := prog_14_method_129_code
def yX20_reads : MethodName := ⟨RX20, "reads", "(LLanternserverModel$Line;I)V"⟩
abbrev cX20_takes_ : ByteArray := prog_14_method_130_code
def yX20_takes_ : MethodName := ⟨RX20, "takes", "(I)I"⟩
abbrev cX20_hasEnded : ByteArray := prog_14_method_131_code
def yX20_hasEnded : MethodName := ⟨RX20, "hasEnded", "(I)Z"⟩
abbrev cX20_room : ByteArray := prog_14_method_132_code
def yX20_room : MethodName := ⟨RX20, "room", "(I)I"⟩
abbrev cX20_writes : ByteArray := prog_14_method_133_code
def yX20_writes : MethodName := ⟨RX20, "writes", "(II)V"⟩
abbrev cX20_isOpen : ByteArray := prog_14_method_134_code
def yX20_isOpen : MethodName := ⟨RX20, "isOpen", "(I)Z"⟩
abbrev cX20_closes : ByteArray := prog_14_method_135_code
def yX20_closes : MethodName := ⟨RX20, "closes", "(I)V"⟩
abbrev cX20_aborts : ByteArray := prog_14_method_136_code
def yX20_aborts : MethodName := ⟨RX20, "aborts", "(LLanternserverModel$Line;)V"⟩
abbrev cX20_hostOfLine : ByteArray := prog_14_method_137_code
def yX20_hostOfLine : MethodName := ⟨RX20, "hostOfLine", "(I)I"⟩
abbrev cX20_writtenMany : ByteArray := prog_14_method_138_code
def yX20_writtenMany : MethodName := ⟨RX20, "writtenMany", "(I)I"⟩
abbrev cX20_writtenAt : ByteArray := prog_14_method_139_code
def yX20_writtenAt : MethodName := ⟨RX20, "writtenAt", "(II)I"⟩
abbrev cX20_readMany : ByteArray := prog_14_method_140_code
def yX20_readMany : MethodName := ⟨RX20, "readMany", "(I)I"⟩
abbrev cX20_readByte : ByteArray := prog_14_method_141_code
def yX20_readByte : MethodName := ⟨RX20, "readByte", "(II)I"⟩
abbrev cX20_otherEnd : ByteArray := prog_14_method_142_code
def yX20_otherEnd : MethodName := ⟨RX20, "otherEnd", "(I)I"⟩
abbrev cX20_isHost : ByteArray := prog_14_method_143_code
def yX20_isHost : MethodName := ⟨RX20, "isHost", "(I)Z"⟩
abbrev cX20_connect : ByteArray := prog_14_method_144_code
def yX20_connect : MethodName := ⟨RX20, "connect", "(III)I"⟩
abbrev cX20_canWrite : ByteArray := prog_14_method_145_code
def yX20_canWrite : MethodName := ⟨RX20, "canWrite", "(LLanternserverModel$Line;)Z"⟩
abbrev cX20_write : ByteArray := prog_14_method_146_code
def yX20_write : MethodName := ⟨RX20, "write", "(I)I"⟩
abbrev cX20_read : ByteArray := prog_14_method_147_code
def yX20_read : MethodName := ⟨RX20, "read", "(II)I"⟩
abbrev cX20_readAt : ByteArray := prog_14_method_148_code
def yX20_readAt : MethodName := ⟨RX20, "readAt", "(II)I"⟩
abbrev cX20_close : ByteArray := prog_14_method_149_code
def yX20_close : MethodName := ⟨RX20, "close", "(IZ)I"⟩
abbrev cX20_connectionAt : ByteArray := prog_14_method_150_code
def yX20_connectionAt : MethodName := ⟨RX20, "connectionAt", "(II)I"⟩
abbrev cX20_countOfLines : ByteArray := prog_14_method_151_code
def yX20_countOfLines : MethodName := ⟨RX20, "countOfLines", "(I)I"⟩
abbrev cX20_lineErrors : ByteArray := prog_14_method_152_code
def yX20_lineErrors : MethodName := ⟨RX20, "lineErrors", "()I"⟩
abbrev cX20_textLong : ByteArray := prog_14_method_153_code
def yX20_textLong : MethodName := ⟨RX20, "textLong", "(I)I"⟩
abbrev cX20_textAt : ByteArray := prog_14_method_154_code
def yX20_textAt : MethodName := ⟨RX20, "textAt", "(II)I"⟩
abbrev cX20_beginsRequest : ByteArray := prog_14_method_155_code
def yX20_beginsRequest : MethodName := ⟨RX20, "beginsRequest", "(I)V"⟩
abbrev cX20_isGreat : ByteArray := prog_14_method_156_code
def yX20_isGreat : MethodName := ⟨RX20, "isGreat", "(I)Z"⟩
abbrev cX20_isSmall : ByteArray := prog_14_method_157_code
def yX20_isSmall : MethodName := ⟨RX20, "isSmall", "(I)Z"⟩
abbrev cX20_small : ByteArray := prog_14_method_158_code
def yX20_small : MethodName := ⟨RX20, "small", "(I)I"⟩
abbrev cX20_fitting : ByteArray := prog_14_method_159_code
def yX20_fitting : MethodName := ⟨RX20, "fitting", "(IIII)I"⟩
abbrev cX20_through : ByteArray := prog_14_method_160_code
def yX20_through : MethodName := ⟨RX20, "through", "(III)I"⟩
abbrev cX20_nextWord : ByteArray := prog_14_method_161_code
def yX20_nextWord : MethodName := ⟨RX20, "nextWord", "(III)V"⟩
abbrev cX20_looksAt : ByteArray := prog_14_method_162_code
def yX20_looksAt : MethodName := ⟨RX20, "looksAt", "(II)I"⟩
abbrev cX20_looksInLine : ByteArray := prog_14_method_163_code
def yX20_looksInLine : MethodName := ⟨RX20, "looksInLine", "(II)I"⟩
abbrev cX20_stands : ByteArray := prog_14_method_164_code
def yX20_stands : MethodName := ⟨RX20, "stands", "(II)Z"⟩
abbrev cX20_takesMethod : ByteArray := prog_14_method_165_code
def yX20_takesMethod : MethodName := ⟨RX20, "takesMethod", "(II)V"⟩
abbrev cX20_takesTarget : ByteArray := prog_14_method_166_code
def yX20_takesTarget : MethodName := ⟨RX20, "takesTarget", "(II)V"⟩
abbrev cX20_takesVersion : ByteArray := prog_14_method_167_code
def yX20_takesVersion : MethodName := ⟨RX20, "takesVersion", "(II)V"⟩
abbrev cX20_looksAtLine : ByteArray := prog_14_method_168_code
def yX20_looksAtLine : MethodName := ⟨RX20, "looksAtLine", "(II)I"⟩
abbrev cX20_takesName : ByteArray := prog_14_method_169_code
def yX20_takesName : MethodName := ⟨RX20, "takesName", "(II)V"⟩
abbrev cX20_takesValue : ByteArray := prog_14_method_170_code
def yX20_takesValue : MethodName := ⟨RX20, "takesValue", "(II)V"⟩
abbrev cX20_valueAt : ByteArray := prog_14_method_171_code
def yX20_valueAt : MethodName := ⟨RX20, "valueAt", "(II)I"⟩
abbrev cX20_isValue : ByteArray := prog_14_method_172_code
def yX20_isValue : MethodName := ⟨RX20, "isValue", "(II)Z"⟩
abbrev cX20_endsLine : ByteArray := prog_14_method_173_code
def yX20_endsLine : MethodName := ⟨RX20, "endsLine", "(I)V"⟩
abbrev cX20_number_ : ByteArray := prog_14_method_174_code
def yX20_number_ : MethodName := ⟨RX20, "number", "(II)I"⟩
abbrev cX20_tellsLength : ByteArray := prog_14_method_175_code
def yX20_tellsLength : MethodName := ⟨RX20, "tellsLength", "(I)V"⟩
abbrev cX20_tagOf : ByteArray := prog_14_method_176_code
def yX20_tagOf : MethodName := ⟨RX20, "tagOf", "(I)I"⟩
abbrev cX20_tellsRange : ByteArray := prog_14_method_177_code
def yX20_tellsRange : MethodName := ⟨RX20, "tellsRange", "(I)V"⟩
abbrev cX20_endsHead : ByteArray := prog_14_method_178_code
def yX20_endsHead : MethodName := ⟨RX20, "endsHead", "(I)I"⟩
abbrev cX20_takesBody : ByteArray := prog_14_method_179_code
def yX20_takesBody : MethodName := ⟨RX20, "takesBody", "(II)V"⟩
abbrev cX20_hexadecimal : ByteArray := prog_14_method_180_code
def yX20_hexadecimal : MethodName := ⟨RX20, "hexadecimal", "(I)I"⟩
abbrev cX20_goesTo : ByteArray := prog_14_method_181_code
def yX20_goesTo : MethodName := ⟨RX20, "goesTo", "(II)I"⟩
abbrev cX20_looksInChunks : ByteArray := prog_14_method_182_code
def yX20_looksInChunks : MethodName := ⟨RX20, "looksInChunks", "(II)I"⟩
abbrev cX20_looksAtSize : ByteArray := prog_14_method_183_code
def yX20_looksAtSize : MethodName := ⟨RX20, "looksAtSize", "(II)I"⟩
abbrev cX20_targetAt : ByteArray := prog_14_method_184_code
def yX20_targetAt : MethodName := ⟨RX20, "targetAt", "(II)I"⟩
abbrev cX20_targetKind : ByteArray := prog_14_method_185_code
def yX20_targetKind : MethodName := ⟨RX20, "targetKind", "(I)I"⟩
abbrev cX20_compares : ByteArray := prog_14_method_186_code
def yX20_compares : MethodName := ⟨RX20, "compares", "(II)I"⟩
abbrev cX20_fileOf : ByteArray := prog_14_method_187_code
def yX20_fileOf : MethodName := ⟨RX20, "fileOf", "(II)I"⟩
abbrev cX20_copiesFile : ByteArray := prog_14_method_188_code
def yX20_copiesFile : MethodName := ⟨RX20, "copiesFile", "(II)V"⟩
abbrev cX20_newFile : ByteArray := prog_14_method_189_code
def yX20_newFile : MethodName := ⟨RX20, "newFile", "(II)I"⟩
abbrev cX20_dropsFile : ByteArray := prog_14_method_190_code
def yX20_dropsFile : MethodName := ⟨RX20, "dropsFile", "(II)V"⟩
abbrev cX20_putsBody : ByteArray := prog_14_method_191_code
def yX20_putsBody : MethodName := ⟨RX20, "putsBody", "(III)V"⟩
abbrev cX20_fitsTag : ByteArray := prog_14_method_192_code
def yX20_fitsTag : MethodName := ⟨RX20, "fitsTag", "(II)Z"⟩
abbrev cX20_isRefused : ByteArray := prog_14_method_193_code
def yX20_isRefused : MethodName := ⟨RX20, "isRefused", "(II)Z"⟩
abbrev cX20_isDone : ByteArray := prog_14_method_194_code
def yX20_isDone : MethodName := ⟨RX20, "isDone", "(II)I"⟩
abbrev cX20_isPut : ByteArray := prog_14_method_195_code
def yX20_isPut : MethodName := ⟨RX20, "isPut", "(III)I"⟩
abbrev cX20_range : ByteArray := prog_14_method_196_code
def yX20_range : MethodName := ⟨RX20, "range", "(II)I"⟩
abbrev cX20_grown : ByteArray := prog_14_method_197_code
def yX20_grown : MethodName := ⟨RX20, "grown", "([I)[I"⟩
abbrev cX20_says : ByteArray := prog_14_method_198_code
def yX20_says : MethodName := ⟨RX20, "says", "(I)V"⟩
abbrev cX20_saysText : ByteArray := prog_14_method_199_code
def yX20_saysText : MethodName := ⟨RX20, "saysText", "(I)V"⟩
abbrev cX20_saysNumber : ByteArray := prog_14_method_200_code
def yX20_saysNumber : MethodName := ⟨RX20, "saysNumber", "(I)V"⟩
abbrev cX20_saysLineEnd : ByteArray := prog_14_method_201_code
def yX20_saysLineEnd : MethodName := ⟨RX20, "saysLineEnd", "()V"⟩
abbrev cX20_wordOf : ByteArray := prog_14_method_202_code
def yX20_wordOf : MethodName := ⟨RX20, "wordOf", "(I)I"⟩
abbrev cX20_listLong : ByteArray := prog_14_method_203_code
def yX20_listLong : MethodName := ⟨RX20, "listLong", "(I)I"⟩
abbrev cX20_answers_ : ByteArray := prog_14_method_204_code
def yX20_answers_ : MethodName := ⟨RX20, "answers", "(IIIZZ)V"⟩
abbrev cX20_saysPart : ByteArray := prog_14_method_205_code
def yX20_saysPart : MethodName := ⟨RX20, "saysPart", "(I)V"⟩
abbrev cX20_saysList : ByteArray := prog_14_method_206_code
def yX20_saysList : MethodName := ⟨RX20, "saysList", "(I)V"⟩
abbrev cX20_does : ByteArray := prog_14_method_207_code
def yX20_does : MethodName := ⟨RX20, "does", "(III)I"⟩
abbrev cX20_isLast : ByteArray := prog_14_method_208_code
def yX20_isLast : MethodName := ⟨RX20, "isLast", "(IZ)Z"⟩
abbrev cX20_serves : ByteArray := prog_14_method_209_code
def yX20_serves : MethodName := ⟨RX20, "serves", "(I)V"⟩
abbrev cX20_writesOn : ByteArray := prog_14_method_210_code
def yX20_writesOn : MethodName := ⟨RX20, "writesOn", "(I)V"⟩
abbrev cX20_servesOne : ByteArray := prog_14_method_211_code
def yX20_servesOne : MethodName := ⟨RX20, "servesOne", "(II)V"⟩
abbrev cX20_fileAt : ByteArray := prog_14_method_212_code
def yX20_fileAt : MethodName := ⟨RX20, "fileAt", "(II)I"⟩
abbrev cX20_fileByteAt : ByteArray := prog_14_method_213_code
def yX20_fileByteAt : MethodName := ⟨RX20, "fileByteAt", "(IZI)I"⟩
abbrev cX20_servedAt : ByteArray := prog_14_method_214_code
def yX20_servedAt : MethodName := ⟨RX20, "servedAt", "(II)I"⟩
abbrev cX20_answerAt : ByteArray := prog_14_method_215_code
def yX20_answerAt : MethodName := ⟨RX20, "answerAt", "(II)I"⟩
abbrev cX20_servedWell : ByteArray := prog_14_method_216_code
def yX20_servedWell : MethodName := ⟨RX20, "servedWell", "()I"⟩
abbrev cX20_count : ByteArray := prog_14_method_217_code
def yX20_count : MethodName := ⟨RX20, "count", "(I)I"⟩
abbrev cX20_isSameRequest : ByteArray := prog_14_method_218_code
def yX20_isSameRequest : MethodName := ⟨RX20, "isSameRequest", "(I)Z"⟩
abbrev cX20_isReadAsAnswered : ByteArray := prog_14_method_219_code
def yX20_isReadAsAnswered : MethodName := ⟨RX20, "isReadAsAnswered", "(II)Z"⟩
abbrev cX20_areFilesAlike : ByteArray := prog_14_method_220_code
def yX20_areFilesAlike : MethodName := ⟨RX20, "areFilesAlike", "()Z"⟩
abbrev cX20_agrees : ByteArray := prog_14_method_221_code
def yX20_agrees : MethodName := ⟨RX20, "agrees", "()Z"⟩
abbrev cX20_errors : ByteArray := prog_14_method_222_code
def yX20_errors : MethodName := ⟨RX20, "errors", "()I"⟩
abbrev cX20_deliveredShare : ByteArray := prog_14_method_223_code
def yX20_deliveredShare : MethodName := ⟨RX20, "deliveredShare", "()D"⟩
abbrev cX20_meanAnswer : ByteArray := prog_14_method_224_code
def yX20_meanAnswer : MethodName := ⟨RX20, "meanAnswer", "()F"⟩
def RJx145de : String := "java/io/Serializable"
def TJx145de : u_T := fun k => match k with
  | _ => ("", "", "", false)
def tyJx145de : Nat → FieldType := fun k => match k with
  | _ => .int
theorem nmJx145de : ∀ a, a < 0 → ∀ b, b < 0 → a ≠ b → (TJx145de a).2.1 ≠ (TJx145de b).2.1 := by decide +kernel
theorem tyJx145de_ok : ∀ k, k < 0 → parseFieldDescriptor (TJx145de k).2.2.1 = some (tyJx145de k) := by decide +kernel
def RJ5 : String := "java/lang/AbstractStringBuilder"
def TJ5 : u_T := fun k => match k with
  | _ => ("", "", "", false)
def tyJ5 : Nat → FieldType := fun k => match k with
  | _ => .int
theorem nmJ5 : ∀ a, a < 0 → ∀ b, b < 0 → a ≠ b → (TJ5 a).2.1 ≠ (TJ5 b).2.1 := by decide +kernel
theorem tyJ5_ok : ∀ k, k < 0 → parseFieldDescriptor (TJ5 k).2.2.1 = some (tyJ5 k) := by decide +kernel
abbrev cJ5_init_d00df : ByteArray := prog_24_method_2_code
def yJ5_init_d00df : MethodName := ⟨RJ5, "<init>", "(I)V"⟩
abbrev cJ5_length_8abf5 : ByteArray := prog_24_method_6_code
def yJ5_length_8abf5 : MethodName := ⟨RJ5, "length", "()I"⟩
abbrev cJ5_ensureCapacityInternal_d00df : ByteArray := prog_24_method_9_code
def yJ5_ensureCapacityInternal_d00df : MethodName := ⟨RJ5, "ensureCapacityInternal", "(I)V"⟩
abbrev cJ5_newCapacity_0f7a4 : ByteArray := prog_24_method_10_code
def yJ5_newCapacity_0f7a4 : MethodName := ⟨RJ5, "newCapacity", "(I)I"⟩
abbrev cJ5_inflate_da8c8 : ByteArray := prog_24_method_11_code
def yJ5_inflate_da8c8 : MethodName := ⟨RJ5, "inflate", "()V"⟩
abbrev cJ5_append_cf1ce : ByteArray := prog_24_method_22_code
def yJ5_append_cf1ce : MethodName := ⟨RJ5, "append", "(Ljava/lang/String;)Ljava/lang/AbstractStringBuilder;"⟩
abbrev cJ5_appendNull_278bc : ByteArray := prog_24_method_26_code
def yJ5_appendNull_278bc : MethodName := ⟨RJ5, "appendNull", "()Ljava/lang/AbstractStringBuilder;"⟩
abbrev cJ5_append_c97b9 : ByteArray := prog_24_method_32_code
def yJ5_append_c97b9 : MethodName := ⟨RJ5, "append", "(I)Ljava/lang/AbstractStringBuilder;"⟩
abbrev cJ5_getValue_6d5f1 : ByteArray := prog_24_method_64_code
def yJ5_getValue_6d5f1 : MethodName := ⟨RJ5, "getValue", "()[B"⟩
abbrev cJ5_isLatin1_aae02 : ByteArray := prog_24_method_68_code
def yJ5_isLatin1_aae02 : MethodName := ⟨RJ5, "isLatin1", "()Z"⟩
abbrev cJ5_inflateIfNeededFor_a7421 : ByteArray := prog_24_method_71_code
def yJ5_inflateIfNeededFor_a7421 : MethodName := ⟨RJ5, "inflateIfNeededFor", "(Ljava/lang/String;)V"⟩
abbrev cJ5_putStringAt_47b60 : ByteArray := prog_24_method_73_code
def yJ5_putStringAt_47b60 : MethodName := ⟨RJ5, "putStringAt", "(ILjava/lang/String;)V"⟩
def RJx2cfe8 : String := "java/lang/Appendable"
def TJx2cfe8 : u_T := fun k => match k with
  | _ => ("", "", "", false)
def tyJx2cfe8 : Nat → FieldType := fun k => match k with
  | _ => .int
theorem nmJx2cfe8 : ∀ a, a < 0 → ∀ b, b < 0 → a ≠ b → (TJx2cfe8 a).2.1 ≠ (TJx2cfe8 b).2.1 := by decide +kernel
theorem tyJx2cfe8_ok : ∀ k, k < 0 → parseFieldDescriptor (TJx2cfe8 k).2.2.1 = some (tyJx2cfe8 k) := by decide +kernel
def RJx00060 : String := "java/lang/ArrayIndexOutOfBoundsException"
def TJx00060 : u_T := fun k => match k with
  | 0 => ("java/lang/Throwable", "cause", "Ljava/lang/Throwable;", false)
  | 1 => ("java/lang/Throwable", "stackTrace", "[Ljava/lang/StackTraceElement;", false)
  | 2 => ("java/lang/Throwable", "suppressedExceptions", "Ljava/util/List;", false)
  | 3 => ("java/lang/Throwable", "detailMessage", "Ljava/lang/String;", false)
  | 4 => ("java/lang/Throwable", "backtrace", "Ljava/lang/Object;", false)
  | _ => ("java/lang/Throwable", "depth", "I", false)
def tyJx00060 : Nat → FieldType := fun k => match k with
  | 0 => .object "java/lang/Throwable"
  | 1 => .array (.object "java/lang/StackTraceElement")
  | 2 => .object "java/util/List"
  | 3 => .object "java/lang/String"
  | 4 => .object "java/lang/Object"
  | _ => .int
theorem nmJx00060 : ∀ a, a < 6 → ∀ b, b < 6 → a ≠ b → (TJx00060 a).2.1 ≠ (TJx00060 b).2.1 := by decide +kernel
theorem tyJx00060_ok : ∀ k, k < 6 → parseFieldDescriptor (TJx00060 k).2.2.1 = some (tyJx00060 k) := by decide +kernel
abbrev cJx00060_init_d00df : ByteArray := prog_26_method_3_code
def yJx00060_init_d00df : MethodName := ⟨RJx00060, "<init>", "(I)V"⟩
def RJx9f9b0 : String := "java/lang/CharSequence"
def TJx9f9b0 : u_T := fun k => match k with
  | _ => ("", "", "", false)
def tyJx9f9b0 : Nat → FieldType := fun k => match k with
  | _ => .int
theorem nmJx9f9b0 : ∀ a, a < 0 → ∀ b, b < 0 → a ≠ b → (TJx9f9b0 a).2.1 ≠ (TJx9f9b0 b).2.1 := by decide +kernel
theorem tyJx9f9b0_ok : ∀ k, k < 0 → parseFieldDescriptor (TJx9f9b0 k).2.2.1 = some (tyJx9f9b0 k) := by decide +kernel
def RJx8e188 : String := "java/lang/Cloneable"
def TJx8e188 : u_T := fun k => match k with
  | _ => ("", "", "", false)
def tyJx8e188 : Nat → FieldType := fun k => match k with
  | _ => .int
theorem nmJx8e188 : ∀ a, a < 0 → ∀ b, b < 0 → a ≠ b → (TJx8e188 a).2.1 ≠ (TJx8e188 b).2.1 := by decide +kernel
theorem tyJx8e188_ok : ∀ k, k < 0 → parseFieldDescriptor (TJx8e188 k).2.2.1 = some (tyJx8e188 k) := by decide +kernel
def RJxb160c : String := "java/lang/Comparable"
def TJxb160c : u_T := fun k => match k with
  | _ => ("", "", "", false)
def tyJxb160c : Nat → FieldType := fun k => match k with
  | _ => .int
theorem nmJxb160c : ∀ a, a < 0 → ∀ b, b < 0 → a ≠ b → (TJxb160c a).2.1 ≠ (TJxb160c b).2.1 := by decide +kernel
theorem tyJxb160c_ok : ∀ k, k < 0 → parseFieldDescriptor (TJxb160c k).2.2.1 = some (tyJxb160c k) := by decide +kernel
def RJ6 : String := "java/lang/Integer"
def TJ6 : u_T := fun k => match k with
  | _ => ("", "", "", false)
def tyJ6 : Nat → FieldType := fun k => match k with
  | _ => .int
theorem nmJ6 : ∀ a, a < 0 → ∀ b, b < 0 → a ≠ b → (TJ6 a).2.1 ≠ (TJ6 b).2.1 := by decide +kernel
theorem tyJ6_ok : ∀ k, k < 0 → parseFieldDescriptor (TJ6 k).2.2.1 = some (tyJ6 k) := by decide +kernel
abbrev cJ6_getChars_ba4f3 : ByteArray := prog_34_method_12_code
def yJ6_getChars_ba4f3 : MethodName := ⟨RJ6, "getChars", "(II[B)I"⟩
abbrev cJ6_stringSize_0f7a4 : ByteArray := prog_34_method_13_code
def yJ6_stringSize_0f7a4 : MethodName := ⟨RJ6, "stringSize", "(I)I"⟩
def RJxab1ab : String := "java/lang/Iterable"
def TJxab1ab : u_T := fun k => match k with
  | _ => ("", "", "", false)
def tyJxab1ab : Nat → FieldType := fun k => match k with
  | _ => .int
theorem nmJxab1ab : ∀ a, a < 0 → ∀ b, b < 0 → a ≠ b → (TJxab1ab a).2.1 ≠ (TJxab1ab b).2.1 := by decide +kernel
theorem tyJxab1ab_ok : ∀ k, k < 0 → parseFieldDescriptor (TJxab1ab k).2.2.1 = some (tyJxab1ab k) := by decide +kernel
def RJ9 : String := "java/lang/Math"
def TJ9 : u_T := fun k => match k with
  | _ => ("", "", "", false)
def tyJ9 : Nat → FieldType := fun k => match k with
  | _ => .int
theorem nmJ9 : ∀ a, a < 0 → ∀ b, b < 0 → a ≠ b → (TJ9 a).2.1 ≠ (TJ9 b).2.1 := by decide +kernel
theorem tyJ9_ok : ∀ k, k < 0 → parseFieldDescriptor (TJ9 k).2.2.1 = some (tyJ9 k) := by decide +kernel
abbrev cJ9_abs_0f7a4 : ByteArray := prog_36_method_59_code
def yJ9_abs_0f7a4 : MethodName := ⟨RJ9, "abs", "(I)I"⟩
abbrev cJ9_max_7cf53 : ByteArray := prog_36_method_65_code
def yJ9_max_7cf53 : MethodName := ⟨RJ9, "max", "(II)I"⟩
abbrev cJ9_min_7cf53 : ByteArray := prog_36_method_69_code
def yJ9_min_7cf53 : MethodName := ⟨RJ9, "min", "(II)I"⟩
def RJxd2413 : String := "java/lang/Number"
def TJxd2413 : u_T := fun k => match k with
  | _ => ("", "", "", false)
def tyJxd2413 : Nat → FieldType := fun k => match k with
  | _ => .int
theorem nmJxd2413 : ∀ a, a < 0 → ∀ b, b < 0 → a ≠ b → (TJxd2413 a).2.1 ≠ (TJxd2413 b).2.1 := by decide +kernel
theorem tyJxd2413_ok : ∀ k, k < 0 → parseFieldDescriptor (TJxd2413 k).2.2.1 = some (tyJxd2413 k) := by decide +kernel
def RJ0 : String := "java/lang/String"
def TJ0 : u_T := fun k => match k with
  | 0 => ("java/lang/String", "value", "[B", true)
  | 1 => ("java/lang/String", "coder", "B", true)
  | 2 => ("java/lang/String", "hash", "I", false)
  | _ => ("java/lang/String", "hashIsZero", "Z", false)
def tyJ0 : Nat → FieldType := fun k => match k with
  | 0 => .array .byte
  | 1 => .byte
  | 2 => .int
  | _ => .boolean
theorem nmJ0 : ∀ a, a < 4 → ∀ b, b < 4 → a ≠ b → (TJ0 a).2.1 ≠ (TJ0 b).2.1 := by decide +kernel
theorem tyJ0_ok : ∀ k, k < 4 → parseFieldDescriptor (TJ0 k).2.2.1 = some (tyJ0 k) := by decide +kernel
abbrev cJ0_init_81219 : ByteArray := prog_39_method_53_code
def yJ0_init_81219 : MethodName := ⟨RJ0, "<init>", "(Ljava/lang/StringBuilder;)V"⟩
abbrev cJ0_length_8abf5 : ByteArray := prog_39_method_54_code
def yJ0_length_8abf5 : MethodName := ⟨RJ0, "length", "()I"⟩
abbrev cJ0_charAt_5068e : ByteArray := prog_39_method_56_code
def yJ0_charAt_5068e : MethodName := ⟨RJ0, "charAt", "(I)C"⟩
abbrev cJ0_getBytes_840e7 : ByteArray := prog_39_method_147_code
def yJ0_getBytes_840e7 : MethodName := ⟨RJ0, "getBytes", "([BIB)V"⟩
abbrev cJ0_init_db425 : ByteArray := prog_39_method_150_code
def yJ0_init_db425 : MethodName := ⟨RJ0, "<init>", "(Ljava/lang/AbstractStringBuilder;Ljava/lang/Void;)V"⟩
abbrev cJ0_coder_7d493 : ByteArray := prog_39_method_152_code
def yJ0_coder_7d493 : MethodName := ⟨RJ0, "coder", "()B"⟩
abbrev cJ0_isLatin1_aae02 : ByteArray := prog_39_method_154_code
def yJ0_isLatin1_aae02 : MethodName := ⟨RJ0, "isLatin1", "()Z"⟩
abbrev cJ0_checkIndex_df160 : ByteArray := prog_39_method_155_code
def yJ0_checkIndex_df160 : MethodName := ⟨RJ0, "checkIndex", "(II)V"⟩
abbrev cJ0_checkBoundsOffCount_cabcc : ByteArray := prog_39_method_157_code
def yJ0_checkBoundsOffCount_cabcc : MethodName := ⟨RJ0, "checkBoundsOffCount", "(III)I"⟩
abbrev cJ0_checkBoundsBeginEnd_23922 : ByteArray := prog_39_method_158_code
def yJ0_checkBoundsBeginEnd_23922 : MethodName := ⟨RJ0, "checkBoundsBeginEnd", "(III)V"⟩
def RJ4 : String := "java/lang/StringBuilder"
def TJ4 : u_T := fun k => match k with
  | 0 => ("java/lang/AbstractStringBuilder", "value", "[B", false)
  | 1 => ("java/lang/AbstractStringBuilder", "coder", "B", false)
  | 2 => ("java/lang/AbstractStringBuilder", "maybeLatin1", "Z", false)
  | _ => ("java/lang/AbstractStringBuilder", "count", "I", false)
def tyJ4 : Nat → FieldType := fun k => match k with
  | 0 => .array .byte
  | 1 => .byte
  | 2 => .boolean
  | _ => .int
theorem nmJ4 : ∀ a, a < 4 → ∀ b, b < 4 → a ≠ b → (TJ4 a).2.1 ≠ (TJ4 b).2.1 := by decide +kernel
theorem tyJ4_ok : ∀ k, k < 4 → parseFieldDescriptor (TJ4 k).2.2.1 = some (tyJ4 k) := by decide +kernel
abbrev cJ4_init_da8c8 : ByteArray := prog_40_method_1_code
def yJ4_init_da8c8 : MethodName := ⟨RJ4, "<init>", "()V"⟩
abbrev cJ4_append_15ec4 : ByteArray := prog_40_method_7_code
def yJ4_append_15ec4 : MethodName := ⟨RJ4, "append", "(Ljava/lang/String;)Ljava/lang/StringBuilder;"⟩
abbrev cJ4_append_bf812 : ByteArray := prog_40_method_15_code
def yJ4_append_bf812 : MethodName := ⟨RJ4, "append", "(I)Ljava/lang/StringBuilder;"⟩
abbrev cJ4_toString_0e30d : ByteArray := prog_40_method_42_code
def yJ4_toString_0e30d : MethodName := ⟨RJ4, "toString", "()Ljava/lang/String;"⟩
abbrev cJ4_length_8abf5 : ByteArray := prog_40_method_93_code
def yJ4_length_8abf5 : MethodName := ⟨RJ4, "length", "()I"⟩
def RJ1 : String := "java/lang/StringLatin1"
def TJ1 : u_T := fun k => match k with
  | _ => ("", "", "", false)
def tyJ1 : Nat → FieldType := fun k => match k with
  | _ => .int
theorem nmJ1 : ∀ a, a < 0 → ∀ b, b < 0 → a ≠ b → (TJ1 a).2.1 ≠ (TJ1 b).2.1 := by decide +kernel
theorem tyJ1_ok : ∀ k, k < 0 → parseFieldDescriptor (TJ1 k).2.2.1 = some (tyJ1 k) := by decide +kernel
abbrev cJ1_charAt_3b067 : ByteArray := prog_41_method_2_code
def yJ1_charAt_3b067 : MethodName := ⟨RJ1, "charAt", "([BI)C"⟩
abbrev cJ1_inflate_0e8fd : ByteArray := prog_41_method_50_code
def yJ1_inflate_0e8fd : MethodName := ⟨RJ1, "inflate", "([BI[BII)V"⟩
def RJ2 : String := "java/lang/StringUTF16"
def TJ2 : u_T := fun k => match k with
  | _ => ("", "", "", false)
def tyJ2 : Nat → FieldType := fun k => match k with
  | _ => .int
theorem nmJ2 : ∀ a, a < 0 → ∀ b, b < 0 → a ≠ b → (TJ2 a).2.1 ≠ (TJ2 b).2.1 := by decide +kernel
theorem tyJ2_ok : ∀ k, k < 0 → parseFieldDescriptor (TJ2 k).2.2.1 = some (tyJ2 k) := by decide +kernel
abbrev cJ2_newBytesFor_77867 : ByteArray := prog_42_method_2_code
def yJ2_newBytesFor_77867 : MethodName := ⟨RJ2, "newBytesFor", "(I)[B"⟩
abbrev cJ2_newBytesLength_0f7a4 : ByteArray := prog_42_method_3_code
def yJ2_newBytesLength_0f7a4 : MethodName := ⟨RJ2, "newBytesLength", "(I)I"⟩
abbrev cJ2_putChar_b72d1 : ByteArray := prog_42_method_4_code
def yJ2_putChar_b72d1 : MethodName := ⟨RJ2, "putChar", "([BII)V"⟩
abbrev cJ2_getChar_3b067 : ByteArray := prog_42_method_5_code
def yJ2_getChar_3b067 : MethodName := ⟨RJ2, "getChar", "([BI)C"⟩
abbrev cJ2_length_9d52b : ByteArray := prog_42_method_6_code
def yJ2_length_9d52b : MethodName := ⟨RJ2, "length", "([B)I"⟩
abbrev cJ2_coderFromArrayLen_85cad : ByteArray := prog_42_method_15_code
def yJ2_coderFromArrayLen_85cad : MethodName := ⟨RJ2, "coderFromArrayLen", "([BI)B"⟩
abbrev cJ2_compress_39247 : ByteArray := prog_42_method_17_code
def yJ2_compress_39247 : MethodName := ⟨RJ2, "compress", "([BII)[B"⟩
abbrev cJ2_compress_5af95 : ByteArray := prog_42_method_22_code
def yJ2_compress_5af95 : MethodName := ⟨RJ2, "compress", "([BI[BII)I"⟩
abbrev cJ2_getChars_46870 : ByteArray := prog_42_method_77_code
def yJ2_getChars_46870 : MethodName := ⟨RJ2, "getChars", "(III[B)I"⟩
abbrev cJ2_putCharsAt_cd4e5 : ByteArray := prog_42_method_81_code
def yJ2_putCharsAt_cd4e5 : MethodName := ⟨RJ2, "putCharsAt", "([BICCCC)I"⟩
abbrev cJ2_charAt_3b067 : ByteArray := prog_42_method_83_code
def yJ2_charAt_3b067 : MethodName := ⟨RJ2, "charAt", "([BI)C"⟩
abbrev cJ2_inflate_0e8fd : ByteArray := prog_42_method_86_code
def yJ2_inflate_0e8fd : MethodName := ⟨RJ2, "inflate", "([BI[BII)V"⟩
abbrev cJ2_getChars_ba4f3 : ByteArray := prog_42_method_89_code
def yJ2_getChars_ba4f3 : MethodName := ⟨RJ2, "getChars", "(II[B)I"⟩
abbrev cJ2_checkIndex_2214a : ByteArray := prog_42_method_91_code
def yJ2_checkIndex_2214a : MethodName := ⟨RJ2, "checkIndex", "(I[B)V"⟩
abbrev cJ2_checkBoundsBeginEnd_d044e : ByteArray := prog_42_method_93_code
def yJ2_checkBoundsBeginEnd_d044e : MethodName := ⟨RJ2, "checkBoundsBeginEnd", "(II[B)V"⟩
abbrev cJ2_checkBoundsOffCount_d044e : ByteArray := prog_42_method_94_code
def yJ2_checkBoundsOffCount_d044e : MethodName := ⟨RJ2, "checkBoundsOffCount", "(II[B)V"⟩
def RJ10 : String := "java/lang/System"
def TJ10 : u_T := fun k => match k with
  | _ => ("", "", "", false)
def tyJ10 : Nat → FieldType := fun k => match k with
  | _ => .int
theorem nmJ10 : ∀ a, a < 0 → ∀ b, b < 0 → a ≠ b → (TJ10 a).2.1 ≠ (TJ10 b).2.1 := by decide +kernel
theorem tyJ10_ok : ∀ k, k < 0 → parseFieldDescriptor (TJ10 k).2.2.1 = some (tyJ10 k) := by decide +kernel
def RJxfd54e : String := "java/lang/constant/Constable"
def TJxfd54e : u_T := fun k => match k with
  | _ => ("", "", "", false)
def tyJxfd54e : Nat → FieldType := fun k => match k with
  | _ => .int
theorem nmJxfd54e : ∀ a, a < 0 → ∀ b, b < 0 → a ≠ b → (TJxfd54e a).2.1 ≠ (TJxfd54e b).2.1 := by decide +kernel
theorem tyJxfd54e_ok : ∀ k, k < 0 → parseFieldDescriptor (TJxfd54e k).2.2.1 = some (tyJxfd54e k) := by decide +kernel
def RJx3cf43 : String := "java/lang/constant/ConstantDesc"
def TJx3cf43 : u_T := fun k => match k with
  | _ => ("", "", "", false)
def tyJx3cf43 : Nat → FieldType := fun k => match k with
  | _ => .int
theorem nmJx3cf43 : ∀ a, a < 0 → ∀ b, b < 0 → a ≠ b → (TJx3cf43 a).2.1 ≠ (TJx3cf43 b).2.1 := by decide +kernel
theorem tyJx3cf43_ok : ∀ k, k < 0 → parseFieldDescriptor (TJx3cf43 k).2.2.1 = some (tyJx3cf43 k) := by decide +kernel
def RJxa1e45 : String := "java/util/AbstractCollection"
def TJxa1e45 : u_T := fun k => match k with
  | _ => ("", "", "", false)
def tyJxa1e45 : Nat → FieldType := fun k => match k with
  | _ => .int
theorem nmJxa1e45 : ∀ a, a < 0 → ∀ b, b < 0 → a ≠ b → (TJxa1e45 a).2.1 ≠ (TJxa1e45 b).2.1 := by decide +kernel
theorem tyJxa1e45_ok : ∀ k, k < 0 → parseFieldDescriptor (TJxa1e45 k).2.2.1 = some (tyJxa1e45 k) := by decide +kernel
abbrev cJxa1e45_init_da8c8 : ByteArray := prog_47_method_1_code
def yJxa1e45_init_da8c8 : MethodName := ⟨RJxa1e45, "<init>", "()V"⟩
def RJxc12de : String := "java/util/AbstractList"
def TJxc12de : u_T := fun k => match k with
  | _ => ("", "", "", false)
def tyJxc12de : Nat → FieldType := fun k => match k with
  | _ => .int
theorem nmJxc12de : ∀ a, a < 0 → ∀ b, b < 0 → a ≠ b → (TJxc12de a).2.1 ≠ (TJxc12de b).2.1 := by decide +kernel
theorem tyJxc12de_ok : ∀ k, k < 0 → parseFieldDescriptor (TJxc12de k).2.2.1 = some (tyJxc12de k) := by decide +kernel
abbrev cJxc12de_init_da8c8 : ByteArray := prog_48_method_1_code
def yJxc12de_init_da8c8 : MethodName := ⟨RJxc12de, "<init>", "()V"⟩
def RJx4a65c : String := "java/util/ArrayList"
def TJx4a65c : u_T := fun k => match k with
  | 0 => ("java/util/AbstractList", "modCount", "I", false)
  | 1 => ("java/util/ArrayList", "elementData", "[Ljava/lang/Object;", false)
  | _ => ("java/util/ArrayList", "size", "I", false)
def tyJx4a65c : Nat → FieldType := fun k => match k with
  | 0 => .int
  | 1 => .array (.object "java/lang/Object")
  | _ => .int
theorem nmJx4a65c : ∀ a, a < 3 → ∀ b, b < 3 → a ≠ b → (TJx4a65c a).2.1 ≠ (TJx4a65c b).2.1 := by decide +kernel
theorem tyJx4a65c_ok : ∀ k, k < 3 → parseFieldDescriptor (TJx4a65c k).2.2.1 = some (tyJx4a65c k) := by decide +kernel
abbrev cJx4a65c_init_da8c8 : ByteArray := prog_49_method_2_code
def yJx4a65c_init_da8c8 : MethodName := ⟨RJx4a65c, "<init>", "()V"⟩
abbrev cJx4a65c_grow_92f84 : ByteArray := prog_49_method_6_code
def yJx4a65c_grow_92f84 : MethodName := ⟨RJx4a65c, "grow", "(I)[Ljava/lang/Object;"⟩
abbrev cJx4a65c_grow_d5877 : ByteArray := prog_49_method_7_code
def yJx4a65c_grow_d5877 : MethodName := ⟨RJx4a65c, "grow", "()[Ljava/lang/Object;"⟩
abbrev cJx4a65c_size_8abf5 : ByteArray := prog_49_method_8_code
def yJx4a65c_size_8abf5 : MethodName := ⟨RJx4a65c, "size", "()I"⟩
abbrev cJx4a65c_elementData_915e3 : ByteArray := prog_49_method_18_code
def yJx4a65c_elementData_915e3 : MethodName := ⟨RJx4a65c, "elementData", "(I)Ljava/lang/Object;"⟩
abbrev cJx4a65c_get_915e3 : ByteArray := prog_49_method_20_code
def yJx4a65c_get_915e3 : MethodName := ⟨RJx4a65c, "get", "(I)Ljava/lang/Object;"⟩
abbrev cJx4a65c_add_72be8 : ByteArray := prog_49_method_24_code
def yJx4a65c_add_72be8 : MethodName := ⟨RJx4a65c, "add", "(Ljava/lang/Object;[Ljava/lang/Object;I)V"⟩
abbrev cJx4a65c_add_9ea2d : ByteArray := prog_49_method_25_code
def yJx4a65c_add_9ea2d : MethodName := ⟨RJx4a65c, "add", "(Ljava/lang/Object;)Z"⟩
def RJ7 : String := "java/util/Arrays"
def TJ7 : u_T := fun k => match k with
  | _ => ("", "", "", false)
def tyJ7 : Nat → FieldType := fun k => match k with
  | _ => .int
theorem nmJ7 : ∀ a, a < 0 → ∀ b, b < 0 → a ≠ b → (TJ7 a).2.1 ≠ (TJ7 b).2.1 := by decide +kernel
theorem tyJ7_ok : ∀ k, k < 0 → parseFieldDescriptor (TJ7 k).2.2.1 = some (tyJ7 k) := by decide +kernel
abbrev cJ7_rangeCheck_23922 : ByteArray := prog_50_method_30_code
def yJ7_rangeCheck_23922 : MethodName := ⟨RJ7, "rangeCheck", "(III)V"⟩
abbrev cJ7_fill_fda19 : ByteArray := prog_50_method_104_code
def yJ7_fill_fda19 : MethodName := ⟨RJ7, "fill", "([IIII)V"⟩
abbrev cJ7_copyOf_1904c : ByteArray := prog_50_method_119_code
def yJ7_copyOf_1904c : MethodName := ⟨RJ7, "copyOf", "([Ljava/lang/Object;I)[Ljava/lang/Object;"⟩
abbrev cJ7_copyOf_6403c : ByteArray := prog_50_method_120_code
def yJ7_copyOf_6403c : MethodName := ⟨RJ7, "copyOf", "([Ljava/lang/Object;ILjava/lang/Class;)[Ljava/lang/Object;"⟩
abbrev cJ7_copyOf_9075b : ByteArray := prog_50_method_121_code
def yJ7_copyOf_9075b : MethodName := ⟨RJ7, "copyOf", "([BI)[B"⟩
abbrev cJ7_copyOf_59c91 : ByteArray := prog_50_method_123_code
def yJ7_copyOf_59c91 : MethodName := ⟨RJ7, "copyOf", "([II)[I"⟩
abbrev cJ7_copyOf_c38d5 : ByteArray := prog_50_method_124_code
def yJ7_copyOf_c38d5 : MethodName := ⟨RJ7, "copyOf", "([JI)[J"⟩
abbrev cJ7_checkLength_df160 : ByteArray := prog_50_method_131_code
def yJ7_checkLength_df160 : MethodName := ⟨RJ7, "checkLength", "(II)V"⟩
abbrev cJ7_copyOfRange_39247 : ByteArray := prog_50_method_132_code
def yJ7_copyOfRange_39247 : MethodName := ⟨RJ7, "copyOfRange", "([BII)[B"⟩
abbrev cJ7_copyOfRangeByte_39247 : ByteArray := prog_50_method_133_code
def yJ7_copyOfRangeByte_39247 : MethodName := ⟨RJ7, "copyOfRangeByte", "([BII)[B"⟩
def RJx5ef63 : String := "java/util/Collection"
def TJx5ef63 : u_T := fun k => match k with
  | _ => ("", "", "", false)
def tyJx5ef63 : Nat → FieldType := fun k => match k with
  | _ => .int
theorem nmJx5ef63 : ∀ a, a < 0 → ∀ b, b < 0 → a ≠ b → (TJx5ef63 a).2.1 ≠ (TJx5ef63 b).2.1 := by decide +kernel
theorem tyJx5ef63_ok : ∀ k, k < 0 → parseFieldDescriptor (TJx5ef63 k).2.2.1 = some (tyJx5ef63 k) := by decide +kernel
def RJxbd725 : String := "java/util/List"
def TJxbd725 : u_T := fun k => match k with
  | _ => ("", "", "", false)
def tyJxbd725 : Nat → FieldType := fun k => match k with
  | _ => .int
theorem nmJxbd725 : ∀ a, a < 0 → ∀ b, b < 0 → a ≠ b → (TJxbd725 a).2.1 ≠ (TJxbd725 b).2.1 := by decide +kernel
theorem tyJxbd725_ok : ∀ k, k < 0 → parseFieldDescriptor (TJxbd725 k).2.2.1 = some (tyJxbd725 k) := by decide +kernel
def RJ15 : String := "java/util/Objects"
def TJ15 : u_T := fun k => match k with
  | _ => ("", "", "", false)
def tyJ15 : Nat → FieldType := fun k => match k with
  | _ => .int
theorem nmJ15 : ∀ a, a < 0 → ∀ b, b < 0 → a ≠ b → (TJ15 a).2.1 ≠ (TJ15 b).2.1 := by decide +kernel
theorem tyJ15_ok : ∀ k, k < 0 → parseFieldDescriptor (TJ15 k).2.2.1 = some (tyJ15 k) := by decide +kernel
abbrev cJ15_checkIndex_7cf53 : ByteArray := prog_53_method_17_code
def yJ15_checkIndex_7cf53 : MethodName := ⟨RJ15, "checkIndex", "(II)I"⟩
def RJxf0a74 : String := "java/util/RandomAccess"
def TJxf0a74 : u_T := fun k => match k with
  | _ => ("", "", "", false)
def tyJxf0a74 : Nat → FieldType := fun k => match k with
  | _ => .int
theorem nmJxf0a74 : ∀ a, a < 0 → ∀ b, b < 0 → a ≠ b → (TJxf0a74 a).2.1 ≠ (TJxf0a74 b).2.1 := by decide +kernel
theorem tyJxf0a74_ok : ∀ k, k < 0 → parseFieldDescriptor (TJxf0a74 k).2.2.1 = some (tyJxf0a74 k) := by decide +kernel
def RJxa66e6 : String := "java/util/SequencedCollection"
def TJxa66e6 : u_T := fun k => match k with
  | _ => ("", "", "", false)
def tyJxa66e6 : Nat → FieldType := fun k => match k with
  | _ => .int
theorem nmJxa66e6 : ∀ a, a < 0 → ∀ b, b < 0 → a ≠ b → (TJxa66e6 a).2.1 ≠ (TJxa66e6 b).2.1 := by decide +kernel
theorem tyJxa66e6_ok : ∀ k, k < 0 → parseFieldDescriptor (TJxa66e6 k).2.2.1 = some (tyJxa66e6 k) := by decide +kernel
def RJ8 : String := "jdk/internal/util/ArraysSupport"
def TJ8 : u_T := fun k => match k with
  | _ => ("", "", "", false)
def tyJ8 : Nat → FieldType := fun k => match k with
  | _ => .int
theorem nmJ8 : ∀ a, a < 0 → ∀ b, b < 0 → a ≠ b → (TJ8 a).2.1 ≠ (TJ8 b).2.1 := by decide +kernel
theorem tyJ8_ok : ∀ k, k < 0 → parseFieldDescriptor (TJ8 k).2.2.1 = some (tyJ8 k) := by decide +kernel
abbrev cJ8_newLength_cabcc : ByteArray := prog_56_method_27_code
def yJ8_newLength_cabcc : MethodName := ⟨RJ8, "newLength", "(III)I"⟩
abbrev cJ8_hugeLength_7cf53 : ByteArray := prog_56_method_28_code
def yJ8_hugeLength_7cf53 : MethodName := ⟨RJ8, "hugeLength", "(II)I"⟩
def RJ3 : String := "jdk/internal/util/Preconditions"
def TJ3 : u_T := fun k => match k with
  | _ => ("", "", "", false)
def tyJ3 : Nat → FieldType := fun k => match k with
  | _ => .int
theorem nmJ3 : ∀ a, a < 0 → ∀ b, b < 0 → a ≠ b → (TJ3 a).2.1 ≠ (TJ3 b).2.1 := by decide +kernel
theorem tyJ3_ok : ∀ k, k < 0 → parseFieldDescriptor (TJ3 k).2.2.1 = some (tyJ3 k) := by decide +kernel
abbrev cJ3_checkIndex_8e157 : ByteArray := prog_57_method_11_code
def yJ3_checkIndex_8e157 : MethodName := ⟨RJ3, "checkIndex", "(IILjava/util/function/BiFunction;)I"⟩
abbrev cJ3_checkFromToIndex_8c36e : ByteArray := prog_57_method_12_code
def yJ3_checkFromToIndex_8c36e : MethodName := ⟨RJ3, "checkFromToIndex", "(IIILjava/util/function/BiFunction;)I"⟩
abbrev cJ3_checkFromIndexSize_8c36e : ByteArray := prog_57_method_13_code
def yJ3_checkFromIndexSize_8c36e : MethodName := ⟨RJ3, "checkFromIndexSize", "(IIILjava/util/function/BiFunction;)I"⟩
def RL : String := "LanternserverLaw"
abbrev cL_type : ByteArray := method_3_code
def yL_type : MethodName := ⟨RL, "type", "(LLanternserver;JJJJJJ[J)I"⟩
abbrev cL_put : ByteArray := method_4_code
def yL_put : MethodName := ⟨RL, "put", "(LLanternserver;II[J)I"⟩
abbrev cL_piece : ByteArray := method_5_code
def yL_piece : MethodName := ⟨RL, "piece", "(LLanternserver;I[J)I"⟩
abbrev cL_sum : ByteArray := method_6_code
def yL_sum : MethodName := ⟨RL, "sum", "(LLanternserver;II[J)I"⟩
abbrev cL_addHost : ByteArray := method_7_code
def yL_addHost : MethodName := ⟨RL, "addHost", "(LLanternserver;II[J)I"⟩
abbrev cL_setMtu : ByteArray := method_8_code
def yL_setMtu : MethodName := ⟨RL, "setMtu", "(LLanternserver;II[J)I"⟩
abbrev cL_hostAt : ByteArray := method_9_code
def yL_hostAt : MethodName := ⟨RL, "hostAt", "(LLanternserver;II[J)I"⟩
abbrev cL_tableAt : ByteArray := method_10_code
def yL_tableAt : MethodName := ⟨RL, "tableAt", "(LLanternserver;II[J)I"⟩
abbrev cL_deliver : ByteArray := method_11_code
def yL_deliver : MethodName := ⟨RL, "deliver", "(LLanternserver;I[J)I"⟩
abbrev cL_lose : ByteArray := method_12_code
def yL_lose : MethodName := ⟨RL, "lose", "(LLanternserver;I[J)I"⟩
abbrev cL_twice : ByteArray := method_13_code
def yL_twice : MethodName := ⟨RL, "twice", "(LLanternserver;I[J)I"⟩
abbrev cL_spoil : ByteArray := method_14_code
def yL_spoil : MethodName := ⟨RL, "spoil", "(LLanternserver;III[J)I"⟩
abbrev cL_frameAt : ByteArray := method_15_code
def yL_frameAt : MethodName := ⟨RL, "frameAt", "(LLanternserver;II[J)I"⟩
abbrev cL_byteAt : ByteArray := method_16_code
def yL_byteAt : MethodName := ⟨RL, "byteAt", "(LLanternserver;II[J)I"⟩
abbrev cL_pass : ByteArray := method_17_code
def yL_pass : MethodName := ⟨RL, "pass", "(LLanternserver;I[J)I"⟩
abbrev cL_settle : ByteArray := method_18_code
def yL_settle : MethodName := ⟨RL, "settle", "(LLanternserver;I[J)I"⟩
abbrev cL_play : ByteArray := method_19_code
def yL_play : MethodName := ⟨RL, "play", "(LLanternserver;II[J)I"⟩
abbrev cL_echo : ByteArray := method_20_code
def yL_echo : MethodName := ⟨RL, "echo", "(LLanternserver;III[J)I"⟩
abbrev cL_isAnswered : ByteArray := method_21_code
def yL_isAnswered : MethodName := ⟨RL, "isAnswered", "(LLanternserver;I[J)I"⟩
abbrev cL_name : ByteArray := method_22_code
def yL_name : MethodName := ⟨RL, "name", "(LLanternserver;I[J)I"⟩
abbrev cL_lookUp : ByteArray := method_23_code
def yL_lookUp : MethodName := ⟨RL, "lookUp", "(LLanternserver;I[J)I"⟩
abbrev cL_askAgain : ByteArray := method_24_code
def yL_askAgain : MethodName := ⟨RL, "askAgain", "(LLanternserver;I)I"⟩
abbrev cL_found : ByteArray := method_25_code
def yL_found : MethodName := ⟨RL, "found", "(LLanternserver;I[J)I"⟩
abbrev cL_connect : ByteArray := method_26_code
def yL_connect : MethodName := ⟨RL, "connect", "(LLanternserver;III[J)I"⟩
abbrev cL_write : ByteArray := method_27_code
def yL_write : MethodName := ⟨RL, "write", "(LLanternserver;I[J)I"⟩
abbrev cL_read : ByteArray := method_28_code
def yL_read : MethodName := ⟨RL, "read", "(LLanternserver;II[J)I"⟩
abbrev cL_readAt : ByteArray := method_29_code
def yL_readAt : MethodName := ⟨RL, "readAt", "(LLanternserver;II[J)I"⟩
abbrev cL_close : ByteArray := method_30_code
def yL_close : MethodName := ⟨RL, "close", "(LLanternserver;IZ[J)I"⟩
abbrev cL_connectionAt : ByteArray := method_31_code
def yL_connectionAt : MethodName := ⟨RL, "connectionAt", "(LLanternserver;II[J)I"⟩
abbrev cL_fileAt : ByteArray := method_32_code
def yL_fileAt : MethodName := ⟨RL, "fileAt", "(LLanternserver;II[J)I"⟩
abbrev cL_fileByteAt : ByteArray := method_33_code
def yL_fileByteAt : MethodName := ⟨RL, "fileByteAt", "(LLanternserver;IZI[J)I"⟩
abbrev cL_servedAt : ByteArray := method_34_code
def yL_servedAt : MethodName := ⟨RL, "servedAt", "(LLanternserver;II[J)I"⟩
abbrev cL_answerAt : ByteArray := method_35_code
def yL_answerAt : MethodName := ⟨RL, "answerAt", "(LLanternserver;II[J)I"⟩
abbrev cL_count : ByteArray := method_36_code
def yL_count : MethodName := ⟨RL, "count", "(LLanternserver;I[J)I"⟩
abbrev cL_law : ByteArray := code
def yL_law : MethodName := ⟨RL, "law", "([I)Z"⟩
abbrev vwCl : List vw_C := [(RJ0, TJ0, 4), (RJ4, TJ4, 4), (RJx00060, TJx00060, 6), (RJx4a65c, TJx4a65c, 3), (RX0, TX0, 19), (RX1, TX1, 11), (RX2, TX2, 5), (RX3, TX3, 16), (RX4, TX4, 11), (RX5, TX5, 19), (RX6, TX6, 8), (RX7, TX7, 2), (RX8, TX8, 12), (RX9, TX9, 20), (RX10, TX10, 14), (RX11, TX11, 17), (RX12, TX12, 2), (RX13, TX13, 2), (RX14, TX14, 4), (RX15, TX15, 16), (RX16, TX16, 3), (RX17, TX17, 41), (RX18, TX18, 7), (RX19, TX19, 2), (RX20, TX20, 96)]
end
section
/-! WHAT THE LINK STANDS ON: names of classes and kinds, the words, the String constants, the links to nest mates -/
def am_clN (k : Nat) : String := match vwCl[k]? with
  | some q => q.1
  | none => ""
def am_kty (k : Nat) : FieldType := if k = 100 then .int else if k = 101 then .long else if k = 102 then .boolean else if k = 103 then .array .int else if k = 104 then .object "java/lang/Object" else .object (am_clN (k - 200))
/-- the words that every method is given -/
def am_T : List Cond := lw_tbl.filter goodWord
theorem am_inT {w : Jvm.Cond} (h : w ∈ lw_tbl) (g : goodWord w = true) : w ∈ am_T := List.mem_filter.mpr ⟨h, g⟩
theorem am_good {big ws : List Jvm.Cond} (hb : ∀ w ∈ am_T, w ∈ big) (h : ∀ w ∈ ws, w ∈ am_T) : GoodIn big ws := fun w hw => ⟨hb w (h w hw), good_of_word (List.mem_filter.mp (h w hw)).2⟩
theorem am_pl {ws : List Jvm.Cond} (ps : List Nat) (hp : (ws.map some) = ps.map (fun i => lw_tbl[i]?)) (g : ws.all goodWord = true) : ∀ w ∈ ws, w ∈ am_T := by
  intro w hw
  have h1 : some w ∈ ws.map some := List.mem_map.mpr ⟨w, hw, rfl⟩
  rw [hp] at h1
  obtain ⟨i, -, hi⟩ := List.mem_map.mp h1
  exact am_inT (List.mem_of_getElem? hi) (List.all_eq_true.mp g w hw)
/-- the String constants: the class, the entry, the text, a number -/
def am_strs : List (String × Nat × String × Nat) := [("Lanternserver$Reade\x72", 111, "GET", 0), ("Lanternserver$Reade\x72", 117, "HEAD", 1), ("Lanternserver$Reade\x72", 119, "PUT", 2), ("Lanternserver$Reade\x72", 121, "POST", 3), ("Lanternserver$Reade\x72", 123, "DELETE", 4), ("Lanternserver$Reade\x72", 125, "OPTIONS", 5), ("Lanternserver$Reade\x72", 127, "HTTP/1.0", 6), ("Lanternserver$Reade\x72", 129, "HTTP/1.1", 7), ("Lanternserver$Reade\x72", 134, "host", 8), ("Lanternserver$Reade\x72", 140, "content-length", 9), ("Lanternserver$Reade\x72", 149, "transfer-encoding", 10), ("Lanternserver$Reade\x72", 151, "chunked", 11), ("Lanternserver$Reade\x72", 153, "connection", 12), ("Lanternserver$Reade\x72", 155, "close", 13), ("Lanternserver$Reade\x72", 157, "keep-alive", 14), ("Lanternserver$Reade\x72", 159, "if-match", 15), ("Lanternserver$Reade\x72", 165, "if-none-match", 16), ("Lanternserver$Reade\x72", 167, "range", 17), ("Lanternserver$House", 113, "\"v", 18), ("Lanternserver$House", 135, "bytes=", 19), ("Lanternserver$House", 194, "OK", 20), ("Lanternserver$House", 196, "Created", 21), ("Lanternserver$House", 198, "No Content", 22), ("Lanternserver$House", 200, "Partial Content", 23), ("Lanternserver$House", 202, "Not Modified", 24), ("Lanternserver$House", 204, "Bad Request", 25), ("Lanternserver$House", 206, "Not Found", 26), ("Lanternserver$House", 208, "Method Not Allowed", 27), ("Lanternserver$House", 210, "Length Required", 28), ("Lanternserver$House", 212, "Precondition Failed", 29), ("Lanternserver$House", 214, "Content Too Large", 30), ("Lanternserver$House", 216, "URI Too Long", 31), ("Lanternserver$House", 218, "Range Not Satisfiable", 32), ("Lanternserver$House", 220, "Request Header Fields Too Large", 33), ("Lanternserver$House", 222, "Not Implemented", 34), ("Lanternserver$House", 224, "HTTP Version Not Supported", 35), ("Lanternserver$House", 226, "Insufficient Storage", 36), ("Lanternserver$House", 166, "HTTP/1.1 ", 37), ("Lanternserver$House", 171, "Content-Length: ", 38), ("Lanternserver$House", 176, "ETag: \"v", 39), ("Lanternserver$House", 178, "\"\r\n", 40), ("Lanternserver$House", 190, "Content-Range: bytes ", 41), ("Lanternserver$House", 192, "Content-Range: bytes *", 42), ("Lanternserver$House", 184, "Allow: GET, HEAD, OPTIONS\r\n", 43), ("Lanternserver$House", 186, "Allow: GET, HEAD, PUT, POST, DELETE, OPTIONS\r\n", 44), ("Lanternserver$House", 188, "Connection: close\r\n", 45), ("Lanternserve\x72", 111, "the tape has at most 400 bytes", 46), ("Lanternserve\x72", 122, "a byte is 0 to 255, many 1 to 300", 47), ("Lanternserve\x72", 127, "a piece is 0 to 5", 48), ("Lanternserve\x72", 495, "GET /a HTTP/1.1\r\nHost: h\r\n\r\n", 49), ("Lanternserve\x72", 497, "PUT /a HTTP/1.1\r\nHost: h\r\nContent-Length: 5\r\n\r\nhello", 50), ("Lanternserve\x72", 499, "GET / HTTP/1.0\r\n\r\n", 51), ("Lanternserve\x72", 501, "POST /a HTTP/1.1\r\nHost: h\r\nTransfer-Encoding: chunked\r\n\r\n3\r\nabc\r\n0\r\n\r\n", 52), ("Lanternserve\x72", 503, "DELETE /a HTTP/1.1\r\nHost: h\r\nConnection: close\r\n\r\n", 53), ("Lanternserve\x72", 505, "GET /a HTTP/1.1\r\nHost: h\r\nRange: bytes=1-3\r\nIf-None-Match: \"v2\"\r\n\r\n", 54), ("Lanternserve\x72", 144, "no such part of the tape", 55), ("Lanternserve\x72", 151, "an MTU is 100 to 600, an MSS 40 to 500", 56), ("Lanternserve\x72", 156, "there are 5 hosts", 57), ("Lanternserve\x72", 162, "no such host", 58), ("Lanternserve\x72", 164, "an MTU is 100 to 600", 59), ("Lanternserve\x72", 192, "what is 0 to 5", 60), ("Lanternserve\x72", 208, "a choice is 0 to 1000", 61), ("java/util/Arrays", 48, "fromIndex(", 62), ("java/util/Arrays", 57, ") > toIndex(", 63), ("java/util/Arrays", 59, ")", 64), ("java/util/Arrays", 337, " > ", 65), ("java/lang/ArrayIndexOutOfBoundsException", 13, "Array index out of range: ", 66), ("Lanternserve\x72", 219, "choice and at are 0 to 1000, by is 1 to 255", 67), ("Lanternserve\x72", 227, "no such frame", 68), ("Lanternserve\x72", 248, "what is 0 to 3", 69), ("Lanternserve\x72", 250, "no such byte", 70), ("Lanternserve\x72", 255, "ticks is 1 to 100", 71), ("Lanternserve\x72", 260, "the time is at most 20000", 72), ("Lanternserve\x72", 265, "ticks is 1 to 60", 73), ("Lanternserve\x72", 271, "many is 1 to 200", 74), ("Lanternserve\x72", 280, "another host, and 0 to 900 bytes", 75), ("Lanternserve\x72", 282, "there are 40 echoes", 76), ("Lanternserve\x72", 302, "no such echo", 77), ("Lanternserve\x72", 307, "the tape is no name", 78), ("Lanternserve\x72", 313, "another host has the name", 79), ("Lanternserve\x72", 322, "the server does not ask", 80), ("Lanternserve\x72", 324, "there are 40 lookups", 81), ("Lanternserve\x72", 332, "no such lookup", 82), ("Lanternserve\x72", 334, "the lookup has an answe\x72", 83), ("Lanternserve\x72", 337, "a client, another host, and a port 1 to 65535", 84), ("Lanternserve\x72", 339, "there are 60 connections", 85), ("Lanternserve\x72", 352, "no such connection", 86), ("Lanternserve\x72", 360, "nothing can be written on it", 87), ("Lanternserve\x72", 372, "many is 1 to 300", 88), ("Lanternserve\x72", 374, "it is the server's", 89), ("Lanternserve\x72", 395, "it cannot be closed", 90), ("Lanternserve\x72", 403, "what is 0 to 18", 91), ("Lanternserve\x72", 409, "no such file", 92), ("Lanternserve\x72", 421, "what is 0 to 2", 93), ("Lanternserve\x72", 426, "no such request", 94), ("Lanternserve\x72", 428, "what is 0 to 6", 95), ("Lanternserve\x72", 469, "what is 0 to 15", 96), ("LanternserverModel", 254, "GET /a HTTP/1.1|Host: h||", 97), ("LanternserverModel", 256, "PUT /a HTTP/1.1|Host: h|Content-Length: 5||hello", 98), ("LanternserverModel", 258, "GET / HTTP/1.0||", 99), ("LanternserverModel", 260, "POST /a HTTP/1.1|Host: h|Transfer-Encoding: chunked||3|abc|0||", 100), ("LanternserverModel", 262, "DELETE /a HTTP/1.1|Host: h|Connection: close||", 101), ("LanternserverModel", 264, "GET /a HTTP/1.1|Host: h|Range: bytes=1-3|If-None-Match: \"v2\"||", 102)]
/-- the types of whose arrays the tables say that their class is there -/
def am_aot : List FieldType := [.array .int, .object "java/lang/Object", .object RX1, .object RX2, .object RX7, .object RX13, .object RX14, .object RX15, .object RX16, .object RX17, .object RX18, .object RX19]
/-- links to private fields and methods of a nest mate -/
def am_nf : List (String × Nat × String × String × String × String) := [("Lanternserver$Datagram", 53, "Lanternserver$Row", "length", "I", "Lanternserve\x72"), ("Lanternserver$Receive\x72", 35, "Lanternserver$Row", "length", "I", "Lanternserve\x72"), ("LanternserverModel", 1003, "LanternserverModel$Early", "begin", "I", "LanternserverModel"), ("LanternserverModel", 1006, "LanternserverModel$Early", "row", "[I", "LanternserverModel"), ("LanternserverModel", 706, "LanternserverModel$Bytes", "row", "[I", "LanternserverModel"), ("LanternserverModel$Line", 68, "LanternserverModel$Bytes", "many", "I", "LanternserverModel"), ("LanternserverModel", 760, "LanternserverModel$Bytes", "many", "I", "LanternserverModel"), ("LanternserverModel", 949, "LanternserverModel$Line", "numbe\x72", "I", "LanternserverModel"), ("LanternserverModel", 709, "LanternserverModel$Line", "host", "I", "LanternserverModel"), ("LanternserverModel", 711, "LanternserverModel$Line", "port", "I", "LanternserverModel"), ("LanternserverModel", 714, "LanternserverModel$Line", "othe\x72", "I", "LanternserverModel"), ("LanternserverModel", 717, "LanternserverModel$Line", "otherPort", "I", "LanternserverModel"), ("LanternserverModel", 810, "LanternserverModel$Line", "iss", "I", "LanternserverModel"), ("LanternserverModel", 807, "LanternserverModel$Line", "state", "I", "LanternserverModel"), ("LanternserverModel", 753, "LanternserverModel$Line", "una", "I", "LanternserverModel"), ("LanternserverModel", 737, "LanternserverModel$Line", "nxt", "I", "LanternserverModel"), ("LanternserverModel", 729, "LanternserverModel$Line", "out", "LLanternserverModel$Bytes;", "LanternserverModel"), ("LanternserverModel", 795, "LanternserverModel$Line", "isClosed", "Z", "LanternserverModel"), ("LanternserverModel", 798, "LanternserverModel$Line", "isFinSent", "Z", "LanternserverModel"), ("LanternserverModel", 775, "LanternserverModel$Line", "window", "I", "LanternserverModel"), ("LanternserverModel", 908, "LanternserverModel$Line", "windowSequence", "I", "LanternserverModel"), ("LanternserverModel", 911, "LanternserverModel$Line", "windowAcknowledged", "I", "LanternserverModel"), ("LanternserverModel", 778, "LanternserverModel$Line", "cwnd", "I", "LanternserverModel"), ("LanternserverModel", 822, "LanternserverModel$Line", "threshold", "I", "LanternserverModel"), ("LanternserverModel", 790, "LanternserverModel$Line", "mss", "I", "LanternserverModel"), ("LanternserverModel", 902, "LanternserverModel$Line", "hasOthe\x72", "Z", "LanternserverModel"), ("LanternserverModel", 905, "LanternserverModel$Line", "irs", "I", "LanternserverModel"), ("LanternserverModel", 720, "LanternserverModel$Line", "rcv", "I", "LanternserverModel"), ("LanternserverModel", 980, "LanternserverModel$Line", "got", "LLanternserverModel$Bytes;", "LanternserverModel"), ("LanternserverModel", 1012, "LanternserverModel$Line", "read", "I", "LanternserverModel"), ("LanternserverModel", 1007, "LanternserverModel$Line", "hasFin", "Z", "LanternserverModel"), ("LanternserverModel", 995, "LanternserverModel$Line", "early", "[LLanternserverModel$Early;", "LanternserverModel"), ("LanternserverModel", 992, "LanternserverModel$Line", "earlyMany", "I", "LanternserverModel"), ("LanternserverModel", 831, "LanternserverModel$Line", "rto", "I", "LanternserverModel"), ("LanternserverModel", 747, "LanternserverModel$Line", "timedFrom", "I", "LanternserverModel"), ("LanternserverModel", 804, "LanternserverModel$Line", "isProbing", "Z", "LanternserverModel"), ("LanternserverModel", 825, "LanternserverModel$Line", "times", "I", "LanternserverModel"), ("LanternserverModel", 963, "LanternserverModel$Line", "doubles", "I", "LanternserverModel"), ("LanternserverModel", 763, "LanternserverModel$Line", "isMeasured", "Z", "LanternserverModel"), ("LanternserverModel", 766, "LanternserverModel$Line", "measuredEnd", "I", "LanternserverModel"), ("LanternserverModel", 769, "LanternserverModel$Line", "measuredFrom", "I", "LanternserverModel"), ("LanternserverModel", 969, "LanternserverModel$Line", "hasSmooth", "Z", "LanternserverModel"), ("LanternserverModel", 972, "LanternserverModel$Line", "smooth", "I", "LanternserverModel"), ("LanternserverModel", 975, "LanternserverModel$Line", "varies", "I", "LanternserverModel"), ("LanternserverModel", 828, "LanternserverModel$Line", "ended", "I", "LanternserverModel"), ("LanternserverModel", 850, "LanternserverModel$Line", "latest", "I", "LanternserverModel"), ("LanternserverModel", 844, "LanternserverModel$Line", "waitsFrom", "I", "LanternserverModel"), ("LanternserverModel", 918, "LanternserverModel$Line", "end", "I", "LanternserverModel")]
def am_nm : List (String × Nat × MethodName × String) := [("Lanternserver$Wire", 17, ⟨"Lanternserver$Frame", "<init>", "()V"⟩, "Lanternserve\x72"), ("Lanternserver$Wire", 31, ⟨"Lanternserver$Datagram", "<init>", "()V"⟩, "Lanternserve\x72"), ("Lanternserve\x72", 54, ⟨"Lanternserver$Datagram", "<init>", "()V"⟩, "Lanternserve\x72"), ("Lanternserve\x72", 61, ⟨"Lanternserver$Segment", "<init>", "()V"⟩, "Lanternserve\x72"), ("Lanternserver$Host", 53, ⟨"Lanternserver$Datagram", "<init>", "()V"⟩, "Lanternserve\x72"), ("Lanternserver$Connection", 259, ⟨"Lanternserve\x72", "isAhead", "(II)Z"⟩, "Lanternserve\x72"), ("Lanternserver$Sende\x72", 81, ⟨"Lanternserve\x72", "isAhead", "(II)Z"⟩, "Lanternserve\x72"), ("Lanternserver$Receive\x72", 53, ⟨"Lanternserve\x72", "isAhead", "(II)Z"⟩, "Lanternserve\x72"), ("LanternserverModel", 444, ⟨"LanternserverModel$Known", "<init>", "()V"⟩, "LanternserverModel"), ("LanternserverModel", 361, ⟨"LanternserverModel$Frame", "<init>", "()V"⟩, "LanternserverModel"), ("LanternserverModel", 475, ⟨"LanternserverModel$Waits", "<init>", "()V"⟩, "LanternserverModel"), ("LanternserverModel$Line", 11, ⟨"LanternserverModel$Bytes", "<init>", "()V"⟩, "LanternserverModel"), ("LanternserverModel", 517, ⟨"LanternserverModel$Togethe\x72", "<init>", "()V"⟩, "LanternserverModel")]
/-- a class of vwCl with what its rows want: its words, its types, its names -/
def am_cls (ci : Nat) (C0 : String) (T : u_T) (N : Nat) (ty0 : Nat → FieldType) : Prop :=
  ci < 100 ∧ vwCl[ci]? = some (C0, T, N) ∧ (∀ w ∈ u_ws C0 T N, w ∈ am_T) ∧ (∀ k, k < N → parseFieldDescriptor (T k).2.2.1 = some (ty0 k)) ∧ ∀ a, a < N → ∀ b, b < N → a ≠ b → (T a).2.1 ≠ (T b).2.1
end
section
/-! THE TABLES: what an entry of a class's constant pool is, by its place among the words (by program) -/
def am_own : Nat → String := fun k => match k with
  | 0 => RX0
  | 1 => RX1
  | 2 => RX2
  | 3 => RX3
  | 4 => RX4
  | 5 => RX5
  | 6 => RX6
  | 7 => RX7
  | 8 => RX8
  | 9 => RX9
  | 10 => RX10
  | 11 => RX11
  | 12 => RX12
  | 13 => RX13
  | 14 => RX14
  | 15 => RX15
  | 16 => RX16
  | 17 => RX17
  | 18 => RX18
  | 19 => RX19
  | 20 => RX20
  | 21 => RL
  | 22 => RJx4a65c
  | 23 => RJxc12de
  | 24 => RJxa1e45
  | 25 => RJ15
  | 26 => RJ3
  | 27 => RJ7
  | 28 => RJ0
  | 29 => RJ1
  | _ => RJ9
def am_tb0_0 : List (Nat × Nat × Nat × Nat) := [(3, 9, 0, 1919), (9, 3, 10, 1920), (11, 7, 93, 1922), (12, 1, 519, 2063), (18, 1, 525, 2072), (22, 1, 512, 2050), (25, 1, 896, 676), (28, 1, 513, 2052), (31, 5, 40000, 1959), (32, 1, 514, 2054), (35, 1, 515, 2056), (38, 1, 516, 2058), (41, 1, 517, 2060), (45, 3, 13, 1960), (47, 7, 129, 1962), (50, 1, 518, 2061), (54, 3, 9, 2048), (56, 7, 77, 2049), (57, 1, 520, 2065), (61, 1, 898, 681), (64, 1, 521, 2067), (67, 1, 522, 2068), (68, 1, 523, 2069), (71, 7, 130, 2221), (75, 1, 1679, 2000), (79, 7, 12, 2132), (83, 1, 1800, 407), (88, 1, 529, 2077), (91, 1, 1540, 497), (96, 7, 94, 2123)]
def am_tb0_1 : List (Nat × Nat × Nat × Nat) := [(99, 7, 139, 2127), (103, 1, 1544, 510), (104, 10, 0, 2131), (110, 1, 526, 2074), (113, 1, 1666, 1976), (116, 7, 10, 2140), (120, 7, 9, 2180), (123, 1, 524, 2071), (126, 7, 147, 2144), (130, 1, 649, 368), (136, 7, 110, 2145), (141, 7, 111, 2146), (144, 1, 1281, 1931), (147, 7, 96, 2147), (150, 1, 1667, 1978), (153, 7, 113, 2151), (157, 7, 36, 2152), (160, 1, 1668, 1981), (163, 7, 131, 2136), (166, 7, 135, 2156), (169, 1, 1680, 2002), (172, 1, 1681, 2004), (175, 7, 3, 2302), (179, 1, 1669, 1984), (181, 1, 1672, 1988), (184, 7, 133, 2306), (187, 7, 11, 2197), (191, 1, 1678, 1999), (194, 7, 14, 2311), (197, 1, 1675, 1994)]
def am_tb0_2 : List (Nat × Nat × Nat × Nat) := [(200, 7, 132, 2192), (203, 1, 1664, 1971), (206, 1, 1665, 1974), (209, 1, 1803, 414), (212, 1, 530, 2078), (215, 7, 4, 2407), (218, 1, 1674, 1992), (221, 7, 17, 2411), (224, 7, 1, 2415), (227, 7, 8, 2416), (230, 1, 1676, 1995), (233, 7, 140, 2225), (236, 7, 15, 2188), (239, 7, 19, 2174), (243, 7, 126, 2178), (247, 1, 1280, 1929), (250, 1, 1541, 504), (253, 7, 149, 2179), (256, 7, 20, 2184), (259, 8, 196, 5), (263, 7, 21, 2204), (266, 1, 1673, 1990), (269, 7, 138, 2230), (272, 7, 22, 2235), (275, 7, 24, 2243), (278, 1, 1547, 518), (281, 7, 136, 2208), (285, 1, 1543, 508), (286, 1, 1677, 1997), (289, 7, 23, 2239)]
def am_tb0_3 : List (Nat × Nat × Nat × Nat) := [(292, 7, 97, 2247), (295, 1, 1284, 1937), (298, 7, 134, 2276), (301, 7, 101, 2281), (304, 7, 95, 1229), (307, 1, 1283, 1935), (310, 1, 1287, 1941), (311, 7, 29, 2580)]
def am_tb0 : List (Nat × Nat × Nat × Nat) := am_tb0_0 ++ (am_tb0_1 ++ (am_tb0_2 ++ (am_tb0_3)))
def am_tb1_0 : List (Nat × Nat × Nat × Nat) := [(3, 9, 0, 334), (9, 3, 11, 335), (11, 7, 100, 336), (14, 1, 649, 364), (20, 1, 650, 370), (23, 1, 640, 337), (27, 5, 167772161, 1513), (28, 1, 641, 340), (31, 1, 642, 344), (34, 1, 643, 349), (37, 1, 644, 353), (40, 1, 645, 355), (43, 1, 646, 357), (46, 1, 647, 359), (49, 1, 648, 361), (53, 2, 1409, 0), (56, 7, 32, 1527), (60, 7, 101, 1528), (63, 7, 113, 1529), (67, 5, 65535, 1840), (68, 7, 108, 1866), (72, 7, 34, 1867), (75, 7, 124, 1868), (79, 7, 114, 1534), (82, 7, 102, 1769), (86, 7, 107, 1770)]
def am_tb1 : List (Nat × Nat × Nat × Nat) := am_tb1_0
def am_tb2_0 : List (Nat × Nat × Nat × Nat) := [(1, 9, 0, 301), (7, 3, 11, 302), (9, 7, 100, 303), (12, 1, 768, 304)]
def am_tb2 : List (Nat × Nat × Nat × Nat) := am_tb2_0
def am_tb3_0 : List (Nat × Nat × Nat × Nat) := [(3, 9, 0, 671), (9, 3, 11, 672), (11, 7, 100, 673), (14, 1, 899, 682), (20, 1, 900, 684), (24, 1, 901, 685), (28, 1, 902, 686), (31, 1, 904, 689), (34, 3, 5, 674), (36, 1, 905, 690), (40, 1, 907, 693), (43, 1, 896, 677), (47, 1, 897, 678), (50, 1, 898, 680), (53, 8, 31, 4), (54, 1, 903, 687), (57, 7, 521, 1490), (63, 7, 522, 1491), (66, 1, 908, 694), (69, 1, 646, 358), (72, 7, 58, 1519), (75, 1, 909, 696), (78, 5, 65535, 2323), (79, 1, 644, 354), (82, 1, 645, 356), (83, 1, 642, 346), (86, 7, 41, 1483), (90, 7, 42, 1782), (94, 7, 48, 1783), (98, 1, 906, 691)]
def am_tb3_1 : List (Nat × Nat × Nat × Nat) := [(101, 7, 50, 1812), (104, 7, 33, 1523), (107, 7, 46, 2324), (111, 5, 167772161, 1484), (112, 1, 1800, 408), (115, 6, 281474976710655, 2328), (117, 7, 47, 1816), (121, 7, 142, 1791), (125, 1, 768, 306), (130, 7, 112, 1796), (134, 6, 2199023255553, 1801), (136, 7, 110, 1802), (139, 7, 111, 1803), (142, 1, 649, 367), (143, 7, 101, 1473), (147, 7, 49, 1787), (151, 10, 0, 1811), (157, 1, 643, 351), (160, 1, 641, 342), (163, 7, 124, 1504), (167, 7, 108, 1807), (171, 7, 113, 1514), (175, 7, 104, 1474), (178, 7, 103, 1469), (181, 7, 105, 1485), (182, 7, 53, 1470), (186, 7, 54, 1479), (190, 7, 55, 1499), (193, 7, 56, 1505), (197, 1, 770, 311)]
def am_tb3_2 : List (Nat × Nat × Nat × Nat) := [(201, 1, 772, 316), (204, 1, 648, 362), (205, 1, 911, 701), (208, 5, 67584, 1478), (209, 7, 43, 1486), (213, 7, 102, 1503), (216, 7, 32, 1509), (220, 1, 910, 699), (223, 7, 57, 1515), (227, 7, 37, 1530), (231, 1, 647, 360), (234, 7, 38, 1774)]
def am_tb3 : List (Nat × Nat × Nat × Nat) := am_tb3_0 ++ (am_tb3_1 ++ (am_tb3_2))
def am_tb4_0 : List (Nat × Nat × Nat × Nat) := [(3, 9, 0, 550), (9, 3, 11, 551), (11, 1, 1024, 554), (17, 1, 1025, 556), (20, 1, 1026, 558), (24, 7, 100, 553), (27, 1, 1029, 564), (31, 1, 1030, 565), (34, 1, 1032, 567), (37, 1, 1027, 560), (41, 1, 1028, 562), (44, 7, 119, 1096), (48, 7, 101, 1081), (52, 7, 118, 1118), (56, 1, 1031, 566), (59, 7, 106, 1080), (62, 1, 1033, 568), (65, 1, 1034, 569), (68, 1, 1158, 610), (73, 1, 1157, 608), (76, 7, 102, 1082), (80, 7, 63, 1083), (84, 7, 66, 1086), (87, 7, 64, 1092), (90, 7, 67, 1101), (94, 1, 1165, 618), (97, 7, 65, 1105), (101, 1, 1166, 620), (104, 7, 69, 1131), (107, 7, 70, 1143)]
def am_tb4_1 : List (Nat × Nat × Nat × Nat) := [(110, 7, 73, 1147), (113, 13, 18, 18), (115, 7, 115, 1110), (119, 7, 116, 1114), (122, 7, 109, 1091), (125, 7, 113, 1090), (129, 1, 1167, 622), (132, 7, 68, 1122), (135, 13, 19, 19), (137, 7, 120, 1127), (141, 7, 122, 1128), (145, 11, 0, 1129), (150, 10, 0, 1130), (153, 7, 72, 1135), (156, 1, 1168, 624), (159, 7, 71, 1139), (162, 7, 76, 1159), (166, 13, 37, 37), (168, 7, 110, 1180), (171, 13, 38, 38), (173, 7, 527, 1185), (176, 13, 39, 39), (178, 13, 40, 40), (180, 7, 75, 1188), (184, 13, 43, 43), (186, 13, 44, 44), (188, 13, 45, 45), (190, 13, 41, 41), (192, 13, 42, 42), (194, 13, 20, 20)]
def am_tb4_2 : List (Nat × Nat × Nat × Nat) := [(196, 13, 21, 21), (198, 13, 22, 22), (200, 13, 23, 23), (202, 13, 24, 24), (204, 13, 25, 25), (206, 13, 26, 26), (208, 13, 27, 27), (210, 13, 28, 28), (212, 13, 29, 29), (214, 13, 30, 30), (216, 13, 31, 31), (218, 13, 32, 32), (220, 13, 33, 33), (222, 13, 34, 34), (224, 13, 35, 35), (226, 13, 36, 36)]
def am_tb4 : List (Nat × Nat × Nat × Nat) := am_tb4_0 ++ (am_tb4_1 ++ (am_tb4_2))
def am_tb5_0 : List (Nat × Nat × Nat × Nat) := [(3, 9, 0, 598), (9, 3, 11, 599), (11, 7, 100, 600), (14, 1, 1154, 604), (20, 1, 1158, 609), (23, 1, 1165, 617), (26, 1, 1166, 619), (29, 1, 1167, 621), (32, 1, 1168, 623), (35, 1, 1161, 613), (39, 1, 1152, 601), (42, 1, 1153, 602), (45, 7, 106, 926), (48, 1, 1155, 605), (51, 1, 1156, 606), (54, 1, 1157, 607), (57, 1, 1159, 611), (60, 1, 1160, 612), (63, 1, 1162, 614), (67, 1, 1163, 615), (70, 1, 1164, 616), (73, 1, 1169, 625), (76, 1, 1170, 626), (79, 7, 90, 931), (83, 7, 81, 958), (86, 7, 83, 966), (89, 7, 89, 1030), (93, 7, 85, 1034), (96, 7, 86, 1040), (99, 7, 82, 962)]
def am_tb5_1 : List (Nat × Nat × Nat × Nat) := [(103, 7, 101, 953), (105, 7, 84, 970), (108, 7, 109, 935), (111, 13, 0, 0), (113, 7, 120, 975), (117, 13, 1, 1), (119, 13, 2, 2), (121, 13, 3, 3), (123, 13, 4, 4), (125, 13, 5, 5), (127, 13, 6, 6), (129, 13, 7, 7), (131, 7, 102, 1044), (134, 13, 8, 8), (136, 7, 121, 1046), (140, 13, 9, 9), (142, 7, 122, 1051), (146, 7, 87, 1055), (149, 13, 10, 10), (151, 13, 11, 11), (153, 13, 12, 12), (155, 13, 13, 13), (157, 13, 14, 14), (159, 13, 15, 15), (161, 7, 88, 1065), (165, 13, 16, 16), (167, 13, 17, 17), (168, 7, 113, 1069), (171, 7, 92, 949), (174, 7, 91, 954)]
def am_tb5 : List (Nat × Nat × Nat × Nat) := am_tb5_0 ++ (am_tb5_1)
def am_tb6_0 : List (Nat × Nat × Nat × Nat) := [(3, 9, 0, 1925), (9, 3, 11, 1926), (11, 7, 100, 1927), (14, 1, 1282, 1932), (20, 1, 1285, 1938), (24, 1, 1286, 1939), (28, 1, 1280, 1928), (32, 1, 1281, 1930), (35, 2, 1409, 1), (38, 1, 1283, 1934), (41, 7, 96, 2251), (45, 1, 1540, 496), (50, 1, 1547, 516), (53, 8, 196, 7), (57, 1, 1546, 514), (60, 1, 1545, 512), (63, 7, 113, 2253), (67, 7, 98, 2254), (70, 1, 1287, 1940), (71, 7, 106, 2263), (74, 7, 99, 2258), (77, 7, 101, 2262)]
def am_tb6 : List (Nat × Nat × Nat × Nat) := am_tb6_0
def am_tb7_0 : List (Nat × Nat × Nat × Nat) := [(3, 9, 0, 278), (9, 1, 1408, 279), (15, 1, 1409, 280), (19, 7, 102, 1215), (23, 7, 521, 939), (29, 7, 110, 1800), (33, 12, 0, 1073), (39, 7, 517, 1538), (43, 7, 527, 979), (48, 7, 528, 989), (52, 10, 0, 1100), (58, 6, 65535, 1220)]
def am_tb7 : List (Nat × Nat × Nat × Nat) := am_tb7_0
def am_tb8_0 : List (Nat × Nat × Nat × Nat) := [(3, 9, 0, 481), (9, 3, 11, 482), (11, 7, 100, 483), (14, 1, 1545, 511), (20, 1, 1542, 505), (24, 1, 649, 365), (27, 7, 101, 1881), (31, 7, 102, 1882), (35, 7, 34, 1883), (38, 7, 124, 1884), (42, 1, 641, 341), (45, 1, 1536, 484), (46, 1, 642, 345), (49, 1, 1537, 487), (50, 7, 103, 1885), (53, 1, 1538, 489), (56, 1, 1539, 492), (59, 7, 104, 1886), (62, 1, 1540, 495), (65, 1, 1541, 501), (68, 1, 1543, 506), (71, 1, 1546, 513), (74, 1, 1547, 515), (77, 7, 126, 1887), (81, 7, 128, 1891), (85, 1, 1544, 509)]
def am_tb8 : List (Nat × Nat × Nat × Nat) := am_tb8_0
def am_tb9_0 : List (Nat × Nat × Nat × Nat) := [(3, 9, 0, 1965), (9, 3, 11, 1966), (11, 7, 100, 1967), (14, 1, 1667, 1977), (20, 1, 1673, 1989), (24, 1, 1674, 1991), (27, 1, 1680, 2001), (30, 1, 1682, 2005), (33, 6, 4294967096, 1968), (35, 6, 1048583, 1969), (37, 1, 1664, 1970), (40, 1, 1665, 1973), (43, 1, 1666, 1975), (46, 1, 1678, 1998), (50, 1, 1668, 1980), (53, 10, 0, 2196), (59, 7, 131, 2310), (63, 7, 132, 2280), (66, 1, 1675, 1993), (69, 1, 1677, 1996), (72, 1, 1672, 1987), (75, 11, 0, 2212), (78, 1, 1681, 2003), (81, 8, 196, 6), (85, 7, 137, 2214), (88, 1, 1683, 2006), (91, 7, 538, 2218), (95, 1, 1670, 1985), (98, 1, 1540, 499), (103, 1, 1541, 503)]
def am_tb9_1 : List (Nat × Nat × Nat × Nat) := [(106, 1, 1671, 1986), (109, 7, 139, 2234), (113, 1, 1543, 507), (116, 1, 1669, 1983), (117, 7, 130, 2229)]
def am_tb9 : List (Nat × Nat × Nat × Nat) := am_tb9_0 ++ (am_tb9_1)
def am_tb10_0 : List (Nat × Nat × Nat × Nat) := [(3, 9, 0, 294), (9, 3, 6, 295), (11, 1, 1792, 394), (17, 8, 39, 0), (18, 1, 1793, 396), (22, 1, 1794, 397), (25, 3, 5, 328), (27, 1, 1801, 410), (31, 8, 31, 1), (32, 1, 1796, 400), (36, 1, 1795, 398), (39, 1, 1797, 402), (42, 1, 768, 305), (46, 7, 106, 1795), (51, 1, 769, 308), (54, 1, 771, 313), (58, 1, 770, 310), (61, 1, 772, 315), (64, 7, 143, 2340), (68, 7, 101, 2341), (72, 7, 142, 2353), (76, 7, 113, 2354), (80, 7, 102, 2367), (84, 7, 107, 2368), (88, 1, 1799, 405), (91, 1, 1802, 412), (94, 7, 32, 1829), (98, 1, 640, 338), (101, 1, 642, 347), (104, 1, 643, 350)]
def am_tb10_1 : List (Nat × Nat × Nat × Nat) := [(107, 7, 147, 2165), (111, 1, 649, 366), (112, 1, 1804, 416), (115, 1, 1537, 488), (118, 5, 167772161, 2164), (119, 1, 1536, 485), (120, 7, 126, 2166), (124, 1, 1547, 517), (125, 1, 1539, 493), (128, 7, 110, 2167), (132, 1, 1538, 490), (135, 1, 1541, 502), (138, 7, 111, 2168), (141, 1, 1540, 498), (144, 7, 36, 2169), (147, 7, 103, 1211), (150, 7, 124, 1216)]
def am_tb10 : List (Nat × Nat × Nat × Nat) := am_tb10_0 ++ (am_tb10_1)
def am_tb11_0 : List (Nat × Nat × Nat × Nat) := [(1, 9, 0, 270), (7, 3, 11, 273), (11, 7, 100, 275), (14, 1, 1920, 811), (18, 3, 14, 289), (20, 7, 141, 291), (21, 1, 1921, 812), (25, 3, 3, 448), (27, 7, 502, 450), (28, 1, 1922, 813), (32, 1, 1923, 814), (35, 1, 1924, 815), (38, 1, 1925, 816), (42, 1, 1926, 817), (45, 1, 1927, 818), (49, 1, 1928, 819), (52, 3, 5, 474), (54, 8, 31, 2), (55, 1, 1929, 820), (59, 3, 12, 476), (61, 8, 125, 3), (62, 1, 1930, 821), (66, 3, 8, 545), (68, 7, 59, 547), (69, 1, 1931, 822), (73, 1, 1932, 823), (76, 1, 1933, 824), (79, 3, 9, 593), (81, 7, 77, 595), (82, 1, 1934, 825)]
def am_tb11_1 : List (Nat × Nat × Nat × Nat) := [(86, 1, 1935, 826), (89, 1, 1936, 827), (92, 3, 7, 666), (94, 7, 40, 668), (97, 7, 509, 736), (101, 7, 197, 1249), (105, 7, 101, 867), (111, 13, 46, 46), (116, 7, 198, 1321), (122, 13, 47, 47), (125, 7, 109, 1325), (127, 13, 48, 48), (129, 7, 199, 1358), (133, 7, 527, 1367), (136, 7, 115, 1368), (139, 7, 106, 871), (144, 13, 55, 55), (147, 7, 124, 1393), (151, 13, 56, 56), (153, 7, 505, 903), (156, 13, 57, 57), (158, 7, 191, 1410), (162, 13, 58, 58), (164, 13, 59, 59), (166, 7, 507, 907), (170, 1, 897, 679), (174, 1, 903, 688), (177, 1, 906, 692), (180, 1, 909, 697), (183, 1, 908, 695)]
def am_tb11_2 : List (Nat × Nat × Nat × Nat) := [(186, 1, 910, 698), (189, 1, 911, 700), (192, 13, 60, 60), (194, 5, 167772161, 1431), (195, 7, 41, 1432), (199, 7, 42, 1436), (203, 6, 255, 1252), (205, 7, 193, 1447), (208, 13, 61, 61), (210, 7, 204, 1451), (213, 7, 144, 2336), (216, 7, 145, 2349), (219, 13, 67, 67), (221, 7, 146, 2363), (224, 1, 1795, 399), (227, 13, 68, 68), (229, 1, 1792, 395), (233, 1, 768, 307), (238, 1, 769, 309), (241, 1, 770, 312), (245, 1, 771, 314), (248, 13, 69, 69), (250, 13, 70, 70), (252, 7, 102, 895), (255, 13, 71, 71), (257, 1, 1800, 409), (260, 13, 72, 72), (262, 7, 205, 2395), (265, 13, 73, 73), (267, 7, 202, 2428)]
def am_tb11_3 : List (Nat × Nat × Nat × Nat) := [(271, 13, 74, 74), (273, 7, 194, 2441), (276, 7, 195, 2445), (280, 13, 75, 75), (282, 13, 76, 76), (284, 7, 32, 2457), (287, 1, 649, 369), (288, 7, 110, 1857), (291, 7, 108, 1831), (295, 7, 148, 2458), (299, 7, 203, 2315), (302, 13, 77, 77), (304, 7, 211, 2477), (307, 13, 78, 78), (309, 7, 212, 1853), (313, 13, 79, 79), (315, 1, 899, 683), (318, 7, 113, 1830), (322, 13, 80, 80), (324, 13, 81, 81), (326, 7, 111, 1858), (329, 7, 35, 1862), (332, 13, 82, 82), (334, 13, 83, 83), (336, 5, 65535, 2515), (337, 13, 84, 84), (339, 13, 85, 85), (341, 3, 4, 921), (343, 7, 0, 1916), (346, 7, 5, 2518)]
def am_tb11_4 : List (Nat × Nat × Nat × Nat) := [(349, 7, 192, 899), (352, 13, 86, 86), (354, 7, 1, 1907), (357, 7, 2, 2530), (360, 13, 87, 87), (362, 7, 25, 2535), (366, 7, 117, 2539), (369, 7, 13, 2298), (372, 13, 88, 88), (374, 13, 89, 89), (376, 7, 28, 2290), (379, 7, 29, 1225), (382, 1, 519, 2064), (386, 1, 1283, 1936), (389, 1, 1282, 1933), (392, 1, 523, 2070), (395, 13, 90, 90), (397, 7, 8, 2567), (400, 7, 7, 2286), (403, 13, 91, 91), (405, 7, 30, 2576), (408, 1, 1027, 561), (409, 13, 92, 92), (411, 1, 1025, 557), (415, 1, 1026, 559), (418, 1, 1024, 555), (421, 13, 93, 93), (423, 7, 220, 883), (426, 13, 94, 94), (428, 13, 95, 95)]
def am_tb11_5 : List (Nat × Nat × Nat × Nat) := [(430, 7, 221, 891), (433, 1, 518, 2062), (436, 1, 1667, 1979), (441, 1, 1796, 401), (444, 1, 1797, 403), (447, 1, 1799, 406), (450, 7, 201, 1903), (454, 1, 1028, 563), (457, 7, 222, 2620), (460, 1, 1803, 415), (463, 1, 1804, 417), (466, 7, 200, 2624), (469, 13, 96, 96), (471, 7, 60, 879), (474, 7, 223, 887), (477, 7, 61, 1198), (481, 1, 1805, 418), (484, 7, 150, 1207), (487, 1, 1798, 404), (490, 7, 224, 1221), (494, 5, 1103515245, 2444), (495, 13, 49, 49), (497, 13, 50, 50), (499, 13, 51, 51), (501, 13, 52, 52), (503, 13, 53, 53), (505, 13, 54, 54), (507, 7, 4, 2432), (510, 1, 1802, 413), (513, 1, 1801, 411)]
def am_tb11_6 : List (Nat × Nat × Nat × Nat) := [(517, 1, 640, 339), (520, 7, 45, 2319), (524, 7, 143, 1455), (528, 7, 105, 1459), (529, 6, 2199023255553, 1463), (531, 6, 281474976710655, 1464), (533, 7, 52, 1465), (537, 7, 51, 1778), (541, 1, 643, 352), (544, 7, 206, 1820), (547, 7, 207, 1832), (550, 7, 213, 1873), (553, 7, 44, 2399), (556, 1, 513, 2053), (559, 7, 16, 2403), (562, 1, 648, 363), (563, 7, 103, 1824), (566, 1, 641, 343), (567, 7, 147, 1825), (571, 1, 642, 348), (573, 7, 118, 1197), (577, 7, 34, 1836), (580, 7, 208, 1841), (583, 7, 210, 1869), (586, 7, 123, 1845), (589, 7, 209, 1849), (593, 5, 34051, 1859), (594, 5, 34048, 1860), (595, 5, 49164, 1861), (596, 7, 104, 1852)]
def am_tb11_7 : List (Nat × Nat × Nat × Nat) := [(599, 7, 127, 1877), (603, 7, 214, 1894), (607, 7, 215, 1898), (610, 7, 216, 1911), (614, 7, 6, 2119), (618, 7, 126, 1902), (621, 7, 149, 2160), (624, 7, 18, 2170), (628, 1, 1540, 500), (631, 7, 217, 2264), (635, 1, 525, 2073), (638, 7, 218, 2268), (642, 1, 514, 2055), (645, 1, 1539, 494), (648, 1, 515, 2057), (651, 1, 1536, 486), (652, 1, 516, 2059), (655, 1, 1538, 491), (656, 5, 40000, 2118), (657, 1, 1664, 1972), (660, 1, 512, 2051), (663, 1, 520, 2066), (666, 7, 27, 2272), (669, 7, 26, 2282), (672, 1, 527, 2075), (675, 7, 80, 927), (678, 7, 62, 1076), (682, 7, 79, 1151), (684, 7, 74, 1155), (688, 7, 219, 2294)]
def am_tb11_8 : List (Nat × Nat × Nat × Nat) := [(692, 7, 78, 922), (694, 1, 528, 2076), (697, 1, 1153, 603), (699, 1, 1668, 1982)]
def am_tb11 : List (Nat × Nat × Nat × Nat) := am_tb11_0 ++ (am_tb11_1 ++ (am_tb11_2 ++ (am_tb11_3 ++ (am_tb11_4 ++ (am_tb11_5 ++ (am_tb11_6 ++ (am_tb11_7 ++ (am_tb11_8))))))))
def am_tb12_0 : List (Nat × Nat × Nat × Nat) := [(1, 9, 0, 3764), (7, 1, 2048, 3765), (13, 1, 2049, 3767)]
def am_tb12 : List (Nat × Nat × Nat × Nat) := am_tb12_0
def am_tb13_0 : List (Nat × Nat × Nat × Nat) := [(1, 9, 0, 3445), (7, 1, 2176, 3446), (13, 1, 2177, 3448)]
def am_tb13 : List (Nat × Nat × Nat × Nat) := am_tb13_0
def am_tb14_0 : List (Nat × Nat × Nat × Nat) := [(1, 9, 0, 3166)]
def am_tb14 : List (Nat × Nat × Nat × Nat) := am_tb14_0
def am_tb15_0 : List (Nat × Nat × Nat × Nat) := [(3, 9, 0, 2641), (9, 3, 20, 2642), (11, 1, 2440, 2660), (17, 3, 23, 2644), (19, 1, 2441, 2662), (23, 3, 22, 2646), (25, 1, 2442, 2664), (29, 1, 2443, 2666), (33, 4, 103, 2648), (34, 1, 2445, 2669), (38, 1, 2446, 2671), (41, 1, 2447, 2673), (44, 1, 2433, 2652), (48, 1, 2432, 2650)]
def am_tb15 : List (Nat × Nat × Nat × Nat) := am_tb15_0
def am_tb16_0 : List (Nat × Nat × Nat × Nat) := [(1, 9, 0, 3139)]
def am_tb16 : List (Nat × Nat × Nat × Nat) := am_tb16_0
def am_tb17_0 : List (Nat × Nat × Nat × Nat) := [(3, 9, 0, 3758), (9, 3, 16, 3759), (11, 8, 225, 11), (12, 1, 2697, 3796), (18, 1, 2704, 3805), (22, 1, 2709, 3812), (25, 3, 17, 3775), (27, 1, 2712, 3818), (31, 1, 2714, 3821), (34, 1, 2728, 3837), (37, 1, 2688, 3778), (40, 1, 2689, 3780), (43, 1, 2690, 3782), (46, 1, 2691, 3784), (49, 1, 2692, 3786), (52, 1, 2726, 3834), (55, 1, 2705, 3807), (58, 5, 1048583, 3777), (59, 1, 2693, 3788), (62, 1, 2695, 3792), (65, 1, 2696, 3794), (68, 2, 2049, 5), (71, 11, 0, 3381), (77, 10, 0, 3382), (80, 1, 2710, 3814), (83, 1, 2711, 3816), (87, 7, 235, 3361), (91, 1, 2694, 3790), (94, 7, 238, 3399), (98, 1, 2700, 3800)]
def am_tb17_1 : List (Nat × Nat × Nat × Nat) := [(101, 7, 233, 3400), (104, 7, 239, 4060)]
def am_tb17 : List (Nat × Nat × Nat × Nat) := am_tb17_0 ++ (am_tb17_1)
def am_tb18_0 : List (Nat × Nat × Nat × Nat) := [(1, 9, 0, 3946), (7, 1, 2820, 3951), (13, 1, 2821, 3953), (17, 1, 2822, 3955)]
def am_tb18 : List (Nat × Nat × Nat × Nat) := am_tb18_0
def am_tb19_0 : List (Nat × Nat × Nat × Nat) := [(1, 9, 0, 3245)]
def am_tb19 : List (Nat × Nat × Nat × Nat) := am_tb19_0
def am_tb20_0 : List (Nat × Nat × Nat × Nat) := [(1, 9, 0, 2634), (7, 1, 3074, 2716), (13, 1, 3075, 2717), (17, 3, 19, 2635), (19, 7, 229, 2638), (22, 1, 3077, 2719), (26, 3, 18, 2708), (28, 1, 3078, 2720), (32, 1, 3087, 2729), (35, 1, 3088, 2730), (38, 1, 3089, 2731), (41, 1, 3090, 2732), (45, 1, 3092, 2734), (48, 1, 3093, 2735), (51, 4, 103, 2710), (52, 1, 3094, 2736), (56, 3, 21, 2711), (58, 1, 3096, 2738), (62, 1, 3107, 2749), (65, 1, 3108, 2750), (68, 1, 3109, 2751), (71, 1, 3110, 2752), (74, 1, 3111, 2753), (77, 1, 3112, 2754), (80, 1, 3113, 2755), (83, 1, 3114, 2756), (86, 1, 3115, 2757), (89, 1, 3116, 2758), (92, 1, 3117, 2759), (95, 1, 3118, 2760)]
def am_tb20_1 : List (Nat × Nat × Nat × Nat) := [(98, 1, 3119, 2761), (101, 1, 3120, 2762), (104, 1, 3121, 2763), (107, 1, 3122, 2764), (110, 1, 3123, 2765), (113, 1, 3124, 2766), (116, 1, 3125, 2767), (119, 1, 3126, 2768), (122, 1, 3127, 2769), (125, 1, 3128, 2770), (128, 1, 3129, 2771), (131, 1, 3130, 2772), (134, 1, 3131, 2773), (137, 1, 3132, 2774), (140, 1, 3133, 2775), (143, 1, 3134, 2776), (146, 1, 3135, 2777), (149, 1, 3136, 2778), (152, 1, 3137, 2779), (155, 1, 3138, 2780), (158, 1, 3140, 2782), (161, 1, 3141, 2783), (164, 1, 3142, 2784), (167, 1, 3143, 2785), (170, 1, 3144, 2786), (173, 1, 3145, 2787), (176, 1, 3146, 2788), (179, 5, 32768, 2713), (180, 1, 3151, 2793), (183, 1, 3153, 2795)]
def am_tb20_2 : List (Nat × Nat × Nat × Nat) := [(186, 1, 3154, 2796), (189, 1, 3155, 2797), (192, 1, 3156, 2798), (195, 1, 3157, 2799), (198, 1, 3158, 2800), (201, 1, 3159, 2801), (204, 1, 3160, 2802), (207, 1, 3162, 2804), (210, 1, 3163, 2805), (213, 1, 3164, 2806), (216, 1, 3165, 2807), (219, 1, 3166, 2808), (222, 1, 3167, 2809), (225, 1, 3072, 2714), (228, 1, 3076, 2718), (231, 6, 255, 3014), (233, 7, 253, 3011), (237, 7, 247, 3015), (241, 7, 254, 3019), (245, 7, 246, 3027), (249, 6, 300, 3030), (251, 7, 248, 3031), (254, 13, 97, 97), (256, 13, 98, 98), (258, 13, 99, 99), (260, 13, 100, 100), (262, 13, 101, 101), (264, 13, 102, 102), (266, 7, 257, 3039), (270, 7, 527, 3048)]
def am_tb20_3 : List (Nat × Nat × Nat × Nat) := [(276, 7, 528, 3049), (280, 6, 5, 3050), (282, 5, 65535, 3062), (283, 7, 260, 3063), (287, 7, 261, 3059), (291, 1, 2432, 2651), (294, 6, 100, 3070), (296, 6, 600, 3071), (298, 6, 40, 3072), (300, 6, 500, 3073), (302, 7, 386, 3078), (306, 1, 2433, 2653), (309, 1, 2437, 2657), (312, 1, 2438, 2658), (315, 1, 2434, 2654), (318, 1, 2439, 2659), (321, 1, 2435, 2655), (324, 1, 2436, 2656), (327, 5, 167772160, 3093), (328, 5, 16777215, 3204), (329, 6, 2199023255552, 3117), (331, 1, 2440, 2661), (335, 1, 2560, 3140), (336, 3, 20, 3134), (340, 7, 268, 3090), (344, 7, 271, 3094), (348, 1, 2561, 3141), (352, 1, 3082, 2724), (355, 1, 3079, 2721), (358, 1, 3080, 2722)]
def am_tb20_4 : List (Nat × Nat × Nat × Nat) := [(361, 8, 228, 9), (362, 1, 2304, 3167), (365, 7, 273, 3180), (368, 7, 270, 3114), (372, 1, 2305, 3168), (375, 1, 2307, 3170), (379, 7, 275, 3183), (383, 7, 277, 3106), (387, 1, 3083, 2725), (390, 7, 274, 3110), (394, 6, 281474976710655, 3113), (396, 7, 286, 3118), (400, 6, 1000, 3101), (402, 7, 278, 3102), (405, 7, 285, 3122), (409, 1, 2306, 3169), (412, 1, 3081, 2723), (415, 6, 3, 3992), (417, 7, 288, 3125), (421, 7, 295, 3191), (424, 6, 4429186564, 3129), (426, 6, 4294967295, 3190), (428, 7, 289, 3130), (432, 7, 290, 3150), (436, 7, 287, 3187), (440, 7, 276, 3158), (444, 8, 230, 8), (445, 1, 3073, 2715), (448, 1, 2562, 3142), (451, 1, 2441, 2663)]
def am_tb20_5 : List (Nat × Nat × Nat × Nat) := [(455, 1, 2944, 3246), (456, 3, 23, 3240), (460, 1, 2945, 3247), (463, 7, 291, 3154), (467, 7, 292, 3233), (471, 7, 294, 3237), (475, 8, 243, 10), (476, 1, 2443, 2667), (479, 1, 2445, 2670), (482, 1, 2446, 2672), (485, 1, 2447, 2674), (488, 6, 20, 3195), (490, 7, 303, 3196), (493, 7, 298, 3931), (496, 1, 2442, 2665), (500, 1, 2816, 3947), (501, 3, 22, 3941), (503, 1, 2817, 3948), (506, 1, 2818, 3949), (509, 7, 296, 3935), (513, 7, 297, 3938), (517, 8, 241, 12), (518, 1, 2819, 3950), (519, 1, 2821, 3954), (522, 1, 2822, 3956), (525, 1, 2820, 3952), (528, 7, 242, 3972), (532, 7, 300, 3209), (535, 7, 262, 3213), (539, 7, 299, 3221)]
def am_tb20_6 : List (Nat × Nat × Nat × Nat) := [(543, 5, 65536, 3224), (544, 7, 269, 3200), (547, 1, 3084, 2726), (550, 7, 301, 3205), (554, 7, 302, 3217), (558, 7, 309, 3225), (562, 7, 323, 3254), (565, 7, 355, 3297), (569, 7, 305, 4214), (572, 6, 900, 4001), (574, 1, 3085, 2727), (577, 7, 249, 4002), (580, 7, 306, 4006), (584, 7, 293, 3229), (588, 6, 7, 3253), (590, 1, 3086, 2728), (593, 7, 310, 4021), (596, 1, 2444, 2668), (599, 7, 311, 4017), (603, 7, 312, 3269), (607, 7, 313, 4024), (610, 6, 65537, 3268), (612, 6, 65535, 3291), (614, 7, 317, 3262), (618, 7, 315, 3275), (622, 7, 316, 3278), (626, 7, 318, 3287), (629, 1, 3091, 2733), (632, 7, 319, 4031), (636, 7, 325, 3258)]
def am_tb20_7 : List (Nat × Nat × Nat × Nat) := [(639, 6, 5000, 3292), (641, 7, 327, 3293), (644, 7, 324, 3265), (647, 5, 34051, 3273), (648, 5, 34048, 3274), (649, 7, 326, 3281), (653, 6, 211157772206081, 3284), (655, 6, 60, 3285), (657, 6, 4, 3286), (659, 7, 351, 4052), (662, 6, 20000, 4047), (664, 7, 328, 4048), (667, 7, 350, 4073), (670, 1, 3095, 2737), (673, 5, 1103515245, 4086), (674, 6, 200, 4081), (676, 7, 331, 4082), (679, 7, 279, 4087), (682, 7, 280, 4088), (685, 7, 281, 4089), (688, 7, 282, 4090), (692, 1, 3097, 2739), (695, 7, 336, 3334), (699, 7, 338, 3304), (703, 7, 337, 3337), (706, 2, 2048, 4), (709, 2, 2689, 8), (711, 2, 2690, 9), (714, 2, 2691, 10), (717, 2, 2692, 11)]
def am_tb20_8 : List (Nat × Nat × Nat × Nat) := [(720, 2, 2708, 27), (723, 7, 237, 3357), (726, 7, 264, 3365), (729, 2, 2697, 16), (733, 7, 340, 3330), (737, 2, 2696, 15), (740, 7, 341, 3353), (744, 1, 3099, 2741), (747, 2, 2715, 34), (750, 7, 233, 3377), (753, 2, 2695, 14), (756, 7, 344, 3391), (760, 2, 2049, 6), (763, 2, 2719, 38), (766, 2, 2720, 39), (769, 2, 2721, 40), (772, 7, 238, 3373), (775, 2, 2700, 19), (778, 2, 2703, 22), (781, 10, 0, 3340), (787, 7, 232, 3383), (790, 2, 2705, 24), (791, 7, 345, 3387), (795, 2, 2698, 17), (798, 2, 2699, 18), (801, 7, 239, 3395), (804, 2, 2716, 35), (807, 2, 2694, 13), (810, 2, 2693, 12), (813, 7, 234, 3420)]
def am_tb20_9 : List (Nat × Nat × Nat × Nat) := [(816, 1, 3098, 2740), (819, 11, 0, 3411), (822, 2, 2704, 23), (825, 2, 2717, 36), (828, 2, 2725, 44), (831, 2, 2714, 33), (834, 7, 348, 3424), (838, 7, 347, 3416), (841, 7, 240, 4056), (844, 2, 2727, 46), (847, 7, 349, 4061), (850, 2, 2726, 45), (853, 7, 379, 4065), (856, 1, 3105, 2747), (859, 1, 3100, 2742), (862, 1, 3101, 2743), (865, 1, 3102, 2744), (868, 7, 339, 3301), (871, 1, 3103, 2745), (874, 1, 3104, 2746), (877, 1, 3106, 2748), (880, 7, 352, 3307), (884, 7, 354, 3311), (886, 7, 353, 3315), (889, 7, 359, 3318), (892, 7, 357, 3746), (896, 7, 356, 3750), (899, 7, 231, 3755), (902, 2, 2706, 25), (905, 2, 2707, 26)]
def am_tb20_10 : List (Nat × Nat × Nat × Nat) := [(908, 2, 2701, 20), (911, 2, 2702, 21), (914, 7, 358, 3922), (918, 2, 2728, 47), (919, 5, 40000, 3926), (920, 7, 335, 3927), (923, 7, 361, 3322), (926, 7, 342, 3349), (929, 7, 343, 3326), (932, 7, 360, 3345), (935, 7, 334, 3401), (939, 7, 363, 3404), (943, 7, 366, 3428), (946, 7, 367, 3432), (949, 2, 2688, 7), (951, 7, 452, 3466), (954, 7, 346, 3369), (957, 7, 362, 3341), (960, 7, 364, 3408), (963, 2, 2718, 37), (966, 7, 365, 3412), (969, 2, 2722, 41), (972, 2, 2723, 42), (975, 2, 2724, 43), (978, 7, 368, 3436), (980, 2, 2709, 28), (983, 7, 226, 3455), (986, 7, 369, 3459), (989, 7, 370, 3462), (992, 2, 2713, 32)]
def am_tb20_11 : List (Nat × Nat × Nat × Nat) := [(995, 2, 2712, 31), (999, 3, 17, 3440), (1001, 7, 227, 3442), (1003, 2, 2176, 2), (1006, 2, 2177, 3), (1007, 2, 2711, 30), (1010, 7, 235, 3498), (1012, 2, 2710, 29), (1015, 7, 372, 3503), (1018, 7, 236, 3742), (1021, 7, 388, 4099), (1024, 7, 250, 4103), (1027, 7, 375, 3482), (1030, 7, 251, 4107), (1033, 7, 252, 4111), (1036, 7, 378, 3490), (1039, 6, 18, 4131), (1041, 6, 65, 3522), (1043, 6, 90, 3523), (1045, 6, 97, 3529), (1047, 6, 122, 3530), (1049, 7, 399, 3519), (1052, 7, 396, 3555), (1055, 7, 397, 3562), (1058, 7, 406, 3511), (1061, 7, 411, 3607), (1064, 7, 421, 3611), (1067, 7, 422, 3615), (1070, 7, 425, 3619), (1073, 7, 407, 3515)]
def am_tb20_12 : List (Nat × Nat × Nat × Nat) := [(1076, 7, 416, 3532), (1079, 7, 408, 3574), (1082, 7, 409, 3586), (1085, 7, 410, 3594), (1088, 7, 412, 3599), (1091, 7, 413, 3603), (1094, 6, 33, 3524), (1096, 6, 126, 3525), (1098, 7, 400, 3526), (1101, 6, 32, 3531), (1103, 7, 403, 3578), (1106, 7, 402, 3582), (1110, 7, 404, 3590), (1114, 6, 48, 3548), (1116, 6, 49, 3598), (1118, 7, 401, 3559), (1121, 7, 414, 3544), (1124, 7, 418, 3536), (1127, 7, 415, 3551), (1130, 7, 419, 3566), (1133, 7, 420, 3570), (1136, 1, 3139, 2781), (1139, 6, 57, 3549), (1141, 6, 6, 3550), (1143, 7, 417, 3540), (1145, 6, 102, 3634), (1147, 7, 426, 3623), (1150, 7, 424, 3627), (1153, 7, 423, 3631), (1156, 7, 427, 3658)]
def am_tb20_13 : List (Nat × Nat × Nat × Nat) := [(1159, 7, 429, 3666), (1162, 7, 431, 3686), (1165, 7, 435, 3678), (1168, 7, 428, 3654), (1171, 7, 430, 3662), (1174, 1, 3149, 2791), (1177, 7, 438, 3670), (1180, 7, 436, 3674), (1183, 7, 439, 3694), (1186, 7, 433, 3698), (1189, 7, 434, 3690), (1192, 7, 432, 3682), (1195, 1, 3150, 2792), (1198, 1, 3147, 2789), (1201, 1, 3148, 2790), (1204, 1, 3152, 2794), (1207, 7, 440, 3639), (1210, 7, 441, 3718), (1213, 7, 445, 3706), (1216, 7, 446, 3710), (1219, 7, 442, 3714), (1222, 7, 443, 3722), (1225, 7, 444, 3726), (1228, 7, 448, 3730), (1231, 7, 449, 3734), (1234, 7, 437, 3650), (1237, 7, 451, 3642), (1241, 7, 447, 3702), (1244, 7, 398, 3470), (1247, 7, 377, 3474)]
def am_tb20_14 : List (Nat × Nat × Nat × Nat) := [(1250, 7, 453, 3478), (1253, 7, 371, 3494), (1256, 7, 373, 3499), (1258, 7, 405, 3507), (1261, 7, 454, 3635), (1264, 7, 374, 3738), (1267, 7, 376, 3486), (1270, 1, 3161, 2803), (1273, 7, 450, 3646), (1276, 6, 2, 4136), (1278, 6, 15, 4153), (1280, 7, 394, 4154), (1283, 7, 459, 4158), (1286, 7, 333, 4162), (1289, 7, 385, 4174), (1292, 7, 381, 4178), (1295, 7, 382, 4182), (1298, 7, 462, 4186), (1301, 7, 383, 4190), (1304, 7, 384, 4194), (1307, 7, 461, 4170), (1310, 7, 380, 4198), (1313, 7, 463, 4202), (1316, 7, 304, 4210), (1319, 7, 395, 4218)]
def am_tb20 : List (Nat × Nat × Nat × Nat) := am_tb20_0 ++ (am_tb20_1 ++ (am_tb20_2 ++ (am_tb20_3 ++ (am_tb20_4 ++ (am_tb20_5 ++ (am_tb20_6 ++ (am_tb20_7 ++ (am_tb20_8 ++ (am_tb20_9 ++ (am_tb20_10 ++ (am_tb20_11 ++ (am_tb20_12 ++ (am_tb20_13 ++ (am_tb20_14))))))))))))))
def am_tb21_0 : List (Nat × Nat × Nat × Nat) := [(7, 7, 152, 1245), (8, 3, 15, 265), (15, 7, 153, 1330), (21, 7, 154, 1353), (25, 7, 156, 1373), (30, 7, 157, 1397), (33, 7, 158, 1406), (36, 7, 159, 1419), (39, 7, 160, 1427), (42, 7, 161, 1443), (45, 7, 162, 2332), (48, 7, 163, 2345), (51, 7, 164, 2358), (55, 7, 165, 2372), (58, 7, 166, 2381), (61, 7, 167, 2389), (64, 7, 168, 2423), (67, 7, 169, 2436), (70, 7, 170, 2451), (73, 7, 171, 2465), (77, 7, 172, 2473), (80, 7, 173, 2486), (83, 7, 174, 2495), (87, 7, 175, 2504), (90, 7, 176, 2511), (93, 7, 177, 2525), (96, 7, 178, 2546), (99, 7, 179, 2555), (102, 7, 180, 2562), (106, 7, 181, 2571)]
def am_tb21_1 : List (Nat × Nat × Nat × Nat) := [(109, 7, 182, 2584), (112, 7, 183, 2593), (116, 7, 184, 2600), (119, 7, 185, 2609), (122, 7, 186, 2616), (125, 7, 151, 267), (126, 3, 24, 2629), (128, 7, 244, 2631), (129, 6, 4294967295, 4230), (131, 7, 468, 1241), (136, 7, 255, 3007), (137, 7, 245, 3003), (141, 7, 469, 1326), (144, 7, 256, 3023), (145, 7, 470, 1350), (148, 7, 258, 3035), (149, 7, 155, 863), (152, 7, 259, 3051), (153, 7, 471, 1369), (155, 7, 263, 3055), (156, 7, 472, 1394), (158, 7, 265, 3066), (159, 7, 473, 1403), (161, 7, 266, 3074), (162, 7, 474, 1416), (164, 7, 267, 3082), (165, 7, 475, 1424), (167, 7, 272, 3086), (168, 7, 476, 1440), (170, 7, 279, 3097)]
def am_tb21_2 : List (Nat × Nat × Nat × Nat) := [(171, 7, 477, 2329), (173, 7, 280, 3976), (174, 7, 478, 2342), (176, 7, 281, 3980), (177, 7, 479, 2355), (180, 7, 282, 3984), (181, 7, 480, 2369), (183, 7, 283, 3988), (184, 7, 481, 2378), (186, 7, 284, 3993), (187, 7, 482, 2386), (189, 7, 329, 4043), (190, 7, 483, 2420), (192, 7, 330, 4069), (193, 7, 484, 2433), (195, 7, 332, 4077), (196, 7, 485, 2448), (198, 7, 307, 3997), (199, 7, 486, 2462), (201, 7, 308, 4009), (202, 7, 487, 2470), (204, 7, 314, 4013), (205, 7, 488, 2483), (207, 7, 320, 4027), (208, 7, 489, 2492), (211, 7, 321, 4035), (212, 7, 490, 2501), (214, 7, 322, 4039), (215, 7, 491, 2508), (217, 7, 387, 4091)]
def am_tb21_3 : List (Nat × Nat × Nat × Nat) := [(218, 7, 492, 2522), (220, 7, 389, 4095), (221, 7, 493, 2543), (223, 7, 390, 4115), (224, 7, 494, 2552), (226, 7, 391, 4119), (227, 7, 495, 2559), (230, 7, 392, 4123), (231, 7, 496, 2568), (233, 7, 393, 4127), (234, 7, 497, 2581), (236, 7, 455, 4132), (237, 7, 498, 2590), (240, 7, 456, 4137), (241, 7, 499, 2597), (243, 7, 457, 4141), (244, 7, 500, 2606), (246, 7, 458, 4145), (247, 7, 501, 2613), (249, 7, 460, 4149), (250, 7, 187, 875), (254, 7, 464, 4166), (255, 7, 188, 1203), (258, 7, 465, 4206), (259, 7, 189, 1233), (263, 7, 466, 4222), (264, 7, 190, 1237), (268, 7, 467, 4226)]
def am_tb21 : List (Nat × Nat × Nat × Nat) := am_tb21_0 ++ (am_tb21_1 ++ (am_tb21_2 ++ (am_tb21_3)))
def am_tb22_0 : List (Nat × Nat × Nat × Nat) := [(1, 7, 510, 453), (7, 4, 104, 810), (9, 1, 385, 462), (48, 1, 386, 463), (66, 7, 518, 762), (69, 7, 503, 748), (79, 11, 0, 809), (118, 7, 512, 911), (123, 7, 506, 917), (129, 7, 504, 744), (131, 7, 508, 740)]
def am_tb22 : List (Nat × Nat × Nat × Nat) := am_tb22_0
def am_tb23_0 : List (Nat × Nat × Nat × Nat) := [(1, 7, 511, 456)]
def am_tb23 : List (Nat × Nat × Nat × Nat) := am_tb23_0
def am_tb24_0 : List (Nat × Nat × Nat × Nat) := [(1, 9, 0, 459)]
def am_tb24 : List (Nat × Nat × Nat × Nat) := am_tb24_0
def am_tb25_0 : List (Nat × Nat × Nat × Nat) := []
def am_tb25 : List (Nat × Nat × Nat × Nat) := am_tb25_0
def am_tb26_0 : List (Nat × Nat × Nat × Nat) := []
def am_tb26 : List (Nat × Nat × Nat × Nat) := am_tb26_0
def am_tb27_0 : List (Nat × Nat × Nat × Nat) := []
def am_tb27 : List (Nat × Nat × Nat × Nat) := am_tb27_0
def am_tb28_0 : List (Nat × Nat × Nat × Nat) := []
def am_tb28 : List (Nat × Nat × Nat × Nat) := am_tb28_0
def am_tb29_0 : List (Nat × Nat × Nat × Nat) := []
def am_tb29 : List (Nat × Nat × Nat × Nat) := am_tb29_0
def am_tb30_0 : List (Nat × Nat × Nat × Nat) := []
def am_tb30 : List (Nat × Nat × Nat × Nat) := am_tb30_0
def am_tb : Nat → List (Nat × Nat × Nat × Nat) := fun k => match k with
  | 0 => am_tb0
  | 1 => am_tb1
  | 2 => am_tb2
  | 3 => am_tb3
  | 4 => am_tb4
  | 5 => am_tb5
  | 6 => am_tb6
  | 7 => am_tb7
  | 8 => am_tb8
  | 9 => am_tb9
  | 10 => am_tb10
  | 11 => am_tb11
  | 12 => am_tb12
  | 13 => am_tb13
  | 14 => am_tb14
  | 15 => am_tb15
  | 16 => am_tb16
  | 17 => am_tb17
  | 18 => am_tb18
  | 19 => am_tb19
  | 20 => am_tb20
  | 21 => am_tb21
  | 22 => am_tb22
  | 23 => am_tb23
  | 24 => am_tb24
  | 25 => am_tb25
  | 26 => am_tb26
  | 27 => am_tb27
  | 28 => am_tb28
  | 29 => am_tb29
  | 30 => am_tb30
  | _ => []
def am_fty : Nat → Nat → FieldType := fun k => match k with
  | 0 => tyJ0
  | 1 => tyJ4
  | 2 => tyJx00060
  | 3 => tyJx4a65c
  | 4 => tyX0
  | 5 => tyX1
  | 6 => tyX2
  | 7 => tyX3
  | 8 => tyX4
  | 9 => tyX5
  | 10 => tyX6
  | 11 => tyX7
  | 12 => tyX8
  | 13 => tyX9
  | 14 => tyX10
  | 15 => tyX11
  | 16 => tyX12
  | 17 => tyX13
  | 18 => tyX14
  | 19 => tyX15
  | 20 => tyX16
  | 21 => tyX17
  | 22 => tyX18
  | 23 => tyX19
  | _ => tyX20
def am_df : Nat → List Value := fun k => match k with
  | 0 => [.null, .int 0, .int 0, .int 0]
  | 1 => [.null, .int 0, .int 0, .int 0]
  | 2 => [.null, .null, .null, .null, .null, .int 0]
  | 3 => [.int 0, .null, .int 0]
  | 4 => [.int 0, .int 0, .int 0, .int 0, .int 0, .null, .null, .null, .null, .int 0, .int 0, .int 0, .int 0, .int 0, .int 0, .int 0, .int 0, .int 0, .int 0]
  | 5 => [.int 0, .int 0, .int 0, .int 0, .int 0, .int 0, .int 0, .int 0, .int 0, .null, .null]
  | 6 => [.null, .int 0, .int 0, .int 0, .int 0]
  | 7 => [.int 0, .int 0, .int 0, .null, .null, .null, .null, .int 0, .null, .null, .int 0, .null, .int 0, .int 0, .int 0, .int 0]
  | 8 => [.null, .null, .null, .int 0, .int 0, .null, .null, .int 0, .null, .int 0, .int 0]
  | 9 => [.int 0, .int 0, .null, .int 0, .int 0, .int 0, .null, .int 0, .int 0, .int 0, .int 0, .int 0, .int 0, .null, .null, .null, .null, .int 0, .int 0]
  | 10 => [.int 0, .int 0, .null, .int 0, .int 0, .null, .null, .int 0]
  | 11 => [.null, .int 0]
  | 12 => [.int 0, .int 0, .int 0, .int 0, .int 0, .int 0, .int 0, .int 0, .int 0, .null, .int 0, .int 0]
  | 13 => [.int 0, .int 0, .int 0, .null, .int 0, .int 0, .int 0, .int 0, .int 0, .int 0, .int 0, .int 0, .int 0, .int 0, .int 0, .int 0, .int 0, .int 0, .int 0, .int 0]
  | 14 => [.null, .null, .null, .int 0, .int 0, .int 0, .int 0, .int 0, .int 0, .null, .int 0, .int 0, .int 0, .int 0]
  | 15 => [.null, .null, .null, .null, .null, .null, .null, .null, .null, .null, .null, .null, .null, .null, .null, .null, .null]
  | 16 => [.null, .int 0]
  | 17 => [.int 0, .null]
  | 18 => [.null, .int 0, .int 0, .int 0]
  | 19 => [.int 0, .int 0, .int 0, .int 0, .int 0, .int 0, .int 0, .int 0, .null, .null, .null, .null, .null, .null, .null, .null]
  | 20 => [.int 0, .long 0, .int 0]
  | 21 => [.int 0, .int 0, .int 0, .int 0, .int 0, .int 0, .int 0, .int 0, .int 0, .null, .int 0, .int 0, .int 0, .int 0, .int 0, .int 0, .int 0, .int 0, .int 0, .int 0, .int 0, .null, .int 0, .int 0, .null, .int 0, .int 0, .int 0, .int 0, .int 0, .int 0, .int 0, .int 0, .int 0, .int 0, .int 0, .int 0, .int 0, .int 0, .int 0, .int 0]
  | 22 => [.int 0, .int 0, .int 0, .int 0, .int 0, .null, .null]
  | 23 => [.int 0, .null]
  | _ => [.int 0, .int 0, .int 0, .null, .int 0, .null, .null, .int 0, .int 0, .int 0, .long 0, .long 0, .int 0, .int 0, .int 0, .null, .null, .null, .null, .int 0, .null, .null, .null, .int 0, .null, .int 0, .int 0, .int 0, .null, .int 0, .int 0, .int 0, .int 0, .int 0, .int 0, .null, .null, .null, .null, .null, .null, .null, .null, .null, .null, .null, .null, .null, .null, .null, .null, .null, .null, .null, .null, .null, .null, .null, .null, .null, .null, .null, .null, .null, .null, .null, .null, .int 0, .null, .null, .null, .null, .null, .null, .null, .int 0, .int 0, .int 0, .int 0, .null, .int 0, .null, .null, .null, .null, .null, .null, .null, .null, .int 0, .null, .null, .null, .null, .null, .null]
theorem am_cls3 : am_cls 3 RJx4a65c TJx4a65c 3 (am_fty 3) := ⟨by decide, rfl, am_pl [471, 467, 469] (by decide +kernel) (by decide +kernel), tyJx4a65c_ok, nmJx4a65c⟩
theorem am_cls4 : am_cls 4 RX0 TX0 19 (am_fty 4) := ⟨by decide, rfl, am_pl [2079, 2081, 2083, 2085, 2087, 2089, 2091, 2093, 2095, 2097, 2099, 2101, 2103, 2105, 2107, 2109, 2111, 2113, 2115] (by decide +kernel) (by decide +kernel), tyX0_ok, nmX0⟩
theorem am_cls5 : am_cls 5 RX1 TX1 11 (am_fty 5) := ⟨by decide, rfl, am_pl [371, 373, 375, 377, 379, 381, 383, 385, 387, 389, 391] (by decide +kernel) (by decide +kernel), tyX1_ok, nmX1⟩
theorem am_cls6 : am_cls 6 RX2 TX2 5 (am_fty 6) := ⟨by decide, rfl, am_pl [317, 319, 321, 323, 325] (by decide +kernel) (by decide +kernel), tyX2_ok, nmX2⟩
theorem am_cls7 : am_cls 7 RX3 TX3 16 (am_fty 7) := ⟨by decide, rfl, am_pl [702, 704, 706, 708, 710, 712, 714, 716, 718, 720, 722, 724, 726, 728, 730, 732] (by decide +kernel) (by decide +kernel), tyX3_ok, nmX3⟩
theorem am_cls8 : am_cls 8 RX4 TX4 11 (am_fty 8) := ⟨by decide, rfl, am_pl [570, 572, 574, 576, 578, 580, 582, 584, 586, 588, 590] (by decide +kernel) (by decide +kernel), tyX4_ok, nmX4⟩
theorem am_cls9 : am_cls 9 RX5 TX5 19 (am_fty 9) := ⟨by decide, rfl, am_pl [627, 629, 631, 633, 635, 637, 639, 641, 643, 645, 647, 649, 651, 653, 655, 657, 659, 661, 663] (by decide +kernel) (by decide +kernel), tyX5_ok, nmX5⟩
theorem am_cls10 : am_cls 10 RX6 TX6 8 (am_fty 10) := ⟨by decide, rfl, am_pl [1942, 1944, 1946, 1948, 1950, 1952, 1954, 1956] (by decide +kernel) (by decide +kernel), tyX6_ok, nmX6⟩
theorem am_cls11 : am_cls 11 RX7 TX7 2 (am_fty 11) := ⟨by decide, rfl, am_pl [283, 285] (by decide +kernel) (by decide +kernel), tyX7_ok, nmX7⟩
theorem am_cls12 : am_cls 12 RX8 TX8 12 (am_fty 12) := ⟨by decide, rfl, am_pl [519, 521, 523, 525, 527, 529, 531, 533, 535, 537, 539, 541] (by decide +kernel) (by decide +kernel), tyX8_ok, nmX8⟩
theorem am_cls13 : am_cls 13 RX9 TX9 20 (am_fty 13) := ⟨by decide, rfl, am_pl [2007, 2009, 2011, 2013, 2015, 2017, 2019, 2021, 2023, 2025, 2027, 2029, 2031, 2033, 2035, 2037, 2039, 2041, 2043, 2045] (by decide +kernel) (by decide +kernel), tyX9_ok, nmX9⟩
theorem am_cls14 : am_cls 14 RX10 TX10 14 (am_fty 14) := ⟨by decide, rfl, am_pl [419, 421, 423, 425, 427, 429, 431, 433, 435, 437, 439, 441, 443, 445] (by decide +kernel) (by decide +kernel), tyX10_ok, nmX10⟩
theorem am_cls15 : am_cls 15 RX11 TX11 17 (am_fty 15) := ⟨by decide, rfl, am_pl [828, 830, 832, 834, 836, 838, 840, 842, 844, 846, 848, 850, 852, 854, 856, 858, 860] (by decide +kernel) (by decide +kernel), tyX11_ok, nmX11⟩
theorem am_cls16 : am_cls 16 RX12 TX12 2 (am_fty 16) := ⟨by decide, rfl, am_pl [3770, 3772] (by decide +kernel) (by decide +kernel), tyX12_ok, nmX12⟩
theorem am_cls17 : am_cls 17 RX13 TX13 2 (am_fty 17) := ⟨by decide, rfl, am_pl [3450, 3452] (by decide +kernel) (by decide +kernel), tyX13_ok, nmX13⟩
theorem am_cls18 : am_cls 18 RX14 TX14 4 (am_fty 18) := ⟨by decide, rfl, am_pl [3171, 3173, 3175, 3177] (by decide +kernel) (by decide +kernel), tyX14_ok, nmX14⟩
theorem am_cls19 : am_cls 19 RX15 TX15 16 (am_fty 19) := ⟨by decide, rfl, am_pl [2675, 2677, 2679, 2681, 2683, 2685, 2687, 2689, 2691, 2693, 2695, 2697, 2699, 2701, 2703, 2705] (by decide +kernel) (by decide +kernel), tyX15_ok, nmX15⟩
theorem am_cls20 : am_cls 20 RX16 TX16 3 (am_fty 20) := ⟨by decide, rfl, am_pl [3143, 3145, 3147] (by decide +kernel) (by decide +kernel), tyX16_ok, nmX16⟩
theorem am_cls21 : am_cls 21 RX17 TX17 41 (am_fty 21) := ⟨by decide, rfl, am_pl [3839, 3841, 3843, 3845, 3847, 3849, 3851, 3853, 3855, 3857, 3859, 3861, 3863, 3865, 3867, 3869, 3871, 3873, 3875, 3877, 3879, 3881, 3883, 3885, 3887, 3889, 3891, 3893, 3895, 3897, 3899, 3901, 3903, 3905, 3907, 3909, 3911, 3913, 3915, 3917, 3919] (by decide +kernel) (by decide +kernel), tyX17_ok, nmX17⟩
theorem am_cls22 : am_cls 22 RX18 TX18 7 (am_fty 22) := ⟨by decide, rfl, am_pl [3957, 3959, 3961, 3963, 3965, 3967, 3969] (by decide +kernel) (by decide +kernel), tyX18_ok, nmX18⟩
theorem am_cls23 : am_cls 23 RX19 TX19 2 (am_fty 23) := ⟨by decide, rfl, am_pl [3248, 3250] (by decide +kernel) (by decide +kernel), tyX19_ok, nmX19⟩
theorem am_cls24 : am_cls 24 RX20 TX20 96 (am_fty 24) := ⟨by decide, rfl, am_pl [2810, 2812, 2814, 2816, 2818, 2820, 2822, 2824, 2826, 2828, 2830, 2832, 2834, 2836, 2838, 2840, 2842, 2844, 2846, 2848, 2850, 2852, 2854, 2856, 2858, 2860, 2862, 2864, 2866, 2868, 2870, 2872, 2874, 2876, 2878, 2880, 2882, 2884, 2886, 2888, 2890, 2892, 2894, 2896, 2898, 2900, 2902, 2904, 2906, 2908, 2910, 2912, 2914, 2916, 2918, 2920, 2922, 2924, 2926, 2928, 2930, 2932, 2934, 2936, 2938, 2940, 2942, 2944, 2946, 2948, 2950, 2952, 2954, 2956, 2958, 2960, 2962, 2964, 2966, 2968, 2970, 2972, 2974, 2976, 2978, 2980, 2982, 2984, 2986, 2988, 2990, 2992, 2994, 2996, 2998, 3000] (by decide +kernel) (by decide +kernel), tyX20_ok, nmX20⟩
theorem am_cls_of {ci : Nat} {C0 : String} {T : u_T} {N : Nat} (h : vwCl[ci]? = some (C0, T, N)) (h3 : 3 ≤ ci) : am_cls ci C0 T N (am_fty ci) := by
  match ci, h, h3 with
  | 3, h, _ => cases h; exact am_cls3
  | 4, h, _ => cases h; exact am_cls4
  | 5, h, _ => cases h; exact am_cls5
  | 6, h, _ => cases h; exact am_cls6
  | 7, h, _ => cases h; exact am_cls7
  | 8, h, _ => cases h; exact am_cls8
  | 9, h, _ => cases h; exact am_cls9
  | 10, h, _ => cases h; exact am_cls10
  | 11, h, _ => cases h; exact am_cls11
  | 12, h, _ => cases h; exact am_cls12
  | 13, h, _ => cases h; exact am_cls13
  | 14, h, _ => cases h; exact am_cls14
  | 15, h, _ => cases h; exact am_cls15
  | 16, h, _ => cases h; exact am_cls16
  | 17, h, _ => cases h; exact am_cls17
  | 18, h, _ => cases h; exact am_cls18
  | 19, h, _ => cases h; exact am_cls19
  | 20, h, _ => cases h; exact am_cls20
  | 21, h, _ => cases h; exact am_cls21
  | 22, h, _ => cases h; exact am_cls22
  | 23, h, _ => cases h; exact am_cls23
  | 24, h, _ => cases h; exact am_cls24
  | k + 25, h, _ => simp [vwCl] at h
theorem am_df_ok {ci : Nat} {C0 : String} {T : u_T} {N : Nat} (h : vwCl[ci]? = some (C0, T, N)) (h3 : 3 ≤ ci) : (am_df ci).length = N ∧ ∀ j, j < N → (am_df ci)[j]? = some (defaultValue (am_fty ci j)) := by
  match ci, h, h3 with
  | 3, h, _ => cases h; exact ⟨rfl, by decide +kernel⟩
  | 4, h, _ => cases h; exact ⟨rfl, by decide +kernel⟩
  | 5, h, _ => cases h; exact ⟨rfl, by decide +kernel⟩
  | 6, h, _ => cases h; exact ⟨rfl, by decide +kernel⟩
  | 7, h, _ => cases h; exact ⟨rfl, by decide +kernel⟩
  | 8, h, _ => cases h; exact ⟨rfl, by decide +kernel⟩
  | 9, h, _ => cases h; exact ⟨rfl, by decide +kernel⟩
  | 10, h, _ => cases h; exact ⟨rfl, by decide +kernel⟩
  | 11, h, _ => cases h; exact ⟨rfl, by decide +kernel⟩
  | 12, h, _ => cases h; exact ⟨rfl, by decide +kernel⟩
  | 13, h, _ => cases h; exact ⟨rfl, by decide +kernel⟩
  | 14, h, _ => cases h; exact ⟨rfl, by decide +kernel⟩
  | 15, h, _ => cases h; exact ⟨rfl, by decide +kernel⟩
  | 16, h, _ => cases h; exact ⟨rfl, by decide +kernel⟩
  | 17, h, _ => cases h; exact ⟨rfl, by decide +kernel⟩
  | 18, h, _ => cases h; exact ⟨rfl, by decide +kernel⟩
  | 19, h, _ => cases h; exact ⟨rfl, by decide +kernel⟩
  | 20, h, _ => cases h; exact ⟨rfl, by decide +kernel⟩
  | 21, h, _ => cases h; exact ⟨rfl, by decide +kernel⟩
  | 22, h, _ => cases h; exact ⟨rfl, by decide +kernel⟩
  | 23, h, _ => cases h; exact ⟨rfl, by decide +kernel⟩
  | 24, h, _ => cases h; exact ⟨rfl, by decide +kernel⟩
  | k + 25, h, _ => simp [vwCl] at h
theorem am_ini {ci : Nat} {C0 : String} {T : u_T} {N : Nat} (h : vwCl[ci]? = some (C0, T, N)) (h3 : 3 ≤ ci) : Jvm.Cond.instantiable C0 N ∈ am_T ∧ Jvm.Cond.initialized C0 ∈ am_T := by
  match ci, h, h3 with
  | 3, h, _ => cases h; exact ⟨am_inT (List.mem_of_getElem? (i := 449) (by decide +kernel)) rfl, am_inT (List.mem_of_getElem? (i := 228) (by decide +kernel)) rfl⟩
  | 4, h, _ => cases h; exact ⟨am_inT (List.mem_of_getElem? (i := 1915) (by decide +kernel)) rfl, am_inT (List.mem_of_getElem? (i := 255) (by decide +kernel)) rfl⟩
  | 5, h, _ => cases h; exact ⟨am_inT (List.mem_of_getElem? (i := 330) (by decide +kernel)) rfl, am_inT (List.mem_of_getElem? (i := 225) (by decide +kernel)) rfl⟩
  | 6, h, _ => cases h; exact ⟨am_inT (List.mem_of_getElem? (i := 297) (by decide +kernel)) rfl, am_inT (List.mem_of_getElem? (i := 224) (by decide +kernel)) rfl⟩
  | 7, h, _ => cases h; exact ⟨am_inT (List.mem_of_getElem? (i := 667) (by decide +kernel)) rfl, am_inT (List.mem_of_getElem? (i := 232) (by decide +kernel)) rfl⟩
  | 8, h, _ => cases h; exact ⟨am_inT (List.mem_of_getElem? (i := 546) (by decide +kernel)) rfl, am_inT (List.mem_of_getElem? (i := 230) (by decide +kernel)) rfl⟩
  | 9, h, _ => cases h; exact ⟨am_inT (List.mem_of_getElem? (i := 594) (by decide +kernel)) rfl, am_inT (List.mem_of_getElem? (i := 231) (by decide +kernel)) rfl⟩
  | 10, h, _ => cases h; exact ⟨am_inT (List.mem_of_getElem? (i := 1921) (by decide +kernel)) rfl, am_inT (List.mem_of_getElem? (i := 256) (by decide +kernel)) rfl⟩
  | 11, h, _ => cases h; exact ⟨am_inT (List.mem_of_getElem? (i := 274) (by decide +kernel)) rfl, am_inT (List.mem_of_getElem? (i := 222) (by decide +kernel)) rfl⟩
  | 12, h, _ => cases h; exact ⟨am_inT (List.mem_of_getElem? (i := 477) (by decide +kernel)) rfl, am_inT (List.mem_of_getElem? (i := 229) (by decide +kernel)) rfl⟩
  | 13, h, _ => cases h; exact ⟨am_inT (List.mem_of_getElem? (i := 1961) (by decide +kernel)) rfl, am_inT (List.mem_of_getElem? (i := 257) (by decide +kernel)) rfl⟩
  | 14, h, _ => cases h; exact ⟨am_inT (List.mem_of_getElem? (i := 290) (by decide +kernel)) rfl, am_inT (List.mem_of_getElem? (i := 223) (by decide +kernel)) rfl⟩
  | 15, h, _ => cases h; exact ⟨am_inT (List.mem_of_getElem? (i := 266) (by decide +kernel)) rfl, am_inT (List.mem_of_getElem? (i := 221) (by decide +kernel)) rfl⟩
  | 16, h, _ => cases h; exact ⟨am_inT (List.mem_of_getElem? (i := 3760) (by decide +kernel)) rfl, am_inT (List.mem_of_getElem? (i := 263) (by decide +kernel)) rfl⟩
  | 17, h, _ => cases h; exact ⟨am_inT (List.mem_of_getElem? (i := 3441) (by decide +kernel)) rfl, am_inT (List.mem_of_getElem? (i := 261) (by decide +kernel)) rfl⟩
  | 18, h, _ => cases h; exact ⟨am_inT (List.mem_of_getElem? (i := 3162) (by decide +kernel)) rfl, am_inT (List.mem_of_getElem? (i := 259) (by decide +kernel)) rfl⟩
  | 19, h, _ => cases h; exact ⟨am_inT (List.mem_of_getElem? (i := 2637) (by decide +kernel)) rfl, am_inT (List.mem_of_getElem? (i := 238) (by decide +kernel)) rfl⟩
  | 20, h, _ => cases h; exact ⟨am_inT (List.mem_of_getElem? (i := 3135) (by decide +kernel)) rfl, am_inT (List.mem_of_getElem? (i := 258) (by decide +kernel)) rfl⟩
  | 21, h, _ => cases h; exact ⟨am_inT (List.mem_of_getElem? (i := 3754) (by decide +kernel)) rfl, am_inT (List.mem_of_getElem? (i := 262) (by decide +kernel)) rfl⟩
  | 22, h, _ => cases h; exact ⟨am_inT (List.mem_of_getElem? (i := 3942) (by decide +kernel)) rfl, am_inT (List.mem_of_getElem? (i := 264) (by decide +kernel)) rfl⟩
  | 23, h, _ => cases h; exact ⟨am_inT (List.mem_of_getElem? (i := 3241) (by decide +kernel)) rfl, am_inT (List.mem_of_getElem? (i := 260) (by decide +kernel)) rfl⟩
  | 24, h, _ => cases h; exact ⟨am_inT (List.mem_of_getElem? (i := 2630) (by decide +kernel)) rfl, am_inT (List.mem_of_getElem? (i := 237) (by decide +kernel)) rfl⟩
  | k + 25, h, _ => simp [vwCl] at h
/-- the kinds of arrays of references that are made -/
theorem am_ao_ok {k : Nat} (h : (decide (104 ≤ k) && decide (k ≠ 199) && decide (am_kty k ∈ am_aot)) = true) : 104 ≤ k ∧ k ≠ 199 ∧ ∃ C0, am_kty k = .object C0 ∧ FieldType.object C0 ∈ am_aot := by
  simp only [Bool.and_eq_true, decide_eq_true_eq] at h
  obtain ⟨⟨h1, h2⟩, h3⟩ := h
  have hty : ∃ Cx, am_kty k = .object Cx := by
    unfold am_kty
    rw [if_neg (by omega), if_neg (by omega), if_neg (by omega), if_neg (by omega)]
    split
    · exact ⟨_, rfl⟩
    · exact ⟨_, rfl⟩
  obtain ⟨Cx, hCx⟩ := hty
  exact ⟨h1, h2, Cx, hCx, by rw [← hCx]; exact h3⟩
theorem am_w_AI : FieldType.array .int ∈ am_aot := by decide
theorem am_w_int : Jvm.Cond.arrayClass .int ∈ am_T := am_inT (List.mem_of_getElem? (i := 288) (by decide +kernel)) rfl
theorem am_w_long : Jvm.Cond.arrayClass .long ∈ am_T := am_inT (List.mem_of_getElem? (i := 735) (by decide +kernel)) rfl
theorem am_w_boolean : Jvm.Cond.arrayClass .boolean ∈ am_T := am_inT (List.mem_of_getElem? (i := 544) (by decide +kernel)) rfl
theorem am_w_oi : Jvm.Cond.instanceMethod Lib.objectInit ∈ am_T := am_inT (List.mem_of_getElem? (i := 271) (by decide +kernel)) rfl
theorem am_w_oc : Jvm.Cond.code Lib.objectInit ⟨#[0xb1]⟩ 1 none ∈ am_T := am_inT (List.mem_of_getElem? (i := 272) (by decide +kernel)) rfl
theorem am_w_mins : Jvm.Cond.static Lib.Math.min.name ∈ am_T := am_inT (List.mem_of_getElem? (i := 804) (by decide +kernel)) rfl
theorem am_w_minc : Jvm.Cond.code Lib.Math.min.name Lib.Math.min.code 2 (some .int) ∈ am_T := am_inT (List.mem_of_getElem? (i := 805) (by decide +kernel)) rfl
theorem am_w_maxs : Jvm.Cond.static Lib.Math.max.name ∈ am_T := am_inT (List.mem_of_getElem? (i := 756) (by decide +kernel)) rfl
theorem am_w_maxc : Jvm.Cond.code Lib.Math.max.name Lib.Math.max.code 2 (some .int) ∈ am_T := am_inT (List.mem_of_getElem? (i := 757) (by decide +kernel)) rfl
theorem am_w_math : Jvm.Cond.initialized "java/lang/Math" ∈ am_T := am_inT (List.mem_of_getElem? (i := 234) (by decide +kernel)) rfl
def am_ck (own : String) (q : Nat × Nat × Nat × Nat) : Bool :=
  match q.2.1 with
  | 1 => match vwCl[q.2.2.1 / 128]? with
    | some r => decide (3 ≤ q.2.2.1 / 128) && decide (q.2.2.1 % 128 < r.2.2) && decide (lw_tbl[q.2.2.2]? = some (Jvm.Cond.fieldLink own q.1 (r.2.1 (q.2.2.1 % 128)).1 (r.2.1 (q.2.2.1 % 128)).2.1 (r.2.1 (q.2.2.1 % 128)).2.2.1))
    | none => false
  | 2 => match vwCl[q.2.2.1 / 128]? with
    | some r => match am_nf[q.2.2.2]? with
      | some z => decide (3 ≤ q.2.2.1 / 128) && decide (q.2.2.1 % 128 < r.2.2) && decide ((z.1, z.2.1, z.2.2.1, z.2.2.2.1, z.2.2.2.2.1) = (own, q.1, (r.2.1 (q.2.2.1 % 128)).1, (r.2.1 (q.2.2.1 % 128)).2.1, (r.2.1 (q.2.2.1 % 128)).2.2.1))
      | none => false
    | none => false
  | 3 => match vwCl[q.2.2.1]? with
    | some r => decide (3 ≤ q.2.2.1) && decide (lw_tbl[q.2.2.2]? = some (Jvm.Cond.classLink own q.1 r.1))
    | none => false
  | 4 => decide (q.2.2.1 = 103) && decide (lw_tbl[q.2.2.2]? = some (Jvm.Cond.classLink own q.1 "[I")) || decide (q.2.2.1 = 104) && decide (lw_tbl[q.2.2.2]? = some (Jvm.Cond.classLink own q.1 "java/lang/Object"))
  | 5 => decide (lw_tbl[q.2.2.2]? = some (Jvm.Cond.constant own q.1 (Int32.ofNat q.2.2.1)))
  | 6 => decide (lw_tbl[q.2.2.2]? = some (Jvm.Cond.constantLong own q.1 (Int64.ofNat q.2.2.1)))
  | 7 => true
  | 8 => true
  | 9 => decide (lw_tbl[q.2.2.2]? = some (Jvm.Cond.methodLink own q.1 Lib.objectInit))
  | 10 => decide (lw_tbl[q.2.2.2]? = some (Jvm.Cond.methodLink own q.1 Lib.Math.min.name))
  | 11 => decide (lw_tbl[q.2.2.2]? = some (Jvm.Cond.methodLink own q.1 Lib.Math.max.name))
  | 12 => decide (lw_tbl[q.2.2.2]? = some (Jvm.Cond.methodLink own q.1 arraycopyName))
  | 13 => match am_strs[q.2.2.2]? with
    | some r => decide (r.1 = own) && decide (r.2.1 = q.1) && decide (r.2.2.2 = q.2.2.1)
    | none => false
  | _ => false
theorem am_ck0_0 : am_tb0_0.all (am_ck RX0) = true := by decide +kernel
theorem am_ck0_1 : am_tb0_1.all (am_ck RX0) = true := by decide +kernel
theorem am_ck0_2 : am_tb0_2.all (am_ck RX0) = true := by decide +kernel
theorem am_ck0_3 : am_tb0_3.all (am_ck RX0) = true := by decide +kernel
theorem am_ck0 : am_tb0.all (am_ck RX0) = true := by simp only [am_tb0, List.all_append, am_ck0_0, am_ck0_1, am_ck0_2, am_ck0_3, Bool.and_self]
theorem am_ck1_0 : am_tb1_0.all (am_ck RX1) = true := by decide +kernel
theorem am_ck1 : am_tb1.all (am_ck RX1) = true := by simp only [am_tb1, List.all_append, am_ck1_0, Bool.and_self]
theorem am_ck2_0 : am_tb2_0.all (am_ck RX2) = true := by decide +kernel
theorem am_ck2 : am_tb2.all (am_ck RX2) = true := by simp only [am_tb2, List.all_append, am_ck2_0, Bool.and_self]
theorem am_ck3_0 : am_tb3_0.all (am_ck RX3) = true := by decide +kernel
theorem am_ck3_1 : am_tb3_1.all (am_ck RX3) = true := by decide +kernel
theorem am_ck3_2 : am_tb3_2.all (am_ck RX3) = true := by decide +kernel
theorem am_ck3 : am_tb3.all (am_ck RX3) = true := by simp only [am_tb3, List.all_append, am_ck3_0, am_ck3_1, am_ck3_2, Bool.and_self]
theorem am_ck4_0 : am_tb4_0.all (am_ck RX4) = true := by decide +kernel
theorem am_ck4_1 : am_tb4_1.all (am_ck RX4) = true := by decide +kernel
theorem am_ck4_2 : am_tb4_2.all (am_ck RX4) = true := by decide +kernel
theorem am_ck4 : am_tb4.all (am_ck RX4) = true := by simp only [am_tb4, List.all_append, am_ck4_0, am_ck4_1, am_ck4_2, Bool.and_self]
theorem am_ck5_0 : am_tb5_0.all (am_ck RX5) = true := by decide +kernel
theorem am_ck5_1 : am_tb5_1.all (am_ck RX5) = true := by decide +kernel
theorem am_ck5 : am_tb5.all (am_ck RX5) = true := by simp only [am_tb5, List.all_append, am_ck5_0, am_ck5_1, Bool.and_self]
theorem am_ck6_0 : am_tb6_0.all (am_ck RX6) = true := by decide +kernel
theorem am_ck6 : am_tb6.all (am_ck RX6) = true := by simp only [am_tb6, List.all_append, am_ck6_0, Bool.and_self]
theorem am_ck7_0 : am_tb7_0.all (am_ck RX7) = true := by decide +kernel
theorem am_ck7 : am_tb7.all (am_ck RX7) = true := by simp only [am_tb7, List.all_append, am_ck7_0, Bool.and_self]
theorem am_ck8_0 : am_tb8_0.all (am_ck RX8) = true := by decide +kernel
theorem am_ck8 : am_tb8.all (am_ck RX8) = true := by simp only [am_tb8, List.all_append, am_ck8_0, Bool.and_self]
theorem am_ck9_0 : am_tb9_0.all (am_ck RX9) = true := by decide +kernel
theorem am_ck9_1 : am_tb9_1.all (am_ck RX9) = true := by decide +kernel
theorem am_ck9 : am_tb9.all (am_ck RX9) = true := by simp only [am_tb9, List.all_append, am_ck9_0, am_ck9_1, Bool.and_self]
theorem am_ck10_0 : am_tb10_0.all (am_ck RX10) = true := by decide +kernel
theorem am_ck10_1 : am_tb10_1.all (am_ck RX10) = true := by decide +kernel
theorem am_ck10 : am_tb10.all (am_ck RX10) = true := by simp only [am_tb10, List.all_append, am_ck10_0, am_ck10_1, Bool.and_self]
theorem am_ck11_0 : am_tb11_0.all (am_ck RX11) = true := by decide +kernel
theorem am_ck11_1 : am_tb11_1.all (am_ck RX11) = true := by decide +kernel
theorem am_ck11_2 : am_tb11_2.all (am_ck RX11) = true := by decide +kernel
theorem am_ck11_3 : am_tb11_3.all (am_ck RX11) = true := by decide +kernel
theorem am_ck11_4 : am_tb11_4.all (am_ck RX11) = true := by decide +kernel
theorem am_ck11_5 : am_tb11_5.all (am_ck RX11) = true := by decide +kernel
theorem am_ck11_6 : am_tb11_6.all (am_ck RX11) = true := by decide +kernel
theorem am_ck11_7 : am_tb11_7.all (am_ck RX11) = true := by decide +kernel
theorem am_ck11_8 : am_tb11_8.all (am_ck RX11) = true := by decide +kernel
theorem am_ck11 : am_tb11.all (am_ck RX11) = true := by simp only [am_tb11, List.all_append, am_ck11_0, am_ck11_1, am_ck11_2, am_ck11_3, am_ck11_4, am_ck11_5, am_ck11_6, am_ck11_7, am_ck11_8, Bool.and_self]
theorem am_ck12_0 : am_tb12_0.all (am_ck RX12) = true := by decide +kernel
theorem am_ck12 : am_tb12.all (am_ck RX12) = true := by simp only [am_tb12, List.all_append, am_ck12_0, Bool.and_self]
theorem am_ck13_0 : am_tb13_0.all (am_ck RX13) = true := by decide +kernel
theorem am_ck13 : am_tb13.all (am_ck RX13) = true := by simp only [am_tb13, List.all_append, am_ck13_0, Bool.and_self]
theorem am_ck14_0 : am_tb14_0.all (am_ck RX14) = true := by decide +kernel
theorem am_ck14 : am_tb14.all (am_ck RX14) = true := by simp only [am_tb14, List.all_append, am_ck14_0, Bool.and_self]
theorem am_ck15_0 : am_tb15_0.all (am_ck RX15) = true := by decide +kernel
theorem am_ck15 : am_tb15.all (am_ck RX15) = true := by simp only [am_tb15, List.all_append, am_ck15_0, Bool.and_self]
theorem am_ck16_0 : am_tb16_0.all (am_ck RX16) = true := by decide +kernel
theorem am_ck16 : am_tb16.all (am_ck RX16) = true := by simp only [am_tb16, List.all_append, am_ck16_0, Bool.and_self]
theorem am_ck17_0 : am_tb17_0.all (am_ck RX17) = true := by decide +kernel
theorem am_ck17_1 : am_tb17_1.all (am_ck RX17) = true := by decide +kernel
theorem am_ck17 : am_tb17.all (am_ck RX17) = true := by simp only [am_tb17, List.all_append, am_ck17_0, am_ck17_1, Bool.and_self]
theorem am_ck18_0 : am_tb18_0.all (am_ck RX18) = true := by decide +kernel
theorem am_ck18 : am_tb18.all (am_ck RX18) = true := by simp only [am_tb18, List.all_append, am_ck18_0, Bool.and_self]
theorem am_ck19_0 : am_tb19_0.all (am_ck RX19) = true := by decide +kernel
theorem am_ck19 : am_tb19.all (am_ck RX19) = true := by simp only [am_tb19, List.all_append, am_ck19_0, Bool.and_self]
theorem am_ck20_0 : am_tb20_0.all (am_ck RX20) = true := by decide +kernel
theorem am_ck20_1 : am_tb20_1.all (am_ck RX20) = true := by decide +kernel
theorem am_ck20_2 : am_tb20_2.all (am_ck RX20) = true := by decide +kernel
theorem am_ck20_3 : am_tb20_3.all (am_ck RX20) = true := by decide +kernel
theorem am_ck20_4 : am_tb20_4.all (am_ck RX20) = true := by decide +kernel
theorem am_ck20_5 : am_tb20_5.all (am_ck RX20) = true := by decide +kernel
theorem am_ck20_6 : am_tb20_6.all (am_ck RX20) = true := by decide +kernel
theorem am_ck20_7 : am_tb20_7.all (am_ck RX20) = true := by decide +kernel
theorem am_ck20_8 : am_tb20_8.all (am_ck RX20) = true := by decide +kernel
theorem am_ck20_9 : am_tb20_9.all (am_ck RX20) = true := by decide +kernel
theorem am_ck20_10 : am_tb20_10.all (am_ck RX20) = true := by decide +kernel
theorem am_ck20_11 : am_tb20_11.all (am_ck RX20) = true := by decide +kernel
theorem am_ck20_12 : am_tb20_12.all (am_ck RX20) = true := by decide +kernel
theorem am_ck20_13 : am_tb20_13.all (am_ck RX20) = true := by decide +kernel
theorem am_ck20_14 : am_tb20_14.all (am_ck RX20) = true := by decide +kernel
theorem am_ck20 : am_tb20.all (am_ck RX20) = true := by simp only [am_tb20, List.all_append, am_ck20_0, am_ck20_1, am_ck20_2, am_ck20_3, am_ck20_4, am_ck20_5, am_ck20_6, am_ck20_7, am_ck20_8, am_ck20_9, am_ck20_10, am_ck20_11, am_ck20_12, am_ck20_13, am_ck20_14, Bool.and_self]
theorem am_ck21_0 : am_tb21_0.all (am_ck RL) = true := by decide +kernel
theorem am_ck21_1 : am_tb21_1.all (am_ck RL) = true := by decide +kernel
theorem am_ck21_2 : am_tb21_2.all (am_ck RL) = true := by decide +kernel
theorem am_ck21_3 : am_tb21_3.all (am_ck RL) = true := by decide +kernel
theorem am_ck21 : am_tb21.all (am_ck RL) = true := by simp only [am_tb21, List.all_append, am_ck21_0, am_ck21_1, am_ck21_2, am_ck21_3, Bool.and_self]
theorem am_ck22_0 : am_tb22_0.all (am_ck RJx4a65c) = true := by decide +kernel
theorem am_ck22 : am_tb22.all (am_ck RJx4a65c) = true := by simp only [am_tb22, List.all_append, am_ck22_0, Bool.and_self]
theorem am_ck23_0 : am_tb23_0.all (am_ck RJxc12de) = true := by decide +kernel
theorem am_ck23 : am_tb23.all (am_ck RJxc12de) = true := by simp only [am_tb23, List.all_append, am_ck23_0, Bool.and_self]
theorem am_ck24_0 : am_tb24_0.all (am_ck RJxa1e45) = true := by decide +kernel
theorem am_ck24 : am_tb24.all (am_ck RJxa1e45) = true := by simp only [am_tb24, List.all_append, am_ck24_0, Bool.and_self]
theorem am_ck25_0 : am_tb25_0.all (am_ck RJ15) = true := by decide +kernel
theorem am_ck25 : am_tb25.all (am_ck RJ15) = true := by simp only [am_tb25, List.all_append, am_ck25_0, Bool.and_self]
theorem am_ck26_0 : am_tb26_0.all (am_ck RJ3) = true := by decide +kernel
theorem am_ck26 : am_tb26.all (am_ck RJ3) = true := by simp only [am_tb26, List.all_append, am_ck26_0, Bool.and_self]
theorem am_ck27_0 : am_tb27_0.all (am_ck RJ7) = true := by decide +kernel
theorem am_ck27 : am_tb27.all (am_ck RJ7) = true := by simp only [am_tb27, List.all_append, am_ck27_0, Bool.and_self]
theorem am_ck28_0 : am_tb28_0.all (am_ck RJ0) = true := by decide +kernel
theorem am_ck28 : am_tb28.all (am_ck RJ0) = true := by simp only [am_tb28, List.all_append, am_ck28_0, Bool.and_self]
theorem am_ck29_0 : am_tb29_0.all (am_ck RJ1) = true := by decide +kernel
theorem am_ck29 : am_tb29.all (am_ck RJ1) = true := by simp only [am_tb29, List.all_append, am_ck29_0, Bool.and_self]
theorem am_ck30_0 : am_tb30_0.all (am_ck RJ9) = true := by decide +kernel
theorem am_ck30 : am_tb30.all (am_ck RJ9) = true := by simp only [am_tb30, List.all_append, am_ck30_0, Bool.and_self]
theorem am_ck_all (cn : Nat) : ∀ q : Nat × Nat × Nat × Nat, q ∈ am_tb cn → am_ck (am_own cn) q = true := by
  match cn with
  | 0 => exact List.all_eq_true.mp am_ck0
  | 1 => exact List.all_eq_true.mp am_ck1
  | 2 => exact List.all_eq_true.mp am_ck2
  | 3 => exact List.all_eq_true.mp am_ck3
  | 4 => exact List.all_eq_true.mp am_ck4
  | 5 => exact List.all_eq_true.mp am_ck5
  | 6 => exact List.all_eq_true.mp am_ck6
  | 7 => exact List.all_eq_true.mp am_ck7
  | 8 => exact List.all_eq_true.mp am_ck8
  | 9 => exact List.all_eq_true.mp am_ck9
  | 10 => exact List.all_eq_true.mp am_ck10
  | 11 => exact List.all_eq_true.mp am_ck11
  | 12 => exact List.all_eq_true.mp am_ck12
  | 13 => exact List.all_eq_true.mp am_ck13
  | 14 => exact List.all_eq_true.mp am_ck14
  | 15 => exact List.all_eq_true.mp am_ck15
  | 16 => exact List.all_eq_true.mp am_ck16
  | 17 => exact List.all_eq_true.mp am_ck17
  | 18 => exact List.all_eq_true.mp am_ck18
  | 19 => exact List.all_eq_true.mp am_ck19
  | 20 => exact List.all_eq_true.mp am_ck20
  | 21 => exact List.all_eq_true.mp am_ck21
  | 22 => exact List.all_eq_true.mp am_ck22
  | 23 => exact List.all_eq_true.mp am_ck23
  | 24 => exact List.all_eq_true.mp am_ck24
  | 25 => exact List.all_eq_true.mp am_ck25
  | 26 => exact List.all_eq_true.mp am_ck26
  | 27 => exact List.all_eq_true.mp am_ck27
  | 28 => exact List.all_eq_true.mp am_ck28
  | 29 => exact List.all_eq_true.mp am_ck29
  | 30 => exact List.all_eq_true.mp am_ck30
  | k + 31 => exact fun q h => absurd h List.not_mem_nil
end
section
/-! THE METHODS: name, bytes, locals, type of the answer; class of its code, kind (0 static, 1 by its receiver, 2 a constructor, 9 not in use), parameters; the places of its words: code, static or instanceMethod, initialized, selects -/
abbrev am_M : Type := MethodName × Nat × Option FieldType × Nat × Nat × Nat × Nat × Nat × Nat × Nat
def am_mds0 : List am_M := [(yX0_init, 6, none, 0, 2, 5, 1918, 1917, 255, 0), (yX0_isServers, 1, some .boolean, 0, 1, 0, 1910, 1908, 255, 1909), (yX0_isToBeClosed, 1, some .boolean, 0, 1, 0, 2533, 2531, 255, 2532), (yX0_isSending, 1, some .boolean, 0, 1, 0, 2305, 2304, 255, 72), (yX0_isTimed, 1, some .boolean, 0, 1, 0, 2410, 2408, 255, 2409), (yX0_beginAsClient, 1, none, 0, 1, 0, 2521, 2519, 255, 2520), (yX0_beginAsServer, 2, none, 0, 1, 1, 2122, 2120, 255, 2121), (yX0_finish, 1, none, 0, 1, 0, 2289, 2287, 255, 2288), (yX0_giveUpAtOnce, 1, none, 0, 1, 0, 2419, 2417, 255, 2418), (yX0_end, 2, none, 0, 1, 1, 2183, 2182, 255, 58), (yX0_emit, 8, none, 0, 1, 4, 2143, 2142, 255, 56), (yX0_flagsOf, 2, some .int, 0, 1, 1, 2200, 2199, 255, 61), (yX0_sendNew, 4, none, 0, 1, 2, 2135, 2134, 255, 55), (yX0_transmit, 4, none, 0, 1, 0, 2301, 2299, 255, 2300), (yX0_noteProbing, 2, none, 0, 1, 0, 2314, 2313, 255, 73), (yX0_sendAgain, 3, none, 0, 1, 0, 2191, 2190, 255, 60), (yX0_age, 1, none, 0, 1, 0, 2406, 2404, 255, 2405), (yX0_runOut, 1, none, 0, 1, 0, 2414, 2413, 255, 77), (yX0_arrive, 2, some .boolean, 0, 1, 1, 2173, 2171, 255, 2172), (yX0_arriveAsked, 2, some .boolean, 0, 1, 1, 2177, 2176, 255, 57)]
def am_mds1 : List am_M := [(yX0_establish, 2, none, 0, 1, 1, 2187, 2186, 255, 59), (yX0_isThirdDouble, 3, some .boolean, 0, 1, 1, 2207, 2206, 255, 62), (yX0_isEndedByAcknowledgement, 1, some .boolean, 0, 1, 0, 2238, 2237, 255, 64), (yX0_waitOut, 1, none, 0, 1, 0, 2242, 2241, 255, 65), (yX0_takeIn, 2, none, 0, 1, 1, 2246, 2245, 255, 66), (yX0_takeWritten, 3, some .int, 0, 1, 1, 2538, 2536, 255, 2537), (yX0_hasRest, 1, some .boolean, 0, 1, 0, 2285, 2283, 255, 2284), (yX0_writeRest, 2, none, 0, 1, 0, 2275, 2273, 255, 2274), (yX0_takeUnread, 4, some .int, 0, 1, 1, 2293, 2291, 255, 2292), (yX0_isEndTold, 1, some .boolean, 0, 1, 0, 1228, 1226, 255, 1227), (yX0_tell, 2, some .int, 0, 1, 1, 2579, 2577, 255, 2578), (yX1_init, 1, none, 1, 2, 0, 333, 332, 225, 0), (yX1_begin, 4, none, 1, 1, 3, 1512, 1510, 225, 1511), (yX1_copyOf, 2, none, 1, 1, 1, 1526, 1524, 225, 1525), (yX1_headSum, 1, some .int, 1, 1, 0, 1839, 1837, 225, 1838), (yX1_closeNames, 2, none, 1, 1, 0, 1865, 1863, 225, 1864), (yX1_closeSegment, 1, none, 1, 1, 0, 2155, 2153, 225, 2154), (yX1_putPiece, 6, none, 1, 1, 4, 1533, 1531, 225, 1532), (yX1_isWhole, 2, some .boolean, 1, 1, 0, 1777, 1775, 225, 1776), (yX2_init, 1, none, 2, 2, 0, 300, 299, 224, 0)]
def am_mds2 : List am_M := [(yX3_init, 5, none, 3, 2, 3, 670, 669, 232, 0), (yX3_placeOf, 3, some .int, 3, 1, 1, 1435, 1433, 232, 1434), (yX3_hardwareAt, 2, some .long, 3, 1, 1, 1439, 1437, 232, 1438), (yX3_learn, 6, none, 3, 1, 4, 1489, 1488, 232, 36), (yX3_dropOld, 4, none, 3, 1, 1, 2402, 2400, 232, 2401), (yX3_post, 4, none, 3, 1, 2, 2322, 2320, 232, 2321), (yX3_ask, 4, none, 3, 1, 2, 2327, 2326, 232, 75), (yX3_sendMessage, 9, none, 3, 1, 5, 1819, 1818, 232, 44), (yX3_sendPieces, 8, none, 3, 1, 3, 1786, 1785, 232, 41), (yX3_sendPart, 9, none, 3, 1, 5, 1790, 1789, 232, 42), (yX3_dropWaiting, 4, none, 3, 1, 1, 1815, 1814, 232, 43), (yX3_sendLearned, 8, none, 3, 1, 2, 1781, 1779, 232, 1780), (yX3_takeFrame, 7, some .int, 3, 1, 3, 1468, 1466, 232, 1467), (yX3_isMessage, 2, some .boolean, 3, 0, 1, 1472, 1471, 232, 0), (yX3_takeMessage, 6, none, 3, 1, 2, 1482, 1481, 232, 35), (yX3_isDatagram, 4, some .boolean, 3, 1, 1, 1502, 1501, 232, 37), (yX3_takeDatagram, 9, some .boolean, 3, 1, 3, 1508, 1507, 232, 38), (yX3_keptPlace, 4, some .int, 3, 1, 1, 1518, 1517, 232, 39), (yX3_dropKept, 4, none, 3, 1, 1, 1522, 1521, 232, 40), (yX4_init, 2, none, 4, 2, 0, 549, 548, 230, 0)]
def am_mds3 : List am_M := [(yX4_forget, 1, none, 4, 1, 0, 882, 880, 230, 881), (yX4_isLike, 4, some .boolean, 4, 1, 1, 1201, 1199, 230, 1200), (yX4_perform, 8, some .int, 4, 1, 2, 1079, 1077, 230, 1078), (yX4_isFileName, 4, some .boolean, 4, 0, 1, 1085, 1084, 230, 0), (yX4_placeOf, 3, some .int, 4, 1, 1, 1095, 1094, 230, 20), (yX4_isMatched, 5, some .boolean, 4, 1, 3, 1108, 1107, 230, 22), (yX4_showList, 2, some .int, 4, 1, 0, 1089, 1088, 230, 19), (yX4_show, 5, some .int, 4, 1, 2, 1104, 1103, 230, 21), (yX4_cutRange, 9, some .int, 4, 1, 1, 1125, 1124, 230, 23), (yX4_replace, 4, some .int, 4, 1, 2, 1134, 1133, 230, 24), (yX4_append, 3, some .int, 4, 1, 2, 1146, 1145, 230, 27), (yX4_change, 2, none, 4, 1, 1, 1142, 1141, 230, 26), (yX4_insert, 5, some .int, 4, 1, 1, 1138, 1137, 230, 25), (yX4_remove, 5, none, 4, 1, 1, 1150, 1149, 230, 28), (yX4_writeAnswer, 6, none, 4, 1, 4, 1158, 1156, 230, 1157), (yX4_writeRange, 3, none, 4, 1, 2, 1191, 1190, 230, 29), (yX4_wordOf, 1, some (.object "java/lang/String"), 4, 0, 1, 1161, 1160, 230, 0), (yX5_init, 1, none, 5, 2, 0, 597, 596, 231, 0), (yX5_begin, 1, none, 5, 1, 0, 925, 923, 231, 924), (yX5_isLast, 1, some .boolean, 5, 1, 0, 1154, 1152, 231, 1153)]
def am_mds4 : List am_M := [(yX5_feed, 3, some .int, 5, 1, 1, 930, 928, 231, 929), (yX5_wrongInHead, 2, some .int, 5, 1, 1, 961, 960, 231, 10), (yX5_canStand, 6, some .boolean, 5, 1, 1, 965, 964, 231, 11), (yX5_stepOn, 2, none, 5, 1, 1, 969, 968, 231, 12), (yX5_methodIn, 2, some .int, 5, 1, 0, 973, 972, 231, 13), (yX5_noteVersion, 1, none, 5, 1, 0, 1037, 1036, 231, 15), (yX5_noteField, 3, none, 5, 1, 0, 1043, 1042, 231, 16), (yX5_noteLength, 2, none, 5, 1, 1, 1058, 1057, 231, 17), (yX5_noteValue, 4, none, 5, 1, 3, 1068, 1067, 231, 18), (yX5_judge, 1, some .int, 5, 1, 0, 1033, 1032, 231, 14), (yX5_feedBody, 2, some .int, 5, 1, 1, 934, 933, 231, 7), (yX5_expect, 4, some .int, 5, 1, 3, 957, 956, 231, 9), (yX5_feedSize, 3, some .int, 5, 1, 1, 952, 951, 231, 8), (yX6_init, 2, none, 6, 2, 0, 1924, 1923, 256, 0), (yX6_begin, 2, none, 6, 1, 1, 2126, 2124, 256, 2125), (yX6_unread, 1, some .int, 6, 1, 0, 1232, 1230, 256, 1231), (yX6_window, 1, some .int, 6, 1, 0, 2150, 2148, 256, 2149), (yX6_takeBytes, 8, none, 6, 1, 1, 2250, 2248, 256, 2249), (yX6_joinPieces, 6, none, 6, 1, 0, 2257, 2256, 256, 67), (yX6_firstPiece, 3, some .int, 6, 1, 0, 2261, 2260, 256, 68)]
def am_mds5 : List am_M := [(yX7_init, 2, none, 7, 2, 1, 277, 276, 222, 0), (yX7_length, 1, some .int, 7, 1, 0, 870, 868, 222, 869), (yX7_at, 2, some .int, 7, 1, 1, 898, 896, 222, 897), (yX7_twoAt, 2, some .int, 7, 1, 1, 1214, 1212, 222, 1213), (yX7_fourAt, 2, some .int, 7, 1, 1, 1477, 1475, 222, 1476), (yX7_hardwareAt, 5, some .long, 7, 1, 1, 1462, 1460, 222, 1461), (yX7_empty, 1, none, 7, 1, 0, 874, 872, 222, 873), (yX7_setAt, 3, none, 7, 1, 2, 1773, 1771, 222, 1772), (yX7_setTwo, 3, none, 7, 1, 2, 1810, 1808, 222, 1809), (yX7_add, 2, none, 7, 1, 1, 938, 936, 222, 937), (yX7_addTwo, 2, none, 7, 1, 1, 1183, 1181, 222, 1182), (yX7_addFour, 2, none, 7, 1, 1, 1806, 1804, 222, 1805), (yX7_addHardware, 3, none, 7, 1, 1, 1799, 1797, 222, 1798), (yX7_addRow, 4, none, 7, 1, 3, 1072, 1070, 222, 1071), (yX7_addZeros, 2, none, 7, 1, 1, 1537, 1535, 222, 1536), (yX7_addText, 4, none, 7, 1, 1, 1113, 1111, 222, 1112), (yX7_addNumber, 4, none, 7, 1, 1, 1117, 1115, 222, 1116), (yX7_removeFirst, 2, none, 7, 1, 1, 2542, 2540, 222, 2541), (yX7_isSame, 6, some .boolean, 7, 1, 4, 1121, 1119, 222, 1120), (yX7_compare, 4, some .int, 7, 1, 1, 1099, 1097, 222, 1098)]
def am_mds6 : List am_M := [(yX7_hasText, 5, some .boolean, 7, 1, 2, 978, 976, 222, 977), (yX7_isWord, 8, some .boolean, 7, 1, 3, 1049, 1047, 222, 1048), (yX7_numberAt, 7, some .int, 7, 1, 2, 1054, 1052, 222, 1053), (yX7_behindName, 5, some .int, 7, 1, 1, 1848, 1846, 222, 1847), (yX7_sumOver, 7, some .int, 7, 1, 3, 1219, 1217, 222, 1218), (yX8_init, 1, none, 8, 2, 0, 480, 479, 229, 0), (yX8_has, 2, some .boolean, 8, 1, 1, 1890, 1888, 229, 1889), (yX8_isRightIn, 5, some .boolean, 8, 1, 1, 1880, 1878, 229, 1879), (yX8_optionIn, 7, some .int, 8, 0, 2, 1893, 1892, 229, 0), (yX9_init, 2, none, 9, 2, 1, 1964, 1963, 257, 0), (yX9_underWay, 1, some .int, 9, 1, 0, 2224, 2222, 257, 2223), (yX9_sentBytes, 2, some .int, 9, 1, 0, 2139, 2137, 257, 2138), (yX9_acknowledgedBytes, 2, some .int, 9, 1, 0, 2195, 2193, 257, 2194), (yX9_unsent, 1, some .int, 9, 1, 0, 2309, 2307, 257, 2308), (yX9_room, 1, some .int, 9, 1, 0, 2279, 2277, 257, 2278), (yX9_noteSent, 3, none, 9, 1, 2, 2159, 2157, 257, 2158), (yX9_noteAcknowledged, 5, none, 9, 1, 3, 2211, 2209, 257, 2210), (yX9_measure, 3, none, 9, 1, 1, 2217, 2216, 257, 63), (yX9_noteWindow, 3, none, 9, 1, 1, 2233, 2231, 257, 2232), (yX9_tellWindow, 2, none, 9, 1, 1, 2130, 2128, 257, 2129)]
def am_mds7 : List am_M := [(yX9_lowerThreshold, 2, none, 9, 1, 1, 2228, 2226, 257, 2227), (yX10_init, 2, none, 10, 2, 0, 293, 292, 223, 0), (yX10_open, 4, some (.object "Lanternserver$Frame"), 10, 1, 2, 1794, 1792, 223, 1793), (yX10_takeOut, 4, some (.object "Lanternserver$Frame"), 10, 1, 1, 1458, 1456, 223, 1457), (yX10_loseOne, 2, some .int, 10, 1, 1, 2339, 2337, 223, 2338), (yX10_doubleOne, 4, some .int, 10, 1, 1, 2352, 2350, 223, 2351), (yX10_spoilOne, 7, some .int, 10, 1, 3, 2366, 2364, 223, 2365), (yX10_letter, 5, some (.object "Lanternserver$Datagram"), 10, 1, 3, 1828, 1826, 223, 1827), (yX10_layOut, 2, none, 10, 1, 1, 2461, 2459, 223, 2460), (yX10_answerByReset, 6, none, 10, 1, 1, 2163, 2161, 223, 2162), (yX10_wrongSums, 4, some .int, 10, 1, 0, 1210, 1208, 223, 1209), (yX11_init, 1, none, 11, 2, 0, 269, 268, 221, 0), (yX11_type, 14, some .int, 11, 1, 6, 1248, 1246, 221, 1247), (yX11_put, 4, some .int, 11, 1, 2, 1333, 1331, 221, 1332), (yX11_piece, 3, some .int, 11, 1, 1, 1356, 1354, 221, 1355), (yX11_clear, 2, some .int, 11, 1, 0, 866, 864, 221, 865), (yX11_sum, 3, some .int, 11, 1, 2, 1376, 1374, 221, 1375), (yX11_addHost, 3, some .int, 11, 1, 2, 1400, 1398, 221, 1399), (yX11_setMtu, 5, some .int, 11, 1, 2, 1409, 1407, 221, 1408), (yX11_hostAt, 4, some .int, 11, 1, 2, 1422, 1420, 221, 1421)]
def am_mds8 : List am_M := [(yX11_tableAt, 5, some .int, 11, 1, 2, 1430, 1428, 221, 1429), (yX11_deliver, 2, some .int, 11, 1, 1, 1446, 1444, 221, 1445), (yX11_lose, 2, some .int, 11, 1, 1, 2335, 2333, 221, 2334), (yX11_twice, 2, some .int, 11, 1, 1, 2348, 2346, 221, 2347), (yX11_spoil, 4, some .int, 11, 1, 3, 2361, 2359, 221, 2360), (yX11_frameAt, 4, some .int, 11, 1, 2, 2375, 2373, 221, 2374), (yX11_byteAt, 4, some .int, 11, 1, 2, 2384, 2382, 221, 2383), (yX11_pass, 3, some .int, 11, 1, 1, 2392, 2390, 221, 2391), (yX11_settle, 5, some .int, 11, 1, 1, 2426, 2424, 221, 2425), (yX11_play, 8, some .int, 11, 1, 2, 2439, 2437, 221, 2438), (yX11_echo, 8, some .int, 11, 1, 3, 2454, 2452, 221, 2453), (yX11_isAnswered, 2, some .boolean, 11, 1, 1, 2468, 2466, 221, 2467), (yX11_name, 5, some .int, 11, 1, 1, 2476, 2474, 221, 2475), (yX11_lookUp, 5, some .int, 11, 1, 1, 2489, 2487, 221, 2488), (yX11_askAgain, 2, none, 11, 1, 1, 2498, 2496, 221, 2497), (yX11_found, 2, some .int, 11, 1, 1, 2507, 2505, 221, 2506), (yX11_connect, 6, some .int, 11, 1, 3, 2514, 2512, 221, 2513), (yX11_write, 4, some .int, 11, 1, 1, 2528, 2526, 221, 2527), (yX11_read, 5, some .int, 11, 1, 2, 2549, 2547, 221, 2548), (yX11_readAt, 4, some .int, 11, 1, 2, 2558, 2556, 221, 2557)]
def am_mds9 : List am_M := [(yX11_close, 4, some .int, 11, 1, 2, 2565, 2563, 221, 2564), (yX11_connectionAt, 3, some .int, 11, 1, 2, 2574, 2572, 221, 2573), (yX11_fileAt, 3, some .int, 11, 1, 2, 2587, 2585, 221, 2586), (yX11_fileByteAt, 5, some .int, 11, 1, 3, 2596, 2594, 221, 2595), (yX11_servedAt, 3, some .int, 11, 1, 2, 2603, 2601, 221, 2602), (yX11_answerAt, 4, some .int, 11, 1, 2, 2612, 2610, 221, 2611), (yX11_count, 2, some .int, 11, 1, 1, 2619, 2617, 221, 2618), (yX11_agrees, 3, some .boolean, 11, 1, 0, 878, 876, 221, 877), (yX11_errors, 3, some .int, 11, 1, 0, 1206, 1204, 221, 1205), (yX11_deliveredShare, 1, some .double, 11, 1, 0, 1236, 1234, 221, 1235), (yX11_meanAnswer, 4, some .float, 11, 1, 0, 1240, 1238, 221, 1239), (yX11_hasHost, 2, some .boolean, 11, 1, 1, 1413, 1412, 221, 33), (yX11_hasConnection, 2, some .boolean, 11, 1, 1, 902, 901, 221, 6), (yX11_isNoChoice, 1, some .boolean, 11, 0, 1, 1449, 1448, 221, 0), (yX11_nextSeed, 1, some .int, 11, 0, 1, 2443, 2442, 221, 0), (yX11_draw, 2, some .int, 11, 0, 2, 2447, 2446, 221, 0), (yX11_isAhead, 2, some .boolean, 11, 0, 2, 2203, 2202, 221, 0), (yX11_bytesIn, 4, some .int, 11, 0, 1, 1251, 1250, 221, 0), (yX11_typeNumber, 5, none, 11, 1, 1, 1324, 1323, 221, 32), (yX11_pieceText, 1, some (.object "java/lang/String"), 11, 0, 1, 1360, 1359, 221, 0)]
def am_mds10 : List am_M := [(yX11_answeredEchoes, 3, some .int, 11, 1, 0, 2627, 2626, 221, 81), (yX11_openMany, 5, some .int, 11, 1, 1, 1906, 1905, 221, 53), (yX11_isTimerRunning, 2, some .boolean, 11, 1, 0, 2431, 2430, 221, 78), (yX11_postAll, 3, none, 11, 1, 0, 2318, 2317, 221, 74), (yX11_carryOne, 9, some .int, 11, 1, 1, 1454, 1453, 221, 34), (yX11_tick, 4, none, 11, 1, 0, 2398, 2397, 221, 76), (yX11_takeEcho, 7, none, 11, 1, 1, 1823, 1822, 221, 45), (yX11_takeNames, 5, none, 11, 1, 1, 1835, 1834, 221, 46), (yX11_answerName, 6, none, 11, 1, 0, 1844, 1843, 221, 47), (yX11_isQuestionHead, 1, some .boolean, 11, 0, 1, 1851, 1850, 221, 0), (yX11_takeAnswer, 9, none, 11, 1, 1, 1872, 1871, 221, 49), (yX11_readName, 6, some .int, 11, 1, 0, 2480, 2479, 221, 79), (yX11_ownerOf, 6, some .int, 11, 1, 3, 1856, 1855, 221, 48), (yX11_takeSegment, 4, none, 11, 1, 1, 1876, 1875, 221, 50), (yX11_connectionOf, 4, some (.object "Lanternserver$Connection"), 11, 1, 1, 1897, 1896, 221, 51), (yX11_isBeginning, 2, some .boolean, 11, 1, 1, 1901, 1900, 221, 52), (yX11_newServers, 3, some (.object "Lanternserver$Connection"), 11, 1, 0, 1914, 1913, 221, 54), (yX11_serversOf, 5, some .int, 11, 1, 2, 2267, 2266, 221, 69), (yX11_serve, 7, none, 11, 1, 1, 2271, 2270, 221, 70), (yX11_noteServed, 4, none, 11, 1, 3, 2297, 2296, 221, 71)]
def am_mds11 : List am_M := [(yX11_servedMany, 1, some .int, 11, 1, 0, 886, 885, 221, 3), (yX11_servedNumber, 3, some .int, 11, 1, 2, 894, 893, 221, 5), (yX11_servedWell, 4, some .int, 11, 1, 0, 2623, 2622, 221, 80), (yX11_isServedNaively, 9, some .boolean, 11, 1, 1, 890, 889, 221, 4), (yX11_hasReadOtherwise, 4, some .boolean, 11, 1, 1, 1224, 1223, 221, 30), (yX12_init, 1, none, 12, 2, 0, 3763, 3762, 263, 0), (yX12_add, 4, none, 12, 1, 1, 3458, 3456, 263, 3457), (yX13_init, 3, none, 13, 2, 2, 3444, 3443, 261, 0), (yX14_init, 1, none, 14, 2, 0, 3165, 3164, 259, 0), (yX15_init, 3, none, 15, 2, 2, 2640, 2639, 238, 0), (yX16_init, 1, none, 16, 2, 0, 3138, 3137, 258, 0), (yX17_init, 8, none, 17, 2, 7, 3757, 3756, 262, 0), (yX17_underWay, 1, some .int, 17, 1, 0, 3386, 3384, 262, 3385), (yX17_sentBytes, 1, some .int, 17, 1, 0, 3380, 3378, 262, 3379), (yX17_goneBytes, 1, some .int, 17, 1, 0, 3423, 3421, 262, 3422), (yX17_waiting, 1, some .int, 17, 1, 0, 3364, 3362, 262, 3363), (yX17_isTold, 1, some .boolean, 17, 1, 0, 3745, 3743, 262, 3744), (yX17_ownWindow, 1, some .int, 17, 1, 0, 3360, 3358, 262, 3359), (yX17_isSending, 1, some .boolean, 17, 1, 0, 3376, 3374, 262, 3375), (yX17_isShut, 1, some .boolean, 17, 1, 0, 3398, 3396, 262, 3397)]
def am_mds12 : List am_M := [(yX17_isTimed, 1, some .boolean, 17, 1, 0, 4059, 4057, 262, 4058), (yX18_init, 1, none, 18, 2, 0, 3945, 3944, 264, 0), (yX18_isWhole, 3, some .boolean, 18, 1, 0, 3975, 3973, 264, 3974), (yX19_init, 1, none, 19, 2, 0, 3244, 3243, 260, 0), (yX20_init, 1, none, 20, 2, 0, 2633, 2632, 237, 0), (yX20_thrown, 1, some .int, 20, 1, 0, 3006, 3004, 237, 3005), (yX20_in, 6, some .boolean, 20, 0, 3, 3029, 3028, 237, 0), (yX20_fine, 2, some .boolean, 20, 1, 1, 3018, 3017, 237, 82), (yX20_fine_, 3, some .boolean, 20, 1, 2, 3034, 3033, 237, 84), (yX20_fine__, 4, some .boolean, 20, 1, 3, 4005, 4004, 237, 197), (yX20_tapeLength, 1, some .int, 20, 1, 0, 4106, 4104, 237, 4105), (yX20_tapeAt, 2, some .int, 20, 1, 1, 4110, 4108, 237, 4109), (yX20_tapeDrops, 3, none, 20, 1, 1, 4114, 4112, 237, 4113), (yX20_bytesOf, 4, some .int, 20, 0, 1, 3013, 3012, 237, 0), (yX20_puts, 5, none, 20, 1, 1, 3022, 3021, 237, 83), (yX20_type, 14, some .int, 20, 1, 6, 3010, 3008, 237, 3009), (yX20_put, 4, some .int, 20, 1, 2, 3026, 3024, 237, 3025), (yX20_pieceOf, 1, some (.object "java/lang/String"), 20, 0, 1, 3041, 3040, 237, 0), (yX20_piece, 6, some .int, 20, 1, 1, 3038, 3036, 237, 3037), (yX20_clear, 2, some .int, 20, 1, 0, 3054, 3052, 237, 3053)]
def am_mds13 : List am_M := [(yX20_added, 7, some .int, 20, 0, 4, 3065, 3064, 237, 0), (yX20_sumOf, 3, some .int, 20, 0, 3, 3061, 3060, 237, 0), (yX20_sumOver, 8, some .int, 20, 1, 6, 3216, 3214, 237, 3215), (yX20_sum, 3, some .int, 20, 1, 2, 3058, 3056, 237, 3057), (yX20_mssOf, 2, some .int, 20, 1, 1, 3368, 3366, 237, 3367), (yX20_addHost, 3, some .int, 20, 1, 2, 3069, 3067, 237, 3068), (yX20_setMtu, 4, some .int, 20, 1, 2, 3077, 3075, 237, 3076), (yX20_hostAt, 4, some .int, 20, 1, 2, 3085, 3083, 237, 3084), (yX20_addressOf, 1, some .int, 20, 0, 1, 3092, 3091, 237, 0), (yX20_hostWith, 3, some .int, 20, 1, 1, 3203, 3202, 237, 97), (yX20_hardwareOf, 1, some .long, 20, 0, 1, 3116, 3115, 237, 0), (yX20_knownOf, 3, some (.object "LanternserverModel$Known"), 20, 0, 2, 3096, 3095, 237, 0), (yX20_tableAt, 4, some .int, 20, 1, 2, 3089, 3087, 237, 3088), (yX20_puts_, 6, none, 20, 0, 4, 3182, 3181, 237, 0), (yX20_number, 6, some .long, 20, 0, 3, 3112, 3111, 237, 0), (yX20_toWire, 2, none, 20, 1, 1, 3186, 3185, 237, 94), (yX20_frame, 9, none, 20, 1, 5, 3161, 3160, 237, 93), (yX20_takenOff, 4, some (.object "LanternserverModel$Frame"), 20, 1, 1, 3109, 3108, 237, 87), (yX20_delivers, 7, some .int, 20, 1, 1, 3105, 3104, 237, 86), (yX20_deliver, 2, some .int, 20, 1, 1, 3100, 3098, 237, 3099)]
def am_mds14 : List am_M := [(yX20_lose, 2, some .int, 20, 1, 1, 3979, 3977, 237, 3978), (yX20_twice, 4, some .int, 20, 1, 1, 3983, 3981, 237, 3982), (yX20_spoil, 6, some .int, 20, 1, 3, 3987, 3985, 237, 3986), (yX20_frameAt, 4, some .int, 20, 1, 2, 3991, 3989, 237, 3990), (yX20_byteAt, 3, some .int, 20, 1, 2, 3996, 3994, 237, 3995), (yX20_copy, 5, some (.array .int), 20, 0, 3, 3124, 3123, 237, 0), (yX20_takes, 6, none, 20, 1, 2, 3121, 3120, 237, 88), (yX20_message, 8, some (.array .int), 20, 0, 5, 3189, 3188, 237, 0), (yX20_takesMessage, 10, some .boolean, 20, 1, 2, 3128, 3127, 237, 89), (yX20_keeps, 9, none, 20, 1, 4, 3133, 3132, 237, 90), (yX20_sendsWaiting, 10, none, 20, 1, 3, 3153, 3152, 237, 91), (yX20_sendsRows, 6, none, 20, 1, 3, 3157, 3156, 237, 92), (yX20_datagram, 10, some (.array .int), 20, 1, 7, 3236, 3235, 237, 102), (yX20_sends, 12, none, 20, 1, 5, 3232, 3230, 237, 3231), (yX20_records, 8, none, 20, 0, 4, 3239, 3238, 237, 0), (yX20_takesDatagram, 10, some .boolean, 20, 1, 2, 3194, 3193, 237, 95), (yX20_partOf, 6, some .int, 20, 0, 4, 3937, 3936, 237, 0), (yX20_forgets, 3, none, 20, 0, 2, 3940, 3939, 237, 0), (yX20_puts__, 12, none, 20, 1, 7, 3934, 3933, 237, 196), (yX20_areLike, 4, some .boolean, 20, 0, 2, 3223, 3222, 237, 0)]
def am_mds15 : List am_M := [(yX20_hasNoSum, 3, some .boolean, 20, 1, 2, 3212, 3211, 237, 99), (yX20_isRight, 5, some .boolean, 20, 1, 4, 3208, 3207, 237, 98), (yX20_wasSent, 10, some .boolean, 20, 1, 5, 3220, 3219, 237, 100), (yX20_took, 7, none, 20, 1, 5, 3199, 3198, 237, 96), (yX20_wireErrors, 5, some .int, 20, 1, 0, 4213, 4211, 237, 4212), (yX20_fits, 5, some .boolean, 20, 1, 2, 4217, 4216, 237, 218), (yX20_echoRow, 4, some (.array .int), 20, 0, 2, 4008, 4007, 237, 0), (yX20_echo, 5, some .int, 20, 1, 3, 4000, 3998, 237, 3999), (yX20_isAnswered, 2, some .boolean, 20, 1, 1, 4012, 4010, 237, 4011), (yX20_echoComes, 7, none, 20, 1, 3, 3228, 3227, 237, 101), (yX20_isNameByte, 1, some .boolean, 20, 0, 1, 4023, 4022, 237, 0), (yX20_nameOnTape, 6, some (.array .int), 20, 1, 0, 4020, 4019, 237, 198), (yX20_hostNamed, 3, some .int, 20, 1, 1, 3272, 3271, 237, 105), (yX20_partsOf, 3, some .int, 20, 0, 1, 4026, 4025, 237, 0), (yX20_name, 4, some .int, 20, 1, 1, 4016, 4014, 237, 4015), (yX20_question, 3, some (.array .int), 20, 0, 1, 3277, 3276, 237, 0), (yX20_joined, 4, some (.array .int), 20, 0, 2, 3280, 3279, 237, 0), (yX20_start, 4, some (.array .int), 20, 0, 3, 3264, 3263, 237, 0), (yX20_sendsByPorts, 8, none, 20, 1, 5, 3290, 3289, 237, 106), (yX20_asks, 2, none, 20, 1, 1, 4034, 4033, 237, 199)]
def am_mds16 : List am_M := [(yX20_lookUp, 4, some .int, 20, 1, 1, 4030, 4028, 237, 4029), (yX20_askAgain, 3, none, 20, 1, 1, 4038, 4036, 237, 4037), (yX20_found, 2, some .int, 20, 1, 1, 4042, 4040, 237, 4041), (yX20_nameComes, 9, none, 20, 1, 3, 3257, 3256, 237, 103), (yX20_nameIn, 4, some (.array .int), 20, 0, 1, 3267, 3266, 237, 0), (yX20_questionComes, 8, none, 20, 1, 3, 3261, 3260, 237, 104), (yX20_place, 2, some (.array .int), 20, 0, 1, 3283, 3282, 237, 0), (yX20_answerComes, 8, none, 20, 1, 3, 3296, 3295, 237, 107), (yX20_tick, 5, none, 20, 1, 0, 4051, 4050, 237, 200), (yX20_pass, 3, some .int, 20, 1, 1, 4046, 4044, 237, 4045), (yX20_settle, 6, some .int, 20, 1, 1, 4072, 4070, 237, 4071), (yX20_draw, 2, some .int, 20, 1, 1, 4085, 4084, 237, 205), (yX20_play, 8, some .int, 20, 1, 2, 4080, 4078, 237, 4079), (yX20_countOfWire, 2, some .int, 20, 1, 1, 4165, 4163, 237, 4164), (yX20_isAhead, 2, some .boolean, 20, 0, 2, 3403, 3402, 237, 0), (yX20_isLine, 2, some .boolean, 20, 1, 1, 3930, 3929, 237, 195), (yX20_two, 3, none, 20, 0, 3, 3336, 3335, 237, 0), (yX20_four, 3, none, 20, 0, 3, 3339, 3338, 237, 0), (yX20_twoAt, 2, some .int, 20, 0, 2, 3306, 3305, 237, 0), (yX20_fourAt, 2, some .int, 20, 0, 2, 3303, 3302, 237, 0)]
def am_mds17 : List am_M := [(yX20_sendSegment, 16, none, 20, 1, 12, 3333, 3332, 237, 114), (yX20_sendOn, 6, none, 20, 1, 5, 3356, 3355, 237, 118), (yX20_acknowledges, 2, none, 20, 1, 1, 3352, 3351, 237, 117), (yX20_resets, 3, none, 20, 1, 2, 3329, 3328, 237, 113), (yX20_timesAnew, 2, none, 20, 1, 1, 3394, 3393, 237, 121), (yX20_sendBytes, 4, none, 20, 1, 2, 3390, 3389, 237, 120), (yX20_sendsAll, 4, none, 20, 1, 1, 3372, 3371, 237, 119), (yX20_sendsAgain, 4, none, 20, 1, 1, 3419, 3418, 237, 124), (yX20_shrinks, 3, none, 20, 1, 2, 3427, 3426, 237, 125), (yX20_isOver, 2, none, 20, 1, 1, 4064, 4063, 237, 202), (yX20_doesATimerRun, 3, some .boolean, 20, 1, 0, 4076, 4075, 237, 204), (yX20_connectionsTick, 4, none, 20, 1, 1, 4055, 4054, 237, 201), (yX20_lineOf, 8, some (.object "LanternserverModel$Line"), 20, 1, 4, 3310, 3309, 237, 109), (yX20_toldMss, 5, some .int, 20, 0, 3, 3317, 3316, 237, 0), (yX20_has, 2, some .boolean, 20, 1, 1, 3314, 3313, 237, 110), (yX20_segment, 11, none, 20, 1, 5, 3300, 3299, 237, 108), (yX20_openOfServer, 3, some .int, 20, 1, 0, 3753, 3752, 237, 193), (yX20_comesToNone, 8, none, 20, 1, 5, 3749, 3748, 237, 192), (yX20_beginner, 3, some .int, 20, 1, 1, 3925, 3924, 237, 194), (yX20_comes, 4, none, 20, 1, 2, 3321, 3320, 237, 111)]
def am_mds18 : List am_M := [(yX20_establishes, 2, none, 20, 1, 1, 3348, 3347, 237, 116), (yX20_answers, 4, none, 20, 1, 2, 3325, 3324, 237, 112), (yX20_answerer, 4, some .int, 20, 1, 1, 3344, 3343, 237, 115), (yX20_isAcknowledged, 4, some .boolean, 20, 1, 1, 3407, 3406, 237, 122), (yX20_grows, 2, none, 20, 0, 1, 3410, 3409, 237, 0), (yX20_measures, 4, none, 20, 1, 1, 3415, 3414, 237, 123), (yX20_isFinGone, 2, some .boolean, 20, 1, 1, 3431, 3430, 237, 126), (yX20_takesBytes, 7, none, 20, 1, 1, 3435, 3434, 237, 127), (yX20_keeps_, 5, none, 20, 1, 2, 3439, 3438, 237, 128), (yX20_putsInOrder, 5, none, 20, 0, 1, 3461, 3460, 237, 0), (yX20_finComes, 2, none, 20, 1, 1, 3465, 3464, 237, 129), (yX20_isToRead, 2, some .int, 20, 1, 1, 3497, 3496, 237, 137), (yX20_reads, 4, none, 20, 1, 2, 3506, 3505, 237, 139), (yX20_takes_, 4, some .int, 20, 1, 1, 3502, 3501, 237, 138), (yX20_hasEnded, 2, some .boolean, 20, 1, 1, 3741, 3740, 237, 191), (yX20_room, 2, some .int, 20, 1, 1, 3485, 3484, 237, 134), (yX20_writes, 3, none, 20, 1, 2, 3489, 3488, 237, 135), (yX20_isOpen, 2, some .boolean, 20, 1, 1, 3477, 3476, 237, 132), (yX20_closes, 3, none, 20, 1, 1, 3493, 3492, 237, 136), (yX20_aborts, 2, none, 20, 1, 1, 4068, 4067, 237, 203)]
def am_mds19 : List am_M := [(yX20_hostOfLine, 2, some .int, 20, 1, 1, 4201, 4200, 237, 216), (yX20_writtenMany, 2, some .int, 20, 1, 1, 4181, 4180, 237, 211), (yX20_writtenAt, 3, some .int, 20, 1, 2, 4185, 4184, 237, 212), (yX20_readMany, 2, some .int, 20, 1, 1, 4193, 4192, 237, 214), (yX20_readByte, 3, some .int, 20, 1, 2, 4197, 4196, 237, 215), (yX20_otherEnd, 2, some .int, 20, 1, 1, 4177, 4176, 237, 210), (yX20_isHost, 2, some .boolean, 20, 1, 1, 3081, 3080, 237, 85), (yX20_connect, 5, some .int, 20, 1, 3, 4094, 4092, 237, 4093), (yX20_canWrite, 2, some .boolean, 20, 1, 1, 4102, 4101, 237, 206), (yX20_write, 6, some .int, 20, 1, 1, 4098, 4096, 237, 4097), (yX20_read, 6, some .int, 20, 1, 2, 4118, 4116, 237, 4117), (yX20_readAt, 3, some .int, 20, 1, 2, 4122, 4120, 237, 4121), (yX20_close, 6, some .int, 20, 1, 2, 4126, 4124, 237, 4125), (yX20_connectionAt, 4, some .int, 20, 1, 2, 4130, 4128, 237, 4129), (yX20_countOfLines, 4, some .int, 20, 1, 1, 4157, 4156, 237, 207), (yX20_lineErrors, 8, some .int, 20, 1, 0, 4221, 4220, 237, 219), (yX20_textLong, 2, some .int, 20, 1, 1, 3558, 3557, 237, 148), (yX20_textAt, 3, some .int, 20, 1, 2, 3565, 3564, 237, 149), (yX20_beginsRequest, 2, none, 20, 1, 1, 3473, 3472, 237, 131), (yX20_isGreat, 1, some .boolean, 20, 0, 1, 3521, 3520, 237, 0)]
def am_mds20 : List am_M := [(yX20_isSmall, 1, some .boolean, 20, 0, 1, 3528, 3527, 237, 0), (yX20_small, 1, some .int, 20, 0, 1, 3561, 3560, 237, 0), (yX20_fitting, 8, some .int, 20, 1, 4, 3585, 3584, 237, 154), (yX20_through, 6, some .int, 20, 1, 3, 3581, 3580, 237, 153), (yX20_nextWord, 4, none, 20, 1, 3, 3593, 3592, 237, 156), (yX20_looksAt, 3, some .int, 20, 1, 2, 3510, 3509, 237, 140), (yX20_looksInLine, 4, some .int, 20, 1, 2, 3514, 3513, 237, 141), (yX20_stands, 3, some .boolean, 20, 1, 2, 3518, 3517, 237, 142), (yX20_takesMethod, 3, none, 20, 1, 2, 3577, 3576, 237, 152), (yX20_takesTarget, 3, none, 20, 1, 2, 3589, 3588, 237, 155), (yX20_takesVersion, 5, none, 20, 1, 2, 3597, 3596, 237, 157), (yX20_looksAtLine, 3, some .int, 20, 1, 2, 3610, 3609, 237, 160), (yX20_takesName, 3, none, 20, 1, 2, 3602, 3601, 237, 158), (yX20_takesValue, 3, none, 20, 1, 2, 3606, 3605, 237, 159), (yX20_valueAt, 3, some .int, 20, 1, 2, 3547, 3546, 237, 146), (yX20_isValue, 5, some .boolean, 20, 1, 2, 3554, 3553, 237, 147), (yX20_endsLine, 2, none, 20, 1, 1, 3535, 3534, 237, 143), (yX20_number_, 4, some .int, 20, 1, 2, 3543, 3542, 237, 145), (yX20_tellsLength, 4, none, 20, 1, 1, 3539, 3538, 237, 144), (yX20_tagOf, 4, some .int, 20, 1, 1, 3569, 3568, 237, 150)]
def am_mds21 : List am_M := [(yX20_tellsRange, 8, none, 20, 1, 1, 3573, 3572, 237, 151), (yX20_endsHead, 3, some .int, 20, 1, 1, 3614, 3613, 237, 161), (yX20_takesBody, 3, none, 20, 1, 2, 3618, 3617, 237, 162), (yX20_hexadecimal, 1, some .int, 20, 0, 1, 3633, 3632, 237, 0), (yX20_goesTo, 3, some .int, 20, 1, 2, 3630, 3629, 237, 165), (yX20_looksInChunks, 3, some .int, 20, 1, 2, 3622, 3621, 237, 163), (yX20_looksAtSize, 3, some .int, 20, 1, 2, 3626, 3625, 237, 164), (yX20_targetAt, 3, some .int, 20, 1, 2, 3661, 3660, 237, 171), (yX20_targetKind, 5, some .int, 20, 1, 1, 3657, 3656, 237, 170), (yX20_compares, 6, some .int, 20, 1, 2, 3669, 3668, 237, 173), (yX20_fileOf, 5, some .int, 20, 1, 2, 3665, 3664, 237, 172), (yX20_copiesFile, 4, none, 20, 1, 2, 3689, 3688, 237, 178), (yX20_newFile, 6, some .int, 20, 1, 2, 3685, 3684, 237, 177), (yX20_dropsFile, 4, none, 20, 1, 2, 3701, 3700, 237, 181), (yX20_putsBody, 5, none, 20, 1, 3, 3693, 3692, 237, 179), (yX20_fitsTag, 3, some .boolean, 20, 1, 2, 3681, 3680, 237, 176), (yX20_isRefused, 3, some .boolean, 20, 1, 2, 3677, 3676, 237, 175), (yX20_isDone, 7, some .int, 20, 1, 2, 3653, 3652, 237, 169), (yX20_isPut, 5, some .int, 20, 1, 3, 3673, 3672, 237, 174), (yX20_range, 6, some .int, 20, 1, 2, 3697, 3696, 237, 180)]
def am_mds22 : List am_M := [(yX20_grown, 3, some (.array .int), 20, 0, 1, 3641, 3640, 237, 0), (yX20_says, 2, none, 20, 1, 1, 3721, 3720, 237, 186), (yX20_saysText, 3, none, 20, 1, 1, 3717, 3716, 237, 185), (yX20_saysNumber, 3, none, 20, 1, 1, 3725, 3724, 237, 187), (yX20_saysLineEnd, 1, none, 20, 1, 0, 3729, 3728, 237, 188), (yX20_wordOf, 4, some .int, 20, 1, 1, 3709, 3708, 237, 183), (yX20_listLong, 4, some .int, 20, 1, 1, 3713, 3712, 237, 184), (yX20_answers_, 12, none, 20, 1, 5, 3705, 3704, 237, 182), (yX20_saysPart, 2, none, 20, 1, 1, 3733, 3732, 237, 189), (yX20_saysList, 5, none, 20, 1, 1, 3737, 3736, 237, 190), (yX20_does, 6, some .int, 20, 1, 3, 3649, 3648, 237, 168), (yX20_isLast, 3, some .boolean, 20, 1, 2, 3645, 3644, 237, 167), (yX20_serves, 6, none, 20, 1, 1, 3469, 3468, 237, 130), (yX20_writesOn, 3, none, 20, 1, 1, 3481, 3480, 237, 133), (yX20_servesOne, 4, none, 20, 1, 2, 3638, 3637, 237, 166), (yX20_fileAt, 3, some .int, 20, 1, 2, 4135, 4133, 237, 4134), (yX20_fileByteAt, 5, some .int, 20, 1, 3, 4140, 4138, 237, 4139), (yX20_servedAt, 3, some .int, 20, 1, 2, 4144, 4142, 237, 4143), (yX20_answerAt, 4, some .int, 20, 1, 2, 4148, 4146, 237, 4147), (yX20_servedWell, 3, some .int, 20, 1, 0, 4161, 4160, 237, 208)]
def am_mds23 : List am_M := [(yX20_count, 2, some .int, 20, 1, 1, 4152, 4150, 237, 4151), (yX20_isSameRequest, 8, some .boolean, 20, 1, 1, 4173, 4172, 237, 209), (yX20_isReadAsAnswered, 5, some .boolean, 20, 1, 2, 4189, 4188, 237, 213), (yX20_areFilesAlike, 4, some .boolean, 20, 1, 0, 4205, 4204, 237, 217), (yX20_agrees, 3, some .boolean, 20, 1, 0, 4169, 4167, 237, 4168), (yX20_errors, 1, some .int, 20, 1, 0, 4209, 4207, 237, 4208), (yX20_deliveredShare, 1, some .double, 20, 1, 0, 4225, 4223, 237, 4224), (yX20_meanAnswer, 3, some .float, 20, 1, 0, 4229, 4227, 237, 4228), (yL_type, 15, some .int, 21, 3, 8, 1243, 1242, 220, 0), (yL_put, 5, some .int, 21, 3, 4, 1328, 1327, 220, 0), (yL_piece, 4, some .int, 21, 3, 3, 1352, 1351, 220, 0), (yL_sum, 5, some .int, 21, 3, 4, 1371, 1370, 220, 0), (yL_addHost, 5, some .int, 21, 3, 4, 1396, 1395, 220, 0), (yL_setMtu, 5, some .int, 21, 3, 4, 1405, 1404, 220, 0), (yL_hostAt, 5, some .int, 21, 3, 4, 1418, 1417, 220, 0), (yL_tableAt, 5, some .int, 21, 3, 4, 1426, 1425, 220, 0), (yL_deliver, 4, some .int, 21, 3, 3, 1442, 1441, 220, 0), (yL_lose, 4, some .int, 21, 3, 3, 2331, 2330, 220, 0), (yL_twice, 4, some .int, 21, 3, 3, 2344, 2343, 220, 0), (yL_spoil, 6, some .int, 21, 3, 5, 2357, 2356, 220, 0)]
def am_mds24 : List am_M := [(yL_frameAt, 5, some .int, 21, 3, 4, 2371, 2370, 220, 0), (yL_byteAt, 5, some .int, 21, 3, 4, 2380, 2379, 220, 0), (yL_pass, 4, some .int, 21, 3, 3, 2388, 2387, 220, 0), (yL_settle, 4, some .int, 21, 3, 3, 2422, 2421, 220, 0), (yL_play, 5, some .int, 21, 3, 4, 2435, 2434, 220, 0), (yL_echo, 6, some .int, 21, 3, 5, 2450, 2449, 220, 0), (yL_isAnswered, 4, some .int, 21, 3, 3, 2464, 2463, 220, 0), (yL_name, 4, some .int, 21, 3, 3, 2472, 2471, 220, 0), (yL_lookUp, 4, some .int, 21, 3, 3, 2485, 2484, 220, 0), (yL_askAgain, 3, some .int, 21, 3, 2, 2494, 2493, 220, 0), (yL_found, 4, some .int, 21, 3, 3, 2503, 2502, 220, 0), (yL_connect, 6, some .int, 21, 3, 5, 2510, 2509, 220, 0), (yL_write, 4, some .int, 21, 3, 3, 2524, 2523, 220, 0), (yL_read, 5, some .int, 21, 3, 4, 2545, 2544, 220, 0), (yL_readAt, 5, some .int, 21, 3, 4, 2554, 2553, 220, 0), (yL_close, 5, some .int, 21, 3, 4, 2561, 2560, 220, 0), (yL_connectionAt, 5, some .int, 21, 3, 4, 2570, 2569, 220, 0), (yL_fileAt, 5, some .int, 21, 3, 4, 2583, 2582, 220, 0), (yL_fileByteAt, 6, some .int, 21, 3, 5, 2592, 2591, 220, 0), (yL_servedAt, 5, some .int, 21, 3, 4, 2599, 2598, 220, 0)]
def am_mds25 : List am_M := [(yL_answerAt, 5, some .int, 21, 3, 4, 2608, 2607, 220, 0), (yL_count, 4, some .int, 21, 3, 3, 2615, 2614, 220, 0), (yJx4a65c_init_da8c8, 1, none, 22, 2, 0, 452, 451, 228, 0), (yJx4a65c_grow_92f84, 4, some (.array (.object "java/lang/Object")), 22, 1, 1, 751, 750, 228, 2), (yJx4a65c_grow_d5877, 1, some (.array (.object "java/lang/Object")), 22, 1, 0, 747, 746, 228, 1), (yJx4a65c_size_8abf5, 1, some .int, 22, 1, 0, 906, 904, 228, 905), (yJx4a65c_elementData_915e3, 2, some (.object "java/lang/Object"), 22, 1, 1, 920, 918, 228, 919), (yJx4a65c_get_915e3, 2, some (.object "java/lang/Object"), 22, 1, 1, 910, 908, 228, 909), (yJx4a65c_add_72be8, 4, none, 22, 1, 3, 743, 742, 228, 0), (yJx4a65c_add_9ea2d, 2, some .boolean, 22, 1, 1, 739, 737, 228, 738), (yJxc12de_init_da8c8, 1, none, 23, 2, 0, 455, 454, 227, 0), (yJxa1e45_init_da8c8, 1, none, 24, 2, 0, 458, 457, 226, 0), (yJ15_checkIndex_7cf53, 2, some .int, 25, 0, 2, 913, 912, 249, 0), (yJ3_checkIndex_8e157, 3, some .int, 26, 0, 3, 916, 915, 246, 0), (yJ3_checkFromToIndex_8c36e, 4, some .int, 26, 0, 4, 1621, 1620, 246, 0), (yJ3_checkFromIndexSize_8c36e, 4, some .int, 26, 0, 4, 1653, 1652, 246, 0), (yJ7_rangeCheck_23922, 3, none, 27, 0, 3, 1543, 1542, 235, 0), (yJ7_fill_fda19, 5, none, 27, 0, 4, 1540, 1539, 235, 0), (yJ7_copyOf_1904c, 2, some (.array (.object "java/lang/Object")), 27, 0, 2, 764, 763, 235, 0), (yJ7_copyOf_6403c, 4, some (.array (.object "java/lang/Object")), 27, 0, 3, 799, 798, 235, 0)]
def am_mds26 : List am_M := [(yJ7_copyOf_9075b, 3, some (.array .byte), 27, 0, 2, 1599, 1598, 235, 0), (yJ7_copyOf_59c91, 3, some (.array .int), 27, 0, 2, 941, 940, 235, 0), (yJ7_copyOf_c38d5, 3, some (.array .long), 27, 0, 2, 1493, 1492, 235, 0), (yJ7_checkLength_df160, 2, none, 27, 0, 2, 1722, 1721, 235, 0), (yJ7_copyOfRange_39247, 3, some (.array .byte), 27, 0, 3, 1716, 1715, 235, 0), (yJ7_copyOfRangeByte_39247, 5, some (.array .byte), 27, 0, 3, 1719, 1718, 235, 0), (yJ0_init_81219, 2, none, 28, 2, 1, 1695, 1694, 244, 0), (yJ0_length_8abf5, 1, some .int, 28, 1, 0, 982, 980, 244, 981), (yJ0_charAt_5068e, 2, some .char, 28, 1, 1, 992, 990, 244, 991), (yJ0_getBytes_840e7, 4, none, 28, 1, 3, 1657, 1655, 244, 1656), (yJ0_init_db425, 5, none, 28, 2, 2, 1698, 1697, 244, 0), (yJ0_coder_7d493, 1, some .byte, 28, 1, 0, 986, 984, 244, 985), (yJ0_isLatin1_aae02, 1, some .boolean, 28, 1, 0, 996, 994, 244, 995), (yJ0_checkIndex_df160, 2, none, 28, 0, 2, 1002, 1001, 244, 0), (yJ0_checkBoundsOffCount_cabcc, 3, some .int, 28, 0, 3, 1650, 1649, 244, 0), (yJ0_checkBoundsBeginEnd_23922, 3, none, 28, 0, 3, 1618, 1617, 244, 0), (yJ1_charAt_3b067, 2, some .char, 29, 0, 2, 999, 998, 245, 0), (yJ1_inflate_0e8fd, 5, none, 29, 0, 5, 1641, 1640, 245, 0), (yJ9_abs_0f7a4, 0, none, 0, 9, 0, 0, 0, 0, 0), (yJ9_max_7cf53, 0, none, 0, 9, 0, 0, 0, 0, 0)]
def am_mds27 : List am_M := [(yJ9_min_7cf53, 0, none, 0, 9, 0, 0, 0, 0, 0)]
def am_mds : List am_M := am_mds0 ++ (am_mds1 ++ (am_mds2 ++ (am_mds3 ++ (am_mds4 ++ (am_mds5 ++ (am_mds6 ++ (am_mds7 ++ (am_mds8 ++ (am_mds9 ++ (am_mds10 ++ (am_mds11 ++ (am_mds12 ++ (am_mds13 ++ (am_mds14 ++ (am_mds15 ++ (am_mds16 ++ (am_mds17 ++ (am_mds18 ++ (am_mds19 ++ (am_mds20 ++ (am_mds21 ++ (am_mds22 ++ (am_mds23 ++ (am_mds24 ++ (am_mds25 ++ (am_mds26 ++ (am_mds27)))))))))))))))))))))))))))
def am_mk (q : am_M) : Nat := q.2.2.2.2.1
def am_mn (q : am_M) : Nat := q.2.2.2.2.2.1
def am_isC (q : am_M) : Option Jvm.Cond → Bool
  | some (.code y _ m r) => am_mk q != 3 && decide (y = q.1) && decide (m = q.2.1) && decide (r = q.2.2.1)
  | some (.codeWith y _ m r _) => am_mk q == 3 && decide (y = q.1) && decide (m = q.2.1) && decide (r = q.2.2.1)
  | _ => false
def am_byO : Option Jvm.Cond → ByteArray
  | some (.code _ b _ _) => b
  | some (.codeWith _ b _ _ _) => b
  | _ => ⟨#[]⟩
def am_by (q : am_M) : ByteArray := am_byO lw_tbl[q.2.2.2.2.2.2.1]?
def am_ckM (q : am_M) : Bool :=
  am_mk q == 9 ||
  (am_isC q (lw_tbl[q.2.2.2.2.2.2.1]?) &&
  decide (lw_tbl[q.2.2.2.2.2.2.2.1]? = some (if am_mk q = 0 ∨ am_mk q = 3 then Jvm.Cond.static q.1 else Jvm.Cond.instanceMethod q.1)) &&
  decide (lw_tbl[q.2.2.2.2.2.2.2.2.1]? = some (Jvm.Cond.initialized q.1.cls)) &&
  (am_mk q != 1 || decide (lw_tbl[q.2.2.2.2.2.2.2.2.2]? = some (Jvm.Cond.selects q.1.cls q.1 q.1))) &&
  plainName q.1.cls && decide (q.1.cls ≠ "java/lang/invoke/MethodHandle" ∧ q.1.cls ≠ "java/lang/invoke/VarHandle") &&
  decide ((parseMethodDescriptor q.1.desc).map (fun d => d.parameters.length) = some (am_mn q)) &&
  decide (q.2.1 ≤ 61) && (am_mk q != 2 || (decide (q.1.name = "<init>") && decide (q.2.2.1 = none))))
theorem am_ckM0 : am_mds0.all am_ckM = true := by decide +kernel
theorem am_ckM1 : am_mds1.all am_ckM = true := by decide +kernel
theorem am_ckM2 : am_mds2.all am_ckM = true := by decide +kernel
theorem am_ckM3 : am_mds3.all am_ckM = true := by decide +kernel
theorem am_ckM4 : am_mds4.all am_ckM = true := by decide +kernel
theorem am_ckM5 : am_mds5.all am_ckM = true := by decide +kernel
theorem am_ckM6 : am_mds6.all am_ckM = true := by decide +kernel
theorem am_ckM7 : am_mds7.all am_ckM = true := by decide +kernel
theorem am_ckM8 : am_mds8.all am_ckM = true := by decide +kernel
theorem am_ckM9 : am_mds9.all am_ckM = true := by decide +kernel
theorem am_ckM10 : am_mds10.all am_ckM = true := by decide +kernel
theorem am_ckM11 : am_mds11.all am_ckM = true := by decide +kernel
theorem am_ckM12 : am_mds12.all am_ckM = true := by decide +kernel
theorem am_ckM13 : am_mds13.all am_ckM = true := by decide +kernel
theorem am_ckM14 : am_mds14.all am_ckM = true := by decide +kernel
theorem am_ckM15 : am_mds15.all am_ckM = true := by decide +kernel
theorem am_ckM16 : am_mds16.all am_ckM = true := by decide +kernel
theorem am_ckM17 : am_mds17.all am_ckM = true := by decide +kernel
theorem am_ckM18 : am_mds18.all am_ckM = true := by decide +kernel
theorem am_ckM19 : am_mds19.all am_ckM = true := by decide +kernel
theorem am_ckM20 : am_mds20.all am_ckM = true := by decide +kernel
theorem am_ckM21 : am_mds21.all am_ckM = true := by decide +kernel
theorem am_ckM22 : am_mds22.all am_ckM = true := by decide +kernel
theorem am_ckM23 : am_mds23.all am_ckM = true := by decide +kernel
theorem am_ckM24 : am_mds24.all am_ckM = true := by decide +kernel
theorem am_ckM25 : am_mds25.all am_ckM = true := by decide +kernel
theorem am_ckM26 : am_mds26.all am_ckM = true := by decide +kernel
theorem am_ckM27 : am_mds27.all am_ckM = true := by decide +kernel
theorem am_ckM_all : ∀ q : am_M, q ∈ am_mds → am_ckM q = true := by
  have h : am_mds.all am_ckM = true := by simp only [am_mds, List.all_append, am_ckM0, am_ckM1, am_ckM2, am_ckM3, am_ckM4, am_ckM5, am_ckM6, am_ckM7, am_ckM8, am_ckM9, am_ckM10, am_ckM11, am_ckM12, am_ckM13, am_ckM14, am_ckM15, am_ckM16, am_ckM17, am_ckM18, am_ckM19, am_ckM20, am_ckM21, am_ckM22, am_ckM23, am_ckM24, am_ckM25, am_ckM26, am_ckM27, Bool.and_self]
  exact List.all_eq_true.mp h
def am_cm (own : String) (q : Nat × Nat × Nat × Nat) : Bool :=
  match q.2.1 with
  | 7 => match am_mds[q.2.2.1]? with
    | some r => decide (lw_tbl[q.2.2.2]? = some (Jvm.Cond.methodLink own q.1 r.1))
    | none => false
  | 8 => match am_mds[q.2.2.1]? with
    | some r => match am_nm[q.2.2.2]? with
      | some z => decide ((z.1, z.2.1, z.2.2.1) = (own, q.1, r.1))
      | none => false
    | none => false
  | _ => true
theorem am_cm_0_0 : am_tb0_0.all (am_cm RX0) = true := by decide +kernel
theorem am_cm_0_1 : am_tb0_1.all (am_cm RX0) = true := by decide +kernel
theorem am_cm_0_2 : am_tb0_2.all (am_cm RX0) = true := by decide +kernel
theorem am_cm_0_3 : am_tb0_3.all (am_cm RX0) = true := by decide +kernel
theorem am_cm_0 : am_tb0.all (am_cm RX0) = true := by simp only [am_tb0, List.all_append, am_cm_0_0, am_cm_0_1, am_cm_0_2, am_cm_0_3, Bool.and_self]
theorem am_cm_1_0 : am_tb1_0.all (am_cm RX1) = true := by decide +kernel
theorem am_cm_1 : am_tb1.all (am_cm RX1) = true := by simp only [am_tb1, List.all_append, am_cm_1_0, Bool.and_self]
theorem am_cm_2_0 : am_tb2_0.all (am_cm RX2) = true := by decide +kernel
theorem am_cm_2 : am_tb2.all (am_cm RX2) = true := by simp only [am_tb2, List.all_append, am_cm_2_0, Bool.and_self]
theorem am_cm_3_0 : am_tb3_0.all (am_cm RX3) = true := by decide +kernel
theorem am_cm_3_1 : am_tb3_1.all (am_cm RX3) = true := by decide +kernel
theorem am_cm_3_2 : am_tb3_2.all (am_cm RX3) = true := by decide +kernel
theorem am_cm_3 : am_tb3.all (am_cm RX3) = true := by simp only [am_tb3, List.all_append, am_cm_3_0, am_cm_3_1, am_cm_3_2, Bool.and_self]
theorem am_cm_4_0 : am_tb4_0.all (am_cm RX4) = true := by decide +kernel
theorem am_cm_4_1 : am_tb4_1.all (am_cm RX4) = true := by decide +kernel
theorem am_cm_4_2 : am_tb4_2.all (am_cm RX4) = true := by decide +kernel
theorem am_cm_4 : am_tb4.all (am_cm RX4) = true := by simp only [am_tb4, List.all_append, am_cm_4_0, am_cm_4_1, am_cm_4_2, Bool.and_self]
theorem am_cm_5_0 : am_tb5_0.all (am_cm RX5) = true := by decide +kernel
theorem am_cm_5_1 : am_tb5_1.all (am_cm RX5) = true := by decide +kernel
theorem am_cm_5 : am_tb5.all (am_cm RX5) = true := by simp only [am_tb5, List.all_append, am_cm_5_0, am_cm_5_1, Bool.and_self]
theorem am_cm_6_0 : am_tb6_0.all (am_cm RX6) = true := by decide +kernel
theorem am_cm_6 : am_tb6.all (am_cm RX6) = true := by simp only [am_tb6, List.all_append, am_cm_6_0, Bool.and_self]
theorem am_cm_7_0 : am_tb7_0.all (am_cm RX7) = true := by decide +kernel
theorem am_cm_7 : am_tb7.all (am_cm RX7) = true := by simp only [am_tb7, List.all_append, am_cm_7_0, Bool.and_self]
theorem am_cm_8_0 : am_tb8_0.all (am_cm RX8) = true := by decide +kernel
theorem am_cm_8 : am_tb8.all (am_cm RX8) = true := by simp only [am_tb8, List.all_append, am_cm_8_0, Bool.and_self]
theorem am_cm_9_0 : am_tb9_0.all (am_cm RX9) = true := by decide +kernel
theorem am_cm_9_1 : am_tb9_1.all (am_cm RX9) = true := by decide +kernel
theorem am_cm_9 : am_tb9.all (am_cm RX9) = true := by simp only [am_tb9, List.all_append, am_cm_9_0, am_cm_9_1, Bool.and_self]
theorem am_cm_10_0 : am_tb10_0.all (am_cm RX10) = true := by decide +kernel
theorem am_cm_10_1 : am_tb10_1.all (am_cm RX10) = true := by decide +kernel
theorem am_cm_10 : am_tb10.all (am_cm RX10) = true := by simp only [am_tb10, List.all_append, am_cm_10_0, am_cm_10_1, Bool.and_self]
theorem am_cm_11_0 : am_tb11_0.all (am_cm RX11) = true := by decide +kernel
theorem am_cm_11_1 : am_tb11_1.all (am_cm RX11) = true := by decide +kernel
theorem am_cm_11_2 : am_tb11_2.all (am_cm RX11) = true := by decide +kernel
theorem am_cm_11_3 : am_tb11_3.all (am_cm RX11) = true := by decide +kernel
theorem am_cm_11_4 : am_tb11_4.all (am_cm RX11) = true := by decide +kernel
theorem am_cm_11_5 : am_tb11_5.all (am_cm RX11) = true := by decide +kernel
theorem am_cm_11_6 : am_tb11_6.all (am_cm RX11) = true := by decide +kernel
theorem am_cm_11_7 : am_tb11_7.all (am_cm RX11) = true := by decide +kernel
theorem am_cm_11_8 : am_tb11_8.all (am_cm RX11) = true := by decide +kernel
theorem am_cm_11 : am_tb11.all (am_cm RX11) = true := by simp only [am_tb11, List.all_append, am_cm_11_0, am_cm_11_1, am_cm_11_2, am_cm_11_3, am_cm_11_4, am_cm_11_5, am_cm_11_6, am_cm_11_7, am_cm_11_8, Bool.and_self]
theorem am_cm_12_0 : am_tb12_0.all (am_cm RX12) = true := by decide +kernel
theorem am_cm_12 : am_tb12.all (am_cm RX12) = true := by simp only [am_tb12, List.all_append, am_cm_12_0, Bool.and_self]
theorem am_cm_13_0 : am_tb13_0.all (am_cm RX13) = true := by decide +kernel
theorem am_cm_13 : am_tb13.all (am_cm RX13) = true := by simp only [am_tb13, List.all_append, am_cm_13_0, Bool.and_self]
theorem am_cm_14_0 : am_tb14_0.all (am_cm RX14) = true := by decide +kernel
theorem am_cm_14 : am_tb14.all (am_cm RX14) = true := by simp only [am_tb14, List.all_append, am_cm_14_0, Bool.and_self]
theorem am_cm_15_0 : am_tb15_0.all (am_cm RX15) = true := by decide +kernel
theorem am_cm_15 : am_tb15.all (am_cm RX15) = true := by simp only [am_tb15, List.all_append, am_cm_15_0, Bool.and_self]
theorem am_cm_16_0 : am_tb16_0.all (am_cm RX16) = true := by decide +kernel
theorem am_cm_16 : am_tb16.all (am_cm RX16) = true := by simp only [am_tb16, List.all_append, am_cm_16_0, Bool.and_self]
theorem am_cm_17_0 : am_tb17_0.all (am_cm RX17) = true := by decide +kernel
theorem am_cm_17_1 : am_tb17_1.all (am_cm RX17) = true := by decide +kernel
theorem am_cm_17 : am_tb17.all (am_cm RX17) = true := by simp only [am_tb17, List.all_append, am_cm_17_0, am_cm_17_1, Bool.and_self]
theorem am_cm_18_0 : am_tb18_0.all (am_cm RX18) = true := by decide +kernel
theorem am_cm_18 : am_tb18.all (am_cm RX18) = true := by simp only [am_tb18, List.all_append, am_cm_18_0, Bool.and_self]
theorem am_cm_19_0 : am_tb19_0.all (am_cm RX19) = true := by decide +kernel
theorem am_cm_19 : am_tb19.all (am_cm RX19) = true := by simp only [am_tb19, List.all_append, am_cm_19_0, Bool.and_self]
theorem am_cm_20_0 : am_tb20_0.all (am_cm RX20) = true := by decide +kernel
theorem am_cm_20_1 : am_tb20_1.all (am_cm RX20) = true := by decide +kernel
theorem am_cm_20_2 : am_tb20_2.all (am_cm RX20) = true := by decide +kernel
theorem am_cm_20_3 : am_tb20_3.all (am_cm RX20) = true := by decide +kernel
theorem am_cm_20_4 : am_tb20_4.all (am_cm RX20) = true := by decide +kernel
theorem am_cm_20_5 : am_tb20_5.all (am_cm RX20) = true := by decide +kernel
theorem am_cm_20_6 : am_tb20_6.all (am_cm RX20) = true := by decide +kernel
theorem am_cm_20_7 : am_tb20_7.all (am_cm RX20) = true := by decide +kernel
theorem am_cm_20_8 : am_tb20_8.all (am_cm RX20) = true := by decide +kernel
theorem am_cm_20_9 : am_tb20_9.all (am_cm RX20) = true := by decide +kernel
theorem am_cm_20_10 : am_tb20_10.all (am_cm RX20) = true := by decide +kernel
theorem am_cm_20_11 : am_tb20_11.all (am_cm RX20) = true := by decide +kernel
theorem am_cm_20_12 : am_tb20_12.all (am_cm RX20) = true := by decide +kernel
theorem am_cm_20_13 : am_tb20_13.all (am_cm RX20) = true := by decide +kernel
theorem am_cm_20_14 : am_tb20_14.all (am_cm RX20) = true := by decide +kernel
theorem am_cm_20 : am_tb20.all (am_cm RX20) = true := by simp only [am_tb20, List.all_append, am_cm_20_0, am_cm_20_1, am_cm_20_2, am_cm_20_3, am_cm_20_4, am_cm_20_5, am_cm_20_6, am_cm_20_7, am_cm_20_8, am_cm_20_9, am_cm_20_10, am_cm_20_11, am_cm_20_12, am_cm_20_13, am_cm_20_14, Bool.and_self]
theorem am_cm_21_0 : am_tb21_0.all (am_cm RL) = true := by decide +kernel
theorem am_cm_21_1 : am_tb21_1.all (am_cm RL) = true := by decide +kernel
theorem am_cm_21_2 : am_tb21_2.all (am_cm RL) = true := by decide +kernel
theorem am_cm_21_3 : am_tb21_3.all (am_cm RL) = true := by decide +kernel
theorem am_cm_21 : am_tb21.all (am_cm RL) = true := by simp only [am_tb21, List.all_append, am_cm_21_0, am_cm_21_1, am_cm_21_2, am_cm_21_3, Bool.and_self]
theorem am_cm_22_0 : am_tb22_0.all (am_cm RJx4a65c) = true := by decide +kernel
theorem am_cm_22 : am_tb22.all (am_cm RJx4a65c) = true := by simp only [am_tb22, List.all_append, am_cm_22_0, Bool.and_self]
theorem am_cm_23_0 : am_tb23_0.all (am_cm RJxc12de) = true := by decide +kernel
theorem am_cm_23 : am_tb23.all (am_cm RJxc12de) = true := by simp only [am_tb23, List.all_append, am_cm_23_0, Bool.and_self]
theorem am_cm_24_0 : am_tb24_0.all (am_cm RJxa1e45) = true := by decide +kernel
theorem am_cm_24 : am_tb24.all (am_cm RJxa1e45) = true := by simp only [am_tb24, List.all_append, am_cm_24_0, Bool.and_self]
theorem am_cm_25_0 : am_tb25_0.all (am_cm RJ15) = true := by decide +kernel
theorem am_cm_25 : am_tb25.all (am_cm RJ15) = true := by simp only [am_tb25, List.all_append, am_cm_25_0, Bool.and_self]
theorem am_cm_26_0 : am_tb26_0.all (am_cm RJ3) = true := by decide +kernel
theorem am_cm_26 : am_tb26.all (am_cm RJ3) = true := by simp only [am_tb26, List.all_append, am_cm_26_0, Bool.and_self]
theorem am_cm_27_0 : am_tb27_0.all (am_cm RJ7) = true := by decide +kernel
theorem am_cm_27 : am_tb27.all (am_cm RJ7) = true := by simp only [am_tb27, List.all_append, am_cm_27_0, Bool.and_self]
theorem am_cm_28_0 : am_tb28_0.all (am_cm RJ0) = true := by decide +kernel
theorem am_cm_28 : am_tb28.all (am_cm RJ0) = true := by simp only [am_tb28, List.all_append, am_cm_28_0, Bool.and_self]
theorem am_cm_29_0 : am_tb29_0.all (am_cm RJ1) = true := by decide +kernel
theorem am_cm_29 : am_tb29.all (am_cm RJ1) = true := by simp only [am_tb29, List.all_append, am_cm_29_0, Bool.and_self]
theorem am_cm_30_0 : am_tb30_0.all (am_cm RJ9) = true := by decide +kernel
theorem am_cm_30 : am_tb30.all (am_cm RJ9) = true := by simp only [am_tb30, List.all_append, am_cm_30_0, Bool.and_self]
theorem am_cm_all (cn : Nat) : ∀ q : Nat × Nat × Nat × Nat, q ∈ am_tb cn → am_cm (am_own cn) q = true := by
  match cn with
  | 0 => exact List.all_eq_true.mp am_cm_0
  | 1 => exact List.all_eq_true.mp am_cm_1
  | 2 => exact List.all_eq_true.mp am_cm_2
  | 3 => exact List.all_eq_true.mp am_cm_3
  | 4 => exact List.all_eq_true.mp am_cm_4
  | 5 => exact List.all_eq_true.mp am_cm_5
  | 6 => exact List.all_eq_true.mp am_cm_6
  | 7 => exact List.all_eq_true.mp am_cm_7
  | 8 => exact List.all_eq_true.mp am_cm_8
  | 9 => exact List.all_eq_true.mp am_cm_9
  | 10 => exact List.all_eq_true.mp am_cm_10
  | 11 => exact List.all_eq_true.mp am_cm_11
  | 12 => exact List.all_eq_true.mp am_cm_12
  | 13 => exact List.all_eq_true.mp am_cm_13
  | 14 => exact List.all_eq_true.mp am_cm_14
  | 15 => exact List.all_eq_true.mp am_cm_15
  | 16 => exact List.all_eq_true.mp am_cm_16
  | 17 => exact List.all_eq_true.mp am_cm_17
  | 18 => exact List.all_eq_true.mp am_cm_18
  | 19 => exact List.all_eq_true.mp am_cm_19
  | 20 => exact List.all_eq_true.mp am_cm_20
  | 21 => exact List.all_eq_true.mp am_cm_21
  | 22 => exact List.all_eq_true.mp am_cm_22
  | 23 => exact List.all_eq_true.mp am_cm_23
  | 24 => exact List.all_eq_true.mp am_cm_24
  | 25 => exact List.all_eq_true.mp am_cm_25
  | 26 => exact List.all_eq_true.mp am_cm_26
  | 27 => exact List.all_eq_true.mp am_cm_27
  | 28 => exact List.all_eq_true.mp am_cm_28
  | 29 => exact List.all_eq_true.mp am_cm_29
  | 30 => exact List.all_eq_true.mp am_cm_30
  | k + 31 => exact fun q h => absurd h List.not_mem_nil
end
section
/-! THE LINK: what blocks of abstract instructions stand for which bytes, as a program decides it -/
def am_find : List (Nat × Nat × Nat × Nat) → Nat → Option (Nat × Nat × Nat × Nat)
  | [], _ => none
  | q :: r, i => if q.1 = i then some q else am_find r i
/-- is the entry i of class cn of kind k, with the number a? -/
def am_en (cn i k a : Nat) : Bool := match am_find (am_tb cn) i with
  | some q => q.2.1 == k && q.2.2.1 == a
  | none => false
def am_fin (f : Nat) : Bool := match vwCl[f / 128]? with
  | some r => (r.2.1 (f % 128)).2.2.2
  | none => true
def am_dec (f : Nat) : String := match vwCl[f / 128]? with
  | some r => (r.2.1 (f % 128)).1
  | none => ""
def am_aok (k : Nat) : Bool := decide (104 ≤ k) && decide (k ≠ 199) && decide (am_kty k ∈ am_aot)
def am_cI (cn i : Nat) (n : Int) : Bool := am_en cn i 5 (n % 4294967296).toNat && decide (Int32.ofNat (n % 4294967296).toNat = Int32.ofInt n)
def am_cJ (cn i : Nat) (n : Int) : Bool := am_en cn i 6 (n % 18446744073709551616).toNat && decide (Int64.ofNat (n % 18446744073709551616).toNat = Int64.ofInt n)
def am_rl (cn nL : Nat) (ini : Bool) (c a : Instr) (len : Nat) : Bool :=
  match c with
  | .iadd => decide (a = .iadd) && decide (len = 1)
  | .isub => decide (a = .isub) && decide (len = 1)
  | .imul => decide (a = .imul) && decide (len = 1)
  | .iand => decide (a = .iand) && decide (len = 1)
  | .ior => decide (a = .ior) && decide (len = 1)
  | .ixor => decide (a = .ixor) && decide (len = 1)
  | .ishl => decide (a = .ishl) && decide (len = 1)
  | .ishr => decide (a = .ishr) && decide (len = 1)
  | .iushr => decide (a = .iushr) && decide (len = 1)
  | .ladd => decide (a = .ladd) && decide (len = 1)
  | .lsub => decide (a = .lsub) && decide (len = 1)
  | .lmul => decide (a = .lmul) && decide (len = 1)
  | .land => decide (a = .land) && decide (len = 1)
  | .lor => decide (a = .lor) && decide (len = 1)
  | .lcmp => decide (a = .lcmp) && decide (len = 1)
  | .lshl => decide (a = .lshl) && decide (len = 1)
  | .lushr => decide (a = .lushr) && decide (len = 1)
  | .idiv => decide (a = .idiv) && decide (len = 1)
  | .irem => decide (a = .irem) && decide (len = 1)
  | .ineg => decide (a = .ineg) && decide (len = 1)
  | .i2l => decide (a = .i2l) && decide (len = 1)
  | .l2i => decide (a = .l2i) && decide (len = 1)
  | .dup => decide (a = .dup) && decide (len = 1)
  | .pop => decide (a = .pop) && decide (len = 1)
  | .dup_x1 => decide (a = .dup_x1) && decide (len = 1)
  | .dup2 => decide (a = .dup2) && decide (len = 1)
  | .iaload => decide (a = .iaload) && decide (len = 1)
  | .laload => decide (a = .laload) && decide (len = 1)
  | .baload => decide (a = .baload) && decide (len = 1)
  | .aaload => decide (a = .aaload) && decide (len = 1)
  | .arraylength => decide (a = .arraylength) && decide (len = 1)
  | .iastore => decide (a = .iastore) && decide (len = 1)
  | .lastore => decide (a = .lastore) && decide (len = 1)
  | .bastore => decide (a = .bastore) && decide (len = 1)
  | .aastore => decide (a = .aastore) && decide (len = 1)
  | .aconst_null => decide (a = .aconst_null) && decide (len = 1)
  | .iconst n => decide (a = .iconst n) && decide (len = 1)
  | .bipush n => decide (a = .iconst n) && decide (len = 2) && decide ((Int8.ofInt n).toInt32 = Int32.ofInt n)
  | .sipush n => decide (a = .iconst n) && decide (len = 3) && decide ((Int16.ofInt n).toInt32 = Int32.ofInt n)
  | .lconst n => match a with
    | .jsr_w z => decide (len = 1) && decide (Int64.ofNat (n : Nat) = Int64.ofInt z)
    | _ => false
  | .ldc i => match a with
    | .iconst n => decide (len = 2) && am_cI cn i n
    | .ldc k => decide (len = 2) && am_en cn i 13 k
    | _ => false
  | .ldc_w i => match a with
    | .iconst n => decide (len = 3) && am_cI cn i n
    | .ldc k => decide (len = 3) && am_en cn i 13 k
    | _ => false
  | .ldc2_w i => match a with
    | .jsr_w n => decide (len = 3) && am_cJ cn i n
    | _ => false
  | .iload i => decide (a = .iload i) && decide (len = 2)
  | .iload_n i => decide (a = .iload i) && decide (len = 1)
  | .istore i => decide (a = .istore i) && decide (len = 2) && decide (i < nL)
  | .istore_n i => decide (a = .istore i) && decide (len = 1) && decide ((i : Nat) < nL)
  | .lload i => decide (a = .lload i) && decide (len = 2)
  | .lload_n i => decide (a = .lload i) && decide (len = 1)
  | .lstore i => decide (a = .lstore i) && decide (len = 2) && decide (i + 1 < nL)
  | .lstore_n i => decide (a = .lstore i) && decide (len = 1) && decide ((i : Nat) + 1 < nL)
  | .aload i => decide (a = .aload i) && decide (len = 2)
  | .aload_n i => decide (a = .aload i) && decide (len = 1)
  | .astore i => decide (a = .astore i) && decide (len = 2) && decide (i < nL)
  | .astore_n i => decide (a = .astore i) && decide (len = 1) && decide ((i : Nat) < nL)
  | .iinc i n => decide (a = .iinc i n) && decide (len = 3) && decide (i < nL)
  | .getfield i => match a with
    | .getfield f => decide (len = 3) && (am_en cn i 1 f || am_en cn i 2 f)
    | _ => false
  | .putfield i => match a with
    | .putfield f => decide (len = 3) && ((!am_fin f && (am_en cn i 1 f || am_en cn i 2 f)) || (am_fin f && ini && am_en cn i 1 f && decide (am_dec f = am_own cn)))
    | _ => false
  | .new i => match a with
    | .new ci => decide (len = 3) && am_en cn i 3 ci
    | _ => false
  | .newarray t => decide (a = .newarray t) && decide (len = 2)
  | .anewarray i => match a with
    | .anewarray k => decide (len = 3) && ((decide (k = 103) && am_en cn i 4 103) || (decide (k = 104) && am_en cn i 4 104) || (decide (200 ≤ k) && am_aok k && am_en cn i 3 (k - 200)))
    | _ => false
  | .checkcast i => match a with
    | .checkcast ci => decide (len = 3) && am_en cn i 3 ci
    | _ => false
  | .invokespecial i => match a with
    | .invokedynamic k => decide (len = 3) && am_en cn i 9 k
    | _ => false
  | .i2d => decide (a = .i2d) && decide (len = 1)
  | .i2f => decide (a = .i2f) && decide (len = 1)
  | .l2d => decide (a = .l2d) && decide (len = 1)
  | .f2d => decide (a = .f2d) && decide (len = 1)
  | .ddiv => decide (a = .ddiv) && decide (len = 1)
  | .fdiv => decide (a = .fdiv) && decide (len = 1)
  | .dcmp o => decide (a = .dcmp o) && decide (len = 1)
  | .dconst n => decide (a = .dconst n) && decide (len = 1) && decide (n = 0)
  | .fconst n => decide (a = .fconst n) && decide (len = 1) && decide (n = 0)
  | .dload i => decide (a = .dload i) && decide (len = 2)
  | .dload_n i => decide (a = .dload i) && decide (len = 1)
  | .dstore i => decide (a = .dstore i) && decide (len = 2) && decide (i + 1 < nL)
  | .dstore_n i => decide (a = .dstore i) && decide (len = 1) && decide ((i : Nat) + 1 < nL)
  | .invokestatic i => match a with
    | .jsr k => decide (len = 3) && ((decide (k = 0) && am_en cn i 10 0) || (decide (k = 1) && am_en cn i 11 0))
    | _ => false
  | _ => false
/-- a straight stretch stands for these bytes: where it ends -/
def am_lk (cn nL : Nat) (ini : Bool) (cc : ByteArray) : Nat → List Instr → Option Nat
  | pc, [] => some pc
  | pc, a :: r => match decode cc pc with
    | .ok q => if am_rl cn nL ini q.1 a q.2 = true then am_lk cn nL ini cc (pc + q.2) r else none
    | .error _ => none
/-- the block o begins at pc + off -/
def am_tg (starts : List Nat) (o : Int) (pc : Nat) (off : Int) : Bool := match starts[o.toNat]? with
  | some t => decide ((pc : Int) + off = (t : Int))
  | none => false
def am_nb (starts : List Nat) (bi pc : Nat) : Bool := decide (starts[bi + 1]? = some pc)
def am_tgs (starts : List Nat) (pc : Nat) : List Int → List Int → Bool
  | [], [] => true
  | o :: r, f :: s => am_tg starts o pc f && am_tgs starts pc r s
  | _, _ => false
def am_tgp (starts : List Nat) (pc : Nat) : List (Int × Int) → List (Int × Int) → Bool
  | [], [] => true
  | o :: r, f :: s => decide (o.1 = f.1) && am_tg starts o.2 pc f.2 && am_tgp starts pc r s
  | _, _ => false
def am_wi (cc : ByteArray) (pc : Nat) (f : Instr × Nat → Bool) : Bool := match decode cc pc with
  | .ok q => f q
  | .error _ => false
/-- how a call of y with n stands at pc (what the tables must say of it: 'ok') -/
def am_lt (ok : Instr → Nat → Nat → Bool) (cc : ByteArray) (starts : List Nat) (t : Instr) (bi pc : Nat) : Bool :=
  match t with
  | .nop => am_nb starts bi pc
  | .multianewarray _ _ => true
  | .goto o => am_wi cc pc fun q => match q.1 with
    | .goto off => decide (q.2 = 3) && am_tg starts o pc off
    | _ => false
  | .ifCond c o => am_wi cc pc fun q => match q.1 with
    | .ifCond c2 off => decide (c = c2) && decide (q.2 = 3) && am_tg starts o pc off && am_nb starts bi (pc + 3)
    | _ => false
  | .if_icmp c o => am_wi cc pc fun q => match q.1 with
    | .if_icmp c2 off => decide (c = c2) && decide (q.2 = 3) && am_tg starts o pc off && am_nb starts bi (pc + 3)
    | _ => false
  | .ifnull o => am_wi cc pc fun q => match q.1 with
    | .ifnull off => decide (q.2 = 3) && am_tg starts o pc off && am_nb starts bi (pc + 3)
    | _ => false
  | .ifnonnull o => am_wi cc pc fun q => match q.1 with
    | .ifnonnull off => decide (q.2 = 3) && am_tg starts o pc off && am_nb starts bi (pc + 3)
    | _ => false
  | .tableswitch d lo hi offs => am_wi cc pc fun q => match q.1 with
    | .tableswitch d2 lo2 hi2 offs2 => decide (lo = lo2) && decide (hi = hi2) && am_tg starts d pc d2 && am_tgs starts pc offs.toList offs2.toList && decide ((hi - lo + 1).toNat = offs.size)
    | _ => false
  | .lookupswitch d ps => am_wi cc pc fun q => match q.1 with
    | .lookupswitch d2 ps2 => am_tg starts d pc d2 && am_tgp starts pc ps.toList ps2.toList && (ps2.toList.zip (ps2.toList.drop 1)).all (fun (a, next) => a.1 < next.1)
    | _ => false
  | .invokeinterface y n => am_wi cc pc fun q => decide (q.2 = 3) && ok q.1 y n && am_nb starts bi (pc + 3)
  | t => am_wi cc pc fun q => decide (q.1 = t) && decide (q.2 = 1)
def am_lb (cn nL : Nat) (ini : Bool) (ok : Instr → Nat → Nat → Bool) (cc : ByteArray) (starts : List Nat) : Nat → List (List Instr × Instr) → Bool
  | _, [] => true
  | bi, q :: r => (match starts[bi]? with
    | some pc => match am_lk cn nL ini cc pc q.1 with
      | some pe => am_lt ok cc starts q.2 bi pe
      | none => false
    | none => false) && am_lb cn nL ini ok cc starts (bi + 1) r
def am_okc (cn : Nat) (c : Instr) (y n : Nat) : Bool := match c with
  | .invokestatic i => (y == 900 && n == 5 && am_en cn i 12 0) || (match am_mds[y]? with
    | some q => (am_en cn i 7 y || am_en cn i 8 y) && (am_mk q == 0 || am_mk q == 3) && n % 64 == am_mn q
    | none => false)
  | .invokevirtual i => (y == 901 && n == 1 && am_en cn i 7 527) || (y == 902 && n == 2 && am_en cn i 7 528) || (match am_mds[y]? with
    | some q => (am_en cn i 7 y || am_en cn i 8 y) && am_mk q == 1 && n % 64 == am_mn q + 1 && decide (3 ≤ n / 64) && decide (n / 64 < 100) && decide (am_clN (n / 64) = q.1.cls)
    | none => false)
  | .invokespecial i => match am_mds[y]? with
    | some q => (am_en cn i 7 y || am_en cn i 8 y) && am_mk q == 2 && n % 64 == am_mn q + 1 && decide (3 ≤ n / 64)
    | none => false
  | _ => false
abbrev am_Cd : Type := Nat × List (List Instr × Instr) × List Nat × List (Nat × Nat × Nat)
/-- a method's code stands for its bytes -/
def am_ckL (z : am_Cd) : Bool := match am_mds[z.1]? with
  | some q => am_mk q != 9 && decide (q.1.cls = am_own q.2.2.2.1) && decide (z.2.2.1[0]? = some 0) && am_lb q.2.2.2.1 q.2.1 (am_mk q == 2) (am_okc q.2.2.2.1) (am_by q) z.2.2.1 0 z.2.1
  | none => false
end
section
/-! THE CODE, by program: part 0 -/
/-- X0_init -/
def am_k0 : List (List Instr × Instr) := [([.aload 0, .invokedynamic 0, .aload 0, .new 10, .dup], .invokeinterface 93 641), ([.putfield 519, .aload 0, .iconst (-1), .putfield 525, .aload 0, .iload 1, .putfield 512, .aload 0, .aload 2, .getfield 896, .putfield 513, .aload 0, .aload 2, .getfield 896], .ifCond .ne 3), ([.iconst 80], .goto 4), ([.iconst 40000, .iload 1, .iadd], .nop), ([.putfield 514, .aload 0, .iload 3, .putfield 515, .aload 0, .iload 4, .putfield 516, .aload 0, .aload 5, .putfield 517, .aload 0, .new 13, .dup, .iload 1], .invokeinterface 129 834), ([.putfield 518, .aload 0, .aload 2, .getfield 896], .ifCond .ne 8), ([.new 9, .dup], .invokeinterface 77 577), ([], .goto 9), ([.aconst_null], .nop), ([.putfield 520, .aload 0, .aload 2, .getfield 898, .putfield 521, .aload 0, .aload 2, .getfield 898, .putfield 522], .return_)]
def am_p0 : List Nat := [0, 12, 41, 46, 50, 79, 90, 97, 100, 101]
/-- X0_isServers -/
def am_k1 : List (List Instr × Instr) := [([.aload 0, .getfield 513], .ifCond .ne 2), ([.iconst 1], .goto 3), ([.iconst 0], .nop), ([], .ireturn)]
def am_p1 : List Nat := [0, 7, 11, 12]
/-- X0_isToBeClosed -/
def am_k2 : List (List Instr × Instr) := [([.aload 0, .getfield 523, .iconst 1], .if_icmp .eq 3), ([.aload 0, .getfield 523, .iconst 3], .if_icmp .eq 3), ([.aload 0, .getfield 523, .iconst 7], .if_icmp .ne 4), ([.iconst 1], .goto 5), ([.iconst 0], .nop), ([], .ireturn)]
def am_p2 : List Nat := [0, 8, 16, 25, 29, 30]
/-- X0_isSending -/
def am_k3 : List (List Instr × Instr) := [([.aload 0, .getfield 523, .iconst 3], .if_icmp .eq 5), ([.aload 0, .getfield 523, .iconst 7], .if_icmp .eq 5), ([.aload 0, .getfield 523, .iconst 4], .if_icmp .eq 5), ([.aload 0, .getfield 523, .iconst 6], .if_icmp .eq 5), ([.aload 0, .getfield 523, .iconst 9], .if_icmp .ne 6), ([.iconst 1], .goto 7), ([.iconst 0], .nop), ([], .ireturn)]
def am_p3 : List Nat := [0, 8, 17, 25, 34, 43, 47, 48]
/-- X0_isTimed -/
def am_k4 : List (List Instr × Instr) := [([.aload 0, .getfield 523], .ifCond .eq 5), ([.aload 0, .getfield 518], .invokeinterface 130 833), ([], .ifCond .ne 4), ([.aload 0, .getfield 518, .getfield 1679], .ifCond .eq 5), ([.iconst 1], .goto 6), ([.iconst 0], .nop), ([], .ireturn)]
def am_p4 : List Nat := [0, 7, 14, 17, 27, 31, 32]
/-- X0_beginAsClient -/
def am_k5 : List (List Instr × Instr) := [([.aload 0, .iconst 1, .putfield 523, .aload 0, .iconst 2, .iconst 0], .invokeinterface 12 259), ([], .return_)]
def am_p5 : List Nat := [0, 11]
/-- X0_beginAsServer -/
def am_k6 : List (List Instr × Instr) := [([.aload 0, .iconst 2, .putfield 523, .aload 0, .aload 0, .getfield 517, .getfield 1800, .putfield 529, .aload 0, .getfield 519, .aload 1, .getfield 1540], .invokeinterface 94 642), ([.aload 0, .getfield 518, .aload 1], .invokeinterface 139 834), ([.aload 0, .aload 0, .getfield 521, .aload 1, .getfield 1544, .jsr 0, .putfield 522, .aload 0, .iconst 18, .iconst 0], .invokeinterface 12 259), ([], .return_)]
def am_p6 : List Nat := [0, 27, 35, 57]
/-- X0_finish -/
def am_k7 : List (List Instr × Instr) := [([.aload 0, .getfield 523, .iconst 1], .if_icmp .ne 2), ([.aload 0, .iconst 0, .putfield 523], .nop), ([.aload 0, .getfield 523, .iconst 3], .if_icmp .ne 4), ([.aload 0, .iconst 4, .putfield 523], .goto 7), ([.aload 0, .getfield 523, .iconst 7], .if_icmp .ne 6), ([.aload 0, .iconst 9, .putfield 523], .goto 7), ([], .return_), ([.aload 0, .iconst 1, .putfield 526], .return_)]
def am_p7 : List Nat := [0, 8, 13, 21, 29, 38, 47, 48]
/-- X0_giveUpAtOnce -/
def am_k8 : List (List Instr × Instr) := [([.aload 0, .iconst 20, .aload 0, .getfield 518, .getfield 1666, .iconst 0, .iconst 0], .invokeinterface 10 261), ([.aload 0, .iconst 4], .invokeinterface 9 258), ([], .return_)]
def am_p8 : List Nat := [0, 15, 20]
/-- X0_end -/
def am_k9 : List (List Instr × Instr) := [([.aload 0, .iconst 0, .putfield 523, .aload 0, .iload 1, .putfield 524], .return_)]
def am_p9 : List Nat := [0]
/-- X0_emit -/
def am_k10 : List (List Instr × Instr) := [([.aload 0, .getfield 517, .aload 0, .getfield 513, .aload 0, .getfield 515, .iconst 6], .invokeinterface 147 900), ([.astore 5, .aload 5, .getfield 649, .astore 6, .iload 1, .iconst 2, .iand], .ifCond .eq 3), ([.iconst 1], .goto 4), ([.iconst 0], .nop), ([.istore 7, .aload 6, .aload 0, .getfield 514], .invokeinterface 110 706), ([.aload 6, .aload 0, .getfield 516], .invokeinterface 110 706), ([.aload 6, .iload 2], .invokeinterface 111 706), ([.aload 6, .iload 1, .iconst 16, .iand], .ifCond .eq 9), ([.aload 0, .getfield 519, .getfield 1281], .goto 10), ([.iconst 0], .nop), ([], .invokeinterface 111 706), ([.aload 6, .iload 7], .ifCond .eq 13), ([.iconst 24576], .goto 14), ([.iconst 20480], .nop), ([.iload 1, .ior], .invokeinterface 110 706), ([.aload 6, .aload 0, .getfield 519], .invokeinterface 96 641), ([], .invokeinterface 110 706), ([.aload 6, .iconst 0], .invokeinterface 111 706), ([.iload 7], .ifCond .eq 21), ([.aload 6, .iconst 516], .invokeinterface 110 706), ([.aload 6, .aload 0, .getfield 521], .invokeinterface 110 706), ([.aload 6, .aload 0, .getfield 518, .getfield 1667, .iload 3, .iload 4], .invokeinterface 113 708), ([.aload 5], .invokeinterface 36 321), ([], .return_)]
def am_p10 : List Nat := [0, 17, 32, 36, 37, 48, 57, 63, 72, 82, 83, 86, 93, 99, 102, 107, 116, 119, 125, 130, 138, 147, 162, 167]
/-- X0_flagsOf -/
def am_k11 : List (List Instr × Instr) := [([.iload 1, .aload 0, .getfield 518, .getfield 1668], .if_icmp .ne 2), ([.iconst 24], .goto 3), ([.iconst 16], .nop), ([], .ireturn)]
def am_p11 : List Nat := [0, 11, 16, 18]
/-- X0_sendNew -/
def am_k12 : List (List Instr × Instr) := [([.aload 0, .getfield 518], .invokeinterface 131 833), ([.istore 3, .aload 0, .iload 1, .aload 0, .getfield 518, .getfield 1666, .iload 3, .iload 2], .invokeinterface 10 261), ([.aload 0, .getfield 518, .iload 2], .ifCond .le 4), ([.iload 2], .goto 5), ([.iconst 1], .nop), ([.aload 0, .getfield 517, .getfield 1800], .invokeinterface 135 835), ([.iload 2], .ifCond .le 9), ([.aload 0, .getfield 518, .getfield 1680, .iconst (-1)], .if_icmp .ne 9), ([.aload 0, .getfield 518, .aload 0, .getfield 517, .getfield 1800, .putfield 1680, .aload 0, .getfield 518, .aload 0, .getfield 518, .getfield 1666, .putfield 1681], .nop), ([], .return_)]
def am_p12 : List Nat := [0, 7, 22, 30, 34, 35, 45, 49, 60, 88]
/-- X0_transmit -/
def am_k13 : List (List Instr × Instr) := [([.aload 0], .invokeinterface 3 257), ([], .ifCond .eq 18), ([.iconst 0, .istore 1], .nop), ([.iload 1, .iconst 600], .if_icmp .ge 12), ([.aload 0, .getfield 518, .getfield 1669, .aload 0, .getfield 518, .getfield 1672, .jsr 0, .aload 0, .getfield 518], .invokeinterface 130 833), ([.isub, .istore 2, .aload 0, .getfield 518], .invokeinterface 133 833), ([.aload 0, .getfield 522, .jsr 0, .iload 2, .jsr 0, .istore 3, .iload 3], .ifCond .gt 8), ([], .goto 12), ([.aload 0, .aload 0, .aload 0, .getfield 518], .invokeinterface 131 833), ([.iload 3, .iadd], .invokeinterface 11 258), ([.iload 3], .invokeinterface 12 259), ([.iinc 1 1], .goto 3), ([.aload 0, .getfield 526], .ifCond .eq 18), ([.aload 0, .getfield 518, .getfield 1678], .ifCond .ne 18), ([.aload 0, .getfield 518], .invokeinterface 133 833), ([], .ifCond .ne 18), ([.aload 0, .iconst 17, .iconst 0], .invokeinterface 12 259), ([.aload 0, .getfield 518, .iconst 1, .putfield 1678], .nop), ([.aload 0], .invokeinterface 14 257), ([], .return_)]
def am_p13 : List Nat := [0, 4, 7, 9, 16, 40, 49, 65, 68, 77, 82, 86, 92, 99, 109, 116, 119, 126, 134, 138]
/-- X0_noteProbing -/
def am_k14 : List (List Instr × Instr) := [([.aload 0], .invokeinterface 3 257), ([], .ifCond .eq 8), ([.aload 0, .getfield 518], .invokeinterface 130 833), ([], .ifCond .ne 8), ([.aload 0, .getfield 518], .invokeinterface 133 833), ([], .ifCond .le 8), ([.aload 0, .getfield 518, .getfield 1669], .ifCond .ne 8), ([.iconst 1], .goto 9), ([.iconst 0], .nop), ([.istore 1, .iload 1], .ifCond .eq 12), ([.aload 0, .getfield 518, .getfield 1679], .ifCond .ne 12), ([.aload 0, .getfield 518, .aload 0, .getfield 517, .getfield 1800, .putfield 1675], .nop), ([.aload 0, .getfield 518, .iload 1, .putfield 1679], .return_)]
def am_p14 : List Nat := [0, 4, 7, 14, 17, 24, 27, 37, 41, 42, 47, 57, 71]
/-- X0_sendAgain -/
def am_k15 : List (List Instr × Instr) := [([.aload 0, .getfield 518, .aload 0, .getfield 517, .getfield 1800, .putfield 1675, .aload 0, .getfield 518, .iconst (-1), .putfield 1680, .aload 0, .getfield 518], .invokeinterface 132 833), ([.istore 1, .aload 0, .getfield 518], .invokeinterface 131 833), ([.iload 1, .isub, .aload 0, .getfield 522, .jsr 0, .istore 2, .aload 0, .getfield 523, .iconst 1], .if_icmp .ne 5), ([.aload 0, .iconst 2, .aload 0, .getfield 518, .getfield 1664, .iconst 0, .iconst 0], .invokeinterface 10 261), ([], .goto 14), ([.aload 0, .getfield 523, .iconst 2], .if_icmp .ne 8), ([.aload 0, .iconst 18, .aload 0, .getfield 518, .getfield 1664, .iconst 0, .iconst 0], .invokeinterface 10 261), ([], .goto 14), ([.iload 2], .ifCond .le 12), ([.aload 0, .aload 0, .iload 1, .iload 2, .iadd], .invokeinterface 11 258), ([.aload 0, .getfield 518, .getfield 1665, .iload 1, .iload 2], .invokeinterface 10 261), ([.aload 0, .getfield 517, .dup, .getfield 1803, .iload 2, .iadd, .putfield 1803], .goto 14), ([.aload 0, .getfield 518, .getfield 1678], .ifCond .eq 14), ([.aload 0, .iconst 17, .aload 0, .getfield 518, .getfield 1665, .iconst 0, .iconst 0], .invokeinterface 10 261), ([], .return_)]
def am_p15 : List Nat := [0, 29, 37, 55, 69, 72, 80, 95, 98, 102, 110, 122, 138, 148, 163]
/-- X0_age -/
def am_k16 : List (List Instr × Instr) := [([.aload 0, .getfield 523, .iconst 8], .if_icmp .ne 3), ([.aload 0, .getfield 517, .getfield 1800, .aload 0, .getfield 530, .isub, .iconst 40], .if_icmp .lt 3), ([.aload 0, .iconst 0, .putfield 523], .nop), ([.aload 0], .invokeinterface 4 257), ([], .ifCond .eq 7), ([.aload 0, .getfield 517, .getfield 1800, .aload 0, .getfield 518, .getfield 1675, .isub, .aload 0, .getfield 518, .getfield 1674], .if_icmp .lt 7), ([.aload 0], .invokeinterface 17 257), ([.aload 0], .invokeinterface 1 257), ([], .ifCond .eq 13), ([.aload 0, .getfield 523], .ifCond .eq 13), ([.aload 0, .getfield 523, .iconst 8], .if_icmp .eq 13), ([.aload 0, .getfield 517, .getfield 1800, .aload 0, .getfield 529, .isub, .iconst 400], .if_icmp .lt 13), ([.aload 0], .invokeinterface 8 257), ([], .return_)]
def am_p16 : List Nat := [0, 9, 26, 31, 35, 38, 63, 67, 71, 74, 81, 90, 108, 112]
/-- X0_runOut -/
def am_k17 : List (List Instr × Instr) := [([.aload 0, .getfield 518], .invokeinterface 130 833), ([], .ifCond .ne 7), ([.aload 0, .aload 0, .aload 0, .getfield 518], .invokeinterface 131 833), ([.iconst 1, .iadd], .invokeinterface 11 258), ([.iconst 1], .invokeinterface 12 259), ([.aload 0], .invokeinterface 14 257), ([], .return_), ([.aload 0, .getfield 518, .dup, .getfield 1676, .iconst 1, .iadd, .putfield 1676, .aload 0, .getfield 518, .getfield 1676, .iconst 9], .if_icmp .lt 10), ([.aload 0, .iconst 3], .invokeinterface 9 258), ([], .return_), ([.aload 0, .getfield 518, .iconst 80, .iconst 2, .aload 0, .getfield 518, .getfield 1674, .imul, .jsr 0, .putfield 1674, .aload 0, .getfield 518, .aload 0, .getfield 522], .invokeinterface 140 834), ([.aload 0, .getfield 518, .aload 0, .getfield 522, .putfield 1672, .aload 0], .invokeinterface 15 257), ([], .return_)]
def am_p17 : List Nat := [0, 7, 10, 19, 24, 28, 32, 33, 58, 63, 64, 96, 111]
/-- X0_arrive -/
def am_k18 : List (List Instr × Instr) := [([.aload 0, .aload 0, .getfield 517, .getfield 1800, .putfield 529, .aload 0, .getfield 523, .iconst 1], .if_icmp .ne 3), ([.aload 0, .aload 1], .invokeinterface 19 258), ([], .ireturn), ([.aload 1, .iconst 2], .invokeinterface 126 770), ([], .ifCond .eq 11), ([.aload 0, .getfield 523, .iconst 2], .if_icmp .ne 9), ([.aload 1, .getfield 1540, .aload 0, .getfield 519, .getfield 1280], .if_icmp .ne 9), ([.aload 0], .invokeinterface 15 257), ([], .goto 10), ([.aload 0, .iconst 16, .aload 0, .getfield 518, .getfield 1666, .iconst 0, .iconst 0], .invokeinterface 10 261), ([.iconst 0], .ireturn), ([.aload 1, .iconst 4], .invokeinterface 126 770), ([], .ifCond .eq 16), ([.aload 1, .getfield 1540, .aload 0, .getfield 519, .getfield 1281], .if_icmp .ne 15), ([.aload 0, .iconst 2], .invokeinterface 9 258), ([.iconst 0], .ireturn), ([.aload 1, .iconst 16], .invokeinterface 126 770), ([], .ifCond .ne 19), ([.iconst 0], .ireturn), ([.aload 0, .getfield 523, .iconst 2], .if_icmp .ne 24), ([.aload 1, .getfield 1541, .aload 0, .getfield 518, .getfield 1664, .iconst 1, .iadd], .if_icmp .eq 23), ([.aload 0, .getfield 517, .aload 1], .invokeinterface 149 898), ([.iconst 0], .ireturn), ([.aload 0, .aload 1], .invokeinterface 20 258), ([.aload 0, .getfield 518, .getfield 1666, .aload 1, .getfield 1541], .invokeinterface 196 2), ([], .ifCond .eq 28), ([.aload 0, .iconst 16, .aload 0, .getfield 518, .getfield 1666, .iconst 0, .iconst 0], .invokeinterface 10 261), ([.iconst 0], .ireturn), ([.aload 0, .aload 1], .invokeinterface 21 258), ([], .ifCond .eq 33), ([.aload 0], .invokeinterface 15 257), ([.aload 0, .getfield 518, .aload 0, .getfield 522], .invokeinterface 140 834), ([.aload 0, .getfield 518, .aload 0, .getfield 518, .getfield 1673, .putfield 1672], .nop), ([.aload 0, .getfield 518, .aload 1], .invokeinterface 138 834), ([.aload 0], .invokeinterface 22 257), ([], .ifCond .eq 37), ([.iconst 0], .ireturn), ([.aload 0, .aload 1], .invokeinterface 24 258), ([.aload 1, .getfield 1547], .ifCond .gt 41), ([.aload 1, .iconst 1], .invokeinterface 126 770), ([], .ifCond .eq 42), ([.aload 0, .iconst 16, .aload 0, .getfield 518, .getfield 1666, .iconst 0, .iconst 0], .invokeinterface 10 261), ([.iconst 1], .ireturn)]
def am_p18 : List Nat := [0, 19, 24, 25, 30, 33, 41, 55, 59, 62, 77, 79, 84, 87, 101, 106, 108, 114, 117, 119, 127, 143, 151, 153, 158, 172, 175, 190, 192, 197, 200, 204, 215, 229, 237, 241, 244, 246, 251, 258, 263, 266, 281]
/-- X0_arriveAsked -/
def am_k19 : List (List Instr × Instr) := [([.aload 1, .iconst 16], .invokeinterface 126 770), ([], .ifCond .eq 7), ([.aload 1, .getfield 1541, .aload 0, .getfield 518, .getfield 1664, .iconst 1, .iadd], .if_icmp .eq 7), ([.aload 1, .iconst 4], .invokeinterface 126 770), ([], .ifCond .ne 6), ([.aload 0, .getfield 517, .aload 1], .invokeinterface 149 898), ([.iconst 0], .ireturn), ([.aload 1, .iconst 4], .invokeinterface 126 770), ([], .ifCond .eq 13), ([.aload 1, .iconst 16], .invokeinterface 126 770), ([], .ifCond .eq 12), ([.aload 0, .iconst 1], .invokeinterface 9 258), ([.iconst 0], .ireturn), ([.aload 1, .iconst 2], .invokeinterface 126 770), ([], .ifCond .eq 17), ([.aload 1, .iconst 16], .invokeinterface 126 770), ([], .ifCond .ne 18), ([.iconst 0], .ireturn), ([.aload 0, .getfield 519, .aload 1, .getfield 1540], .invokeinterface 94 642), ([.aload 0, .getfield 518, .aload 1], .invokeinterface 139 834), ([.aload 0, .aload 0, .getfield 521, .aload 1, .getfield 1544, .jsr 0, .putfield 522, .aload 0, .aload 1], .invokeinterface 20 258), ([.aload 0, .iconst 16, .aload 0, .getfield 518, .getfield 1666, .iconst 0, .iconst 0], .invokeinterface 10 261), ([.iconst 1], .ireturn)]
def am_p19 : List Nat := [0, 6, 9, 25, 30, 33, 41, 43, 48, 51, 57, 60, 65, 67, 72, 75, 81, 84, 86, 97, 105, 125, 140]
/-- X0_establish -/
def am_k20 : List (List Instr × Instr) := [([.aload 0, .getfield 518, .aload 1, .getfield 1541, .putfield 1665, .aload 0, .getfield 518, .iconst 0, .putfield 1676, .aload 0, .getfield 518, .aload 0, .getfield 522, .putfield 1672, .aload 0, .iconst 3, .putfield 523], .return_)]
def am_p20 : List Nat := [0]
/-- X0_isThirdDouble -/
def am_k21 : List (List Instr × Instr) := [([.aload 1, .getfield 1541, .istore 2, .iload 2, .aload 0, .getfield 518, .getfield 1665], .invokeinterface 196 2), ([], .ifCond .eq 3), ([.iconst 0], .ireturn), ([.aload 0, .getfield 518, .iconst 0, .putfield 1676, .iload 2, .aload 0, .getfield 518, .getfield 1665], .if_icmp .eq 6), ([.aload 0, .getfield 518, .iload 2, .aload 0, .getfield 522, .aload 0, .getfield 517, .getfield 1800], .invokeinterface 136 836), ([.iconst 0], .ireturn), ([.aload 1, .getfield 1547], .ifCond .gt 12), ([.aload 1, .iconst 1], .invokeinterface 126 770), ([], .ifCond .ne 12), ([.aload 0, .getfield 518], .invokeinterface 130 833), ([], .ifCond .eq 12), ([.aload 1, .getfield 1543, .aload 0, .getfield 518, .getfield 1669], .if_icmp .eq 13), ([.iconst 0], .ireturn), ([.aload 0, .getfield 518, .dup, .getfield 1677, .iconst 1, .iadd, .putfield 1677, .aload 0, .getfield 518, .getfield 1677, .iconst 3], .if_icmp .ne 15), ([.iconst 1], .goto 16), ([.iconst 0], .nop), ([], .ireturn)]
def am_p21 : List Nat := [0, 16, 19, 21, 40, 59, 61, 68, 73, 76, 83, 86, 100, 102, 126, 130, 131]
/-- X0_isEndedByAcknowledgement -/
def am_k22 : List (List Instr × Instr) := [([.aload 0, .getfield 518, .getfield 1678], .ifCond .eq 3), ([.aload 0, .getfield 518], .invokeinterface 130 833), ([], .ifCond .eq 4), ([.iconst 0], .ireturn), ([.aload 0, .getfield 523, .iconst 4], .if_icmp .ne 6), ([.aload 0, .iconst 5, .putfield 523], .goto 11), ([.aload 0, .getfield 523, .iconst 6], .if_icmp .ne 9), ([.aload 0], .invokeinterface 23 257), ([], .goto 11), ([.aload 0, .getfield 523, .iconst 9], .if_icmp .ne 11), ([.aload 0, .iconst 0, .putfield 523, .iconst 1], .ireturn), ([.iconst 0], .ireturn)]
def am_p22 : List Nat := [0, 10, 17, 20, 22, 30, 38, 47, 51, 54, 63, 70]
/-- X0_waitOut -/
def am_k23 : List (List Instr × Instr) := [([.aload 0, .iconst 8, .putfield 523, .aload 0, .aload 0, .getfield 517, .getfield 1800, .putfield 530], .return_)]
def am_p23 : List Nat := [0]
/-- X0_takeIn -/
def am_k24 : List (List Instr × Instr) := [([.aload 0, .getfield 523, .iconst 8], .if_icmp .ne 4), ([.aload 1, .iconst 1], .invokeinterface 126 770), ([], .ifCond .eq 4), ([.aload 0, .aload 0, .getfield 517, .getfield 1800, .putfield 530], .nop), ([.aload 0, .getfield 523, .iconst 3], .if_icmp .eq 8), ([.aload 0, .getfield 523, .iconst 4], .if_icmp .eq 8), ([.aload 0, .getfield 523, .iconst 5], .if_icmp .eq 8), ([], .return_), ([.aload 0, .getfield 519, .aload 1], .invokeinterface 97 642), ([.aload 1, .iconst 1], .invokeinterface 126 770), ([], .ifCond .eq 12), ([.aload 1, .getfield 1540, .aload 1, .getfield 1547, .iadd, .aload 0, .getfield 519, .getfield 1281], .if_icmp .eq 13), ([], .return_), ([.aload 0, .getfield 519, .dup, .getfield 1281, .iconst 1, .iadd, .putfield 1281, .aload 0, .getfield 519, .iconst 1, .putfield 1284, .aload 0, .getfield 523, .iconst 3], .if_icmp .ne 15), ([.aload 0, .iconst 7, .putfield 523], .goto 18), ([.aload 0, .getfield 523, .iconst 4], .if_icmp .ne 17), ([.aload 0, .iconst 6, .putfield 523], .goto 18), ([.aload 0], .invokeinterface 23 257), ([], .return_)]
def am_p24 : List Nat := [0, 9, 14, 17, 28, 36, 44, 52, 53, 61, 66, 69, 88, 89, 118, 127, 135, 144, 148]
/-- X0_takeWritten -/
def am_k25 : List (List Instr × Instr) := [([.aload 0, .getfield 518], .invokeinterface 134 833), ([.aload 1], .invokeinterface 101 705), ([.jsr 0, .istore 2, .aload 0, .getfield 518, .getfield 1667, .aload 1, .iconst 0, .iload 2], .invokeinterface 113 708), ([.aload 0, .getfield 518, .dup, .getfield 1668, .iload 2, .iadd, .putfield 1668, .iload 2], .ireturn)]
def am_p25 : List Nat := [0, 7, 11, 28]
/-- X0_hasRest -/
def am_k26 : List (List Instr × Instr) := [([.aload 0, .getfield 518, .getfield 1668, .aload 0, .getfield 518, .getfield 1667], .invokeinterface 101 705), ([], .if_icmp .ge 3), ([.iconst 1], .goto 4), ([.iconst 0], .nop), ([], .ireturn)]
def am_p26 : List Nat := [0, 17, 20, 24, 25]
/-- X0_writeRest -/
def am_k27 : List (List Instr × Instr) := [([.aload 0, .getfield 518], .invokeinterface 134 833), ([.aload 0, .getfield 518, .getfield 1667], .invokeinterface 101 705), ([.aload 0, .getfield 518, .getfield 1668, .isub, .jsr 0, .istore 1, .iload 1], .ifCond .le 5), ([.aload 0, .getfield 526], .ifCond .ne 5), ([.aload 0, .getfield 518, .dup, .getfield 1668, .iload 1, .iadd, .putfield 1668], .nop), ([], .return_)]
def am_p27 : List Nat := [0, 7, 17, 33, 40, 53]
/-- X0_takeUnread -/
def am_k28 : List (List Instr × Instr) := [([.aload 0, .getfield 519], .invokeinterface 96 641), ([.istore 2, .iload 1, .aload 0, .getfield 519], .invokeinterface 95 641), ([.jsr 0, .istore 3, .aload 0, .getfield 519, .dup, .getfield 1283, .iload 3, .iadd, .putfield 1283, .aload 0, .getfield 523], .ifCond .eq 7), ([.iload 2, .iconst 60], .if_icmp .ge 7), ([.aload 0, .getfield 519], .invokeinterface 96 641), ([.iconst 60], .if_icmp .lt 7), ([.aload 0, .iconst 16, .aload 0, .getfield 518, .getfield 1666, .iconst 0, .iconst 0], .invokeinterface 10 261), ([.iload 3], .ireturn)]
def am_p28 : List Nat := [0, 7, 16, 40, 46, 53, 58, 73]
/-- X0_isEndTold -/
def am_k29 : List (List Instr × Instr) := [([.aload 0, .getfield 519, .getfield 1284], .ifCond .eq 4), ([.aload 0, .getfield 519], .invokeinterface 95 641), ([], .ifCond .ne 4), ([.iconst 1], .goto 5), ([.iconst 0], .nop), ([], .ireturn)]
def am_p29 : List Nat := [0, 10, 17, 20, 24, 25]
/-- X0_tell -/
def am_k30 : List (List Instr × Instr) := [([.iload 1], .tableswitch 21 0 17 #[1, 2, 3, 4, 5, 6, 7, 8, 9, 10, 11, 12, 14, 16, 17, 18, 19, 20]), ([.aload 0, .getfield 523], .ireturn), ([.aload 0, .getfield 513], .ireturn), ([.aload 0, .getfield 525], .ireturn), ([.aload 0, .getfield 514], .ireturn), ([.aload 0, .getfield 518, .getfield 1665, .aload 0, .getfield 518, .getfield 1664, .isub], .ireturn), ([.aload 0, .getfield 518, .getfield 1666, .aload 0, .getfield 518, .getfield 1664, .isub], .ireturn), ([.aload 0, .getfield 519, .getfield 1281, .aload 0, .getfield 519, .getfield 1280, .isub], .ireturn), ([.aload 0, .getfield 518, .getfield 1669], .ireturn), ([.aload 0, .getfield 518, .getfield 1672], .ireturn), ([.aload 0, .getfield 518, .getfield 1673], .ireturn), ([.aload 0, .getfield 518, .getfield 1674], .ireturn), ([.aload 0, .getfield 518, .getfield 1668, .aload 0, .getfield 518], .invokeinterface 132 833), ([.isub], .ireturn), ([.aload 0, .getfield 519], .invokeinterface 95 641), ([], .ireturn), ([.aload 0, .getfield 519, .getfield 1287], .ireturn), ([.aload 0, .getfield 519, .getfield 1283], .ireturn), ([.aload 0, .getfield 524], .ireturn), ([.aload 0, .getfield 518, .getfield 1676], .ireturn), ([.aload 0, .getfield 522], .ireturn), ([.aload 0], .invokeinterface 29 257), ([], .ifCond .eq 24), ([.iconst 1], .goto 25), ([.iconst 0], .nop), ([], .ireturn)]
def am_p30 : List Nat := [0, 88, 93, 98, 103, 108, 124, 140, 156, 164, 172, 180, 188, 202, 204, 211, 212, 220, 228, 233, 241, 246, 250, 253, 257, 258]
/-- X1_init -/
def am_k31 : List (List Instr × Instr) := [([.aload 0, .invokedynamic 0, .aload 0, .new 11, .dup, .iconst 64], .invokeinterface 100 706), ([.putfield 649, .aload 0, .new 11, .dup, .iconst 1], .invokeinterface 100 706), ([.putfield 650], .return_)]
def am_p31 : List Nat := [0, 14, 26]
/-- X1_begin -/
def am_k32 : List (List Instr × Instr) := [([.aload 0, .iload 1, .putfield 640, .aload 0, .iconst 167772161, .iload 1, .iadd, .putfield 641, .aload 0, .iload 2, .putfield 642, .aload 0, .iload 3, .putfield 643, .aload 0, .iconst 0, .putfield 644, .aload 0, .iconst 0, .putfield 645, .aload 0, .iconst 0, .putfield 646, .aload 0, .iconst (-1), .putfield 647, .aload 0, .iconst 0, .putfield 648, .aload 0, .getfield 649, .iconst 0, .putfield 1409, .aload 0, .getfield 650, .iconst 0, .putfield 1409], .return_)]
def am_p32 : List Nat := [0]
/-- X1_copyOf -/
def am_k33 : List (List Instr × Instr) := [([.aload 0, .aload 1, .getfield 640, .aload 1, .getfield 642, .aload 1, .getfield 643], .invokeinterface 32 324), ([.aload 0, .aload 1, .getfield 641, .putfield 641, .aload 0, .aload 1, .getfield 644, .putfield 644, .aload 0, .aload 1, .getfield 645, .putfield 645, .aload 0, .getfield 649, .aload 1, .getfield 649, .iconst 0, .aload 1, .getfield 649], .invokeinterface 101 705), ([], .invokeinterface 113 708), ([], .return_)]
def am_p33 : List Nat := [0, 16, 56, 59]
/-- X1_headSum -/
def am_k34 : List (List Instr × Instr) := [([.aload 0, .getfield 641, .iconst 16, .iushr, .aload 0, .getfield 641, .iconst 65535, .iand, .iadd, .aload 0, .getfield 642, .iconst 16, .iushr, .iadd, .aload 0, .getfield 642, .iconst 65535, .iand, .iadd, .aload 0, .getfield 643, .iadd, .aload 0, .getfield 649, .getfield 1409, .iadd], .ireturn)]
def am_p34 : List Nat := [0]
/-- X1_closeNames -/
def am_k35 : List (List Instr × Instr) := [([.aload 0, .getfield 649, .iconst 4, .aload 0, .getfield 649], .invokeinterface 101 705), ([], .invokeinterface 108 707), ([.aload 0, .getfield 649, .iconst 0, .aload 0, .getfield 649], .invokeinterface 101 705), ([.aload 0], .invokeinterface 34 321), ([], .invokeinterface 124 708), ([.istore 1, .aload 0, .getfield 649, .iconst 6, .iload 1], .ifCond .ne 7), ([.iconst 65535], .goto 8), ([.iload 1], .nop), ([], .invokeinterface 108 707), ([], .return_)]
def am_p35 : List Nat := [0, 12, 15, 27, 31, 34, 45, 50, 51, 54]
/-- X1_closeSegment -/
def am_k36 : List (List Instr × Instr) := [([.aload 0, .getfield 649, .iconst 16, .aload 0, .getfield 649, .iconst 0, .aload 0, .getfield 649], .invokeinterface 101 705), ([.aload 0], .invokeinterface 34 321), ([], .invokeinterface 124 708), ([], .invokeinterface 108 707), ([], .return_)]
def am_p36 : List Nat := [0, 18, 22, 25, 28]
/-- X1_putPiece -/
def am_k37 : List (List Instr × Instr) := [([.aload 0, .getfield 649, .iload 4, .iload 3, .iadd, .aload 0, .getfield 649], .invokeinterface 101 705), ([.isub], .invokeinterface 114 706), ([.aload 0, .getfield 650, .iload 4, .iload 3, .iadd, .aload 0, .getfield 650], .invokeinterface 101 705), ([.isub], .invokeinterface 114 706), ([.iconst 0, .istore 5], .nop), ([.iload 5, .iload 3], .if_icmp .ge 10), ([.aload 0, .getfield 649, .iload 4, .iload 5, .iadd, .aload 1, .iload 2, .iload 5, .iadd], .invokeinterface 102 706), ([], .invokeinterface 107 707), ([.aload 0, .getfield 650, .iload 4, .iload 5, .iadd, .iconst 1], .invokeinterface 107 707), ([.iinc 5 1], .goto 5), ([], .return_)]
def am_p37 : List Nat := [0, 15, 19, 34, 38, 41, 47, 64, 67, 80, 86]
/-- X1_isWhole -/
def am_k38 : List (List Instr × Instr) := [([.aload 0, .getfield 647, .iconst (-1)], .if_icmp .eq 3), ([.aload 0, .getfield 647, .aload 0, .getfield 650], .invokeinterface 101 705), ([], .if_icmp .le 4), ([.iconst 0], .ireturn), ([.iconst 0, .istore 1], .nop), ([.iload 1, .aload 0, .getfield 647], .if_icmp .ge 10), ([.aload 0, .getfield 650, .iload 1], .invokeinterface 102 706), ([], .ifCond .ne 9), ([.iconst 0], .ireturn), ([.iinc 1 1], .goto 5), ([.iconst 1], .ireturn)]
def am_p38 : List Nat := [0, 8, 19, 22, 24, 26, 34, 42, 45, 47, 53]
/-- X2_init -/
def am_k39 : List (List Instr × Instr) := [([.aload 0, .invokedynamic 0, .aload 0, .new 11, .dup, .iconst 614], .invokeinterface 100 706), ([.putfield 768], .return_)]
def am_p39 : List Nat := [0, 15]
/-- X3_init -/
def am_k40 : List (List Instr × Instr) := [([.aload 0, .invokedynamic 0, .aload 0, .new 11, .dup, .iconst 1], .invokeinterface 100 706), ([.putfield 899, .aload 0, .iconst 5, .newarray .int, .putfield 900, .aload 0, .iconst 5, .newarray .long, .putfield 901, .aload 0, .iconst 5, .newarray .int, .putfield 902, .aload 0, .iconst 5, .newarray .int, .putfield 904, .aload 0, .iconst 4, .anewarray 205, .putfield 905, .aload 0, .iconst 4, .anewarray 205, .putfield 907, .aload 0, .iload 1, .putfield 896, .aload 0, .iload 2, .putfield 897, .aload 0, .iload 3, .putfield 898, .iconst 0, .istore 4], .nop), ([.iload 4, .iconst 5], .if_icmp .ge 4), ([.aload 0, .getfield 904, .iload 4, .iconst (-1), .iastore, .iinc 4 1], .goto 2), ([.iconst 0, .istore 4], .nop), ([.iload 4, .iconst 4], .if_icmp .ge 8), ([.aload 0, .getfield 905, .iload 4, .new 5, .dup], .invokeinterface 31 321), ([.aastore, .iinc 4 1], .goto 5), ([.iconst 0, .istore 4], .nop), ([.iload 4, .iconst 4], .if_icmp .ge 12), ([.aload 0, .getfield 907, .iload 4, .new 5, .dup], .invokeinterface 31 321), ([.aastore, .iinc 4 1], .goto 9), ([], .return_)]
def am_p40 : List Nat := [0, 13, 78, 84, 98, 101, 107, 120, 127, 130, 136, 149, 156]
/-- X3_placeOf -/
def am_k41 : List (List Instr × Instr) := [([.iconst 0, .istore 2], .nop), ([.iload 2, .aload 0, .getfield 903], .if_icmp .ge 5), ([.aload 0, .getfield 900, .iload 2, .iaload, .iload 1], .if_icmp .ne 4), ([.iload 2], .ireturn), ([.iinc 2 1], .goto 1), ([.iconst (-1)], .ireturn)]
def am_p41 : List Nat := [0, 2, 10, 20, 22, 28]
/-- X3_hardwareAt -/
def am_k42 : List (List Instr × Instr) := [([.iload 1], .ifCond .lt 3), ([.iload 1, .aload 0, .getfield 903], .if_icmp .ge 3), ([.aload 0, .getfield 901, .iload 1, .laload], .goto 4), ([.jsr_w 0], .nop), ([], .lreturn)]
def am_p42 : List Nat := [0, 4, 12, 21, 22]
/-- X3_learn -/
def am_k43 : List (List Instr × Instr) := [([.iload 1], .ifCond .lt 2), ([.iload 1, .aload 0, .getfield 903], .if_icmp .le 3), ([], .return_), ([.iload 1, .aload 0, .getfield 900, .arraylength], .if_icmp .ne 8), ([.aload 0, .aload 0, .getfield 900, .iconst 2, .iload 1, .imul, .iconst 1, .iadd], .invokeinterface 521 2), ([.putfield 900, .aload 0, .aload 0, .getfield 901, .iconst 2, .iload 1, .imul, .iconst 1, .iadd], .invokeinterface 522 2), ([.putfield 901, .aload 0, .aload 0, .getfield 902, .iconst 2, .iload 1, .imul, .iconst 1, .iadd], .invokeinterface 521 2), ([.putfield 902], .nop), ([.aload 0, .getfield 900, .iload 1, .iload 2, .iastore, .aload 0, .getfield 901, .iload 1, .lload 3, .lastore, .aload 0, .getfield 902, .iload 1, .iload 5, .iastore, .iload 1, .aload 0, .getfield 903], .if_icmp .ne 10), ([.aload 0, .dup, .getfield 903, .iconst 1, .iadd, .putfield 903], .nop), ([], .return_)]
def am_p43 : List Nat := [0, 4, 12, 13, 22, 35, 51, 67, 70, 100, 110]
/-- X3_dropOld -/
def am_k44 : List (List Instr × Instr) := [([.iconst 0, .istore 2, .iconst 0, .istore 3], .nop), ([.iload 3, .aload 0, .getfield 903], .if_icmp .ge 6), ([.iload 1, .aload 0, .getfield 902, .iload 3, .iaload, .isub, .iconst 200], .if_icmp .lt 4), ([], .goto 5), ([.aload 0, .getfield 900, .iload 2, .aload 0, .getfield 900, .iload 3, .iaload, .iastore, .aload 0, .getfield 901, .iload 2, .aload 0, .getfield 901, .iload 3, .laload, .lastore, .aload 0, .getfield 902, .iload 2, .aload 0, .getfield 902, .iload 3, .iaload, .iastore, .iinc 2 1], .nop), ([.iinc 3 1], .goto 1), ([.aload 0, .iload 2, .putfield 903, .aload 0, .getfield 908, .iconst 1, .isub, .istore 3], .nop), ([.iload 3], .ifCond .lt 11), ([.iload 1, .aload 0, .getfield 907, .iload 3, .aaload, .getfield 646, .isub, .iconst 60], .if_icmp .lt 10), ([.aload 0, .iload 3], .invokeinterface 58 450), ([.iinc 3 (-1)], .goto 7), ([], .return_)]
def am_p44 : List Nat := [0, 4, 12, 26, 29, 68, 74, 86, 90, 106, 111, 117]
/-- X3_post -/
def am_k45 : List (List Instr × Instr) := [([.aload 1, .aload 0, .getfield 909, .iconst 65535, .iand, .putfield 644, .aload 0, .dup, .getfield 909, .iconst 1, .iadd, .putfield 909, .aload 1, .aload 0, .getfield 897, .putfield 645, .aload 0, .aload 1, .getfield 642], .invokeinterface 41 450), ([.istore 3, .iload 3, .iconst (-1)], .if_icmp .eq 5), ([.aload 0, .aload 1, .aload 0, .iload 3], .invokeinterface 42 450), ([.aload 2], .invokeinterface 48 452), ([], .return_), ([.aload 0, .getfield 906, .iconst 4], .if_icmp .ne 7), ([.aload 0, .iconst 0], .invokeinterface 50 450), ([.aload 0, .getfield 905, .aload 0, .getfield 906, .aaload, .aload 1], .invokeinterface 33 322), ([.aload 0, .dup, .getfield 906, .iconst 1, .iadd, .putfield 906, .aload 0, .aload 1, .getfield 642, .aload 2], .invokeinterface 46 451), ([], .return_)]
def am_p45 : List Nat := [0, 37, 43, 50, 54, 55, 63, 68, 81, 100]
/-- X3_ask -/
def am_k46 : List (List Instr × Instr) := [([.iload 1, .iconst 167772161, .isub, .istore 3, .iload 3], .ifCond .lt 2), ([.iload 3, .iconst 5], .if_icmp .lt 3), ([], .return_), ([.aload 0, .getfield 904, .iload 3, .iaload, .iconst (-1)], .if_icmp .eq 6), ([.aload 2, .getfield 1800, .aload 0, .getfield 904, .iload 3, .iaload, .isub, .iconst 5], .if_icmp .ge 6), ([], .return_), ([.aload 0, .getfield 904, .iload 3, .aload 2, .getfield 1800, .iastore, .aload 0, .aload 2, .iconst 1, .jsr_w 281474976710655, .jsr_w 0, .iload 1], .invokeinterface 47 454), ([], .return_)]
def am_p46 : List Nat := [0, 9, 14, 15, 25, 40, 41, 62]
/-- X3_sendMessage -/
def am_k47 : List (List Instr × Instr) := [([.aload 1, .aload 0, .getfield 896, .iconst 0], .invokeinterface 142 899), ([.getfield 768, .astore 8, .aload 8, .lload 3], .invokeinterface 112 706), ([.aload 8, .jsr_w 2199023255553, .aload 0, .getfield 896, .i2l, .ladd], .invokeinterface 112 706), ([.aload 8, .iconst 2054], .invokeinterface 110 706), ([.aload 8, .iconst 1], .invokeinterface 110 706), ([.aload 8, .iconst 2048], .invokeinterface 110 706), ([.aload 8, .iconst 1540], .invokeinterface 110 706), ([.aload 8, .iload 2], .invokeinterface 110 706), ([.aload 8, .jsr_w 2199023255553, .aload 0, .getfield 896, .i2l, .ladd], .invokeinterface 112 706), ([.aload 8, .iconst 167772161, .aload 0, .getfield 896, .iadd], .invokeinterface 111 706), ([.aload 8, .lload 5], .invokeinterface 112 706), ([.aload 8, .iload 7], .invokeinterface 111 706), ([], .return_)]
def am_p47 : List Nat := [0, 9, 20, 34, 42, 48, 56, 64, 70, 84, 96, 103, 110]
/-- X3_sendPieces -/
def am_k48 : List (List Instr × Instr) := [([.aload 1, .getfield 649], .invokeinterface 101 705), ([.istore 5, .aload 1, .getfield 645, .iconst 20, .isub, .iconst 8, .idiv, .iconst 8, .imul, .istore 6, .iload 5, .iconst 20, .iadd, .aload 1, .getfield 645], .if_icmp .le 3), ([.iload 6, .iconst 8], .if_icmp .ge 5), ([.aload 0, .aload 4, .aload 1, .lload 2, .iconst 0, .iload 5], .invokeinterface 49 454), ([], .return_), ([.iconst 0, .istore 7], .nop), ([.iload 7, .iload 5], .if_icmp .ge 9), ([.aload 0, .aload 4, .aload 1, .lload 2, .iload 7, .iload 6, .iload 5, .iload 7, .isub, .jsr 0], .invokeinterface 49 454), ([.iload 7, .iload 6, .iadd, .istore 7], .goto 6), ([], .return_)]
def am_p48 : List Nat := [0, 7, 36, 43, 54, 55, 58, 65, 85, 95]
/-- X3_sendPart -/
def am_k49 : List (List Instr × Instr) := [([.iload 5, .iload 6, .iadd, .aload 2, .getfield 649], .invokeinterface 101 705), ([], .if_icmp .ge 3), ([.iconst 1], .goto 4), ([.iconst 0], .nop), ([.istore 7, .aload 1, .aload 0, .getfield 896, .iload 7], .ifCond .ne 6), ([.iload 5], .ifCond .le 7), ([.iconst 1], .goto 8), ([.iconst 0], .nop), ([], .invokeinterface 142 899), ([.getfield 768, .astore 8, .aload 8, .lload 3], .invokeinterface 112 706), ([.aload 8, .jsr_w 2199023255553, .aload 0, .getfield 896, .i2l, .ladd], .invokeinterface 112 706), ([.aload 8, .iconst 2048], .invokeinterface 110 706), ([.aload 8, .iconst 17664], .invokeinterface 110 706), ([.aload 8, .iconst 20, .iload 6, .iadd], .invokeinterface 110 706), ([.aload 8, .aload 2, .getfield 644], .invokeinterface 110 706), ([.aload 8, .iload 7], .ifCond .eq 17), ([.iconst 8192], .goto 18), ([.iconst 0], .nop), ([.iload 5, .iconst 3, .ishr, .ior], .invokeinterface 110 706), ([.aload 8, .iconst 16384, .aload 2, .getfield 643, .ior], .invokeinterface 110 706), ([.aload 8, .iconst 0], .invokeinterface 110 706), ([.aload 8, .aload 2, .getfield 641], .invokeinterface 111 706), ([.aload 8, .aload 2, .getfield 642], .invokeinterface 111 706), ([.aload 8, .iconst 24, .aload 8, .iconst 14, .iconst 34, .iconst 0], .invokeinterface 124 708), ([], .invokeinterface 108 707), ([.aload 8, .aload 2, .getfield 649, .iload 5, .iload 6], .invokeinterface 113 708), ([], .return_)]
def am_p49 : List Nat := [0, 12, 15, 19, 20, 32, 37, 41, 42, 45, 56, 70, 78, 86, 96, 105, 112, 118, 119, 127, 140, 146, 155, 164, 178, 181, 194]
/-- X3_dropWaiting -/
def am_k50 : List (List Instr × Instr) := [([.iload 1], .ifCond .lt 2), ([.iload 1, .aload 0, .getfield 906], .if_icmp .lt 3), ([], .return_), ([.aload 0, .getfield 905, .iload 1, .aaload, .astore 2, .iload 1, .iconst 1, .iadd, .istore 3], .nop), ([.iload 3, .aload 0, .getfield 906], .if_icmp .ge 6), ([.aload 0, .getfield 905, .iload 3, .iconst 1, .isub, .aload 0, .getfield 905, .iload 3, .aaload, .aastore, .iinc 3 1], .goto 4), ([.aload 0, .dup, .getfield 906, .iconst 1, .isub, .putfield 906, .aload 0, .getfield 905, .aload 0, .getfield 906, .aload 2, .aastore], .return_)]
def am_p50 : List Nat := [0, 4, 12, 13, 24, 32, 52]
/-- X3_sendLearned -/
def am_k51 : List (List Instr × Instr) := [([.aload 1, .getfield 768, .iconst 28], .invokeinterface 104 706), ([.istore 3, .aload 0, .iload 3], .invokeinterface 41 450), ([.istore 4, .iload 4, .iconst (-1)], .if_icmp .eq 12), ([.aload 0, .getfield 906, .istore 5, .iconst 0, .istore 6, .iconst 0, .istore 7], .nop), ([.iload 7, .iload 5], .if_icmp .ge 12), ([.aload 0, .getfield 905, .iload 6, .aaload, .getfield 642, .iload 3], .if_icmp .ne 10), ([.aload 0, .aload 0, .getfield 905, .iload 6, .aaload, .aload 0, .iload 4], .invokeinterface 42 450), ([.aload 2], .invokeinterface 48 452), ([.aload 0, .iload 6], .invokeinterface 50 450), ([], .goto 11), ([.iinc 6 1], .nop), ([.iinc 7 1], .goto 4), ([.aload 1, .getfield 768, .iconst 20], .invokeinterface 103 706), ([.iconst 1], .if_icmp .ne 18), ([.aload 1, .getfield 768, .iconst 38], .invokeinterface 104 706), ([.iconst 167772161, .aload 0, .getfield 896, .iadd], .if_icmp .ne 18), ([.aload 1, .getfield 768, .iconst 22], .invokeinterface 105 706), ([.lstore 5, .aload 0, .aload 2, .iconst 2, .lload 5, .lload 5, .iload 3], .invokeinterface 47 454), ([], .return_)]
def am_p51 : List Nat := [0, 9, 15, 23, 35, 42, 56, 70, 74, 80, 83, 86, 92, 101, 105, 114, 124, 133, 146]
/-- X3_takeFrame -/
def am_k52 : List (List Instr × Instr) := [([.aload 1, .getfield 768, .astore 4, .aload 4, .iconst 12], .invokeinterface 103 706), ([.istore 5, .iload 5, .iconst 2054], .if_icmp .ne 6), ([.aload 4], .invokeinterface 53 1), ([], .ifCond .eq 6), ([.aload 0, .aload 4, .iload 2], .invokeinterface 54 451), ([.iconst 1], .ireturn), ([.iload 5, .iconst 2048], .if_icmp .ne 18), ([.aload 0, .aload 4], .invokeinterface 55 450), ([], .ifCond .eq 18), ([.aload 0, .aload 4, .iload 2, .aload 3], .invokeinterface 56 452), ([.istore 6, .aload 3, .aload 1, .getfield 770], .ifCond .eq 13), ([.aload 1, .getfield 772, .iconst 14], .if_icmp .lt 13), ([.iconst 1], .goto 14), ([.iconst 0], .nop), ([.putfield 648, .iload 6], .ifCond .eq 16), ([.iconst 2], .goto 17), ([.iconst 0], .nop), ([], .ireturn), ([.aload 0, .dup, .getfield 911, .iconst 1, .iadd, .putfield 911, .iconst 0], .ireturn)]
def am_p52 : List Nat := [0, 13, 23, 28, 31, 38, 40, 48, 54, 57, 65, 75, 84, 88, 89, 97, 101, 102, 103]
/-- X3_isMessage -/
def am_k53 : List (List Instr × Instr) := [([.aload 0, .iconst 20], .invokeinterface 103 706), ([.istore 1, .aload 0], .invokeinterface 101 705), ([.iconst 42], .if_icmp .ne 10), ([.aload 0, .iconst 14], .invokeinterface 104 706), ([.iconst 67584], .if_icmp .ne 10), ([.aload 0, .iconst 18], .invokeinterface 103 706), ([.iconst 1540], .if_icmp .ne 10), ([.iload 1, .iconst 1], .if_icmp .eq 9), ([.iload 1, .iconst 2], .if_icmp .ne 10), ([.iconst 1], .goto 11), ([.iconst 0], .nop), ([], .ireturn)]
def am_p53 : List Nat := [0, 6, 11, 16, 22, 27, 33, 39, 44, 49, 53, 54]
/-- X3_takeMessage -/
def am_k54 : List (List Instr × Instr) := [([.aload 1, .iconst 28], .invokeinterface 104 706), ([.istore 3, .aload 0, .iload 3], .invokeinterface 41 450), ([.istore 4, .aload 1, .iconst 38], .invokeinterface 104 706), ([.iconst 167772161, .aload 0, .getfield 896, .iadd], .if_icmp .ne 5), ([.iconst 1], .goto 6), ([.iconst 0], .nop), ([.istore 5, .iload 4, .iconst (-1)], .if_icmp .eq 10), ([.aload 0, .iload 4, .iload 3, .aload 1, .iconst 22], .invokeinterface 105 706), ([.iload 2], .invokeinterface 43 453), ([], .goto 13), ([.iload 5], .ifCond .eq 13), ([.aload 0, .aload 0, .getfield 903, .iload 3, .aload 1, .iconst 22], .invokeinterface 105 706), ([.iload 2], .invokeinterface 43 453), ([], .return_)]
def am_p54 : List Nat := [0, 6, 12, 20, 30, 34, 35, 43, 53, 57, 60, 65, 77, 81]
/-- X3_isDatagram -/
def am_k55 : List (List Instr × Instr) := [([.aload 1], .invokeinterface 101 705), ([.iconst 14, .isub, .istore 2, .aload 1, .iconst 16], .invokeinterface 103 706), ([.istore 3, .iload 2, .iconst 20], .if_icmp .lt 12), ([.aload 1, .iconst 14], .invokeinterface 102 706), ([.iconst 69], .if_icmp .ne 12), ([.iload 3, .iconst 20], .if_icmp .lt 12), ([.iload 3, .iload 2], .if_icmp .gt 12), ([.aload 1, .iconst 14, .iconst 34, .iconst 0], .invokeinterface 124 708), ([], .ifCond .ne 12), ([.aload 1, .iconst 30], .invokeinterface 104 706), ([.iconst 167772161, .aload 0, .getfield 896, .iadd], .if_icmp .ne 12), ([.iconst 1], .goto 13), ([.iconst 0], .nop), ([], .ireturn)]
def am_p55 : List Nat := [0, 4, 14, 21, 27, 32, 38, 43, 52, 55, 61, 71, 75, 76]
/-- X3_takeDatagram -/
def am_k56 : List (List Instr × Instr) := [([.aload 1, .iconst 16], .invokeinterface 103 706), ([.iconst 20, .isub, .istore 4, .aload 1, .iconst 20], .invokeinterface 103 706), ([.iconst 8191, .iand, .iconst 8, .imul, .istore 5, .aload 1, .iconst 20], .invokeinterface 103 706), ([.iconst 8192, .iand], .ifCond .eq 5), ([.iconst 1], .goto 6), ([.iconst 0], .nop), ([.istore 6, .aload 3, .aload 0, .getfield 896, .iconst 167772161, .aload 0, .getfield 896, .iadd, .aload 1, .iconst 23], .invokeinterface 102 706), ([], .invokeinterface 32 324), ([.aload 3, .aload 1, .iconst 26], .invokeinterface 104 706), ([.putfield 641, .aload 3, .aload 1, .iconst 18], .invokeinterface 103 706), ([.putfield 644, .aload 3, .iload 2, .putfield 646, .iload 6], .ifCond .ne 14), ([.iload 5], .ifCond .ne 14), ([.aload 3, .getfield 649, .aload 1, .iconst 34, .iload 4], .invokeinterface 113 708), ([.aload 0, .dup, .getfield 910, .iconst 1, .iadd, .putfield 910, .iconst 1], .ireturn), ([.aload 0, .aload 3], .invokeinterface 57 450), ([.istore 7, .aload 0, .getfield 907, .iload 7, .aaload, .astore 8, .aload 8, .aload 1, .iconst 34, .iload 4, .iload 5], .invokeinterface 37 325), ([.iload 6], .ifCond .ne 18), ([.aload 8, .iload 5, .iload 4, .iadd, .putfield 647], .nop), ([.aload 8], .invokeinterface 38 321), ([], .ifCond .ne 21), ([.iconst 0], .ireturn), ([.aload 3, .getfield 649, .aload 8, .getfield 649, .iconst 0, .aload 8, .getfield 647], .invokeinterface 113 708), ([.aload 0, .iload 7], .invokeinterface 58 450), ([.aload 0, .dup, .getfield 910, .iconst 1, .iadd, .putfield 910, .iconst 1], .ireturn)]
def am_p56 : List Nat := [0, 6, 17, 32, 39, 43, 44, 64, 67, 74, 84, 97, 102, 114, 126, 131, 154, 159, 169, 174, 177, 179, 197, 203]
/-- X3_keptPlace -/
def am_k57 : List (List Instr × Instr) := [([.iconst 0, .istore 2], .nop), ([.iload 2, .aload 0, .getfield 908], .if_icmp .ge 7), ([.aload 0, .getfield 907, .iload 2, .aaload, .astore 3, .aload 3, .getfield 641, .aload 1, .getfield 641], .if_icmp .ne 6), ([.aload 3, .getfield 644, .aload 1, .getfield 644], .if_icmp .ne 6), ([.aload 3, .getfield 643, .aload 1, .getfield 643], .if_icmp .ne 6), ([.iload 2], .ireturn), ([.iinc 2 1], .goto 1), ([.aload 0, .getfield 908, .iconst 4], .if_icmp .ne 9), ([.aload 0, .iconst 0], .invokeinterface 58 450), ([.aload 0, .getfield 907, .aload 0, .getfield 908, .aaload, .aload 1], .invokeinterface 33 322), ([.aload 0, .getfield 907, .aload 0, .getfield 908, .aaload, .aload 1, .getfield 646, .putfield 646, .aload 0, .dup, .getfield 908, .iconst 1, .iadd, .putfield 908, .aload 0, .getfield 908, .iconst 1, .isub], .ireturn)]
def am_p57 : List Nat := [0, 2, 10, 28, 39, 50, 52, 58, 66, 71, 84]
/-- X3_dropKept -/
def am_k58 : List (List Instr × Instr) := [([.iload 1], .ifCond .lt 2), ([.iload 1, .aload 0, .getfield 908], .if_icmp .lt 3), ([], .return_), ([.aload 0, .getfield 907, .iload 1, .aaload, .astore 2, .iload 1, .iconst 1, .iadd, .istore 3], .nop), ([.iload 3, .aload 0, .getfield 908], .if_icmp .ge 6), ([.aload 0, .getfield 907, .iload 3, .iconst 1, .isub, .aload 0, .getfield 907, .iload 3, .aaload, .aastore, .iinc 3 1], .goto 4), ([.aload 0, .dup, .getfield 908, .iconst 1, .isub, .putfield 908, .aload 0, .getfield 907, .aload 0, .getfield 908, .aload 2, .aastore], .return_)]
def am_p58 : List Nat := [0, 4, 12, 13, 24, 32, 52]
/-- X4_init -/
def am_k59 : List (List Instr × Instr) := [([.aload 0, .invokedynamic 0, .aload 0, .iconst 8, .anewarray 211, .putfield 1024, .aload 0, .iconst 8, .anewarray 211, .putfield 1025, .aload 0, .iconst 8, .newarray .int, .putfield 1026, .aload 0, .new 11, .dup, .iconst 64], .invokeinterface 100 706), ([.putfield 1029, .aload 0, .new 11, .dup, .iconst 16], .invokeinterface 100 706), ([.putfield 1030, .iconst 0, .istore 1], .nop), ([.iload 1, .iconst 8], .if_icmp .ge 7), ([.aload 0, .getfield 1024, .iload 1, .new 11, .dup, .iconst 14], .invokeinterface 100 706), ([.aastore, .aload 0, .getfield 1025, .iload 1, .new 11, .dup, .iconst 1], .invokeinterface 100 706), ([.aastore, .iinc 1 1], .goto 3), ([.aload 0, .aload 0, .getfield 1029, .putfield 1032], .return_)]
def am_p59 : List Nat := [0, 40, 53, 58, 64, 78, 92, 99]
/-- X4_forget -/
def am_k60 : List (List Instr × Instr) := [([.aload 0, .iconst 0, .putfield 1027, .aload 0, .iconst 0, .putfield 1028], .return_)]
def am_p60 : List Nat := [0]
/-- X4_isLike -/
def am_k61 : List (List Instr × Instr) := [([.aload 0, .getfield 1027, .aload 1, .getfield 1027], .if_icmp .ne 2), ([.aload 0, .getfield 1028, .aload 1, .getfield 1028], .if_icmp .eq 3), ([.iconst 0], .ireturn), ([.iconst 0, .istore 2], .nop), ([.iload 2, .aload 0, .getfield 1027], .if_icmp .ge 18), ([.aload 0, .getfield 1025, .iload 2, .aaload, .astore 3, .aload 0, .getfield 1026, .iload 2, .iaload, .aload 1, .getfield 1026, .iload 2, .iaload], .if_icmp .ne 8), ([.aload 0, .getfield 1024, .iload 2, .aaload, .aload 1, .getfield 1024, .iload 2, .aaload], .invokeinterface 119 706), ([], .ifCond .eq 9), ([.iconst 0], .ireturn), ([.aload 3], .invokeinterface 101 705), ([.aload 1, .getfield 1025, .iload 2, .aaload], .invokeinterface 101 705), ([], .if_icmp .eq 13), ([.iconst 0], .ireturn), ([.aload 3, .iconst 0, .aload 1, .getfield 1025, .iload 2, .aaload, .iconst 0, .aload 3], .invokeinterface 101 705), ([], .invokeinterface 118 709), ([], .ifCond .ne 17), ([.iconst 0], .ireturn), ([.iinc 2 1], .goto 4), ([.iconst 1], .ireturn)]
def am_p61 : List Nat := [0, 11, 22, 24, 26, 34, 56, 71, 74, 76, 80, 89, 92, 94, 107, 110, 113, 115, 121]
/-- X4_perform -/
def am_k62 : List (List Instr × Instr) := [([.aload 0, .iconst (-1), .putfield 1031, .aload 0, .getfield 1029], .invokeinterface 106 705), ([.aload 0, .aload 0, .getfield 1029, .putfield 1032, .aload 0, .iconst 0, .putfield 1033, .aload 0, .iconst 0, .putfield 1034, .iload 2, .iconst 1], .if_icmp .eq 3), ([.iload 2], .ireturn), ([.aload 1, .getfield 1158, .astore 3, .aload 1, .getfield 1157, .iconst 6], .if_icmp .ne 9), ([.aload 3], .invokeinterface 101 705), ([.iconst 1], .if_icmp .ne 9), ([.aload 3, .iconst 0], .invokeinterface 102 706), ([.iconst 42], .if_icmp .ne 9), ([.iconst 204], .ireturn), ([.aload 3, .iconst 0], .invokeinterface 102 706), ([.iconst 47], .if_icmp .eq 12), ([.iconst 400], .ireturn), ([.aload 3], .invokeinterface 101 705), ([.iconst 1], .if_icmp .ne 15), ([.iconst 1], .goto 16), ([.iconst 0], .nop), ([.istore 4, .iload 4], .ifCond .ne 20), ([.aload 3], .invokeinterface 63 1), ([], .ifCond .ne 20), ([.iconst 404], .ireturn), ([.aload 1, .getfield 1157, .iconst 6], .if_icmp .ne 22), ([.iconst 204], .ireturn), ([.aload 1, .getfield 1157, .iconst 1], .if_icmp .eq 24), ([.aload 1, .getfield 1157, .iconst 2], .if_icmp .ne 25), ([.iconst 1], .goto 26), ([.iconst 0], .nop), ([.istore 5, .iload 4], .ifCond .eq 32), ([.iload 5], .ifCond .eq 30), ([.aload 0], .invokeinterface 66 513), ([], .goto 31), ([.iconst 405], .nop), ([], .ireturn), ([.aload 0, .aload 3], .invokeinterface 64 514), ([.istore 6, .iload 5], .ifCond .eq 36), ([.aload 0, .aload 1, .iload 6], .invokeinterface 67 515), ([], .ireturn), ([.iload 6, .iconst (-1)], .if_icmp .ne 39), ([.aload 1, .getfield 1157, .iconst 3], .if_icmp .eq 39), ([.iconst 404], .ireturn), ([.iload 6, .iconst (-1)], .if_icmp .ne 41), ([.iconst (-1)], .goto 42), ([.aload 0, .getfield 1026, .iload 6, .iaload], .nop), ([.istore 7, .aload 0, .aload 1, .getfield 1165, .iload 7, .iconst 1], .invokeinterface 65 516), ([], .ifCond .eq 46), ([.aload 0, .aload 1, .getfield 1166, .iload 7, .iconst 0], .invokeinterface 65 516), ([], .ifCond .eq 47), ([.iconst 412], .ireturn), ([.aload 1, .getfield 1157, .iconst 3], .if_icmp .ne 50), ([.aload 0, .aload 1, .iload 6], .invokeinterface 69 515), ([], .ireturn), ([.aload 1, .getfield 1157, .iconst 4], .if_icmp .ne 53), ([.aload 0, .aload 1, .iload 6], .invokeinterface 70 515), ([], .ireturn), ([.aload 0, .iload 6], .invokeinterface 73 514), ([.iconst 204], .ireturn)]
def am_p62 : List Nat := [0, 12, 35, 37, 51, 55, 59, 64, 69, 73, 78, 83, 87, 91, 95, 99, 100, 107, 111, 114, 118, 127, 131, 139, 147, 151, 152, 159, 164, 168, 171, 174, 175, 180, 187, 194, 195, 201, 209, 213, 219, 223, 230, 243, 246, 257, 260, 264, 272, 279, 280, 288, 295, 296, 302]
/-- X4_isFileName -/
def am_k63 : List (List Instr × Instr) := [([.aload 0], .invokeinterface 101 705), ([.iconst 13], .if_icmp .le 3), ([.iconst 0], .ireturn), ([.iconst 1, .istore 1], .nop), ([.iload 1, .aload 0], .invokeinterface 101 705), ([], .if_icmp .ge 17), ([.aload 0, .iload 1], .invokeinterface 102 706), ([.istore 2, .iload 2, .iconst 97], .if_icmp .lt 9), ([.iload 2, .iconst 122], .if_icmp .le 12), ([.iload 2, .iconst 48], .if_icmp .lt 11), ([.iload 2, .iconst 57], .if_icmp .le 12), ([.iload 2, .iconst 46], .if_icmp .ne 13), ([.iconst 1], .goto 14), ([.iconst 0], .nop), ([.istore 3, .iload 3], .ifCond .ne 16), ([.iconst 0], .ireturn), ([.iinc 1 1], .goto 4), ([.iconst 1], .ireturn)]
def am_p63 : List Nat := [0, 4, 9, 11, 13, 18, 21, 26, 33, 39, 45, 51, 57, 61, 62, 67, 69, 75]
/-- X4_placeOf -/
def am_k64 : List (List Instr × Instr) := [([.iconst 0, .istore 2], .nop), ([.iload 2, .aload 0, .getfield 1027], .if_icmp .ge 6), ([.aload 0, .getfield 1024, .iload 2, .aaload, .aload 1], .invokeinterface 119 706), ([], .ifCond .ne 5), ([.iload 2], .ireturn), ([.iinc 2 1], .goto 1), ([.iconst (-1)], .ireturn)]
def am_p64 : List Nat := [0, 2, 10, 20, 23, 25, 31]
/-- X4_isMatched -/
def am_k65 : List (List Instr × Instr) := [([.aload 1], .invokeinterface 101 705), ([], .ifCond .ne 3), ([.iload 3], .ireturn), ([.iload 2, .iconst (-1)], .if_icmp .ne 5), ([.iconst 0], .ireturn), ([.aload 1], .invokeinterface 101 705), ([.iconst 2], .if_icmp .ne 10), ([.aload 1, .iconst 1], .invokeinterface 102 706), ([.iconst 42], .if_icmp .ne 10), ([.iconst 1], .ireturn), ([.aload 0, .getfield 1030], .invokeinterface 106 705), ([.aload 0, .getfield 1030, .ldc 18], .invokeinterface 115 706), ([.aload 0, .getfield 1030, .iload 2], .invokeinterface 116 706), ([.aload 0, .getfield 1030, .iconst 34], .invokeinterface 109 706), ([.aload 0, .getfield 1030], .invokeinterface 101 705), ([.istore 4, .aload 1], .invokeinterface 101 705), ([.iload 4, .iconst 1, .iadd], .if_icmp .ne 20), ([.aload 1, .iconst 1, .aload 0, .getfield 1030, .iconst 0, .iload 4], .invokeinterface 118 709), ([], .ifCond .eq 20), ([.iconst 1], .goto 21), ([.iconst 0], .nop), ([], .ireturn)]
def am_p65 : List Nat := [0, 4, 7, 9, 14, 16, 20, 24, 29, 34, 36, 43, 52, 60, 69, 76, 82, 89, 101, 104, 108, 109]
/-- X4_showList -/
def am_k66 : List (List Instr × Instr) := [([.iconst 0, .istore 1], .nop), ([.iload 1, .aload 0, .getfield 1027], .if_icmp .ge 6), ([.aload 0, .getfield 1029, .aload 0, .getfield 1024, .iload 1, .aaload, .iconst 0, .aload 0, .getfield 1024, .iload 1, .aaload], .invokeinterface 101 705), ([], .invokeinterface 113 708), ([.aload 0, .getfield 1029, .iconst 10], .invokeinterface 109 706), ([.iinc 1 1], .goto 1), ([.aload 0, .aload 0, .getfield 1029], .invokeinterface 101 705), ([.putfield 1034, .aload 0, .aload 0, .getfield 1028, .putfield 1031, .iconst 200], .ireturn)]
def am_p66 : List Nat := [0, 2, 10, 30, 33, 42, 48, 56]
/-- X4_show -/
def am_k67 : List (List Instr × Instr) := [([.iload 2], .ifCond .lt 2), ([.iload 2, .aload 0, .getfield 1027], .if_icmp .lt 3), ([.iconst 404], .ireturn), ([.aload 0, .getfield 1026, .iload 2, .iaload, .istore 3, .aload 0, .aload 1, .getfield 1165, .iload 3, .iconst 1], .invokeinterface 65 516), ([], .ifCond .ne 6), ([.iconst 412], .ireturn), ([.aload 0, .aload 1, .getfield 1166, .iload 3, .iconst 0], .invokeinterface 65 516), ([], .ifCond .eq 9), ([.aload 0, .iload 3, .putfield 1031, .iconst 304], .ireturn), ([.aload 0, .aload 0, .getfield 1025, .iload 2, .aaload, .putfield 1032, .aload 0, .iconst 0, .putfield 1033, .aload 0, .aload 0, .getfield 1032], .invokeinterface 101 705), ([.putfield 1034, .aload 0, .aload 1, .getfield 1167], .invokeinterface 68 514), ([.istore 4, .iload 4, .iconst 416], .if_icmp .eq 13), ([.aload 0, .iload 3, .putfield 1031], .nop), ([.iload 4], .ireturn)]
def am_p67 : List Nat := [0, 4, 12, 16, 33, 36, 40, 50, 53, 62, 85, 96, 106, 111]
/-- X4_cutRange -/
def am_k68 : List (List Instr × Instr) := [([.aload 1], .invokeinterface 101 705), ([.istore 2, .aload 1, .iconst 1, .ldc 19], .invokeinterface 120 707), ([], .ifCond .ne 4), ([.iconst 200], .ireturn), ([.iconst 7, .istore 3], .nop), ([.iload 3, .iload 2], .if_icmp .ge 9), ([.aload 1, .iload 3], .invokeinterface 102 706), ([.iconst 45], .if_icmp .eq 9), ([.iinc 3 1], .goto 5), ([.aload 1, .iconst 7, .iload 3], .invokeinterface 122 707), ([.istore 4, .aload 1, .iload 3, .iconst 1, .iadd, .iload 2], .invokeinterface 122 707), ([.istore 5, .iload 3, .iconst 7], .if_icmp .le 13), ([.iconst 1], .goto 14), ([.iconst 0], .nop), ([.istore 6, .iload 2, .iload 3, .iconst 1, .iadd], .if_icmp .le 16), ([.iconst 1], .goto 17), ([.iconst 0], .nop), ([.istore 7, .iload 3, .iload 2], .if_icmp .ge 20), ([.iload 6], .ifCond .ne 21), ([.iload 7], .ifCond .ne 21), ([.iconst 200], .ireturn), ([.iload 6], .ifCond .eq 23), ([.iload 4, .iconst (-1)], .if_icmp .eq 25), ([.iload 7], .ifCond .eq 26), ([.iload 5, .iconst (-1)], .if_icmp .ne 26), ([.iconst 200], .ireturn), ([.aload 0, .getfield 1032], .invokeinterface 101 705), ([.istore 8, .iload 6], .ifCond .ne 32), ([.iload 5], .ifCond .eq 30), ([.iload 8], .ifCond .ne 31), ([.iconst 416], .ireturn), ([.aload 0, .iconst 0, .iload 8, .iload 5, .isub, .jsr 1, .putfield 1033, .iconst 206], .ireturn), ([.iload 4, .iload 8], .if_icmp .ge 35), ([.iload 7], .ifCond .eq 36), ([.iload 5, .iload 4], .if_icmp .ge 36), ([.iconst 416], .ireturn), ([.aload 0, .iload 4, .putfield 1033, .iload 7], .ifCond .eq 38), ([.aload 0, .iload 8, .iload 5, .iconst 1, .iadd, .jsr 0, .putfield 1034], .nop), ([.iconst 206], .ireturn)]
def am_p68 : List Nat := [0, 4, 12, 15, 19, 22, 27, 32, 37, 43, 50, 60, 68, 72, 73, 82, 86, 87, 94, 99, 104, 108, 113, 119, 124, 130, 134, 141, 148, 153, 158, 162, 179, 186, 191, 198, 202, 213, 226]
/-- X4_replace -/
def am_k69 : List (List Instr × Instr) := [([.iload 2, .istore 3, .iload 3, .iconst (-1)], .if_icmp .ne 5), ([.aload 0, .getfield 1027, .iconst 8], .if_icmp .lt 3), ([.iconst 507], .ireturn), ([.aload 0, .aload 1, .getfield 1158], .invokeinterface 72 514), ([.istore 3], .nop), ([.iload 3], .ifCond .lt 7), ([.iload 3, .aload 0, .getfield 1027], .if_icmp .lt 8), ([.iconst 507], .ireturn), ([.aload 0, .getfield 1025, .iload 3, .aaload], .invokeinterface 106 705), ([.aload 0, .getfield 1025, .iload 3, .aaload, .aload 1, .getfield 1168, .iconst 0, .aload 1, .getfield 1168], .invokeinterface 101 705), ([], .invokeinterface 113 708), ([.aload 0, .iload 3], .invokeinterface 71 514), ([.iload 2, .iconst (-1)], .if_icmp .ne 14), ([.iconst 201], .goto 15), ([.iconst 204], .nop), ([], .ireturn)]
def am_p69 : List Nat := [0, 7, 16, 20, 28, 29, 33, 41, 45, 54, 72, 75, 80, 85, 91, 94]
/-- X4_append -/
def am_k70 : List (List Instr × Instr) := [([.iload 2], .ifCond .lt 2), ([.iload 2, .aload 0, .getfield 1027], .if_icmp .lt 3), ([.iconst 404], .ireturn), ([.aload 0, .getfield 1025, .iload 2, .aaload], .invokeinterface 101 705), ([.aload 1, .getfield 1168], .invokeinterface 101 705), ([.iadd, .iconst 300], .if_icmp .le 7), ([.iconst 413], .ireturn), ([.aload 0, .getfield 1025, .iload 2, .aaload, .aload 1, .getfield 1168, .iconst 0, .aload 1, .getfield 1168], .invokeinterface 101 705), ([], .invokeinterface 113 708), ([.aload 0, .iload 2], .invokeinterface 71 514), ([.iconst 204], .ireturn)]
def am_p70 : List Nat := [0, 4, 12, 16, 25, 32, 39, 43, 61, 64, 69]
/-- X4_change -/
def am_k71 : List (List Instr × Instr) := [([.aload 0, .dup, .getfield 1028, .iconst 1, .iadd, .putfield 1028, .iload 1], .ifCond .lt 3), ([.iload 1, .aload 0, .getfield 1027], .if_icmp .ge 3), ([.aload 0, .getfield 1026, .iload 1, .aload 0, .getfield 1028, .iastore], .nop), ([.aload 0, .aload 0, .getfield 1028, .putfield 1031], .return_)]
def am_p71 : List Nat := [0, 14, 22, 32]
/-- X4_insert -/
def am_k72 : List (List Instr × Instr) := [([.aload 0, .getfield 1027, .iconst 8], .if_icmp .lt 2), ([.iconst (-1)], .ireturn), ([.aload 0, .getfield 1024, .aload 0, .getfield 1027, .aaload, .astore 2, .aload 0, .getfield 1025, .aload 0, .getfield 1027, .aaload, .astore 3, .aload 0, .getfield 1027, .istore 4], .nop), ([.iload 4], .ifCond .le 7), ([.aload 0, .getfield 1024, .iload 4, .iconst 1, .isub, .aaload, .aload 1], .invokeinterface 119 706), ([], .ifCond .le 7), ([.aload 0, .getfield 1024, .iload 4, .aload 0, .getfield 1024, .iload 4, .iconst 1, .isub, .aaload, .aastore, .aload 0, .getfield 1025, .iload 4, .aload 0, .getfield 1025, .iload 4, .iconst 1, .isub, .aaload, .aastore, .aload 0, .getfield 1026, .iload 4, .aload 0, .getfield 1026, .iload 4, .iconst 1, .isub, .iaload, .iastore, .iinc 4 (-1)], .goto 3), ([.aload 2], .invokeinterface 106 705), ([.aload 2, .aload 1, .iconst 0, .aload 1], .invokeinterface 101 705), ([], .invokeinterface 113 708), ([.aload 3], .invokeinterface 106 705), ([.aload 0, .getfield 1024, .iload 4, .aload 2, .aastore, .aload 0, .getfield 1025, .iload 4, .aload 3, .aastore, .aload 0, .dup, .getfield 1027, .iconst 1, .iadd, .putfield 1027, .iload 4], .ireturn)]
def am_p72 : List Nat := [0, 9, 11, 37, 42, 55, 58, 112, 116, 123, 126, 130]
/-- X4_remove -/
def am_k73 : List (List Instr × Instr) := [([.iload 1], .ifCond .lt 2), ([.iload 1, .aload 0, .getfield 1027], .if_icmp .lt 3), ([], .return_), ([.aload 0, .getfield 1024, .iload 1, .aaload, .astore 2, .aload 0, .getfield 1025, .iload 1, .aaload, .astore 3, .iload 1, .iconst 1, .iadd, .istore 4], .nop), ([.iload 4, .aload 0, .getfield 1027], .if_icmp .ge 6), ([.aload 0, .getfield 1024, .iload 4, .iconst 1, .isub, .aload 0, .getfield 1024, .iload 4, .aaload, .aastore, .aload 0, .getfield 1025, .iload 4, .iconst 1, .isub, .aload 0, .getfield 1025, .iload 4, .aaload, .aastore, .aload 0, .getfield 1026, .iload 4, .iconst 1, .isub, .aload 0, .getfield 1026, .iload 4, .iaload, .iastore, .iinc 4 1], .goto 4), ([.aload 0, .dup, .getfield 1027, .iconst 1, .isub, .putfield 1027, .aload 0, .getfield 1024, .aload 0, .getfield 1027, .aload 2, .aastore, .aload 0, .getfield 1025, .aload 0, .getfield 1027, .aload 3, .aastore, .aload 0, .dup, .getfield 1028, .iconst 1, .iadd, .putfield 1028], .return_)]
def am_p73 : List Nat := [0, 4, 12, 13, 32, 41, 95]
/-- X4_writeAnswer -/
def am_k74 : List (List Instr × Instr) := [([.iload 2], .invokeinterface 76 1), ([.astore 5, .aload 4, .ldc 37], .invokeinterface 115 706), ([.aload 4, .iload 2], .invokeinterface 116 706), ([.aload 4, .iconst 32], .invokeinterface 109 706), ([.aload 4, .aload 5], .invokeinterface 115 706), ([.aload 4, .iconst 3338], .invokeinterface 110 706), ([.iload 2, .iconst 204], .if_icmp .eq 15), ([.iload 2, .iconst 304], .if_icmp .eq 15), ([.aload 4, .ldc 38], .invokeinterface 115 706), ([.aload 4, .iload 2, .iconst 400], .if_icmp .lt 12), ([.aload 5], .invokeinterface 901 1), ([], .goto 13), ([.aload 0, .getfield 1034, .aload 0, .getfield 1033, .isub], .nop), ([], .invokeinterface 116 706), ([.aload 4, .iconst 3338], .invokeinterface 110 706), ([.aload 0, .getfield 1031, .iconst (-1)], .if_icmp .eq 19), ([.aload 4, .ldc 39], .invokeinterface 115 706), ([.aload 4, .aload 0, .getfield 1031], .invokeinterface 116 706), ([.aload 4, .ldc 40], .invokeinterface 115 706), ([.iload 2, .iconst 206], .if_icmp .eq 21), ([.iload 2, .iconst 416], .if_icmp .ne 22), ([.aload 0, .iload 2, .aload 4], .invokeinterface 75 515), ([.iload 2, .iconst 405], .if_icmp .ne 24), ([.aload 4, .ldc 43], .invokeinterface 115 706), ([.iload 2, .iconst 204], .if_icmp .ne 27), ([.aload 1, .getfield 1157, .iconst 6], .if_icmp .ne 27), ([.aload 4, .ldc 44], .invokeinterface 115 706), ([.iload 3], .ifCond .eq 29), ([.aload 4, .ldc 45], .invokeinterface 115 706), ([.aload 4, .iconst 3338], .invokeinterface 110 706), ([.aload 1, .getfield 1157, .iconst 2], .if_icmp .ne 32), ([], .return_), ([.iload 2, .iconst 400], .if_icmp .lt 35), ([.aload 4, .aload 5], .invokeinterface 115 706), ([], .goto 36), ([.aload 4, .aload 0, .getfield 1032, .aload 0, .getfield 1033, .aload 0, .getfield 1034, .aload 0, .getfield 1033, .isub], .invokeinterface 113 708), ([], .return_)]
def am_p74 : List Nat := [0, 4, 13, 19, 26, 33, 41, 48, 55, 62, 71, 76, 79, 88, 91, 99, 107, 114, 123, 130, 137, 144, 151, 158, 165, 172, 181, 188, 192, 199, 207, 215, 216, 223, 230, 233, 255]
/-- X4_writeRange -/
def am_k75 : List (List Instr × Instr) := [([.iload 1, .iconst 206], .if_icmp .ne 6), ([.aload 2, .ldc 41], .invokeinterface 115 706), ([.aload 2, .aload 0, .getfield 1033], .invokeinterface 116 706), ([.aload 2, .iconst 45], .invokeinterface 109 706), ([.aload 2, .aload 0, .getfield 1034, .iconst 1, .isub], .invokeinterface 116 706), ([], .goto 7), ([.aload 2, .ldc 42], .invokeinterface 115 706), ([.aload 2, .iconst 47], .invokeinterface 109 706), ([.aload 2, .aload 0, .getfield 1032], .invokeinterface 101 705), ([], .invokeinterface 116 706), ([.aload 2, .iconst 3338], .invokeinterface 110 706), ([], .return_)]
def am_p75 : List Nat := [0, 7, 13, 21, 27, 37, 40, 46, 52, 60, 63, 70]
/-- X4_wordOf -/
def am_k76 : List (List Instr × Instr) := [([.iload 0], .lookupswitch 17 #[(200, 1), (201, 2), (204, 3), (206, 4), (304, 5), (400, 6), (404, 7), (405, 8), (411, 9), (412, 10), (413, 11), (414, 12), (416, 13), (431, 14), (501, 15), (505, 16)]), ([.ldc 20], .areturn), ([.ldc 21], .areturn), ([.ldc 22], .areturn), ([.ldc 23], .areturn), ([.ldc 24], .areturn), ([.ldc 25], .areturn), ([.ldc 26], .areturn), ([.ldc 27], .areturn), ([.ldc 28], .areturn), ([.ldc 29], .areturn), ([.ldc 30], .areturn), ([.ldc 31], .areturn), ([.ldc 32], .areturn), ([.ldc 33], .areturn), ([.ldc 34], .areturn), ([.ldc 35], .areturn), ([.ldc 36], .areturn)]
def am_p76 : List Nat := [0, 140, 143, 146, 149, 152, 155, 158, 161, 164, 167, 170, 173, 176, 179, 182, 185, 188]
/-- X5_init -/
def am_k77 : List (List Instr × Instr) := [([.aload 0, .invokedynamic 0, .aload 0, .new 11, .dup, .iconst 100], .invokeinterface 100 706), ([.putfield 1154, .aload 0, .new 11, .dup, .iconst 40], .invokeinterface 100 706), ([.putfield 1158, .aload 0, .new 11, .dup, .iconst 1], .invokeinterface 100 706), ([.putfield 1165, .aload 0, .new 11, .dup, .iconst 1], .invokeinterface 100 706), ([.putfield 1166, .aload 0, .new 11, .dup, .iconst 1], .invokeinterface 100 706), ([.putfield 1167, .aload 0, .new 11, .dup, .iconst 1], .invokeinterface 100 706), ([.putfield 1168, .aload 0, .iconst (-1), .putfield 1161], .return_)]
def am_p77 : List Nat := [0, 14, 27, 39, 51, 63, 75]
/-- X5_begin -/
def am_k78 : List (List Instr × Instr) := [([.aload 0, .iconst 0, .putfield 1152, .aload 0, .iconst 0, .putfield 1153, .aload 0, .getfield 1154], .invokeinterface 106 705), ([.aload 0, .iconst 0, .putfield 1155, .aload 0, .iconst 0, .putfield 1156, .aload 0, .iconst 0, .putfield 1157, .aload 0, .getfield 1158], .invokeinterface 106 705), ([.aload 0, .iconst 0, .putfield 1159, .aload 0, .iconst 0, .putfield 1160, .aload 0, .iconst (-1), .putfield 1161, .aload 0, .iconst 0, .putfield 1162, .aload 0, .iconst 0, .putfield 1163, .aload 0, .iconst 0, .putfield 1164, .aload 0, .getfield 1165], .invokeinterface 106 705), ([.aload 0, .getfield 1166], .invokeinterface 106 705), ([.aload 0, .getfield 1167], .invokeinterface 106 705), ([.aload 0, .getfield 1168], .invokeinterface 106 705), ([.aload 0, .iconst 0, .putfield 1169, .aload 0, .iconst 0, .putfield 1170], .return_)]
def am_p78 : List Nat := [0, 17, 39, 76, 83, 90, 97]
/-- X5_isLast -/
def am_k79 : List (List Instr × Instr) := [([.aload 0, .getfield 1164, .iconst 1], .if_icmp .eq 3), ([.aload 0, .getfield 1159, .iconst 10], .if_icmp .ne 4), ([.aload 0, .getfield 1164, .iconst 2], .if_icmp .eq 4), ([.iconst 1], .goto 5), ([.iconst 0], .nop), ([], .ireturn)]
def am_p79 : List Nat := [0, 8, 17, 25, 29, 30]
/-- X5_feed -/
def am_k80 : List (List Instr × Instr) := [([.aload 0, .dup, .getfield 1153, .iconst 1, .iadd, .putfield 1153, .aload 0, .getfield 1152, .iconst 9], .if_icmp .lt 3), ([.aload 0, .iload 1], .invokeinterface 90 578), ([], .ireturn), ([.aload 0, .iload 1], .invokeinterface 81 578), ([.istore 2, .iload 2], .ifCond .eq 6), ([.iload 2], .ireturn), ([.iload 1, .iconst 13], .if_icmp .ne 13), ([.aload 0, .aload 0, .getfield 1152, .iconst 2], .if_icmp .ne 9), ([.iconst 3], .goto 12), ([.aload 0, .getfield 1152, .iconst 6], .if_icmp .ne 11), ([.iconst 7], .goto 12), ([.iconst 8], .nop), ([.putfield 1152, .iconst 0], .ireturn), ([.iload 1, .iconst 10], .if_icmp .eq 16), ([.aload 0, .iload 1], .invokeinterface 83 578), ([.iconst 0], .ireturn), ([.aload 0, .getfield 1152, .iconst 8], .if_icmp .ne 19), ([.aload 0], .invokeinterface 89 577), ([], .ireturn), ([.aload 0, .getfield 1152, .iconst 3], .if_icmp .ne 22), ([.aload 0], .invokeinterface 85 577), ([], .goto 23), ([.aload 0], .invokeinterface 86 577), ([.aload 0, .getfield 1154], .invokeinterface 106 705), ([.aload 0, .iconst 4, .putfield 1152, .iconst 0], .ireturn)]
def am_p80 : List Nat := [0, 19, 24, 25, 30, 35, 37, 43, 52, 56, 65, 70, 72, 77, 83, 88, 90, 99, 103, 104, 112, 116, 119, 123, 130]
/-- X5_wrongInHead -/
def am_k81 : List (List Instr × Instr) := [([.aload 0, .getfield 1152, .iconst 4], .if_icmp .ne 4), ([.aload 0, .getfield 1155, .iconst 8], .if_icmp .ne 4), ([.iload 1, .iconst 13], .if_icmp .eq 4), ([.iconst 431], .ireturn), ([.aload 0, .iload 1], .invokeinterface 82 578), ([], .ifCond .ne 7), ([.iconst 400], .ireturn), ([.aload 0, .getfield 1152, .iconst 1], .if_icmp .ne 12), ([.iload 1, .iconst 32], .if_icmp .eq 12), ([.aload 0, .getfield 1158], .invokeinterface 101 705), ([.iconst 40], .if_icmp .ne 12), ([.iconst 414], .ireturn), ([.iload 1, .iconst 13], .if_icmp .eq 17), ([.iload 1, .iconst 10], .if_icmp .eq 17), ([.aload 0, .getfield 1154], .invokeinterface 101 705), ([.iconst 100], .if_icmp .ne 17), ([.iconst 431], .ireturn), ([.iconst 0], .ireturn)]
def am_p81 : List Nat := [0, 8, 17, 23, 27, 32, 35, 39, 47, 53, 60, 65, 69, 75, 81, 88, 93, 97]
/-- X5_canStand -/
def am_k82 : List (List Instr × Instr) := [([.iload 1, .iconst 97], .if_icmp .lt 3), ([.iload 1, .iconst 122], .if_icmp .gt 3), ([.iconst 1], .goto 4), ([.iconst 0], .nop), ([.istore 2, .iload 1, .iconst 65], .if_icmp .lt 7), ([.iload 1, .iconst 90], .if_icmp .gt 7), ([.iconst 1], .goto 8), ([.iconst 0], .nop), ([.istore 3, .iload 2], .ifCond .ne 11), ([.iload 3], .ifCond .ne 11), ([.iload 1, .iconst 45], .if_icmp .ne 12), ([.iconst 1], .goto 13), ([.iconst 0], .nop), ([.istore 4, .iload 1, .iconst 32], .if_icmp .le 16), ([.iload 1, .iconst 127], .if_icmp .ge 16), ([.iconst 1], .goto 17), ([.iconst 0], .nop), ([.istore 5, .aload 0, .getfield 1152], .tableswitch 55 0 6 #[18, 25, 32, 55, 39, 44, 49]), ([.iload 3], .ifCond .ne 22), ([.iload 1, .iconst 32], .if_icmp .ne 23), ([.aload 0, .getfield 1154], .invokeinterface 101 705), ([], .ifCond .le 23), ([.iconst 1], .goto 24), ([.iconst 0], .nop), ([], .ireturn), ([.iload 5], .ifCond .ne 29), ([.iload 1, .iconst 32], .if_icmp .ne 30), ([.aload 0, .getfield 1158], .invokeinterface 101 705), ([], .ifCond .le 30), ([.iconst 1], .goto 31), ([.iconst 0], .nop), ([], .ireturn), ([.iload 5], .ifCond .ne 36), ([.iload 1, .iconst 13], .if_icmp .ne 37), ([.aload 0, .getfield 1154], .invokeinterface 101 705), ([.aload 0, .getfield 1156], .if_icmp .le 37), ([.iconst 1], .goto 38), ([.iconst 0], .nop), ([], .ireturn), ([.iload 4], .ifCond .ne 41), ([.iload 1, .iconst 13], .if_icmp .ne 42), ([.iconst 1], .goto 43), ([.iconst 0], .nop), ([], .ireturn), ([.iload 4], .ifCond .ne 46), ([.iload 1, .iconst 58], .if_icmp .ne 47), ([.iconst 1], .goto 48), ([.iconst 0], .nop), ([], .ireturn), ([.iload 5], .ifCond .ne 52), ([.iload 1, .iconst 32], .if_icmp .eq 52), ([.iload 1, .iconst 13], .if_icmp .ne 53), ([.iconst 1], .goto 54), ([.iconst 0], .nop), ([], .ireturn), ([.iload 1, .iconst 10], .if_icmp .ne 57), ([.iconst 1], .goto 58), ([.iconst 0], .nop), ([], .ireturn)]
def am_p82 : List Nat := [0, 6, 12, 16, 17, 24, 30, 34, 35, 40, 44, 50, 54, 55, 63, 69, 73, 74, 124, 128, 134, 141, 144, 148, 149, 150, 155, 161, 168, 171, 175, 176, 177, 182, 188, 195, 202, 206, 207, 208, 213, 219, 223, 224, 225, 230, 236, 240, 241, 242, 247, 253, 259, 263, 264, 265, 271, 275, 276]
def am_cds0_0 : List am_Cd := [(0, am_k0, am_p0, []), (1, am_k1, am_p1, []), (2, am_k2, am_p2, []), (3, am_k3, am_p3, []), (4, am_k4, am_p4, []), (5, am_k5, am_p5, []), (6, am_k6, am_p6, []), (7, am_k7, am_p7, []), (8, am_k8, am_p8, []), (9, am_k9, am_p9, []), (10, am_k10, am_p10, []), (11, am_k11, am_p11, []), (12, am_k12, am_p12, []), (13, am_k13, am_p13, []), (14, am_k14, am_p14, []), (15, am_k15, am_p15, []), (16, am_k16, am_p16, []), (17, am_k17, am_p17, [])]
theorem am_ckL0_0 : am_cds0_0.all am_ckL = true := by decide +kernel
def am_cds0_1 : List am_Cd := [(18, am_k18, am_p18, []), (19, am_k19, am_p19, []), (20, am_k20, am_p20, []), (21, am_k21, am_p21, []), (22, am_k22, am_p22, []), (23, am_k23, am_p23, []), (24, am_k24, am_p24, []), (25, am_k25, am_p25, []), (26, am_k26, am_p26, []), (27, am_k27, am_p27, []), (28, am_k28, am_p28, []), (29, am_k29, am_p29, []), (30, am_k30, am_p30, []), (31, am_k31, am_p31, []), (32, am_k32, am_p32, [])]
theorem am_ckL0_1 : am_cds0_1.all am_ckL = true := by decide +kernel
def am_cds0_2 : List am_Cd := [(33, am_k33, am_p33, []), (34, am_k34, am_p34, []), (35, am_k35, am_p35, []), (36, am_k36, am_p36, []), (37, am_k37, am_p37, []), (38, am_k38, am_p38, []), (39, am_k39, am_p39, []), (40, am_k40, am_p40, []), (41, am_k41, am_p41, []), (42, am_k42, am_p42, []), (43, am_k43, am_p43, []), (44, am_k44, am_p44, []), (45, am_k45, am_p45, []), (46, am_k46, am_p46, []), (47, am_k47, am_p47, []), (48, am_k48, am_p48, [])]
theorem am_ckL0_2 : am_cds0_2.all am_ckL = true := by decide +kernel
def am_cds0_3 : List am_Cd := [(49, am_k49, am_p49, []), (50, am_k50, am_p50, []), (51, am_k51, am_p51, []), (52, am_k52, am_p52, []), (53, am_k53, am_p53, []), (54, am_k54, am_p54, []), (55, am_k55, am_p55, []), (56, am_k56, am_p56, []), (57, am_k57, am_p57, []), (58, am_k58, am_p58, []), (59, am_k59, am_p59, []), (60, am_k60, am_p60, [])]
theorem am_ckL0_3 : am_cds0_3.all am_ckL = true := by decide +kernel
def am_cds0_4 : List am_Cd := [(61, am_k61, am_p61, []), (62, am_k62, am_p62, []), (63, am_k63, am_p63, []), (64, am_k64, am_p64, []), (65, am_k65, am_p65, []), (66, am_k66, am_p66, []), (67, am_k67, am_p67, []), (68, am_k68, am_p68, []), (69, am_k69, am_p69, []), (70, am_k70, am_p70, []), (71, am_k71, am_p71, [])]
theorem am_ckL0_4 : am_cds0_4.all am_ckL = true := by decide +kernel
def am_cds0_5 : List am_Cd := [(72, am_k72, am_p72, []), (73, am_k73, am_p73, []), (74, am_k74, am_p74, []), (75, am_k75, am_p75, []), (76, am_k76, am_p76, []), (77, am_k77, am_p77, []), (78, am_k78, am_p78, []), (79, am_k79, am_p79, []), (80, am_k80, am_p80, []), (81, am_k81, am_p81, [])]
theorem am_ckL0_5 : am_cds0_5.all am_ckL = true := by decide +kernel
def am_cds0_6 : List am_Cd := [(82, am_k82, am_p82, [])]
theorem am_ckL0_6 : am_cds0_6.all am_ckL = true := by decide +kernel
def am_cds0 : List am_Cd := am_cds0_0 ++ (am_cds0_1 ++ (am_cds0_2 ++ (am_cds0_3 ++ (am_cds0_4 ++ (am_cds0_5 ++ (am_cds0_6))))))
theorem am_ckL0 : am_cds0.all am_ckL = true := by simp only [am_cds0, List.all_append, am_ckL0_0, am_ckL0_1, am_ckL0_2, am_ckL0_3, am_ckL0_4, am_ckL0_5, am_ckL0_6, Bool.and_self]
/-- the law -/
def am_kL : List (List Instr × Instr) := [([.new 15, .dup], .invokeinterface 151 961), ([.astore 1, .new 24, .dup], .invokeinterface 244 1537), ([.astore 2, .iconst 1, .newarray .long, .astore 3, .iconst 0, .istore 4], .nop), ([.iload 4, .aload 0, .arraylength, .iconst 13, .isub], .if_icmp .gt 350), ([.aload 0, .iload 4, .iaload, .iconst 63, .iand], .tableswitch 349 0 38 #[5, 14, 23, 32, 36, 45, 54, 63, 72, 81, 90, 99, 108, 117, 126, 135, 144, 153, 162, 171, 183, 192, 201, 207, 216, 225, 234, 243, 252, 267, 276, 285, 300, 309, 318, 327, 331, 335, 342]), ([.aload 1, .aload 0, .iload 4, .iconst 1, .iadd, .iaload, .i2l, .iconst 32, .lshl, .aload 0, .iload 4, .iconst 2, .iadd, .iaload, .i2l, .jsr_w 4294967295, .land, .lor, .aload 0, .iload 4, .iconst 3, .iadd, .iaload, .i2l, .iconst 32, .lshl, .aload 0, .iload 4, .iconst 4, .iadd, .iaload, .i2l, .jsr_w 4294967295, .land, .lor, .aload 0, .iload 4, .iconst 5, .iadd, .iaload, .i2l, .iconst 32, .lshl, .aload 0, .iload 4, .iconst 6, .iadd, .iaload, .i2l, .jsr_w 4294967295, .land, .lor, .aload 0, .iload 4, .iconst 7, .iadd, .iaload, .i2l, .iconst 32, .lshl, .aload 0, .iload 4, .iconst 8, .iadd, .iaload, .i2l, .jsr_w 4294967295, .land, .lor, .aload 0, .iload 4, .iconst 9, .iadd, .iaload, .i2l, .iconst 32, .lshl, .aload 0, .iload 4, .iconst 10, .iadd, .iaload, .i2l, .jsr_w 4294967295, .land, .lor, .aload 0, .iload 4, .iconst 11, .iadd, .iaload, .i2l, .iconst 32, .lshl, .aload 0, .iload 4, .iconst 12, .iadd, .iaload, .i2l, .jsr_w 4294967295, .land, .lor, .aload 3], .invokeinterface 468 8), ([.istore 5, .aload 2, .aload 0, .iload 4, .iconst 1, .iadd, .iaload, .i2l, .iconst 32, .lshl, .aload 0, .iload 4, .iconst 2, .iadd, .iaload, .i2l, .jsr_w 4294967295, .land, .lor, .aload 0, .iload 4, .iconst 3, .iadd, .iaload, .i2l, .iconst 32, .lshl, .aload 0, .iload 4, .iconst 4, .iadd, .iaload, .i2l, .jsr_w 4294967295, .land, .lor, .aload 0, .iload 4, .iconst 5, .iadd, .iaload, .i2l, .iconst 32, .lshl, .aload 0, .iload 4, .iconst 6, .iadd, .iaload, .i2l, .jsr_w 4294967295, .land, .lor, .aload 0, .iload 4, .iconst 7, .iadd, .iaload, .i2l, .iconst 32, .lshl, .aload 0, .iload 4, .iconst 8, .iadd, .iaload, .i2l, .jsr_w 4294967295, .land, .lor, .aload 0, .iload 4, .iconst 9, .iadd, .iaload, .i2l, .iconst 32, .lshl, .aload 0, .iload 4, .iconst 10, .iadd, .iaload, .i2l, .jsr_w 4294967295, .land, .lor, .aload 0, .iload 4, .iconst 11, .iadd, .iaload, .i2l, .iconst 32, .lshl, .aload 0, .iload 4, .iconst 12, .iadd, .iaload, .i2l, .jsr_w 4294967295, .land, .lor], .invokeinterface 255 1543), ([.istore 6, .aload 2], .invokeinterface 245 1537), ([.iload 5], .if_icmp .eq 10), ([.iconst 0], .ireturn), ([.iload 5], .ifCond .ne 13), ([.aload 3, .iconst 0, .laload, .iload 6, .i2l, .lcmp], .ifCond .eq 13), ([.iconst 0], .ireturn), ([], .goto 349), ([.aload 1, .aload 0, .iload 4, .iconst 1, .iadd, .iaload, .aload 0, .iload 4, .iconst 2, .iadd, .iaload, .aload 3], .invokeinterface 469 4), ([.istore 5, .aload 2, .aload 0, .iload 4, .iconst 1, .iadd, .iaload, .aload 0, .iload 4, .iconst 2, .iadd, .iaload], .invokeinterface 256 1539), ([.istore 6, .aload 2], .invokeinterface 245 1537), ([.iload 5], .if_icmp .eq 19), ([.iconst 0], .ireturn), ([.iload 5], .ifCond .ne 22), ([.aload 3, .iconst 0, .laload, .iload 6, .i2l, .lcmp], .ifCond .eq 22), ([.iconst 0], .ireturn), ([], .goto 349), ([.aload 1, .aload 0, .iload 4, .iconst 1, .iadd, .iaload, .aload 3], .invokeinterface 470 3), ([.istore 5, .aload 2, .aload 0, .iload 4, .iconst 1, .iadd, .iaload], .invokeinterface 258 1538), ([.istore 6, .aload 2], .invokeinterface 245 1537), ([.iload 5], .if_icmp .eq 28), ([.iconst 0], .ireturn), ([.iload 5], .ifCond .ne 31), ([.aload 3, .iconst 0, .laload, .iload 6, .i2l, .lcmp], .ifCond .eq 31), ([.iconst 0], .ireturn), ([], .goto 349), ([.aload 1], .invokeinterface 155 961), ([.aload 2], .invokeinterface 259 1537), ([], .if_icmp .eq 349), ([.iconst 0], .ireturn), ([.aload 1, .aload 0, .iload 4, .iconst 1, .iadd, .iaload, .aload 0, .iload 4, .iconst 2, .iadd, .iaload, .aload 3], .invokeinterface 471 4), ([.istore 5, .aload 2, .aload 0, .iload 4, .iconst 1, .iadd, .iaload, .aload 0, .iload 4, .iconst 2, .iadd, .iaload], .invokeinterface 263 1539), ([.istore 6, .aload 2], .invokeinterface 245 1537), ([.iload 5], .if_icmp .eq 41), ([.iconst 0], .ireturn), ([.iload 5], .ifCond .ne 44), ([.aload 3, .iconst 0, .laload, .iload 6, .i2l, .lcmp], .ifCond .eq 44), ([.iconst 0], .ireturn), ([], .goto 349), ([.aload 1, .aload 0, .iload 4, .iconst 1, .iadd, .iaload, .aload 0, .iload 4, .iconst 2, .iadd, .iaload, .aload 3], .invokeinterface 472 4), ([.istore 5, .aload 2, .aload 0, .iload 4, .iconst 1, .iadd, .iaload, .aload 0, .iload 4, .iconst 2, .iadd, .iaload], .invokeinterface 265 1539), ([.istore 6, .aload 2], .invokeinterface 245 1537), ([.iload 5], .if_icmp .eq 50), ([.iconst 0], .ireturn), ([.iload 5], .ifCond .ne 53), ([.aload 3, .iconst 0, .laload, .iload 6, .i2l, .lcmp], .ifCond .eq 53), ([.iconst 0], .ireturn), ([], .goto 349), ([.aload 1, .aload 0, .iload 4, .iconst 1, .iadd, .iaload, .aload 0, .iload 4, .iconst 2, .iadd, .iaload, .aload 3], .invokeinterface 473 4), ([.istore 5, .aload 2, .aload 0, .iload 4, .iconst 1, .iadd, .iaload, .aload 0, .iload 4, .iconst 2, .iadd, .iaload], .invokeinterface 266 1539), ([.istore 6, .aload 2], .invokeinterface 245 1537), ([.iload 5], .if_icmp .eq 59), ([.iconst 0], .ireturn), ([.iload 5], .ifCond .ne 62), ([.aload 3, .iconst 0, .laload, .iload 6, .i2l, .lcmp], .ifCond .eq 62), ([.iconst 0], .ireturn), ([], .goto 349), ([.aload 1, .aload 0, .iload 4, .iconst 1, .iadd, .iaload, .aload 0, .iload 4, .iconst 2, .iadd, .iaload, .aload 3], .invokeinterface 474 4), ([.istore 5, .aload 2, .aload 0, .iload 4, .iconst 1, .iadd, .iaload, .aload 0, .iload 4, .iconst 2, .iadd, .iaload], .invokeinterface 267 1539), ([.istore 6, .aload 2], .invokeinterface 245 1537), ([.iload 5], .if_icmp .eq 68), ([.iconst 0], .ireturn), ([.iload 5], .ifCond .ne 71), ([.aload 3, .iconst 0, .laload, .iload 6, .i2l, .lcmp], .ifCond .eq 71), ([.iconst 0], .ireturn), ([], .goto 349), ([.aload 1, .aload 0, .iload 4, .iconst 1, .iadd, .iaload, .aload 0, .iload 4, .iconst 2, .iadd, .iaload, .aload 3], .invokeinterface 475 4), ([.istore 5, .aload 2, .aload 0, .iload 4, .iconst 1, .iadd, .iaload, .aload 0, .iload 4, .iconst 2, .iadd, .iaload], .invokeinterface 272 1539), ([.istore 6, .aload 2], .invokeinterface 245 1537), ([.iload 5], .if_icmp .eq 77), ([.iconst 0], .ireturn), ([.iload 5], .ifCond .ne 80), ([.aload 3, .iconst 0, .laload, .iload 6, .i2l, .lcmp], .ifCond .eq 80), ([.iconst 0], .ireturn), ([], .goto 349), ([.aload 1, .aload 0, .iload 4, .iconst 1, .iadd, .iaload, .aload 3], .invokeinterface 476 3), ([.istore 5, .aload 2, .aload 0, .iload 4, .iconst 1, .iadd, .iaload], .invokeinterface 279 1538), ([.istore 6, .aload 2], .invokeinterface 245 1537), ([.iload 5], .if_icmp .eq 86), ([.iconst 0], .ireturn), ([.iload 5], .ifCond .ne 89), ([.aload 3, .iconst 0, .laload, .iload 6, .i2l, .lcmp], .ifCond .eq 89), ([.iconst 0], .ireturn), ([], .goto 349), ([.aload 1, .aload 0, .iload 4, .iconst 1, .iadd, .iaload, .aload 3], .invokeinterface 477 3), ([.istore 5, .aload 2, .aload 0, .iload 4, .iconst 1, .iadd, .iaload], .invokeinterface 280 1538), ([.istore 6, .aload 2], .invokeinterface 245 1537), ([.iload 5], .if_icmp .eq 95), ([.iconst 0], .ireturn), ([.iload 5], .ifCond .ne 98), ([.aload 3, .iconst 0, .laload, .iload 6, .i2l, .lcmp], .ifCond .eq 98), ([.iconst 0], .ireturn), ([], .goto 349), ([.aload 1, .aload 0, .iload 4, .iconst 1, .iadd, .iaload, .aload 3], .invokeinterface 478 3), ([.istore 5, .aload 2, .aload 0, .iload 4, .iconst 1, .iadd, .iaload], .invokeinterface 281 1538), ([.istore 6, .aload 2], .invokeinterface 245 1537), ([.iload 5], .if_icmp .eq 104), ([.iconst 0], .ireturn), ([.iload 5], .ifCond .ne 107), ([.aload 3, .iconst 0, .laload, .iload 6, .i2l, .lcmp], .ifCond .eq 107), ([.iconst 0], .ireturn), ([], .goto 349), ([.aload 1, .aload 0, .iload 4, .iconst 1, .iadd, .iaload, .aload 0, .iload 4, .iconst 2, .iadd, .iaload, .aload 0, .iload 4, .iconst 3, .iadd, .iaload, .aload 3], .invokeinterface 479 5), ([.istore 5, .aload 2, .aload 0, .iload 4, .iconst 1, .iadd, .iaload, .aload 0, .iload 4, .iconst 2, .iadd, .iaload, .aload 0, .iload 4, .iconst 3, .iadd, .iaload], .invokeinterface 282 1540), ([.istore 6, .aload 2], .invokeinterface 245 1537), ([.iload 5], .if_icmp .eq 113), ([.iconst 0], .ireturn), ([.iload 5], .ifCond .ne 116), ([.aload 3, .iconst 0, .laload, .iload 6, .i2l, .lcmp], .ifCond .eq 116), ([.iconst 0], .ireturn), ([], .goto 349), ([.aload 1, .aload 0, .iload 4, .iconst 1, .iadd, .iaload, .aload 0, .iload 4, .iconst 2, .iadd, .iaload, .aload 3], .invokeinterface 480 4), ([.istore 5, .aload 2, .aload 0, .iload 4, .iconst 1, .iadd, .iaload, .aload 0, .iload 4, .iconst 2, .iadd, .iaload], .invokeinterface 283 1539), ([.istore 6, .aload 2], .invokeinterface 245 1537), ([.iload 5], .if_icmp .eq 122), ([.iconst 0], .ireturn), ([.iload 5], .ifCond .ne 125), ([.aload 3, .iconst 0, .laload, .iload 6, .i2l, .lcmp], .ifCond .eq 125), ([.iconst 0], .ireturn), ([], .goto 349), ([.aload 1, .aload 0, .iload 4, .iconst 1, .iadd, .iaload, .aload 0, .iload 4, .iconst 2, .iadd, .iaload, .aload 3], .invokeinterface 481 4), ([.istore 5, .aload 2, .aload 0, .iload 4, .iconst 1, .iadd, .iaload, .aload 0, .iload 4, .iconst 2, .iadd, .iaload], .invokeinterface 284 1539), ([.istore 6, .aload 2], .invokeinterface 245 1537), ([.iload 5], .if_icmp .eq 131), ([.iconst 0], .ireturn), ([.iload 5], .ifCond .ne 134), ([.aload 3, .iconst 0, .laload, .iload 6, .i2l, .lcmp], .ifCond .eq 134), ([.iconst 0], .ireturn), ([], .goto 349), ([.aload 1, .aload 0, .iload 4, .iconst 1, .iadd, .iaload, .aload 3], .invokeinterface 482 3), ([.istore 5, .aload 2, .aload 0, .iload 4, .iconst 1, .iadd, .iaload], .invokeinterface 329 1538), ([.istore 6, .aload 2], .invokeinterface 245 1537), ([.iload 5], .if_icmp .eq 140), ([.iconst 0], .ireturn), ([.iload 5], .ifCond .ne 143), ([.aload 3, .iconst 0, .laload, .iload 6, .i2l, .lcmp], .ifCond .eq 143), ([.iconst 0], .ireturn), ([], .goto 349), ([.aload 1, .aload 0, .iload 4, .iconst 1, .iadd, .iaload, .aload 3], .invokeinterface 483 3), ([.istore 5, .aload 2, .aload 0, .iload 4, .iconst 1, .iadd, .iaload], .invokeinterface 330 1538), ([.istore 6, .aload 2], .invokeinterface 245 1537), ([.iload 5], .if_icmp .eq 149), ([.iconst 0], .ireturn), ([.iload 5], .ifCond .ne 152), ([.aload 3, .iconst 0, .laload, .iload 6, .i2l, .lcmp], .ifCond .eq 152), ([.iconst 0], .ireturn), ([], .goto 349), ([.aload 1, .aload 0, .iload 4, .iconst 1, .iadd, .iaload, .aload 0, .iload 4, .iconst 2, .iadd, .iaload, .aload 3], .invokeinterface 484 4), ([.istore 5, .aload 2, .aload 0, .iload 4, .iconst 1, .iadd, .iaload, .aload 0, .iload 4, .iconst 2, .iadd, .iaload], .invokeinterface 332 1539), ([.istore 6, .aload 2], .invokeinterface 245 1537), ([.iload 5], .if_icmp .eq 158), ([.iconst 0], .ireturn), ([.iload 5], .ifCond .ne 161), ([.aload 3, .iconst 0, .laload, .iload 6, .i2l, .lcmp], .ifCond .eq 161), ([.iconst 0], .ireturn), ([], .goto 349), ([.aload 1, .aload 0, .iload 4, .iconst 1, .iadd, .iaload, .aload 0, .iload 4, .iconst 2, .iadd, .iaload, .aload 0, .iload 4, .iconst 3, .iadd, .iaload, .aload 3], .invokeinterface 485 5), ([.istore 5, .aload 2, .aload 0, .iload 4, .iconst 1, .iadd, .iaload, .aload 0, .iload 4, .iconst 2, .iadd, .iaload, .aload 0, .iload 4, .iconst 3, .iadd, .iaload], .invokeinterface 307 1540), ([.istore 6, .aload 2], .invokeinterface 245 1537), ([.iload 5], .if_icmp .eq 167), ([.iconst 0], .ireturn), ([.iload 5], .ifCond .ne 170), ([.aload 3, .iconst 0, .laload, .iload 6, .i2l, .lcmp], .ifCond .eq 170), ([.iconst 0], .ireturn), ([], .goto 349), ([.aload 1, .aload 0, .iload 4, .iconst 1, .iadd, .iaload, .aload 3], .invokeinterface 486 3), ([.istore 5, .aload 2, .aload 0, .iload 4, .iconst 1, .iadd, .iaload], .invokeinterface 308 1538), ([.istore 6, .aload 2], .invokeinterface 245 1537), ([.iload 5], .if_icmp .eq 176), ([.iconst 0], .ireturn), ([.iload 5], .ifCond .ne 182), ([.aload 3, .iconst 0, .laload, .iload 6], .ifCond .eq 179), ([.jsr_w 1], .goto 180), ([.jsr_w 0], .nop), ([.lcmp], .ifCond .eq 182), ([.iconst 0], .ireturn), ([], .goto 349), ([.aload 1, .aload 0, .iload 4, .iconst 1, .iadd, .iaload, .aload 3], .invokeinterface 487 3), ([.istore 5, .aload 2, .aload 0, .iload 4, .iconst 1, .iadd, .iaload], .invokeinterface 314 1538), ([.istore 6, .aload 2], .invokeinterface 245 1537), ([.iload 5], .if_icmp .eq 188), ([.iconst 0], .ireturn), ([.iload 5], .ifCond .ne 191), ([.aload 3, .iconst 0, .laload, .iload 6, .i2l, .lcmp], .ifCond .eq 191), ([.iconst 0], .ireturn), ([], .goto 349), ([.aload 1, .aload 0, .iload 4, .iconst 1, .iadd, .iaload, .aload 3], .invokeinterface 488 3), ([.istore 5, .aload 2, .aload 0, .iload 4, .iconst 1, .iadd, .iaload], .invokeinterface 320 1538), ([.istore 6, .aload 2], .invokeinterface 245 1537), ([.iload 5], .if_icmp .eq 197), ([.iconst 0], .ireturn), ([.iload 5], .ifCond .ne 200), ([.aload 3, .iconst 0, .laload, .iload 6, .i2l, .lcmp], .ifCond .eq 200), ([.iconst 0], .ireturn), ([], .goto 349), ([.aload 1, .aload 0, .iload 4, .iconst 1, .iadd, .iaload], .invokeinterface 489 2), ([.istore 5, .aload 2, .aload 0, .iload 4, .iconst 1, .iadd, .iaload], .invokeinterface 321 1538), ([.aload 2], .invokeinterface 245 1537), ([.iload 5], .if_icmp .eq 206), ([.iconst 0], .ireturn), ([], .goto 349), ([.aload 1, .aload 0, .iload 4, .iconst 1, .iadd, .iaload, .aload 3], .invokeinterface 490 3), ([.istore 5, .aload 2, .aload 0, .iload 4, .iconst 1, .iadd, .iaload], .invokeinterface 322 1538), ([.istore 6, .aload 2], .invokeinterface 245 1537), ([.iload 5], .if_icmp .eq 212), ([.iconst 0], .ireturn), ([.iload 5], .ifCond .ne 215), ([.aload 3, .iconst 0, .laload, .iload 6, .i2l, .lcmp], .ifCond .eq 215), ([.iconst 0], .ireturn), ([], .goto 349), ([.aload 1, .aload 0, .iload 4, .iconst 1, .iadd, .iaload, .aload 0, .iload 4, .iconst 2, .iadd, .iaload, .aload 0, .iload 4, .iconst 3, .iadd, .iaload, .aload 3], .invokeinterface 491 5), ([.istore 5, .aload 2, .aload 0, .iload 4, .iconst 1, .iadd, .iaload, .aload 0, .iload 4, .iconst 2, .iadd, .iaload, .aload 0, .iload 4, .iconst 3, .iadd, .iaload], .invokeinterface 387 1540), ([.istore 6, .aload 2], .invokeinterface 245 1537), ([.iload 5], .if_icmp .eq 221), ([.iconst 0], .ireturn), ([.iload 5], .ifCond .ne 224), ([.aload 3, .iconst 0, .laload, .iload 6, .i2l, .lcmp], .ifCond .eq 224), ([.iconst 0], .ireturn), ([], .goto 349), ([.aload 1, .aload 0, .iload 4, .iconst 1, .iadd, .iaload, .aload 3], .invokeinterface 492 3), ([.istore 5, .aload 2, .aload 0, .iload 4, .iconst 1, .iadd, .iaload], .invokeinterface 389 1538), ([.istore 6, .aload 2], .invokeinterface 245 1537), ([.iload 5], .if_icmp .eq 230), ([.iconst 0], .ireturn), ([.iload 5], .ifCond .ne 233), ([.aload 3, .iconst 0, .laload, .iload 6, .i2l, .lcmp], .ifCond .eq 233), ([.iconst 0], .ireturn), ([], .goto 349), ([.aload 1, .aload 0, .iload 4, .iconst 1, .iadd, .iaload, .aload 0, .iload 4, .iconst 2, .iadd, .iaload, .aload 3], .invokeinterface 493 4), ([.istore 5, .aload 2, .aload 0, .iload 4, .iconst 1, .iadd, .iaload, .aload 0, .iload 4, .iconst 2, .iadd, .iaload], .invokeinterface 390 1539), ([.istore 6, .aload 2], .invokeinterface 245 1537), ([.iload 5], .if_icmp .eq 239), ([.iconst 0], .ireturn), ([.iload 5], .ifCond .ne 242), ([.aload 3, .iconst 0, .laload, .iload 6, .i2l, .lcmp], .ifCond .eq 242), ([.iconst 0], .ireturn), ([], .goto 349), ([.aload 1, .aload 0, .iload 4, .iconst 1, .iadd, .iaload, .aload 0, .iload 4, .iconst 2, .iadd, .iaload, .aload 3], .invokeinterface 494 4), ([.istore 5, .aload 2, .aload 0, .iload 4, .iconst 1, .iadd, .iaload, .aload 0, .iload 4, .iconst 2, .iadd, .iaload], .invokeinterface 391 1539), ([.istore 6, .aload 2], .invokeinterface 245 1537), ([.iload 5], .if_icmp .eq 248), ([.iconst 0], .ireturn), ([.iload 5], .ifCond .ne 251), ([.aload 3, .iconst 0, .laload, .iload 6, .i2l, .lcmp], .ifCond .eq 251), ([.iconst 0], .ireturn), ([], .goto 349), ([.aload 1, .aload 0, .iload 4, .iconst 1, .iadd, .iaload, .aload 0, .iload 4, .iconst 2, .iadd, .iaload], .ifCond .eq 254), ([.iconst 1], .goto 255), ([.iconst 0], .nop), ([.aload 3], .invokeinterface 495 4), ([.istore 5, .aload 2, .aload 0, .iload 4, .iconst 1, .iadd, .iaload, .aload 0, .iload 4, .iconst 2, .iadd, .iaload], .ifCond .eq 258), ([.iconst 1], .goto 259), ([.iconst 0], .nop), ([], .invokeinterface 392 1539), ([.istore 6, .aload 2], .invokeinterface 245 1537), ([.iload 5], .if_icmp .eq 263), ([.iconst 0], .ireturn), ([.iload 5], .ifCond .ne 266), ([.aload 3, .iconst 0, .laload, .iload 6, .i2l, .lcmp], .ifCond .eq 266), ([.iconst 0], .ireturn), ([], .goto 349), ([.aload 1, .aload 0, .iload 4, .iconst 1, .iadd, .iaload, .aload 0, .iload 4, .iconst 2, .iadd, .iaload, .aload 3], .invokeinterface 496 4), ([.istore 5, .aload 2, .aload 0, .iload 4, .iconst 1, .iadd, .iaload, .aload 0, .iload 4, .iconst 2, .iadd, .iaload], .invokeinterface 393 1539), ([.istore 6, .aload 2], .invokeinterface 245 1537), ([.iload 5], .if_icmp .eq 272), ([.iconst 0], .ireturn), ([.iload 5], .ifCond .ne 275), ([.aload 3, .iconst 0, .laload, .iload 6, .i2l, .lcmp], .ifCond .eq 275), ([.iconst 0], .ireturn), ([], .goto 349), ([.aload 1, .aload 0, .iload 4, .iconst 1, .iadd, .iaload, .aload 0, .iload 4, .iconst 2, .iadd, .iaload, .aload 3], .invokeinterface 497 4), ([.istore 5, .aload 2, .aload 0, .iload 4, .iconst 1, .iadd, .iaload, .aload 0, .iload 4, .iconst 2, .iadd, .iaload], .invokeinterface 455 1539), ([.istore 6, .aload 2], .invokeinterface 245 1537), ([.iload 5], .if_icmp .eq 281), ([.iconst 0], .ireturn), ([.iload 5], .ifCond .ne 284), ([.aload 3, .iconst 0, .laload, .iload 6, .i2l, .lcmp], .ifCond .eq 284), ([.iconst 0], .ireturn), ([], .goto 349), ([.aload 1, .aload 0, .iload 4, .iconst 1, .iadd, .iaload, .aload 0, .iload 4, .iconst 2, .iadd, .iaload], .ifCond .eq 287), ([.iconst 1], .goto 288), ([.iconst 0], .nop), ([.aload 0, .iload 4, .iconst 3, .iadd, .iaload, .aload 3], .invokeinterface 498 5), ([.istore 5, .aload 2, .aload 0, .iload 4, .iconst 1, .iadd, .iaload, .aload 0, .iload 4, .iconst 2, .iadd, .iaload], .ifCond .eq 291), ([.iconst 1], .goto 292), ([.iconst 0], .nop), ([.aload 0, .iload 4, .iconst 3, .iadd, .iaload], .invokeinterface 456 1540), ([.istore 6, .aload 2], .invokeinterface 245 1537), ([.iload 5], .if_icmp .eq 296), ([.iconst 0], .ireturn), ([.iload 5], .ifCond .ne 299), ([.aload 3, .iconst 0, .laload, .iload 6, .i2l, .lcmp], .ifCond .eq 299), ([.iconst 0], .ireturn), ([], .goto 349), ([.aload 1, .aload 0, .iload 4, .iconst 1, .iadd, .iaload, .aload 0, .iload 4, .iconst 2, .iadd, .iaload, .aload 3], .invokeinterface 499 4), ([.istore 5, .aload 2, .aload 0, .iload 4, .iconst 1, .iadd, .iaload, .aload 0, .iload 4, .iconst 2, .iadd, .iaload], .invokeinterface 457 1539), ([.istore 6, .aload 2], .invokeinterface 245 1537), ([.iload 5], .if_icmp .eq 305), ([.iconst 0], .ireturn), ([.iload 5], .ifCond .ne 308), ([.aload 3, .iconst 0, .laload, .iload 6, .i2l, .lcmp], .ifCond .eq 308), ([.iconst 0], .ireturn), ([], .goto 349), ([.aload 1, .aload 0, .iload 4, .iconst 1, .iadd, .iaload, .aload 0, .iload 4, .iconst 2, .iadd, .iaload, .aload 3], .invokeinterface 500 4), ([.istore 5, .aload 2, .aload 0, .iload 4, .iconst 1, .iadd, .iaload, .aload 0, .iload 4, .iconst 2, .iadd, .iaload], .invokeinterface 458 1539), ([.istore 6, .aload 2], .invokeinterface 245 1537), ([.iload 5], .if_icmp .eq 314), ([.iconst 0], .ireturn), ([.iload 5], .ifCond .ne 317), ([.aload 3, .iconst 0, .laload, .iload 6, .i2l, .lcmp], .ifCond .eq 317), ([.iconst 0], .ireturn), ([], .goto 349), ([.aload 1, .aload 0, .iload 4, .iconst 1, .iadd, .iaload, .aload 3], .invokeinterface 501 3), ([.istore 5, .aload 2, .aload 0, .iload 4, .iconst 1, .iadd, .iaload], .invokeinterface 460 1538), ([.istore 6, .aload 2], .invokeinterface 245 1537), ([.iload 5], .if_icmp .eq 323), ([.iconst 0], .ireturn), ([.iload 5], .ifCond .ne 326), ([.aload 3, .iconst 0, .laload, .iload 6, .i2l, .lcmp], .ifCond .eq 326), ([.iconst 0], .ireturn), ([], .goto 349), ([.aload 1], .invokeinterface 187 961), ([.aload 2], .invokeinterface 464 1537), ([], .if_icmp .eq 349), ([.iconst 0], .ireturn), ([.aload 1], .invokeinterface 188 961), ([.aload 2], .invokeinterface 465 1537), ([], .if_icmp .eq 349), ([.iconst 0], .ireturn), ([.aload 1], .invokeinterface 189 961), ([.dstore 5, .aload 2], .invokeinterface 466 1537), ([.dstore 7, .dload 5, .dload 7, .dcmp .l], .ifCond .eq 341), ([.dload 5, .dload 5, .dcmp .l], .ifCond .eq 340), ([.dload 7, .dload 7, .dcmp .l], .ifCond .ne 341), ([.iconst 0], .ireturn), ([], .goto 349), ([.aload 1], .invokeinterface 190 961), ([.f2d, .dstore 5, .aload 2], .invokeinterface 467 1537), ([.f2d, .dstore 7, .dload 5, .dload 7, .dcmp .l], .ifCond .eq 348), ([.dload 5, .dload 5, .dcmp .l], .ifCond .eq 347), ([.dload 7, .dload 7, .dcmp .l], .ifCond .ne 348), ([.iconst 0], .ireturn), ([], .goto 349), ([.iinc 4 13], .goto 3), ([.iconst 1], .ireturn)]
def am_pL : List Nat := [0, 7, 15, 23, 33, 212, 356, 501, 507, 512, 514, 519, 529, 531, 534, 551, 569, 575, 580, 582, 587, 597, 599, 602, 613, 625, 631, 636, 638, 643, 653, 655, 658, 662, 666, 669, 671, 688, 706, 712, 717, 719, 724, 734, 736, 739, 756, 774, 780, 785, 787, 792, 802, 804, 807, 824, 842, 848, 853, 855, 860, 870, 872, 875, 892, 910, 916, 921, 923, 928, 938, 940, 943, 960, 978, 984, 989, 991, 996, 1006, 1008, 1011, 1022, 1034, 1040, 1045, 1047, 1052, 1062, 1064, 1067, 1078, 1090, 1096, 1101, 1103, 1108, 1118, 1120, 1123, 1134, 1146, 1152, 1157, 1159, 1164, 1174, 1176, 1179, 1202, 1226, 1232, 1237, 1239, 1244, 1254, 1256, 1259, 1276, 1294, 1300, 1305, 1307, 1312, 1322, 1324, 1327, 1344, 1362, 1368, 1373, 1375, 1380, 1390, 1392, 1395, 1406, 1418, 1424, 1429, 1431, 1436, 1446, 1448, 1451, 1462, 1474, 1480, 1485, 1487, 1492, 1502, 1504, 1507, 1524, 1542, 1548, 1553, 1555, 1560, 1570, 1572, 1575, 1598, 1622, 1628, 1633, 1635, 1640, 1650, 1652, 1655, 1666, 1678, 1684, 1689, 1691, 1696, 1704, 1708, 1709, 1713, 1715, 1718, 1729, 1741, 1747, 1752, 1754, 1759, 1769, 1771, 1774, 1785, 1797, 1803, 1808, 1810, 1815, 1825, 1827, 1830, 1840, 1852, 1856, 1861, 1863, 1866, 1877, 1889, 1895, 1900, 1902, 1907, 1917, 1919, 1922, 1945, 1969, 1975, 1980, 1982, 1987, 1997, 1999, 2002, 2013, 2025, 2031, 2036, 2038, 2043, 2053, 2055, 2058, 2075, 2093, 2099, 2104, 2106, 2111, 2121, 2123, 2126, 2143, 2161, 2167, 2172, 2174, 2179, 2189, 2191, 2194, 2210, 2214, 2215, 2219, 2237, 2241, 2242, 2245, 2251, 2256, 2258, 2263, 2273, 2275, 2278, 2295, 2313, 2319, 2324, 2326, 2331, 2341, 2343, 2346, 2363, 2381, 2387, 2392, 2394, 2399, 2409, 2411, 2414, 2430, 2434, 2435, 2445, 2463, 2467, 2468, 2477, 2483, 2488, 2490, 2495, 2505, 2507, 2510, 2527, 2545, 2551, 2556, 2558, 2563, 2573, 2575, 2578, 2595, 2613, 2619, 2624, 2626, 2631, 2641, 2643, 2646, 2657, 2669, 2675, 2680, 2682, 2687, 2697, 2699, 2702, 2706, 2710, 2713, 2715, 2719, 2723, 2726, 2728, 2732, 2738, 2748, 2756, 2764, 2766, 2769, 2773, 2780, 2791, 2799, 2807, 2809, 2812, 2818]
theorem am_lbL : am_lb 21 9 false (am_okc 21) code am_pL 0 am_kL = true := by decide +kernel
end
section
/-! THE CODE, by program: part 1 -/
/-- X5_stepOn -/
def am_k83 : List (List Instr × Instr) := [([.aload 0, .getfield 1152], .ifCond .ne 4), ([.iload 1, .iconst 32], .if_icmp .ne 4), ([.aload 0, .aload 0], .invokeinterface 84 577), ([.putfield 1157, .aload 0, .iconst 1, .putfield 1152], .goto 17), ([.aload 0, .getfield 1152, .iconst 1], .if_icmp .ne 8), ([.iload 1, .iconst 32], .if_icmp .ne 8), ([.aload 0, .aload 0, .getfield 1154], .invokeinterface 101 705), ([.iconst 1, .iadd, .putfield 1156, .aload 0, .iconst 2, .putfield 1152], .goto 17), ([.aload 0, .getfield 1152, .iconst 1], .if_icmp .ne 11), ([.aload 0, .getfield 1158, .iload 1], .invokeinterface 109 706), ([], .goto 17), ([.aload 0, .getfield 1152, .iconst 4], .if_icmp .ne 13), ([.aload 0, .dup, .getfield 1155, .iconst 1, .iadd, .putfield 1155, .aload 0, .iconst 5, .putfield 1152], .goto 17), ([.aload 0, .getfield 1152, .iconst 5], .if_icmp .ne 17), ([.iload 1, .iconst 58], .if_icmp .ne 17), ([.aload 0, .aload 0, .getfield 1154], .invokeinterface 101 705), ([.putfield 1156, .aload 0, .iconst 6, .putfield 1152], .nop), ([.aload 0, .getfield 1154, .iload 1], .invokeinterface 109 706), ([], .return_)]
def am_p83 : List Nat := [0, 7, 13, 18, 29, 37, 43, 51, 64, 72, 80, 83, 91, 109, 117, 123, 131, 140, 148]
/-- X5_methodIn -/
def am_k84 : List (List Instr × Instr) := [([.aload 0, .getfield 1154], .invokeinterface 101 705), ([.istore 1, .iload 1, .iconst 3], .if_icmp .ne 5), ([.aload 0, .getfield 1154, .iconst 0, .ldc 0], .invokeinterface 120 707), ([], .ifCond .eq 5), ([.iconst 1], .ireturn), ([.iload 1, .iconst 4], .if_icmp .ne 9), ([.aload 0, .getfield 1154, .iconst 0, .ldc 1], .invokeinterface 120 707), ([], .ifCond .eq 9), ([.iconst 2], .ireturn), ([.iload 1, .iconst 3], .if_icmp .ne 13), ([.aload 0, .getfield 1154, .iconst 0, .ldc 2], .invokeinterface 120 707), ([], .ifCond .eq 13), ([.iconst 3], .ireturn), ([.iload 1, .iconst 4], .if_icmp .ne 17), ([.aload 0, .getfield 1154, .iconst 0, .ldc 3], .invokeinterface 120 707), ([], .ifCond .eq 17), ([.iconst 4], .ireturn), ([.iload 1, .iconst 6], .if_icmp .ne 21), ([.aload 0, .getfield 1154, .iconst 0, .ldc 4], .invokeinterface 120 707), ([], .ifCond .eq 21), ([.iconst 5], .ireturn), ([.iload 1, .iconst 7], .if_icmp .ne 25), ([.aload 0, .getfield 1154, .iconst 0, .ldc 5], .invokeinterface 120 707), ([], .ifCond .eq 25), ([.iconst 6], .ireturn), ([.iconst 0], .ireturn)]
def am_p84 : List Nat := [0, 7, 13, 23, 26, 28, 33, 43, 46, 48, 53, 63, 66, 68, 73, 83, 86, 88, 94, 104, 107, 109, 115, 125, 128, 131]
/-- X5_noteVersion -/
def am_k85 : List (List Instr × Instr) := [([.aload 0, .getfield 1154], .invokeinterface 101 705), ([.aload 0, .getfield 1156, .isub, .iconst 8], .if_icmp .eq 3), ([], .return_), ([.aload 0, .getfield 1154, .aload 0, .getfield 1156, .ldc 6], .invokeinterface 120 707), ([], .ifCond .eq 6), ([.aload 0, .iconst 10, .putfield 1159], .nop), ([.aload 0, .getfield 1154, .aload 0, .getfield 1156, .ldc 7], .invokeinterface 120 707), ([], .ifCond .eq 9), ([.aload 0, .iconst 11, .putfield 1159], .nop), ([], .return_)]
def am_p85 : List Nat := [0, 7, 17, 18, 31, 34, 40, 53, 56, 62]
/-- X5_noteField -/
def am_k86 : List (List Instr × Instr) := [([.aload 0, .getfield 1156, .iconst 1, .iadd, .istore 1, .aload 0, .getfield 1154], .invokeinterface 101 705), ([.istore 2], .nop), ([.iload 1, .iload 2], .if_icmp .ge 6), ([.aload 0, .getfield 1154, .iload 1], .invokeinterface 102 706), ([.iconst 32], .if_icmp .ne 6), ([.iinc 1 1], .goto 2), ([.iload 2, .iload 1], .if_icmp .le 10), ([.aload 0, .getfield 1154, .iload 2, .iconst 1, .isub], .invokeinterface 102 706), ([.iconst 32], .if_icmp .ne 10), ([.iinc 2 (-1)], .goto 6), ([.aload 0, .getfield 1154, .iconst 0, .aload 0, .getfield 1156, .ldc 8], .invokeinterface 121 708), ([], .ifCond .eq 13), ([.aload 0, .dup, .getfield 1160, .iconst 1, .iadd, .putfield 1160], .goto 46), ([.aload 0, .getfield 1154, .iconst 0, .aload 0, .getfield 1156, .ldc 9], .invokeinterface 121 708), ([], .ifCond .eq 18), ([.aload 0, .aload 0, .getfield 1154, .iload 1, .iload 2], .invokeinterface 122 707), ([], .invokeinterface 87 578), ([], .goto 46), ([.aload 0, .getfield 1154, .iconst 0, .aload 0, .getfield 1156, .ldc 10], .invokeinterface 121 708), ([], .ifCond .eq 25), ([.aload 0, .aload 0, .getfield 1154, .iload 1, .iload 2, .ldc 11], .invokeinterface 121 708), ([], .ifCond .eq 23), ([.iconst 1], .goto 24), ([.iconst 2], .nop), ([.putfield 1163], .goto 46), ([.aload 0, .getfield 1154, .iconst 0, .aload 0, .getfield 1156, .ldc 12], .invokeinterface 121 708), ([], .ifCond .eq 35), ([.aload 0, .aload 0, .getfield 1154, .iload 1, .iload 2, .ldc 13], .invokeinterface 121 708), ([], .ifCond .eq 30), ([.iconst 1], .goto 34), ([.aload 0, .getfield 1154, .iload 1, .iload 2, .ldc 14], .invokeinterface 121 708), ([], .ifCond .eq 33), ([.iconst 2], .goto 34), ([.iconst 0], .nop), ([.putfield 1164], .goto 46), ([.aload 0, .getfield 1154, .iconst 0, .aload 0, .getfield 1156, .ldc 15], .invokeinterface 121 708), ([], .ifCond .eq 39), ([.aload 0, .aload 0, .getfield 1165, .iload 1, .iload 2], .invokeinterface 88 580), ([], .goto 46), ([.aload 0, .getfield 1154, .iconst 0, .aload 0, .getfield 1156, .ldc 16], .invokeinterface 121 708), ([], .ifCond .eq 43), ([.aload 0, .aload 0, .getfield 1166, .iload 1, .iload 2], .invokeinterface 88 580), ([], .goto 46), ([.aload 0, .getfield 1154, .iconst 0, .aload 0, .getfield 1156, .ldc 17], .invokeinterface 121 708), ([], .ifCond .eq 46), ([.aload 0, .aload 0, .getfield 1167, .iload 1, .iload 2], .invokeinterface 88 580), ([], .return_)]
def am_p86 : List Nat := [0, 14, 15, 20, 28, 33, 39, 44, 54, 59, 65, 79, 82, 95, 109, 112, 122, 125, 128, 142, 145, 157, 160, 164, 165, 171, 185, 188, 200, 203, 207, 218, 221, 225, 226, 232, 246, 249, 259, 262, 276, 279, 289, 292, 306, 309, 319]
/-- X5_noteLength -/
def am_k87 : List (List Instr × Instr) := [([.iload 1, .iconst (-1)], .if_icmp .eq 3), ([.aload 0, .getfield 1161, .iconst (-1)], .if_icmp .eq 4), ([.aload 0, .getfield 1161, .iload 1], .if_icmp .eq 4), ([.aload 0, .iconst 1, .putfield 1162], .goto 5), ([.aload 0, .iload 1, .putfield 1161], .nop), ([], .return_)]
def am_p87 : List Nat := [0, 5, 13, 21, 29, 34]
/-- X5_noteValue -/
def am_k88 : List (List Instr × Instr) := [([.aload 1], .invokeinterface 106 705), ([.aload 1, .iconst 58], .invokeinterface 109 706), ([.aload 1, .aload 0, .getfield 1154, .iload 2, .iload 3, .iload 2, .isub], .invokeinterface 113 708), ([], .return_)]
def am_p88 : List Nat := [0, 4, 10, 22]
/-- X5_judge -/
def am_k89 : List (List Instr × Instr) := [([.aload 0, .getfield 1159], .ifCond .ne 2), ([.iconst 505], .ireturn), ([.aload 0, .getfield 1157], .ifCond .eq 4), ([.aload 0, .getfield 1163, .iconst 2], .if_icmp .ne 5), ([.iconst 501], .ireturn), ([.aload 0, .getfield 1162], .ifCond .ne 10), ([.aload 0, .getfield 1161, .iconst (-1)], .if_icmp .eq 8), ([.aload 0, .getfield 1163], .ifCond .ne 10), ([.aload 0, .getfield 1159, .iconst 11], .if_icmp .ne 11), ([.aload 0, .getfield 1160, .iconst 1], .if_icmp .eq 11), ([.iconst 400], .ireturn), ([.aload 0, .getfield 1161, .iconst 300], .if_icmp .le 13), ([.iconst 413], .ireturn), ([.aload 0, .getfield 1157, .iconst 3], .if_icmp .eq 15), ([.aload 0, .getfield 1157, .iconst 4], .if_icmp .ne 18), ([.aload 0, .getfield 1161, .iconst (-1)], .if_icmp .ne 18), ([.aload 0, .getfield 1163], .ifCond .ne 18), ([.iconst 411], .ireturn), ([.aload 0, .getfield 1163, .iconst 1], .if_icmp .ne 20), ([.aload 0, .iconst 10, .putfield 1152, .iconst 0], .ireturn), ([.aload 0, .getfield 1161], .ifCond .gt 22), ([.iconst 1], .ireturn), ([.aload 0, .aload 0, .getfield 1161, .putfield 1169, .aload 0, .iconst 9, .putfield 1152, .iconst 0], .ireturn)]
def am_p89 : List Nat := [0, 7, 11, 18, 26, 30, 37, 45, 52, 61, 69, 73, 83, 87, 95, 103, 111, 118, 122, 130, 138, 145, 147]
/-- X5_feedBody -/
def am_k90 : List (List Instr × Instr) := [([.aload 0, .getfield 1152], .tableswitch 20 9 15 #[1, 7, 9, 1, 14, 16, 18]), ([.aload 0, .getfield 1168, .iload 1], .invokeinterface 109 706), ([.aload 0, .dup, .getfield 1169, .iconst 1, .isub, .putfield 1169, .aload 0, .getfield 1169], .ifCond .le 4), ([.iconst 0], .ireturn), ([.aload 0, .getfield 1152, .iconst 9], .if_icmp .ne 6), ([.iconst 1], .ireturn), ([.aload 0, .iconst 13, .putfield 1152, .iconst 0], .ireturn), ([.aload 0, .iload 1], .invokeinterface 92 578), ([], .ireturn), ([.aload 0, .iload 1, .iconst 10, .aload 0, .getfield 1169], .ifCond .le 11), ([.iconst 12], .goto 12), ([.iconst 15], .nop), ([], .invokeinterface 91 580), ([], .ireturn), ([.aload 0, .iload 1, .iconst 13, .iconst 14], .invokeinterface 91 580), ([], .ireturn), ([.aload 0, .iconst 0, .putfield 1170, .aload 0, .iload 1, .iconst 10, .iconst 10], .invokeinterface 91 580), ([], .ireturn), ([.aload 0, .iload 1, .iconst 13, .iconst 16], .invokeinterface 91 580), ([], .ireturn), ([.iload 1, .iconst 10], .if_icmp .ne 22), ([.iconst 1], .goto 23), ([.iconst 400], .nop), ([], .ireturn)]
def am_p90 : List Nat := [0, 48, 56, 73, 75, 84, 86, 94, 99, 100, 111, 116, 118, 121, 122, 131, 132, 146, 147, 156, 157, 163, 167, 170]
/-- X5_expect -/
def am_k91 : List (List Instr × Instr) := [([.iload 1, .iload 2], .if_icmp .eq 2), ([.iconst 400], .ireturn), ([.aload 0, .iload 3, .putfield 1152, .iconst 0], .ireturn)]
def am_p91 : List Nat := [0, 5, 9]
/-- X5_feedSize -/
def am_k92 : List (List Instr × Instr) := [([.iload 1, .iconst 13], .if_icmp .ne 6), ([.aload 0, .getfield 1170], .ifCond .le 6), ([.aload 0, .getfield 1168], .invokeinterface 101 705), ([.aload 0, .getfield 1169, .iadd, .iconst 300], .if_icmp .le 5), ([.iconst 413], .ireturn), ([.aload 0, .iconst 11, .putfield 1152, .iconst 0], .ireturn), ([.iconst (-1), .istore 2, .iload 1, .iconst 48], .if_icmp .lt 9), ([.iload 1, .iconst 57], .if_icmp .gt 9), ([.iload 1, .iconst 48, .isub, .istore 2], .goto 15), ([.iload 1, .iconst 97], .if_icmp .lt 12), ([.iload 1, .iconst 102], .if_icmp .gt 12), ([.iload 1, .iconst 97, .isub, .iconst 10, .iadd, .istore 2], .goto 15), ([.iload 1, .iconst 65], .if_icmp .lt 15), ([.iload 1, .iconst 70], .if_icmp .gt 15), ([.iload 1, .iconst 65, .isub, .iconst 10, .iadd, .istore 2], .nop), ([.iload 2, .iconst (-1)], .if_icmp .eq 17), ([.aload 0, .getfield 1170, .iconst 4], .if_icmp .ne 18), ([.iconst 400], .ireturn), ([.aload 0, .aload 0, .getfield 1169, .iconst 16, .imul, .iload 2, .iadd, .putfield 1169, .aload 0, .dup, .getfield 1170, .iconst 1, .iadd, .putfield 1170, .iconst 0], .ireturn)]
def am_p92 : List Nat := [0, 6, 13, 20, 31, 35, 43, 51, 57, 65, 71, 77, 88, 94, 100, 108, 113, 121, 125]
/-- X6_init -/
def am_k93 : List (List Instr × Instr) := [([.aload 0, .invokedynamic 0, .aload 0, .new 11, .dup, .iconst 64], .invokeinterface 100 706), ([.putfield 1282, .aload 0, .iconst 6, .anewarray 211, .putfield 1285, .aload 0, .iconst 6, .newarray .int, .putfield 1286, .iconst 0, .istore 1], .nop), ([.iload 1, .iconst 6], .if_icmp .ge 5), ([.aload 0, .getfield 1285, .iload 1, .new 11, .dup, .iconst 1], .invokeinterface 100 706), ([.aastore, .iinc 1 1], .goto 2), ([], .return_)]
def am_p93 : List Nat := [0, 14, 36, 42, 55, 62]
/-- X6_begin -/
def am_k94 : List (List Instr × Instr) := [([.aload 0, .iload 1, .putfield 1280, .aload 0, .iload 1, .iconst 1, .iadd, .putfield 1281], .return_)]
def am_p94 : List Nat := [0]
/-- X6_unread -/
def am_k95 : List (List Instr × Instr) := [([.aload 0, .getfield 1282, .getfield 1409, .aload 0, .getfield 1283, .isub], .ireturn)]
def am_p95 : List Nat := [0]
/-- X6_window -/
def am_k96 : List (List Instr × Instr) := [([.iconst 300, .aload 0, .getfield 1282, .getfield 1409, .isub, .aload 0, .getfield 1283, .iadd], .ireturn)]
def am_p96 : List Nat := [0]
/-- X6_takeBytes -/
def am_k97 : List (List Instr × Instr) := [([.aload 0, .getfield 1281, .aload 0], .invokeinterface 96 641), ([.iadd, .istore 2, .aload 1, .getfield 1540, .aload 1, .getfield 1547, .iadd, .istore 3, .aload 1, .getfield 1540, .aload 0, .getfield 1281], .invokeinterface 196 2), ([], .ifCond .eq 4), ([.aload 0, .getfield 1281], .goto 5), ([.aload 1, .getfield 1540], .nop), ([.istore 4, .iload 2, .iload 3], .invokeinterface 196 2), ([], .ifCond .eq 8), ([.iload 2], .goto 9), ([.iload 3], .nop), ([.istore 5, .iload 5, .iload 4, .isub, .istore 6, .iload 6], .ifCond .gt 11), ([], .return_), ([.aload 1, .getfield 1546, .iload 4, .aload 1, .getfield 1540, .isub, .iadd, .istore 7, .iload 4, .aload 0, .getfield 1281], .if_icmp .ne 15), ([.aload 0, .getfield 1282, .aload 1, .getfield 1545, .iload 7, .iload 6], .invokeinterface 113 708), ([.aload 0, .dup, .getfield 1281, .iload 6, .iadd, .putfield 1281, .aload 0], .invokeinterface 98 641), ([], .goto 19), ([.aload 0, .getfield 1287, .iconst 6], .if_icmp .ge 19), ([.aload 0, .getfield 1285, .aload 0, .getfield 1287, .aaload], .invokeinterface 106 705), ([.aload 0, .getfield 1285, .aload 0, .getfield 1287, .aaload, .aload 1, .getfield 1545, .iload 7, .iload 6], .invokeinterface 113 708), ([.aload 0, .getfield 1286, .aload 0, .getfield 1287, .iload 4, .iastore, .aload 0, .dup, .getfield 1287, .iconst 1, .iadd, .putfield 1287], .nop), ([], .return_)]
def am_p97 : List Nat := [0, 8, 31, 34, 41, 45, 52, 55, 59, 60, 74, 75, 98, 113, 128, 131, 140, 152, 172, 193]
/-- X6_joinPieces -/
def am_k98 : List (List Instr × Instr) := [([.iconst 0, .istore 1], .nop), ([.iload 1, .iconst 6], .if_icmp .ge 12), ([.aload 0, .getfield 1287], .ifCond .le 12), ([.aload 0], .invokeinterface 99 641), ([.istore 2, .aload 0, .getfield 1281, .aload 0, .getfield 1286, .iload 2, .iaload], .invokeinterface 196 2), ([], .ifCond .eq 7), ([], .return_), ([.aload 0, .getfield 1285, .iload 2, .aaload, .astore 3, .aload 0, .getfield 1281, .aload 0, .getfield 1286, .iload 2, .iaload, .isub, .istore 4, .aload 3], .invokeinterface 101 705), ([.iload 4, .isub, .istore 5, .iload 5], .ifCond .le 11), ([.aload 0, .getfield 1282, .aload 3, .iload 4, .iload 5], .invokeinterface 113 708), ([.aload 0, .dup, .getfield 1281, .iload 5, .iadd, .putfield 1281], .nop), ([.aload 0, .dup, .getfield 1287, .iconst 1, .isub, .putfield 1287, .aload 0, .getfield 1285, .iload 2, .aload 0, .getfield 1285, .aload 0, .getfield 1287, .aaload, .aastore, .aload 0, .getfield 1286, .iload 2, .aload 0, .getfield 1286, .aload 0, .getfield 1287, .iaload, .iastore, .aload 0, .getfield 1285, .aload 0, .getfield 1287, .aload 3, .aastore, .iinc 1 1], .goto 1), ([], .return_)]
def am_p98 : List Nat := [0, 2, 8, 15, 19, 33, 36, 37, 61, 71, 83, 94, 150]
/-- X6_firstPiece -/
def am_k99 : List (List Instr × Instr) := [([.iconst 0, .istore 1, .iconst 1, .istore 2], .nop), ([.iload 2, .aload 0, .getfield 1287], .if_icmp .ge 5), ([.aload 0, .getfield 1286, .iload 1, .iaload, .aload 0, .getfield 1286, .iload 2, .iaload, .isub], .ifCond .le 4), ([.iload 2, .istore 1], .nop), ([.iinc 2 1], .goto 1), ([.iload 1], .ireturn)]
def am_p99 : List Nat := [0, 4, 12, 28, 30, 36]
/-- X7_init -/
def am_k100 : List (List Instr × Instr) := [([.aload 0, .invokedynamic 0, .aload 0, .iload 1, .iconst 1], .if_icmp .ge 2), ([.iconst 1], .goto 3), ([.iload 1], .nop), ([.newarray .int, .putfield 1408], .return_)]
def am_p100 : List Nat := [0, 10, 14, 15]
/-- X7_length -/
def am_k101 : List (List Instr × Instr) := [([.aload 0, .getfield 1409], .ireturn)]
def am_p101 : List Nat := [0]
/-- X7_at -/
def am_k102 : List (List Instr × Instr) := [([.iload 1], .ifCond .lt 3), ([.iload 1, .aload 0, .getfield 1409], .if_icmp .ge 3), ([.aload 0, .getfield 1408, .iload 1, .iaload], .goto 4), ([.iconst 0], .nop), ([], .ireturn)]
def am_p102 : List Nat := [0, 4, 12, 21, 22]
/-- X7_twoAt -/
def am_k103 : List (List Instr × Instr) := [([.aload 0, .iload 1], .invokeinterface 102 706), ([.iconst 8, .ishl, .aload 0, .iload 1, .iconst 1, .iadd], .invokeinterface 102 706), ([.ior], .ireturn)]
def am_p103 : List Nat := [0, 5, 15]
/-- X7_fourAt -/
def am_k104 : List (List Instr × Instr) := [([.aload 0, .iload 1], .invokeinterface 102 706), ([.iconst 24, .ishl, .aload 0, .iload 1, .iconst 1, .iadd], .invokeinterface 102 706), ([.iconst 16, .ishl, .ior, .aload 0, .iload 1, .iconst 2, .iadd], .invokeinterface 102 706), ([.iconst 8, .ishl, .ior, .aload 0, .iload 1, .iconst 3, .iadd], .invokeinterface 102 706), ([.ior], .ireturn)]
def am_p104 : List Nat := [0, 5, 15, 26, 37]
/-- X7_hardwareAt -/
def am_k105 : List (List Instr × Instr) := [([.jsr_w 0, .lstore 2, .iconst 0, .istore 4], .nop), ([.iload 4, .iconst 6], .if_icmp .ge 4), ([.lload 2, .iconst 8, .lshl, .aload 0, .iload 1, .iload 4, .iadd], .invokeinterface 102 706), ([.i2l, .lor, .lstore 2, .iinc 4 1], .goto 1), ([.lload 2], .lreturn)]
def am_p105 : List Nat := [0, 5, 12, 24, 33]
/-- X7_empty -/
def am_k106 : List (List Instr × Instr) := [([.aload 0, .iconst 0, .putfield 1409], .return_)]
def am_p106 : List Nat := [0]
/-- X7_setAt -/
def am_k107 : List (List Instr × Instr) := [([.iload 1], .ifCond .lt 3), ([.iload 1, .aload 0, .getfield 1409], .if_icmp .ge 3), ([.aload 0, .getfield 1408, .iload 1, .iload 2, .iastore], .nop), ([], .return_)]
def am_p107 : List Nat := [0, 4, 12, 19]
/-- X7_setTwo -/
def am_k108 : List (List Instr × Instr) := [([.iload 1], .ifCond .lt 2), ([.iload 1, .iconst 2, .iadd, .aload 0, .getfield 1409], .if_icmp .le 3), ([], .return_), ([.aload 0, .getfield 1408, .iload 1, .iload 2, .iconst 8, .ishr, .iconst 255, .iand, .iastore, .aload 0, .getfield 1408, .iload 1, .iconst 1, .iadd, .iload 2, .iconst 255, .iand, .iastore], .return_)]
def am_p108 : List Nat := [0, 4, 14, 15]
/-- X7_add -/
def am_k109 : List (List Instr × Instr) := [([.aload 0, .getfield 1409, .aload 0, .getfield 1408, .arraylength], .if_icmp .lt 3), ([.aload 0, .aload 0, .getfield 1408, .iconst 2, .aload 0, .getfield 1409, .imul, .iconst 1, .iadd], .invokeinterface 521 2), ([.putfield 1408], .nop), ([.aload 0, .getfield 1408, .aload 0, .getfield 1409, .iload 1, .iastore, .aload 0, .dup, .getfield 1409, .iconst 1, .iadd, .putfield 1409], .return_)]
def am_p109 : List Nat := [0, 12, 28, 31]
/-- X7_addTwo -/
def am_k110 : List (List Instr × Instr) := [([.aload 0, .getfield 1409, .iconst 2, .iadd, .aload 0, .getfield 1408, .arraylength], .if_icmp .le 3), ([.aload 0, .aload 0, .getfield 1408, .iconst 2, .aload 0, .getfield 1409, .imul, .iconst 2, .iadd], .invokeinterface 521 2), ([.putfield 1408], .nop), ([.aload 0, .getfield 1408, .aload 0, .getfield 1409, .iload 1, .iconst 8, .ishr, .iconst 255, .iand, .iastore, .aload 0, .getfield 1408, .aload 0, .getfield 1409, .iconst 1, .iadd, .iload 1, .iconst 255, .iand, .iastore, .aload 0, .dup, .getfield 1409, .iconst 2, .iadd, .putfield 1409], .return_)]
def am_p110 : List Nat := [0, 14, 30, 33]
/-- X7_addFour -/
def am_k111 : List (List Instr × Instr) := [([.aload 0, .iload 1, .iconst 16, .iushr], .invokeinterface 110 706), ([.aload 0, .iload 1], .invokeinterface 110 706), ([], .return_)]
def am_p111 : List Nat := [0, 8, 13]
/-- X7_addHardware -/
def am_k112 : List (List Instr × Instr) := [([.aload 0, .lload 1, .iconst 32, .lushr, .l2i], .invokeinterface 110 706), ([.aload 0, .lload 1, .iconst 16, .lushr, .l2i], .invokeinterface 110 706), ([.aload 0, .lload 1, .l2i], .invokeinterface 110 706), ([], .return_)]
def am_p112 : List Nat := [0, 9, 18, 24]
/-- X7_addRow -/
def am_k113 : List (List Instr × Instr) := [([.iload 2], .ifCond .lt 3), ([.iload 3, .iconst 1], .if_icmp .lt 3), ([.iload 2, .aload 1, .getfield 1409, .iload 3, .isub], .if_icmp .le 4), ([], .return_), ([.iload 3, .aload 0, .getfield 1408, .arraylength, .aload 0, .getfield 1409, .isub], .if_icmp .le 7), ([.aload 0, .aload 0, .getfield 1408, .iconst 2, .aload 0, .getfield 1409, .imul, .iload 3, .iadd], .invokeinterface 521 2), ([.putfield 1408], .nop), ([.aload 1, .getfield 1408, .iload 2, .aload 0, .getfield 1408, .aload 0, .getfield 1409, .iload 3], .invokeinterface 900 5), ([.aload 0, .dup, .getfield 1409, .iload 3, .iadd, .putfield 1409], .return_)]
def am_p113 : List Nat := [0, 4, 9, 19, 20, 34, 50, 53, 70]
/-- X7_addZeros -/
def am_k114 : List (List Instr × Instr) := [([.iload 1, .iconst 1], .if_icmp .ge 2), ([], .return_), ([.iload 1, .aload 0, .getfield 1408, .arraylength, .aload 0, .getfield 1409, .isub], .if_icmp .le 5), ([.aload 0, .aload 0, .getfield 1408, .iconst 2, .aload 0, .getfield 1409, .imul, .iload 1, .iadd], .invokeinterface 521 2), ([.putfield 1408], .nop), ([.aload 0, .getfield 1408, .aload 0, .getfield 1409, .aload 0, .getfield 1409, .iload 1, .iadd, .iconst 0], .invokeinterface 517 4), ([.aload 0, .dup, .getfield 1409, .iload 1, .iadd, .putfield 1409], .return_)]
def am_p114 : List Nat := [0, 5, 6, 20, 36, 39, 57]
/-- X7_addText -/
def am_k115 : List (List Instr × Instr) := [([.aload 1], .invokeinterface 901 1), ([.istore 2, .iload 2, .aload 0, .getfield 1408, .arraylength, .aload 0, .getfield 1409, .isub], .if_icmp .le 4), ([.aload 0, .aload 0, .getfield 1408, .iconst 2, .aload 0, .getfield 1409, .imul, .iload 2, .iadd], .invokeinterface 521 2), ([.putfield 1408], .nop), ([.iconst 0, .istore 3], .nop), ([.iload 3, .iload 2], .if_icmp .ge 8), ([.aload 0, .getfield 1408, .aload 0, .getfield 1409, .iload 3, .iadd, .aload 1, .iload 3], .invokeinterface 902 2), ([.iastore, .iinc 3 1], .goto 5), ([.aload 0, .dup, .getfield 1409, .iload 2, .iadd, .putfield 1409], .return_)]
def am_p115 : List Nat := [0, 4, 19, 35, 38, 40, 45, 60, 67]
/-- X7_addNumber -/
def am_k116 : List (List Instr × Instr) := [([.iconst 1, .istore 2, .iconst 0, .istore 3], .nop), ([.iload 3, .iconst 9], .if_icmp .ge 4), ([.iload 1, .iconst 10, .idiv, .iload 2], .if_icmp .lt 4), ([.iload 2, .iconst 10, .imul, .istore 2, .iinc 3 1], .goto 1), ([.aload 0, .getfield 1409, .iconst 10, .iadd, .aload 0, .getfield 1408, .arraylength], .if_icmp .le 7), ([.aload 0, .aload 0, .getfield 1408, .iconst 2, .aload 0, .getfield 1409, .imul, .iconst 10, .iadd], .invokeinterface 521 2), ([.putfield 1408], .nop), ([.iconst 0, .istore 3], .nop), ([.iload 3, .iconst 10], .if_icmp .ge 11), ([.iload 2], .ifCond .le 11), ([.aload 0, .getfield 1408, .aload 0, .getfield 1409, .iconst 48, .iload 1, .iload 2, .idiv, .iconst 10, .irem, .iadd, .iastore, .aload 0, .dup, .getfield 1409, .iconst 1, .iadd, .putfield 1409, .iload 2, .iconst 10, .idiv, .istore 2, .iinc 3 1], .goto 8), ([], .return_)]
def am_p116 : List Nat := [0, 4, 10, 18, 29, 44, 61, 64, 66, 72, 76, 115]
/-- X7_removeFirst -/
def am_k117 : List (List Instr × Instr) := [([.iload 1, .iconst 1], .if_icmp .lt 2), ([.iload 1, .aload 0, .getfield 1409], .if_icmp .le 3), ([], .return_), ([.aload 0, .getfield 1408, .iload 1, .aload 0, .getfield 1408, .iconst 0, .aload 0, .getfield 1409, .iload 1, .isub], .invokeinterface 900 5), ([.aload 0, .dup, .getfield 1409, .iload 1, .isub, .putfield 1409], .return_)]
def am_p117 : List Nat := [0, 5, 13, 14, 33]
/-- X7_isSame -/
def am_k118 : List (List Instr × Instr) := [([.iload 4], .ifCond .lt 3), ([.iload 1], .ifCond .lt 3), ([.iload 3], .ifCond .ge 4), ([.iconst 0], .ireturn), ([.iload 1, .aload 0, .getfield 1409, .iload 4, .isub], .if_icmp .gt 6), ([.iload 3, .aload 2, .getfield 1409, .iload 4, .isub], .if_icmp .le 7), ([.iconst 0], .ireturn), ([.iconst 0, .istore 5], .nop), ([.iload 5, .iload 4], .if_icmp .ge 12), ([.aload 0, .getfield 1408, .iload 1, .iload 5, .iadd, .iaload, .aload 2, .getfield 1408, .iload 3, .iload 5, .iadd, .iaload], .if_icmp .eq 11), ([.iconst 0], .ireturn), ([.iinc 5 1], .goto 8), ([.iconst 1], .ireturn)]
def am_p118 : List Nat := [0, 5, 9, 13, 15, 26, 37, 39, 42, 49, 70, 72, 78]
/-- X7_compare -/
def am_k119 : List (List Instr × Instr) := [([.aload 0, .getfield 1409, .aload 1, .getfield 1409, .jsr 0, .istore 2, .iconst 0, .istore 3], .nop), ([.iload 3, .iload 2], .if_icmp .ge 5), ([.aload 0, .getfield 1408, .iload 3, .iaload, .aload 1, .getfield 1408, .iload 3, .iaload], .if_icmp .eq 4), ([.aload 0, .getfield 1408, .iload 3, .iaload, .aload 1, .getfield 1408, .iload 3, .iaload, .isub], .ireturn), ([.iinc 3 1], .goto 1), ([.aload 0, .getfield 1409, .aload 1, .getfield 1409, .isub], .ireturn)]
def am_p119 : List Nat := [0, 14, 19, 34, 48, 54]
/-- X7_hasText -/
def am_k120 : List (List Instr × Instr) := [([.aload 2], .invokeinterface 901 1), ([.istore 3, .iload 1], .ifCond .lt 3), ([.iload 1, .aload 0, .getfield 1409, .iload 3, .isub], .if_icmp .le 4), ([.iconst 0], .ireturn), ([.iconst 0, .istore 4], .nop), ([.iload 4, .iload 3], .if_icmp .ge 10), ([.aload 0, .getfield 1408, .iload 1, .iload 4, .iadd, .iaload, .aload 2, .iload 4], .invokeinterface 902 2), ([], .if_icmp .eq 9), ([.iconst 0], .ireturn), ([.iinc 4 1], .goto 5), ([.iconst 1], .ireturn)]
def am_p120 : List Nat := [0, 4, 9, 19, 21, 24, 30, 45, 48, 50, 56]
/-- X7_isWord -/
def am_k121 : List (List Instr × Instr) := [([.aload 3], .invokeinterface 901 1), ([.istore 4, .iload 1], .ifCond .lt 4), ([.iload 2, .aload 0, .getfield 1409], .if_icmp .gt 4), ([.iload 2, .iload 1, .isub, .iload 4], .if_icmp .eq 5), ([.iconst 0], .ireturn), ([.iconst 0, .istore 5], .nop), ([.iload 5, .iload 4], .if_icmp .ge 15), ([.aload 0, .getfield 1408, .iload 1, .iload 5, .iadd, .iaload, .istore 6, .iload 6, .iconst 65], .if_icmp .lt 10), ([.iload 6, .iconst 90], .if_icmp .gt 10), ([.iload 6, .iconst 32, .iadd], .goto 11), ([.iload 6], .nop), ([.istore 7, .iload 7, .aload 3, .iload 5], .invokeinterface 902 2), ([], .if_icmp .eq 14), ([.iconst 0], .ireturn), ([.iinc 5 1], .goto 6), ([.iconst 1], .ireturn)]
def am_p121 : List Nat := [0, 4, 10, 18, 26, 28, 31, 38, 56, 63, 71, 73, 83, 86, 88, 94]
/-- X7_numberAt -/
def am_k122 : List (List Instr × Instr) := [([.iload 2, .iload 1, .isub, .istore 3, .iload 1], .ifCond .lt 4), ([.iload 2, .aload 0, .getfield 1409], .if_icmp .gt 4), ([.iload 3, .iconst 1], .if_icmp .lt 4), ([.iload 3, .iconst 6], .if_icmp .le 5), ([.iconst (-1)], .ireturn), ([.iconst 0, .istore 4, .iload 1, .istore 5], .nop), ([.iload 5, .iload 2], .if_icmp .ge 11), ([.aload 0, .getfield 1408, .iload 5, .iaload, .iconst 48, .isub, .istore 6, .iload 6], .ifCond .lt 9), ([.iload 6, .iconst 9], .if_icmp .le 10), ([.iconst (-1)], .ireturn), ([.iload 4, .iconst 10, .imul, .iload 6, .iadd, .istore 4, .iinc 5 1], .goto 6), ([.iload 4], .ireturn)]
def am_p122 : List Nat := [0, 8, 16, 21, 27, 29, 35, 41, 58, 65, 67, 83]
/-- X7_behindName -/
def am_k123 : List (List Instr × Instr) := [([.iload 1, .istore 2, .iconst 0, .istore 3], .nop), ([.iload 3, .iconst 5], .if_icmp .gt 13), ([.iload 2], .ifCond .lt 4), ([.iload 2, .aload 0, .getfield 1409], .if_icmp .lt 5), ([.iconst (-1)], .ireturn), ([.aload 0, .getfield 1408, .iload 2, .iaload, .istore 4, .iload 4], .ifCond .ne 10), ([.iload 3], .ifCond .le 8), ([.iload 2, .iconst 1, .iadd], .goto 9), ([.iconst (-1)], .nop), ([], .ireturn), ([.iload 4, .iconst 20], .if_icmp .le 12), ([.iconst (-1)], .ireturn), ([.iload 2, .iload 4, .iconst 1, .iadd, .iadd, .istore 2, .iinc 3 1], .goto 1), ([.iconst (-1)], .ireturn)]
def am_p123 : List Nat := [0, 4, 9, 13, 21, 23, 36, 40, 46, 47, 48, 55, 57, 70]
/-- X7_sumOver -/
def am_k124 : List (List Instr × Instr) := [([.iload 3, .i2l, .lstore 4, .iload 1], .ifCond .lt 2), ([.iload 2, .aload 0, .getfield 1409], .if_icmp .le 3), ([.iconst (-1)], .ireturn), ([.iload 1, .istore 6], .nop), ([.iload 6, .iload 2], .if_icmp .ge 9), ([.lload 4, .aload 0, .getfield 1408, .iload 6, .iaload, .iconst 8, .ishl, .iload 6, .iconst 1, .iadd, .iload 2], .if_icmp .ge 7), ([.aload 0, .getfield 1408, .iload 6, .iconst 1, .iadd, .iaload], .goto 8), ([.iconst 0], .nop), ([.ior, .i2l, .ladd, .lstore 4, .iinc 6 2], .goto 4), ([.iconst 0, .istore 6], .nop), ([.iload 6, .iconst 4], .if_icmp .ge 12), ([.lload 4, .jsr_w 65535, .land, .lload 4, .iconst 16, .lushr, .ladd, .lstore 4, .iinc 6 1], .goto 10), ([.jsr_w 65535, .lload 4, .lsub, .l2i], .ireturn)]
def am_p124 : List Nat := [0, 8, 16, 18, 21, 27, 47, 59, 60, 71, 74, 80, 100]
/-- X8_init -/
def am_k125 : List (List Instr × Instr) := [([.aload 0, .invokedynamic 0, .aload 0, .new 11, .dup, .iconst 1], .invokeinterface 100 706), ([.putfield 1545], .return_)]
def am_p125 : List Nat := [0, 13]
/-- X8_has -/
def am_k126 : List (List Instr × Instr) := [([.aload 0, .getfield 1542, .iload 1, .iand], .ifCond .eq 2), ([.iconst 1], .goto 3), ([.iconst 0], .nop), ([], .ireturn)]
def am_p126 : List Nat := [0, 9, 13, 14]
/-- X8_isRightIn -/
def am_k127 : List (List Instr × Instr) := [([.aload 1, .getfield 649, .astore 2, .aload 2], .invokeinterface 101 705), ([.istore 3, .aload 2, .iconst 12], .invokeinterface 102 706), ([.iconst 4, .ishr, .iconst 4, .imul, .istore 4, .iload 3, .iconst 20], .if_icmp .lt 5), ([.iload 4, .iconst 20], .if_icmp .lt 5), ([.iload 4, .iload 3], .if_icmp .le 6), ([.iconst 0], .ireturn), ([.aload 2, .iconst 0, .iload 3, .aload 1], .invokeinterface 34 321), ([], .invokeinterface 124 708), ([], .ifCond .eq 10), ([.iconst 0], .ireturn), ([.aload 0, .aload 2, .putfield 1545, .aload 0, .aload 1, .getfield 641, .putfield 1536, .aload 0, .aload 1, .getfield 642, .putfield 1537, .aload 0, .aload 2, .iconst 0], .invokeinterface 103 706), ([.putfield 1538, .aload 0, .aload 2, .iconst 2], .invokeinterface 103 706), ([.putfield 1539, .aload 0, .aload 2, .iconst 4], .invokeinterface 104 706), ([.putfield 1540, .aload 0, .aload 2, .iconst 8], .invokeinterface 104 706), ([.putfield 1541, .aload 0, .aload 2, .iconst 13], .invokeinterface 102 706), ([.putfield 1542, .aload 0, .aload 2, .iconst 14], .invokeinterface 103 706), ([.putfield 1543, .aload 0, .iload 4, .putfield 1546, .aload 0, .iload 3, .iload 4, .isub, .putfield 1547, .aload 0, .aload 0, .iconst 2], .invokeinterface 126 770), ([], .ifCond .eq 20), ([.aload 2, .iload 4], .invokeinterface 128 2), ([], .goto 21), ([.iconst 536], .nop), ([.putfield 1544, .iconst 1], .ireturn)]
def am_p127 : List Nat := [0, 9, 16, 28, 35, 41, 43, 50, 53, 56, 58, 85, 94, 103, 113, 123, 133, 156, 159, 165, 168, 171]
/-- X8_optionIn -/
def am_k128 : List (List Instr × Instr) := [([.iconst 536, .istore 2, .iconst 20, .istore 3, .iconst 0, .istore 4], .nop), ([.iload 4, .iconst 40], .if_icmp .ge 21), ([.iload 3, .iload 1], .if_icmp .ge 21), ([.aload 0, .iload 3], .invokeinterface 102 706), ([.istore 5, .iload 5], .ifCond .ne 6), ([.iload 2], .ireturn), ([.iload 5, .iconst 1], .if_icmp .ne 8), ([.iinc 3 1], .goto 20), ([.iload 3, .iconst 1, .iadd, .iload 1], .if_icmp .ge 11), ([.aload 0, .iload 3, .iconst 1, .iadd], .invokeinterface 102 706), ([], .goto 12), ([.iconst 0], .nop), ([.istore 6, .iload 6, .iconst 2], .if_icmp .lt 14), ([.iload 3, .iload 6, .iadd, .iload 1], .if_icmp .le 15), ([.iload 2], .ireturn), ([.iload 5, .iconst 2], .if_icmp .ne 19), ([.iload 6, .iconst 4], .if_icmp .ne 19), ([.aload 0, .iload 3, .iconst 2, .iadd], .invokeinterface 103 706), ([.istore 2], .nop), ([.iload 3, .iload 6, .iadd, .istore 3], .nop), ([.iinc 4 1], .goto 1), ([.iload 2], .ireturn)]
def am_p128 : List Nat := [0, 10, 17, 22, 27, 34, 36, 42, 48, 55, 62, 65, 66, 74, 82, 84, 90, 96, 103, 104, 109, 115]
/-- X9_init -/
def am_k129 : List (List Instr × Instr) := [([.aload 0, .invokedynamic 0, .aload 0, .new 11, .dup, .iconst 64], .invokeinterface 100 706), ([.putfield 1667, .aload 0, .iconst 2000, .putfield 1673, .aload 0, .iconst 10, .putfield 1674, .aload 0, .iconst (-1), .putfield 1680, .aload 0, .iconst (-1), .putfield 1682, .aload 0, .jsr_w 4294967096, .jsr_w 1048583, .iload 1, .i2l, .lmul, .ladd, .l2i, .putfield 1664, .aload 0, .aload 0, .getfield 1664, .putfield 1665, .aload 0, .aload 0, .getfield 1664, .putfield 1666], .return_)]
def am_p129 : List Nat := [0, 14]
/-- X9_underWay -/
def am_k130 : List (List Instr × Instr) := [([.aload 0, .getfield 1666, .aload 0, .getfield 1665, .isub], .ireturn)]
def am_p130 : List Nat := [0]
/-- X9_sentBytes -/
def am_k131 : List (List Instr × Instr) := [([.aload 0, .getfield 1666, .aload 0, .getfield 1664, .isub, .iconst 1, .isub, .aload 0, .getfield 1678], .ifCond .eq 2), ([.iconst 1], .goto 3), ([.iconst 0], .nop), ([.isub, .istore 1, .iload 1], .ifCond .ge 5), ([.iconst 0], .goto 6), ([.iload 1], .nop), ([], .ireturn)]
def am_p131 : List Nat := [0, 18, 22, 23, 29, 33, 34]
/-- X9_acknowledgedBytes -/
def am_k132 : List (List Instr × Instr) := [([.aload 0, .getfield 1665, .aload 0, .getfield 1664, .isub, .iconst 1, .isub, .istore 1, .iload 1], .ifCond .ge 2), ([.iconst 0], .goto 3), ([.iload 1, .aload 0, .getfield 1668, .jsr 0], .nop), ([], .ireturn)]
def am_p132 : List Nat := [0, 16, 20, 28]
/-- X9_unsent -/
def am_k133 : List (List Instr × Instr) := [([.aload 0, .getfield 1668, .aload 0], .invokeinterface 131 833), ([.isub], .ireturn)]
def am_p133 : List Nat := [0, 8]
/-- X9_room -/
def am_k134 : List (List Instr × Instr) := [([.iconst 600, .aload 0, .getfield 1668, .aload 0], .invokeinterface 132 833), ([.isub, .isub], .ireturn)]
def am_p134 : List Nat := [0, 11]
/-- X9_noteSent -/
def am_k135 : List (List Instr × Instr) := [([.aload 0, .getfield 1665, .aload 0, .getfield 1666], .if_icmp .ne 2), ([.aload 0, .iload 2, .putfield 1675], .nop), ([.aload 0, .dup, .getfield 1666, .iload 1, .iadd, .putfield 1666], .return_)]
def am_p135 : List Nat := [0, 11, 16]
/-- X9_noteAcknowledged -/
def am_k136 : List (List Instr × Instr) := [([.aload 0, .iload 1, .putfield 1665, .aload 0, .iload 3, .putfield 1675, .aload 0, .iconst 0, .putfield 1677, .iload 2, .istore 4, .aload 0, .getfield 1672, .aload 0, .getfield 1673], .if_icmp .lt 5), ([.aload 0, .getfield 1672], .ifCond .le 3), ([.iconst 1, .iload 2, .iload 2, .imul, .aload 0, .getfield 1672, .idiv, .jsr 1], .goto 4), ([.iconst 1], .nop), ([.istore 4], .nop), ([.aload 0, .iconst 2000, .aload 0, .getfield 1672, .iload 4, .iadd, .jsr 0, .putfield 1672, .aload 0, .getfield 1680, .iconst (-1)], .if_icmp .eq 9), ([.iload 1, .aload 0, .getfield 1681], .invokeinterface 196 2), ([], .ifCond .ne 9), ([.aload 0, .iload 3, .aload 0, .getfield 1680, .isub], .invokeinterface 137 834), ([], .return_)]
def am_p136 : List Nat := [0, 29, 36, 51, 52, 54, 79, 87, 90, 100]
/-- X9_measure -/
def am_k137 : List (List Instr × Instr) := [([.aload 0, .iconst (-1), .putfield 1680, .aload 0, .getfield 1682, .iconst (-1)], .if_icmp .ne 2), ([.aload 0, .iconst 8, .iload 1, .imul, .putfield 1682, .aload 0, .iconst 2, .iload 1, .imul, .putfield 1683], .goto 4), ([.iload 1, .aload 0, .getfield 1682, .iconst 8, .idiv, .isub, .istore 2, .aload 0, .dup, .getfield 1682, .iload 2, .iadd, .putfield 1682, .aload 0, .dup, .getfield 1683, .iload 2], .invokeinterface 538 1), ([.aload 0, .getfield 1683, .iconst 4, .idiv, .isub, .iadd, .putfield 1683], .nop), ([.aload 0, .iconst 80, .iconst 4, .aload 0, .getfield 1682, .iconst 8, .idiv, .aload 0, .getfield 1683, .iadd, .jsr 1, .jsr 0, .putfield 1674], .return_)]
def am_p137 : List Nat := [0, 13, 31, 60, 71]
/-- X9_noteWindow -/
def am_k138 : List (List Instr × Instr) := [([.aload 0, .getfield 1670, .aload 1, .getfield 1540], .invokeinterface 196 2), ([], .ifCond .ne 5), ([.aload 0, .getfield 1670, .aload 1, .getfield 1540], .if_icmp .ne 6), ([.aload 1, .getfield 1541, .aload 0, .getfield 1671], .invokeinterface 196 2), ([], .ifCond .ne 6), ([.iconst 1], .goto 7), ([.iconst 0], .nop), ([.istore 2, .iload 2], .ifCond .eq 9), ([.aload 0, .aload 1], .invokeinterface 139 834), ([], .return_)]
def am_p138 : List Nat := [0, 11, 14, 25, 36, 39, 43, 44, 49, 54]
/-- X9_tellWindow -/
def am_k139 : List (List Instr × Instr) := [([.aload 0, .aload 1, .getfield 1543, .putfield 1669, .aload 0, .aload 1, .getfield 1540, .putfield 1670, .aload 0, .aload 1, .getfield 1541, .putfield 1671], .return_)]
def am_p139 : List Nat := [0]
/-- X9_lowerThreshold -/
def am_k140 : List (List Instr × Instr) := [([.aload 0, .aload 0], .invokeinterface 130 833), ([.iconst 2, .idiv, .iconst 2, .iload 1, .imul, .jsr 1, .putfield 1673], .return_)]
def am_p140 : List Nat := [0, 5]
/-- X10_init -/
def am_k141 : List (List Instr × Instr) := [([.aload 0, .invokedynamic 0, .aload 0, .iconst 100, .anewarray 206, .putfield 1792, .aload 0, .new 6, .dup], .invokeinterface 39 385), ([.putfield 1793, .aload 0, .new 6, .dup], .invokeinterface 39 385), ([.putfield 1794, .aload 0, .iconst 100, .anewarray 205, .putfield 1801, .iconst 0, .istore 1], .nop), ([.iload 1, .iconst 100], .if_icmp .ge 6), ([.aload 0, .getfield 1792, .iload 1, .new 6, .dup], .invokeinterface 39 385), ([.aastore, .iinc 1 1], .goto 3), ([.iconst 0, .istore 1], .nop), ([.iload 1, .iconst 100], .if_icmp .ge 10), ([.aload 0, .getfield 1801, .iload 1, .new 5, .dup], .invokeinterface 31 321), ([.aastore, .iinc 1 1], .goto 7), ([], .return_)]
def am_p141 : List Nat := [0, 21, 32, 46, 52, 64, 71, 73, 79, 91, 98]
/-- X10_open -/
def am_k142 : List (List Instr × Instr) := [([.aload 0, .dup, .getfield 1796, .iconst 1, .iadd, .putfield 1796, .aload 0, .getfield 1794, .astore 3, .aload 0, .getfield 1795, .iconst 100], .if_icmp .ge 2), ([.aload 0, .getfield 1792, .aload 0, .getfield 1795, .aaload, .astore 3, .aload 0, .dup, .getfield 1795, .iconst 1, .iadd, .putfield 1795], .goto 3), ([.aload 0, .dup, .getfield 1797, .iconst 1, .iadd, .putfield 1797], .nop), ([.aload 3, .getfield 768], .invokeinterface 106 705), ([.aload 3, .iload 1, .putfield 769, .aload 3, .iload 2, .putfield 771, .aload 3, .iconst 0, .putfield 770, .aload 3, .iconst (-1), .putfield 772, .aload 3], .areturn)]
def am_p142 : List Nat := [0, 24, 47, 57, 64]
/-- X10_takeOut -/
def am_k143 : List (List Instr × Instr) := [([.iload 1], .ifCond .lt 2), ([.iload 1, .aload 0, .getfield 1795], .if_icmp .lt 3), ([.aload 0, .getfield 1794], .areturn), ([.aload 0, .getfield 1792, .iload 1, .aaload, .astore 2, .iload 1, .iconst 1, .iadd, .istore 3], .nop), ([.iload 3, .aload 0, .getfield 1795], .if_icmp .ge 6), ([.aload 0, .getfield 1792, .iload 3, .iconst 1, .isub, .aload 0, .getfield 1792, .iload 3, .aaload, .aastore, .iinc 3 1], .goto 4), ([.aload 0, .dup, .getfield 1795, .iconst 1, .isub, .putfield 1795, .aload 0, .getfield 1792, .aload 0, .getfield 1795, .aload 0, .getfield 1793, .aastore, .aload 0, .aload 2, .putfield 1793, .aload 2], .areturn)]
def am_p143 : List Nat := [0, 4, 12, 17, 28, 36, 56]
/-- X10_loseOne -/
def am_k144 : List (List Instr × Instr) := [([.aload 0, .getfield 1795, .iconst 1], .if_icmp .ge 2), ([.iconst (-1)], .ireturn), ([.aload 0, .dup, .getfield 1797, .iconst 1, .iadd, .putfield 1797, .aload 0, .iload 1, .aload 0, .getfield 1795, .irem], .invokeinterface 143 898), ([.getfield 768], .invokeinterface 101 705), ([], .ireturn)]
def am_p144 : List Nat := [0, 8, 10, 30, 36]
/-- X10_doubleOne -/
def am_k145 : List (List Instr × Instr) := [([.aload 0, .getfield 1795, .iconst 1], .if_icmp .ge 2), ([.iconst (-1)], .ireturn), ([.aload 0, .getfield 1792, .iload 1, .aload 0, .getfield 1795, .irem, .aaload, .astore 2, .aload 0, .aload 2, .getfield 769, .aload 2, .getfield 771], .invokeinterface 142 899), ([.astore 3, .aload 3, .aload 2, .getfield 770, .putfield 770, .aload 3, .aload 2, .getfield 772, .putfield 772, .aload 3, .getfield 768, .aload 2, .getfield 768, .iconst 0, .aload 2, .getfield 768], .invokeinterface 101 705), ([], .invokeinterface 113 708), ([.aload 2, .getfield 768], .invokeinterface 101 705), ([], .ireturn)]
def am_p145 : List Nat := [0, 8, 10, 34, 67, 70, 77]
/-- X10_spoilOne -/
def am_k146 : List (List Instr × Instr) := [([.aload 0, .getfield 1795, .iconst 1], .if_icmp .ge 2), ([.iconst (-1)], .ireturn), ([.aload 0, .getfield 1792, .iload 1, .aload 0, .getfield 1795, .irem, .aaload, .astore 4, .aload 4, .getfield 768], .invokeinterface 101 705), ([.istore 5, .aload 4, .getfield 770], .ifCond .ne 6), ([.aload 4, .getfield 771], .ifCond .ne 6), ([.iload 5, .iconst 1], .if_icmp .ge 7), ([.iconst (-1)], .ireturn), ([.iload 2, .iload 5, .irem, .istore 6, .aload 4, .getfield 768, .iload 6, .aload 4, .getfield 768, .iload 6], .invokeinterface 102 706), ([.iload 3, .ixor], .invokeinterface 107 707), ([.aload 4, .iconst 1, .putfield 770, .aload 4, .iload 6, .putfield 772, .aload 0, .dup, .getfield 1799, .iconst 1, .iadd, .putfield 1799, .iload 6], .ireturn)]
def am_p146 : List Nat := [0, 8, 10, 31, 41, 49, 55, 57, 80, 85]
/-- X10_letter -/
def am_k147 : List (List Instr × Instr) := [([.aload 0, .getfield 1802, .iconst 100], .if_icmp .lt 2), ([.aload 0, .iconst 99, .putfield 1802], .nop), ([.aload 0, .getfield 1801, .aload 0, .getfield 1802, .aaload, .astore 4, .aload 4, .iload 1, .iload 2, .iload 3], .invokeinterface 32 324), ([.aload 0, .dup, .getfield 1802, .iconst 1, .iadd, .putfield 1802, .aload 4], .areturn)]
def am_p147 : List Nat := [0, 9, 15, 34]
/-- X10_layOut -/
def am_k148 : List (List Instr × Instr) := [([.aload 0, .aload 1, .getfield 640, .aload 1, .getfield 642, .aload 1, .getfield 643], .invokeinterface 147 900), ([.getfield 649, .aload 1, .getfield 649, .iconst 0, .aload 1, .getfield 649], .invokeinterface 101 705), ([], .invokeinterface 113 708), ([], .return_)]
def am_p148 : List Nat := [0, 16, 31, 34]
/-- X10_answerByReset -/
def am_k149 : List (List Instr × Instr) := [([.aload 0, .dup, .getfield 1804, .iconst 1, .iadd, .putfield 1804, .aload 0, .aload 1, .getfield 1537, .iconst 167772161, .isub, .aload 1, .getfield 1536, .iconst 6], .invokeinterface 147 900), ([.astore 2, .aload 2, .getfield 649, .astore 3, .aload 1, .iconst 16], .invokeinterface 126 770), ([.istore 4, .aload 1, .getfield 1547, .aload 1, .iconst 2], .invokeinterface 126 770), ([], .ifCond .eq 5), ([.iconst 1], .goto 6), ([.iconst 0], .nop), ([.iadd, .aload 1, .iconst 1], .invokeinterface 126 770), ([], .ifCond .eq 9), ([.iconst 1], .goto 10), ([.iconst 0], .nop), ([.iadd, .istore 5, .aload 3, .aload 1, .getfield 1539], .invokeinterface 110 706), ([.aload 3, .aload 1, .getfield 1538], .invokeinterface 110 706), ([.aload 3, .iload 4], .ifCond .eq 14), ([.aload 1, .getfield 1541], .goto 15), ([.iconst 0], .nop), ([], .invokeinterface 111 706), ([.aload 3, .iload 4], .ifCond .eq 18), ([.iconst 0], .goto 19), ([.aload 1, .getfield 1540, .iload 5, .iadd], .nop), ([], .invokeinterface 111 706), ([.aload 3, .iconst 20480, .iload 4], .ifCond .eq 22), ([.iconst 4], .goto 23), ([.iconst 20], .nop), ([.ior], .invokeinterface 110 706), ([.aload 3, .iconst 0], .invokeinterface 110 706), ([.aload 3, .iconst 0], .invokeinterface 111 706), ([.aload 2], .invokeinterface 36 321), ([], .return_)]
def am_p149 : List Nat := [0, 27, 39, 50, 53, 57, 58, 64, 67, 71, 72, 83, 91, 97, 104, 105, 108, 114, 118, 125, 128, 137, 141, 143, 147, 152, 157, 161]
/-- X10_wrongSums -/
def am_k150 : List (List Instr × Instr) := [([.iconst 0, .istore 1, .iconst 0, .istore 2], .nop), ([.iload 2, .aload 0, .getfield 1795], .if_icmp .ge 10), ([.aload 0, .getfield 1792, .iload 2, .aaload, .astore 3, .aload 3, .getfield 770], .ifCond .ne 9), ([.aload 3, .getfield 768, .iconst 12], .invokeinterface 103 706), ([.iconst 2048], .if_icmp .eq 6), ([], .goto 9), ([.aload 3, .getfield 768, .iconst 14, .iconst 34, .iconst 0], .invokeinterface 124 708), ([], .ifCond .eq 9), ([.iinc 1 1], .nop), ([.iinc 2 1], .goto 1), ([.iload 1], .ireturn)]
def am_p150 : List Nat := [0, 4, 12, 26, 35, 41, 44, 56, 59, 62, 68]
/-- X11_init -/
def am_k151 : List (List Instr × Instr) := [([.aload 0, .invokedynamic 0, .aload 0, .new 11, .dup, .iconst 400], .invokeinterface 100 706), ([.putfield 1920, .aload 0, .new 14, .dup], .invokeinterface 141 897), ([.putfield 1921, .aload 0, .new 3, .dup], .invokeinterface 502 193), ([.putfield 1922, .aload 0, .new 3, .dup], .invokeinterface 502 193), ([.putfield 1923, .aload 0, .new 3, .dup], .invokeinterface 502 193), ([.putfield 1924, .aload 0, .iconst 40, .newarray .boolean, .putfield 1925, .aload 0, .new 3, .dup], .invokeinterface 502 193), ([.putfield 1926, .aload 0, .iconst 40, .newarray .int, .putfield 1927, .aload 0, .new 11, .dup, .iconst 120], .invokeinterface 100 706), ([.putfield 1928, .aload 0, .new 5, .dup], .invokeinterface 31 321), ([.putfield 1929, .aload 0, .new 12, .dup], .invokeinterface 125 769), ([.putfield 1930, .aload 0, .new 8, .dup], .invokeinterface 59 513), ([.putfield 1931, .aload 0, .new 11, .dup, .iconst 64], .invokeinterface 100 706), ([.putfield 1932, .aload 0, .new 8, .dup], .invokeinterface 59 513), ([.putfield 1933, .aload 0, .new 9, .dup], .invokeinterface 77 577), ([.putfield 1934, .aload 0, .new 11, .dup, .iconst 64], .invokeinterface 100 706), ([.putfield 1935, .aload 0, .iconst 60, .newarray .int, .putfield 1936, .aload 0, .getfield 1922, .new 7, .dup, .iconst 0, .iconst 600, .iconst 500], .invokeinterface 40 452), ([], .invokeinterface 509 194), ([.pop], .return_)]
def am_p151 : List Nat := [0, 15, 26, 37, 48, 59, 78, 99, 110, 121, 132, 145, 156, 167, 180, 209, 212]
/-- X11_type -/
def am_k152 : List (List Instr × Instr) := [([.lload 1], .invokeinterface 197 1), ([.lload 3], .invokeinterface 197 1), ([.iadd, .lload 5], .invokeinterface 197 1), ([.iadd, .lload 7], .invokeinterface 197 1), ([.iadd, .lload 9], .invokeinterface 197 1), ([.iadd, .lload 11], .invokeinterface 197 1), ([.iadd, .istore 13, .aload 0, .getfield 1920], .invokeinterface 101 705), ([.iload 13, .iadd, .iconst 400], .if_icmp .le 9), ([], .multianewarray 0 51), ([.aload 0, .lload 1], .invokeinterface 198 962), ([.aload 0, .lload 3], .invokeinterface 198 962), ([.aload 0, .lload 5], .invokeinterface 198 962), ([.aload 0, .lload 7], .invokeinterface 198 962), ([.aload 0, .lload 9], .invokeinterface 198 962), ([.aload 0, .lload 11], .invokeinterface 198 962), ([.aload 0, .getfield 1920], .invokeinterface 101 705), ([], .ireturn)]
def am_p152 : List Nat := [0, 4, 8, 14, 20, 26, 32, 42, 51, 61, 66, 71, 77, 83, 89, 95, 102]
/-- X11_put -/
def am_k153 : List (List Instr × Instr) := [([.iload 1], .ifCond .lt 4), ([.iload 1, .iconst 255], .if_icmp .gt 4), ([.iload 2, .iconst 1], .if_icmp .lt 4), ([.iload 2, .iconst 300], .if_icmp .le 5), ([], .multianewarray 1 23), ([.aload 0, .getfield 1920], .invokeinterface 101 705), ([.iload 2, .iadd, .iconst 400], .if_icmp .le 8), ([], .multianewarray 0 48), ([.iconst 0, .istore 3], .nop), ([.iload 3, .iload 2], .if_icmp .ge 12), ([.aload 0, .getfield 1920, .iload 1], .invokeinterface 109 706), ([.iinc 3 1], .goto 9), ([.aload 0, .getfield 1920], .invokeinterface 101 705), ([], .ireturn)]
def am_p153 : List Nat := [0, 4, 11, 16, 23, 33, 40, 48, 58, 60, 65, 73, 79, 86]
/-- X11_piece -/
def am_k154 : List (List Instr × Instr) := [([.iload 1], .ifCond .lt 2), ([.iload 1, .iconst 5], .if_icmp .le 3), ([], .multianewarray 1 9), ([.iload 1], .invokeinterface 199 1), ([.astore 2, .aload 0, .getfield 1920], .invokeinterface 101 705), ([.aload 2], .invokeinterface 901 1), ([.iadd, .iconst 400], .if_icmp .le 8), ([], .multianewarray 0 42), ([.aload 0, .getfield 1920, .aload 2], .invokeinterface 115 706), ([.aload 0, .getfield 1920], .invokeinterface 101 705), ([], .ireturn)]
def am_p154 : List Nat := [0, 4, 9, 19, 23, 31, 35, 42, 52, 60, 67]
/-- X11_clear -/
def am_k155 : List (List Instr × Instr) := [([.aload 0, .getfield 1920], .invokeinterface 101 705), ([.istore 1, .aload 0, .getfield 1920], .invokeinterface 106 705), ([.iload 1], .ireturn)]
def am_p155 : List Nat := [0, 7, 15]
/-- X11_sum -/
def am_k156 : List (List Instr × Instr) := [([.iload 1], .ifCond .lt 4), ([.iload 2, .iload 1], .if_icmp .lt 4), ([.iload 2, .aload 0, .getfield 1920], .invokeinterface 101 705), ([], .if_icmp .le 5), ([], .multianewarray 2 20), ([.aload 0, .getfield 1920, .iload 1, .iload 2, .iconst 0], .invokeinterface 124 708), ([], .ireturn)]
def am_p156 : List Nat := [0, 4, 9, 17, 20, 30, 40]
/-- X11_addHost -/
def am_k157 : List (List Instr × Instr) := [([.iload 1, .iconst 100], .if_icmp .lt 4), ([.iload 1, .iconst 600], .if_icmp .gt 4), ([.iload 2, .iconst 40], .if_icmp .lt 4), ([.iload 2, .iconst 500], .if_icmp .le 5), ([], .multianewarray 1 26), ([.aload 0, .getfield 1922], .invokeinterface 505 193), ([.iconst 5], .if_icmp .lt 8), ([], .multianewarray 0 47), ([.aload 0, .getfield 1922, .new 7, .dup, .aload 0, .getfield 1922], .invokeinterface 505 193), ([.iload 1, .iload 2], .invokeinterface 40 452), ([], .invokeinterface 509 194), ([.pop, .aload 0, .getfield 1922], .invokeinterface 505 193), ([.iconst 1, .isub], .ireturn)]
def am_p157 : List Nat := [0, 6, 13, 19, 26, 36, 43, 47, 57, 72, 77, 80, 88]
/-- X11_setMtu -/
def am_k158 : List (List Instr × Instr) := [([.aload 0, .iload 1], .invokeinterface 191 962), ([], .ifCond .ne 3), ([], .multianewarray 2 8), ([.iload 2, .iconst 100], .if_icmp .lt 5), ([.iload 2, .iconst 600], .if_icmp .le 6), ([], .multianewarray 1 31), ([.aload 0, .getfield 1922, .iload 1], .invokeinterface 507 194), ([.checkcast 7, .astore 3, .aload 3, .getfield 897, .istore 4, .aload 3, .iload 2, .putfield 897, .iload 4], .ireturn)]
def am_p158 : List Nat := [0, 5, 8, 18, 24, 31, 41, 49]
/-- X11_hostAt -/
def am_k159 : List (List Instr × Instr) := [([.aload 0, .iload 1], .invokeinterface 191 962), ([], .ifCond .ne 3), ([], .multianewarray 2 8), ([.aload 0, .getfield 1922, .iload 1], .invokeinterface 507 194), ([.checkcast 7, .astore 3, .iload 2], .tableswitch 11 0 5 #[5, 6, 7, 8, 9, 10]), ([.aload 3, .getfield 903], .ireturn), ([.aload 3, .getfield 906], .ireturn), ([.aload 3, .getfield 909], .ireturn), ([.aload 3, .getfield 908], .ireturn), ([.aload 3, .getfield 910], .ireturn), ([.aload 3, .getfield 911], .ireturn), ([], .multianewarray 1 98)]
def am_p159 : List Nat := [0, 5, 8, 18, 26, 68, 73, 78, 83, 88, 93, 98]
/-- X11_tableAt -/
def am_k160 : List (List Instr × Instr) := [([.aload 0, .iload 1], .invokeinterface 191 962), ([], .ifCond .eq 4), ([.aload 0, .iload 2], .invokeinterface 191 962), ([], .ifCond .ne 5), ([], .multianewarray 2 16), ([.aload 0, .getfield 1922, .iload 1], .invokeinterface 507 194), ([.checkcast 7, .astore 3, .aload 3, .iconst 167772161, .iload 2, .iadd], .invokeinterface 41 450), ([.istore 4, .iload 4, .iconst (-1)], .if_icmp .ne 9), ([.iconst (-1)], .goto 11), ([.aload 3, .iload 4], .invokeinterface 42 450), ([.jsr_w 255, .land, .l2i], .nop), ([], .ireturn)]
def am_p160 : List Nat := [0, 5, 8, 13, 16, 26, 34, 46, 54, 58, 64, 69]
/-- X11_deliver -/
def am_k161 : List (List Instr × Instr) := [([.iload 1], .invokeinterface 193 1), ([], .ifCond .eq 3), ([], .multianewarray 1 7), ([.aload 0, .iload 1], .invokeinterface 204 962), ([], .ireturn)]
def am_p161 : List Nat := [0, 4, 7, 17, 22]
/-- X11_lose -/
def am_k162 : List (List Instr × Instr) := [([.iload 1], .invokeinterface 193 1), ([], .ifCond .eq 3), ([], .multianewarray 1 7), ([.aload 0, .getfield 1921, .iload 1], .invokeinterface 144 898), ([], .ireturn)]
def am_p162 : List Nat := [0, 4, 7, 17, 25]
/-- X11_twice -/
def am_k163 : List (List Instr × Instr) := [([.iload 1], .invokeinterface 193 1), ([], .ifCond .eq 3), ([], .multianewarray 1 7), ([.aload 0, .getfield 1921, .iload 1], .invokeinterface 145 898), ([], .ireturn)]
def am_p163 : List Nat := [0, 4, 7, 17, 25]
/-- X11_spoil -/
def am_k164 : List (List Instr × Instr) := [([.iload 1], .invokeinterface 193 1), ([], .ifCond .ne 6), ([.iload 2], .invokeinterface 193 1), ([], .ifCond .ne 6), ([.iload 3, .iconst 1], .if_icmp .lt 6), ([.iload 3, .iconst 255], .if_icmp .le 7), ([], .multianewarray 1 26), ([.aload 0, .getfield 1921, .iload 1, .iload 2, .iload 3], .invokeinterface 146 900), ([], .ireturn)]
def am_p164 : List Nat := [0, 4, 7, 11, 14, 19, 26, 36, 46]
/-- X11_frameAt -/
def am_k165 : List (List Instr × Instr) := [([.iload 1], .ifCond .lt 2), ([.iload 1, .aload 0, .getfield 1921, .getfield 1795], .if_icmp .lt 3), ([], .multianewarray 2 15), ([.aload 0, .getfield 1921, .getfield 1792, .iload 1, .aaload, .astore 3, .iload 2], .tableswitch 15 0 3 #[4, 6, 7, 11]), ([.aload 3, .getfield 768], .invokeinterface 101 705), ([], .ireturn), ([.aload 3, .getfield 769], .ireturn), ([.aload 3, .getfield 770], .ifCond .eq 9), ([.iconst 1], .goto 10), ([.iconst 0], .nop), ([], .ireturn), ([.aload 3, .getfield 771], .ifCond .eq 13), ([.iconst 1], .goto 14), ([.iconst 0], .nop), ([], .ireturn), ([], .multianewarray 1 107)]
def am_p165 : List Nat := [0, 4, 15, 25, 68, 75, 76, 81, 88, 92, 93, 94, 101, 105, 106, 107]
/-- X11_byteAt -/
def am_k166 : List (List Instr × Instr) := [([.iload 1], .ifCond .lt 2), ([.iload 1, .aload 0, .getfield 1921, .getfield 1795], .if_icmp .lt 3), ([], .multianewarray 2 15), ([.aload 0, .getfield 1921, .getfield 1792, .iload 1, .aaload, .getfield 768, .astore 3, .iload 2], .ifCond .lt 6), ([.iload 2, .aload 3], .invokeinterface 101 705), ([], .if_icmp .lt 7), ([], .multianewarray 2 50), ([.aload 3, .iload 2], .invokeinterface 102 706), ([], .ireturn)]
def am_p166 : List Nat := [0, 4, 15, 25, 42, 47, 50, 60, 65]
/-- X11_pass -/
def am_k167 : List (List Instr × Instr) := [([.iload 1, .iconst 1], .if_icmp .lt 2), ([.iload 1, .iconst 100], .if_icmp .le 3), ([], .multianewarray 1 11), ([.aload 0, .getfield 1921, .getfield 1800, .iload 1, .iadd, .iconst 20000], .if_icmp .le 5), ([], .multianewarray 0 36), ([.iconst 0, .istore 2], .nop), ([.iload 2, .iload 1], .if_icmp .ge 9), ([.aload 0], .invokeinterface 205 961), ([.iinc 2 1], .goto 6), ([.aload 0, .getfield 1921, .getfield 1800], .ireturn)]
def am_p167 : List Nat := [0, 5, 11, 21, 36, 47, 49, 54, 58, 64]
/-- X11_settle -/
def am_k168 : List (List Instr × Instr) := [([.iload 1, .iconst 1], .if_icmp .lt 2), ([.iload 1, .iconst 60], .if_icmp .le 3), ([], .multianewarray 1 11), ([.aload 0, .getfield 1921, .getfield 1800, .iload 1, .iadd, .iconst 20000], .if_icmp .le 5), ([], .multianewarray 0 37), ([.iconst 0, .istore 2, .iconst 0, .istore 3, .iconst 0, .istore 4], .nop), ([.iload 4, .iconst 560], .if_icmp .ge 18), ([.aload 0, .getfield 1921, .getfield 1795], .ifCond .le 11), ([.aload 0, .iconst 0], .invokeinterface 204 962), ([.pop, .iinc 2 1, .iload 2, .iconst 500], .if_icmp .ne 17), ([.iload 3], .ireturn), ([.iload 3, .iload 1], .if_icmp .ge 16), ([.aload 0], .invokeinterface 202 961), ([], .ifCond .eq 16), ([.aload 0], .invokeinterface 205 961), ([.iinc 3 1], .goto 17), ([.iload 3], .ireturn), ([.iinc 4 1], .goto 6), ([.iload 3], .ireturn)]
def am_p168 : List Nat := [0, 5, 11, 22, 37, 48, 55, 63, 73, 78, 89, 91, 96, 100, 103, 107, 113, 115, 121]
/-- X11_play -/
def am_k169 : List (List Instr × Instr) := [([.iload 2, .iconst 1], .if_icmp .lt 2), ([.iload 2, .iconst 200], .if_icmp .le 3), ([], .multianewarray 1 12), ([.aload 0, .getfield 1921, .getfield 1800, .iload 2, .iadd, .iconst 20000], .if_icmp .le 5), ([], .multianewarray 0 38), ([.iload 1, .istore 3, .iconst 0, .istore 4], .nop), ([.iload 4, .iload 2], .if_icmp .ge 30), ([.iload 3], .invokeinterface 194 1), ([.istore 3, .iload 3, .iconst 16], .invokeinterface 195 2), ([.istore 5, .iload 5, .iconst 13], .if_icmp .le 12), ([.aload 0], .invokeinterface 205 961), ([], .goto 29), ([.iload 3], .invokeinterface 194 1), ([.istore 3, .iload 3, .iconst 1000], .invokeinterface 195 2), ([.istore 6, .iload 5, .iconst 10], .if_icmp .gt 17), ([.aload 0, .iload 6], .invokeinterface 204 962), ([.pop], .goto 29), ([.iload 5, .iconst 11], .if_icmp .ne 20), ([.aload 0, .getfield 1921, .iload 6], .invokeinterface 144 898), ([.pop], .goto 29), ([.iload 5, .iconst 12], .if_icmp .ne 23), ([.aload 0, .getfield 1921, .iload 6], .invokeinterface 145 898), ([.pop], .goto 29), ([.iload 3], .invokeinterface 194 1), ([.istore 3, .iload 3, .iconst 1000], .invokeinterface 195 2), ([.istore 7, .iload 3], .invokeinterface 194 1), ([.istore 3, .aload 0, .getfield 1921, .iload 6, .iload 7, .iload 3, .iconst 255], .invokeinterface 195 2), ([.iconst 1, .iadd], .invokeinterface 146 900), ([.pop], .nop), ([.iinc 4 1], .goto 6), ([.aload 0, .getfield 1921, .getfield 1800], .ireturn)]
def am_p169 : List Nat := [0, 5, 12, 23, 38, 49, 54, 60, 64, 71, 80, 84, 87, 91, 99, 108, 114, 118, 125, 134, 138, 145, 154, 158, 162, 170, 176, 192, 197, 198, 204]
/-- X11_echo -/
def am_k170 : List (List Instr × Instr) := [([.aload 0, .iload 1], .invokeinterface 191 962), ([], .ifCond .eq 4), ([.aload 0, .iload 2], .invokeinterface 191 962), ([], .ifCond .ne 5), ([], .multianewarray 2 16), ([.iload 1, .iload 2], .if_icmp .eq 8), ([.iload 3], .ifCond .lt 8), ([.iload 3, .iconst 900], .if_icmp .le 9), ([], .multianewarray 1 42), ([.aload 0, .getfield 1924], .invokeinterface 505 193), ([.iconst 40], .if_icmp .lt 12), ([], .multianewarray 0 65), ([.aload 0, .getfield 1924], .invokeinterface 505 193), ([.istore 4, .new 5, .dup], .invokeinterface 31 321), ([.astore 5, .aload 5, .iload 1, .iconst 167772161, .iload 2, .iadd, .iconst 1], .invokeinterface 32 324), ([.aload 5, .getfield 649, .astore 6, .aload 6, .iconst 2048], .invokeinterface 110 706), ([.aload 6, .iconst 0], .invokeinterface 110 706), ([.aload 6, .iload 4], .invokeinterface 110 706), ([.aload 6, .iconst 7], .invokeinterface 110 706), ([.iconst 0, .istore 7], .nop), ([.iload 7, .iload 3], .if_icmp .ge 23), ([.aload 6, .iload 7, .iconst 255, .iand], .invokeinterface 109 706), ([.iinc 7 1], .goto 20), ([.aload 6, .iconst 2, .aload 6, .iconst 0, .aload 6], .invokeinterface 101 705), ([.iconst 0], .invokeinterface 124 708), ([], .invokeinterface 108 707), ([.aload 0, .getfield 1924, .aload 5], .invokeinterface 509 194), ([.pop, .aload 0, .getfield 1921, .aload 5], .invokeinterface 148 898), ([.aload 0], .invokeinterface 203 961), ([.iload 4], .ireturn)]
def am_p170 : List Nat := [0, 5, 8, 13, 16, 26, 31, 35, 42, 53, 60, 65, 76, 83, 92, 105, 120, 126, 133, 140, 143, 149, 160, 166, 177, 181, 184, 193, 203, 207]
/-- X11_isAnswered -/
def am_k171 : List (List Instr × Instr) := [([.iload 1], .ifCond .lt 3), ([.iload 1, .aload 0, .getfield 1924], .invokeinterface 505 193), ([], .if_icmp .lt 4), ([], .multianewarray 2 15), ([.aload 0, .getfield 1925, .iload 1, .baload], .ireturn)]
def am_p171 : List Nat := [0, 4, 12, 15, 26]
/-- X11_name -/
def am_k172 : List (List Instr × Instr) := [([.aload 0, .iload 1], .invokeinterface 191 962), ([], .ifCond .ne 3), ([], .multianewarray 2 8), ([.aload 0], .invokeinterface 211 961), ([.istore 2, .iload 2, .iconst (-1)], .if_icmp .ne 6), ([], .multianewarray 0 28), ([.aload 0, .aload 0, .getfield 1928, .iconst 0, .aload 0, .getfield 1928], .invokeinterface 101 705), ([], .invokeinterface 212 964), ([.istore 3, .iload 3, .iconst (-1)], .if_icmp .eq 11), ([.iload 3, .iload 1], .if_icmp .eq 11), ([], .multianewarray 0 66), ([.aload 0, .getfield 1922, .iload 1], .invokeinterface 507 194), ([.checkcast 7, .getfield 899, .astore 4, .aload 4], .invokeinterface 106 705), ([.aload 4, .aload 0, .getfield 1928, .iconst 0, .aload 0, .getfield 1928], .invokeinterface 101 705), ([], .invokeinterface 113 708), ([.aload 0, .getfield 1920], .invokeinterface 106 705), ([.iload 2], .ireturn)]
def am_p172 : List Nat := [0, 5, 8, 18, 22, 28, 39, 52, 55, 61, 66, 77, 85, 98, 112, 115, 122]
/-- X11_lookUp -/
def am_k173 : List (List Instr × Instr) := [([.aload 0, .iload 1], .invokeinterface 191 962), ([], .ifCond .ne 3), ([], .multianewarray 2 8), ([.iload 1], .ifCond .ne 5), ([], .multianewarray 1 22), ([.aload 0], .invokeinterface 211 961), ([.iconst (-1)], .if_icmp .ne 8), ([], .multianewarray 0 41), ([.aload 0, .getfield 1926], .invokeinterface 505 193), ([.iconst 40], .if_icmp .lt 11), ([], .multianewarray 0 64), ([.aload 0, .getfield 1926], .invokeinterface 505 193), ([.istore 2, .new 5, .dup], .invokeinterface 31 321), ([.astore 3, .aload 3, .iload 1, .iconst 167772161, .iconst 17], .invokeinterface 32 324), ([.aload 3, .getfield 649, .astore 4, .aload 4, .iconst 5000, .iload 2, .iadd], .invokeinterface 110 706), ([.aload 4, .iconst 53], .invokeinterface 110 706), ([.aload 4, .iconst 0], .invokeinterface 111 706), ([.aload 4, .iload 2], .invokeinterface 110 706), ([.aload 4, .iconst 256], .invokeinterface 110 706), ([.aload 4, .iconst 1], .invokeinterface 110 706), ([.aload 4, .iconst 0], .invokeinterface 110 706), ([.aload 4, .iconst 0], .invokeinterface 111 706), ([.aload 4, .aload 0, .getfield 1928, .iconst 0, .aload 0, .getfield 1928], .invokeinterface 101 705), ([], .invokeinterface 113 708), ([.aload 4, .iconst 1], .invokeinterface 110 706), ([.aload 4, .iconst 1], .invokeinterface 110 706), ([.aload 3], .invokeinterface 35 321), ([.aload 0, .getfield 1927, .iload 2, .iconst (-1), .iastore, .aload 0, .getfield 1926, .aload 3], .invokeinterface 509 194), ([.pop, .aload 0, .getfield 1920], .invokeinterface 106 705), ([.aload 0, .getfield 1921, .aload 3], .invokeinterface 148 898), ([.aload 0], .invokeinterface 203 961), ([.iload 2], .ireturn)]
def am_p173 : List Nat := [0, 5, 8, 18, 22, 33, 37, 41, 52, 59, 64, 75, 82, 90, 100, 116, 123, 129, 135, 143, 149, 155, 161, 175, 178, 184, 190, 194, 209, 217, 225, 229]
/-- X11_askAgain -/
def am_k174 : List (List Instr × Instr) := [([.iload 1], .ifCond .lt 3), ([.iload 1, .aload 0, .getfield 1926], .invokeinterface 505 193), ([], .if_icmp .lt 4), ([], .multianewarray 2 15), ([.aload 0, .getfield 1927, .iload 1, .iaload, .iconst (-1)], .if_icmp .eq 6), ([], .multianewarray 0 36), ([.aload 0, .getfield 1921, .aload 0, .getfield 1926, .iload 1], .invokeinterface 507 194), ([.checkcast 5], .invokeinterface 148 898), ([.aload 0], .invokeinterface 203 961), ([], .return_)]
def am_p174 : List Nat := [0, 4, 12, 15, 26, 36, 47, 59, 65, 69]
/-- X11_found -/
def am_k175 : List (List Instr × Instr) := [([.iload 1], .ifCond .lt 3), ([.iload 1, .aload 0, .getfield 1926], .invokeinterface 505 193), ([], .if_icmp .lt 4), ([], .multianewarray 2 15), ([.aload 0, .getfield 1927, .iload 1, .iaload], .ireturn)]
def am_p175 : List Nat := [0, 4, 12, 15, 26]
/-- X11_connect -/
def am_k176 : List (List Instr × Instr) := [([.aload 0, .iload 1], .invokeinterface 191 962), ([], .ifCond .eq 4), ([.aload 0, .iload 2], .invokeinterface 191 962), ([], .ifCond .ne 5), ([], .multianewarray 2 16), ([.iload 1], .ifCond .eq 9), ([.iload 1, .iload 2], .if_icmp .eq 9), ([.iload 3, .iconst 1], .if_icmp .lt 9), ([.iload 3, .iconst 65535], .if_icmp .le 10), ([], .multianewarray 1 47), ([.aload 0, .getfield 1923], .invokeinterface 505 193), ([.istore 4, .iload 4, .iconst 60], .if_icmp .lt 13), ([], .multianewarray 0 74), ([.new 4, .dup, .iload 4, .aload 0, .getfield 1922, .iload 1], .invokeinterface 507 194), ([.checkcast 7, .iconst 167772161, .iload 2, .iadd, .iload 3, .aload 0, .getfield 1921], .invokeinterface 0 262), ([.astore 5, .aload 0, .getfield 1923, .aload 5], .invokeinterface 509 194), ([.pop, .aload 5], .invokeinterface 5 257), ([.aload 0], .invokeinterface 203 961), ([.iload 4], .ireturn)]
def am_p176 : List Nat := [0, 5, 8, 13, 16, 26, 30, 35, 40, 47, 58, 65, 74, 85, 99, 114, 125, 131, 135]
/-- X11_write -/
def am_k177 : List (List Instr × Instr) := [([.aload 0, .iload 1], .invokeinterface 192 962), ([], .ifCond .ne 3), ([], .multianewarray 2 8), ([.aload 0, .getfield 1923, .iload 1], .invokeinterface 507 194), ([.checkcast 4, .astore 2, .aload 2], .invokeinterface 1 257), ([], .ifCond .ne 8), ([.aload 2], .invokeinterface 2 257), ([], .ifCond .ne 9), ([], .multianewarray 0 45), ([.aload 2, .aload 0, .getfield 1920], .invokeinterface 25 258), ([.istore 3, .aload 0, .getfield 1920, .iload 3], .invokeinterface 117 706), ([.aload 2], .invokeinterface 13 257), ([.aload 0], .invokeinterface 203 961), ([.iload 3], .ireturn)]
def am_p177 : List Nat := [0, 5, 8, 19, 27, 35, 38, 42, 45, 56, 64, 73, 77, 81]
/-- X11_read -/
def am_k178 : List (List Instr × Instr) := [([.aload 0, .iload 1], .invokeinterface 192 962), ([], .ifCond .ne 3), ([], .multianewarray 2 8), ([.iload 2, .iconst 1], .if_icmp .lt 5), ([.iload 2, .iconst 300], .if_icmp .le 6), ([], .multianewarray 1 31), ([.aload 0, .getfield 1923, .iload 1], .invokeinterface 507 194), ([.checkcast 4, .astore 3, .aload 3], .invokeinterface 1 257), ([], .ifCond .eq 10), ([], .multianewarray 0 61), ([.aload 3, .iload 2], .invokeinterface 28 258), ([.istore 4, .aload 3], .invokeinterface 13 257), ([.aload 0], .invokeinterface 203 961), ([.iload 4], .ifCond .ne 17), ([.aload 3], .invokeinterface 29 257), ([], .ifCond .eq 17), ([.iconst (-1)], .goto 18), ([.iload 4], .nop), ([], .ireturn)]
def am_p178 : List Nat := [0, 5, 8, 19, 24, 31, 42, 50, 58, 61, 72, 77, 83, 87, 92, 96, 99, 103, 105]
/-- X11_readAt -/
def am_k179 : List (List Instr × Instr) := [([.aload 0, .iload 1], .invokeinterface 192 962), ([], .ifCond .ne 3), ([], .multianewarray 2 8), ([.aload 0, .getfield 1923, .iload 1], .invokeinterface 507 194), ([.checkcast 4, .getfield 519, .astore 3, .iload 2], .ifCond .lt 6), ([.iload 2, .aload 3, .getfield 1283], .if_icmp .lt 7), ([], .multianewarray 2 46), ([.aload 3, .getfield 1282, .iload 2], .invokeinterface 102 706), ([], .ireturn)]
def am_p179 : List Nat := [0, 5, 8, 19, 27, 38, 46, 56, 64]
/-- X11_close -/
def am_k180 : List (List Instr × Instr) := [([.aload 0, .iload 1], .invokeinterface 192 962), ([], .ifCond .ne 3), ([], .multianewarray 2 8), ([.aload 0, .getfield 1923, .iload 1], .invokeinterface 507 194), ([.checkcast 4, .astore 3, .aload 3], .invokeinterface 1 257), ([], .ifCond .ne 10), ([.aload 3, .getfield 523], .ifCond .eq 10), ([.iload 2], .ifCond .ne 11), ([.aload 3], .invokeinterface 2 257), ([], .ifCond .ne 11), ([], .multianewarray 0 56), ([.iload 2], .ifCond .eq 14), ([.aload 3], .invokeinterface 8 257), ([], .goto 15), ([.aload 3], .invokeinterface 7 257), ([.aload 3], .invokeinterface 13 257), ([.aload 0], .invokeinterface 203 961), ([.aload 3, .getfield 523], .ireturn)]
def am_p180 : List Nat := [0, 5, 8, 19, 27, 35, 38, 45, 49, 53, 56, 67, 71, 75, 78, 82, 86, 90]
/-- X11_connectionAt -/
def am_k181 : List (List Instr × Instr) := [([.aload 0, .iload 1], .invokeinterface 192 962), ([], .ifCond .ne 3), ([], .multianewarray 2 8), ([.iload 2], .ifCond .lt 5), ([.iload 2, .iconst 18], .if_icmp .le 6), ([], .multianewarray 1 29), ([.aload 0, .getfield 1923, .iload 1], .invokeinterface 507 194), ([.checkcast 4, .iload 2], .invokeinterface 30 258), ([], .ireturn)]
def am_p181 : List Nat := [0, 5, 8, 19, 23, 29, 40, 48, 55]
/-- X11_fileAt -/
def am_k182 : List (List Instr × Instr) := [([.iload 1], .ifCond .lt 2), ([.iload 1, .aload 0, .getfield 1931, .getfield 1027], .if_icmp .lt 3), ([], .multianewarray 2 15), ([.iload 2], .tableswitch 9 0 2 #[4, 6, 7]), ([.aload 0, .getfield 1931, .getfield 1025, .iload 1, .aaload], .invokeinterface 101 705), ([], .ireturn), ([.aload 0, .getfield 1931, .getfield 1026, .iload 1, .iaload], .ireturn), ([.aload 0, .getfield 1931, .getfield 1024, .iload 1, .aaload], .invokeinterface 101 705), ([], .ireturn), ([], .multianewarray 1 88)]
def am_p182 : List Nat := [0, 4, 15, 26, 52, 64, 65, 75, 87, 88]
/-- X11_fileByteAt -/
def am_k183 : List (List Instr × Instr) := [([.iload 1], .ifCond .lt 2), ([.iload 1, .aload 0, .getfield 1931, .getfield 1027], .if_icmp .lt 3), ([], .multianewarray 2 15), ([.iload 2], .ifCond .eq 5), ([.aload 0, .getfield 1931, .getfield 1024, .iload 1, .aaload], .goto 6), ([.aload 0, .getfield 1931, .getfield 1025, .iload 1, .aaload], .nop), ([.astore 4, .iload 3], .ifCond .lt 9), ([.iload 3, .aload 4], .invokeinterface 101 705), ([], .if_icmp .lt 10), ([], .multianewarray 2 66), ([.aload 4, .iload 3], .invokeinterface 102 706), ([], .ireturn)]
def am_p183 : List Nat := [0, 4, 15, 26, 30, 42, 51, 57, 63, 66, 76, 82]
/-- X11_servedAt -/
def am_k184 : List (List Instr × Instr) := [([.iload 1], .ifCond .lt 3), ([.iload 1, .aload 0], .invokeinterface 220 961), ([], .if_icmp .lt 4), ([], .multianewarray 2 12), ([.iload 2], .ifCond .lt 6), ([.iload 2, .iconst 6], .if_icmp .le 7), ([], .multianewarray 1 33), ([.aload 0, .iload 1, .iload 2], .invokeinterface 221 963), ([], .ireturn)]
def am_p184 : List Nat := [0, 4, 9, 12, 23, 27, 33, 44, 50]
/-- X11_answerAt -/
def am_k185 : List (List Instr × Instr) := [([.iload 1], .ifCond .lt 3), ([.iload 1, .aload 0], .invokeinterface 220 961), ([], .if_icmp .lt 4), ([], .multianewarray 2 12), ([.iload 2], .ifCond .lt 7), ([.iload 2, .aload 0, .iload 1, .iconst 3], .invokeinterface 221 963), ([], .if_icmp .lt 8), ([], .multianewarray 2 37), ([.aload 0, .iload 1, .iconst 0], .invokeinterface 221 963), ([.istore 3, .aload 0, .iload 3], .invokeinterface 192 962), ([], .ifCond .ne 12), ([], .multianewarray 2 62), ([.aload 0, .getfield 1923, .iload 3], .invokeinterface 507 194), ([.checkcast 4, .getfield 518, .getfield 1667, .aload 0, .iload 1, .iconst 7], .invokeinterface 221 963), ([.iload 2, .iadd], .invokeinterface 102 706), ([], .ireturn)]
def am_p185 : List Nat := [0, 4, 9, 12, 23, 27, 34, 37, 47, 53, 59, 62, 73, 81, 97, 102]
/-- X11_count -/
def am_k186 : List (List Instr × Instr) := [([.iload 1], .tableswitch 24 0 15 #[1, 2, 4, 5, 6, 7, 8, 10, 12, 13, 14, 16, 18, 19, 20, 22]), ([.aload 0, .getfield 1921, .getfield 1800], .ireturn), ([.aload 0, .getfield 1922], .invokeinterface 505 193), ([], .ireturn), ([.aload 0, .getfield 1921, .getfield 1795], .ireturn), ([.aload 0, .getfield 1921, .getfield 1796], .ireturn), ([.aload 0, .getfield 1921, .getfield 1797], .ireturn), ([.aload 0, .getfield 1921, .getfield 1799], .ireturn), ([.aload 0, .getfield 1923], .invokeinterface 505 193), ([], .ireturn), ([.aload 0, .iconst 0], .invokeinterface 201 962), ([], .ireturn), ([.aload 0, .getfield 1931, .getfield 1027], .ireturn), ([.aload 0, .getfield 1931, .getfield 1028], .ireturn), ([.aload 0], .invokeinterface 220 961), ([], .ireturn), ([.aload 0], .invokeinterface 222 961), ([], .ireturn), ([.aload 0, .getfield 1921, .getfield 1803], .ireturn), ([.aload 0, .getfield 1921, .getfield 1804], .ireturn), ([.aload 0], .invokeinterface 200 961), ([], .ireturn), ([.aload 0, .getfield 1920], .invokeinterface 101 705), ([], .ireturn), ([], .multianewarray 1 197)]
def am_p186 : List Nat := [0, 80, 88, 95, 96, 104, 112, 120, 128, 135, 136, 141, 142, 150, 158, 162, 163, 167, 168, 176, 184, 188, 189, 196, 197]
/-- X11_agrees -/
def am_k187 : List (List Instr × Instr) := [([.aload 0, .getfield 1933], .invokeinterface 60 513), ([.iconst 0, .istore 1], .nop), ([.iload 1, .iconst 60], .if_icmp .ge 4), ([.aload 0, .getfield 1936, .iload 1, .iconst 0, .iastore, .iinc 1 1], .goto 2), ([.aload 0], .invokeinterface 220 961), ([.istore 1, .iconst 0, .istore 2], .nop), ([.iload 2, .iload 1], .if_icmp .ge 11), ([.aload 0, .iload 2], .invokeinterface 223 962), ([], .ifCond .ne 10), ([.iconst 0], .ireturn), ([.iinc 2 1], .goto 6), ([.aload 0, .getfield 1931, .aload 0, .getfield 1933], .invokeinterface 61 514), ([], .ireturn)]
def am_p187 : List Nat := [0, 7, 9, 15, 28, 32, 35, 40, 45, 48, 50, 56, 67]
/-- X11_errors -/
def am_k188 : List (List Instr × Instr) := [([.aload 0, .getfield 1921, .getfield 1805, .aload 0, .getfield 1921], .invokeinterface 150 897), ([.iadd, .istore 1, .aload 0, .getfield 1921, .getfield 1796, .aload 0, .getfield 1921, .getfield 1798, .aload 0, .getfield 1921, .getfield 1797, .iadd, .aload 0, .getfield 1921, .getfield 1795, .iadd], .if_icmp .eq 3), ([.iinc 1 1], .nop), ([.iconst 0, .istore 2], .nop), ([.iload 2, .aload 0, .getfield 1923], .invokeinterface 505 193), ([], .if_icmp .ge 11), ([.aload 0, .aload 0, .getfield 1923, .iload 2], .invokeinterface 507 194), ([.checkcast 4], .invokeinterface 224 962), ([], .ifCond .eq 10), ([.iinc 1 1], .nop), ([.iinc 2 1], .goto 4), ([.iload 1], .ireturn)]
def am_p188 : List Nat := [0, 14, 49, 52, 54, 62, 65, 74, 80, 83, 86, 92]
/-- X11_deliveredShare -/
def am_k189 : List (List Instr × Instr) := [([.aload 0, .getfield 1921, .getfield 1796], .ifCond .gt 2), ([.dconst 0], .dreturn), ([.aload 0, .getfield 1921, .getfield 1798, .i2d, .aload 0, .getfield 1921, .getfield 1796, .i2d, .ddiv], .dreturn)]
def am_p189 : List Nat := [0, 10, 12]
def am_cds1_0 : List am_Cd := [(83, am_k83, am_p83, []), (84, am_k84, am_p84, []), (85, am_k85, am_p85, []), (86, am_k86, am_p86, []), (87, am_k87, am_p87, []), (88, am_k88, am_p88, []), (89, am_k89, am_p89, []), (90, am_k90, am_p90, []), (91, am_k91, am_p91, []), (92, am_k92, am_p92, []), (93, am_k93, am_p93, []), (94, am_k94, am_p94, []), (95, am_k95, am_p95, []), (96, am_k96, am_p96, [])]
theorem am_ckL1_0 : am_cds1_0.all am_ckL = true := by decide +kernel
def am_cds1_1 : List am_Cd := [(97, am_k97, am_p97, []), (98, am_k98, am_p98, []), (99, am_k99, am_p99, []), (100, am_k100, am_p100, []), (101, am_k101, am_p101, []), (102, am_k102, am_p102, []), (103, am_k103, am_p103, []), (104, am_k104, am_p104, []), (105, am_k105, am_p105, []), (106, am_k106, am_p106, []), (107, am_k107, am_p107, []), (108, am_k108, am_p108, []), (109, am_k109, am_p109, []), (110, am_k110, am_p110, []), (111, am_k111, am_p111, []), (112, am_k112, am_p112, []), (113, am_k113, am_p113, []), (114, am_k114, am_p114, []), (115, am_k115, am_p115, []), (116, am_k116, am_p116, []), (117, am_k117, am_p117, [])]
theorem am_ckL1_1 : am_cds1_1.all am_ckL = true := by decide +kernel
def am_cds1_2 : List am_Cd := [(118, am_k118, am_p118, []), (119, am_k119, am_p119, []), (120, am_k120, am_p120, []), (121, am_k121, am_p121, []), (122, am_k122, am_p122, []), (123, am_k123, am_p123, []), (124, am_k124, am_p124, []), (125, am_k125, am_p125, []), (126, am_k126, am_p126, []), (127, am_k127, am_p127, []), (128, am_k128, am_p128, []), (129, am_k129, am_p129, []), (130, am_k130, am_p130, []), (131, am_k131, am_p131, []), (132, am_k132, am_p132, []), (133, am_k133, am_p133, []), (134, am_k134, am_p134, []), (135, am_k135, am_p135, []), (136, am_k136, am_p136, [])]
theorem am_ckL1_2 : am_cds1_2.all am_ckL = true := by decide +kernel
def am_cds1_3 : List am_Cd := [(137, am_k137, am_p137, []), (138, am_k138, am_p138, []), (139, am_k139, am_p139, []), (140, am_k140, am_p140, []), (141, am_k141, am_p141, []), (142, am_k142, am_p142, []), (143, am_k143, am_p143, []), (144, am_k144, am_p144, []), (145, am_k145, am_p145, []), (146, am_k146, am_p146, []), (147, am_k147, am_p147, []), (148, am_k148, am_p148, []), (149, am_k149, am_p149, []), (150, am_k150, am_p150, []), (151, am_k151, am_p151, [])]
theorem am_ckL1_3 : am_cds1_3.all am_ckL = true := by decide +kernel
def am_cds1_4 : List am_Cd := [(152, am_k152, am_p152, []), (153, am_k153, am_p153, []), (154, am_k154, am_p154, []), (155, am_k155, am_p155, []), (156, am_k156, am_p156, []), (157, am_k157, am_p157, []), (158, am_k158, am_p158, []), (159, am_k159, am_p159, []), (160, am_k160, am_p160, []), (161, am_k161, am_p161, []), (162, am_k162, am_p162, []), (163, am_k163, am_p163, []), (164, am_k164, am_p164, []), (165, am_k165, am_p165, []), (166, am_k166, am_p166, []), (167, am_k167, am_p167, []), (168, am_k168, am_p168, []), (169, am_k169, am_p169, []), (170, am_k170, am_p170, []), (171, am_k171, am_p171, [])]
theorem am_ckL1_4 : am_cds1_4.all am_ckL = true := by decide +kernel
def am_cds1_5 : List am_Cd := [(172, am_k172, am_p172, []), (173, am_k173, am_p173, []), (174, am_k174, am_p174, []), (175, am_k175, am_p175, []), (176, am_k176, am_p176, []), (177, am_k177, am_p177, []), (178, am_k178, am_p178, []), (179, am_k179, am_p179, []), (180, am_k180, am_p180, []), (181, am_k181, am_p181, []), (182, am_k182, am_p182, []), (183, am_k183, am_p183, []), (184, am_k184, am_p184, []), (185, am_k185, am_p185, []), (186, am_k186, am_p186, []), (187, am_k187, am_p187, []), (188, am_k188, am_p188, []), (189, am_k189, am_p189, [])]
theorem am_ckL1_5 : am_cds1_5.all am_ckL = true := by decide +kernel
def am_cds1 : List am_Cd := am_cds1_0 ++ (am_cds1_1 ++ (am_cds1_2 ++ (am_cds1_3 ++ (am_cds1_4 ++ (am_cds1_5)))))
theorem am_ckL1 : am_cds1.all am_ckL = true := by simp only [am_cds1, List.all_append, am_ckL1_0, am_ckL1_1, am_ckL1_2, am_ckL1_3, am_ckL1_4, am_ckL1_5, Bool.and_self]
end
section
/-! THE CODE, by program: part 2 -/
/-- X11_meanAnswer -/
def am_k190 : List (List Instr × Instr) := [([.aload 0], .invokeinterface 220 961), ([.istore 1, .iload 1], .ifCond .gt 3), ([.fconst 0], .freturn), ([.iconst 0, .istore 2, .iconst 0, .istore 3], .nop), ([.iload 3, .iload 1], .if_icmp .ge 7), ([.iload 2, .aload 0, .iload 3, .iconst 3], .invokeinterface 221 963), ([.iadd, .istore 2, .iinc 3 1], .goto 4), ([.iload 2, .i2f, .iload 1, .i2f, .fdiv], .freturn)]
def am_p190 : List Nat := [0, 4, 9, 11, 15, 20, 27, 35]
/-- X11_hasHost -/
def am_k191 : List (List Instr × Instr) := [([.iload 1], .ifCond .lt 4), ([.iload 1, .aload 0, .getfield 1922], .invokeinterface 505 193), ([], .if_icmp .ge 4), ([.iconst 1], .goto 5), ([.iconst 0], .nop), ([], .ireturn)]
def am_p191 : List Nat := [0, 4, 12, 15, 19, 20]
/-- X11_hasConnection -/
def am_k192 : List (List Instr × Instr) := [([.iload 1], .ifCond .lt 4), ([.iload 1, .aload 0, .getfield 1923], .invokeinterface 505 193), ([], .if_icmp .ge 4), ([.iconst 1], .goto 5), ([.iconst 0], .nop), ([], .ireturn)]
def am_p192 : List Nat := [0, 4, 12, 15, 19, 20]
/-- X11_isNoChoice -/
def am_k193 : List (List Instr × Instr) := [([.iload 0], .ifCond .lt 2), ([.iload 0, .iconst 1000], .if_icmp .le 3), ([.iconst 1], .goto 4), ([.iconst 0], .nop), ([], .ireturn)]
def am_p193 : List Nat := [0, 4, 11, 15, 16]
/-- X11_nextSeed -/
def am_k194 : List (List Instr × Instr) := [([.iload 0, .iconst 1103515245, .imul, .iconst 12345, .iadd], .ireturn)]
def am_p194 : List Nat := [0]
/-- X11_draw -/
def am_k195 : List (List Instr × Instr) := [([.iload 1, .iconst 1], .if_icmp .ge 2), ([.iconst 0], .goto 3), ([.iload 0, .iconst 16, .iushr, .iload 1, .irem], .nop), ([], .ireturn)]
def am_p195 : List Nat := [0, 5, 9, 15]
/-- X11_isAhead -/
def am_k196 : List (List Instr × Instr) := [([.iload 1, .iload 0, .isub], .ifCond .le 2), ([.iconst 1], .goto 3), ([.iconst 0], .nop), ([], .ireturn)]
def am_p196 : List Nat := [0, 6, 10, 11]
/-- X11_bytesIn -/
def am_k197 : List (List Instr × Instr) := [([.iconst 0, .istore 2, .iconst 56, .istore 3], .nop), ([.iload 3], .ifCond .lt 5), ([.lload 0, .iload 3, .lushr, .jsr_w 255, .land, .jsr_w 0, .lcmp], .ifCond .eq 4), ([.iinc 2 1], .nop), ([.iinc 3 (-8)], .goto 1), ([.iload 2], .ireturn)]
def am_p197 : List Nat := [0, 5, 9, 21, 24, 30]
/-- X11_typeNumber -/
def am_k198 : List (List Instr × Instr) := [([.iconst 56, .istore 3], .nop), ([.iload 3], .ifCond .lt 5), ([.lload 1, .iload 3, .lushr, .jsr_w 255, .land, .l2i, .istore 4, .iload 4], .ifCond .eq 4), ([.aload 0, .getfield 1920, .iload 4], .invokeinterface 109 706), ([.iinc 3 (-8)], .goto 1), ([], .return_)]
def am_p198 : List Nat := [0, 3, 7, 22, 31, 37]
/-- X11_pieceText -/
def am_k199 : List (List Instr × Instr) := [([.iload 0], .tableswitch 6 0 4 #[1, 2, 3, 4, 5]), ([.ldc 49], .areturn), ([.ldc 50], .areturn), ([.ldc 51], .areturn), ([.ldc 52], .areturn), ([.ldc 53], .areturn), ([.ldc 54], .areturn)]
def am_p199 : List Nat := [0, 36, 40, 44, 48, 52, 56]
/-- X11_answeredEchoes -/
def am_k200 : List (List Instr × Instr) := [([.iconst 0, .istore 1, .iconst 0, .istore 2], .nop), ([.iload 2, .iconst 40], .if_icmp .ge 5), ([.aload 0, .getfield 1925, .iload 2, .baload], .ifCond .eq 4), ([.iinc 1 1], .nop), ([.iinc 2 1], .goto 1), ([.iload 1], .ireturn)]
def am_p200 : List Nat := [0, 4, 10, 19, 22, 28]
/-- X11_openMany -/
def am_k201 : List (List Instr × Instr) := [([.iconst 0, .istore 2, .iconst 0, .istore 3], .nop), ([.iload 3, .aload 0, .getfield 1923], .invokeinterface 505 193), ([], .if_icmp .ge 10), ([.aload 0, .getfield 1923, .iload 3], .invokeinterface 507 194), ([.checkcast 4, .astore 4, .aload 4, .getfield 523], .ifCond .eq 9), ([.iload 1], .ifCond .eq 8), ([.aload 4], .invokeinterface 1 257), ([], .ifCond .eq 9), ([.iinc 2 1], .nop), ([.iinc 3 1], .goto 1), ([.iload 2], .ireturn)]
def am_p201 : List Nat := [0, 4, 12, 15, 23, 36, 40, 45, 48, 51, 57]
/-- X11_isTimerRunning -/
def am_k202 : List (List Instr × Instr) := [([.iconst 0, .istore 1], .nop), ([.iload 1, .aload 0, .getfield 1923], .invokeinterface 505 193), ([], .if_icmp .ge 8), ([.aload 0, .getfield 1923, .iload 1], .invokeinterface 507 194), ([.checkcast 4], .invokeinterface 4 257), ([], .ifCond .eq 7), ([.iconst 1], .ireturn), ([.iinc 1 1], .goto 1), ([.iconst 0], .ireturn)]
def am_p202 : List Nat := [0, 2, 10, 13, 21, 27, 30, 32, 38]
/-- X11_postAll -/
def am_k203 : List (List Instr × Instr) := [([.iconst 0, .istore 1], .nop), ([.iload 1, .aload 0, .getfield 1921, .getfield 1802], .if_icmp .ge 7), ([.aload 0, .getfield 1921, .getfield 1801, .iload 1, .aaload, .astore 2, .aload 0, .aload 2, .getfield 640], .invokeinterface 191 962), ([], .ifCond .eq 6), ([.aload 0, .getfield 1922, .aload 2, .getfield 640], .invokeinterface 507 194), ([.checkcast 7, .aload 2, .aload 0, .getfield 1921], .invokeinterface 45 451), ([.iinc 1 1], .goto 1), ([.aload 0, .getfield 1921, .iconst 0, .putfield 1802], .return_)]
def am_p203 : List Nat := [0, 2, 13, 31, 34, 45, 56, 62]
/-- X11_carryOne -/
def am_k204 : List (List Instr × Instr) := [([.aload 0, .getfield 1921, .getfield 1795, .iconst 1], .if_icmp .ge 2), ([.iconst (-1)], .ireturn), ([.aload 0, .getfield 1921, .iload 1, .aload 0, .getfield 1921, .getfield 1795, .irem], .invokeinterface 143 898), ([.astore 2, .aload 0, .getfield 1921, .dup, .getfield 1798, .iconst 1, .iadd, .putfield 1798, .aload 2, .getfield 768, .iconst 0], .invokeinterface 105 706), ([.lstore 3, .iconst 0, .istore 5, .iconst 0, .istore 6], .nop), ([.iload 6, .aload 0, .getfield 1922], .invokeinterface 505 193), ([], .if_icmp .ge 26), ([.lload 3, .jsr_w 2199023255553, .iload 6, .i2l, .ladd, .lcmp], .ifCond .eq 11), ([.lload 3, .jsr_w 281474976710655, .lcmp], .ifCond .ne 25), ([.iload 6, .aload 2, .getfield 769], .if_icmp .ne 11), ([], .goto 25), ([.iinc 5 1, .aload 0, .getfield 1922, .iload 6], .invokeinterface 507 194), ([.checkcast 7, .astore 7, .aload 7, .aload 2, .aload 0, .getfield 1921, .getfield 1800, .aload 0, .getfield 1929], .invokeinterface 52 452), ([.istore 8, .iload 8, .iconst 1], .if_icmp .ne 15), ([.aload 7, .aload 2, .aload 0, .getfield 1921], .invokeinterface 51 451), ([.iload 8, .iconst 2], .if_icmp .ne 25), ([.aload 0, .getfield 1929, .getfield 643, .iconst 1], .if_icmp .ne 19), ([.aload 0, .iload 6], .invokeinterface 206 962), ([], .goto 24), ([.aload 0, .getfield 1929, .getfield 643, .iconst 17], .if_icmp .ne 22), ([.aload 0, .iload 6], .invokeinterface 207 962), ([], .goto 24), ([.aload 0, .getfield 1929, .getfield 643, .iconst 6], .if_icmp .ne 24), ([.aload 0, .iload 6], .invokeinterface 213 962), ([.aload 0], .invokeinterface 203 961), ([.iinc 6 1], .goto 5), ([.iload 5], .ireturn)]
def am_p204 : List Nat := [0, 11, 13, 29, 51, 58, 67, 70, 82, 90, 99, 102, 114, 136, 144, 154, 160, 171, 177, 180, 192, 198, 201, 213, 219, 223, 229]
/-- X11_tick -/
def am_k205 : List (List Instr × Instr) := [([.aload 0, .getfield 1921, .dup, .getfield 1800, .iconst 1, .iadd, .putfield 1800, .iconst 0, .istore 1], .nop), ([.iload 1, .aload 0, .getfield 1922], .invokeinterface 505 193), ([], .if_icmp .ge 14), ([.aload 0, .getfield 1922, .iload 1], .invokeinterface 507 194), ([.checkcast 7, .aload 0, .getfield 1921, .getfield 1800], .invokeinterface 44 450), ([.iconst 0, .istore 2], .nop), ([.iload 2, .aload 0, .getfield 1923], .invokeinterface 505 193), ([], .if_icmp .ge 12), ([.aload 0, .getfield 1923, .iload 2], .invokeinterface 507 194), ([.checkcast 4, .astore 3, .aload 3, .getfield 513, .iload 1], .if_icmp .ne 11), ([.aload 3], .invokeinterface 16 257), ([.iinc 2 1], .goto 6), ([.aload 0], .invokeinterface 203 961), ([.iinc 1 1], .goto 1), ([], .return_)]
def am_p205 : List Nat := [0, 15, 23, 26, 34, 47, 49, 57, 60, 68, 80, 84, 90, 94, 100]
/-- X11_takeEcho -/
def am_k206 : List (List Instr × Instr) := [([.aload 0, .getfield 1929, .getfield 649, .astore 2, .aload 2], .invokeinterface 101 705), ([.istore 3, .iload 3, .iconst 8], .if_icmp .lt 4), ([.aload 2, .iconst 0, .iload 3, .iconst 0], .invokeinterface 124 708), ([], .ifCond .eq 5), ([], .return_), ([.aload 0, .getfield 1929, .getfield 648], .ifCond .eq 7), ([.aload 0, .getfield 1921, .dup, .getfield 1805, .iconst 1, .iadd, .putfield 1805], .nop), ([.aload 2, .iconst 0], .invokeinterface 103 706), ([.istore 4, .iload 4, .iconst 2048], .if_icmp .ne 16), ([.aload 0, .getfield 1921, .iload 1, .aload 0, .getfield 1929, .getfield 641, .iconst 1], .invokeinterface 147 900), ([.getfield 649, .astore 5, .aload 5, .aload 2, .iconst 0, .iload 3], .invokeinterface 113 708), ([.aload 5, .iconst 0, .iconst 0], .invokeinterface 108 707), ([.aload 5, .iconst 2, .iconst 0], .invokeinterface 108 707), ([.aload 5, .iconst 2, .aload 5, .iconst 0, .iload 3, .iconst 0], .invokeinterface 124 708), ([], .invokeinterface 108 707), ([], .goto 30), ([.iload 4], .ifCond .ne 30), ([.aload 2, .iconst 4], .invokeinterface 103 706), ([.istore 5, .iload 5, .aload 0, .getfield 1924], .invokeinterface 505 193), ([], .if_icmp .ge 21), ([.iload 5, .iconst 40], .if_icmp .lt 22), ([], .return_), ([.aload 0, .getfield 1924, .iload 5], .invokeinterface 507 194), ([.checkcast 5, .astore 6, .aload 6, .getfield 640, .iload 1], .if_icmp .ne 30), ([.aload 6, .getfield 642, .aload 0, .getfield 1929, .getfield 641], .if_icmp .ne 30), ([.iload 3, .aload 6, .getfield 649], .invokeinterface 101 705), ([], .if_icmp .ne 30), ([.aload 2, .iconst 4, .aload 6, .getfield 649, .iconst 4, .iload 3, .iconst 4, .isub], .invokeinterface 118 709), ([], .ifCond .eq 30), ([.aload 0, .getfield 1925, .iload 5, .iconst 1, .bastore], .nop), ([], .return_)]
def am_p206 : List Nat := [0, 12, 19, 26, 29, 30, 40, 53, 58, 68, 84, 97, 104, 111, 122, 125, 128, 133, 138, 149, 152, 159, 160, 169, 183, 198, 207, 210, 224, 227, 235]
/-- X11_takeNames -/
def am_k207 : List (List Instr × Instr) := [([.aload 0, .getfield 1929, .getfield 649, .astore 2, .aload 2], .invokeinterface 101 705), ([.istore 3, .iload 3, .iconst 8], .if_icmp .lt 4), ([.aload 2, .iconst 4], .invokeinterface 103 706), ([.iload 3], .if_icmp .eq 5), ([], .return_), ([.aload 2, .iconst 6], .invokeinterface 103 706), ([], .ifCond .eq 8), ([.iconst 1], .goto 9), ([.iconst 0], .nop), ([.istore 4, .iload 4], .ifCond .eq 14), ([.aload 2, .iconst 0, .iload 3, .aload 0, .getfield 1929], .invokeinterface 34 321), ([], .invokeinterface 124 708), ([], .ifCond .eq 14), ([], .return_), ([.aload 0, .getfield 1929, .getfield 648], .ifCond .eq 17), ([.iload 4], .ifCond .eq 17), ([.aload 0, .getfield 1921, .dup, .getfield 1805, .iconst 1, .iadd, .putfield 1805], .nop), ([.iload 1], .ifCond .ne 22), ([.aload 2, .iconst 2], .invokeinterface 103 706), ([.iconst 53], .if_icmp .ne 22), ([.aload 0], .invokeinterface 208 961), ([], .goto 23), ([.aload 0, .iload 1], .invokeinterface 210 962), ([], .return_)]
def am_p207 : List Nat := [0, 12, 19, 24, 28, 29, 35, 38, 42, 43, 50, 60, 63, 66, 67, 77, 82, 95, 99, 104, 109, 113, 116, 121]
/-- X11_answerName -/
def am_k208 : List (List Instr × Instr) := [([.aload 0, .getfield 1929, .getfield 649, .astore 1, .aload 1, .iconst 20], .invokeinterface 123 706), ([.istore 2, .iload 2, .iconst (-1)], .if_icmp .eq 6), ([.aload 1], .invokeinterface 101 705), ([.iload 2, .iconst 4, .iadd], .if_icmp .ne 6), ([.aload 1], .invokeinterface 209 1), ([], .ifCond .ne 7), ([], .return_), ([.aload 1, .iload 2], .invokeinterface 103 706), ([.iconst 1], .if_icmp .ne 11), ([.aload 1, .iload 2, .iconst 2, .iadd], .invokeinterface 103 706), ([.iconst 1], .if_icmp .eq 12), ([], .return_), ([.aload 0, .aload 1, .iconst 20, .iload 2], .invokeinterface 212 964), ([.istore 3, .aload 0, .getfield 1921, .iconst 0, .aload 0, .getfield 1929, .getfield 641, .iconst 17], .invokeinterface 147 900), ([.astore 4, .aload 4, .getfield 649, .astore 5, .aload 5, .iconst 53], .invokeinterface 110 706), ([.aload 5, .aload 1, .iconst 0], .invokeinterface 103 706), ([], .invokeinterface 110 706), ([.aload 5, .iconst 0], .invokeinterface 111 706), ([.aload 5, .aload 1, .iconst 8], .invokeinterface 103 706), ([], .invokeinterface 110 706), ([.aload 5, .iload 3, .iconst (-1)], .if_icmp .ne 22), ([.iconst 34051], .goto 23), ([.iconst 34048], .nop), ([], .invokeinterface 110 706), ([.aload 5, .iconst 1], .invokeinterface 110 706), ([.aload 5, .iload 3, .iconst (-1)], .if_icmp .ne 27), ([.iconst 0], .goto 28), ([.iconst 1], .nop), ([], .invokeinterface 110 706), ([.aload 5, .iconst 0], .invokeinterface 111 706), ([.aload 5, .aload 1, .iconst 20, .iload 2, .iconst 4, .iadd, .iconst 20, .isub], .invokeinterface 113 708), ([.iload 3, .iconst (-1)], .if_icmp .eq 38), ([.aload 5, .iconst 49164], .invokeinterface 110 706), ([.aload 5, .iconst 1], .invokeinterface 110 706), ([.aload 5, .iconst 1], .invokeinterface 110 706), ([.aload 5, .iconst 60], .invokeinterface 111 706), ([.aload 5, .iconst 4], .invokeinterface 110 706), ([.aload 5, .iconst 167772161, .iload 3, .iadd], .invokeinterface 111 706), ([.aload 4], .invokeinterface 35 321), ([], .return_)]
def am_p208 : List Nat := [0, 14, 20, 24, 30, 34, 37, 38, 43, 47, 54, 58, 59, 67, 85, 101, 108, 111, 117, 125, 128, 135, 141, 144, 147, 153, 160, 164, 165, 168, 174, 188, 193, 201, 207, 213, 220, 226, 235, 240]
/-- X11_isQuestionHead -/
def am_k209 : List (List Instr × Instr) := [([.aload 0, .iconst 10], .invokeinterface 103 706), ([.iconst 256], .if_icmp .ne 9), ([.aload 0, .iconst 12], .invokeinterface 103 706), ([.iconst 1], .if_icmp .ne 9), ([.aload 0, .iconst 14], .invokeinterface 103 706), ([], .ifCond .ne 9), ([.aload 0, .iconst 16], .invokeinterface 104 706), ([], .ifCond .ne 9), ([.iconst 1], .goto 10), ([.iconst 0], .nop), ([], .ireturn)]
def am_p209 : List Nat := [0, 6, 12, 18, 22, 28, 31, 37, 40, 44, 45]
/-- X11_takeAnswer -/
def am_k210 : List (List Instr × Instr) := [([.aload 0, .getfield 1929, .getfield 649, .astore 2, .aload 2, .iconst 2], .invokeinterface 103 706), ([.iconst 5000, .isub, .istore 3, .iload 3], .ifCond .lt 5), ([.iload 3, .aload 0, .getfield 1926], .invokeinterface 505 193), ([], .if_icmp .ge 5), ([.iload 3, .iconst 40], .if_icmp .lt 6), ([], .return_), ([.aload 0, .getfield 1926, .iload 3], .invokeinterface 507 194), ([.checkcast 5, .astore 4, .aload 4, .getfield 640, .iload 1], .if_icmp .ne 11), ([.aload 0, .getfield 1929, .getfield 641, .iconst 167772161], .if_icmp .ne 11), ([.aload 2, .iconst 0], .invokeinterface 103 706), ([.iconst 53], .if_icmp .eq 12), ([], .return_), ([.aload 0, .getfield 1927, .iload 3, .iaload, .iconst (-1)], .if_icmp .eq 14), ([], .return_), ([.aload 4, .getfield 649], .invokeinterface 101 705), ([.istore 5, .aload 2, .iconst 8], .invokeinterface 103 706), ([.aload 4, .getfield 649, .iconst 8], .invokeinterface 103 706), ([], .if_icmp .ne 22), ([.aload 2, .iconst 12], .invokeinterface 103 706), ([.iconst 1], .if_icmp .ne 22), ([.aload 2, .iconst 16], .invokeinterface 104 706), ([], .ifCond .eq 23), ([], .return_), ([.aload 2], .invokeinterface 101 705), ([.iload 5], .if_icmp .lt 27), ([.aload 2, .iconst 20, .aload 4, .getfield 649, .iconst 20, .iload 5, .iconst 20, .isub], .invokeinterface 118 709), ([], .ifCond .ne 28), ([], .return_), ([.aload 2, .iconst 10], .invokeinterface 103 706), ([.istore 6, .aload 2, .iconst 14], .invokeinterface 103 706), ([.istore 7, .iload 6, .iconst 34051], .if_icmp .ne 35), ([.iload 7], .ifCond .ne 35), ([.aload 2], .invokeinterface 101 705), ([.iload 5], .if_icmp .ne 35), ([.aload 0, .getfield 1927, .iload 3, .iconst (-2), .iastore], .nop), ([.iload 6, .iconst 34048], .if_icmp .ne 43), ([.iload 7, .iconst 1], .if_icmp .ne 43), ([.aload 2], .invokeinterface 101 705), ([.iload 5, .iconst 16, .iadd], .if_icmp .ne 43), ([.aload 2, .iload 5, .iconst 12, .iadd], .invokeinterface 104 706), ([.iconst 167772161, .isub, .istore 8, .aload 0, .iload 8], .invokeinterface 191 962), ([], .ifCond .eq 43), ([.aload 0, .getfield 1927, .iload 3, .iload 8, .iastore], .nop), ([], .return_)]
def am_p210 : List Nat := [0, 13, 22, 30, 33, 39, 40, 48, 62, 74, 79, 84, 85, 95, 96, 104, 112, 122, 125, 131, 135, 141, 144, 145, 149, 154, 172, 175, 176, 182, 190, 200, 205, 209, 214, 222, 230, 236, 240, 248, 257, 268, 271, 279]
/-- X11_readName -/
def am_k211 : List (List Instr × Instr) := [([.aload 0, .getfield 1928], .invokeinterface 106 705), ([.iconst 0, .istore 1, .iconst 0, .istore 2, .iconst 0, .istore 3], .nop), ([.iload 3, .aload 0, .getfield 1920], .invokeinterface 101 705), ([], .if_icmp .gt 25), ([.aload 0, .getfield 1920, .iload 3], .invokeinterface 102 706), ([.istore 4, .iload 3, .aload 0, .getfield 1920], .invokeinterface 101 705), ([], .if_icmp .ge 17), ([.iload 4, .iconst 46], .if_icmp .eq 17), ([.iload 4, .iconst 97], .if_icmp .lt 10), ([.iload 4, .iconst 122], .if_icmp .le 13), ([.iload 4, .iconst 48], .if_icmp .lt 12), ([.iload 4, .iconst 57], .if_icmp .le 13), ([.iload 4, .iconst 45], .if_icmp .ne 14), ([.iconst 1], .goto 15), ([.iconst 0], .nop), ([.istore 5, .iload 5], .ifCond .ne 24), ([.iconst (-1)], .ireturn), ([.iload 3, .iload 2, .isub, .istore 5, .iload 5, .iconst 1], .if_icmp .lt 20), ([.iload 5, .iconst 20], .if_icmp .gt 20), ([.iload 1, .iconst 5], .if_icmp .ne 21), ([.iconst (-1)], .ireturn), ([.aload 0, .getfield 1928, .iload 5], .invokeinterface 109 706), ([.aload 0, .getfield 1928, .aload 0, .getfield 1920, .iload 2, .iload 5], .invokeinterface 113 708), ([.iinc 1 1, .iload 3, .iconst 1, .iadd, .istore 2], .nop), ([.iinc 3 1], .goto 2), ([.aload 0, .getfield 1928, .iconst 0], .invokeinterface 109 706), ([.iload 1], .ireturn)]
def am_p211 : List Nat := [0, 7, 13, 21, 24, 32, 42, 45, 52, 59, 66, 73, 80, 87, 91, 92, 99, 101, 112, 119, 124, 126, 135, 149, 156, 162, 170]
/-- X11_ownerOf -/
def am_k212 : List (List Instr × Instr) := [([.iconst 0, .istore 4], .nop), ([.iload 4, .aload 0, .getfield 1922], .invokeinterface 505 193), ([], .if_icmp .ge 10), ([.aload 0, .getfield 1922, .iload 4], .invokeinterface 507 194), ([.checkcast 7, .getfield 899, .astore 5, .aload 5], .invokeinterface 101 705), ([.iload 3, .iload 2, .isub], .if_icmp .ne 9), ([.aload 5, .iconst 0, .aload 1, .iload 2, .iload 3, .iload 2, .isub], .invokeinterface 118 709), ([], .ifCond .eq 9), ([.iload 4], .ireturn), ([.iinc 4 1], .goto 1), ([.iconst (-1)], .ireturn)]
def am_p212 : List Nat := [0, 3, 12, 15, 24, 37, 43, 54, 57, 60, 66]
/-- X11_takeSegment -/
def am_k213 : List (List Instr × Instr) := [([.aload 0, .getfield 1930, .aload 0, .getfield 1929], .invokeinterface 127 770), ([], .ifCond .ne 3), ([], .return_), ([.aload 0, .getfield 1929, .getfield 648], .ifCond .eq 5), ([.aload 0, .getfield 1921, .dup, .getfield 1805, .iconst 1, .iadd, .putfield 1805], .nop), ([.aload 0, .iload 1], .invokeinterface 214 962), ([.astore 2, .aload 2], .ifnonnull 16), ([.aload 0, .iload 1], .invokeinterface 215 962), ([], .ifCond .eq 12), ([.aload 0], .invokeinterface 216 961), ([.aload 0, .getfield 1930], .invokeinterface 6 258), ([], .goto 15), ([.aload 0, .getfield 1930, .iconst 4], .invokeinterface 126 770), ([], .ifCond .ne 15), ([.aload 0, .getfield 1921, .aload 0, .getfield 1930], .invokeinterface 149 898), ([], .return_), ([.aload 2, .getfield 523, .iconst 1], .if_icmp .ne 18), ([.iconst 1], .goto 19), ([.iconst 0], .nop), ([.istore 3, .aload 2, .aload 0, .getfield 1930], .invokeinterface 18 258), ([], .ifCond .ne 22), ([], .return_), ([.iload 3], .ifCond .eq 25), ([.aload 2, .aload 0, .aload 2, .aload 0, .getfield 1930, .getfield 1540], .invokeinterface 217 963), ([.putfield 525], .nop), ([.aload 2], .invokeinterface 1 257), ([], .ifCond .eq 28), ([.aload 0, .aload 2], .invokeinterface 218 962), ([.aload 2], .invokeinterface 13 257), ([], .return_)]
def am_p213 : List Nat := [0, 11, 14, 15, 25, 38, 43, 48, 53, 56, 60, 67, 70, 78, 81, 92, 93, 101, 105, 106, 115, 118, 119, 123, 136, 139, 143, 146, 151, 155]
/-- X11_connectionOf -/
def am_k214 : List (List Instr × Instr) := [([.iconst 0, .istore 2], .nop), ([.iload 2, .aload 0, .getfield 1923], .invokeinterface 505 193), ([], .if_icmp .ge 11), ([.aload 0, .getfield 1923, .iload 2], .invokeinterface 507 194), ([.checkcast 4, .astore 3, .aload 3, .getfield 523], .ifCond .eq 10), ([.aload 3, .getfield 513, .iload 1], .if_icmp .ne 10), ([.aload 3, .getfield 514, .aload 0, .getfield 1930, .getfield 1539], .if_icmp .ne 10), ([.aload 3, .getfield 515, .aload 0, .getfield 1930, .getfield 1536], .if_icmp .ne 10), ([.aload 3, .getfield 516, .aload 0, .getfield 1930, .getfield 1538], .if_icmp .ne 10), ([.aload 3], .areturn), ([.iinc 2 1], .goto 1), ([.aconst_null], .areturn)]
def am_p214 : List Nat := [0, 2, 10, 13, 21, 32, 40, 54, 68, 82, 84, 90]
/-- X11_isBeginning -/
def am_k215 : List (List Instr × Instr) := [([.iload 1], .ifCond .ne 13), ([.aload 0, .getfield 1930, .getfield 1539, .iconst 80], .if_icmp .ne 13), ([.aload 0, .getfield 1930, .iconst 2], .invokeinterface 126 770), ([], .ifCond .eq 13), ([.aload 0, .getfield 1930, .iconst 16], .invokeinterface 126 770), ([], .ifCond .ne 13), ([.aload 0, .getfield 1930, .iconst 4], .invokeinterface 126 770), ([], .ifCond .ne 13), ([.aload 0, .iconst 1], .invokeinterface 201 962), ([.iconst 6], .if_icmp .ge 13), ([.aload 0, .getfield 1923], .invokeinterface 505 193), ([.iconst 60], .if_icmp .ge 13), ([.iconst 1], .goto 14), ([.iconst 0], .nop), ([], .ireturn)]
def am_p215 : List Nat := [0, 4, 16, 24, 27, 36, 39, 47, 50, 55, 60, 67, 72, 76, 77]
/-- X11_newServers -/
def am_k216 : List (List Instr × Instr) := [([.new 4, .dup, .aload 0, .getfield 1923], .invokeinterface 505 193), ([.aload 0, .getfield 1922, .iconst 0], .invokeinterface 507 194), ([.checkcast 7, .aload 0, .getfield 1930, .getfield 1536, .aload 0, .getfield 1930, .getfield 1538, .aload 0, .getfield 1921], .invokeinterface 0 262), ([.astore 1, .aload 0, .getfield 1930, .getfield 1538, .iconst 40000, .isub, .istore 2, .aload 0, .iload 2], .invokeinterface 192 962), ([], .ifCond .eq 9), ([.aload 0, .getfield 1923, .iload 2], .invokeinterface 507 194), ([.checkcast 4], .invokeinterface 1 257), ([], .ifCond .ne 9), ([.aload 1, .iload 2, .putfield 525], .nop), ([.aload 0, .getfield 1923, .aload 1], .invokeinterface 509 194), ([.pop, .aload 1], .areturn)]
def am_p216 : List Nat := [0, 11, 19, 43, 61, 64, 72, 78, 81, 86, 94]
/-- X11_serversOf -/
def am_k217 : List (List Instr × Instr) := [([.iconst 0, .istore 3], .nop), ([.iload 3, .aload 0, .getfield 1923], .invokeinterface 505 193), ([], .if_icmp .ge 10), ([.aload 0, .getfield 1923, .iload 3], .invokeinterface 507 194), ([.checkcast 4, .astore 4, .aload 4], .invokeinterface 1 257), ([], .ifCond .eq 9), ([.aload 4, .getfield 518, .getfield 1664, .iload 2], .if_icmp .ne 9), ([.aload 4, .getfield 525, .aload 1, .getfield 512], .if_icmp .ne 9), ([.iload 3], .ireturn), ([.iinc 3 1], .goto 1), ([.iconst (-1)], .ireturn)]
def am_p217 : List Nat := [0, 2, 10, 13, 21, 31, 34, 46, 58, 60, 66]
/-- X11_serve -/
def am_k218 : List (List Instr × Instr) := [([.aload 1, .getfield 520, .astore 2, .aload 2], .ifnull 2), ([.aload 1, .getfield 523], .ifCond .ne 3), ([], .return_), ([.iconst 0, .istore 3], .nop), ([.iload 3, .iconst 300], .if_icmp .gt 36), ([.aload 1], .invokeinterface 27 257), ([.aload 1], .invokeinterface 26 257), ([], .ifCond .eq 9), ([], .return_), ([.aload 1, .getfield 527], .ifCond .eq 12), ([.aload 1], .invokeinterface 7 257), ([], .return_), ([.iconst 0, .istore 4, .iconst 0, .istore 5], .nop), ([.iload 5, .iconst 300], .if_icmp .ge 20), ([.iload 4], .ifCond .ne 20), ([.aload 1, .iconst 1], .invokeinterface 28 258), ([.iconst 1], .if_icmp .ne 20), ([.aload 2, .aload 1, .getfield 519, .getfield 1282, .aload 1, .getfield 519, .getfield 1283, .iconst 1, .isub], .invokeinterface 102 706), ([], .invokeinterface 80 578), ([.istore 4, .iinc 5 1], .goto 13), ([.iload 4], .ifCond .ne 25), ([.aload 1], .invokeinterface 29 257), ([], .ifCond .eq 24), ([.aload 1], .invokeinterface 7 257), ([], .return_), ([.aload 1, .getfield 518, .getfield 1667], .invokeinterface 101 705), ([.istore 5, .aload 0, .getfield 1931, .aload 2, .iload 4], .invokeinterface 62 515), ([.istore 6, .aload 1, .iload 4, .iconst 1], .if_icmp .ne 30), ([.aload 2], .invokeinterface 79 577), ([], .ifCond .eq 31), ([.iconst 1], .goto 32), ([.iconst 0], .nop), ([.putfield 527, .aload 0, .getfield 1931, .aload 2, .iload 6, .aload 1, .getfield 527, .aload 1, .getfield 518, .getfield 1667], .invokeinterface 74 517), ([.aload 0, .aload 1, .iload 6, .iload 5], .invokeinterface 219 964), ([.aload 2], .invokeinterface 78 577), ([.iinc 3 1], .goto 4), ([], .return_)]
def am_p218 : List Nat := [0, 9, 16, 17, 19, 26, 30, 34, 37, 38, 45, 49, 50, 56, 64, 69, 74, 78, 98, 101, 109, 114, 118, 121, 125, 126, 136, 148, 157, 161, 164, 168, 169, 193, 202, 206, 212]
/-- X11_noteServed -/
def am_k219 : List (List Instr × Instr) := [([.aload 0, .getfield 1932, .aload 1, .getfield 512], .invokeinterface 109 706), ([.aload 0, .getfield 1932, .aload 1, .getfield 528], .invokeinterface 109 706), ([.aload 0, .getfield 1932, .iload 2], .invokeinterface 109 706), ([.aload 0, .getfield 1932, .aload 1, .getfield 518, .getfield 1667], .invokeinterface 101 705), ([.iload 3, .isub], .invokeinterface 109 706), ([.aload 0, .getfield 1932, .aload 1, .getfield 520], .ifnonnull 7), ([.iconst 0], .goto 8), ([.aload 1, .getfield 520, .getfield 1153], .nop), ([], .invokeinterface 109 706), ([.aload 0, .getfield 1932, .aload 1, .getfield 527], .ifCond .eq 11), ([.iconst 1], .goto 12), ([.iconst 0], .nop), ([], .invokeinterface 109 706), ([.aload 0, .getfield 1932, .aload 0, .getfield 1921, .getfield 1800], .invokeinterface 109 706), ([.aload 0, .getfield 1932, .iload 3], .invokeinterface 109 706), ([.aload 1, .dup, .getfield 528, .iconst 1, .iadd, .putfield 528], .return_)]
def am_p219 : List Nat := [0, 11, 22, 30, 44, 49, 60, 64, 71, 74, 85, 89, 90, 93, 107, 115]
/-- X11_servedMany -/
def am_k220 : List (List Instr × Instr) := [([.aload 0, .getfield 1932], .invokeinterface 101 705), ([.iconst 8, .idiv], .ireturn)]
def am_p220 : List Nat := [0, 7]
/-- X11_servedNumber -/
def am_k221 : List (List Instr × Instr) := [([.aload 0, .getfield 1932, .iload 1, .iconst 8, .imul, .iload 2, .iadd], .invokeinterface 102 706), ([], .ireturn)]
def am_p221 : List Nat := [0, 13]
/-- X11_servedWell -/
def am_k222 : List (List Instr × Instr) := [([.iconst 0, .istore 1, .aload 0], .invokeinterface 220 961), ([.istore 2, .iconst 0, .istore 3], .nop), ([.iload 3, .iload 2], .if_icmp .ge 7), ([.aload 0, .iload 3, .iconst 2], .invokeinterface 221 963), ([.iconst 400], .if_icmp .ge 6), ([.iinc 1 1], .nop), ([.iinc 3 1], .goto 2), ([.iload 1], .ireturn)]
def am_p222 : List Nat := [0, 6, 9, 14, 20, 26, 29, 35]
/-- X11_isServedNaively -/
def am_k223 : List (List Instr × Instr) := [([.aload 0, .iload 1, .iconst 0], .invokeinterface 221 963), ([.istore 2, .aload 0, .iload 2], .invokeinterface 192 962), ([], .ifCond .eq 4), ([.iload 2, .iconst 60], .if_icmp .lt 5), ([.iconst 0], .ireturn), ([.aload 0, .getfield 1923, .iload 2], .invokeinterface 507 194), ([.checkcast 4, .astore 3, .aload 0, .aload 3, .getfield 525], .invokeinterface 192 962), ([], .ifCond .ne 9), ([.iconst 0], .ireturn), ([.aload 0, .getfield 1923, .aload 3, .getfield 525], .invokeinterface 507 194), ([.checkcast 4, .getfield 518, .astore 4, .aload 0, .getfield 1934], .invokeinterface 78 577), ([.iconst 0, .istore 5, .aload 0, .getfield 1936, .iload 2, .iaload, .istore 6], .nop), ([.iload 5], .ifCond .ne 17), ([.iload 6, .aload 4, .getfield 1668], .if_icmp .ge 17), ([.aload 0, .getfield 1934, .aload 4, .getfield 1667, .iload 6], .invokeinterface 102 706), ([], .invokeinterface 80 578), ([.istore 5, .iinc 6 1], .goto 12), ([.iload 5], .ifCond .ne 19), ([.iconst 0], .ireturn), ([.aload 0, .getfield 1936, .iload 2, .iload 6, .iastore, .aload 0, .getfield 1935], .invokeinterface 106 705), ([.aload 0, .getfield 1933, .aload 0, .getfield 1934, .iload 5], .invokeinterface 62 515), ([.istore 7, .iload 5, .iconst 1], .if_icmp .ne 24), ([.aload 0, .getfield 1934], .invokeinterface 79 577), ([], .ifCond .eq 25), ([.iconst 1], .goto 26), ([.iconst 0], .nop), ([.istore 8, .aload 0, .getfield 1933, .aload 0, .getfield 1934, .iload 7, .iload 8, .aload 0, .getfield 1935], .invokeinterface 74 517), ([.iload 7, .aload 0, .iload 1, .iconst 2], .invokeinterface 221 963), ([], .if_icmp .ne 44), ([.aload 0, .getfield 1935], .invokeinterface 101 705), ([.aload 0, .iload 1, .iconst 3], .invokeinterface 221 963), ([], .if_icmp .ne 44), ([.aload 0, .getfield 1934, .getfield 1153, .aload 0, .iload 1, .iconst 4], .invokeinterface 221 963), ([], .if_icmp .ne 44), ([.iload 8], .ifCond .eq 36), ([.iconst 1], .goto 37), ([.iconst 0], .nop), ([.aload 0, .iload 1, .iconst 5], .invokeinterface 221 963), ([], .if_icmp .ne 44), ([.aload 0, .getfield 1935, .iconst 0, .aload 3, .getfield 518, .getfield 1667, .aload 0, .iload 1, .iconst 7], .invokeinterface 221 963), ([.aload 0, .getfield 1935], .invokeinterface 101 705), ([], .invokeinterface 118 709), ([], .ifCond .eq 44), ([.iconst 1], .goto 45), ([.iconst 0], .nop), ([], .ireturn)]
def am_p223 : List Nat := [0, 6, 12, 15, 21, 23, 31, 43, 46, 48, 59, 74, 85, 90, 100, 114, 117, 125, 130, 132, 147, 160, 168, 175, 178, 182, 183, 204, 212, 215, 222, 228, 231, 244, 247, 252, 256, 257, 263, 266, 285, 292, 295, 298, 302, 303]
/-- X11_hasReadOtherwise -/
def am_k224 : List (List Instr × Instr) := [([.aload 1, .getfield 519, .getfield 1283, .istore 2, .aload 0, .aload 1, .getfield 525], .invokeinterface 192 962), ([], .ifCond .ne 6), ([.iload 2], .ifCond .le 4), ([.iconst 1], .goto 5), ([.iconst 0], .nop), ([], .ireturn), ([.aload 0, .getfield 1923, .aload 1, .getfield 525], .invokeinterface 507 194), ([.checkcast 4, .getfield 518, .astore 3, .iload 2, .aload 3, .getfield 1668], .if_icmp .gt 11), ([.aload 1], .invokeinterface 29 257), ([], .ifCond .eq 12), ([.iload 2, .aload 3, .getfield 1668], .if_icmp .ge 12), ([.iconst 1], .ireturn), ([.aload 1, .getfield 519, .getfield 1282, .iconst 0, .aload 3, .getfield 1667, .iconst 0, .iload 2], .invokeinterface 118 709), ([], .ifCond .ne 15), ([.iconst 1], .goto 16), ([.iconst 0], .nop), ([], .ireturn)]
def am_p224 : List Nat := [0, 16, 19, 23, 27, 28, 29, 40, 55, 59, 62, 70, 72, 89, 92, 96, 97]
/-- X12_init -/
def am_k225 : List (List Instr × Instr) := [([.aload 0, .invokedynamic 0, .aload 0, .iconst 64, .newarray .int, .putfield 2048], .return_)]
def am_p225 : List Nat := [0]
/-- X12_add -/
def am_k226 : List (List Instr × Instr) := [([.aload 0, .getfield 2049, .aload 0, .getfield 2048, .arraylength], .if_icmp .ne 5), ([.iconst 2, .aload 0, .getfield 2049, .imul, .newarray .int, .astore 2, .iconst 0, .istore 3], .nop), ([.iload 3, .aload 0, .getfield 2049], .if_icmp .ge 4), ([.aload 2, .iload 3, .aload 0, .getfield 2048, .iload 3, .iaload, .iastore, .iinc 3 1], .goto 2), ([.aload 0, .aload 2, .putfield 2048], .nop), ([.aload 0, .getfield 2048, .aload 0, .getfield 2049, .iload 1, .iastore, .aload 0, .dup, .getfield 2049, .iconst 1, .iadd, .putfield 2049], .return_)]
def am_p226 : List Nat := [0, 12, 23, 31, 46, 51]
/-- X13_init -/
def am_k227 : List (List Instr × Instr) := [([.aload 0, .invokedynamic 0, .aload 0, .iload 1, .putfield 2176, .aload 0, .aload 2, .putfield 2177], .return_)]
def am_p227 : List Nat := [0]
/-- X14_init -/
def am_k228 : List (List Instr × Instr) := [([.aload 0, .invokedynamic 0], .return_)]
def am_p228 : List Nat := [0]
/-- X15_init -/
def am_k229 : List (List Instr × Instr) := [([.aload 0, .invokedynamic 0, .aload 0, .iconst 8, .anewarray 220, .putfield 2440, .aload 0, .iconst 4, .anewarray 223, .putfield 2441, .aload 0, .iconst 4, .anewarray 222, .putfield 2442, .aload 0, .iconst 5, .newarray .int, .dup, .iconst 0, .iconst (-1), .iastore, .dup, .iconst 1, .iconst (-1), .iastore, .dup, .iconst 2, .iconst (-1), .iastore, .dup, .iconst 3, .iconst (-1), .iastore, .dup, .iconst 4, .iconst (-1), .iastore, .putfield 2443, .aload 0, .iconst 16, .anewarray 103, .putfield 2445, .aload 0, .iconst 16, .newarray .int, .putfield 2446, .aload 0, .iconst 16, .newarray .int, .putfield 2447, .aload 0, .iload 1, .putfield 2433, .aload 0, .iload 2, .putfield 2432], .return_)]
def am_p229 : List Nat := [0]
/-- X16_init -/
def am_k230 : List (List Instr × Instr) := [([.aload 0, .invokedynamic 0], .return_)]
def am_p230 : List Nat := [0]
/-- X17_init -/
def am_k231 : List (List Instr × Instr) := [([.aload 0, .invokedynamic 0, .aload 0, .new 16, .dup], .invokeinterface 225 1025), ([.putfield 2697, .aload 0, .iconst 2000, .putfield 2704, .aload 0, .new 16, .dup], .invokeinterface 225 1025), ([.putfield 2709, .aload 0, .iconst 6, .anewarray 217, .putfield 2712, .aload 0, .iconst 10, .putfield 2714, .aload 0, .iconst (-1), .putfield 2728, .aload 0, .iload 1, .putfield 2688, .aload 0, .iload 2, .putfield 2689, .aload 0, .iload 3, .putfield 2690, .aload 0, .iload 4, .putfield 2691, .aload 0, .iload 5, .putfield 2692, .aload 0, .iload 6, .putfield 2726, .aload 0, .iload 7, .putfield 2705, .aload 0, .iconst (-200), .iconst 1048583, .iload 1, .imul, .iadd, .putfield 2693, .aload 0, .aload 0, .getfield 2693, .putfield 2695, .aload 0, .aload 0, .getfield 2693, .iconst 1, .iadd, .putfield 2696], .return_)]
def am_p231 : List Nat := [0, 12, 30]
/-- X17_underWay -/
def am_k232 : List (List Instr × Instr) := [([.aload 0, .getfield 2696, .aload 0, .getfield 2695, .isub], .ireturn)]
def am_p232 : List Nat := [0]
/-- X17_sentBytes -/
def am_k233 : List (List Instr × Instr) := [([.aload 0, .getfield 2697, .getfield 2049, .iconst 0, .aload 0, .getfield 2696, .aload 0, .getfield 2693, .isub, .iconst 1, .isub, .jsr 1, .jsr 0], .ireturn)]
def am_p233 : List Nat := [0]
/-- X17_goneBytes -/
def am_k234 : List (List Instr × Instr) := [([.aload 0, .getfield 2697, .getfield 2049, .iconst 0, .aload 0, .getfield 2695, .aload 0, .getfield 2693, .isub, .iconst 1, .isub, .jsr 1, .jsr 0], .ireturn)]
def am_p234 : List Nat := [0]
/-- X17_waiting -/
def am_k235 : List (List Instr × Instr) := [([.aload 0, .getfield 2709, .getfield 2049, .aload 0, .getfield 2710, .isub], .ireturn)]
def am_p235 : List Nat := [0]
/-- X17_isTold -/
def am_k236 : List (List Instr × Instr) := [([.aload 0, .getfield 2711], .ifCond .eq 4), ([.aload 0], .invokeinterface 235 1345), ([], .ifCond .ne 4), ([.iconst 1], .goto 5), ([.iconst 0], .nop), ([], .ireturn)]
def am_p236 : List Nat := [0, 7, 11, 14, 18, 19]
/-- X17_ownWindow -/
def am_k237 : List (List Instr × Instr) := [([.iconst 300, .aload 0], .invokeinterface 235 1345), ([.isub], .ireturn)]
def am_p237 : List Nat := [0, 7]
/-- X17_isSending -/
def am_k238 : List (List Instr × Instr) := [([.aload 0, .getfield 2694, .iconst 3], .if_icmp .eq 5), ([.aload 0, .getfield 2694, .iconst 7], .if_icmp .eq 5), ([.aload 0, .getfield 2694, .iconst 4], .if_icmp .eq 5), ([.aload 0, .getfield 2694, .iconst 6], .if_icmp .eq 5), ([.aload 0, .getfield 2694, .iconst 9], .if_icmp .ne 6), ([.iconst 1], .goto 7), ([.iconst 0], .nop), ([], .ireturn)]
def am_p238 : List Nat := [0, 8, 17, 25, 34, 43, 47, 48]
/-- X17_isShut -/
def am_k239 : List (List Instr × Instr) := [([.aload 0], .invokeinterface 238 1345), ([], .ifCond .eq 7), ([.aload 0, .getfield 2696, .aload 0, .getfield 2695], .if_icmp .ne 7), ([.aload 0, .getfield 2700], .ifCond .ne 7), ([.aload 0], .invokeinterface 233 1345), ([.aload 0, .getfield 2697, .getfield 2049], .if_icmp .ge 7), ([.iconst 1], .goto 8), ([.iconst 0], .nop), ([], .ireturn)]
def am_p239 : List Nat := [0, 4, 7, 18, 25, 29, 39, 43, 44]
/-- X17_isTimed -/
def am_k240 : List (List Instr × Instr) := [([.aload 0, .getfield 2694], .ifCond .eq 6), ([.aload 0, .getfield 2694, .iconst 8], .if_icmp .eq 6), ([.aload 0, .getfield 2696, .aload 0, .getfield 2695], .if_icmp .ne 5), ([.aload 0], .invokeinterface 239 1345), ([], .ifCond .eq 6), ([.iconst 1], .goto 7), ([.iconst 0], .nop), ([], .ireturn)]
def am_p240 : List Nat := [0, 7, 16, 27, 31, 34, 38, 39]
/-- X18_init -/
def am_k241 : List (List Instr × Instr) := [([.aload 0, .invokedynamic 0, .aload 0, .iconst (-1), .putfield 2820, .aload 0, .iconst 2048, .newarray .int, .putfield 2821, .aload 0, .iconst 2048, .newarray .boolean, .putfield 2822], .return_)]
def am_p241 : List Nat := [0]
/-- X18_isWhole -/
def am_k242 : List (List Instr × Instr) := [([.aload 0, .getfield 2820], .ifCond .lt 2), ([.iconst 1], .goto 3), ([.iconst 0], .nop), ([.istore 1, .iconst 0, .istore 2], .nop), ([.iload 2, .aload 0, .getfield 2820], .if_icmp .ge 7), ([.iload 1], .ifCond .eq 7), ([.aload 0, .getfield 2822, .iload 2, .baload, .istore 1, .iinc 2 1], .goto 4), ([.iload 1], .ireturn)]
def am_p242 : List Nat := [0, 7, 11, 12, 15, 23, 27, 40]
/-- X19_init -/
def am_k243 : List (List Instr × Instr) := [([.aload 0, .invokedynamic 0], .return_)]
def am_p243 : List Nat := [0]
/-- X20_init -/
def am_k244 : List (List Instr × Instr) := [([.aload 0, .invokedynamic 0, .aload 0, .iconst 1, .putfield 3074, .aload 0, .iconst 400, .newarray .int, .putfield 3075, .aload 0, .iconst 5, .anewarray 219, .dup, .iconst 0, .new 19, .dup, .iconst 600, .iconst 500], .invokeinterface 229 1219), ([.aastore, .dup, .iconst 1, .aconst_null, .aastore, .dup, .iconst 2, .aconst_null, .aastore, .dup, .iconst 3, .aconst_null, .aastore, .dup, .iconst 4, .aconst_null, .aastore, .putfield 3077, .aload 0, .iconst 100, .anewarray 218, .putfield 3078, .aload 0, .iconst 40, .newarray .int, .putfield 3087, .aload 0, .iconst 40, .newarray .int, .putfield 3088, .aload 0, .iconst 40, .newarray .int, .putfield 3089, .aload 0, .iconst 40, .newarray .boolean, .putfield 3090, .aload 0, .iconst 40, .newarray .int, .putfield 3092, .aload 0, .iconst 40, .newarray .int, .putfield 3093, .aload 0, .iconst 40, .anewarray 103, .putfield 3094, .aload 0, .iconst 60, .anewarray 221, .putfield 3096, .aload 0, .iconst 526, .newarray .int, .dup, .iconst 0, .iconst 72, .iastore, .dup, .iconst 1, .iconst 84, .iastore, .dup, .iconst 2, .iconst 84, .iastore, .dup, .iconst 3, .iconst 80, .iastore, .dup, .iconst 4, .iconst 47, .iastore, .dup, .iconst 5, .iconst 49, .iastore, .dup, .iconst 6, .iconst 46, .iastore, .dup, .iconst 7, .iconst 49, .iastore, .dup, .iconst 8, .iconst 32, .iastore, .dup, .iconst 9, .iconst 67, .iastore, .dup, .iconst 10, .iconst 111, .iastore, .dup, .iconst 11, .iconst 110, .iastore, .dup, .iconst 12, .iconst 116, .iastore, .dup, .iconst 13, .iconst 101, .iastore, .dup, .iconst 14, .iconst 110, .iastore, .dup, .iconst 15, .iconst 116, .iastore, .dup, .iconst 16, .iconst 45, .iastore, .dup, .iconst 17, .iconst 76, .iastore, .dup, .iconst 18, .iconst 101, .iastore, .dup, .iconst 19, .iconst 110, .iastore, .dup, .iconst 20, .iconst 103, .iastore, .dup, .iconst 21, .iconst 116, .iastore, .dup, .iconst 22, .iconst 104, .iastore, .dup, .iconst 23, .iconst 58, .iastore, .dup, .iconst 24, .iconst 32, .iastore, .dup, .iconst 25, .iconst 69, .iastore, .dup, .iconst 26, .iconst 84, .iastore, .dup, .iconst 27, .iconst 97, .iastore, .dup, .iconst 28, .iconst 103, .iastore, .dup, .iconst 29, .iconst 58, .iastore, .dup, .iconst 30, .iconst 32, .iastore, .dup, .iconst 31, .iconst 34, .iastore, .dup, .iconst 32, .iconst 118, .iastore, .dup, .iconst 33, .iconst 67, .iastore, .dup, .iconst 34, .iconst 111, .iastore, .dup, .iconst 35, .iconst 110, .iastore, .dup, .iconst 36, .iconst 116, .iastore, .dup, .iconst 37, .iconst 101, .iastore, .dup, .iconst 38, .iconst 110, .iastore, .dup, .iconst 39, .iconst 116, .iastore, .dup, .iconst 40, .iconst 45, .iastore, .dup, .iconst 41, .iconst 82, .iastore, .dup, .iconst 42, .iconst 97, .iastore, .dup, .iconst 43, .iconst 110, .iastore, .dup, .iconst 44, .iconst 103, .iastore, .dup, .iconst 45, .iconst 101, .iastore, .dup, .iconst 46, .iconst 58, .iastore, .dup, .iconst 47, .iconst 32, .iastore, .dup, .iconst 48, .iconst 98, .iastore, .dup, .iconst 49, .iconst 121, .iastore, .dup, .iconst 50, .iconst 116, .iastore, .dup, .iconst 51, .iconst 101, .iastore, .dup, .iconst 52, .iconst 115, .iastore, .dup, .iconst 53, .iconst 32, .iastore, .dup, .iconst 54, .iconst 65, .iastore, .dup, .iconst 55, .iconst 108, .iastore, .dup, .iconst 56, .iconst 108, .iastore, .dup, .iconst 57, .iconst 111, .iastore, .dup, .iconst 58, .iconst 119, .iastore, .dup, .iconst 59, .iconst 58, .iastore, .dup, .iconst 60, .iconst 32, .iastore, .dup, .iconst 61, .iconst 71, .iastore, .dup, .iconst 62, .iconst 69, .iastore, .dup, .iconst 63, .iconst 84, .iastore, .dup, .iconst 64, .iconst 44, .iastore, .dup, .iconst 65, .iconst 32, .iastore, .dup, .iconst 66, .iconst 72, .iastore, .dup, .iconst 67, .iconst 69, .iastore, .dup, .iconst 68, .iconst 65, .iastore, .dup, .iconst 69, .iconst 68, .iastore, .dup, .iconst 70, .iconst 44, .iastore, .dup, .iconst 71, .iconst 32, .iastore, .dup, .iconst 72, .iconst 79, .iastore, .dup, .iconst 73, .iconst 80, .iastore, .dup, .iconst 74, .iconst 84, .iastore, .dup, .iconst 75, .iconst 73, .iastore, .dup, .iconst 76, .iconst 79, .iastore, .dup, .iconst 77, .iconst 78, .iastore, .dup, .iconst 78, .iconst 83, .iastore, .dup, .iconst 79, .iconst 65, .iastore, .dup, .iconst 80, .iconst 108, .iastore, .dup, .iconst 81, .iconst 108, .iastore, .dup, .iconst 82, .iconst 111, .iastore, .dup, .iconst 83, .iconst 119, .iastore, .dup, .iconst 84, .iconst 58, .iastore, .dup, .iconst 85, .iconst 32, .iastore, .dup, .iconst 86, .iconst 71, .iastore, .dup, .iconst 87, .iconst 69, .iastore, .dup, .iconst 88, .iconst 84, .iastore, .dup, .iconst 89, .iconst 44, .iastore, .dup, .iconst 90, .iconst 32, .iastore, .dup, .iconst 91, .iconst 72, .iastore, .dup, .iconst 92, .iconst 69, .iastore, .dup, .iconst 93, .iconst 65, .iastore, .dup, .iconst 94, .iconst 68, .iastore, .dup, .iconst 95, .iconst 44, .iastore, .dup, .iconst 96, .iconst 32, .iastore, .dup, .iconst 97, .iconst 80, .iastore, .dup, .iconst 98, .iconst 85, .iastore, .dup, .iconst 99, .iconst 84, .iastore, .dup, .iconst 100, .iconst 44, .iastore, .dup, .iconst 101, .iconst 32, .iastore, .dup, .iconst 102, .iconst 80, .iastore, .dup, .iconst 103, .iconst 79, .iastore, .dup, .iconst 104, .iconst 83, .iastore, .dup, .iconst 105, .iconst 84, .iastore, .dup, .iconst 106, .iconst 44, .iastore, .dup, .iconst 107, .iconst 32, .iastore, .dup, .iconst 108, .iconst 68, .iastore, .dup, .iconst 109, .iconst 69, .iastore, .dup, .iconst 110, .iconst 76, .iastore, .dup, .iconst 111, .iconst 69, .iastore, .dup, .iconst 112, .iconst 84, .iastore, .dup, .iconst 113, .iconst 69, .iastore, .dup, .iconst 114, .iconst 44, .iastore, .dup, .iconst 115, .iconst 32, .iastore, .dup, .iconst 116, .iconst 79, .iastore, .dup, .iconst 117, .iconst 80, .iastore, .dup, .iconst 118, .iconst 84, .iastore, .dup, .iconst 119, .iconst 73, .iastore, .dup, .iconst 120, .iconst 79, .iastore, .dup, .iconst 121, .iconst 78, .iastore, .dup, .iconst 122, .iconst 83, .iastore, .dup, .iconst 123, .iconst 67, .iastore, .dup, .iconst 124, .iconst 111, .iastore, .dup, .iconst 125, .iconst 110, .iastore, .dup, .iconst 126, .iconst 110, .iastore, .dup, .iconst 127, .iconst 101, .iastore, .dup, .iconst 128, .iconst 99, .iastore, .dup, .iconst 129, .iconst 116, .iastore, .dup, .iconst 130, .iconst 105, .iastore, .dup, .iconst 131, .iconst 111, .iastore, .dup, .iconst 132, .iconst 110, .iastore, .dup, .iconst 133, .iconst 58, .iastore, .dup, .iconst 134, .iconst 32, .iastore, .dup, .iconst 135, .iconst 99, .iastore, .dup, .iconst 136, .iconst 108, .iastore, .dup, .iconst 137, .iconst 111, .iastore, .dup, .iconst 138, .iconst 115, .iastore, .dup, .iconst 139, .iconst 101, .iastore, .dup, .iconst 140, .iconst 104, .iastore, .dup, .iconst 141, .iconst 111, .iastore, .dup, .iconst 142, .iconst 115, .iastore, .dup, .iconst 143, .iconst 116, .iastore, .dup, .iconst 144, .iconst 99, .iastore, .dup, .iconst 145, .iconst 111, .iastore, .dup, .iconst 146, .iconst 110, .iastore, .dup, .iconst 147, .iconst 116, .iastore, .dup, .iconst 148, .iconst 101, .iastore, .dup, .iconst 149, .iconst 110, .iastore, .dup, .iconst 150, .iconst 116, .iastore, .dup, .iconst 151, .iconst 45, .iastore, .dup, .iconst 152, .iconst 108, .iastore, .dup, .iconst 153, .iconst 101, .iastore, .dup, .iconst 154, .iconst 110, .iastore, .dup, .iconst 155, .iconst 103, .iastore, .dup, .iconst 156, .iconst 116, .iastore, .dup, .iconst 157, .iconst 104, .iastore, .dup, .iconst 158, .iconst 116, .iastore, .dup, .iconst 159, .iconst 114, .iastore, .dup, .iconst 160, .iconst 97, .iastore, .dup, .iconst 161, .iconst 110, .iastore, .dup, .iconst 162, .iconst 115, .iastore, .dup, .iconst 163, .iconst 102, .iastore, .dup, .iconst 164, .iconst 101, .iastore, .dup, .iconst 165, .iconst 114, .iastore, .dup, .iconst 166, .iconst 45, .iastore, .dup, .iconst 167, .iconst 101, .iastore, .dup, .iconst 168, .iconst 110, .iastore, .dup, .iconst 169, .iconst 99, .iastore, .dup, .iconst 170, .iconst 111, .iastore, .dup, .iconst 171, .iconst 100, .iastore, .dup, .iconst 172, .iconst 105, .iastore, .dup, .iconst 173, .iconst 110, .iastore, .dup, .iconst 174, .iconst 103, .iastore, .dup, .iconst 175, .iconst 99, .iastore, .dup, .iconst 176, .iconst 111, .iastore, .dup, .iconst 177, .iconst 110, .iastore, .dup, .iconst 178, .iconst 110, .iastore, .dup, .iconst 179, .iconst 101, .iastore, .dup, .iconst 180, .iconst 99, .iastore, .dup, .iconst 181, .iconst 116, .iastore, .dup, .iconst 182, .iconst 105, .iastore, .dup, .iconst 183, .iconst 111, .iastore, .dup, .iconst 184, .iconst 110, .iastore, .dup, .iconst 185, .iconst 105, .iastore, .dup, .iconst 186, .iconst 102, .iastore, .dup, .iconst 187, .iconst 45, .iastore, .dup, .iconst 188, .iconst 109, .iastore, .dup, .iconst 189, .iconst 97, .iastore, .dup, .iconst 190, .iconst 116, .iastore, .dup, .iconst 191, .iconst 99, .iastore, .dup, .iconst 192, .iconst 104, .iastore, .dup, .iconst 193, .iconst 105, .iastore, .dup, .iconst 194, .iconst 102, .iastore, .dup, .iconst 195, .iconst 45, .iastore, .dup, .iconst 196, .iconst 110, .iastore, .dup, .iconst 197, .iconst 111, .iastore, .dup, .iconst 198, .iconst 110, .iastore, .dup, .iconst 199, .iconst 101, .iastore, .dup, .iconst 200, .iconst 45, .iastore, .dup, .iconst 201, .iconst 109, .iastore, .dup, .iconst 202, .iconst 97, .iastore, .dup, .iconst 203, .iconst 116, .iastore, .dup, .iconst 204, .iconst 99, .iastore, .dup, .iconst 205, .iconst 104, .iastore, .dup, .iconst 206, .iconst 114, .iastore, .dup, .iconst 207, .iconst 97, .iastore, .dup, .iconst 208, .iconst 110, .iastore, .dup, .iconst 209, .iconst 103, .iastore, .dup, .iconst 210, .iconst 101, .iastore, .dup, .iconst 211, .iconst 71, .iastore, .dup, .iconst 212, .iconst 69, .iastore, .dup, .iconst 213, .iconst 84, .iastore, .dup, .iconst 214, .iconst 72, .iastore, .dup, .iconst 215, .iconst 69, .iastore, .dup, .iconst 216, .iconst 65, .iastore, .dup, .iconst 217, .iconst 68, .iastore, .dup, .iconst 218, .iconst 80, .iastore, .dup, .iconst 219, .iconst 85, .iastore, .dup, .iconst 220, .iconst 84, .iastore, .dup, .iconst 221, .iconst 80, .iastore, .dup, .iconst 222, .iconst 79, .iastore, .dup, .iconst 223, .iconst 83, .iastore, .dup, .iconst 224, .iconst 84, .iastore, .dup, .iconst 225, .iconst 68, .iastore, .dup, .iconst 226, .iconst 69, .iastore, .dup, .iconst 227, .iconst 76, .iastore, .dup, .iconst 228, .iconst 69, .iastore, .dup, .iconst 229, .iconst 84, .iastore, .dup, .iconst 230, .iconst 69, .iastore, .dup, .iconst 231, .iconst 79, .iastore, .dup, .iconst 232, .iconst 80, .iastore, .dup, .iconst 233, .iconst 84, .iastore, .dup, .iconst 234, .iconst 73, .iastore, .dup, .iconst 235, .iconst 79, .iastore, .dup, .iconst 236, .iconst 78, .iastore, .dup, .iconst 237, .iconst 83, .iastore, .dup, .iconst 238, .iconst 99, .iastore, .dup, .iconst 239, .iconst 108, .iastore, .dup, .iconst 240, .iconst 111, .iastore, .dup, .iconst 241, .iconst 115, .iastore, .dup, .iconst 242, .iconst 101, .iastore, .dup, .iconst 243, .iconst 107, .iastore, .dup, .iconst 244, .iconst 101, .iastore, .dup, .iconst 245, .iconst 101, .iastore, .dup, .iconst 246, .iconst 112, .iastore, .dup, .iconst 247, .iconst 45, .iastore, .dup, .iconst 248, .iconst 97, .iastore, .dup, .iconst 249, .iconst 108, .iastore, .dup, .iconst 250, .iconst 105, .iastore, .dup, .iconst 251, .iconst 118, .iastore, .dup, .iconst 252, .iconst 101, .iastore, .dup, .iconst 253, .iconst 99, .iastore, .dup, .iconst 254, .iconst 104, .iastore, .dup, .iconst 255, .iconst 117, .iastore, .dup, .iconst 256, .iconst 110, .iastore, .dup, .iconst 257, .iconst 107, .iastore, .dup, .iconst 258, .iconst 101, .iastore, .dup, .iconst 259, .iconst 100, .iastore, .dup, .iconst 260, .iconst 98, .iastore, .dup, .iconst 261, .iconst 121, .iastore, .dup, .iconst 262, .iconst 116, .iastore, .dup, .iconst 263, .iconst 101, .iastore, .dup, .iconst 264, .iconst 115, .iastore, .dup, .iconst 265, .iconst 61, .iastore, .dup, .iconst 266, .iconst 79, .iastore, .dup, .iconst 267, .iconst 75, .iastore, .dup, .iconst 268, .iconst 67, .iastore, .dup, .iconst 269, .iconst 114, .iastore, .dup, .iconst 270, .iconst 101, .iastore, .dup, .iconst 271, .iconst 97, .iastore, .dup, .iconst 272, .iconst 116, .iastore, .dup, .iconst 273, .iconst 101, .iastore, .dup, .iconst 274, .iconst 100, .iastore, .dup, .iconst 275, .iconst 78, .iastore, .dup, .iconst 276, .iconst 111, .iastore, .dup, .iconst 277, .iconst 32, .iastore, .dup, .iconst 278, .iconst 67, .iastore, .dup, .iconst 279, .iconst 111, .iastore, .dup, .iconst 280, .iconst 110, .iastore, .dup, .iconst 281, .iconst 116, .iastore, .dup, .iconst 282, .iconst 101, .iastore, .dup, .iconst 283, .iconst 110, .iastore, .dup, .iconst 284, .iconst 116, .iastore, .dup, .iconst 285, .iconst 80, .iastore, .dup, .iconst 286, .iconst 97, .iastore, .dup, .iconst 287, .iconst 114, .iastore, .dup, .iconst 288, .iconst 116, .iastore, .dup, .iconst 289, .iconst 105, .iastore, .dup, .iconst 290, .iconst 97, .iastore, .dup, .iconst 291, .iconst 108, .iastore, .dup, .iconst 292, .iconst 32, .iastore, .dup, .iconst 293, .iconst 67, .iastore, .dup, .iconst 294, .iconst 111, .iastore, .dup, .iconst 295, .iconst 110, .iastore, .dup, .iconst 296, .iconst 116, .iastore, .dup, .iconst 297, .iconst 101, .iastore, .dup, .iconst 298, .iconst 110, .iastore, .dup, .iconst 299, .iconst 116, .iastore, .dup, .iconst 300, .iconst 78, .iastore, .dup, .iconst 301, .iconst 111, .iastore, .dup, .iconst 302, .iconst 116, .iastore, .dup, .iconst 303, .iconst 32, .iastore, .dup, .iconst 304, .iconst 77, .iastore, .dup, .iconst 305, .iconst 111, .iastore, .dup, .iconst 306, .iconst 100, .iastore, .dup, .iconst 307, .iconst 105, .iastore, .dup, .iconst 308, .iconst 102, .iastore, .dup, .iconst 309, .iconst 105, .iastore, .dup, .iconst 310, .iconst 101, .iastore, .dup, .iconst 311, .iconst 100, .iastore, .dup, .iconst 312, .iconst 66, .iastore, .dup, .iconst 313, .iconst 97, .iastore, .dup, .iconst 314, .iconst 100, .iastore, .dup, .iconst 315, .iconst 32, .iastore, .dup, .iconst 316, .iconst 82, .iastore, .dup, .iconst 317, .iconst 101, .iastore, .dup, .iconst 318, .iconst 113, .iastore, .dup, .iconst 319, .iconst 117, .iastore, .dup, .iconst 320, .iconst 101, .iastore, .dup, .iconst 321, .iconst 115, .iastore, .dup, .iconst 322, .iconst 116, .iastore, .dup, .iconst 323, .iconst 78, .iastore, .dup, .iconst 324, .iconst 111, .iastore, .dup, .iconst 325, .iconst 116, .iastore, .dup, .iconst 326, .iconst 32, .iastore, .dup, .iconst 327, .iconst 70, .iastore, .dup, .iconst 328, .iconst 111, .iastore, .dup, .iconst 329, .iconst 117, .iastore, .dup, .iconst 330, .iconst 110, .iastore, .dup, .iconst 331, .iconst 100, .iastore, .dup, .iconst 332, .iconst 77, .iastore, .dup, .iconst 333, .iconst 101, .iastore, .dup, .iconst 334, .iconst 116, .iastore, .dup, .iconst 335, .iconst 104, .iastore, .dup, .iconst 336, .iconst 111, .iastore, .dup, .iconst 337, .iconst 100, .iastore, .dup, .iconst 338, .iconst 32, .iastore, .dup, .iconst 339, .iconst 78, .iastore, .dup, .iconst 340, .iconst 111, .iastore, .dup, .iconst 341, .iconst 116, .iastore, .dup, .iconst 342, .iconst 32, .iastore, .dup, .iconst 343, .iconst 65, .iastore, .dup, .iconst 344, .iconst 108, .iastore, .dup, .iconst 345, .iconst 108, .iastore, .dup, .iconst 346, .iconst 111, .iastore, .dup, .iconst 347, .iconst 119, .iastore, .dup, .iconst 348, .iconst 101, .iastore, .dup, .iconst 349, .iconst 100, .iastore, .dup, .iconst 350, .iconst 76, .iastore, .dup, .iconst 351, .iconst 101, .iastore, .dup, .iconst 352, .iconst 110, .iastore, .dup, .iconst 353, .iconst 103, .iastore, .dup, .iconst 354, .iconst 116, .iastore, .dup, .iconst 355, .iconst 104, .iastore, .dup, .iconst 356, .iconst 32, .iastore, .dup, .iconst 357, .iconst 82, .iastore, .dup, .iconst 358, .iconst 101, .iastore, .dup, .iconst 359, .iconst 113, .iastore, .dup, .iconst 360, .iconst 117, .iastore, .dup, .iconst 361, .iconst 105, .iastore, .dup, .iconst 362, .iconst 114, .iastore, .dup, .iconst 363, .iconst 101, .iastore, .dup, .iconst 364, .iconst 100, .iastore, .dup, .iconst 365, .iconst 80, .iastore, .dup, .iconst 366, .iconst 114, .iastore, .dup, .iconst 367, .iconst 101, .iastore, .dup, .iconst 368, .iconst 99, .iastore, .dup, .iconst 369, .iconst 111, .iastore, .dup, .iconst 370, .iconst 110, .iastore, .dup, .iconst 371, .iconst 100, .iastore, .dup, .iconst 372, .iconst 105, .iastore, .dup, .iconst 373, .iconst 116, .iastore, .dup, .iconst 374, .iconst 105, .iastore, .dup, .iconst 375, .iconst 111, .iastore, .dup, .iconst 376, .iconst 110, .iastore, .dup, .iconst 377, .iconst 32, .iastore, .dup, .iconst 378, .iconst 70, .iastore, .dup, .iconst 379, .iconst 97, .iastore, .dup, .iconst 380, .iconst 105, .iastore, .dup, .iconst 381, .iconst 108, .iastore, .dup, .iconst 382, .iconst 101, .iastore, .dup, .iconst 383, .iconst 100, .iastore, .dup, .iconst 384, .iconst 67, .iastore, .dup, .iconst 385, .iconst 111, .iastore, .dup, .iconst 386, .iconst 110, .iastore, .dup, .iconst 387, .iconst 116, .iastore, .dup, .iconst 388, .iconst 101, .iastore, .dup, .iconst 389, .iconst 110, .iastore, .dup, .iconst 390, .iconst 116, .iastore, .dup, .iconst 391, .iconst 32, .iastore, .dup, .iconst 392, .iconst 84, .iastore, .dup, .iconst 393, .iconst 111, .iastore, .dup, .iconst 394, .iconst 111, .iastore, .dup, .iconst 395, .iconst 32, .iastore, .dup, .iconst 396, .iconst 76, .iastore, .dup, .iconst 397, .iconst 97, .iastore, .dup, .iconst 398, .iconst 114, .iastore, .dup, .iconst 399, .iconst 103, .iastore, .dup, .iconst 400, .iconst 101, .iastore, .dup, .iconst 401, .iconst 85, .iastore, .dup, .iconst 402, .iconst 82, .iastore, .dup, .iconst 403, .iconst 73, .iastore, .dup, .iconst 404, .iconst 32, .iastore, .dup, .iconst 405, .iconst 84, .iastore, .dup, .iconst 406, .iconst 111, .iastore, .dup, .iconst 407, .iconst 111, .iastore, .dup, .iconst 408, .iconst 32, .iastore, .dup, .iconst 409, .iconst 76, .iastore, .dup, .iconst 410, .iconst 111, .iastore, .dup, .iconst 411, .iconst 110, .iastore, .dup, .iconst 412, .iconst 103, .iastore, .dup, .iconst 413, .iconst 82, .iastore, .dup, .iconst 414, .iconst 97, .iastore, .dup, .iconst 415, .iconst 110, .iastore, .dup, .iconst 416, .iconst 103, .iastore, .dup, .iconst 417, .iconst 101, .iastore, .dup, .iconst 418, .iconst 32, .iastore, .dup, .iconst 419, .iconst 78, .iastore, .dup, .iconst 420, .iconst 111, .iastore, .dup, .iconst 421, .iconst 116, .iastore, .dup, .iconst 422, .iconst 32, .iastore, .dup, .iconst 423, .iconst 83, .iastore, .dup, .iconst 424, .iconst 97, .iastore, .dup, .iconst 425, .iconst 116, .iastore, .dup, .iconst 426, .iconst 105, .iastore, .dup, .iconst 427, .iconst 115, .iastore, .dup, .iconst 428, .iconst 102, .iastore, .dup, .iconst 429, .iconst 105, .iastore, .dup, .iconst 430, .iconst 97, .iastore, .dup, .iconst 431, .iconst 98, .iastore, .dup, .iconst 432, .iconst 108, .iastore, .dup, .iconst 433, .iconst 101, .iastore, .dup, .iconst 434, .iconst 82, .iastore, .dup, .iconst 435, .iconst 101, .iastore, .dup, .iconst 436, .iconst 113, .iastore, .dup, .iconst 437, .iconst 117, .iastore, .dup, .iconst 438, .iconst 101, .iastore, .dup, .iconst 439, .iconst 115, .iastore, .dup, .iconst 440, .iconst 116, .iastore, .dup, .iconst 441, .iconst 32, .iastore, .dup, .iconst 442, .iconst 72, .iastore, .dup, .iconst 443, .iconst 101, .iastore, .dup, .iconst 444, .iconst 97, .iastore, .dup, .iconst 445, .iconst 100, .iastore, .dup, .iconst 446, .iconst 101, .iastore, .dup, .iconst 447, .iconst 114, .iastore, .dup, .iconst 448, .iconst 32, .iastore, .dup, .iconst 449, .iconst 70, .iastore, .dup, .iconst 450, .iconst 105, .iastore, .dup, .iconst 451, .iconst 101, .iastore, .dup, .iconst 452, .iconst 108, .iastore, .dup, .iconst 453, .iconst 100, .iastore, .dup, .iconst 454, .iconst 115, .iastore, .dup, .iconst 455, .iconst 32, .iastore, .dup, .iconst 456, .iconst 84, .iastore, .dup, .iconst 457, .iconst 111, .iastore, .dup, .iconst 458, .iconst 111, .iastore, .dup, .iconst 459, .iconst 32, .iastore, .dup, .iconst 460, .iconst 76, .iastore, .dup, .iconst 461, .iconst 97, .iastore, .dup, .iconst 462, .iconst 114, .iastore, .dup, .iconst 463, .iconst 103, .iastore, .dup, .iconst 464, .iconst 101, .iastore, .dup, .iconst 465, .iconst 78, .iastore, .dup, .iconst 466, .iconst 111, .iastore, .dup, .iconst 467, .iconst 116, .iastore, .dup, .iconst 468, .iconst 32, .iastore, .dup, .iconst 469, .iconst 73, .iastore, .dup, .iconst 470, .iconst 109, .iastore, .dup, .iconst 471, .iconst 112, .iastore, .dup, .iconst 472, .iconst 108, .iastore, .dup, .iconst 473, .iconst 101, .iastore, .dup, .iconst 474, .iconst 109, .iastore, .dup, .iconst 475, .iconst 101, .iastore, .dup, .iconst 476, .iconst 110, .iastore, .dup, .iconst 477, .iconst 116, .iastore, .dup, .iconst 478, .iconst 101, .iastore, .dup, .iconst 479, .iconst 100, .iastore, .dup, .iconst 480, .iconst 72, .iastore, .dup, .iconst 481, .iconst 84, .iastore, .dup, .iconst 482, .iconst 84, .iastore, .dup, .iconst 483, .iconst 80, .iastore, .dup, .iconst 484, .iconst 32, .iastore, .dup, .iconst 485, .iconst 86, .iastore, .dup, .iconst 486, .iconst 101, .iastore, .dup, .iconst 487, .iconst 114, .iastore, .dup, .iconst 488, .iconst 115, .iastore, .dup, .iconst 489, .iconst 105, .iastore, .dup, .iconst 490, .iconst 111, .iastore, .dup, .iconst 491, .iconst 110, .iastore, .dup, .iconst 492, .iconst 32, .iastore, .dup, .iconst 493, .iconst 78, .iastore, .dup, .iconst 494, .iconst 111, .iastore, .dup, .iconst 495, .iconst 116, .iastore, .dup, .iconst 496, .iconst 32, .iastore, .dup, .iconst 497, .iconst 83, .iastore, .dup, .iconst 498, .iconst 117, .iastore, .dup, .iconst 499, .iconst 112, .iastore, .dup, .iconst 500, .iconst 112, .iastore, .dup, .iconst 501, .iconst 111, .iastore, .dup, .iconst 502, .iconst 114, .iastore, .dup, .iconst 503, .iconst 116, .iastore, .dup, .iconst 504, .iconst 101, .iastore, .dup, .iconst 505, .iconst 100, .iastore, .dup, .iconst 506, .iconst 73, .iastore, .dup, .iconst 507, .iconst 110, .iastore, .dup, .iconst 508, .iconst 115, .iastore, .dup, .iconst 509, .iconst 117, .iastore, .dup, .iconst 510, .iconst 102, .iastore, .dup, .iconst 511, .iconst 102, .iastore, .dup, .iconst 512, .iconst 105, .iastore, .dup, .iconst 513, .iconst 99, .iastore, .dup, .iconst 514, .iconst 105, .iastore, .dup, .iconst 515, .iconst 101, .iastore, .dup, .iconst 516, .iconst 110, .iastore, .dup, .iconst 517, .iconst 116, .iastore, .dup, .iconst 518, .iconst 32, .iastore, .dup, .iconst 519, .iconst 83, .iastore, .dup, .iconst 520, .iconst 116, .iastore, .dup, .iconst 521, .iconst 111, .iastore, .dup, .iconst 522, .iconst 114, .iastore, .dup, .iconst 523, .iconst 97, .iastore, .dup, .iconst 524, .iconst 103, .iastore, .dup, .iconst 525, .iconst 101, .iastore, .putfield 3107, .aload 0, .iconst 42, .newarray .int, .dup, .iconst 0, .iconst 0, .iastore, .dup, .iconst 1, .iconst 9, .iastore, .dup, .iconst 2, .iconst 25, .iastore, .dup, .iconst 3, .iconst 33, .iastore, .dup, .iconst 4, .iconst 54, .iastore, .dup, .iconst 5, .iconst 79, .iastore, .dup, .iconst 6, .iconst 123, .iastore, .dup, .iconst 7, .iconst 140, .iastore, .dup, .iconst 8, .iconst 144, .iastore, .dup, .iconst 9, .iconst 158, .iastore, .dup, .iconst 10, .iconst 175, .iastore, .dup, .iconst 11, .iconst 185, .iastore, .dup, .iconst 12, .iconst 193, .iastore, .dup, .iconst 13, .iconst 206, .iastore, .dup, .iconst 14, .iconst 211, .iastore, .dup, .iconst 15, .iconst 214, .iastore, .dup, .iconst 16, .iconst 218, .iastore, .dup, .iconst 17, .iconst 221, .iastore, .dup, .iconst 18, .iconst 225, .iastore, .dup, .iconst 19, .iconst 231, .iastore, .dup, .iconst 20, .iconst 238, .iastore, .dup, .iconst 21, .iconst 243, .iastore, .dup, .iconst 22, .iconst 253, .iastore, .dup, .iconst 23, .iconst 260, .iastore, .dup, .iconst 24, .iconst 266, .iastore, .dup, .iconst 25, .iconst 268, .iastore, .dup, .iconst 26, .iconst 275, .iastore, .dup, .iconst 27, .iconst 285, .iastore, .dup, .iconst 28, .iconst 300, .iastore, .dup, .iconst 29, .iconst 312, .iastore, .dup, .iconst 30, .iconst 323, .iastore, .dup, .iconst 31, .iconst 332, .iastore, .dup, .iconst 32, .iconst 350, .iastore, .dup, .iconst 33, .iconst 365, .iastore, .dup, .iconst 34, .iconst 384, .iastore, .dup, .iconst 35, .iconst 401, .iastore, .dup, .iconst 36, .iconst 413, .iastore, .dup, .iconst 37, .iconst 434, .iastore, .dup, .iconst 38, .iconst 465, .iastore, .dup, .iconst 39, .iconst 480, .iastore, .dup, .iconst 40, .iconst 506, .iastore, .dup, .iconst 41, .iconst 526, .iastore, .putfield 3108, .aload 0, .iconst 17, .newarray .int, .dup, .iconst 0, .iconst 200, .iastore, .dup, .iconst 1, .iconst 201, .iastore, .dup, .iconst 2, .iconst 204, .iastore, .dup, .iconst 3, .iconst 206, .iastore, .dup, .iconst 4, .iconst 304, .iastore, .dup, .iconst 5, .iconst 400, .iastore, .dup, .iconst 6, .iconst 404, .iastore, .dup, .iconst 7, .iconst 405, .iastore, .dup, .iconst 8, .iconst 411, .iastore, .dup, .iconst 9, .iconst 412, .iastore, .dup, .iconst 10, .iconst 413, .iastore, .dup, .iconst 11, .iconst 414, .iastore, .dup, .iconst 12, .iconst 416, .iastore, .dup, .iconst 13, .iconst 431, .iastore, .dup, .iconst 14, .iconst 501, .iastore, .dup, .iconst 15, .iconst 505, .iastore, .dup, .iconst 16, .iconst 507, .iastore, .putfield 3109, .aload 0, .iconst 61, .newarray .int, .putfield 3110, .aload 0, .iconst 61, .newarray .int, .putfield 3111, .aload 0, .iconst 61, .newarray .int, .putfield 3112, .aload 0, .iconst 61, .newarray .int, .putfield 3113, .aload 0, .iconst 61, .newarray .int, .putfield 3114, .aload 0, .iconst 61, .newarray .int, .putfield 3115, .aload 0, .iconst 61, .newarray .int, .putfield 3116, .aload 0, .iconst 61, .newarray .int, .putfield 3117, .aload 0, .iconst 61, .newarray .int, .putfield 3118, .aload 0, .iconst 61, .newarray .int, .putfield 3119, .aload 0, .iconst 61, .newarray .int, .putfield 3120, .aload 0, .iconst 61, .newarray .int, .putfield 3121, .aload 0, .iconst 61, .newarray .int, .putfield 3122, .aload 0, .iconst 61, .newarray .int, .putfield 3123, .aload 0, .iconst 61, .newarray .int, .putfield 3124, .aload 0, .iconst 61, .newarray .int, .putfield 3125, .aload 0, .iconst 61, .newarray .int, .putfield 3126, .aload 0, .iconst 61, .newarray .int, .putfield 3127, .aload 0, .iconst 61, .newarray .boolean, .putfield 3128, .aload 0, .iconst 61, .newarray .int, .putfield 3129, .aload 0, .iconst 61, .newarray .int, .putfield 3130, .aload 0, .iconst 61, .newarray .int, .putfield 3131, .aload 0, .iconst 61, .newarray .int, .putfield 3132, .aload 0, .iconst 61, .newarray .int, .putfield 3133, .aload 0, .iconst 61, .newarray .int, .putfield 3134, .aload 0, .iconst 61, .newarray .int, .putfield 3135, .aload 0, .iconst 2440, .newarray .int, .putfield 3136, .aload 0, .iconst 6100, .newarray .int, .putfield 3137, .aload 0, .iconst 18300, .newarray .int, .putfield 3138, .aload 0, .iconst 2, .newarray .int, .putfield 3140, .aload 0, .iconst 2, .newarray .int, .putfield 3141, .aload 0, .iconst 16, .newarray .int, .putfield 3142, .aload 0, .iconst 208, .newarray .int, .putfield 3143, .aload 0, .iconst 16, .newarray .int, .putfield 3144, .aload 0, .iconst 16, .newarray .int, .putfield 3145, .aload 0, .iconst 4800, .newarray .int, .putfield 3146, .aload 0, .iconst 32768, .newarray .int, .putfield 3151, .aload 0, .iconst 512, .newarray .int, .putfield 3153, .aload 0, .iconst 512, .newarray .int, .putfield 3154, .aload 0, .iconst 512, .newarray .int, .putfield 3155, .aload 0, .iconst 512, .newarray .int, .putfield 3156, .aload 0, .iconst 512, .newarray .int, .putfield 3157, .aload 0, .iconst 512, .newarray .int, .putfield 3158, .aload 0, .iconst 512, .newarray .int, .putfield 3159, .aload 0, .iconst 512, .newarray .int, .putfield 3160, .aload 0, .iconst 60, .newarray .int, .putfield 3162, .aload 0, .iconst 60, .newarray .int, .putfield 3163, .aload 0, .iconst 60, .newarray .int, .putfield 3164, .aload 0, .iconst 60, .newarray .boolean, .putfield 3165, .aload 0, .iconst 60, .newarray .int, .putfield 3166, .aload 0, .iconst 60, .newarray .int, .putfield 3167], .return_)]
def am_p244 : List Nat := [0, 38]
def am_cds2_0 : List am_Cd := [(190, am_k190, am_p190, []), (191, am_k191, am_p191, []), (192, am_k192, am_p192, []), (193, am_k193, am_p193, []), (194, am_k194, am_p194, []), (195, am_k195, am_p195, []), (196, am_k196, am_p196, []), (197, am_k197, am_p197, []), (198, am_k198, am_p198, []), (199, am_k199, am_p199, []), (200, am_k200, am_p200, []), (201, am_k201, am_p201, []), (202, am_k202, am_p202, []), (203, am_k203, am_p203, []), (204, am_k204, am_p204, []), (205, am_k205, am_p205, []), (206, am_k206, am_p206, []), (207, am_k207, am_p207, [])]
theorem am_ckL2_0 : am_cds2_0.all am_ckL = true := by decide +kernel
def am_cds2_1 : List am_Cd := [(208, am_k208, am_p208, []), (209, am_k209, am_p209, []), (210, am_k210, am_p210, []), (211, am_k211, am_p211, []), (212, am_k212, am_p212, []), (213, am_k213, am_p213, []), (214, am_k214, am_p214, []), (215, am_k215, am_p215, []), (216, am_k216, am_p216, []), (217, am_k217, am_p217, [])]
theorem am_ckL2_1 : am_cds2_1.all am_ckL = true := by decide +kernel
def am_cds2_2 : List am_Cd := [(218, am_k218, am_p218, []), (219, am_k219, am_p219, []), (220, am_k220, am_p220, []), (221, am_k221, am_p221, []), (222, am_k222, am_p222, []), (223, am_k223, am_p223, []), (224, am_k224, am_p224, []), (225, am_k225, am_p225, []), (226, am_k226, am_p226, []), (227, am_k227, am_p227, []), (228, am_k228, am_p228, []), (229, am_k229, am_p229, []), (230, am_k230, am_p230, []), (231, am_k231, am_p231, []), (232, am_k232, am_p232, []), (233, am_k233, am_p233, []), (234, am_k234, am_p234, []), (235, am_k235, am_p235, []), (236, am_k236, am_p236, []), (237, am_k237, am_p237, []), (238, am_k238, am_p238, [])]
theorem am_ckL2_2 : am_cds2_2.all am_ckL = true := by decide +kernel
def am_cds2_3 : List am_Cd := [(239, am_k239, am_p239, []), (240, am_k240, am_p240, []), (241, am_k241, am_p241, []), (242, am_k242, am_p242, []), (243, am_k243, am_p243, [])]
theorem am_ckL2_3 : am_cds2_3.all am_ckL = true := by decide +kernel
def am_cds2_4 : List am_Cd := [(244, am_k244, am_p244, [])]
theorem am_ckL2_4 : am_cds2_4.all am_ckL = true := by decide +kernel
def am_cds2 : List am_Cd := am_cds2_0 ++ (am_cds2_1 ++ (am_cds2_2 ++ (am_cds2_3 ++ (am_cds2_4))))
theorem am_ckL2 : am_cds2.all am_ckL = true := by simp only [am_cds2, List.all_append, am_ckL2_0, am_ckL2_1, am_ckL2_2, am_ckL2_3, am_ckL2_4, Bool.and_self]
end
section
/-! THE CODE, by program: part 3 -/
/-- X20_thrown -/
def am_k245 : List (List Instr × Instr) := [([.aload 0, .getfield 3072], .ireturn)]
def am_p245 : List Nat := [0]
/-- X20_in -/
def am_k246 : List (List Instr × Instr) := [([.lload 0, .lload 2, .lcmp], .ifCond .lt 3), ([.lload 0, .lload 4, .lcmp], .ifCond .gt 3), ([.iconst 1], .goto 4), ([.iconst 0], .nop), ([], .ireturn)]
def am_p246 : List Nat := [0, 6, 13, 17, 18]
/-- X20_fine -/
def am_k247 : List (List Instr × Instr) := [([.aload 0, .iload 1], .ifCond .eq 2), ([.iconst 0], .goto 3), ([.iconst 1], .nop), ([.putfield 3072, .iload 1], .ireturn)]
def am_p247 : List Nat := [0, 5, 9, 10]
/-- X20_fine_ -/
def am_k248 : List (List Instr × Instr) := [([.aload 0, .iload 1], .ifCond .ne 2), ([.iconst 1], .goto 5), ([.iload 2], .ifCond .ne 4), ([.iconst 2], .goto 5), ([.iconst 0], .nop), ([.putfield 3072, .aload 0, .getfield 3072], .ifCond .ne 7), ([.iconst 1], .goto 8), ([.iconst 0], .nop), ([], .ireturn)]
def am_p248 : List Nat := [0, 5, 9, 13, 17, 18, 28, 32, 33]
/-- X20_fine__ -/
def am_k249 : List (List Instr × Instr) := [([.aload 0, .iload 1], .ifCond .ne 2), ([.iconst 1], .goto 7), ([.iload 2], .ifCond .ne 4), ([.iconst 2], .goto 7), ([.iload 3], .ifCond .ne 6), ([.iconst 3], .goto 7), ([.iconst 0], .nop), ([.putfield 3072, .aload 0, .getfield 3072], .ifCond .ne 9), ([.iconst 1], .goto 10), ([.iconst 0], .nop), ([], .ireturn)]
def am_p249 : List Nat := [0, 5, 9, 13, 17, 21, 25, 26, 36, 40, 41]
/-- X20_tapeLength -/
def am_k250 : List (List Instr × Instr) := [([.aload 0, .getfield 3076], .ireturn)]
def am_p250 : List Nat := [0]
/-- X20_tapeAt -/
def am_k251 : List (List Instr × Instr) := [([.aload 0, .getfield 3075, .iload 1, .iaload], .ireturn)]
def am_p251 : List Nat := [0]
/-- X20_tapeDrops -/
def am_k252 : List (List Instr × Instr) := [([.iload 1, .istore 2], .nop), ([.iload 2, .aload 0, .getfield 3076], .if_icmp .ge 3), ([.aload 0, .getfield 3075, .iload 2, .iload 1, .isub, .aload 0, .getfield 3075, .iload 2, .iaload, .iastore, .iinc 2 1], .goto 1), ([.aload 0, .dup, .getfield 3076, .iload 1, .isub, .putfield 3076], .return_)]
def am_p252 : List Nat := [0, 2, 10, 30]
/-- X20_bytesOf -/
def am_k253 : List (List Instr × Instr) := [([.iconst 0, .istore 2, .iconst 0, .istore 3], .nop), ([.iload 3, .iconst 8], .if_icmp .ge 6), ([.iload 2, .lload 0, .iconst 8, .iload 3, .imul, .lushr, .jsr_w 255, .land, .jsr_w 0, .lcmp], .ifCond .ne 4), ([.iconst 0], .goto 5), ([.iconst 1], .nop), ([.iadd, .istore 2, .iinc 3 1], .goto 1), ([.iload 2], .ireturn)]
def am_p253 : List Nat := [0, 4, 10, 26, 30, 31, 39]
/-- X20_puts -/
def am_k254 : List (List Instr × Instr) := [([.iconst 7, .istore 3], .nop), ([.iload 3], .ifCond .lt 5), ([.lload 1, .iconst 8, .iload 3, .imul, .lushr, .jsr_w 255, .land, .l2i, .istore 4, .iload 4], .ifCond .eq 4), ([.aload 0, .getfield 3075, .aload 0, .getfield 3076, .iload 4, .iastore, .aload 0, .dup, .getfield 3076, .iconst 1, .iadd, .putfield 3076], .nop), ([.iinc 3 (-1)], .goto 1), ([], .return_)]
def am_p254 : List Nat := [0, 3, 7, 25, 46, 52]
/-- X20_type -/
def am_k255 : List (List Instr × Instr) := [([.lload 1], .invokeinterface 253 1), ([.lload 3], .invokeinterface 253 1), ([.iadd, .lload 5], .invokeinterface 253 1), ([.iadd, .lload 7], .invokeinterface 253 1), ([.iadd, .lload 9], .invokeinterface 253 1), ([.iadd, .lload 11], .invokeinterface 253 1), ([.iadd, .istore 13, .aload 0, .aload 0, .getfield 3076, .iload 13, .iadd, .iconst 400], .if_icmp .gt 8), ([.iconst 1], .goto 9), ([.iconst 0], .nop), ([], .invokeinterface 247 1538), ([], .ifCond .ne 12), ([.iconst 0], .ireturn), ([.aload 0, .lload 1], .invokeinterface 254 1538), ([.aload 0, .lload 3], .invokeinterface 254 1538), ([.aload 0, .lload 5], .invokeinterface 254 1538), ([.aload 0, .lload 7], .invokeinterface 254 1538), ([.aload 0, .lload 9], .invokeinterface 254 1538), ([.aload 0, .lload 11], .invokeinterface 254 1538), ([.aload 0, .getfield 3076], .ireturn)]
def am_p255 : List Nat := [0, 4, 8, 14, 20, 26, 32, 49, 53, 54, 57, 60, 62, 67, 72, 78, 84, 90, 96]
/-- X20_put -/
def am_k256 : List (List Instr × Instr) := [([.aload 0, .iload 1, .i2l, .jsr_w 0, .jsr_w 255], .invokeinterface 246 3), ([], .ifCond .eq 5), ([.iload 2, .i2l, .jsr_w 1, .jsr_w 300], .invokeinterface 246 3), ([], .ifCond .eq 5), ([.iconst 1], .goto 6), ([.iconst 0], .nop), ([.aload 0, .getfield 3076, .iload 2, .iadd, .iconst 400], .if_icmp .gt 8), ([.iconst 1], .goto 9), ([.iconst 0], .nop), ([], .invokeinterface 248 1539), ([], .ifCond .ne 12), ([.iconst 0], .ireturn), ([.iconst 0, .istore 3], .nop), ([.iload 3, .iload 2], .if_icmp .ge 15), ([.aload 0, .getfield 3075, .aload 0, .getfield 3076, .iload 1, .iastore, .aload 0, .dup, .getfield 3076, .iconst 1, .iadd, .putfield 3076, .iinc 3 1], .goto 13), ([.aload 0, .getfield 3076], .ireturn)]
def am_p256 : List Nat := [0, 10, 13, 22, 25, 29, 30, 42, 46, 47, 50, 53, 55, 57, 62, 88]
/-- X20_pieceOf -/
def am_k257 : List (List Instr × Instr) := [([.iload 0], .tableswitch 6 0 4 #[1, 2, 3, 4, 5]), ([.ldc 97], .areturn), ([.ldc 98], .areturn), ([.ldc 99], .areturn), ([.ldc 100], .areturn), ([.ldc 101], .areturn), ([.ldc 102], .areturn)]
def am_p257 : List Nat := [0, 36, 39, 43, 47, 51, 55]
/-- X20_piece -/
def am_k258 : List (List Instr × Instr) := [([.iload 1], .invokeinterface 257 1), ([.astore 2, .iconst 0, .istore 3, .iconst 0, .istore 4], .nop), ([.iload 4, .aload 2], .invokeinterface 901 1), ([], .if_icmp .ge 9), ([.iload 3, .aload 2, .iload 4], .invokeinterface 902 2), ([.iconst 124], .if_icmp .ne 7), ([.iconst 2], .goto 8), ([.iconst 1], .nop), ([.iadd, .istore 3, .iinc 4 1], .goto 2), ([.aload 0, .iload 1, .i2l, .jsr_w 0, .jsr_w 5], .invokeinterface 246 3), ([.aload 0, .getfield 3076, .iload 3, .iadd, .iconst 400], .if_icmp .gt 12), ([.iconst 1], .goto 13), ([.iconst 0], .nop), ([], .invokeinterface 248 1539), ([], .ifCond .ne 16), ([.iconst 0], .ireturn), ([.iconst 0, .istore 4], .nop), ([.iload 4, .aload 2], .invokeinterface 901 1), ([], .if_icmp .ge 26), ([.aload 2, .iload 4], .invokeinterface 902 2), ([.istore 5, .aload 0, .getfield 3075, .aload 0, .getfield 3076, .iload 5, .iconst 124], .if_icmp .ne 22), ([.iconst 13], .goto 23), ([.iload 5], .nop), ([.iastore, .aload 0, .dup, .getfield 3076, .iconst 1, .iadd, .putfield 3076, .iload 5, .iconst 124], .if_icmp .ne 25), ([.aload 0, .getfield 3075, .aload 0, .getfield 3076, .iconst 10, .iastore, .aload 0, .dup, .getfield 3076, .iconst 1, .iadd, .putfield 3076], .nop), ([.iinc 4 1], .goto 17), ([.aload 0, .getfield 3076], .ireturn)]
def am_p258 : List Nat := [0, 4, 10, 16, 19, 26, 31, 35, 36, 44, 54, 66, 70, 71, 74, 77, 79, 82, 88, 91, 97, 114, 119, 121, 139, 160, 166]
/-- X20_clear -/
def am_k259 : List (List Instr × Instr) := [([.aload 0, .iconst 0, .putfield 3072, .aload 0, .getfield 3076, .istore 1, .aload 0, .iconst 0, .putfield 3076, .iload 1], .ireturn)]
def am_p259 : List Nat := [0]
/-- X20_added -/
def am_k260 : List (List Instr × Instr) := [([.iload 0, .istore 4, .iconst 0, .istore 5], .nop), ([.iload 5, .iload 3], .if_icmp .ge 9), ([.iload 5, .iconst 1, .iadd, .iload 3], .if_icmp .ge 4), ([.aload 1, .iload 2, .iload 5, .iadd, .iconst 1, .iadd, .iaload], .goto 5), ([.iconst 0], .nop), ([.istore 6, .iload 4, .iconst 256, .aload 1, .iload 2, .iload 5, .iadd, .iaload, .imul, .iload 6, .iadd, .iadd, .istore 4, .iload 4, .iconst 65535], .if_icmp .le 7), ([.iload 4, .iconst 65535, .isub], .goto 8), ([.iload 4], .nop), ([.istore 4, .iinc 5 2], .goto 1), ([.iload 4], .ireturn)]
def am_p260 : List Nat := [0, 6, 12, 20, 31, 32, 60, 69, 71, 79]
/-- X20_sumOf -/
def am_k261 : List (List Instr × Instr) := [([.iconst 65535, .iconst 0, .aload 0, .iload 1, .iload 2], .invokeinterface 260 4), ([.isub], .ireturn)]
def am_p261 : List Nat := [0, 10]
/-- X20_sumOver -/
def am_k262 : List (List Instr × Instr) := [([.iconst 12, .newarray .int, .dup, .iconst 0, .iconst 10, .iastore, .dup, .iconst 1, .iconst 0, .iastore, .dup, .iconst 2, .iconst 0, .iastore, .dup, .iconst 3, .iload 1, .iconst 1, .iadd, .iastore, .dup, .iconst 4, .iconst 10, .iastore, .dup, .iconst 5, .iconst 0, .iastore, .dup, .iconst 6, .iconst 0, .iastore, .dup, .iconst 7, .iload 2, .iconst 1, .iadd, .iastore, .dup, .iconst 8, .iconst 0, .iastore, .dup, .iconst 9, .iload 3, .iastore, .dup, .iconst 10, .iload 6, .iconst 8, .ishr, .iastore, .dup, .iconst 11, .iload 6, .iconst 255, .iand, .iastore, .astore 7, .iconst 65535, .iconst 0, .aload 7, .iconst 0, .iconst 12], .invokeinterface 260 4), ([.aload 4, .iload 5, .iload 6], .invokeinterface 260 4), ([.isub], .ireturn)]
def am_p262 : List Nat := [0, 87, 96]
/-- X20_sum -/
def am_k263 : List (List Instr × Instr) := [([.aload 0, .iload 1], .ifCond .lt 4), ([.iload 1, .iload 2], .if_icmp .gt 4), ([.iload 2, .aload 0, .getfield 3076], .if_icmp .gt 4), ([.iconst 1], .goto 5), ([.iconst 0], .nop), ([], .invokeinterface 247 1538), ([], .ifCond .ne 8), ([.iconst 0], .ireturn), ([.aload 0, .getfield 3075, .iload 1, .iload 2, .iload 1, .isub], .invokeinterface 261 3), ([], .ireturn)]
def am_p263 : List Nat := [0, 5, 10, 18, 22, 23, 26, 29, 31, 42]
/-- X20_mssOf -/
def am_k264 : List (List Instr × Instr) := [([.aload 0, .getfield 3077, .iload 1, .aaload, .getfield 2432], .ireturn)]
def am_p264 : List Nat := [0]
/-- X20_addHost -/
def am_k265 : List (List Instr × Instr) := [([.aload 0, .iload 1, .i2l, .jsr_w 100, .jsr_w 600], .invokeinterface 246 3), ([], .ifCond .eq 5), ([.iload 2, .i2l, .jsr_w 40, .jsr_w 500], .invokeinterface 246 3), ([], .ifCond .eq 5), ([.iconst 1], .goto 6), ([.iconst 0], .nop), ([.aload 0, .getfield 3074, .iconst 5], .if_icmp .ge 8), ([.iconst 1], .goto 9), ([.iconst 0], .nop), ([], .invokeinterface 248 1539), ([], .ifCond .ne 12), ([.iconst 0], .ireturn), ([.aload 0, .getfield 3077, .aload 0, .getfield 3074, .new 19, .dup, .iload 1, .iload 2], .invokeinterface 229 1219), ([.aastore, .aload 0, .dup, .getfield 3074, .iconst 1, .iadd, .putfield 3074, .aload 0, .getfield 3074, .iconst 1, .isub], .ireturn)]
def am_p265 : List Nat := [0, 12, 15, 26, 29, 33, 34, 42, 46, 47, 50, 53, 55, 72]
/-- X20_setMtu -/
def am_k266 : List (List Instr × Instr) := [([.aload 0, .aload 0, .iload 1], .invokeinterface 386 1538), ([.iload 2, .i2l, .jsr_w 100, .jsr_w 600], .invokeinterface 246 3), ([], .invokeinterface 248 1539), ([], .ifCond .ne 5), ([.iconst 0], .ireturn), ([.aload 0, .getfield 3077, .iload 1, .aaload, .getfield 2433, .istore 3, .aload 0, .getfield 3077, .iload 1, .aaload, .iload 2, .putfield 2433, .iload 3], .ireturn)]
def am_p266 : List Nat := [0, 6, 17, 20, 23, 25]
/-- X20_hostAt -/
def am_k267 : List (List Instr × Instr) := [([.aload 0, .aload 0, .iload 1], .invokeinterface 386 1538), ([.iload 2, .i2l, .jsr_w 0, .jsr_w 5], .invokeinterface 246 3), ([], .invokeinterface 248 1539), ([], .ifCond .ne 5), ([.iconst 0], .ireturn), ([.aload 0, .getfield 3077, .iload 1, .aaload, .astore 3, .iload 2], .tableswitch 11 0 4 #[6, 7, 8, 9, 10]), ([.aload 3, .getfield 2437], .ireturn), ([.aload 3, .getfield 2438], .ireturn), ([.aload 3, .getfield 2434], .ireturn), ([.aload 3, .getfield 2439], .ireturn), ([.aload 3, .getfield 2435], .ireturn), ([.aload 3, .getfield 2436], .ireturn)]
def am_p267 : List Nat := [0, 6, 15, 18, 21, 23, 64, 69, 74, 79, 84, 89]
/-- X20_addressOf -/
def am_k268 : List (List Instr × Instr) := [([.iconst 167772160, .iload 0, .iconst 1, .iadd, .ior], .ireturn)]
def am_p268 : List Nat := [0]
/-- X20_hostWith -/
def am_k269 : List (List Instr × Instr) := [([.iload 1, .iconst 16777215, .iand, .iconst 1, .isub, .istore 2, .iload 1, .iconst 24, .iushr, .iconst 10], .if_icmp .ne 4), ([.aload 0, .iload 2], .invokeinterface 386 1538), ([], .ifCond .eq 4), ([.iload 2], .goto 5), ([.iconst (-1)], .nop), ([], .ireturn)]
def am_p269 : List Nat := [0, 17, 22, 25, 29, 30]
/-- X20_hardwareOf -/
def am_k270 : List (List Instr × Instr) := [([.jsr_w 2199023255552, .iload 0, .iconst 1, .iadd, .i2l, .lor], .lreturn)]
def am_p270 : List Nat := [0]
/-- X20_knownOf -/
def am_k271 : List (List Instr × Instr) := [([.iconst 0, .istore 2], .nop), ([.iload 2, .aload 0, .getfield 2437], .if_icmp .ge 5), ([.aload 0, .getfield 2440, .iload 2, .aaload, .getfield 2560, .iload 1], .if_icmp .ne 4), ([.aload 0, .getfield 2440, .iload 2, .aaload], .areturn), ([.iinc 2 1], .goto 1), ([.aconst_null], .areturn)]
def am_p271 : List Nat := [0, 2, 10, 23, 30, 36]
/-- X20_tableAt -/
def am_k272 : List (List Instr × Instr) := [([.aload 0, .aload 0, .iload 1], .invokeinterface 386 1538), ([], .ifCond .eq 5), ([.aload 0, .iload 2], .invokeinterface 386 1538), ([], .ifCond .eq 5), ([.iconst 1], .goto 6), ([.iconst 0], .nop), ([], .invokeinterface 247 1538), ([], .ifCond .ne 9), ([.iconst 0], .ireturn), ([.aload 0, .getfield 3077, .iload 1, .aaload, .iload 2], .invokeinterface 268 1), ([], .invokeinterface 271 2), ([.astore 3, .aload 3], .ifnonnull 13), ([.iconst (-1)], .goto 14), ([.aload 3, .getfield 2561, .jsr_w 255, .land, .l2i], .nop), ([], .ireturn)]
def am_p272 : List Nat := [0, 6, 9, 14, 17, 21, 22, 25, 28, 30, 40, 43, 48, 52, 61]
/-- X20_puts_ -/
def am_k273 : List (List Instr × Instr) := [([.iconst 0, .istore 5], .nop), ([.iload 5, .iload 4], .if_icmp .ge 3), ([.aload 0, .iload 1, .iload 5, .iadd, .lload 2, .iconst 8, .iload 4, .iconst 1, .isub, .iload 5, .isub, .imul, .lushr, .jsr_w 255, .land, .l2i, .iastore, .iinc 5 1], .goto 1), ([], .return_)]
def am_p273 : List Nat := [0, 3, 10, 39]
/-- X20_number -/
def am_k274 : List (List Instr × Instr) := [([.jsr_w 0, .lstore 3, .iconst 0, .istore 5], .nop), ([.iload 5, .iload 2], .if_icmp .ge 3), ([.lload 3, .iconst 8, .lshl, .aload 0, .iload 1, .iload 5, .iadd, .iaload, .i2l, .lor, .lstore 3, .iinc 5 1], .goto 1), ([.lload 3], .lreturn)]
def am_p274 : List Nat := [0, 5, 11, 30]
/-- X20_toWire -/
def am_k275 : List (List Instr × Instr) := [([.aload 0, .dup, .getfield 3082, .jsr_w 1, .ladd, .putfield 3082, .aload 0, .getfield 3079, .iconst 100], .if_icmp .ne 2), ([.aload 0, .dup, .getfield 3080, .iconst 1, .iadd, .putfield 3080], .return_), ([.aload 0, .getfield 3078, .aload 0, .getfield 3079, .aload 1, .aastore, .aload 0, .dup, .getfield 3079, .iconst 1, .iadd, .putfield 3079], .return_)]
def am_p275 : List Nat := [0, 19, 30]
/-- X20_frame -/
def am_k276 : List (List Instr × Instr) := [([.new 18, .dup], .invokeinterface 228 1153), ([.astore 7, .aload 7, .iconst 14, .aload 5, .arraylength, .iadd, .newarray .int, .putfield 2304, .aload 7, .getfield 2304, .iconst 0, .lload 2, .iconst 6], .invokeinterface 273 4), ([.aload 7, .getfield 2304, .iconst 6, .iload 1], .invokeinterface 270 1), ([.iconst 6], .invokeinterface 273 4), ([.aload 7, .getfield 2304, .iconst 12, .iload 4, .i2l, .iconst 2], .invokeinterface 273 4), ([.iconst 0, .istore 8], .nop), ([.iload 8, .aload 5, .arraylength], .if_icmp .ge 8), ([.aload 7, .getfield 2304, .iconst 14, .iload 8, .iadd, .aload 5, .iload 8, .iaload, .iastore, .iinc 8 1], .goto 6), ([.aload 7, .iload 1, .putfield 2305, .aload 7, .iload 6, .putfield 2307, .aload 0, .aload 7], .invokeinterface 275 1538), ([], .return_)]
def am_p276 : List Nat := [0, 7, 34, 45, 50, 64, 67, 75, 97, 116]
/-- X20_takenOff -/
def am_k277 : List (List Instr × Instr) := [([.aload 0, .getfield 3078, .iload 1, .aaload, .astore 2, .aload 0, .dup, .getfield 3079, .iconst 1, .isub, .putfield 3079, .iload 1, .istore 3], .nop), ([.iload 3, .aload 0, .getfield 3079], .if_icmp .ge 3), ([.aload 0, .getfield 3078, .iload 3, .aload 0, .getfield 3078, .iload 3, .iconst 1, .iadd, .aaload, .aastore, .iinc 3 1], .goto 1), ([.aload 2], .areturn)]
def am_p277 : List Nat := [0, 19, 27, 47]
/-- X20_delivers -/
def am_k278 : List (List Instr × Instr) := [([.aload 0, .iload 1], .invokeinterface 277 1538), ([.astore 2, .aload 0, .dup, .getfield 3083, .jsr_w 1, .ladd, .putfield 3083, .aload 2, .getfield 2304, .iconst 0, .iconst 6], .invokeinterface 274 3), ([.lstore 3, .iconst 0, .istore 5, .iconst 0, .istore 6], .nop), ([.iload 6, .aload 0, .getfield 3074], .if_icmp .ge 11), ([.lload 3, .jsr_w 281474976710655, .lcmp], .ifCond .ne 7), ([.iload 6, .aload 2, .getfield 2305], .if_icmp .eq 10), ([], .goto 9), ([.lload 3, .iload 6], .invokeinterface 270 1), ([.lcmp], .ifCond .ne 10), ([.iinc 5 1, .aload 0, .iload 6, .aload 2, .getfield 2304], .invokeinterface 286 1539), ([.iinc 6 1], .goto 3), ([.iload 5], .ireturn)]
def am_p278 : List Nat := [0, 5, 26, 33, 42, 50, 59, 62, 68, 72, 85, 91]
/-- X20_deliver -/
def am_k279 : List (List Instr × Instr) := [([.aload 0, .iload 1, .i2l, .jsr_w 0, .jsr_w 1000], .invokeinterface 246 3), ([], .invokeinterface 247 1538), ([], .ifCond .ne 4), ([.iconst 0], .ireturn), ([.aload 0, .getfield 3079], .ifCond .ne 6), ([.iconst (-1)], .goto 7), ([.aload 0, .iload 1, .aload 0, .getfield 3079, .irem], .invokeinterface 278 1538), ([], .ireturn)]
def am_p279 : List Nat := [0, 10, 13, 16, 18, 25, 29, 39]
/-- X20_lose -/
def am_k280 : List (List Instr × Instr) := [([.aload 0, .iload 1, .i2l, .jsr_w 0, .jsr_w 1000], .invokeinterface 246 3), ([], .invokeinterface 247 1538), ([], .ifCond .ne 4), ([.iconst 0], .ireturn), ([.aload 0, .getfield 3079], .ifCond .ne 6), ([.iconst (-1)], .ireturn), ([.aload 0, .dup, .getfield 3080, .iconst 1, .iadd, .putfield 3080, .aload 0, .iload 1, .aload 0, .getfield 3079, .irem], .invokeinterface 277 1538), ([.getfield 2304, .arraylength], .ireturn)]
def am_p280 : List Nat := [0, 10, 13, 16, 18, 25, 27, 47]
/-- X20_twice -/
def am_k281 : List (List Instr × Instr) := [([.aload 0, .iload 1, .i2l, .jsr_w 0, .jsr_w 1000], .invokeinterface 246 3), ([], .invokeinterface 247 1538), ([], .ifCond .ne 4), ([.iconst 0], .ireturn), ([.aload 0, .getfield 3079], .ifCond .ne 6), ([.iconst (-1)], .ireturn), ([.aload 0, .getfield 3078, .iload 1, .aload 0, .getfield 3079, .irem, .aaload, .astore 2, .new 18, .dup], .invokeinterface 228 1153), ([.astore 3, .aload 3, .aload 2, .getfield 2304, .iconst 0, .aload 2, .getfield 2304, .arraylength], .invokeinterface 285 3), ([.putfield 2304, .aload 3, .aload 2, .getfield 2305, .putfield 2305, .aload 3, .aload 2, .getfield 2306, .putfield 2306, .aload 3, .aload 2, .getfield 2307, .putfield 2307, .aload 0, .aload 3], .invokeinterface 275 1538), ([.aload 2, .getfield 2304, .arraylength], .ireturn)]
def am_p281 : List Nat := [0, 10, 13, 16, 18, 25, 27, 46, 61, 93]
/-- X20_spoil -/
def am_k282 : List (List Instr × Instr) := [([.aload 0, .iload 1, .i2l, .jsr_w 0, .jsr_w 1000], .invokeinterface 246 3), ([], .ifCond .eq 7), ([.iload 2, .i2l, .jsr_w 0, .jsr_w 1000], .invokeinterface 246 3), ([], .ifCond .eq 7), ([.iload 3, .i2l, .jsr_w 1, .jsr_w 255], .invokeinterface 246 3), ([], .ifCond .eq 7), ([.iconst 1], .goto 8), ([.iconst 0], .nop), ([], .invokeinterface 247 1538), ([], .ifCond .ne 11), ([.iconst 0], .ireturn), ([.aload 0, .getfield 3079], .ifCond .ne 13), ([.iconst (-1)], .ireturn), ([.aload 0, .getfield 3078, .iload 1, .aload 0, .getfield 3079, .irem, .aaload, .astore 4, .aload 4, .getfield 2306], .ifCond .ne 15), ([.aload 4, .getfield 2307], .ifCond .eq 16), ([.iconst (-1)], .ireturn), ([.iload 2, .aload 4, .getfield 2304, .arraylength, .irem, .istore 5, .aload 4, .getfield 2304, .iload 5, .dup2, .iaload, .iload 3, .ixor, .iastore, .aload 4, .iconst 1, .putfield 2306, .aload 0, .dup, .getfield 3081, .iconst 1, .iadd, .putfield 3081, .iload 5], .ireturn)]
def am_p282 : List Nat := [0, 10, 13, 22, 25, 34, 37, 41, 42, 45, 48, 50, 57, 59, 80, 88, 90]
/-- X20_frameAt -/
def am_k283 : List (List Instr × Instr) := [([.aload 0, .iload 1, .i2l, .jsr_w 0, .aload 0, .getfield 3079, .iconst 1, .isub, .i2l], .invokeinterface 246 3), ([.iload 2, .i2l, .jsr_w 0, .jsr_w 3], .invokeinterface 246 3), ([], .invokeinterface 248 1539), ([], .ifCond .ne 5), ([.iconst 0], .ireturn), ([.aload 0, .getfield 3078, .iload 1, .aaload, .astore 3, .iload 2], .ifCond .ne 7), ([.aload 3, .getfield 2304, .arraylength], .goto 15), ([.iload 2, .iconst 1], .if_icmp .ne 9), ([.aload 3, .getfield 2305], .goto 15), ([.iload 2, .iconst 2], .if_icmp .ne 12), ([.aload 3, .getfield 2306], .ifCond .eq 14), ([], .goto 13), ([.aload 3, .getfield 2307], .ifCond .eq 14), ([.iconst 1], .goto 15), ([.iconst 0], .nop), ([], .ireturn)]
def am_p283 : List Nat := [0, 14, 23, 26, 29, 31, 42, 50, 55, 62, 67, 74, 77, 84, 88, 89]
/-- X20_byteAt -/
def am_k284 : List (List Instr × Instr) := [([.aload 0, .iload 1, .i2l, .jsr_w 0, .aload 0, .getfield 3079, .iconst 1, .isub, .i2l], .invokeinterface 246 3), ([], .ifCond .eq 5), ([.iload 2, .i2l, .jsr_w 0, .aload 0, .getfield 3078, .iload 1, .aaload, .getfield 2304, .arraylength, .iconst 1, .isub, .i2l], .invokeinterface 246 3), ([], .ifCond .eq 5), ([.iconst 1], .goto 6), ([.iconst 0], .nop), ([], .invokeinterface 247 1538), ([], .ifCond .ne 9), ([.iconst 0], .ireturn), ([.aload 0, .getfield 3078, .iload 1, .aaload, .getfield 2304, .iload 2, .iaload], .ireturn)]
def am_p284 : List Nat := [0, 14, 17, 36, 39, 43, 44, 47, 50, 52]
/-- X20_copy -/
def am_k285 : List (List Instr × Instr) := [([.iload 2, .newarray .int, .astore 3, .iconst 0, .istore 4], .nop), ([.iload 4, .iload 2], .if_icmp .ge 3), ([.aload 3, .iload 4, .aload 0, .iload 1, .iload 4, .iadd, .iaload, .iastore, .iinc 4 1], .goto 1), ([.aload 3], .areturn)]
def am_p285 : List Nat := [0, 7, 13, 29]
/-- X20_takes -/
def am_k286 : List (List Instr × Instr) := [([.aload 2, .arraylength, .iconst 14], .if_icmp .ge 2), ([.aload 0, .getfield 3077, .iload 1, .aaload, .dup, .getfield 2436, .iconst 1, .iadd, .putfield 2436], .return_), ([.iconst 256, .aload 2, .iconst 12, .iaload, .imul, .aload 2, .iconst 13, .iaload, .iadd, .istore 3, .aload 2, .iconst 14, .aload 2, .arraylength, .iconst 14, .isub], .invokeinterface 285 3), ([.astore 4, .iload 3, .iconst 2054], .if_icmp .ne 6), ([.aload 0, .iload 1, .aload 4], .invokeinterface 288 1539), ([], .goto 11), ([.iload 3, .iconst 2048], .if_icmp .ne 10), ([.aload 0, .iload 1, .aload 4], .invokeinterface 295 1539), ([], .ifCond .eq 10), ([.iconst 1], .goto 11), ([.iconst 0], .nop), ([.istore 5, .iload 5], .ifCond .ne 13), ([.aload 0, .getfield 3077, .iload 1, .aaload, .dup, .getfield 2436, .iconst 1, .iadd, .putfield 2436], .nop), ([], .return_)]
def am_p286 : List Nat := [0, 7, 23, 48, 57, 64, 67, 74, 81, 84, 88, 89, 96, 111]
/-- X20_message -/
def am_k287 : List (List Instr × Instr) := [([.iconst 28, .newarray .int, .astore 7, .aload 7, .iconst 0, .jsr_w 4429186564, .iconst 6], .invokeinterface 273 4), ([.aload 7, .iconst 6, .iload 0, .i2l, .iconst 2], .invokeinterface 273 4), ([.aload 7, .iconst 8, .lload 1, .iconst 6], .invokeinterface 273 4), ([.aload 7, .iconst 14, .iload 3, .i2l, .jsr_w 4294967295, .land, .iconst 4], .invokeinterface 273 4), ([.aload 7, .iconst 18, .lload 4, .iconst 6], .invokeinterface 273 4), ([.aload 7, .iconst 24, .iload 6, .i2l, .jsr_w 4294967295, .land, .iconst 4], .invokeinterface 273 4), ([.aload 7], .areturn)]
def am_p287 : List Nat := [0, 17, 27, 37, 51, 62, 77]
/-- X20_takesMessage -/
def am_k288 : List (List Instr × Instr) := [([.aload 2, .arraylength, .iconst 28], .if_icmp .ne 3), ([.aload 2, .iconst 0, .iconst 6], .invokeinterface 274 3), ([.jsr_w 4429186564, .lcmp], .ifCond .eq 4), ([.iconst 0], .ireturn), ([.aload 2, .iconst 6, .iconst 2], .invokeinterface 274 3), ([.l2i, .istore 3, .iload 3, .iconst 1], .if_icmp .eq 8), ([.iload 3, .iconst 2], .if_icmp .eq 8), ([.iconst 0], .ireturn), ([.aload 0, .getfield 3077, .iload 1, .aaload, .astore 4, .aload 2, .iconst 8, .iconst 6], .invokeinterface 274 3), ([.lstore 5, .aload 2, .iconst 14, .iconst 4], .invokeinterface 274 3), ([.l2i, .istore 7, .aload 2, .iconst 24, .iconst 4], .invokeinterface 274 3), ([.l2i, .iload 1], .invokeinterface 268 1), ([], .if_icmp .ne 14), ([.iconst 1], .goto 15), ([.iconst 0], .nop), ([.istore 8, .aload 4, .iload 7], .invokeinterface 271 2), ([.astore 9, .aload 9], .ifnonnull 18), ([.iload 8], .ifCond .eq 20), ([.aload 0, .aload 4, .aload 9, .iload 7, .lload 5], .invokeinterface 289 1541), ([.aload 0, .iload 1, .iload 7, .lload 5], .invokeinterface 290 1540), ([.iload 8], .ifCond .eq 26), ([.iload 3, .iconst 1], .if_icmp .ne 26), ([.aload 0, .iload 1, .lload 5, .iconst 2054, .iconst 2, .iload 1], .invokeinterface 270 1), ([.iload 1], .invokeinterface 268 1), ([.lload 5, .iload 7], .invokeinterface 287 5), ([.iconst 0], .invokeinterface 276 1542), ([.iconst 1], .ireturn)]
def am_p288 : List Nat := [0, 7, 14, 21, 23, 30, 37, 42, 44, 60, 69, 79, 84, 87, 91, 92, 101, 108, 113, 125, 134, 139, 144, 156, 160, 167, 171]
/-- X20_keeps -/
def am_k289 : List (List Instr × Instr) := [([.aload 2, .astore 6, .aload 6], .ifnonnull 8), ([.aload 1, .getfield 2437, .aload 1, .getfield 2440, .arraylength], .if_icmp .ne 6), ([.iconst 2, .aload 1, .getfield 2437, .imul, .anewarray 220, .astore 7, .iconst 0, .istore 8], .nop), ([.iload 8, .aload 1, .getfield 2437], .if_icmp .ge 5), ([.aload 7, .iload 8, .aload 1, .getfield 2440, .iload 8, .aaload, .aastore, .iinc 8 1], .goto 3), ([.aload 1, .aload 7, .putfield 2440], .nop), ([.new 20, .dup], .invokeinterface 230 1281), ([.astore 6, .aload 6, .iload 3, .putfield 2560, .aload 1, .getfield 2440, .aload 1, .getfield 2437, .aload 6, .aastore, .aload 1, .dup, .getfield 2437, .iconst 1, .iadd, .putfield 2437], .nop), ([.aload 6, .lload 4, .putfield 2561, .aload 6, .aload 0, .getfield 3073, .putfield 2562], .return_)]
def am_p289 : List Nat := [0, 8, 20, 34, 43, 61, 67, 74, 103]
/-- X20_sendsWaiting -/
def am_k290 : List (List Instr × Instr) := [([.aload 0, .getfield 3077, .iload 1, .aaload, .astore 5, .iconst 0, .istore 6, .aload 5, .getfield 2438, .istore 7, .iconst 0, .istore 8], .nop), ([.iload 8, .iload 7], .if_icmp .ge 8), ([.aload 5, .getfield 2441, .iload 8, .aaload, .astore 9, .aload 9, .getfield 2944], .invokeinterface 268 1), ([.iload 2], .if_icmp .ne 6), ([.aload 0, .iload 1, .lload 3, .aload 9, .getfield 2945], .invokeinterface 291 1540), ([], .goto 7), ([.aload 5, .getfield 2441, .iload 6, .aload 9, .aastore, .iinc 6 1], .nop), ([.iinc 8 1], .goto 1), ([.aload 5, .iload 6, .putfield 2438], .return_)]
def am_p290 : List Nat := [0, 21, 28, 46, 50, 61, 64, 77, 83]
/-- X20_sendsRows -/
def am_k291 : List (List Instr × Instr) := [([.iconst 0, .istore 5], .nop), ([.iload 5, .aload 4, .arraylength], .if_icmp .ge 7), ([.aload 0, .iload 1, .lload 2, .iconst 2048, .aload 4, .iload 5, .aaload, .aload 4, .arraylength, .iconst 1], .if_icmp .le 4), ([.iconst 1], .goto 5), ([.iconst 0], .nop), ([], .invokeinterface 276 1542), ([.iinc 5 1], .goto 1), ([], .return_)]
def am_p291 : List Nat := [0, 3, 11, 29, 33, 34, 37, 43]
/-- X20_datagram -/
def am_k292 : List (List Instr × Instr) := [([.iconst 20, .iload 6, .iadd, .newarray .int, .astore 8, .aload 8, .iconst 0, .iconst 69, .iastore, .aload 8, .iconst 2, .iconst 20, .iload 6, .iadd, .i2l, .iconst 2], .invokeinterface 273 4), ([.aload 8, .iconst 4, .aload 0, .getfield 3077, .iload 1, .aaload, .getfield 2434, .iconst 65535, .iand, .i2l, .iconst 2], .invokeinterface 273 4), ([.aload 8, .iconst 6, .iload 7], .ifCond .eq 4), ([.iconst 8192], .goto 5), ([.iconst 0], .nop), ([.iload 5, .iconst 8, .idiv, .ior, .i2l, .iconst 2], .invokeinterface 273 4), ([.aload 8, .iconst 8, .iconst 64, .iastore, .aload 8, .iconst 9, .iload 3, .iastore, .aload 8, .iconst 12, .iload 1], .invokeinterface 268 1), ([.i2l, .jsr_w 4294967295, .land, .iconst 4], .invokeinterface 273 4), ([.aload 8, .iconst 16, .iload 2], .invokeinterface 268 1), ([.i2l, .jsr_w 4294967295, .land, .iconst 4], .invokeinterface 273 4), ([.aload 8, .iconst 10, .aload 8, .iconst 0, .iconst 20], .invokeinterface 261 3), ([.i2l, .iconst 2], .invokeinterface 273 4), ([.iconst 0, .istore 9], .nop), ([.iload 9, .iload 6], .if_icmp .ge 15), ([.aload 8, .iconst 20, .iload 9, .iadd, .aload 4, .iload 5, .iload 9, .iadd, .iaload, .iastore, .iinc 9 1], .goto 13), ([.aload 8], .areturn)]
def am_p292 : List Nat := [0, 28, 49, 58, 64, 65, 76, 97, 106, 114, 123, 135, 140, 143, 150, 172]
/-- X20_sends -/
def am_k293 : List (List Instr × Instr) := [([.aload 0, .getfield 3077, .iload 1, .aaload, .astore 6, .aload 6, .getfield 2433, .iconst 20, .isub, .iconst 8, .idiv, .iconst 8, .imul, .istore 7, .iconst 20, .iload 5, .iadd, .aload 6, .getfield 2433], .if_icmp .gt 2), ([.iconst 1], .goto 3), ([.iload 5, .iload 7, .iadd, .iconst 1, .isub, .iload 7, .idiv], .nop), ([.istore 8, .iload 8, .anewarray 103, .astore 9, .iconst 0, .istore 10], .nop), ([.iload 10, .iload 8], .if_icmp .ge 16), ([.iload 10, .iload 8, .iconst 1, .isub], .if_icmp .ne 7), ([.iconst 1], .goto 8), ([.iconst 0], .nop), ([.istore 11, .aload 9, .iload 10, .aload 0, .iload 1, .iload 2, .iload 3, .aload 4, .iload 7, .iload 10, .imul, .iload 11], .ifCond .eq 10), ([.iload 5, .iload 7, .iload 10, .imul, .isub], .goto 11), ([.iload 7], .nop), ([.iload 11], .ifCond .ne 13), ([.iconst 1], .goto 14), ([.iconst 0], .nop), ([], .invokeinterface 292 1544), ([.aastore, .iinc 10 1], .goto 4), ([.aload 6, .iload 2, .iload 3, .aload 4, .iconst 0, .iload 5], .invokeinterface 285 3), ([], .invokeinterface 294 4), ([.aload 6, .dup, .getfield 2434, .iconst 1, .iadd, .putfield 2434, .aload 6, .iload 2], .invokeinterface 268 1), ([], .invokeinterface 271 2), ([.astore 10, .aload 10], .ifnull 23), ([.aload 0, .iload 1, .aload 10, .getfield 2561, .aload 9], .invokeinterface 291 1540), ([], .return_), ([.aload 6, .getfield 2438, .iconst 4], .if_icmp .ne 27), ([.aload 6, .dup, .getfield 2438, .iconst 1, .isub, .putfield 2438, .iconst 0, .istore 11], .nop), ([.iload 11, .aload 6, .getfield 2438], .if_icmp .ge 27), ([.aload 6, .getfield 2441, .iload 11, .aload 6, .getfield 2441, .iload 11, .iconst 1, .iadd, .aaload, .aastore, .iinc 11 1], .goto 25), ([.new 23, .dup], .invokeinterface 243 1473), ([.astore 11, .aload 11, .iload 2, .putfield 2944, .aload 11, .aload 9, .putfield 2945, .aload 6, .getfield 2441, .aload 6, .getfield 2438, .aload 11, .aastore, .aload 6, .dup, .getfield 2438, .iconst 1, .iadd, .putfield 2438, .aload 6, .getfield 2443, .iload 2, .iaload], .ifCond .lt 30), ([.aload 0, .getfield 3073, .aload 6, .getfield 2443, .iload 2, .iaload, .isub, .iconst 5], .if_icmp .lt 35), ([.aload 6, .getfield 2443, .iload 2, .aload 0, .getfield 3073, .iastore, .aload 0, .iload 1, .jsr_w 281474976710655, .iconst 2054, .iconst 1, .iload 1], .invokeinterface 270 1), ([.iload 1], .invokeinterface 268 1), ([.jsr_w 0, .iload 2], .invokeinterface 268 1), ([], .invokeinterface 287 5), ([.iconst 0], .invokeinterface 276 1542), ([], .return_)]
def am_p293 : List Nat := [0, 37, 41, 51, 63, 70, 79, 83, 84, 106, 117, 119, 124, 128, 129, 132, 139, 151, 154, 171, 174, 181, 193, 194, 203, 217, 227, 251, 258, 307, 323, 347, 351, 356, 359, 363]
/-- X20_records -/
def am_k294 : List (List Instr × Instr) := [([.aload 0, .getfield 2434, .aload 0, .getfield 2445, .arraylength], .if_icmp .ne 5), ([.iconst 2, .aload 0, .getfield 2434, .imul, .anewarray 103, .astore 4, .iconst 2, .aload 0, .getfield 2434, .imul, .newarray .int, .astore 5, .iconst 2, .aload 0, .getfield 2434, .imul, .newarray .int, .astore 6, .iconst 0, .istore 7], .nop), ([.iload 7, .aload 0, .getfield 2434], .if_icmp .ge 4), ([.aload 4, .iload 7, .aload 0, .getfield 2445, .iload 7, .aaload, .aastore, .aload 5, .iload 7, .aload 0, .getfield 2446, .iload 7, .iaload, .iastore, .aload 6, .iload 7, .aload 0, .getfield 2447, .iload 7, .iaload, .iastore, .iinc 7 1], .goto 2), ([.aload 0, .aload 4, .putfield 2445, .aload 0, .aload 5, .putfield 2446, .aload 0, .aload 6, .putfield 2447], .nop), ([.aload 0, .getfield 2445, .aload 0, .getfield 2434, .aload 3, .aastore, .aload 0, .getfield 2446, .aload 0, .getfield 2434, .iload 2, .iastore, .aload 0, .getfield 2447, .aload 0, .getfield 2434, .iload 1, .iastore], .return_)]
def am_p294 : List Nat := [0, 12, 46, 55, 97, 115]
/-- X20_takesDatagram -/
def am_k295 : List (List Instr × Instr) := [([.aload 2, .arraylength, .iconst 20], .if_icmp .lt 2), ([.aload 2, .iconst 0, .iaload, .iconst 69], .if_icmp .eq 3), ([.iconst 0], .ireturn), ([.aload 2, .iconst 2, .iconst 2], .invokeinterface 274 3), ([.l2i, .istore 3, .iload 3, .i2l, .jsr_w 20, .aload 2, .arraylength, .i2l], .invokeinterface 246 3), ([], .ifCond .eq 12), ([.aload 2, .iconst 0, .iconst 20], .invokeinterface 261 3), ([], .ifCond .ne 12), ([.aload 2, .iconst 16, .iconst 4], .invokeinterface 274 3), ([.l2i, .iload 1], .invokeinterface 268 1), ([], .if_icmp .ne 12), ([.iconst 1], .goto 13), ([.iconst 0], .nop), ([.istore 4, .iload 4], .ifCond .ne 15), ([.iconst 0], .ireturn), ([.aload 2, .iconst 4, .iconst 2], .invokeinterface 274 3), ([.l2i, .istore 5, .aload 2, .iconst 6, .iconst 2], .invokeinterface 274 3), ([.l2i, .istore 6, .aload 2, .iconst 12, .iconst 4], .invokeinterface 274 3), ([.l2i, .istore 7, .iload 6, .iconst 13, .ishr, .iconst 1, .iand, .iconst 1], .if_icmp .ne 20), ([.iconst 1], .goto 21), ([.iconst 0], .nop), ([.istore 8, .iconst 8, .iload 6, .iconst 8191, .iand, .imul, .istore 9, .iload 8], .ifCond .ne 26), ([.iload 9], .ifCond .ne 26), ([.aload 0, .iload 1, .iload 7, .iload 5, .aload 2, .iconst 9, .iaload, .aload 2, .iconst 20, .iload 3, .iconst 20, .isub], .invokeinterface 285 3), ([], .invokeinterface 303 1542), ([.iconst 1], .ireturn), ([.aload 0, .iload 1, .iload 7, .iload 5, .aload 2, .iload 9, .iload 3, .iconst 20, .isub, .iload 8], .invokeinterface 298 1544), ([.iconst 1], .ireturn)]
def am_p295 : List Nat := [0, 7, 15, 17, 23, 36, 39, 46, 49, 56, 61, 64, 68, 69, 76, 78, 84, 94, 104, 118, 122, 123, 141, 146, 166, 169, 171, 189]
/-- X20_partOf -/
def am_k296 : List (List Instr × Instr) := [([.iconst 0, .istore 4], .nop), ([.iload 4, .aload 0, .getfield 2439], .if_icmp .ge 7), ([.aload 0, .getfield 2442, .iload 4, .aaload, .astore 5, .aload 5, .getfield 2816, .iload 1], .if_icmp .ne 6), ([.aload 5, .getfield 2817, .iload 2], .if_icmp .ne 6), ([.aload 5, .getfield 2818, .iload 3], .if_icmp .ne 6), ([.iload 4], .ireturn), ([.iinc 4 1], .goto 1), ([.iconst (-1)], .ireturn)]
def am_p296 : List Nat := [0, 3, 12, 30, 39, 48, 51, 57]
/-- X20_forgets -/
def am_k297 : List (List Instr × Instr) := [([.aload 0, .dup, .getfield 2439, .iconst 1, .isub, .putfield 2439, .iload 1, .istore 2], .nop), ([.iload 2, .aload 0, .getfield 2439], .if_icmp .ge 3), ([.aload 0, .getfield 2442, .iload 2, .aload 0, .getfield 2442, .iload 2, .iconst 1, .iadd, .aaload, .aastore, .iinc 2 1], .goto 1), ([], .return_)]
def am_p297 : List Nat := [0, 12, 20, 40]
/-- X20_puts__ -/
def am_k298 : List (List Instr × Instr) := [([.aload 0, .getfield 3077, .iload 1, .aaload, .astore 8, .aload 8, .iload 2, .iload 3, .aload 4, .iconst 9, .iaload], .invokeinterface 296 4), ([.istore 9, .iload 9, .iconst (-1)], .if_icmp .ne 6), ([.aload 8, .getfield 2439, .iconst 4], .if_icmp .ne 4), ([.aload 8, .iconst 0], .invokeinterface 297 2), ([.new 22, .dup], .invokeinterface 241 1409), ([.astore 10, .aload 10, .iload 2, .putfield 2816, .aload 10, .iload 3, .putfield 2817, .aload 10, .aload 4, .iconst 9, .iaload, .putfield 2818, .aload 10, .aload 0, .getfield 3073, .putfield 2819, .aload 8, .getfield 2439, .istore 9, .aload 8, .getfield 2442, .iload 9, .aload 10, .aastore, .aload 8, .dup, .getfield 2439, .iconst 1, .iadd, .putfield 2439], .nop), ([.aload 8, .getfield 2442, .iload 9, .aaload, .astore 10, .iconst 0, .istore 11], .nop), ([.iload 11, .iload 6], .if_icmp .ge 9), ([.aload 10, .getfield 2821, .iload 5, .iload 11, .iadd, .aload 4, .iconst 20, .iload 11, .iadd, .iaload, .iastore, .aload 10, .getfield 2822, .iload 5, .iload 11, .iadd, .iconst 1, .bastore, .iinc 11 1], .goto 7), ([.aload 10, .iload 7], .ifCond .eq 11), ([.aload 10, .getfield 2820], .goto 12), ([.iload 5, .iload 6, .iadd], .nop), ([.putfield 2820, .aload 10], .invokeinterface 242 1409), ([], .ifCond .eq 17), ([.aload 8, .iload 9], .invokeinterface 297 2), ([.aload 0, .iload 1, .iload 2, .iload 3, .aload 10, .getfield 2818, .aload 10, .getfield 2821, .iconst 0, .aload 10, .getfield 2820], .invokeinterface 285 3), ([], .invokeinterface 303 1542), ([], .return_)]
def am_p298 : List Nat := [0, 20, 28, 37, 43, 50, 111, 124, 131, 168, 175, 183, 188, 196, 199, 206, 229, 232]
/-- X20_areLike -/
def am_k299 : List (List Instr × Instr) := [([.aload 0, .arraylength, .aload 1, .arraylength], .if_icmp .ne 2), ([.iconst 1], .goto 3), ([.iconst 0], .nop), ([.istore 2, .iconst 0, .istore 3], .nop), ([.iload 3, .aload 0, .arraylength], .if_icmp .ge 10), ([.iload 2], .ifCond .eq 10), ([.aload 0, .iload 3, .iaload, .aload 1, .iload 3, .iaload], .if_icmp .ne 8), ([.iconst 1], .goto 9), ([.iconst 0], .nop), ([.istore 2, .iinc 3 1], .goto 4), ([.iload 2], .ireturn)]
def am_p299 : List Nat := [0, 7, 11, 12, 15, 21, 25, 34, 38, 39, 46]
/-- X20_hasNoSum -/
def am_k300 : List (List Instr × Instr) := [([.iload 1, .iconst 17], .if_icmp .ne 4), ([.aload 2, .iconst 6, .iaload], .ifCond .ne 4), ([.aload 2, .iconst 7, .iaload], .ifCond .ne 4), ([.iconst 1], .goto 5), ([.iconst 0], .nop), ([], .ireturn)]
def am_p300 : List Nat := [0, 6, 13, 20, 24, 25]
/-- X20_isRight -/
def am_k301 : List (List Instr × Instr) := [([.iload 2, .iconst (-1)], .if_icmp .eq 2), ([.aload 4, .arraylength, .iconst 8], .if_icmp .ge 3), ([.iconst 0], .ireturn), ([.iload 3, .iconst 1], .if_icmp .ne 8), ([.aload 4, .iconst 0, .aload 4, .arraylength], .invokeinterface 261 3), ([], .ifCond .ne 7), ([.iconst 1], .goto 14), ([.iconst 0], .goto 14), ([.aload 0, .iload 3, .aload 4], .invokeinterface 300 1539), ([], .ifCond .ne 12), ([.aload 0, .iload 2, .iload 1, .iload 3, .aload 4, .iconst 0, .aload 4, .arraylength], .invokeinterface 262 1543), ([], .ifCond .ne 13), ([.iconst 1], .goto 14), ([.iconst 0], .nop), ([], .ireturn)]
def am_p301 : List Nat := [0, 5, 13, 15, 20, 29, 32, 36, 40, 47, 50, 63, 66, 70, 71]
/-- X20_wasSent -/
def am_k302 : List (List Instr × Instr) := [([.aload 0, .getfield 3077, .iload 2, .aaload, .astore 6, .iconst 0, .istore 7, .iload 3, .istore 8], .nop), ([.iload 8, .aload 6, .getfield 2434], .if_icmp .ge 14), ([.iload 7], .ifCond .ne 14), ([.aload 6, .getfield 2447, .iload 8, .iaload, .iload 1], .if_icmp .ne 13), ([.aload 6, .getfield 2446, .iload 8, .iaload, .iload 4], .if_icmp .eq 6), ([], .goto 13), ([.aload 6, .getfield 2445, .iload 8, .aaload, .iconst 0, .aload 6, .getfield 2445, .iload 8, .aaload, .arraylength], .invokeinterface 285 3), ([.astore 9, .aload 0, .iload 4, .aload 5], .invokeinterface 300 1539), ([], .ifCond .eq 11), ([.aload 9, .arraylength, .iconst 7], .if_icmp .le 11), ([.aload 9, .iconst 6, .iconst 0, .iastore, .aload 9, .iconst 7, .iconst 0, .iastore], .nop), ([.aload 9, .aload 5], .invokeinterface 299 2), ([.istore 7], .nop), ([.iload 8, .iconst 65536, .iadd, .istore 8], .goto 1), ([.iload 7], .ireturn)]
def am_p302 : List Nat := [0, 14, 24, 29, 41, 54, 57, 78, 88, 91, 99, 111, 118, 120, 131]
/-- X20_took -/
def am_k303 : List (List Instr × Instr) := [([.aload 0, .getfield 3077, .iload 1, .aaload, .dup, .getfield 2435, .iconst 1, .iadd, .putfield 2435, .aload 0, .iload 2], .invokeinterface 269 1538), ([.istore 6, .aload 0, .dup, .getfield 3084, .aload 0, .iload 1, .iload 6, .iload 4, .aload 5], .invokeinterface 301 1541), ([], .ifCond .eq 6), ([.aload 0, .iload 1, .iload 6, .iload 3, .iload 4, .aload 5], .invokeinterface 302 1542), ([], .ifCond .ne 6), ([.iconst 1], .goto 7), ([.iconst 0], .nop), ([.iadd, .putfield 3084, .iload 4, .iconst 1], .if_icmp .ne 10), ([.aload 0, .iload 1, .iload 6, .aload 5], .invokeinterface 309 1540), ([], .goto 15), ([.iload 4, .iconst 17], .if_icmp .ne 13), ([.aload 0, .iload 1, .iload 6, .aload 5], .invokeinterface 323 1540), ([], .goto 15), ([.iload 4, .iconst 6], .if_icmp .ne 15), ([.aload 0, .iload 1, .iload 6, .aload 5, .iconst 0, .aload 5, .arraylength], .invokeinterface 355 1542), ([], .return_)]
def am_p303 : List Nat := [0, 20, 38, 41, 53, 56, 60, 61, 71, 80, 83, 90, 99, 102, 109, 122]
/-- X20_wireErrors -/
def am_k304 : List (List Instr × Instr) := [([.aload 0, .getfield 3084, .istore 1, .iconst 0, .istore 2], .nop), ([.iload 2, .aload 0, .getfield 3079], .if_icmp .ge 13), ([.aload 0, .getfield 3078, .iload 2, .aaload, .astore 3, .aload 3, .getfield 2304, .iconst 12, .iaload, .iconst 8], .if_icmp .ne 6), ([.aload 3, .getfield 2304, .iconst 13, .iaload], .ifCond .ne 6), ([.aload 3, .getfield 2306], .ifCond .ne 6), ([.iconst 1], .goto 7), ([.iconst 0], .nop), ([.istore 4, .iload 1, .iload 4], .ifCond .eq 11), ([.aload 0, .aload 3, .getfield 2304, .aload 3, .getfield 2307], .invokeinterface 305 1539), ([], .ifCond .ne 11), ([.iconst 1], .goto 12), ([.iconst 0], .nop), ([.iadd, .istore 1, .iinc 2 1], .goto 1), ([.iload 1], .ireturn)]
def am_p304 : List Nat := [0, 7, 15, 34, 44, 51, 55, 56, 64, 76, 79, 83, 84, 92]
/-- X20_fits -/
def am_k305 : List (List Instr × Instr) := [([.aload 1, .iconst 14, .aload 1, .arraylength, .iconst 14, .isub], .invokeinterface 285 3), ([.astore 3, .aload 3, .arraylength, .iconst 20, .isub, .istore 4, .aload 3, .iconst 0, .iconst 20], .invokeinterface 261 3), ([], .ifCond .ne 4), ([.iload 2], .ifCond .eq 9), ([.aload 3, .iconst 0, .iconst 20], .invokeinterface 261 3), ([], .ifCond .ne 7), ([.iconst 1], .goto 8), ([.iconst 0], .nop), ([], .ireturn), ([.aload 3, .iconst 9, .iaload, .iconst 1], .if_icmp .ne 14), ([.aload 3, .iconst 20, .iload 4], .invokeinterface 261 3), ([], .ifCond .ne 13), ([.iconst 1], .goto 18), ([.iconst 0], .goto 18), ([.aload 0, .aload 3, .iconst 15, .iaload, .iconst 1, .isub, .aload 3, .iconst 19, .iaload, .iconst 1, .isub, .aload 3, .iconst 9, .iaload, .aload 3, .iconst 20, .iload 4], .invokeinterface 262 1543), ([], .ifCond .ne 17), ([.iconst 1], .goto 18), ([.iconst 0], .nop), ([], .ireturn)]
def am_p305 : List Nat := [0, 11, 26, 29, 33, 40, 43, 47, 48, 49, 57, 65, 68, 72, 76, 101, 104, 108, 109]
/-- X20_echoRow -/
def am_k306 : List (List Instr × Instr) := [([.iconst 8, .iload 1, .iadd, .newarray .int, .astore 2, .aload 2, .iconst 0, .iconst 8, .iastore, .aload 2, .iconst 4, .iload 0, .i2l, .iconst 2], .invokeinterface 273 4), ([.aload 2, .iconst 7, .iconst 7, .iastore, .iconst 0, .istore 3], .nop), ([.iload 3, .iload 1], .if_icmp .ge 4), ([.aload 2, .iconst 8, .iload 3, .iadd, .iload 3, .iconst 255, .iand, .iastore, .iinc 3 1], .goto 2), ([.aload 2, .iconst 2, .aload 2, .iconst 0, .aload 2, .arraylength], .invokeinterface 261 3), ([.i2l, .iconst 2], .invokeinterface 273 4), ([.aload 2], .areturn)]
def am_p306 : List Nat := [0, 20, 28, 33, 50, 59, 64]
/-- X20_echo -/
def am_k307 : List (List Instr × Instr) := [([.aload 0, .aload 0, .iload 1], .invokeinterface 386 1538), ([], .ifCond .eq 5), ([.aload 0, .iload 2], .invokeinterface 386 1538), ([], .ifCond .eq 5), ([.iconst 1], .goto 6), ([.iconst 0], .nop), ([.iload 1, .iload 2], .if_icmp .eq 10), ([.iload 3, .i2l, .jsr_w 0, .jsr_w 900], .invokeinterface 246 3), ([], .ifCond .eq 10), ([.iconst 1], .goto 11), ([.iconst 0], .nop), ([.aload 0, .getfield 3085, .iconst 40], .if_icmp .ge 13), ([.iconst 1], .goto 14), ([.iconst 0], .nop), ([], .invokeinterface 249 1540), ([], .ifCond .ne 17), ([.iconst 0], .ireturn), ([.aload 0, .getfield 3085, .istore 4, .aload 0, .dup, .getfield 3085, .iconst 1, .iadd, .putfield 3085, .aload 0, .getfield 3087, .iload 4, .iload 1, .iastore, .aload 0, .getfield 3088, .iload 4, .iload 2, .iastore, .aload 0, .getfield 3089, .iload 4, .iload 3, .iastore, .aload 0, .iload 1, .iload 2, .iconst 1, .iload 4, .iload 3], .invokeinterface 306 2), ([.iconst 8, .iload 3, .iadd], .invokeinterface 293 1542), ([.iload 4], .ireturn)]
def am_p307 : List Nat := [0, 6, 9, 14, 17, 21, 22, 27, 36, 39, 43, 44, 53, 57, 58, 61, 64, 66, 116, 123]
/-- X20_isAnswered -/
def am_k308 : List (List Instr × Instr) := [([.aload 0, .iload 1, .i2l, .jsr_w 0, .aload 0, .getfield 3085, .iconst 1, .isub, .i2l], .invokeinterface 246 3), ([], .invokeinterface 247 1538), ([], .ifCond .eq 5), ([.aload 0, .getfield 3090, .iload 1, .baload], .ifCond .eq 5), ([.iconst 1], .goto 6), ([.iconst 0], .nop), ([], .ireturn)]
def am_p308 : List Nat := [0, 14, 17, 20, 29, 33, 34]
/-- X20_echoComes -/
def am_k309 : List (List Instr × Instr) := [([.aload 3, .arraylength, .iconst 8], .if_icmp .lt 4), ([.aload 3, .iconst 1, .iaload], .ifCond .ne 4), ([.aload 3, .iconst 0, .aload 3, .arraylength], .invokeinterface 261 3), ([], .ifCond .eq 5), ([], .return_), ([.aload 3, .iconst 0, .iaload, .iconst 8], .if_icmp .ne 12), ([.iload 2, .iconst (-1)], .if_icmp .eq 12), ([.aload 3, .iconst 0, .aload 3, .arraylength], .invokeinterface 285 3), ([.astore 4, .aload 4, .iconst 0, .iconst 0, .iastore, .aload 4, .iconst 2, .iconst 0, .iastore, .aload 4, .iconst 3, .iconst 0, .iastore, .aload 4, .iconst 2, .aload 4, .iconst 0, .aload 4, .arraylength], .invokeinterface 261 3), ([.i2l, .iconst 2], .invokeinterface 273 4), ([.aload 0, .iload 1, .iload 2, .iconst 1, .aload 4, .aload 4, .arraylength], .invokeinterface 293 1542), ([], .goto 35), ([.aload 3, .iconst 0, .iaload], .ifCond .ne 35), ([.aload 3, .iconst 4, .iconst 2], .invokeinterface 274 3), ([.l2i, .istore 4, .iload 4, .aload 0, .getfield 3085], .if_icmp .ge 20), ([.aload 0, .getfield 3090, .iload 4, .baload], .ifCond .ne 20), ([.aload 0, .getfield 3087, .iload 4, .iaload, .iload 1], .if_icmp .ne 20), ([.aload 0, .getfield 3088, .iload 4, .iaload, .iload 2], .if_icmp .ne 20), ([.aload 3, .arraylength, .iconst 8, .aload 0, .getfield 3089, .iload 4, .iaload, .iadd], .if_icmp .ne 20), ([.iconst 1], .goto 21), ([.iconst 0], .nop), ([.istore 5, .iload 5], .ifCond .eq 25), ([.aload 3, .iconst 6, .iconst 2], .invokeinterface 274 3), ([.jsr_w 7, .lcmp], .ifCond .ne 25), ([.iconst 1], .goto 26), ([.iconst 0], .nop), ([.istore 5, .iconst 8, .istore 6], .nop), ([.iload 6, .aload 3, .arraylength], .if_icmp .ge 33), ([.iload 5], .ifCond .eq 33), ([.aload 3, .iload 6, .iaload, .iload 6, .iconst 8, .isub, .iconst 255, .iand], .if_icmp .ne 31), ([.iconst 1], .goto 32), ([.iconst 0], .nop), ([.istore 5, .iinc 6 1], .goto 27), ([.iload 5], .ifCond .eq 35), ([.aload 0, .getfield 3090, .iload 4, .iconst 1, .bastore, .aload 0, .dup, .getfield 3086, .iconst 1, .iadd, .putfield 3086], .nop), ([], .return_)]
def am_p309 : List Nat := [0, 7, 13, 20, 23, 24, 32, 37, 44, 73, 78, 90, 93, 99, 105, 117, 127, 138, 149, 164, 168, 169, 176, 183, 190, 194, 195, 201, 208, 213, 229, 233, 234, 242, 247, 265]
/-- X20_isNameByte -/
def am_k310 : List (List Instr × Instr) := [([.iload 0, .iconst 97], .if_icmp .lt 2), ([.iload 0, .iconst 122], .if_icmp .le 5), ([.iload 0, .iconst 48], .if_icmp .lt 4), ([.iload 0, .iconst 57], .if_icmp .le 5), ([.iload 0, .iconst 45], .if_icmp .ne 6), ([.iconst 1], .goto 7), ([.iconst 0], .nop), ([], .ireturn)]
def am_p310 : List Nat := [0, 6, 12, 18, 24, 30, 34, 35]
/-- X20_nameOnTape -/
def am_k311 : List (List Instr × Instr) := [([.aload 0, .getfield 3076, .iconst 2, .iadd, .newarray .int, .astore 1, .iconst 0, .istore 2, .iconst 0, .istore 3, .iconst 1, .istore 4, .iconst 0, .istore 5], .nop), ([.iload 5, .aload 0, .getfield 3076], .if_icmp .gt 10), ([.iload 4], .ifCond .eq 10), ([.iload 5, .aload 0, .getfield 3076], .if_icmp .eq 5), ([.aload 0, .getfield 3075, .iload 5, .iaload, .iconst 46], .if_icmp .ne 7), ([.iload 3, .i2l, .jsr_w 1, .jsr_w 20], .invokeinterface 246 3), ([.istore 4, .aload 1, .iload 5, .iload 3, .isub, .iload 3, .iastore, .iconst 0, .istore 3, .iinc 2 1], .goto 9), ([.aload 0, .getfield 3075, .iload 5, .iaload], .invokeinterface 310 1), ([.istore 4, .aload 1, .iload 5, .iconst 1, .iadd, .aload 0, .getfield 3075, .iload 5, .iaload, .iastore, .iinc 3 1], .nop), ([.iinc 5 1], .goto 1), ([.iload 4], .ifCond .eq 13), ([.iload 2, .iconst 5], .if_icmp .gt 13), ([.aload 1], .goto 14), ([.aconst_null], .nop), ([], .areturn)]
def am_p311 : List Nat := [0, 19, 28, 33, 42, 54, 63, 80, 90, 108, 114, 119, 124, 128, 129]
/-- X20_hostNamed -/
def am_k312 : List (List Instr × Instr) := [([.iconst 0, .istore 2], .nop), ([.iload 2, .aload 0, .getfield 3074], .if_icmp .ge 7), ([.aload 0, .getfield 3077, .iload 2, .aaload, .getfield 2444], .ifnull 6), ([.aload 0, .getfield 3077, .iload 2, .aaload, .getfield 2444, .aload 1], .invokeinterface 299 2), ([], .ifCond .eq 6), ([.iload 2], .ireturn), ([.iinc 2 1], .goto 1), ([.iconst (-1)], .ireturn)]
def am_p312 : List Nat := [0, 2, 10, 22, 35, 38, 40, 46]
/-- X20_partsOf -/
def am_k313 : List (List Instr × Instr) := [([.iconst 0, .istore 1, .iconst 0, .istore 2], .nop), ([.aload 0, .iload 2, .iaload], .ifCond .eq 3), ([.iinc 1 1, .iload 2, .aload 0, .iload 2, .iaload, .iconst 1, .iadd, .iadd, .istore 2], .goto 1), ([.iload 1], .ireturn)]
def am_p313 : List Nat := [0, 4, 10, 24]
/-- X20_name -/
def am_k314 : List (List Instr × Instr) := [([.aload 0], .invokeinterface 311 1537), ([.astore 2, .aload 2], .ifnonnull 3), ([.iconst (-1)], .goto 4), ([.aload 0, .aload 2], .invokeinterface 312 1538), ([.istore 3, .aload 0, .aload 0, .iload 1], .invokeinterface 386 1538), ([.aload 2], .ifnull 9), ([.iload 3, .iconst (-1)], .if_icmp .eq 8), ([.iload 3, .iload 1], .if_icmp .ne 9), ([.iconst 1], .goto 10), ([.iconst 0], .nop), ([], .invokeinterface 248 1539), ([], .ifCond .ne 13), ([.iconst 0], .ireturn), ([.aload 0, .getfield 3077, .iload 1, .aaload, .aload 2, .putfield 2444, .aload 0, .iconst 0, .putfield 3076, .aload 2], .invokeinterface 313 1), ([], .ireturn)]
def am_p314 : List Nat := [0, 4, 9, 13, 18, 25, 29, 34, 39, 43, 44, 47, 50, 52, 71]
/-- X20_question -/
def am_k315 : List (List Instr × Instr) := [([.aload 0, .arraylength, .iconst 4, .iadd, .newarray .int, .astore 1, .iconst 0, .istore 2], .nop), ([.iload 2, .aload 0, .arraylength], .if_icmp .ge 3), ([.aload 1, .iload 2, .aload 0, .iload 2, .iaload, .iastore, .iinc 2 1], .goto 1), ([.aload 1, .aload 0, .arraylength, .jsr_w 65537, .iconst 4], .invokeinterface 273 4), ([.aload 1], .areturn)]
def am_p315 : List Nat := [0, 9, 15, 27, 37]
/-- X20_joined -/
def am_k316 : List (List Instr × Instr) := [([.aload 0, .arraylength, .aload 1, .arraylength, .iadd, .newarray .int, .astore 2, .iconst 0, .istore 3], .nop), ([.iload 3, .aload 0, .arraylength], .if_icmp .ge 3), ([.aload 2, .iload 3, .aload 0, .iload 3, .iaload, .iastore, .iinc 3 1], .goto 1), ([.iconst 0, .istore 3], .nop), ([.iload 3, .aload 1, .arraylength], .if_icmp .ge 6), ([.aload 2, .aload 0, .arraylength, .iload 3, .iadd, .aload 1, .iload 3, .iaload, .iastore, .iinc 3 1], .goto 4), ([.aload 2], .areturn)]
def am_p316 : List Nat := [0, 10, 16, 28, 30, 36, 51]
/-- X20_start -/
def am_k317 : List (List Instr × Instr) := [([.iconst 12, .newarray .int, .astore 3, .aload 3, .iconst 0, .iload 0, .i2l, .iconst 2], .invokeinterface 273 4), ([.aload 3, .iconst 2, .iload 1, .i2l, .iconst 2], .invokeinterface 273 4), ([.aload 3, .iconst 5, .iconst 1, .iastore, .aload 3, .iconst 7, .iload 2, .iastore, .aload 3], .areturn)]
def am_p317 : List Nat := [0, 13, 21]
/-- X20_sendsByPorts -/
def am_k318 : List (List Instr × Instr) := [([.iconst 8, .aload 5, .arraylength, .iadd, .newarray .int, .astore 6, .aload 6, .iconst 0, .iload 3, .i2l, .iconst 2], .invokeinterface 273 4), ([.aload 6, .iconst 2, .iload 4, .i2l, .iconst 2], .invokeinterface 273 4), ([.aload 6, .iconst 4, .aload 6, .arraylength, .i2l, .iconst 2], .invokeinterface 273 4), ([.iconst 0, .istore 7], .nop), ([.iload 7, .aload 5, .arraylength], .if_icmp .ge 6), ([.aload 6, .iconst 8, .iload 7, .iadd, .aload 5, .iload 7, .iaload, .iastore, .iinc 7 1], .goto 4), ([.aload 0, .iload 1, .iload 2, .iconst 17, .aload 6, .iconst 0, .aload 6, .arraylength], .invokeinterface 262 1543), ([.istore 7, .aload 6, .iconst 6, .iload 7], .ifCond .ne 9), ([.jsr_w 65535], .goto 10), ([.iload 7, .i2l], .nop), ([.iconst 2], .invokeinterface 273 4), ([.aload 0, .iload 1, .iload 2, .iconst 17, .aload 6, .aload 6, .arraylength], .invokeinterface 293 1542), ([], .return_)]
def am_p318 : List Nat := [0, 19, 29, 40, 43, 51, 70, 84, 95, 101, 104, 108, 121]
/-- X20_asks -/
def am_k319 : List (List Instr × Instr) := [([.aload 0, .aload 0, .getfield 3092, .iload 1, .iaload, .iconst 0, .iconst 5000, .iload 1, .iadd, .iconst 53, .iload 1, .iconst 256, .iconst 0], .invokeinterface 317 3), ([.aload 0, .getfield 3094, .iload 1, .aaload], .invokeinterface 315 1), ([], .invokeinterface 316 2), ([], .invokeinterface 318 1542), ([], .return_)]
def am_p319 : List Nat := [0, 23, 32, 35, 38]
/-- X20_lookUp -/
def am_k320 : List (List Instr × Instr) := [([.aload 0], .invokeinterface 311 1537), ([.astore 2, .aload 0, .aload 0, .iload 1], .invokeinterface 386 1538), ([.iload 1], .ifCond .eq 4), ([.iconst 1], .goto 5), ([.iconst 0], .nop), ([.aload 2], .ifnull 8), ([.aload 0, .getfield 3091, .iconst 40], .if_icmp .ge 8), ([.iconst 1], .goto 9), ([.iconst 0], .nop), ([], .invokeinterface 249 1540), ([], .ifCond .ne 12), ([.iconst 0], .ireturn), ([.aload 0, .getfield 3091, .istore 3, .aload 0, .dup, .getfield 3091, .iconst 1, .iadd, .putfield 3091, .aload 0, .getfield 3092, .iload 3, .iload 1, .iastore, .aload 0, .getfield 3093, .iload 3, .iconst (-1), .iastore, .aload 0, .getfield 3094, .iload 3, .aload 2, .aastore, .aload 0, .iconst 0, .putfield 3076, .aload 0, .iload 3], .invokeinterface 319 1538), ([.iload 3], .ireturn)]
def am_p320 : List Nat := [0, 4, 11, 15, 19, 20, 24, 33, 37, 38, 41, 44, 46, 92]
/-- X20_askAgain -/
def am_k321 : List (List Instr × Instr) := [([.iload 1, .i2l, .jsr_w 0, .aload 0, .getfield 3091, .iconst 1, .isub, .i2l], .invokeinterface 246 3), ([.istore 2, .aload 0, .iload 2, .iload 2], .ifCond .eq 3), ([.aload 0, .getfield 3093, .iload 1, .iaload, .iconst (-1)], .if_icmp .ne 4), ([.iconst 1], .goto 5), ([.iconst 0], .nop), ([], .invokeinterface 248 1539), ([], .ifCond .eq 8), ([.aload 0, .iload 1], .invokeinterface 319 1538), ([], .return_)]
def am_p321 : List Nat := [0, 13, 20, 30, 34, 35, 38, 41, 46]
/-- X20_found -/
def am_k322 : List (List Instr × Instr) := [([.aload 0, .iload 1, .i2l, .jsr_w 0, .aload 0, .getfield 3091, .iconst 1, .isub, .i2l], .invokeinterface 246 3), ([], .invokeinterface 247 1538), ([], .ifCond .eq 4), ([.aload 0, .getfield 3093, .iload 1, .iaload], .goto 5), ([.iconst 0], .nop), ([], .ireturn)]
def am_p322 : List Nat := [0, 14, 17, 20, 29, 30]
/-- X20_nameComes -/
def am_k323 : List (List Instr × Instr) := [([.aload 3, .arraylength, .iconst 8], .if_icmp .lt 2), ([.iload 2, .iconst (-1)], .if_icmp .ne 3), ([], .return_), ([.aload 3, .iconst 4, .iconst 2], .invokeinterface 274 3), ([.l2i, .istore 4, .iload 4, .aload 3, .arraylength], .if_icmp .eq 6), ([], .return_), ([.aload 3, .iconst 6, .iconst 2], .invokeinterface 274 3), ([.l2i, .istore 5, .iload 5], .ifCond .eq 11), ([.aload 0, .iload 2, .iload 1, .iconst 17, .aload 3, .iconst 0, .iload 4], .invokeinterface 262 1543), ([], .ifCond .eq 11), ([], .return_), ([.aload 3, .iconst 0, .iconst 2], .invokeinterface 274 3), ([.l2i, .istore 6, .aload 3, .iconst 2, .iconst 2], .invokeinterface 274 3), ([.l2i, .istore 7, .aload 3, .iconst 8, .iload 4, .iconst 8, .isub], .invokeinterface 285 3), ([.astore 8, .iload 1], .ifCond .ne 18), ([.iload 7, .iconst 53], .if_icmp .ne 18), ([.aload 0, .iload 2, .iload 6, .aload 8], .invokeinterface 325 1540), ([], .goto 24), ([.iload 1], .ifCond .eq 24), ([.iload 2], .ifCond .ne 24), ([.iload 6, .iconst 53], .if_icmp .ne 24), ([.iload 7, .i2l, .jsr_w 5000, .iconst 5000, .aload 0, .getfield 3091, .iadd, .iconst 1, .isub, .i2l], .invokeinterface 246 3), ([], .ifCond .eq 24), ([.aload 0, .iload 1, .iload 7, .iconst 5000, .isub, .aload 8], .invokeinterface 327 1540), ([], .return_)]
def am_p323 : List Nat := [0, 7, 12, 13, 19, 29, 30, 37, 45, 57, 60, 61, 67, 76, 90, 96, 103, 112, 115, 119, 123, 130, 150, 153, 166]
def am_cds3_0 : List am_Cd := [(245, am_k245, am_p245, []), (246, am_k246, am_p246, []), (247, am_k247, am_p247, []), (248, am_k248, am_p248, []), (249, am_k249, am_p249, []), (250, am_k250, am_p250, []), (251, am_k251, am_p251, []), (252, am_k252, am_p252, []), (253, am_k253, am_p253, []), (254, am_k254, am_p254, []), (255, am_k255, am_p255, []), (256, am_k256, am_p256, []), (257, am_k257, am_p257, []), (258, am_k258, am_p258, []), (259, am_k259, am_p259, []), (260, am_k260, am_p260, []), (261, am_k261, am_p261, []), (262, am_k262, am_p262, []), (263, am_k263, am_p263, []), (264, am_k264, am_p264, []), (265, am_k265, am_p265, []), (266, am_k266, am_p266, []), (267, am_k267, am_p267, []), (268, am_k268, am_p268, []), (269, am_k269, am_p269, [])]
theorem am_ckL3_0 : am_cds3_0.all am_ckL = true := by decide +kernel
def am_cds3_1 : List am_Cd := [(270, am_k270, am_p270, []), (271, am_k271, am_p271, []), (272, am_k272, am_p272, []), (273, am_k273, am_p273, []), (274, am_k274, am_p274, []), (275, am_k275, am_p275, []), (276, am_k276, am_p276, []), (277, am_k277, am_p277, []), (278, am_k278, am_p278, []), (279, am_k279, am_p279, []), (280, am_k280, am_p280, []), (281, am_k281, am_p281, []), (282, am_k282, am_p282, []), (283, am_k283, am_p283, []), (284, am_k284, am_p284, []), (285, am_k285, am_p285, []), (286, am_k286, am_p286, []), (287, am_k287, am_p287, [])]
theorem am_ckL3_1 : am_cds3_1.all am_ckL = true := by decide +kernel
def am_cds3_2 : List am_Cd := [(288, am_k288, am_p288, []), (289, am_k289, am_p289, []), (290, am_k290, am_p290, []), (291, am_k291, am_p291, []), (292, am_k292, am_p292, []), (293, am_k293, am_p293, []), (294, am_k294, am_p294, [])]
theorem am_ckL3_2 : am_cds3_2.all am_ckL = true := by decide +kernel
def am_cds3_3 : List am_Cd := [(295, am_k295, am_p295, []), (296, am_k296, am_p296, []), (297, am_k297, am_p297, []), (298, am_k298, am_p298, []), (299, am_k299, am_p299, []), (300, am_k300, am_p300, []), (301, am_k301, am_p301, []), (302, am_k302, am_p302, []), (303, am_k303, am_p303, []), (304, am_k304, am_p304, []), (305, am_k305, am_p305, []), (306, am_k306, am_p306, [])]
theorem am_ckL3_3 : am_cds3_3.all am_ckL = true := by decide +kernel
def am_cds3_4 : List am_Cd := [(307, am_k307, am_p307, []), (308, am_k308, am_p308, []), (309, am_k309, am_p309, []), (310, am_k310, am_p310, []), (311, am_k311, am_p311, []), (312, am_k312, am_p312, []), (313, am_k313, am_p313, []), (314, am_k314, am_p314, []), (315, am_k315, am_p315, []), (316, am_k316, am_p316, []), (317, am_k317, am_p317, []), (318, am_k318, am_p318, []), (319, am_k319, am_p319, []), (320, am_k320, am_p320, [])]
theorem am_ckL3_4 : am_cds3_4.all am_ckL = true := by decide +kernel
def am_cds3_5 : List am_Cd := [(321, am_k321, am_p321, []), (322, am_k322, am_p322, []), (323, am_k323, am_p323, [])]
theorem am_ckL3_5 : am_cds3_5.all am_ckL = true := by decide +kernel
def am_cds3 : List am_Cd := am_cds3_0 ++ (am_cds3_1 ++ (am_cds3_2 ++ (am_cds3_3 ++ (am_cds3_4 ++ (am_cds3_5)))))
theorem am_ckL3 : am_cds3.all am_ckL = true := by simp only [am_cds3, List.all_append, am_ckL3_0, am_ckL3_1, am_ckL3_2, am_ckL3_3, am_ckL3_4, am_ckL3_5, Bool.and_self]
end
section
/-! THE CODE, by program: part 4 -/
/-- X20_nameIn -/
def am_k324 : List (List Instr × Instr) := [([.iconst 12, .istore 1, .iconst 0, .istore 2], .nop), ([.iload 1, .aload 0, .arraylength], .if_icmp .ge 5), ([.aload 0, .iload 1, .iaload, .i2l, .jsr_w 1, .jsr_w 20], .invokeinterface 246 3), ([], .ifCond .eq 5), ([.iload 1, .aload 0, .iload 1, .iaload, .iconst 1, .iadd, .iadd, .istore 1, .iinc 2 1], .goto 1), ([.iload 1, .aload 0, .arraylength], .if_icmp .ge 13), ([.aload 0, .iload 1, .iaload], .ifCond .ne 13), ([.iload 2, .i2l, .jsr_w 1, .jsr_w 5], .invokeinterface 246 3), ([], .ifCond .eq 13), ([.aload 0, .arraylength, .iload 1, .iconst 5, .iadd], .if_icmp .ne 13), ([.aload 0, .iload 1, .iconst 1, .iadd, .iconst 4], .invokeinterface 274 3), ([.jsr_w 65537, .lcmp], .ifCond .ne 13), ([.iconst 1], .goto 14), ([.iconst 0], .nop), ([.istore 3, .iload 3], .ifCond .eq 17), ([.aload 0, .iconst 12, .iload 1, .iconst 11, .isub], .invokeinterface 285 3), ([], .goto 18), ([.aconst_null], .nop), ([], .areturn)]
def am_p324 : List Nat := [0, 5, 11, 22, 25, 39, 45, 51, 60, 63, 71, 79, 86, 90, 91, 96, 106, 109, 110]
/-- X20_questionComes -/
def am_k325 : List (List Instr × Instr) := [([.aload 3, .arraylength, .iconst 12], .if_icmp .ge 2), ([], .return_), ([.aload 3, .iconst 0, .iconst 2], .invokeinterface 274 3), ([.l2i, .istore 4, .aload 3, .iconst 0, .iconst 12], .invokeinterface 285 3), ([.iload 4, .iconst 256, .iconst 0], .invokeinterface 317 3), ([], .invokeinterface 299 2), ([], .ifCond .eq 9), ([.aload 3], .invokeinterface 324 1), ([], .goto 10), ([.aconst_null], .nop), ([.astore 5, .aload 5], .ifnonnull 12), ([], .return_), ([.aload 0, .aload 5], .invokeinterface 312 1538), ([.istore 6, .iload 4, .iload 6, .iconst (-1)], .if_icmp .ne 15), ([.iconst 34051], .goto 16), ([.iconst 34048], .nop), ([.iload 6, .iconst (-1)], .if_icmp .ne 18), ([.iconst 0], .goto 19), ([.iconst 1], .nop), ([], .invokeinterface 317 3), ([.aload 5], .invokeinterface 315 1), ([], .invokeinterface 316 2), ([.astore 7, .aload 0, .iconst 0, .iload 1, .iconst 53, .iload 2, .iload 6, .iconst (-1)], .if_icmp .ne 24), ([.aload 7], .goto 27), ([.aload 7, .iload 6], .invokeinterface 268 1), ([], .invokeinterface 326 1), ([], .invokeinterface 316 2), ([], .invokeinterface 318 1542), ([], .return_)]
def am_p325 : List Nat := [0, 7, 8, 14, 24, 33, 36, 39, 43, 46, 47, 54, 55, 61, 71, 77, 80, 86, 90, 91, 94, 99, 102, 116, 121, 128, 131, 134, 137]
/-- X20_place -/
def am_k326 : List (List Instr × Instr) := [([.iconst 16, .newarray .int, .astore 1, .aload 1, .iconst 0, .jsr_w 211157772206081, .iconst 6], .invokeinterface 273 4), ([.aload 1, .iconst 6, .jsr_w 60, .iconst 4], .invokeinterface 273 4), ([.aload 1, .iconst 10, .jsr_w 4, .iconst 2], .invokeinterface 273 4), ([.aload 1, .iconst 12, .iload 0, .i2l, .jsr_w 4294967295, .land, .iconst 4], .invokeinterface 273 4), ([.aload 1], .areturn)]
def am_p326 : List Nat := [0, 15, 25, 35, 48]
/-- X20_answerComes -/
def am_k327 : List (List Instr × Instr) := [([.aload 0, .getfield 3092, .iload 2, .iaload, .iload 1], .if_icmp .ne 2), ([.aload 0, .getfield 3093, .iload 2, .iaload, .iconst (-1)], .if_icmp .eq 3), ([], .return_), ([.aload 0, .getfield 3094, .iload 2, .aaload], .invokeinterface 315 1), ([.astore 4, .aload 3, .iload 2, .iconst 34051, .iconst 0], .invokeinterface 317 3), ([.aload 4], .invokeinterface 316 2), ([], .invokeinterface 299 2), ([], .ifCond .eq 9), ([.aload 0, .getfield 3093, .iload 2, .iconst (-2), .iastore], .return_), ([.iload 2, .iconst 34048, .iconst 1], .invokeinterface 317 3), ([.aload 4], .invokeinterface 316 2), ([.astore 5, .aload 3, .arraylength, .aload 5, .arraylength, .iconst 16, .iadd], .if_icmp .eq 13), ([], .return_), ([.aload 3, .aload 3, .arraylength, .iconst 4, .isub, .iconst 4], .invokeinterface 274 3), ([.l2i, .istore 6, .aload 0, .iload 6], .invokeinterface 269 1538), ([.istore 7, .iload 7, .iconst (-1)], .if_icmp .eq 21), ([.aload 3, .aload 5, .iload 6], .invokeinterface 326 1), ([], .invokeinterface 316 2), ([], .invokeinterface 299 2), ([], .ifCond .eq 21), ([.aload 0, .getfield 3093, .iload 2, .iload 7, .iastore], .nop), ([], .return_)]
def am_p327 : List Nat := [0, 10, 20, 21, 30, 41, 46, 49, 52, 61, 69, 74, 87, 88, 97, 106, 114, 122, 125, 128, 131, 139]
/-- X20_tick -/
def am_k328 : List (List Instr × Instr) := [([.aload 0, .dup, .getfield 3073, .iconst 1, .iadd, .putfield 3073, .iconst 0, .istore 1], .nop), ([.iload 1, .aload 0, .getfield 3074], .if_icmp .ge 14), ([.aload 0, .getfield 3077, .iload 1, .aaload, .astore 2, .iconst 0, .istore 3, .iconst 0, .istore 4], .nop), ([.iload 4, .aload 2, .getfield 2437], .if_icmp .ge 7), ([.aload 0, .getfield 3073, .aload 2, .getfield 2440, .iload 4, .aaload, .getfield 2562, .isub, .iconst 200], .if_icmp .ge 6), ([.aload 2, .getfield 2440, .iload 3, .aload 2, .getfield 2440, .iload 4, .aaload, .aastore, .iinc 3 1], .nop), ([.iinc 4 1], .goto 3), ([.aload 2, .iload 3, .putfield 2437], .nop), ([.aload 2, .getfield 2439], .ifCond .le 12), ([.aload 0, .getfield 3073, .aload 2, .getfield 2442, .iconst 0, .aaload, .getfield 2819, .isub, .iconst 60], .if_icmp .lt 12), ([.aload 2, .iconst 0], .invokeinterface 297 2), ([], .goto 8), ([.aload 0, .iload 1], .invokeinterface 351 1538), ([.iinc 1 1], .goto 1), ([], .return_)]
def am_p328 : List Nat := [0, 12, 20, 32, 41, 62, 78, 84, 89, 96, 115, 120, 123, 128, 134]
/-- X20_pass -/
def am_k329 : List (List Instr × Instr) := [([.aload 0, .iload 1, .i2l, .jsr_w 1, .jsr_w 100], .invokeinterface 246 3), ([.aload 0, .getfield 3073, .i2l, .iload 1, .i2l, .ladd, .jsr_w 20000, .lcmp], .ifCond .gt 3), ([.iconst 1], .goto 4), ([.iconst 0], .nop), ([], .invokeinterface 248 1539), ([], .ifCond .ne 7), ([.iconst 0], .ireturn), ([.iconst 0, .istore 2], .nop), ([.iload 2, .iload 1], .if_icmp .ge 11), ([.aload 0], .invokeinterface 328 1537), ([.iinc 2 1], .goto 8), ([.aload 0, .getfield 3073], .ireturn)]
def am_p329 : List Nat := [0, 10, 25, 29, 30, 33, 36, 38, 40, 45, 49, 55]
/-- X20_settle -/
def am_k330 : List (List Instr × Instr) := [([.aload 0, .iload 1, .i2l, .jsr_w 1, .jsr_w 60], .invokeinterface 246 3), ([.aload 0, .getfield 3073, .i2l, .iload 1, .i2l, .ladd, .jsr_w 20000, .lcmp], .ifCond .gt 3), ([.iconst 1], .goto 4), ([.iconst 0], .nop), ([], .invokeinterface 248 1539), ([], .ifCond .ne 7), ([.iconst 0], .ireturn), ([.iconst 0, .istore 2, .iconst 0, .istore 3, .iconst 1, .istore 4], .nop), ([.iload 4], .ifCond .eq 22), ([.aload 0, .getfield 3079], .ifCond .le 13), ([.iload 3, .iconst 500], .if_icmp .ge 13), ([.aload 0, .iconst 0], .invokeinterface 278 1538), ([.istore 5, .iinc 3 1], .goto 9), ([.iload 3, .iconst 500], .if_icmp .ge 18), ([.iload 2, .iload 1], .if_icmp .ge 18), ([.aload 0], .invokeinterface 350 1537), ([], .ifCond .eq 18), ([.iconst 1], .goto 19), ([.iconst 0], .nop), ([.istore 4, .iload 4], .ifCond .eq 8), ([.aload 0], .invokeinterface 328 1537), ([.iinc 2 1], .goto 8), ([.iload 2], .ireturn)]
def am_p330 : List Nat := [0, 10, 25, 29, 30, 33, 36, 38, 45, 50, 57, 64, 69, 77, 84, 89, 93, 96, 100, 101, 108, 112, 118]
/-- X20_draw -/
def am_k331 : List (List Instr × Instr) := [([.aload 0, .aload 0, .getfield 3095, .iconst 1103515245, .imul, .iconst 12345, .iadd, .putfield 3095, .aload 0, .getfield 3095, .iconst 16, .iushr, .iload 1, .irem], .ireturn)]
def am_p331 : List Nat := [0]
/-- X20_play -/
def am_k332 : List (List Instr × Instr) := [([.aload 0, .iload 2, .i2l, .jsr_w 1, .jsr_w 200], .invokeinterface 246 3), ([.aload 0, .getfield 3073, .i2l, .iload 2, .i2l, .ladd, .jsr_w 20000, .lcmp], .ifCond .gt 3), ([.iconst 1], .goto 4), ([.iconst 0], .nop), ([], .invokeinterface 248 1539), ([], .ifCond .ne 7), ([.iconst 0], .ireturn), ([.aload 0, .iload 1, .putfield 3095, .iconst 0, .istore 3], .nop), ([.iload 3, .iload 2], .if_icmp .ge 30), ([.aload 0, .iconst 16], .invokeinterface 331 1538), ([.istore 4, .iload 4, .iconst 11], .if_icmp .ge 14), ([.aload 0, .aload 0, .iconst 1000], .invokeinterface 331 1538), ([], .invokeinterface 279 1538), ([.istore 5], .goto 29), ([.iload 4, .iconst 11], .if_icmp .ne 18), ([.aload 0, .aload 0, .iconst 1000], .invokeinterface 331 1538), ([], .invokeinterface 280 1538), ([.istore 5], .goto 29), ([.iload 4, .iconst 12], .if_icmp .ne 22), ([.aload 0, .aload 0, .iconst 1000], .invokeinterface 331 1538), ([], .invokeinterface 281 1538), ([.istore 5], .goto 29), ([.iload 4, .iconst 13], .if_icmp .ne 28), ([.aload 0, .iconst 1000], .invokeinterface 331 1538), ([.istore 5, .aload 0, .iconst 1000], .invokeinterface 331 1538), ([.istore 6, .aload 0, .iload 5, .iload 6, .aload 0, .iconst 255], .invokeinterface 331 1538), ([.iconst 1, .iadd], .invokeinterface 282 1540), ([.istore 7], .goto 29), ([.aload 0], .invokeinterface 328 1537), ([.iinc 3 1], .goto 8), ([.aload 0, .getfield 3073], .ireturn)]
def am_p332 : List Nat := [0, 10, 25, 29, 30, 33, 36, 38, 45, 50, 56, 65, 73, 76, 81, 88, 96, 99, 104, 111, 119, 122, 127, 134, 141, 150, 164, 169, 174, 178, 184]
/-- X20_countOfWire -/
def am_k333 : List (List Instr × Instr) := [([.iload 1], .tableswitch 6 2 14 #[1, 2, 3, 4, 6, 6, 6, 6, 6, 6, 6, 6, 5]), ([.aload 0, .getfield 3079], .ireturn), ([.aload 0, .getfield 3082, .l2i], .ireturn), ([.aload 0, .getfield 3080], .ireturn), ([.aload 0, .getfield 3081], .ireturn), ([.aload 0, .getfield 3086], .ireturn), ([.aload 0, .getfield 3076], .ireturn)]
def am_p333 : List Nat := [0, 68, 73, 79, 84, 89, 94]
/-- X20_isAhead -/
def am_k334 : List (List Instr × Instr) := [([.iload 1, .iload 0, .isub], .ifCond .le 2), ([.iconst 1], .goto 3), ([.iconst 0], .nop), ([], .ireturn)]
def am_p334 : List Nat := [0, 6, 10, 11]
/-- X20_isLine -/
def am_k335 : List (List Instr × Instr) := [([.iload 1, .i2l, .jsr_w 0, .aload 0, .getfield 3097, .iconst 1, .isub, .i2l], .invokeinterface 246 3), ([], .ireturn)]
def am_p335 : List Nat := [0, 13]
/-- X20_two -/
def am_k336 : List (List Instr × Instr) := [([.aload 0, .iload 1, .iload 2, .iconst 8, .iushr, .iconst 255, .iand, .iastore, .aload 0, .iload 1, .iconst 1, .iadd, .iload 2, .iconst 255, .iand, .iastore], .return_)]
def am_p336 : List Nat := [0]
/-- X20_four -/
def am_k337 : List (List Instr × Instr) := [([.aload 0, .iload 1, .iload 2, .iconst 16, .iushr], .invokeinterface 336 3), ([.aload 0, .iload 1, .iconst 2, .iadd, .iload 2], .invokeinterface 336 3), ([], .return_)]
def am_p337 : List Nat := [0, 9, 17]
/-- X20_twoAt -/
def am_k338 : List (List Instr × Instr) := [([.aload 0, .iload 1, .iaload, .iconst 8, .ishl, .aload 0, .iload 1, .iconst 1, .iadd, .iaload, .ior], .ireturn)]
def am_p338 : List Nat := [0]
/-- X20_fourAt -/
def am_k339 : List (List Instr × Instr) := [([.aload 0, .iload 1], .invokeinterface 338 2), ([.iconst 16, .ishl, .aload 0, .iload 1, .iconst 2, .iadd], .invokeinterface 338 2), ([.ior], .ireturn)]
def am_p339 : List Nat := [0, 5, 15]
/-- X20_sendSegment -/
def am_k340 : List (List Instr × Instr) := [([.iload 9], .ifCond .le 2), ([.iconst 24], .goto 3), ([.iconst 20], .nop), ([.istore 13, .iload 13, .iload 12, .iadd, .newarray .int, .astore 14, .aload 14, .iconst 0, .iload 2], .invokeinterface 336 3), ([.aload 14, .iconst 2, .iload 4], .invokeinterface 336 3), ([.aload 14, .iconst 4, .iload 5], .invokeinterface 337 3), ([.aload 14, .iconst 8, .iload 6], .invokeinterface 337 3), ([.aload 14, .iconst 12, .iconst 4, .iload 13, .imul, .iastore, .aload 14, .iconst 13, .iload 7, .iastore, .aload 14, .iconst 14, .iload 8], .invokeinterface 336 3), ([.iload 9], .ifCond .le 10), ([.aload 14, .iconst 20, .iconst 2, .iastore, .aload 14, .iconst 21, .iconst 4, .iastore, .aload 14, .iconst 22, .iload 9], .invokeinterface 336 3), ([.iconst 0, .istore 15], .nop), ([.iload 15, .iload 12], .if_icmp .ge 13), ([.aload 14, .iload 13, .iload 15, .iadd, .aload 10, .getfield 2048, .iload 11, .iload 15, .iadd, .iaload, .iastore, .iinc 15 1], .goto 11), ([.aload 14, .iconst 16, .aload 0, .iload 1, .iload 3, .iconst 6, .aload 14, .iconst 0, .iload 13, .iload 12, .iadd], .invokeinterface 262 1543), ([], .invokeinterface 336 3), ([.aload 0, .iload 1, .iload 3, .iconst 6, .aload 14, .iload 13, .iload 12, .iadd], .invokeinterface 293 1542), ([], .return_)]
def am_p340 : List Nat := [0, 5, 10, 12, 30, 38, 46, 55, 80, 85, 106, 109, 116, 141, 161, 164, 179]
/-- X20_sendOn -/
def am_k341 : List (List Instr × Instr) := [([.aload 0, .aload 1, .getfield 2689, .aload 1, .getfield 2690, .aload 1, .getfield 2691, .aload 1, .getfield 2692, .iload 2, .iload 3, .iconst 16, .iand], .ifCond .eq 2), ([.aload 1, .getfield 2708], .goto 3), ([.iconst 0], .nop), ([.iload 3, .aload 1], .invokeinterface 237 1345), ([.iload 3, .iconst 2, .iand], .ifCond .eq 7), ([.aload 0, .aload 1, .getfield 2689], .invokeinterface 264 1538), ([], .goto 8), ([.iconst 0], .nop), ([.aload 1, .getfield 2697, .iload 4, .iload 5], .invokeinterface 340 1549), ([], .return_)]
def am_p341 : List Nat := [0, 25, 32, 33, 38, 44, 52, 55, 56, 67]
/-- X20_acknowledges -/
def am_k342 : List (List Instr × Instr) := [([.aload 0, .aload 1, .aload 1, .getfield 2696, .iconst 16, .iconst 0, .iconst 0], .invokeinterface 341 1542), ([], .return_)]
def am_p342 : List Nat := [0, 13]
/-- X20_resets -/
def am_k343 : List (List Instr × Instr) := [([.aload 0, .dup, .getfield 3099, .iconst 1, .iadd, .putfield 3099, .aload 0, .aload 1, .getfield 2689, .aload 1, .getfield 2690, .aload 1, .getfield 2691, .aload 1, .getfield 2692, .iload 2, .iconst 0, .iconst 4, .iconst 0, .iconst 0, .aload 1, .getfield 2697, .iconst 0, .iconst 0], .invokeinterface 340 1549), ([], .return_)]
def am_p343 : List Nat := [0, 41]
/-- X20_timesAnew -/
def am_k344 : List (List Instr × Instr) := [([.aload 1, .aload 0, .getfield 3073, .putfield 2715], .return_)]
def am_p344 : List Nat := [0]
/-- X20_sendBytes -/
def am_k345 : List (List Instr × Instr) := [([.aload 1], .invokeinterface 233 1345), ([.istore 3, .aload 1, .getfield 2696, .aload 1, .getfield 2695], .if_icmp .ne 3), ([.aload 0, .aload 1], .invokeinterface 344 1538), ([.aload 0, .aload 1, .aload 1, .getfield 2696, .iload 3, .iload 2, .iadd, .aload 1, .getfield 2697, .getfield 2049], .if_icmp .ne 5), ([.iconst 24], .goto 6), ([.iconst 16], .nop), ([.iload 3, .iload 2], .invokeinterface 341 1542), ([.aload 1, .getfield 2719], .ifCond .ne 9), ([.aload 1, .iconst 1, .putfield 2719, .aload 1, .aload 1, .getfield 2696, .iload 2, .iadd, .putfield 2720, .aload 1, .aload 0, .getfield 3073, .putfield 2721], .nop), ([.aload 1, .dup, .getfield 2696, .iload 2, .iadd, .putfield 2696], .return_)]
def am_p345 : List Nat := [0, 4, 16, 21, 40, 45, 47, 52, 59, 82]
/-- X20_sendsAll -/
def am_k346 : List (List Instr × Instr) := [([.aload 1], .invokeinterface 238 1345), ([], .ifCond .eq 19), ([.aload 1, .getfield 2700, .aload 1, .getfield 2703, .jsr 0, .istore 2], .nop), ([.aload 1], .invokeinterface 233 1345), ([.aload 1, .getfield 2697, .getfield 2049], .if_icmp .ge 11), ([.aload 1], .invokeinterface 232 1345), ([.iload 2], .if_icmp .ge 11), ([.aload 1, .getfield 2697, .getfield 2049, .aload 1], .invokeinterface 233 1345), ([.isub, .istore 3, .aload 0, .aload 1, .iload 3, .aload 1, .getfield 2705, .iload 2, .aload 1], .invokeinterface 232 1345), ([.isub, .jsr 0, .jsr 0], .invokeinterface 345 1539), ([], .goto 3), ([.aload 1, .getfield 2698], .ifCond .eq 19), ([.aload 1, .getfield 2699], .ifCond .ne 19), ([.aload 1], .invokeinterface 233 1345), ([.aload 1, .getfield 2697, .getfield 2049], .if_icmp .ne 19), ([.aload 1, .getfield 2696, .aload 1, .getfield 2695], .if_icmp .ne 17), ([.aload 0, .aload 1], .invokeinterface 344 1538), ([.aload 1, .iconst 1, .putfield 2699, .aload 0, .aload 1, .aload 1, .getfield 2696, .iconst 17, .iconst 0, .iconst 0], .invokeinterface 341 1542), ([.aload 1, .dup, .getfield 2696, .iconst 1, .iadd, .putfield 2696], .nop), ([.aload 1], .invokeinterface 239 1345), ([.istore 2, .iload 2], .ifCond .eq 23), ([.aload 1, .getfield 2716], .ifCond .ne 23), ([.aload 0, .aload 1], .invokeinterface 344 1538), ([.aload 1, .iload 2, .putfield 2716], .return_)]
def am_p346 : List Nat := [0, 4, 7, 19, 23, 33, 37, 41, 52, 66, 76, 79, 86, 93, 97, 107, 118, 123, 141, 151, 155, 160, 167, 172]
/-- X20_sendsAgain -/
def am_k347 : List (List Instr × Instr) := [([.aload 1, .iconst 0, .putfield 2719, .aload 0, .aload 1], .invokeinterface 344 1538), ([.aload 1, .getfield 2694, .iconst 1], .if_icmp .eq 3), ([.aload 1, .getfield 2694, .iconst 2], .if_icmp .ne 8), ([.aload 0, .aload 1, .aload 1, .getfield 2693, .aload 1, .getfield 2694, .iconst 1], .if_icmp .ne 5), ([.iconst 2], .goto 6), ([.iconst 18], .nop), ([.iconst 0, .iconst 0], .invokeinterface 341 1542), ([], .return_), ([.aload 1], .invokeinterface 234 1345), ([.istore 2, .aload 1, .getfield 2705, .aload 1], .invokeinterface 233 1345), ([.iload 2, .isub, .jsr 0, .istore 3, .iload 3], .ifCond .le 16), ([.aload 0, .dup, .getfield 3098, .iload 3, .iadd, .putfield 3098, .aload 0, .aload 1, .aload 1, .getfield 2695, .iload 2, .iload 3, .iadd, .aload 1, .getfield 2697, .getfield 2049], .if_icmp .ne 13), ([.iconst 24], .goto 14), ([.iconst 16], .nop), ([.iload 2, .iload 3], .invokeinterface 341 1542), ([], .goto 17), ([.aload 0, .aload 1, .aload 1, .getfield 2695, .iconst 17, .iconst 0, .iconst 0], .invokeinterface 341 1542), ([], .return_)]
def am_p347 : List Nat := [0, 10, 18, 26, 40, 44, 46, 51, 52, 56, 65, 75, 104, 109, 111, 116, 119, 132]
/-- X20_shrinks -/
def am_k348 : List (List Instr × Instr) := [([.aload 1, .aload 1], .invokeinterface 232 1345), ([.iconst 2, .idiv, .iconst 2, .aload 1, .getfield 2705, .imul, .jsr 1, .putfield 2704, .aload 1, .iload 2], .ifCond .eq 3), ([.aload 1, .getfield 2705], .goto 4), ([.aload 1, .getfield 2704], .nop), ([.putfield 2703], .return_)]
def am_p348 : List Nat := [0, 5, 24, 31, 35]
/-- X20_isOver -/
def am_k349 : List (List Instr × Instr) := [([.aload 1, .getfield 2696, .aload 1, .getfield 2695], .if_icmp .ne 3), ([.aload 1, .iconst 0, .putfield 2716, .aload 0, .aload 1, .iconst 1], .invokeinterface 345 1539), ([], .return_), ([.aload 1, .dup, .getfield 2717, .iconst 1, .iadd, .putfield 2717, .aload 1, .getfield 2717, .iconst 9], .if_icmp .ne 5), ([.aload 1, .iconst 0, .putfield 2694, .aload 1, .iconst 3, .putfield 2725], .return_), ([.aload 1, .iconst 80, .iconst 2, .aload 1, .getfield 2714, .imul, .jsr 0, .putfield 2714, .aload 0, .aload 1, .iconst 1], .invokeinterface 348 1539), ([.aload 0, .aload 1], .invokeinterface 347 1538), ([], .return_)]
def am_p349 : List Nat := [0, 11, 22, 23, 42, 53, 74, 79]
/-- X20_doesATimerRun -/
def am_k350 : List (List Instr × Instr) := [([.iconst 0, .istore 1, .iconst 0, .istore 2], .nop), ([.iload 2, .aload 0, .getfield 3097], .if_icmp .ge 4), ([.iload 1, .aload 0, .getfield 3096, .iload 2, .aaload], .invokeinterface 240 1345), ([.ior, .istore 1, .iinc 2 1], .goto 1), ([.iload 1], .ireturn)]
def am_p350 : List Nat := [0, 4, 12, 22, 30]
/-- X20_connectionsTick -/
def am_k351 : List (List Instr × Instr) := [([.iconst 0, .istore 2], .nop), ([.iload 2, .aload 0, .getfield 3097], .if_icmp .ge 18), ([.aload 0, .getfield 3096, .iload 2, .aaload, .astore 3, .aload 3, .getfield 2689, .iload 1], .if_icmp .ne 17), ([.aload 3, .getfield 2694], .ifCond .ne 5), ([], .goto 17), ([.aload 3, .getfield 2694, .iconst 8], .if_icmp .ne 8), ([.aload 0, .getfield 3073, .aload 3, .getfield 2727, .isub, .iconst 40], .if_icmp .lt 8), ([.aload 3, .iconst 0, .putfield 2694], .nop), ([.aload 3], .invokeinterface 240 1345), ([], .ifCond .eq 12), ([.aload 0, .getfield 3073, .aload 3, .getfield 2715, .isub, .aload 3, .getfield 2714], .if_icmp .lt 12), ([.aload 0, .aload 3], .invokeinterface 349 1538), ([.iload 1], .ifCond .ne 17), ([.aload 3, .getfield 2694], .ifCond .eq 17), ([.aload 3, .getfield 2694, .iconst 8], .if_icmp .eq 17), ([.aload 0, .getfield 3073, .aload 3, .getfield 2726, .isub, .iconst 400], .if_icmp .lt 17), ([.aload 0, .aload 3], .invokeinterface 379 1538), ([.iinc 2 1], .goto 1), ([], .return_)]
def am_p351 : List Nat := [0, 2, 10, 25, 32, 35, 44, 58, 63, 67, 70, 86, 91, 95, 102, 111, 126, 131, 137]
/-- X20_lineOf -/
def am_k352 : List (List Instr × Instr) := [([.aconst_null, .astore 5, .iconst 0, .istore 6], .nop), ([.iload 6, .aload 0, .getfield 3097], .if_icmp .ge 10), ([.aload 0, .getfield 3096, .iload 6, .aaload, .astore 7, .aload 7, .getfield 2694], .ifCond .eq 8), ([.aload 7, .getfield 2689, .iload 1], .if_icmp .ne 8), ([.aload 7, .getfield 2690, .iload 2], .if_icmp .ne 8), ([.aload 7, .getfield 2691, .iload 3], .if_icmp .ne 8), ([.aload 7, .getfield 2692, .iload 4], .if_icmp .ne 8), ([.aload 7], .goto 9), ([.aload 5], .nop), ([.astore 5, .iinc 6 1], .goto 1), ([.aload 5], .areturn)]
def am_p352 : List Nat := [0, 6, 15, 32, 41, 50, 59, 69, 74, 76, 84]
/-- X20_toldMss -/
def am_k353 : List (List Instr × Instr) := [([.iload 1, .istore 3], .nop), ([.iload 3, .iload 2], .if_icmp .ge 16), ([.aload 0, .iload 3, .iaload], .ifCond .eq 16), ([.aload 0, .iload 3, .iaload, .iconst 1], .if_icmp .ne 5), ([.iinc 3 1], .goto 1), ([.iload 3, .iconst 1, .iadd, .iload 2], .if_icmp .ge 7), ([.aload 0, .iload 3, .iconst 1, .iadd, .iaload], .goto 8), ([.iconst 0], .nop), ([.istore 4, .iload 4, .iconst 2], .if_icmp .lt 10), ([.iload 3, .iload 4, .iadd, .iload 2], .if_icmp .le 11), ([.iconst 536], .ireturn), ([.aload 0, .iload 3, .iaload, .iconst 2], .if_icmp .ne 15), ([.iload 4, .iconst 4], .if_icmp .ne 15), ([.aload 0, .iload 3, .iconst 2, .iadd], .invokeinterface 338 2), ([], .ireturn), ([.iload 3, .iload 4, .iadd, .istore 3], .goto 1), ([.iconst 536], .ireturn)]
def am_p353 : List Nat := [0, 2, 7, 13, 20, 26, 33, 41, 42, 50, 58, 62, 69, 75, 82, 83, 91]
/-- X20_has -/
def am_k354 : List (List Instr × Instr) := [([.aload 0, .getfield 3105, .iload 1, .iand], .ifCond .eq 2), ([.iconst 1], .goto 3), ([.iconst 0], .nop), ([], .ireturn)]
def am_p354 : List Nat := [0, 9, 13, 14]
/-- X20_segment -/
def am_k355 : List (List Instr × Instr) := [([.iload 5, .iconst 20], .if_icmp .lt 2), ([.aload 3, .iload 4, .iconst 12, .iadd, .iaload, .iconst 16, .idiv, .iconst 4, .imul], .goto 3), ([.iconst 0], .nop), ([.istore 6, .iload 2, .iconst (-1)], .if_icmp .eq 8), ([.iload 6, .iconst 20], .if_icmp .lt 8), ([.iload 6, .iload 5], .if_icmp .gt 8), ([.aload 0, .iload 2, .iload 1, .iconst 6, .aload 3, .iload 4, .iload 5], .invokeinterface 262 1543), ([], .ifCond .eq 9), ([], .return_), ([.aload 0, .aload 3, .putfield 3100, .aload 0, .iload 4, .iload 6, .iadd, .putfield 3101, .aload 0, .iload 5, .iload 6, .isub, .putfield 3102, .aload 0, .aload 3, .iload 4, .iconst 4, .iadd], .invokeinterface 339 2), ([.putfield 3103, .aload 0, .aload 3, .iload 4, .iconst 8, .iadd], .invokeinterface 339 2), ([.putfield 3104, .aload 0, .aload 3, .iload 4, .iconst 13, .iadd, .iaload, .putfield 3105, .aload 0, .aload 3, .iload 4, .iconst 14, .iadd], .invokeinterface 338 2), ([.putfield 3106, .aload 3, .iload 4], .invokeinterface 338 2), ([.istore 7, .aload 3, .iload 4, .iconst 2, .iadd], .invokeinterface 338 2), ([.istore 8, .aload 0, .iload 1, .iload 8, .iload 2, .iload 7], .invokeinterface 352 1541), ([.astore 9, .aload 0, .iconst 2], .invokeinterface 354 1538), ([], .ifCond .eq 19), ([.aload 3, .iload 4, .iconst 20, .iadd, .iload 4, .iload 6, .iadd], .invokeinterface 353 3), ([], .goto 20), ([.iconst 0], .nop), ([.istore 10, .aload 9], .ifnull 23), ([.aload 9, .aload 0, .getfield 3073, .putfield 2726, .aload 0, .aload 9, .iload 10], .invokeinterface 359 1539), ([], .goto 24), ([.aload 0, .iload 1, .iload 8, .iload 2, .iload 7, .iload 10], .invokeinterface 357 1542), ([], .return_)]
def am_p355 : List Nat := [0, 7, 22, 23, 30, 37, 44, 57, 60, 61, 93, 106, 130, 139, 149, 161, 168, 171, 185, 188, 189, 196, 213, 216, 228]
/-- X20_openOfServer -/
def am_k356 : List (List Instr × Instr) := [([.iconst 0, .istore 1, .iconst 0, .istore 2], .nop), ([.iload 2, .aload 0, .getfield 3097], .if_icmp .ge 7), ([.iload 1, .aload 0, .getfield 3096, .iload 2, .aaload, .getfield 2689], .ifCond .ne 5), ([.aload 0, .getfield 3096, .iload 2, .aaload, .getfield 2694], .ifCond .eq 5), ([.iconst 1], .goto 6), ([.iconst 0], .nop), ([.iadd, .istore 1, .iinc 2 1], .goto 1), ([.iload 1], .ireturn)]
def am_p356 : List Nat := [0, 4, 12, 25, 37, 41, 42, 50]
/-- X20_comesToNone -/
def am_k357 : List (List Instr × Instr) := [([.aload 0, .iconst 4], .invokeinterface 354 1538), ([], .ifCond .eq 3), ([], .return_), ([.iload 1], .ifCond .ne 10), ([.iload 2, .iconst 80], .if_icmp .ne 10), ([.aload 0, .iconst 2], .invokeinterface 354 1538), ([], .ifCond .eq 10), ([.aload 0, .iconst 16], .invokeinterface 354 1538), ([], .ifCond .ne 10), ([.iconst 1], .goto 11), ([.iconst 0], .nop), ([.istore 6, .iload 6], .ifCond .eq 21), ([.aload 0], .invokeinterface 356 1537), ([.iconst 6], .if_icmp .ge 21), ([.aload 0, .getfield 3097, .iconst 60], .if_icmp .ge 21), ([.new 21, .dup, .aload 0, .getfield 3097, .iconst 0, .iload 2, .iload 3, .iload 4, .aload 0, .getfield 3073, .iload 5, .aload 0, .iconst 0], .invokeinterface 264 1538), ([.jsr 0], .invokeinterface 231 1352), ([.astore 7, .aload 0, .getfield 3096, .aload 0, .getfield 3097, .aload 7, .aastore, .aload 0, .dup, .getfield 3097, .iconst 1, .iadd, .putfield 3097, .aload 7, .iconst 2, .putfield 2694, .aload 7, .iconst 1, .putfield 2706, .aload 7, .aload 0, .getfield 3103, .putfield 2707, .aload 7, .aload 0, .getfield 3103, .iconst 1, .iadd, .putfield 2708, .aload 7, .aload 0, .getfield 3106, .putfield 2700, .aload 7, .aload 0, .getfield 3103, .putfield 2701, .aload 7, .aload 0, .getfield 3104, .putfield 2702, .aload 7, .aload 0, .aload 7], .invokeinterface 358 1538), ([.putfield 2728, .aload 0, .aload 7], .invokeinterface 344 1538), ([.aload 0, .aload 7, .aload 7, .getfield 2693, .iconst 18, .iconst 0, .iconst 0], .invokeinterface 341 1542), ([], .return_), ([.aload 0, .dup, .getfield 3099, .iconst 1, .iadd, .putfield 3099, .aload 0, .getfield 3102, .aload 0, .iconst 2], .invokeinterface 354 1538), ([], .ifCond .eq 24), ([.iconst 1], .goto 25), ([.iconst 0], .nop), ([.iadd, .aload 0, .iconst 1], .invokeinterface 354 1538), ([], .ifCond .eq 28), ([.iconst 1], .goto 29), ([.iconst 0], .nop), ([.iadd, .istore 7, .aload 0, .iconst 16], .invokeinterface 354 1538), ([], .ifCond .eq 33), ([.aload 0, .iload 1, .iload 2, .iload 3, .iload 4, .aload 0, .getfield 3104, .iconst 0, .iconst 4, .iconst 0, .iconst 0, .aconst_null, .iconst 0, .iconst 0], .invokeinterface 340 1549), ([], .goto 34), ([.aload 0, .iload 1, .iload 2, .iload 3, .iload 4, .iconst 0, .aload 0, .getfield 3103, .iload 7, .iadd, .iconst 20, .iconst 0, .iconst 0, .aconst_null, .iconst 0, .iconst 0], .invokeinterface 340 1549), ([], .return_)]
def am_p357 : List Nat := [0, 5, 8, 9, 13, 19, 24, 27, 33, 36, 40, 41, 48, 52, 57, 66, 90, 96, 186, 195, 210, 211, 230, 233, 237, 238, 244, 247, 251, 252, 261, 264, 284, 287, 311]
/-- X20_beginner -/
def am_k358 : List (List Instr × Instr) := [([.aload 1, .getfield 2692, .iconst 40000, .isub, .istore 2, .aload 0, .iload 2], .invokeinterface 335 1538), ([], .ifCond .eq 4), ([.aload 0, .getfield 3096, .iload 2, .aaload, .getfield 2689, .aload 1, .getfield 2691], .if_icmp .ne 4), ([.iload 2], .goto 5), ([.iconst (-1)], .nop), ([], .ireturn)]
def am_p358 : List Nat := [0, 14, 17, 33, 37, 38]
/-- X20_comes -/
def am_k359 : List (List Instr × Instr) := [([.aload 1, .getfield 2694, .iconst 1], .if_icmp .ne 3), ([.aload 0, .aload 1, .iload 2], .invokeinterface 361 1539), ([], .return_), ([.aload 0, .iconst 2], .invokeinterface 354 1538), ([], .ifCond .eq 12), ([.aload 1, .getfield 2694, .iconst 2], .if_icmp .ne 10), ([.aload 0, .getfield 3103, .aload 1, .getfield 2707], .if_icmp .ne 10), ([.aload 0, .aload 1], .invokeinterface 344 1538), ([.aload 0, .aload 1, .aload 1, .getfield 2693, .iconst 18, .iconst 0, .iconst 0], .invokeinterface 341 1542), ([], .goto 11), ([.aload 0, .aload 1], .invokeinterface 342 1538), ([], .return_), ([.aload 0, .iconst 4], .invokeinterface 354 1538), ([], .ifCond .eq 17), ([.aload 0, .getfield 3103, .aload 1, .getfield 2708], .if_icmp .ne 16), ([.aload 1, .iconst 0, .putfield 2694, .aload 1, .iconst 2, .putfield 2725], .nop), ([], .return_), ([.aload 0, .iconst 16], .invokeinterface 354 1538), ([], .ifCond .ne 20), ([], .return_), ([.aload 1, .getfield 2694, .iconst 2], .if_icmp .ne 25), ([.aload 0, .getfield 3104, .aload 1, .getfield 2693, .iconst 1, .iadd], .if_icmp .eq 24), ([.aload 0, .aload 1, .aload 0, .getfield 3104], .invokeinterface 343 1539), ([], .return_), ([.aload 1, .aload 0, .getfield 3104, .putfield 2695, .aload 0, .aload 1], .invokeinterface 360 1538), ([.aload 1, .getfield 2696, .aload 0, .getfield 3104], .invokeinterface 334 2), ([], .ifCond .eq 29), ([.aload 0, .aload 1], .invokeinterface 342 1538), ([], .return_), ([.aload 0, .aload 1], .invokeinterface 363 1538), ([.istore 3, .iload 3], .ifCond .eq 34), ([.aload 0, .aload 1], .invokeinterface 366 1538), ([], .ifCond .eq 34), ([], .return_), ([.aload 0, .aload 1], .invokeinterface 367 1538), ([.aload 0, .getfield 3102], .ifCond .gt 38), ([.aload 0, .iconst 1], .invokeinterface 354 1538), ([], .ifCond .eq 39), ([.aload 0, .aload 1], .invokeinterface 342 1538), ([.aload 1, .getfield 2689], .ifCond .ne 41), ([.aload 0, .aload 1, .getfield 2688], .invokeinterface 452 1538), ([.aload 0, .aload 1], .invokeinterface 346 1538), ([], .return_)]
def am_p359 : List Nat := [0, 8, 14, 15, 20, 23, 31, 42, 47, 60, 63, 68, 69, 74, 77, 88, 98, 99, 105, 108, 109, 117, 130, 139, 140, 153, 164, 167, 172, 173, 178, 183, 188, 191, 192, 197, 204, 209, 212, 217, 224, 232, 237]
/-- X20_establishes -/
def am_k360 : List (List Instr × Instr) := [([.aload 1, .iconst 3, .putfield 2694, .aload 1, .aload 1, .getfield 2705, .putfield 2703, .aload 1, .iconst 0, .putfield 2717], .return_)]
def am_p360 : List Nat := [0]
/-- X20_answers -/
def am_k361 : List (List Instr × Instr) := [([.aload 0, .iconst 16], .invokeinterface 354 1538), ([], .ifCond .eq 4), ([.aload 0, .getfield 3104, .aload 1, .getfield 2693, .iconst 1, .iadd], .if_icmp .ne 4), ([.iconst 1], .goto 5), ([.iconst 0], .nop), ([.istore 3, .aload 0, .iconst 16], .invokeinterface 354 1538), ([], .ifCond .eq 12), ([.iload 3], .ifCond .ne 12), ([.aload 0, .iconst 4], .invokeinterface 354 1538), ([], .ifCond .ne 11), ([.aload 0, .aload 1, .aload 0, .getfield 3104], .invokeinterface 343 1539), ([], .return_), ([.aload 0, .iconst 4], .invokeinterface 354 1538), ([], .ifCond .eq 17), ([.iload 3], .ifCond .eq 16), ([.aload 1, .iconst 0, .putfield 2694, .aload 1, .iconst 1, .putfield 2725], .nop), ([], .return_), ([.aload 0, .iconst 2], .invokeinterface 354 1538), ([], .ifCond .eq 20), ([.iload 3], .ifCond .ne 21), ([], .return_), ([.aload 1, .iconst 1, .putfield 2706, .aload 1, .aload 0, .getfield 3103, .putfield 2707, .aload 1, .aload 0, .getfield 3103, .iconst 1, .iadd, .putfield 2708, .aload 1, .aload 0, .getfield 3104, .putfield 2695, .aload 1, .aload 0, .getfield 3106, .putfield 2700, .aload 1, .aload 0, .getfield 3103, .putfield 2701, .aload 1, .aload 0, .getfield 3104, .putfield 2702, .aload 1, .aload 1, .getfield 2705, .iload 2, .jsr 0, .putfield 2705, .aload 1, .aload 0, .aload 1], .invokeinterface 362 1538), ([.putfield 2728, .aload 0, .aload 1], .invokeinterface 360 1538), ([.aload 0, .aload 1], .invokeinterface 342 1538), ([.aload 0, .aload 1], .invokeinterface 346 1538), ([], .return_)]
def am_p361 : List Nat := [0, 6, 9, 22, 26, 27, 34, 37, 41, 46, 49, 58, 59, 64, 67, 71, 81, 82, 87, 90, 94, 95, 168, 176, 181, 186]
/-- X20_answerer -/
def am_k362 : List (List Instr × Instr) := [([.iconst (-1), .istore 2, .iconst 0, .istore 3], .nop), ([.iload 3, .aload 0, .getfield 3097], .if_icmp .ge 7), ([.aload 0, .getfield 3096, .iload 3, .aaload, .getfield 2689, .aload 1, .getfield 2691], .if_icmp .ne 5), ([.aload 0, .getfield 3096, .iload 3, .aaload, .getfield 2693, .aload 1, .getfield 2707], .if_icmp .ne 5), ([.iload 3], .goto 6), ([.iload 2], .nop), ([.istore 2, .iinc 3 1], .goto 1), ([.iload 2], .ireturn)]
def am_p362 : List Nat := [0, 4, 12, 28, 44, 48, 49, 56]
/-- X20_isAcknowledged -/
def am_k363 : List (List Instr × Instr) := [([.aload 1, .getfield 2695, .aload 0, .getfield 3104], .invokeinterface 334 2), ([.istore 2, .iload 2], .ifCond .eq 6), ([.aload 1, .aload 0, .getfield 3104, .putfield 2695, .aload 1], .invokeinterface 364 1), ([.aload 1, .iconst 0, .putfield 2718, .aload 0, .aload 1], .invokeinterface 365 1538), ([.aload 0, .aload 1], .invokeinterface 344 1538), ([], .goto 15), ([.aload 1, .getfield 2695, .aload 0, .getfield 3104], .if_icmp .ne 15), ([.aload 0, .getfield 3102], .ifCond .ne 15), ([.aload 0, .iconst 1], .invokeinterface 354 1538), ([], .ifCond .ne 15), ([.aload 1, .getfield 2696, .aload 1, .getfield 2695], .if_icmp .eq 15), ([.aload 0, .getfield 3106, .aload 1, .getfield 2700], .if_icmp .ne 15), ([.aload 1, .dup, .getfield 2718, .iconst 1, .iadd, .putfield 2718, .aload 1, .getfield 2718, .iconst 3], .if_icmp .ne 15), ([.aload 0, .aload 1], .invokeinterface 347 1538), ([.aload 0, .aload 1, .iconst 0], .invokeinterface 348 1539), ([.aload 0, .getfield 3104, .aload 1, .getfield 2695], .invokeinterface 334 2), ([], .ifCond .ne 18), ([.aload 1, .iconst 0, .putfield 2717], .nop), ([.aload 1, .getfield 2701, .aload 0, .getfield 3103], .invokeinterface 334 2), ([], .ifCond .ne 23), ([.aload 1, .getfield 2701, .aload 0, .getfield 3103], .if_icmp .ne 24), ([.aload 0, .getfield 3104, .aload 1, .getfield 2702], .invokeinterface 334 2), ([], .ifCond .ne 24), ([.iconst 1], .goto 25), ([.iconst 0], .nop), ([.istore 3, .iload 3], .ifCond .eq 27), ([.aload 1, .aload 0, .getfield 3106, .putfield 2700, .aload 1, .aload 0, .getfield 3103, .putfield 2701, .aload 1, .aload 0, .getfield 3104, .putfield 2702], .nop), ([.iload 2], .ireturn)]
def am_p363 : List Nat := [0, 11, 16, 28, 38, 43, 46, 57, 64, 69, 72, 83, 94, 112, 117, 123, 134, 137, 142, 153, 156, 167, 178, 181, 185, 186, 191, 215]
/-- X20_grows -/
def am_k364 : List (List Instr × Instr) := [([.aload 0, .getfield 2703, .aload 0, .getfield 2704], .if_icmp .ge 2), ([.aload 0, .getfield 2705], .goto 3), ([.iconst 1, .aload 0, .getfield 2705, .aload 0, .getfield 2705, .imul, .aload 0, .getfield 2703, .idiv, .jsr 1], .nop), ([.istore 1, .aload 0, .iconst 2000, .aload 0, .getfield 2703, .iload 1, .iadd, .jsr 0, .putfield 2703], .return_)]
def am_p364 : List Nat := [0, 11, 18, 36]
/-- X20_measures -/
def am_k365 : List (List Instr × Instr) := [([.aload 1, .getfield 2719], .ifCond .eq 3), ([.aload 1, .getfield 2695, .aload 1, .getfield 2720], .invokeinterface 334 2), ([], .ifCond .eq 4), ([], .return_), ([.aload 1, .iconst 0, .putfield 2719, .aload 0, .getfield 3073, .aload 1, .getfield 2721, .isub, .istore 2, .aload 1, .getfield 2722], .ifCond .ne 6), ([.aload 1, .iconst 1, .putfield 2722, .aload 1, .iconst 8, .iload 2, .imul, .putfield 2723, .aload 1, .iconst 2, .iload 2, .imul, .putfield 2724], .goto 10), ([.iload 2, .aload 1, .getfield 2723, .iconst 8, .idiv, .isub, .istore 3, .aload 1, .dup, .getfield 2723, .iload 3, .iadd, .putfield 2723, .aload 1, .dup, .getfield 2724, .iload 3], .ifCond .ge 8), ([.iload 3, .ineg], .goto 9), ([.iload 3], .nop), ([.aload 1, .getfield 2724, .iconst 4, .idiv, .isub, .iadd, .putfield 2724], .nop), ([.aload 1, .iconst 80, .iconst 4, .aload 1, .getfield 2723, .iconst 8, .idiv, .aload 1, .getfield 2724, .iadd, .jsr 1, .jsr 0, .putfield 2714], .return_)]
def am_p365 : List Nat := [0, 7, 18, 21, 22, 44, 67, 96, 101, 102, 113]
/-- X20_isFinGone -/
def am_k366 : List (List Instr × Instr) := [([.aload 1, .getfield 2699], .ifCond .eq 2), ([.aload 1, .getfield 2695, .aload 1, .getfield 2696], .if_icmp .eq 3), ([.iconst 0], .ireturn), ([.aload 1, .getfield 2694, .iconst 4], .if_icmp .ne 5), ([.aload 1, .iconst 5, .putfield 2694], .goto 9), ([.aload 1, .getfield 2694, .iconst 6], .if_icmp .ne 7), ([.aload 1, .iconst 8, .putfield 2694, .aload 1, .aload 0, .getfield 3073, .putfield 2727], .goto 9), ([.aload 1, .getfield 2694, .iconst 9], .if_icmp .ne 9), ([.aload 1, .iconst 0, .putfield 2694], .nop), ([.aload 1, .getfield 2694], .ifCond .ne 11), ([.iconst 1], .goto 12), ([.iconst 0], .nop), ([], .ireturn)]
def am_p366 : List Nat := [0, 7, 18, 20, 28, 36, 45, 62, 71, 76, 83, 87, 88]
/-- X20_takesBytes -/
def am_k367 : List (List Instr × Instr) := [([.aload 1, .getfield 2694, .iconst 3], .if_icmp .eq 3), ([.aload 1, .getfield 2694, .iconst 4], .if_icmp .eq 3), ([.aload 1, .getfield 2694, .iconst 5], .if_icmp .ne 4), ([.iconst 1], .goto 5), ([.iconst 0], .nop), ([.istore 2, .iload 2], .ifCond .eq 29), ([.aload 1, .getfield 2708, .aload 1], .invokeinterface 237 1345), ([.iadd, .istore 3, .aload 0, .getfield 3103, .aload 1, .getfield 2708], .invokeinterface 334 2), ([], .ifCond .eq 10), ([.aload 1, .getfield 2708, .aload 0, .getfield 3103, .isub], .goto 11), ([.iconst 0], .nop), ([.istore 4, .iload 3, .aload 0, .getfield 3103, .aload 0, .getfield 3102, .iadd], .invokeinterface 334 2), ([], .ifCond .eq 14), ([.iload 3, .aload 0, .getfield 3103, .isub], .goto 15), ([.aload 0, .getfield 3102], .nop), ([.istore 5, .aload 1, .getfield 2708, .aload 0, .getfield 3103], .invokeinterface 334 2), ([], .ifCond .eq 19), ([.aload 0, .aload 1, .iload 5], .invokeinterface 368 1539), ([], .goto 24), ([.iload 4, .istore 6], .nop), ([.iload 6, .iload 5], .if_icmp .ge 23), ([.aload 1, .getfield 2709, .aload 0, .getfield 3100, .aload 0, .getfield 3101, .iload 6, .iadd, .iaload], .invokeinterface 226 1026), ([.aload 1, .dup, .getfield 2708, .iconst 1, .iadd, .putfield 2708, .iinc 6 1], .goto 20), ([.aload 1], .invokeinterface 369 1), ([.aload 0, .iconst 1], .invokeinterface 354 1538), ([], .ifCond .eq 28), ([.aload 0, .getfield 3103, .aload 0, .getfield 3102, .iadd, .aload 1, .getfield 2708], .if_icmp .ne 28), ([.aload 0, .aload 1], .invokeinterface 370 1538), ([], .goto 33), ([.aload 1, .getfield 2694, .iconst 8], .if_icmp .ne 33), ([.aload 0, .iconst 1], .invokeinterface 354 1538), ([], .ifCond .eq 33), ([.aload 1, .aload 0, .getfield 3073, .putfield 2727], .nop), ([], .return_)]
def am_p367 : List Nat := [0, 8, 16, 24, 28, 29, 34, 42, 55, 58, 70, 71, 86, 89, 98, 102, 115, 118, 125, 128, 132, 139, 158, 174, 178, 183, 186, 202, 207, 210, 219, 224, 227, 235]
/-- X20_keeps_ -/
def am_k368 : List (List Instr × Instr) := [([.iload 2], .ifCond .le 2), ([.aload 1, .getfield 2713, .iconst 6], .if_icmp .ne 3), ([], .return_), ([.iload 2, .newarray .int, .astore 3, .iconst 0, .istore 4], .nop), ([.iload 4, .iload 2], .if_icmp .ge 6), ([.aload 3, .iload 4, .aload 0, .getfield 3100, .aload 0, .getfield 3101, .iload 4, .iadd, .iaload, .iastore, .iinc 4 1], .goto 4), ([.aload 1, .getfield 2712, .aload 1, .getfield 2713, .new 17, .dup, .aload 0, .getfield 3103, .aload 3], .invokeinterface 227 1091), ([.aastore, .aload 1, .dup, .getfield 2713, .iconst 1, .iadd, .putfield 2713], .return_)]
def am_p368 : List Nat := [0, 4, 13, 14, 21, 27, 49, 69]
/-- X20_putsInOrder -/
def am_k369 : List (List Instr × Instr) := [([.iconst 1, .istore 1], .nop), ([.iload 1], .ifCond .eq 27), ([.iconst (-1), .istore 2, .iconst 0, .istore 3], .nop), ([.iload 3, .aload 0, .getfield 2713], .if_icmp .ge 15), ([.aload 0, .getfield 2708, .aload 0, .getfield 2712, .iload 3, .aaload, .getfield 2176], .invokeinterface 334 2), ([], .ifCond .ne 7), ([.iconst 1], .goto 8), ([.iconst 0], .nop), ([.istore 4, .iload 4], .ifCond .eq 13), ([.iload 2, .iconst (-1)], .if_icmp .eq 12), ([.aload 0, .getfield 2712, .iload 3, .aaload, .getfield 2176, .aload 0, .getfield 2712, .iload 2, .aaload, .getfield 2176], .invokeinterface 334 2), ([], .ifCond .eq 13), ([.iload 3], .goto 14), ([.iload 2], .nop), ([.istore 2, .iinc 3 1], .goto 3), ([.iload 2, .iconst (-1)], .if_icmp .eq 17), ([.iconst 1], .goto 18), ([.iconst 0], .nop), ([.istore 1, .iload 1], .ifCond .eq 26), ([.aload 0, .getfield 2712, .iload 2, .aaload, .astore 3, .aload 0, .getfield 2708, .aload 3, .getfield 2176, .isub, .istore 4], .nop), ([.iload 4, .aload 3, .getfield 2177, .arraylength], .if_icmp .ge 23), ([.aload 0, .getfield 2709, .aload 3, .getfield 2177, .iload 4, .iaload], .invokeinterface 226 1026), ([.aload 0, .dup, .getfield 2708, .iconst 1, .iadd, .putfield 2708, .iinc 4 1], .goto 20), ([.aload 0, .dup, .getfield 2713, .iconst 1, .isub, .putfield 2713, .iload 2, .istore 4], .nop), ([.iload 4, .aload 0, .getfield 2713], .if_icmp .ge 26), ([.aload 0, .getfield 2712, .iload 4, .aload 0, .getfield 2712, .iload 4, .iconst 1, .iadd, .aaload, .aastore, .iinc 4 1], .goto 24), ([], .goto 1), ([], .return_)]
def am_p369 : List Nat := [0, 2, 6, 10, 18, 34, 37, 41, 42, 49, 54, 75, 78, 82, 83, 90, 95, 99, 100, 105, 123, 133, 147, 163, 176, 185, 207, 210]
/-- X20_finComes -/
def am_k370 : List (List Instr × Instr) := [([.aload 1, .dup, .getfield 2708, .iconst 1, .iadd, .putfield 2708, .aload 1, .iconst 1, .putfield 2711, .aload 1, .getfield 2694, .iconst 3], .if_icmp .ne 2), ([.aload 1, .iconst 7, .putfield 2694], .goto 5), ([.aload 1, .getfield 2694, .iconst 4], .if_icmp .ne 4), ([.aload 1, .iconst 6, .putfield 2694], .goto 5), ([.aload 1, .iconst 8, .putfield 2694, .aload 1, .aload 0, .getfield 3073, .putfield 2727], .nop), ([], .return_)]
def am_p370 : List Nat := [0, 23, 32, 40, 49, 63]
/-- X20_isToRead -/
def am_k371 : List (List Instr × Instr) := [([.aload 0, .getfield 3096, .iload 1, .aaload], .invokeinterface 235 1345), ([], .ireturn)]
def am_p371 : List Nat := [0, 9]
/-- X20_reads -/
def am_k372 : List (List Instr × Instr) := [([.aload 1], .invokeinterface 237 1345), ([.iconst 60], .if_icmp .ge 3), ([.iconst 1], .goto 4), ([.iconst 0], .nop), ([.istore 3, .aload 1, .dup, .getfield 2710, .iload 2, .iadd, .putfield 2710, .iload 3], .ifCond .eq 9), ([.aload 1], .invokeinterface 237 1345), ([.iconst 60], .if_icmp .lt 9), ([.aload 1, .getfield 2694], .ifCond .eq 9), ([.aload 0, .aload 1], .invokeinterface 342 1538), ([], .return_)]
def am_p372 : List Nat := [0, 4, 9, 13, 14, 29, 33, 38, 45, 50]
/-- X20_takes_ -/
def am_k373 : List (List Instr × Instr) := [([.aload 0, .getfield 3096, .iload 1, .aaload, .astore 2, .aload 2, .getfield 2709, .getfield 2048, .aload 2, .getfield 2710, .iaload, .istore 3, .aload 0, .aload 2, .iconst 1], .invokeinterface 372 1539), ([.iload 3], .ireturn)]
def am_p373 : List Nat := [0, 26]
/-- X20_hasEnded -/
def am_k374 : List (List Instr × Instr) := [([.aload 0, .getfield 3096, .iload 1, .aaload], .invokeinterface 236 1345), ([], .ireturn)]
def am_p374 : List Nat := [0, 9]
/-- X20_room -/
def am_k375 : List (List Instr × Instr) := [([.iconst 600, .aload 0, .getfield 3096, .iload 1, .aaload, .getfield 2697, .getfield 2049, .aload 0, .getfield 3096, .iload 1, .aaload], .invokeinterface 234 1345), ([.isub, .isub], .ireturn)]
def am_p375 : List Nat := [0, 24]
/-- X20_writes -/
def am_k376 : List (List Instr × Instr) := [([.aload 0, .getfield 3096, .iload 1, .aaload, .getfield 2697, .iload 2], .invokeinterface 226 1026), ([], .return_)]
def am_p376 : List Nat := [0, 13]
/-- X20_isOpen -/
def am_k377 : List (List Instr × Instr) := [([.aload 0, .getfield 3096, .iload 1, .aaload, .getfield 2694, .iconst 3], .if_icmp .eq 2), ([.aload 0, .getfield 3096, .iload 1, .aaload, .getfield 2694, .iconst 7], .if_icmp .ne 4), ([.aload 0, .getfield 3096, .iload 1, .aaload, .getfield 2698], .ifCond .ne 4), ([.iconst 1], .goto 5), ([.iconst 0], .nop), ([], .ireturn)]
def am_p377 : List Nat := [0, 13, 27, 39, 43, 44]
/-- X20_closes -/
def am_k378 : List (List Instr × Instr) := [([.aload 0, .getfield 3096, .iload 1, .aaload, .astore 2, .aload 2, .iconst 1, .putfield 2698, .aload 2, .aload 2, .getfield 2694, .iconst 3], .if_icmp .ne 2), ([.iconst 4], .goto 3), ([.iconst 9], .nop), ([.putfield 2694], .return_)]
def am_p378 : List Nat := [0, 21, 25, 27]
/-- X20_aborts -/
def am_k379 : List (List Instr × Instr) := [([.aload 0, .aload 1, .getfield 2689, .aload 1, .getfield 2690, .aload 1, .getfield 2691, .aload 1, .getfield 2692, .aload 1, .getfield 2696, .aload 1, .getfield 2706], .ifCond .eq 2), ([.aload 1, .getfield 2708], .goto 3), ([.iconst 0], .nop), ([.iconst 20, .aload 1], .invokeinterface 237 1345), ([.iconst 0, .aload 1, .getfield 2697, .iconst 0, .iconst 0], .invokeinterface 340 1549), ([.aload 1, .iconst 0, .putfield 2694, .aload 1, .iconst 4, .putfield 2725], .return_)]
def am_p379 : List Nat := [0, 28, 35, 36, 42, 52]
/-- X20_hostOfLine -/
def am_k380 : List (List Instr × Instr) := [([.aload 0, .getfield 3096, .iload 1, .aaload, .getfield 2689], .ireturn)]
def am_p380 : List Nat := [0]
/-- X20_writtenMany -/
def am_k381 : List (List Instr × Instr) := [([.aload 0, .getfield 3096, .iload 1, .aaload, .getfield 2697, .getfield 2049], .ireturn)]
def am_p381 : List Nat := [0]
/-- X20_writtenAt -/
def am_k382 : List (List Instr × Instr) := [([.aload 0, .getfield 3096, .iload 1, .aaload, .getfield 2697, .getfield 2048, .iload 2, .iaload], .ireturn)]
def am_p382 : List Nat := [0]
/-- X20_readMany -/
def am_k383 : List (List Instr × Instr) := [([.aload 0, .getfield 3096, .iload 1, .aaload, .getfield 2710], .ireturn)]
def am_p383 : List Nat := [0]
/-- X20_readByte -/
def am_k384 : List (List Instr × Instr) := [([.aload 0, .getfield 3096, .iload 1, .aaload, .getfield 2709, .getfield 2048, .iload 2, .iaload], .ireturn)]
def am_p384 : List Nat := [0]
/-- X20_otherEnd -/
def am_k385 : List (List Instr × Instr) := [([.aload 0, .getfield 3096, .iload 1, .aaload, .getfield 2728], .ireturn)]
def am_p385 : List Nat := [0]
/-- X20_isHost -/
def am_k386 : List (List Instr × Instr) := [([.iload 1, .i2l, .jsr_w 0, .aload 0, .getfield 3074, .iconst 1, .isub, .i2l], .invokeinterface 246 3), ([], .ireturn)]
def am_p386 : List Nat := [0, 13]
/-- X20_connect -/
def am_k387 : List (List Instr × Instr) := [([.aload 0, .aload 0, .iload 1], .invokeinterface 386 1538), ([], .ifCond .eq 5), ([.aload 0, .iload 2], .invokeinterface 386 1538), ([], .ifCond .eq 5), ([.iconst 1], .goto 6), ([.iconst 0], .nop), ([.iload 1], .ifCond .eq 11), ([.iload 1, .iload 2], .if_icmp .eq 11), ([.iload 3, .i2l, .jsr_w 1, .jsr_w 65535], .invokeinterface 246 3), ([], .ifCond .eq 11), ([.iconst 1], .goto 12), ([.iconst 0], .nop), ([.aload 0, .getfield 3097, .iconst 60], .if_icmp .ge 14), ([.iconst 1], .goto 15), ([.iconst 0], .nop), ([], .invokeinterface 249 1540), ([], .ifCond .ne 18), ([.iconst 0], .ireturn), ([.new 21, .dup, .aload 0, .getfield 3097, .iload 1, .iconst 40000, .aload 0, .getfield 3097, .iadd, .iload 2, .iload 3, .aload 0, .getfield 3073, .aload 0, .iload 1], .invokeinterface 264 1538), ([], .invokeinterface 231 1352), ([.astore 4, .aload 0, .getfield 3096, .aload 0, .getfield 3097, .aload 4, .aastore, .aload 0, .dup, .getfield 3097, .iconst 1, .iadd, .putfield 3097, .aload 4, .iconst 1, .putfield 2694, .aload 0, .aload 4], .invokeinterface 344 1538), ([.aload 0, .aload 4, .aload 4, .getfield 2693, .iconst 2, .iconst 0, .iconst 0], .invokeinterface 341 1542), ([.aload 4, .getfield 2688], .ireturn)]
def am_p387 : List Nat := [0, 6, 9, 14, 17, 21, 22, 26, 31, 40, 43, 47, 48, 57, 61, 62, 65, 68, 70, 98, 101, 136, 150]
/-- X20_canWrite -/
def am_k388 : List (List Instr × Instr) := [([.aload 1, .getfield 2689], .ifCond .eq 6), ([.aload 1, .getfield 2698], .ifCond .ne 6), ([.aload 1, .getfield 2694, .iconst 1], .if_icmp .eq 5), ([.aload 1, .getfield 2694, .iconst 3], .if_icmp .eq 5), ([.aload 1, .getfield 2694, .iconst 7], .if_icmp .ne 6), ([.iconst 1], .goto 7), ([.iconst 0], .nop), ([], .ireturn)]
def am_p388 : List Nat := [0, 7, 14, 22, 30, 39, 43, 44]
/-- X20_write -/
def am_k389 : List (List Instr × Instr) := [([.aload 0, .iload 1], .invokeinterface 335 1538), ([.istore 2, .aload 0, .iload 2, .iload 2], .ifCond .eq 5), ([.aload 0, .aload 0, .getfield 3096, .iload 1, .aaload], .invokeinterface 388 1538), ([], .ifCond .eq 5), ([.iconst 1], .goto 6), ([.iconst 0], .nop), ([], .invokeinterface 248 1539), ([], .ifCond .ne 9), ([.iconst 0], .ireturn), ([.aload 0, .getfield 3096, .iload 1, .aaload, .astore 3, .aload 0], .invokeinterface 250 1537), ([.aload 0, .iload 1], .invokeinterface 375 1538), ([.jsr 0, .istore 4, .iconst 0, .istore 5], .nop), ([.iload 5, .iload 4], .if_icmp .ge 16), ([.aload 3, .getfield 2697, .aload 0, .iload 5], .invokeinterface 251 1538), ([], .invokeinterface 226 1026), ([.iinc 5 1], .goto 12), ([.aload 0, .iload 4], .invokeinterface 252 1538), ([.aload 0, .aload 3], .invokeinterface 346 1538), ([.iload 4], .ireturn)]
def am_p389 : List Nat := [0, 5, 12, 22, 25, 29, 30, 33, 36, 38, 49, 54, 62, 69, 79, 82, 88, 94, 99]
/-- X20_read -/
def am_k390 : List (List Instr × Instr) := [([.aload 0, .iload 1], .invokeinterface 335 1538), ([.istore 3, .aload 0, .iload 3, .iload 2, .i2l, .jsr_w 1, .jsr_w 300], .invokeinterface 246 3), ([.iload 3], .ifCond .eq 5), ([.aload 0, .getfield 3096, .iload 1, .aaload, .getfield 2689], .ifCond .eq 5), ([.iconst 1], .goto 6), ([.iconst 0], .nop), ([], .invokeinterface 249 1540), ([], .ifCond .ne 9), ([.iconst 0], .ireturn), ([.aload 0, .getfield 3096, .iload 1, .aaload, .astore 4, .iload 2, .aload 4], .invokeinterface 235 1345), ([.jsr 0, .istore 5, .aload 0, .aload 4, .iload 5], .invokeinterface 372 1539), ([.aload 0, .aload 4], .invokeinterface 346 1538), ([.iload 5], .ifCond .ne 16), ([.aload 4], .invokeinterface 236 1345), ([], .ifCond .eq 16), ([.iconst (-1)], .goto 17), ([.iload 5], .nop), ([], .ireturn)]
def am_p390 : List Nat := [0, 5, 17, 21, 33, 37, 38, 41, 44, 46, 60, 73, 79, 84, 89, 92, 96, 98]
/-- X20_readAt -/
def am_k391 : List (List Instr × Instr) := [([.aload 0, .aload 0, .iload 1], .invokeinterface 335 1538), ([], .ifCond .eq 5), ([.iload 2, .i2l, .jsr_w 0, .aload 0, .getfield 3096, .iload 1, .aaload, .getfield 2710, .iconst 1, .isub, .i2l], .invokeinterface 246 3), ([], .ifCond .eq 5), ([.iconst 1], .goto 6), ([.iconst 0], .nop), ([], .invokeinterface 247 1538), ([], .ifCond .eq 9), ([.aload 0, .getfield 3096, .iload 1, .aaload, .getfield 2709, .getfield 2048, .iload 2, .iaload], .goto 10), ([.iconst 0], .nop), ([], .ireturn)]
def am_p391 : List Nat := [0, 6, 9, 27, 30, 34, 35, 38, 41, 58, 59]
/-- X20_close -/
def am_k392 : List (List Instr × Instr) := [([.aload 0, .iload 1], .invokeinterface 335 1538), ([.istore 3, .iload 3], .ifCond .eq 8), ([.aload 0, .getfield 3096, .iload 1, .aaload, .getfield 2689], .ifCond .eq 8), ([.aload 0, .getfield 3096, .iload 1, .aaload, .getfield 2694], .ifCond .eq 8), ([.iload 2], .ifCond .ne 7), ([.aload 0, .aload 0, .getfield 3096, .iload 1, .aaload], .invokeinterface 388 1538), ([], .ifCond .eq 8), ([.iconst 1], .goto 9), ([.iconst 0], .nop), ([.istore 4, .aload 0, .iload 3, .iload 4], .invokeinterface 248 1539), ([], .ifCond .ne 12), ([.iconst 0], .ireturn), ([.aload 0, .getfield 3096, .iload 1, .aaload, .astore 5, .iload 2], .ifCond .eq 15), ([.aload 0, .aload 5], .invokeinterface 379 1538), ([], .goto 19), ([.aload 5, .getfield 2694, .iconst 1], .if_icmp .ne 17), ([.aload 5, .iconst 1, .putfield 2698, .aload 5, .iconst 0, .putfield 2694], .goto 19), ([.aload 0, .iload 1], .invokeinterface 378 1538), ([.aload 0, .aload 5], .invokeinterface 346 1538), ([.aload 5, .getfield 2694], .ireturn)]
def am_p392 : List Nat := [0, 5, 10, 22, 34, 38, 48, 51, 55, 56, 65, 68, 70, 82, 88, 91, 100, 115, 120, 126]
/-- X20_connectionAt -/
def am_k393 : List (List Instr × Instr) := [([.aload 0, .aload 0, .iload 1], .invokeinterface 335 1538), ([.iload 2, .i2l, .jsr_w 0, .jsr_w 18], .invokeinterface 246 3), ([], .invokeinterface 248 1539), ([], .ifCond .ne 5), ([.iconst 0], .ireturn), ([.aload 0, .getfield 3096, .iload 1, .aaload, .astore 3, .iload 2], .tableswitch 29 0 17 #[6, 7, 8, 9, 10, 11, 12, 16, 17, 18, 19, 20, 22, 24, 25, 26, 27, 28]), ([.aload 3, .getfield 2694], .ireturn), ([.aload 3, .getfield 2689], .ireturn), ([.aload 3, .getfield 2728], .ireturn), ([.aload 3, .getfield 2690], .ireturn), ([.aload 3, .getfield 2695, .aload 3, .getfield 2693, .isub], .ireturn), ([.aload 3, .getfield 2696, .aload 3, .getfield 2693, .isub], .ireturn), ([.aload 3, .getfield 2706], .ifCond .eq 14), ([.aload 3, .getfield 2708, .aload 3, .getfield 2707, .isub], .goto 15), ([.iconst 0], .nop), ([], .ireturn), ([.aload 3, .getfield 2700], .ireturn), ([.aload 3, .getfield 2703], .ireturn), ([.aload 3, .getfield 2704], .ireturn), ([.aload 3, .getfield 2714], .ireturn), ([.aload 3, .getfield 2697, .getfield 2049, .aload 3], .invokeinterface 234 1345), ([.isub], .ireturn), ([.aload 3], .invokeinterface 235 1345), ([], .ireturn), ([.aload 3, .getfield 2713], .ireturn), ([.aload 3, .getfield 2710], .ireturn), ([.aload 3, .getfield 2725], .ireturn), ([.aload 3, .getfield 2717], .ireturn), ([.aload 3, .getfield 2705], .ireturn), ([.aload 3], .invokeinterface 236 1345), ([], .ifCond .eq 32), ([.iconst 1], .goto 33), ([.iconst 0], .nop), ([], .ireturn)]
def am_p393 : List Nat := [0, 6, 15, 18, 21, 23, 116, 121, 126, 131, 136, 146, 156, 163, 175, 176, 177, 182, 187, 192, 197, 208, 210, 214, 215, 220, 225, 230, 235, 240, 244, 247, 251, 252]
/-- X20_countOfLines -/
def am_k394 : List (List Instr × Instr) := [([.iconst 0, .istore 2, .iconst 0, .istore 3], .nop), ([.iload 3, .aload 0, .getfield 3097], .if_icmp .ge 6), ([.iload 2, .aload 0, .getfield 3096, .iload 3, .aaload, .getfield 2694], .ifCond .eq 4), ([.iconst 1], .goto 5), ([.iconst 0], .nop), ([.iadd, .istore 2, .iinc 3 1], .goto 1), ([.iload 1, .iconst 6], .if_icmp .ne 8), ([.aload 0, .getfield 3097], .goto 13), ([.iload 1, .iconst 7], .if_icmp .ne 10), ([.iload 2], .goto 13), ([.iload 1, .iconst 12], .if_icmp .ne 12), ([.aload 0, .getfield 3098], .goto 13), ([.aload 0, .getfield 3099], .nop), ([], .ireturn)]
def am_p394 : List Nat := [0, 4, 12, 25, 29, 30, 38, 44, 51, 57, 61, 67, 74, 78]
/-- X20_lineErrors -/
def am_k395 : List (List Instr × Instr) := [([.iconst 0, .istore 1, .iconst 0, .istore 2], .nop), ([.iload 2, .aload 0, .getfield 3097], .if_icmp .ge 41), ([.aload 0, .getfield 3096, .iload 2, .aaload, .astore 3, .aload 3, .getfield 2710, .aload 3], .invokeinterface 235 1345), ([.iadd, .aload 3, .getfield 2709, .getfield 2049], .if_icmp .ne 9), ([.aload 3], .invokeinterface 235 1345), ([.iconst 300], .if_icmp .gt 9), ([.aload 3, .getfield 2697, .getfield 2049, .aload 3], .invokeinterface 234 1345), ([.isub, .iconst 600], .if_icmp .gt 9), ([.iconst 1], .goto 10), ([.iconst 0], .nop), ([.istore 4, .aload 3, .getfield 2728, .iconst (-1)], .if_icmp .eq 37), ([.aload 0, .getfield 3096, .aload 3, .getfield 2728, .aaload, .astore 5, .aload 5, .getfield 2728, .iload 2], .if_icmp .ne 13), ([.iconst 1], .goto 14), ([.iconst 0], .nop), ([.istore 6, .iconst 0, .istore 7], .nop), ([.iload 6], .ifCond .eq 23), ([.iload 4], .ifCond .eq 23), ([.iload 7, .aload 3, .getfield 2709, .getfield 2049], .if_icmp .ge 23), ([.iload 7, .aload 5, .getfield 2697, .getfield 2049], .if_icmp .ge 21), ([.aload 5, .getfield 2697, .getfield 2048, .iload 7, .iaload, .aload 3, .getfield 2709, .getfield 2048, .iload 7, .iaload], .if_icmp .ne 21), ([.iconst 1], .goto 22), ([.iconst 0], .nop), ([.istore 4, .iinc 7 1], .goto 15), ([.iload 4, .iload 6], .ifCond .eq 27), ([.aload 3], .invokeinterface 236 1345), ([], .ifCond .eq 27), ([.aload 3, .getfield 2710, .aload 5, .getfield 2697, .getfield 2049], .if_icmp .ne 28), ([.iconst 1], .goto 29), ([.iconst 0], .nop), ([.iand, .istore 4, .iload 4, .iload 6], .ifCond .eq 34), ([.aload 3], .invokeinterface 234 1345), ([.aload 5, .getfield 2709, .getfield 2049], .if_icmp .gt 35), ([.aload 5, .getfield 2709, .getfield 2049, .aload 3], .invokeinterface 233 1345), ([], .if_icmp .gt 35), ([.iconst 1], .goto 36), ([.iconst 0], .nop), ([.iand, .istore 4], .nop), ([.iload 1, .iload 4], .ifCond .eq 39), ([.iconst 0], .goto 40), ([.iconst 1], .nop), ([.iadd, .istore 1, .iinc 2 1], .goto 1), ([.iload 1], .ireturn)]
def am_p395 : List Nat := [0, 4, 12, 27, 38, 42, 48, 59, 66, 70, 71, 81, 101, 105, 106, 111, 116, 121, 133, 146, 170, 174, 175, 183, 190, 194, 197, 212, 216, 217, 227, 231, 242, 254, 257, 261, 262, 265, 271, 275, 276, 284]
/-- X20_textLong -/
def am_k396 : List (List Instr × Instr) := [([.aload 0, .getfield 3108, .iload 1, .iconst 1, .iadd, .iaload, .aload 0, .getfield 3108, .iload 1, .iaload, .isub], .ireturn)]
def am_p396 : List Nat := [0]
/-- X20_textAt -/
def am_k397 : List (List Instr × Instr) := [([.aload 0, .getfield 3107, .aload 0, .getfield 3108, .iload 1, .iaload, .iload 2, .iadd, .iaload], .ireturn)]
def am_p397 : List Nat := [0]
/-- X20_beginsRequest -/
def am_k398 : List (List Instr × Instr) := [([.aload 0, .getfield 3110, .iload 1, .iconst 0, .iastore, .aload 0, .getfield 3111, .iload 1, .iconst 0, .iastore, .aload 0, .getfield 3112, .iload 1, .iconst 0, .iastore, .aload 0, .getfield 3113, .iload 1, .iconst 0, .iastore, .aload 0, .getfield 3115, .iload 1, .iconst 0, .iastore, .aload 0, .getfield 3114, .iload 1, .iconst 63, .iastore, .aload 0, .getfield 3116, .iload 1, .iconst (-1), .iastore, .aload 0, .getfield 3117, .iload 1, .iconst 0, .iastore, .aload 0, .getfield 3118, .iload 1, .iconst (-1), .iastore, .aload 0, .getfield 3122, .iload 1, .iconst 0, .iastore, .aload 0, .getfield 3123, .iload 1, .iconst (-1), .iastore, .aload 0, .getfield 3128, .iload 1, .iconst 0, .bastore, .aload 0, .getfield 3124, .iload 1, .iconst 0, .iastore, .aload 0, .getfield 3125, .iload 1, .iconst 0, .iastore, .aload 0, .getfield 3126, .iload 1, .iconst (-2), .iastore, .aload 0, .getfield 3127, .iload 1, .iconst (-2), .iastore, .aload 0, .getfield 3129, .iload 1, .iconst 0, .iastore, .aload 0, .getfield 3132, .iload 1, .iconst 0, .iastore, .aload 0, .getfield 3133, .iload 1, .iconst 0, .iastore], .return_)]
def am_p398 : List Nat := [0]
/-- X20_isGreat -/
def am_k399 : List (List Instr × Instr) := [([.iload 0, .i2l, .jsr_w 65, .jsr_w 90], .invokeinterface 246 3), ([], .ireturn)]
def am_p399 : List Nat := [0, 11]
/-- X20_isSmall -/
def am_k400 : List (List Instr × Instr) := [([.iload 0, .i2l, .jsr_w 97, .jsr_w 122], .invokeinterface 246 3), ([], .ireturn)]
def am_p400 : List Nat := [0, 11]
/-- X20_small -/
def am_k401 : List (List Instr × Instr) := [([.iload 0], .invokeinterface 399 1), ([], .ifCond .eq 3), ([.iload 0, .iconst 32, .iadd], .goto 4), ([.iload 0], .nop), ([], .ireturn)]
def am_p401 : List Nat := [0, 4, 7, 14, 15]
/-- X20_fitting -/
def am_k402 : List (List Instr × Instr) := [([.iconst 0, .istore 5, .iconst 0, .istore 6], .nop), ([.iload 6, .iload 3], .if_icmp .ge 13), ([.aload 0, .getfield 3114, .iload 1, .iaload, .iload 6, .iushr, .iconst 1, .iand, .iconst 1], .if_icmp .ne 8), ([.aload 0, .getfield 3115, .iload 1, .iaload, .aload 0, .iload 2, .iload 6, .iadd], .invokeinterface 396 1538), ([], .if_icmp .ge 8), ([.aload 0, .iload 2, .iload 6, .iadd, .aload 0, .getfield 3115, .iload 1, .iaload], .invokeinterface 397 1539), ([.iload 4], .if_icmp .ne 8), ([.iconst 1], .goto 9), ([.iconst 0], .nop), ([.istore 7, .iload 5, .iload 7], .ifCond .eq 11), ([.iconst 1, .iload 6, .ishl], .goto 12), ([.iconst 0], .nop), ([.ior, .istore 5, .iinc 6 1], .goto 1), ([.iload 5], .ireturn)]
def am_p402 : List Nat := [0, 6, 12, 27, 41, 44, 58, 63, 67, 68, 77, 84, 85, 94]
/-- X20_through -/
def am_k403 : List (List Instr × Instr) := [([.iconst (-1), .istore 4, .iconst 0, .istore 5], .nop), ([.iload 5, .iload 3], .if_icmp .ge 8), ([.aload 0, .getfield 3114, .iload 1, .iaload, .iload 5, .iushr, .iconst 1, .iand, .iconst 1], .if_icmp .ne 6), ([.aload 0, .iload 2, .iload 5, .iadd], .invokeinterface 396 1538), ([.aload 0, .getfield 3115, .iload 1, .iaload], .if_icmp .ne 6), ([.iload 5], .goto 7), ([.iload 4], .nop), ([.istore 4, .iinc 5 1], .goto 1), ([.iload 4], .ireturn)]
def am_p403 : List Nat := [0, 6, 12, 27, 35, 44, 49, 51, 59]
/-- X20_nextWord -/
def am_k404 : List (List Instr × Instr) := [([.aload 0, .getfield 3110, .iload 1, .iload 2, .iastore, .aload 0, .getfield 3115, .iload 1, .iconst 0, .iastore, .aload 0, .getfield 3114, .iload 1, .iload 3, .iastore], .return_)]
def am_p404 : List Nat := [0]
/-- X20_looksAt -/
def am_k405 : List (List Instr × Instr) := [([.aload 0, .getfield 3111, .iload 1, .dup2, .iaload, .iconst 1, .iadd, .iastore, .aload 0, .getfield 3110, .iload 1, .iaload], .tableswitch 18 0 10 #[1, 1, 1, 3, 6, 1, 1, 1, 3, 8, 13]), ([.aload 0, .iload 1, .iload 2], .invokeinterface 406 1539), ([], .ireturn), ([.iload 2, .iconst 10], .if_icmp .eq 5), ([.iconst 400], .ireturn), ([.aload 0, .getfield 3110, .iload 1, .iconst 4, .iastore, .aload 0, .getfield 3112, .iload 1, .iconst 0, .iastore, .iconst 0], .ireturn), ([.aload 0, .iload 1, .iload 2], .invokeinterface 411 1539), ([], .ireturn), ([.iload 2, .iconst 10], .if_icmp .ne 11), ([.aload 0, .iload 1], .invokeinterface 421 1538), ([], .goto 12), ([.iconst 400], .nop), ([], .ireturn), ([.aload 0, .iload 1, .iload 2], .invokeinterface 422 1539), ([.aload 0, .getfield 3133, .iload 1, .iaload], .ifCond .ne 16), ([.iconst 1], .goto 17), ([.iconst 0], .nop), ([], .ireturn), ([.aload 0, .iload 1, .iload 2], .invokeinterface 425 1539), ([], .ireturn)]
def am_p405 : List Nat := [0, 76, 82, 83, 89, 93, 109, 115, 116, 122, 127, 130, 133, 134, 140, 149, 153, 154, 155, 161]
/-- X20_looksInLine -/
def am_k406 : List (List Instr × Instr) := [([.iload 2, .iconst 13], .if_icmp .ne 6), ([.aload 0, .getfield 3110, .iload 1, .iaload, .iconst 2], .if_icmp .ne 3), ([.aload 0, .getfield 3115, .iload 1, .iaload], .ifCond .gt 5), ([.aload 0, .getfield 3110, .iload 1, .iaload, .iconst 6], .if_icmp .eq 5), ([.aload 0, .getfield 3110, .iload 1, .iaload, .iconst 7], .if_icmp .ne 6), ([.iconst 1], .goto 7), ([.iconst 0], .nop), ([.istore 3, .iload 3], .ifCond .ne 11), ([.aload 0, .iload 1, .iload 2], .invokeinterface 407 1539), ([], .ifCond .ne 11), ([.iconst 400], .ireturn), ([.aload 0, .getfield 3110, .iload 1, .iaload, .iconst 1], .if_icmp .ne 15), ([.iload 2, .iconst 32], .if_icmp .eq 15), ([.aload 0, .getfield 3117, .iload 1, .iaload, .iconst 40], .if_icmp .ne 15), ([.iconst 414], .ireturn), ([.iload 3], .ifCond .ne 18), ([.aload 0, .getfield 3112, .iload 1, .iaload, .iconst 100], .if_icmp .ne 18), ([.iconst 431], .ireturn), ([.aload 0, .getfield 3112, .iload 1, .dup2, .iaload, .iconst 1, .iadd, .iastore, .iload 3], .ifCond .eq 21), ([.aload 0, .iload 1], .invokeinterface 416 1538), ([.iconst 0], .ireturn), ([.aload 0, .getfield 3110, .iload 1, .iaload], .tableswitch 30 0 5 #[22, 24, 26, 30, 30, 28]), ([.aload 0, .iload 1, .iload 2], .invokeinterface 408 1539), ([], .goto 31), ([.aload 0, .iload 1, .iload 2], .invokeinterface 409 1539), ([], .goto 31), ([.aload 0, .iload 1, .iload 2], .invokeinterface 410 1539), ([], .goto 31), ([.aload 0, .iload 1, .iload 2], .invokeinterface 412 1539), ([], .goto 31), ([.aload 0, .iload 1, .iload 2], .invokeinterface 413 1539), ([.iconst 0], .ireturn)]
def am_p406 : List Nat := [0, 6, 16, 25, 36, 47, 51, 52, 57, 63, 66, 70, 80, 86, 97, 101, 105, 116, 120, 134, 139, 141, 184, 190, 193, 199, 202, 208, 211, 217, 220, 226]
/-- X20_stands -/
def am_k407 : List (List Instr × Instr) := [([.aload 0, .getfield 3110, .iload 1, .iaload], .tableswitch 26 0 5 #[1, 8, 15, 26, 26, 17]), ([.iload 2], .invokeinterface 399 1), ([], .ifCond .ne 5), ([.iload 2, .iconst 32], .if_icmp .ne 6), ([.aload 0, .getfield 3115, .iload 1, .iaload], .ifCond .le 6), ([.iconst 1], .goto 7), ([.iconst 0], .nop), ([], .ireturn), ([.iload 2, .i2l, .jsr_w 33, .jsr_w 126], .invokeinterface 246 3), ([], .ifCond .ne 12), ([.iload 2, .iconst 32], .if_icmp .ne 13), ([.aload 0, .getfield 3117, .iload 1, .iaload], .ifCond .le 13), ([.iconst 1], .goto 14), ([.iconst 0], .nop), ([], .ireturn), ([.iload 2, .i2l, .jsr_w 33, .jsr_w 126], .invokeinterface 246 3), ([], .ireturn), ([.iload 2], .invokeinterface 399 1), ([], .ifCond .ne 23), ([.iload 2], .invokeinterface 400 1), ([], .ifCond .ne 23), ([.iload 2, .iconst 45], .if_icmp .eq 23), ([.iload 2, .iconst 58], .if_icmp .ne 24), ([.iconst 1], .goto 25), ([.iconst 0], .nop), ([], .ireturn), ([.iload 2, .i2l, .jsr_w 32, .jsr_w 126], .invokeinterface 246 3), ([], .ireturn)]
def am_p407 : List Nat := [0, 44, 48, 51, 57, 66, 70, 71, 72, 83, 86, 92, 101, 105, 106, 107, 118, 119, 123, 126, 130, 133, 139, 145, 149, 150, 151, 162]
/-- X20_takesMethod -/
def am_k408 : List (List Instr × Instr) := [([.iload 2, .iconst 32], .if_icmp .ne 3), ([.aload 0, .getfield 3116, .iload 1, .aload 0, .iload 1, .iconst 14, .iconst 6], .invokeinterface 403 1540), ([.iastore, .aload 0, .getfield 3110, .iload 1, .iconst 1, .iastore], .return_), ([.aload 0, .getfield 3114, .iload 1, .aload 0, .iload 1, .iconst 14, .iconst 6, .iload 2], .invokeinterface 402 1541), ([.iastore, .aload 0, .getfield 3115, .iload 1, .dup2, .iaload, .iconst 1, .iadd, .iastore], .return_)]
def am_p408 : List Nat := [0, 6, 20, 29, 44]
/-- X20_takesTarget -/
def am_k409 : List (List Instr × Instr) := [([.iload 2, .iconst 32], .if_icmp .ne 3), ([.aload 0, .iload 1, .iconst 2, .iconst 1], .invokeinterface 404 1540), ([], .return_), ([.aload 0, .getfield 3136, .iconst 40, .iload 1, .imul, .aload 0, .getfield 3117, .iload 1, .iaload, .iadd, .iload 2, .iastore, .aload 0, .getfield 3117, .iload 1, .dup2, .iaload, .iconst 1, .iadd, .iastore], .return_)]
def am_p409 : List Nat := [0, 6, 13, 14]
/-- X20_takesVersion -/
def am_k410 : List (List Instr × Instr) := [([.aload 0, .getfield 3115, .iload 1, .iaload, .iconst 7], .if_icmp .ge 2), ([.iconst 1], .goto 3), ([.iconst 0], .nop), ([.istore 3, .aload 0, .getfield 3114, .iload 1, .iaload, .iconst 1], .if_icmp .ne 12), ([.iload 3], .ifCond .eq 8), ([.aload 0, .iconst 0, .aload 0, .getfield 3115, .iload 1, .iaload], .invokeinterface 397 1539), ([.iload 2], .if_icmp .ne 12), ([], .goto 11), ([.aload 0, .getfield 3115, .iload 1, .iaload, .iconst 7], .if_icmp .ne 12), ([.iload 2, .i2l, .jsr_w 48, .jsr_w 49], .invokeinterface 246 3), ([], .ifCond .eq 12), ([.iconst 1], .goto 13), ([.iconst 0], .nop), ([.istore 4, .aload 0, .getfield 3118, .iload 1, .iload 4], .ifCond .eq 16), ([.iload 3], .ifCond .ne 16), ([.iload 2, .iconst 48, .isub], .goto 17), ([.iconst (-1)], .nop), ([.iastore, .aload 0, .getfield 3114, .iload 1, .iload 4], .ifCond .eq 19), ([.iconst 1], .goto 20), ([.iconst 0], .nop), ([.iastore, .aload 0, .getfield 3115, .iload 1, .dup2, .iaload, .iconst 1, .iadd, .iastore], .return_)]
def am_p410 : List Nat := [0, 11, 15, 16, 27, 31, 42, 46, 49, 60, 71, 74, 78, 79, 91, 95, 102, 103, 114, 118, 119]
/-- X20_looksAtLine -/
def am_k411 : List (List Instr × Instr) := [([.iload 2, .iconst 13], .if_icmp .ne 2), ([.aload 0, .getfield 3110, .iload 1, .iconst 9, .iastore, .iconst 0], .ireturn), ([.aload 0, .getfield 3113, .iload 1, .iaload, .iconst 8], .if_icmp .ne 4), ([.iconst 431], .ireturn), ([.iload 2], .invokeinterface 399 1), ([], .ifCond .ne 10), ([.iload 2], .invokeinterface 400 1), ([], .ifCond .ne 10), ([.iload 2, .iconst 45], .if_icmp .eq 10), ([.iconst 400], .ireturn), ([.aload 0, .getfield 3113, .iload 1, .dup2, .iaload, .iconst 1, .iadd, .iastore, .aload 0, .getfield 3112, .iload 1, .iconst 1, .iastore, .aload 0, .iload 1, .iconst 5, .iconst 127], .invokeinterface 404 1540), ([.aload 0, .iload 1, .iload 2], .invokeinterface 412 1539), ([.iconst 0], .ireturn)]
def am_p411 : List Nat := [0, 6, 16, 27, 31, 35, 38, 42, 45, 51, 55, 80, 86]
def am_cds4_0 : List am_Cd := [(324, am_k324, am_p324, []), (325, am_k325, am_p325, []), (326, am_k326, am_p326, []), (327, am_k327, am_p327, []), (328, am_k328, am_p328, []), (329, am_k329, am_p329, []), (330, am_k330, am_p330, []), (331, am_k331, am_p331, []), (332, am_k332, am_p332, []), (333, am_k333, am_p333, []), (334, am_k334, am_p334, []), (335, am_k335, am_p335, []), (336, am_k336, am_p336, []), (337, am_k337, am_p337, []), (338, am_k338, am_p338, []), (339, am_k339, am_p339, [])]
theorem am_ckL4_0 : am_cds4_0.all am_ckL = true := by decide +kernel
def am_cds4_1 : List am_Cd := [(340, am_k340, am_p340, []), (341, am_k341, am_p341, []), (342, am_k342, am_p342, []), (343, am_k343, am_p343, []), (344, am_k344, am_p344, []), (345, am_k345, am_p345, []), (346, am_k346, am_p346, []), (347, am_k347, am_p347, []), (348, am_k348, am_p348, []), (349, am_k349, am_p349, []), (350, am_k350, am_p350, []), (351, am_k351, am_p351, []), (352, am_k352, am_p352, []), (353, am_k353, am_p353, []), (354, am_k354, am_p354, [])]
theorem am_ckL4_1 : am_cds4_1.all am_ckL = true := by decide +kernel
def am_cds4_2 : List am_Cd := [(355, am_k355, am_p355, []), (356, am_k356, am_p356, []), (357, am_k357, am_p357, []), (358, am_k358, am_p358, []), (359, am_k359, am_p359, []), (360, am_k360, am_p360, []), (361, am_k361, am_p361, []), (362, am_k362, am_p362, [])]
theorem am_ckL4_2 : am_cds4_2.all am_ckL = true := by decide +kernel
def am_cds4_3 : List am_Cd := [(363, am_k363, am_p363, []), (364, am_k364, am_p364, []), (365, am_k365, am_p365, []), (366, am_k366, am_p366, []), (367, am_k367, am_p367, []), (368, am_k368, am_p368, []), (369, am_k369, am_p369, []), (370, am_k370, am_p370, []), (371, am_k371, am_p371, []), (372, am_k372, am_p372, []), (373, am_k373, am_p373, []), (374, am_k374, am_p374, []), (375, am_k375, am_p375, []), (376, am_k376, am_p376, []), (377, am_k377, am_p377, [])]
theorem am_ckL4_3 : am_cds4_3.all am_ckL = true := by decide +kernel
def am_cds4_4 : List am_Cd := [(378, am_k378, am_p378, []), (379, am_k379, am_p379, []), (380, am_k380, am_p380, []), (381, am_k381, am_p381, []), (382, am_k382, am_p382, []), (383, am_k383, am_p383, []), (384, am_k384, am_p384, []), (385, am_k385, am_p385, []), (386, am_k386, am_p386, []), (387, am_k387, am_p387, []), (388, am_k388, am_p388, []), (389, am_k389, am_p389, []), (390, am_k390, am_p390, []), (391, am_k391, am_p391, []), (392, am_k392, am_p392, []), (393, am_k393, am_p393, []), (394, am_k394, am_p394, [])]
theorem am_ckL4_4 : am_cds4_4.all am_ckL = true := by decide +kernel
def am_cds4_5 : List am_Cd := [(395, am_k395, am_p395, []), (396, am_k396, am_p396, []), (397, am_k397, am_p397, []), (398, am_k398, am_p398, []), (399, am_k399, am_p399, []), (400, am_k400, am_p400, []), (401, am_k401, am_p401, []), (402, am_k402, am_p402, []), (403, am_k403, am_p403, []), (404, am_k404, am_p404, []), (405, am_k405, am_p405, []), (406, am_k406, am_p406, []), (407, am_k407, am_p407, []), (408, am_k408, am_p408, [])]
theorem am_ckL4_5 : am_cds4_5.all am_ckL = true := by decide +kernel
def am_cds4_6 : List am_Cd := [(409, am_k409, am_p409, []), (410, am_k410, am_p410, []), (411, am_k411, am_p411, [])]
theorem am_ckL4_6 : am_cds4_6.all am_ckL = true := by decide +kernel
def am_cds4 : List am_Cd := am_cds4_0 ++ (am_cds4_1 ++ (am_cds4_2 ++ (am_cds4_3 ++ (am_cds4_4 ++ (am_cds4_5 ++ (am_cds4_6))))))
theorem am_ckL4 : am_cds4.all am_ckL = true := by simp only [am_cds4, List.all_append, am_ckL4_0, am_ckL4_1, am_ckL4_2, am_ckL4_3, am_ckL4_4, am_ckL4_5, am_ckL4_6, Bool.and_self]
end
section
/-! THE CODE, by program: part 5 -/
/-- X20_takesName -/
def am_k412 : List (List Instr × Instr) := [([.iload 2, .iconst 58], .if_icmp .ne 3), ([.aload 0, .getfield 3121, .iload 1, .aload 0, .iload 1, .iconst 7, .iconst 7], .invokeinterface 403 1540), ([.iastore, .aload 0, .getfield 3110, .iload 1, .iconst 6, .iastore, .aload 0, .getfield 3119, .iload 1, .iconst 0, .iastore, .aload 0, .getfield 3120, .iload 1, .iconst 0, .iastore], .return_), ([.aload 0, .getfield 3114, .iload 1, .aload 0, .iload 1, .iconst 7, .iconst 7, .iload 2], .invokeinterface 401 1), ([], .invokeinterface 402 1541), ([.iastore, .aload 0, .getfield 3115, .iload 1, .dup2, .iaload, .iconst 1, .iadd, .iastore], .return_)]
def am_p412 : List Nat := [0, 6, 20, 44, 59, 62]
/-- X20_takesValue -/
def am_k413 : List (List Instr × Instr) := [([.aload 0, .getfield 3110, .iload 1, .iaload, .iconst 6], .if_icmp .ne 3), ([.iload 2, .iconst 32], .if_icmp .ne 3), ([], .return_), ([.aload 0, .getfield 3110, .iload 1, .iconst 7, .iastore, .aload 0, .getfield 3137, .iconst 100, .iload 1, .imul, .aload 0, .getfield 3119, .iload 1, .iaload, .iadd, .iload 2, .iastore, .aload 0, .getfield 3119, .iload 1, .dup2, .iaload, .iconst 1, .iadd, .iastore, .aload 0, .getfield 3120, .iload 1, .iload 2, .iconst 32], .if_icmp .ne 5), ([.aload 0, .getfield 3120, .iload 1, .iaload], .goto 6), ([.aload 0, .getfield 3119, .iload 1, .iaload], .nop), ([.iastore], .return_)]
def am_p413 : List Nat := [0, 11, 17, 18, 64, 73, 79]
/-- X20_valueAt -/
def am_k414 : List (List Instr × Instr) := [([.iload 2, .aload 0, .getfield 3120, .iload 1, .iaload], .if_icmp .ge 2), ([.aload 0, .getfield 3137, .iconst 100, .iload 1, .imul, .iload 2, .iadd, .iaload], .goto 3), ([.iconst (-1)], .nop), ([], .ireturn)]
def am_p414 : List Nat := [0, 10, 24, 25]
/-- X20_isValue -/
def am_k415 : List (List Instr × Instr) := [([.aload 0, .getfield 3120, .iload 1, .iaload, .aload 0, .iload 2], .invokeinterface 396 1538), ([], .if_icmp .ne 3), ([.iconst 1], .goto 4), ([.iconst 0], .nop), ([.istore 3, .iconst 0, .istore 4], .nop), ([.iload 3], .ifCond .eq 14), ([.iload 4, .aload 0, .getfield 3120, .iload 1, .iaload], .if_icmp .ge 14), ([.aload 0, .iload 1, .iload 4], .invokeinterface 414 1539), ([], .invokeinterface 401 1), ([.aload 0, .iload 2, .iload 4], .invokeinterface 397 1539), ([], .if_icmp .ne 12), ([.iconst 1], .goto 13), ([.iconst 0], .nop), ([.istore 3, .iinc 4 1], .goto 5), ([.iload 3], .ireturn)]
def am_p415 : List Nat := [0, 11, 14, 18, 19, 23, 27, 38, 45, 48, 55, 58, 62, 63, 70]
/-- X20_endsLine -/
def am_k416 : List (List Instr × Instr) := [([.aload 0, .getfield 3110, .iload 1, .iaload, .iconst 2], .if_icmp .ne 2), ([.aload 0, .getfield 3110, .iload 1, .iconst 3, .iastore], .return_), ([.aload 0, .getfield 3110, .iload 1, .iconst 8, .iastore, .aload 0, .getfield 3121, .iload 1, .iaload], .tableswitch 25 0 6 #[3, 4, 6, 11, 19, 21, 23]), ([.aload 0, .getfield 3122, .iload 1, .dup2, .iaload, .iconst 1, .iadd, .iastore], .goto 25), ([.aload 0, .iload 1], .invokeinterface 418 1538), ([], .goto 25), ([.aload 0, .getfield 3124, .iload 1, .aload 0, .iload 1, .iconst 22], .invokeinterface 415 1539), ([], .ifCond .eq 9), ([.iconst 1], .goto 10), ([.iconst 2], .nop), ([.iastore], .goto 25), ([.aload 0, .getfield 3125, .iload 1, .aload 0, .iload 1, .iconst 20], .invokeinterface 415 1539), ([], .ifCond .eq 14), ([.iconst 1], .goto 18), ([.aload 0, .iload 1, .iconst 21], .invokeinterface 415 1539), ([], .ifCond .eq 17), ([.iconst 2], .goto 18), ([.iconst 0], .nop), ([.iastore], .goto 25), ([.aload 0, .getfield 3126, .iload 1, .aload 0, .iload 1], .invokeinterface 419 1538), ([.iastore], .goto 25), ([.aload 0, .getfield 3127, .iload 1, .aload 0, .iload 1], .invokeinterface 419 1538), ([.iastore], .goto 25), ([.aload 0, .iload 1], .invokeinterface 420 1538), ([], .goto 25), ([], .return_)]
def am_p416 : List Nat := [0, 10, 18, 76, 89, 94, 97, 109, 112, 116, 117, 121, 133, 136, 140, 147, 150, 154, 155, 159, 169, 173, 183, 187, 192, 195]
/-- X20_number_ -/
def am_k417 : List (List Instr × Instr) := [([.iconst 0, .istore 3, .aload 0, .iload 2, .putfield 3139], .nop), ([.aload 0, .iload 1, .aload 0, .getfield 3139], .invokeinterface 414 1539), ([.i2l, .jsr_w 48, .jsr_w 57], .invokeinterface 246 3), ([], .ifCond .eq 9), ([.aload 0, .getfield 3139, .iload 2, .isub, .iconst 6], .if_icmp .ge 7), ([.iconst 10, .iload 3, .imul, .aload 0, .iload 1, .aload 0, .getfield 3139], .invokeinterface 414 1539), ([.iadd, .iconst 48, .isub], .goto 8), ([.iload 3], .nop), ([.istore 3, .aload 0, .dup, .getfield 3139, .iconst 1, .iadd, .putfield 3139], .goto 1), ([.aload 0, .getfield 3139, .iload 2, .isub, .i2l, .jsr_w 1, .jsr_w 6], .invokeinterface 246 3), ([], .ifCond .eq 12), ([.iload 3], .goto 13), ([.iconst (-1)], .nop), ([], .ireturn)]
def am_p417 : List Nat := [0, 7, 16, 26, 29, 40, 53, 60, 61, 75, 89, 92, 96, 97]
/-- X20_tellsLength -/
def am_k418 : List (List Instr × Instr) := [([.aload 0, .iload 1, .iconst 0], .invokeinterface 417 1539), ([.istore 2, .iload 2, .iconst (-1)], .if_icmp .eq 3), ([.aload 0, .getfield 3139, .aload 0, .getfield 3120, .iload 1, .iaload], .if_icmp .eq 4), ([.iconst 1], .goto 5), ([.iconst 0], .nop), ([.istore 3, .aload 0, .getfield 3128, .iload 1, .aload 0, .getfield 3128, .iload 1, .baload], .ifCond .ne 9), ([.iload 3], .ifCond .ne 9), ([.aload 0, .getfield 3123, .iload 1, .iaload, .iconst (-1)], .if_icmp .eq 10), ([.aload 0, .getfield 3123, .iload 1, .iaload, .iload 2], .if_icmp .eq 10), ([.iconst 1], .goto 11), ([.iconst 0], .nop), ([.bastore, .aload 0, .getfield 3123, .iload 1, .iload 3], .ifCond .eq 13), ([.iconst 0], .goto 14), ([.iload 2], .nop), ([.iastore], .return_)]
def am_p418 : List Nat := [0, 6, 12, 25, 29, 30, 45, 49, 59, 69, 73, 74, 84, 88, 89]
/-- X20_tagOf -/
def am_k419 : List (List Instr × Instr) := [([.aload 0, .getfield 3120, .iload 1, .iaload, .iconst 1], .if_icmp .ne 4), ([.aload 0, .iload 1, .iconst 0], .invokeinterface 414 1539), ([.iconst 42], .if_icmp .ne 4), ([.iconst (-1)], .ireturn), ([.aload 0, .iload 1, .iconst 0], .invokeinterface 414 1539), ([.iconst 34], .if_icmp .ne 8), ([.aload 0, .iload 1, .iconst 1], .invokeinterface 414 1539), ([.iconst 118], .if_icmp .eq 9), ([.iconst (-3)], .ireturn), ([.aload 0, .iload 1, .iconst 2], .invokeinterface 417 1539), ([.istore 2, .iload 2, .iconst (-1)], .if_icmp .eq 18), ([.aload 0, .iload 1, .aload 0, .getfield 3139], .invokeinterface 414 1539), ([.iconst 34], .if_icmp .ne 18), ([.aload 0, .getfield 3139, .iconst 1, .iadd, .aload 0, .getfield 3120, .iload 1, .iaload], .if_icmp .ne 18), ([.aload 0, .iload 1, .iconst 2], .invokeinterface 414 1539), ([.iconst 48], .if_icmp .ne 17), ([.aload 0, .getfield 3139, .iconst 3], .if_icmp .ne 18), ([.iconst 1], .goto 19), ([.iconst 0], .nop), ([.istore 3, .iload 3], .ifCond .eq 21), ([.iload 2], .goto 22), ([.iconst (-3)], .nop), ([], .ireturn)]
def am_p419 : List Nat := [0, 10, 16, 21, 23, 29, 34, 40, 45, 48, 54, 60, 69, 74, 89, 95, 100, 108, 112, 113, 118, 122, 124]
/-- X20_tellsRange -/
def am_k420 : List (List Instr × Instr) := [([.aload 0, .getfield 3129, .iload 1, .iconst 0, .iastore, .iconst 1, .istore 2, .iconst 0, .istore 3], .nop), ([.iload 3, .aload 0, .iconst 23], .invokeinterface 396 1538), ([], .if_icmp .ge 10), ([.iload 2], .ifCond .eq 8), ([.aload 0, .iload 1, .iload 3], .invokeinterface 414 1539), ([.aload 0, .iconst 23, .iload 3], .invokeinterface 397 1539), ([], .if_icmp .ne 8), ([.iconst 1], .goto 9), ([.iconst 0], .nop), ([.istore 2, .iinc 3 1], .goto 1), ([.iload 2], .ifCond .ne 12), ([], .return_), ([.aload 0, .iload 1, .aload 0, .iconst 23], .invokeinterface 396 1538), ([], .invokeinterface 417 1539), ([.istore 3, .aload 0, .getfield 3139, .aload 0, .iconst 23], .invokeinterface 396 1538), ([], .if_icmp .ne 17), ([.iconst 1], .goto 18), ([.iconst 0], .nop), ([.istore 4, .iload 4], .ifCond .ne 20), ([.iload 3, .iconst (-1)], .if_icmp .eq 22), ([.aload 0, .iload 1, .aload 0, .getfield 3139], .invokeinterface 414 1539), ([.iconst 45], .if_icmp .eq 23), ([], .return_), ([.aload 0, .getfield 3139, .iconst 1, .iadd, .istore 5, .aload 0, .iload 1, .iload 5], .invokeinterface 417 1539), ([.istore 6, .aload 0, .getfield 3139, .iload 5], .if_icmp .ne 26), ([.iconst 1], .goto 27), ([.iconst 0], .nop), ([.istore 7, .aload 0, .getfield 3139, .aload 0, .getfield 3120, .iload 1, .iaload], .if_icmp .ne 32), ([.iload 7], .ifCond .ne 30), ([.iload 6, .iconst (-1)], .if_icmp .eq 32), ([.iload 4], .ifCond .eq 33), ([.iload 7], .ifCond .eq 33), ([], .return_), ([.aload 0, .getfield 3129, .iload 1, .iload 4], .ifCond .eq 35), ([.iconst 3], .goto 38), ([.iload 7], .ifCond .eq 37), ([.iconst 2], .goto 38), ([.iconst 1], .nop), ([.iastore, .aload 0, .getfield 3130, .iload 1, .iload 3, .iastore, .aload 0, .getfield 3131, .iload 1, .iload 6, .iastore], .return_)]
def am_p420 : List Nat := [0, 11, 18, 21, 25, 31, 38, 41, 45, 46, 53, 57, 58, 66, 69, 80, 83, 87, 88, 95, 100, 109, 114, 115, 130, 141, 145, 146, 161, 166, 172, 177, 182, 183, 193, 197, 202, 206, 207]
/-- X20_endsHead -/
def am_k421 : List (List Instr × Instr) := [([.aload 0, .getfield 3123, .iload 1, .iaload, .iconst (-1)], .if_icmp .eq 2), ([.iconst 1], .goto 3), ([.iconst 0], .nop), ([.istore 2, .aload 0, .getfield 3118, .iload 1, .iaload, .iconst (-1)], .if_icmp .ne 5), ([.iconst 505], .ireturn), ([.aload 0, .getfield 3116, .iload 1, .iaload, .iconst (-1)], .if_icmp .eq 7), ([.aload 0, .getfield 3124, .iload 1, .iaload, .iconst 2], .if_icmp .ne 8), ([.iconst 501], .ireturn), ([.aload 0, .getfield 3128, .iload 1, .baload], .ifCond .ne 13), ([.iload 2], .ifCond .eq 11), ([.aload 0, .getfield 3124, .iload 1, .iaload], .ifCond .ne 13), ([.aload 0, .getfield 3118, .iload 1, .iaload, .iconst 1], .if_icmp .ne 14), ([.aload 0, .getfield 3122, .iload 1, .iaload, .iconst 1], .if_icmp .eq 14), ([.iconst 400], .ireturn), ([.iload 2], .ifCond .eq 17), ([.aload 0, .getfield 3123, .iload 1, .iaload, .iconst 300], .if_icmp .le 17), ([.iconst 413], .ireturn), ([.aload 0, .getfield 3116, .iload 1, .iaload, .iconst 2], .if_icmp .eq 19), ([.aload 0, .getfield 3116, .iload 1, .iaload, .iconst 3], .if_icmp .ne 22), ([.iload 2], .ifCond .ne 22), ([.aload 0, .getfield 3124, .iload 1, .iaload], .ifCond .ne 22), ([.iconst 411], .ireturn), ([.aload 0, .getfield 3133, .iload 1, .iload 2], .ifCond .eq 24), ([.aload 0, .getfield 3123, .iload 1, .iaload], .goto 25), ([.iconst 0], .nop), ([.iastore, .aload 0, .getfield 3110, .iload 1, .aload 0, .getfield 3124, .iload 1, .iaload, .iconst 1], .if_icmp .ne 27), ([.iconst 11], .goto 28), ([.iconst 10], .nop), ([.iastore, .aload 0, .getfield 3134, .iload 1, .iconst 0, .iastore, .aload 0, .getfield 3135, .iload 1, .iconst 0, .iastore, .aload 0, .getfield 3124, .iload 1, .iaload], .ifCond .ne 31), ([.aload 0, .getfield 3133, .iload 1, .iaload], .ifCond .ne 31), ([.iconst 1], .goto 32), ([.iconst 0], .nop), ([], .ireturn)]
def am_p421 : List Nat := [0, 10, 14, 15, 26, 30, 40, 50, 54, 63, 67, 76, 86, 96, 100, 104, 116, 120, 130, 140, 144, 153, 157, 166, 175, 176, 192, 197, 199, 223, 232, 236, 237]
/-- X20_takesBody -/
def am_k422 : List (List Instr × Instr) := [([.aload 0, .getfield 3138, .iconst 300, .iload 1, .imul, .aload 0, .getfield 3132, .iload 1, .iaload, .iadd, .iload 2, .iastore, .aload 0, .getfield 3132, .iload 1, .dup2, .iaload, .iconst 1, .iadd, .iastore, .aload 0, .getfield 3133, .iload 1, .dup2, .iaload, .iconst 1, .isub, .iastore], .return_)]
def am_p422 : List Nat := [0]
/-- X20_hexadecimal -/
def am_k423 : List (List Instr × Instr) := [([.iload 0, .i2l, .jsr_w 48, .jsr_w 57], .invokeinterface 246 3), ([], .ifCond .eq 3), ([.iload 0, .iconst 48, .isub], .goto 9), ([.iload 0], .invokeinterface 401 1), ([.i2l, .jsr_w 97, .jsr_w 102], .invokeinterface 246 3), ([], .ifCond .eq 8), ([.iload 0], .invokeinterface 401 1), ([.iconst 97, .isub, .iconst 10, .iadd], .goto 9), ([.iconst (-1)], .nop), ([], .ireturn)]
def am_p423 : List Nat := [0, 11, 14, 21, 25, 35, 38, 42, 51, 52]
/-- X20_goesTo -/
def am_k424 : List (List Instr × Instr) := [([.aload 0, .getfield 3110, .iload 1, .iload 2, .iastore, .iconst 0], .ireturn)]
def am_p424 : List Nat := [0]
/-- X20_looksInChunks -/
def am_k425 : List (List Instr × Instr) := [([.aload 0, .getfield 3110, .iload 1, .iaload], .tableswitch 31 11 16 #[1, 3, 10, 16, 21, 26]), ([.aload 0, .iload 1, .iload 2], .invokeinterface 426 1539), ([], .ireturn), ([.iload 2, .iconst 10], .if_icmp .eq 5), ([.iconst 400], .goto 9), ([.aload 0, .iload 1, .aload 0, .getfield 3133, .iload 1, .iaload], .ifCond .le 7), ([.iconst 13], .goto 8), ([.iconst 16], .nop), ([], .invokeinterface 424 1539), ([], .ireturn), ([.aload 0, .iload 1, .iload 2], .invokeinterface 422 1539), ([.aload 0, .getfield 3133, .iload 1, .iaload], .ifCond .ne 14), ([.aload 0, .iload 1, .iconst 14], .invokeinterface 424 1539), ([], .goto 15), ([.iconst 0], .nop), ([], .ireturn), ([.iload 2, .iconst 13], .if_icmp .ne 19), ([.aload 0, .iload 1, .iconst 15], .invokeinterface 424 1539), ([], .goto 20), ([.iconst 400], .nop), ([], .ireturn), ([.aload 0, .getfield 3134, .iload 1, .iconst 0, .iastore, .aload 0, .getfield 3135, .iload 1, .iconst 0, .iastore, .iload 2, .iconst 10], .if_icmp .ne 24), ([.aload 0, .iload 1, .iconst 11], .invokeinterface 424 1539), ([], .goto 25), ([.iconst 400], .nop), ([], .ireturn), ([.iload 2, .iconst 13], .if_icmp .ne 29), ([.aload 0, .iload 1, .iconst 17], .invokeinterface 424 1539), ([], .goto 30), ([.iconst 400], .nop), ([], .ireturn), ([.iload 2, .iconst 10], .if_icmp .ne 33), ([.iconst 1], .goto 34), ([.iconst 400], .nop), ([], .ireturn)]
def am_p425 : List Nat := [0, 44, 50, 51, 57, 63, 74, 79, 81, 84, 85, 91, 100, 107, 110, 111, 112, 118, 125, 128, 131, 132, 152, 159, 162, 165, 166, 172, 179, 182, 185, 186, 192, 196, 199]
/-- X20_looksAtSize -/
def am_k426 : List (List Instr × Instr) := [([.iload 2, .iconst 13], .if_icmp .ne 6), ([.aload 0, .getfield 3134, .iload 1, .iaload], .ifCond .le 6), ([.aload 0, .getfield 3132, .iload 1, .iaload, .aload 0, .getfield 3135, .iload 1, .iaload, .iadd, .iconst 300], .if_icmp .le 4), ([.iconst 413], .ireturn), ([.aload 0, .getfield 3133, .iload 1, .aload 0, .getfield 3135, .iload 1, .iaload, .iastore, .aload 0, .iload 1, .iconst 12], .invokeinterface 424 1539), ([], .ireturn), ([.iload 2], .invokeinterface 423 1), ([.iconst (-1)], .if_icmp .eq 9), ([.aload 0, .getfield 3134, .iload 1, .iaload, .iconst 4], .if_icmp .ne 10), ([.iconst 400], .ireturn), ([.aload 0, .getfield 3135, .iload 1, .iconst 16, .aload 0, .getfield 3135, .iload 1, .iaload, .imul, .iload 2], .invokeinterface 423 1), ([.iadd, .iastore, .aload 0, .getfield 3134, .iload 1, .dup2, .iaload, .iconst 1, .iadd, .iastore, .iconst 0], .ireturn)]
def am_p426 : List Nat := [0, 6, 15, 34, 38, 57, 58, 62, 66, 76, 80, 98]
/-- X20_targetAt -/
def am_k427 : List (List Instr × Instr) := [([.aload 0, .getfield 3136, .iconst 40, .iload 1, .imul, .iload 2, .iadd, .iaload], .ireturn)]
def am_p427 : List Nat := [0]
/-- X20_targetKind -/
def am_k428 : List (List Instr × Instr) := [([.aload 0, .iload 1, .iconst 0], .invokeinterface 427 1539), ([.iconst 47], .if_icmp .eq 8), ([.aload 0, .getfield 3117, .iload 1, .iaload, .iconst 1], .if_icmp .ne 6), ([.aload 0, .iload 1, .iconst 0], .invokeinterface 427 1539), ([.iconst 42], .if_icmp .ne 6), ([.iconst 2], .goto 7), ([.iconst 3], .nop), ([], .ireturn), ([.aload 0, .getfield 3117, .iload 1, .iaload, .iconst 13], .if_icmp .gt 10), ([.iconst 1], .goto 11), ([.iconst 0], .nop), ([.istore 2, .iconst 1, .istore 3], .nop), ([.iload 3, .aload 0, .getfield 3117, .iload 1, .iaload], .if_icmp .ge 23), ([.aload 0, .iload 1, .iload 3], .invokeinterface 427 1539), ([.istore 4, .iload 2], .ifCond .eq 21), ([.iload 4], .invokeinterface 400 1), ([], .ifCond .ne 20), ([.iload 4, .i2l, .jsr_w 48, .jsr_w 57], .invokeinterface 246 3), ([], .ifCond .ne 20), ([.iload 4, .iconst 46], .if_icmp .ne 21), ([.iconst 1], .goto 22), ([.iconst 0], .nop), ([.istore 2, .iinc 3 1], .goto 12), ([.iload 2], .ifCond .ne 25), ([.iconst 4], .goto 28), ([.aload 0, .getfield 3117, .iload 1, .iaload, .iconst 1], .if_icmp .ne 27), ([.iconst 0], .goto 28), ([.iconst 1], .nop), ([], .ireturn)]
def am_p428 : List Nat := [0, 6, 11, 21, 27, 32, 36, 37, 38, 49, 53, 54, 57, 67, 73, 79, 84, 87, 99, 102, 109, 113, 114, 121, 125, 129, 139, 143, 144]
/-- X20_compares -/
def am_k429 : List (List Instr × Instr) := [([.iconst 0, .istore 3], .nop), ([.iload 3, .aload 0, .getfield 3117, .iload 1, .iaload], .if_icmp .ge 10), ([.iload 3, .aload 0, .getfield 3142, .iload 2, .iaload], .if_icmp .ge 10), ([.aload 0, .iload 1, .iload 3], .invokeinterface 427 1539), ([.istore 4, .aload 0, .getfield 3143, .iconst 13, .iload 2, .imul, .iload 3, .iadd, .iaload, .istore 5, .iload 4, .iload 5], .if_icmp .eq 9), ([.iload 4, .iload 5], .if_icmp .ge 7), ([.iconst (-1)], .goto 8), ([.iconst 1], .nop), ([], .ireturn), ([.iinc 3 1], .goto 1), ([.aload 0, .getfield 3117, .iload 1, .iaload, .aload 0, .getfield 3142, .iload 2, .iaload], .if_icmp .ge 12), ([.iconst (-1)], .goto 15), ([.aload 0, .getfield 3117, .iload 1, .iaload, .aload 0, .getfield 3142, .iload 2, .iaload], .if_icmp .le 14), ([.iconst 1], .goto 15), ([.iconst 0], .nop), ([], .ireturn)]
def am_p429 : List Nat := [0, 2, 12, 22, 28, 50, 57, 61, 62, 63, 69, 84, 88, 103, 107, 108]
/-- X20_fileOf -/
def am_k430 : List (List Instr × Instr) := [([.iconst (-1), .istore 3, .iconst 0, .istore 4], .nop), ([.iload 4, .aload 0, .getfield 3140, .iload 2, .iaload], .if_icmp .ge 7), ([.aload 0, .iload 1, .iconst 8, .iload 2, .imul, .iload 4, .iadd], .invokeinterface 429 1539), ([], .ifCond .ne 5), ([.iconst 8, .iload 2, .imul, .iload 4, .iadd], .goto 6), ([.iload 3], .nop), ([.istore 3, .iinc 4 1], .goto 1), ([.iload 3], .ireturn)]
def am_p430 : List Nat := [0, 5, 16, 28, 31, 41, 42, 49]
/-- X20_copiesFile -/
def am_k431 : List (List Instr × Instr) := [([.aload 0, .getfield 3142, .iload 2, .aload 0, .getfield 3142, .iload 1, .iaload, .iastore, .aload 0, .getfield 3144, .iload 2, .aload 0, .getfield 3144, .iload 1, .iaload, .iastore, .aload 0, .getfield 3145, .iload 2, .aload 0, .getfield 3145, .iload 1, .iaload, .iastore, .iconst 0, .istore 3], .nop), ([.iload 3, .iconst 13], .if_icmp .ge 3), ([.aload 0, .getfield 3143, .iconst 13, .iload 2, .imul, .iload 3, .iadd, .aload 0, .getfield 3143, .iconst 13, .iload 1, .imul, .iload 3, .iadd, .iaload, .iastore, .iinc 3 1], .goto 1), ([.iconst 0, .istore 3], .nop), ([.iload 3, .iconst 300], .if_icmp .ge 6), ([.aload 0, .getfield 3146, .iconst 300, .iload 2, .imul, .iload 3, .iadd, .aload 0, .getfield 3146, .iconst 300, .iload 1, .imul, .iload 3, .iadd, .iaload, .iastore, .iinc 3 1], .goto 4), ([], .return_)]
def am_p431 : List Nat := [0, 38, 44, 72, 74, 81, 111]
/-- X20_newFile -/
def am_k432 : List (List Instr × Instr) := [([.aload 0, .getfield 3140, .iload 2, .iaload, .istore 3], .nop), ([.iload 3], .ifCond .le 6), ([.aload 0, .iload 1, .iconst 8, .iload 2, .imul, .iload 3, .iadd, .iconst 1, .isub], .invokeinterface 429 1539), ([], .ifCond .ge 6), ([.aload 0, .iconst 8, .iload 2, .imul, .iload 3, .iadd, .iconst 1, .isub, .iconst 8, .iload 2, .imul, .iload 3, .iadd], .invokeinterface 431 1539), ([.iinc 3 (-1)], .goto 1), ([.aload 0, .getfield 3140, .iload 2, .dup2, .iaload, .iconst 1, .iadd, .iastore, .iconst 8, .iload 2, .imul, .iload 3, .iadd, .istore 4, .aload 0, .getfield 3142, .iload 4, .aload 0, .getfield 3117, .iload 1, .iaload, .iastore, .iconst 0, .istore 5], .nop), ([.iload 5, .aload 0, .getfield 3117, .iload 1, .iaload], .if_icmp .ge 10), ([.aload 0, .getfield 3143, .iconst 13, .iload 4, .imul, .iload 5, .iadd, .aload 0, .iload 1, .iload 5], .invokeinterface 427 1539), ([.iastore, .iinc 5 1], .goto 7), ([.aload 0, .getfield 3144, .iload 4, .iconst 0, .iastore, .iload 4], .ireturn)]
def am_p432 : List Nat := [0, 7, 11, 24, 27, 45, 51, 85, 96, 115, 122]
/-- X20_dropsFile -/
def am_k433 : List (List Instr × Instr) := [([.aload 0, .getfield 3140, .iload 2, .dup2, .iaload, .iconst 1, .isub, .iastore, .iload 1, .istore 3], .nop), ([.iload 3, .iconst 8, .iload 2, .imul, .aload 0, .getfield 3140, .iload 2, .iaload, .iadd], .if_icmp .ge 4), ([.aload 0, .iload 3, .iconst 1, .iadd, .iload 3], .invokeinterface 431 1539), ([.iinc 3 1], .goto 1), ([], .return_)]
def am_p433 : List Nat := [0, 12, 27, 35, 41]
/-- X20_putsBody -/
def am_k434 : List (List Instr × Instr) := [([.iconst 0, .istore 4], .nop), ([.iload 4, .aload 0, .getfield 3132, .iload 1, .iaload], .if_icmp .ge 3), ([.aload 0, .getfield 3146, .iconst 300, .iload 2, .imul, .aload 0, .getfield 3144, .iload 2, .iaload, .iadd, .iload 4, .iadd, .aload 0, .getfield 3138, .iconst 300, .iload 1, .imul, .iload 4, .iadd, .iaload, .iastore, .iinc 4 1], .goto 1), ([.aload 0, .getfield 3144, .iload 2, .dup2, .iaload, .aload 0, .getfield 3132, .iload 1, .iaload, .iadd, .iastore, .aload 0, .getfield 3141, .iload 3, .dup2, .iaload, .iconst 1, .iadd, .iastore, .aload 0, .getfield 3145, .iload 2, .aload 0, .getfield 3141, .iload 3, .iaload, .iastore], .return_)]
def am_p434 : List Nat := [0, 3, 14, 53]
/-- X20_fitsTag -/
def am_k435 : List (List Instr × Instr) := [([.iload 2, .iconst (-1)], .if_icmp .eq 4), ([.iload 1, .iconst (-1)], .if_icmp .eq 3), ([.iload 1, .aload 0, .getfield 3145, .iload 2, .iaload], .if_icmp .ne 4), ([.iconst 1], .goto 5), ([.iconst 0], .nop), ([], .ireturn)]
def am_p435 : List Nat := [0, 5, 10, 20, 24, 25]
/-- X20_isRefused -/
def am_k436 : List (List Instr × Instr) := [([.aload 0, .getfield 3126, .iload 1, .iaload, .iconst (-2)], .if_icmp .eq 4), ([.aload 0, .aload 0, .getfield 3126, .iload 1, .iaload, .iload 2], .invokeinterface 435 1539), ([], .ifCond .ne 4), ([.iconst 1], .goto 5), ([.iconst 0], .nop), ([], .ireturn)]
def am_p436 : List Nat := [0, 11, 22, 25, 29, 30]
/-- X20_isDone -/
def am_k437 : List (List Instr × Instr) := [([.aload 0, .getfield 3116, .iload 1, .iaload, .istore 3, .aload 0, .iload 1], .invokeinterface 428 1538), ([.istore 4, .iload 4, .iconst 1], .if_icmp .ne 4), ([.aload 0, .iload 1, .iload 2], .invokeinterface 430 1539), ([], .goto 5), ([.iconst (-1)], .nop), ([.istore 5, .aload 0, .iconst (-1), .putfield 3149, .iload 4, .iconst 3], .if_icmp .eq 8), ([.iload 4, .iconst 2], .if_icmp .ne 9), ([.iload 3, .iconst 5], .if_icmp .eq 9), ([.iconst 400], .ireturn), ([.iload 4, .iconst 4], .if_icmp .ne 11), ([.iconst 404], .ireturn), ([.iload 3, .iconst 5], .if_icmp .ne 13), ([.iconst 204], .ireturn), ([.iload 4], .ifCond .ne 19), ([.aload 0, .aload 0, .getfield 3141, .iload 2, .iaload, .putfield 3149, .iload 3], .ifCond .eq 16), ([.iload 3, .iconst 1], .if_icmp .ne 17), ([.iconst 200], .goto 18), ([.iconst 405], .nop), ([], .ireturn), ([.iload 3, .iconst 2], .if_icmp .ne 22), ([.aload 0, .iload 1, .iload 5, .iload 2], .invokeinterface 438 1540), ([], .ireturn), ([.iload 5, .iconst (-1)], .if_icmp .ne 24), ([.iconst 404], .ireturn), ([.aload 0, .iload 1, .iload 5], .invokeinterface 436 1539), ([], .ifCond .eq 27), ([.iconst 412], .ireturn), ([.aload 0, .getfield 3127, .iload 1, .iaload, .iconst (-2)], .if_icmp .eq 31), ([.aload 0, .aload 0, .getfield 3127, .iload 1, .iaload, .iload 5], .invokeinterface 435 1539), ([], .ifCond .eq 31), ([.iconst 1], .goto 32), ([.iconst 0], .nop), ([.istore 6, .iload 3], .ifCond .eq 34), ([.iload 3, .iconst 1], .if_icmp .ne 38), ([.aload 0, .aload 0, .getfield 3145, .iload 5, .iaload, .putfield 3149, .iload 6], .ifCond .eq 36), ([.iconst 304], .goto 37), ([.aload 0, .iload 1, .iload 5], .invokeinterface 439 1539), ([], .ireturn), ([.iload 6], .ifCond .eq 40), ([.iconst 412], .ireturn), ([.iload 3, .iconst 4], .if_icmp .ne 43), ([.aload 0, .iload 5, .iload 2], .invokeinterface 433 1539), ([.aload 0, .getfield 3141, .iload 2, .dup2, .iaload, .iconst 1, .iadd, .iastore, .iconst 204], .ireturn), ([.aload 0, .getfield 3144, .iload 5, .iaload, .aload 0, .getfield 3132, .iload 1, .iaload, .iadd, .iconst 300], .if_icmp .le 45), ([.iconst 413], .ireturn), ([.aload 0, .iload 1, .iload 5, .iload 2], .invokeinterface 434 1540), ([.aload 0, .aload 0, .getfield 3145, .iload 5, .iaload, .putfield 3149, .iconst 204], .ireturn)]
def am_p437 : List Nat := [0, 12, 20, 26, 29, 30, 43, 49, 54, 58, 64, 68, 73, 77, 82, 96, 101, 107, 110, 111, 116, 124, 125, 131, 135, 142, 145, 149, 160, 172, 175, 179, 180, 186, 191, 207, 213, 220, 221, 226, 230, 235, 242, 256, 276, 280, 288]
/-- X20_isPut -/
def am_k438 : List (List Instr × Instr) := [([.aload 0, .iload 1, .iload 2], .invokeinterface 436 1539), ([], .ifCond .ne 5), ([.aload 0, .getfield 3127, .iload 1, .iaload, .iconst (-2)], .if_icmp .eq 6), ([.aload 0, .aload 0, .getfield 3127, .iload 1, .iaload, .iload 2], .invokeinterface 435 1539), ([], .ifCond .eq 6), ([.iconst 412], .ireturn), ([.iload 2, .iconst (-1)], .if_icmp .ne 9), ([.aload 0, .getfield 3140, .iload 3, .iaload, .iconst 8], .if_icmp .ne 9), ([.iconst 507], .ireturn), ([.iload 2, .iconst (-1)], .if_icmp .ne 12), ([.aload 0, .iload 1, .iload 3], .invokeinterface 432 1539), ([], .goto 13), ([.iload 2], .nop), ([.istore 4, .aload 0, .getfield 3144, .iload 4, .iconst 0, .iastore, .aload 0, .iload 1, .iload 4, .iload 3], .invokeinterface 434 1540), ([.aload 0, .aload 0, .getfield 3145, .iload 4, .iaload, .putfield 3149, .iload 2, .iconst (-1)], .if_icmp .ne 16), ([.iconst 201], .goto 17), ([.iconst 204], .nop), ([], .ireturn)]
def am_p438 : List Nat := [0, 6, 9, 20, 31, 34, 38, 43, 54, 58, 63, 69, 72, 73, 91, 107, 113, 116]
/-- X20_range -/
def am_k439 : List (List Instr × Instr) := [([.aload 0, .getfield 3144, .iload 2, .iaload, .istore 3, .aload 0, .iload 3, .putfield 3150, .aload 0, .iconst 0, .putfield 3147, .aload 0, .iload 3, .putfield 3148, .aload 0, .getfield 3130, .iload 1, .iaload, .istore 4, .aload 0, .getfield 3131, .iload 1, .iaload, .istore 5, .aload 0, .getfield 3129, .iload 1, .iaload], .lookupswitch 9 #[(0, 1), (3, 2)]), ([.iconst 200], .ireturn), ([.iload 5], .ifCond .eq 4), ([.iload 3], .ifCond .ne 5), ([.iconst 416], .ireturn), ([.aload 0, .iload 5, .iload 3], .if_icmp .ge 7), ([.iload 5], .goto 8), ([.iload 3], .nop), ([.putfield 3148, .aload 0, .iload 3, .aload 0, .getfield 3148, .isub, .putfield 3147, .iconst 206], .ireturn), ([.iload 4, .iload 3], .if_icmp .ge 12), ([.aload 0, .getfield 3129, .iload 1, .iaload, .iconst 1], .if_icmp .ne 13), ([.iload 5, .iload 4], .if_icmp .ge 13), ([.iconst 416], .ireturn), ([.aload 0, .iload 4, .putfield 3147, .aload 0, .aload 0, .getfield 3129, .iload 1, .iaload, .iconst 1], .if_icmp .ne 16), ([.iload 5, .iload 3], .if_icmp .ge 16), ([.iload 5, .iconst 1, .iadd], .goto 17), ([.iload 3], .nop), ([.iload 4, .isub, .putfield 3148, .iconst 206], .ireturn)]
def am_p439 : List Nat := [0, 72, 76, 81, 85, 89, 96, 101, 102, 119, 125, 135, 142, 146, 163, 169, 176, 177]
/-- X20_grown -/
def am_k440 : List (List Instr × Instr) := [([.iconst 2, .aload 0, .arraylength, .imul, .newarray .int, .astore 1, .iconst 0, .istore 2], .nop), ([.iload 2, .aload 0, .arraylength], .if_icmp .ge 3), ([.aload 1, .iload 2, .aload 0, .iload 2, .iaload, .iastore, .iinc 2 1], .goto 1), ([.aload 1], .areturn)]
def am_p440 : List Nat := [0, 9, 15, 27]
/-- X20_says -/
def am_k441 : List (List Instr × Instr) := [([.aload 0, .aload 0, .getfield 3152, .aload 0, .getfield 3151, .arraylength], .if_icmp .ne 3), ([.aload 0, .getfield 3151], .invokeinterface 440 1), ([], .goto 4), ([.aload 0, .getfield 3151], .nop), ([.putfield 3151, .aload 0, .getfield 3151, .aload 0, .getfield 3152, .iload 1, .iastore, .aload 0, .dup, .getfield 3152, .iconst 1, .iadd, .putfield 3152], .return_)]
def am_p441 : List Nat := [0, 13, 20, 23, 27]
/-- X20_saysText -/
def am_k442 : List (List Instr × Instr) := [([.iconst 0, .istore 2], .nop), ([.iload 2, .aload 0, .iload 1], .invokeinterface 396 1538), ([], .if_icmp .ge 6), ([.aload 0, .aload 0, .iload 1, .iload 2], .invokeinterface 397 1539), ([], .invokeinterface 441 1538), ([.iinc 2 1], .goto 1), ([], .return_)]
def am_p442 : List Nat := [0, 2, 8, 11, 18, 21, 27]
/-- X20_saysNumber -/
def am_k443 : List (List Instr × Instr) := [([.iconst 1, .istore 2], .nop), ([.iload 1, .iload 2, .idiv, .iconst 10], .if_icmp .lt 3), ([.iload 2, .iconst 10, .imul, .istore 2], .goto 1), ([.iload 2], .ifCond .le 6), ([.aload 0, .iconst 48, .iload 1, .iload 2, .idiv, .iconst 10, .irem, .iadd], .invokeinterface 441 1538), ([.iload 2, .iconst 10, .idiv, .istore 2], .goto 3), ([], .return_)]
def am_p443 : List Nat := [0, 2, 10, 18, 22, 35, 43]
/-- X20_saysLineEnd -/
def am_k444 : List (List Instr × Instr) := [([.aload 0, .iconst 13], .invokeinterface 441 1538), ([.aload 0, .iconst 10], .invokeinterface 441 1538), ([], .return_)]
def am_p444 : List Nat := [0, 6, 12]
/-- X20_wordOf -/
def am_k445 : List (List Instr × Instr) := [([.iconst 24, .istore 2, .iconst 0, .istore 3], .nop), ([.iload 3, .iconst 17], .if_icmp .ge 6), ([.aload 0, .getfield 3109, .iload 3, .iaload, .iload 1], .if_icmp .ne 4), ([.iconst 24, .iload 3, .iadd], .goto 5), ([.iload 2], .nop), ([.istore 2, .iinc 3 1], .goto 1), ([.iload 2], .ireturn)]
def am_p445 : List Nat := [0, 5, 11, 21, 28, 29, 36]
/-- X20_listLong -/
def am_k446 : List (List Instr × Instr) := [([.iconst 0, .istore 2, .iconst 0, .istore 3], .nop), ([.iload 3, .aload 0, .getfield 3140, .iload 1, .iaload], .if_icmp .ge 3), ([.iload 2, .aload 0, .getfield 3142, .iconst 8, .iload 1, .imul, .iload 3, .iadd, .iaload, .iconst 1, .iadd, .iadd, .istore 2, .iinc 3 1], .goto 1), ([.iload 2], .ireturn)]
def am_p446 : List Nat := [0, 4, 14, 36]
/-- X20_answers_ -/
def am_k447 : List (List Instr × Instr) := [([.aload 0, .getfield 3116, .iload 1, .iaload, .istore 6, .iload 4], .ifCond .ne 4), ([.iload 6], .ifCond .eq 3), ([.iload 6, .iconst 1], .if_icmp .ne 4), ([.iconst 1], .goto 5), ([.iconst 0], .nop), ([.istore 7, .iload 7], .ifCond .eq 9), ([.aload 0, .iload 1], .invokeinterface 428 1538), ([], .ifCond .ne 9), ([.iconst 1], .goto 10), ([.iconst 0], .nop), ([.istore 8, .iload 7], .ifCond .eq 15), ([.iload 8], .ifCond .ne 15), ([.iload 3, .iconst 400], .if_icmp .ge 15), ([.aload 0, .iload 1, .iload 2], .invokeinterface 430 1539), ([], .goto 16), ([.iconst (-1)], .nop), ([.istore 9, .iload 3, .iconst 400], .if_icmp .lt 20), ([.aload 0, .aload 0, .iload 3], .invokeinterface 445 1538), ([], .invokeinterface 396 1538), ([], .goto 26), ([.iload 8], .ifCond .eq 23), ([.aload 0, .iload 2], .invokeinterface 446 1538), ([], .goto 26), ([.iload 9, .iconst (-1)], .if_icmp .eq 25), ([.aload 0, .getfield 3148], .goto 26), ([.iconst 0], .nop), ([.istore 10, .aload 0, .iconst 0], .invokeinterface 442 1538), ([.aload 0, .iload 3], .invokeinterface 443 1538), ([.aload 0, .iconst 32], .invokeinterface 441 1538), ([.aload 0, .aload 0, .iload 3], .invokeinterface 445 1538), ([], .invokeinterface 442 1538), ([.aload 0], .invokeinterface 444 1537), ([.iload 3, .iconst 204], .if_icmp .eq 37), ([.iload 3, .iconst 304], .if_icmp .eq 37), ([.aload 0, .iconst 1], .invokeinterface 442 1538), ([.aload 0, .iload 10], .invokeinterface 443 1538), ([.aload 0], .invokeinterface 444 1537), ([.aload 0, .getfield 3149, .iconst (-1)], .if_icmp .eq 44), ([.iload 4], .ifCond .ne 44), ([.iload 3, .iconst 400], .if_icmp .ge 44), ([.aload 0, .iconst 2], .invokeinterface 442 1538), ([.aload 0, .aload 0, .getfield 3149], .invokeinterface 443 1538), ([.aload 0, .iconst 34], .invokeinterface 441 1538), ([.aload 0], .invokeinterface 444 1537), ([.aload 0, .iload 3], .invokeinterface 448 1538), ([.iload 3, .iconst 405], .if_icmp .eq 48), ([.iload 3, .iconst 204], .if_icmp .ne 53), ([.iload 6, .iconst 5], .if_icmp .ne 53), ([.aload 0, .iload 3, .iconst 405], .if_icmp .ne 50), ([.iconst 4], .goto 51), ([.iconst 5], .nop), ([], .invokeinterface 442 1538), ([.aload 0], .invokeinterface 444 1537), ([.iload 5], .ifCond .eq 56), ([.aload 0, .iconst 6], .invokeinterface 442 1538), ([.aload 0], .invokeinterface 444 1537), ([.aload 0], .invokeinterface 444 1537), ([.iload 6, .iconst 1], .if_icmp .eq 60), ([.iload 3, .iconst 204], .if_icmp .eq 60), ([.iload 3, .iconst 304], .if_icmp .ne 61), ([], .return_), ([.iload 3, .iconst 400], .if_icmp .lt 65), ([.aload 0, .aload 0, .iload 3], .invokeinterface 445 1538), ([], .invokeinterface 442 1538), ([], .goto 73), ([.iload 8], .ifCond .eq 68), ([.aload 0, .iload 2], .invokeinterface 449 1538), ([], .goto 73), ([.iload 9, .iconst (-1)], .if_icmp .eq 73), ([.iconst 0, .istore 11], .nop), ([.iload 11, .aload 0, .getfield 3148], .if_icmp .ge 73), ([.aload 0, .aload 0, .getfield 3146, .iconst 300, .iload 9, .imul, .aload 0, .getfield 3147, .iadd, .iload 11, .iadd, .iaload], .invokeinterface 441 1538), ([.iinc 11 1], .goto 70), ([], .return_)]
def am_p447 : List Nat := [0, 13, 18, 24, 28, 29, 36, 41, 44, 48, 49, 56, 61, 68, 74, 77, 78, 87, 93, 96, 99, 104, 109, 112, 118, 125, 126, 133, 138, 144, 150, 153, 157, 164, 171, 176, 182, 186, 194, 199, 206, 211, 219, 225, 229, 234, 241, 248, 254, 262, 266, 267, 270, 274, 279, 285, 289, 293, 299, 306, 313, 314, 321, 327, 330, 333, 338, 343, 346, 352, 355, 364, 387, 393]
/-- X20_saysPart -/
def am_k448 : List (List Instr × Instr) := [([.iload 1, .iconst 206], .if_icmp .eq 3), ([.iload 1, .iconst 416], .if_icmp .eq 3), ([], .return_), ([.aload 0, .iconst 3], .invokeinterface 442 1538), ([.iload 1, .iconst 206], .if_icmp .ne 9), ([.aload 0, .aload 0, .getfield 3147], .invokeinterface 443 1538), ([.aload 0, .iconst 45], .invokeinterface 441 1538), ([.aload 0, .aload 0, .getfield 3147, .aload 0, .getfield 3148, .iadd, .iconst 1, .isub], .invokeinterface 443 1538), ([], .goto 10), ([.aload 0, .iconst 42], .invokeinterface 441 1538), ([.aload 0, .iconst 47], .invokeinterface 441 1538), ([.aload 0, .aload 0, .getfield 3150], .invokeinterface 443 1538), ([.aload 0], .invokeinterface 444 1537), ([], .return_)]
def am_p448 : List Nat := [0, 7, 14, 15, 20, 27, 35, 41, 56, 59, 65, 71, 79, 83]
/-- X20_saysList -/
def am_k449 : List (List Instr × Instr) := [([.iconst 0, .istore 2], .nop), ([.iload 2, .aload 0, .getfield 3140, .iload 1, .iaload], .if_icmp .ge 8), ([.iconst 8, .iload 1, .imul, .iload 2, .iadd, .istore 3, .iconst 0, .istore 4], .nop), ([.iload 4, .aload 0, .getfield 3142, .iload 3, .iaload], .if_icmp .ge 6), ([.aload 0, .aload 0, .getfield 3143, .iconst 13, .iload 3, .imul, .iload 4, .iadd, .iaload], .invokeinterface 441 1538), ([.iinc 4 1], .goto 3), ([.aload 0, .iconst 10], .invokeinterface 441 1538), ([.iinc 2 1], .goto 1), ([], .return_)]
def am_p449 : List Nat := [0, 2, 12, 22, 33, 49, 55, 61, 67]
/-- X20_does -/
def am_k450 : List (List Instr × Instr) := [([.iload 3, .iconst 1], .if_icmp .eq 2), ([.iconst 1], .goto 3), ([.iconst 0], .nop), ([.istore 4, .aload 0, .iconst (-1), .putfield 3149, .iload 4], .ifCond .eq 5), ([.iload 3], .goto 6), ([.aload 0, .iload 1, .iload 2], .invokeinterface 437 1539), ([.istore 5, .aload 0, .iload 1, .iload 2, .iload 5, .iload 4, .aload 0, .iload 1, .iload 4], .invokeinterface 451 1539), ([], .invokeinterface 447 1542), ([.iload 5], .ireturn)]
def am_p450 : List Nat := [0, 5, 9, 10, 22, 26, 32, 48, 51]
/-- X20_isLast -/
def am_k451 : List (List Instr × Instr) := [([.iload 2], .ifCond .ne 4), ([.aload 0, .getfield 3125, .iload 1, .iaload, .iconst 1], .if_icmp .eq 4), ([.aload 0, .getfield 3118, .iload 1, .iaload], .ifCond .ne 5), ([.aload 0, .getfield 3125, .iload 1, .iaload, .iconst 2], .if_icmp .eq 5), ([.iconst 1], .goto 6), ([.iconst 0], .nop), ([], .ireturn)]
def am_p451 : List Nat := [0, 4, 14, 23, 33, 37, 38]
/-- X20_serves -/
def am_k452 : List (List Instr × Instr) := [([.aload 0, .getfield 3165, .iload 1, .baload], .ifCond .ne 2), ([.aload 0, .getfield 3165, .iload 1, .iconst 1, .bastore, .aload 0, .getfield 3162, .iload 1, .iconst (-1), .iastore, .aload 0, .iload 1], .invokeinterface 398 1538), ([.iconst 1, .istore 2], .nop), ([.iload 2], .ifCond .eq 29), ([.aload 0, .iload 1], .invokeinterface 377 1538), ([], .ifCond .eq 29), ([.aload 0, .iload 1], .invokeinterface 453 1538), ([.aload 0, .getfield 3162, .iload 1, .iaload, .istore 3, .iload 3, .iconst (-1)], .if_icmp .eq 10), ([.aload 0, .getfield 3163, .iload 1, .iaload, .aload 0, .getfield 3157, .iload 3, .iaload], .if_icmp .ge 10), ([.iconst 1], .goto 11), ([.iconst 0], .nop), ([.istore 4, .iload 4], .ifCond .eq 13), ([.iconst 0, .istore 2], .goto 28), ([.iload 3, .iconst (-1)], .if_icmp .eq 17), ([.aload 0, .getfield 3160, .iload 3, .iaload, .iconst 1], .if_icmp .ne 17), ([.aload 0, .iload 1], .invokeinterface 378 1538), ([], .goto 28), ([.aload 0, .iload 1], .invokeinterface 371 1538), ([], .ifCond .le 24), ([.aload 0, .iload 1, .aload 0, .iload 1], .invokeinterface 373 1538), ([], .invokeinterface 405 1539), ([.istore 5, .iload 5], .ifCond .eq 23), ([.aload 0, .iload 1, .iload 5], .invokeinterface 454 1539), ([], .goto 28), ([.aload 0, .iload 1], .invokeinterface 374 1538), ([], .ifCond .eq 27), ([.aload 0, .iload 1], .invokeinterface 378 1538), ([.iconst 0, .istore 2], .nop), ([], .goto 3), ([], .return_)]
def am_p452 : List Nat := [0, 9, 28, 30, 34, 39, 42, 47, 59, 74, 78, 79, 86, 91, 96, 106, 111, 114, 119, 122, 129, 132, 139, 146, 149, 154, 157, 162, 164, 167]
/-- X20_writesOn -/
def am_k453 : List (List Instr × Instr) := [([.aload 0, .getfield 3162, .iload 1, .iaload, .istore 2], .nop), ([.iload 2, .iconst (-1)], .if_icmp .eq 7), ([.aload 0, .getfield 3163, .iload 1, .iaload, .aload 0, .getfield 3157, .iload 2, .iaload], .if_icmp .ge 7), ([.aload 0, .iload 1], .invokeinterface 375 1538), ([], .ifCond .le 7), ([.aload 0, .iload 1, .aload 0, .getfield 3151, .aload 0, .getfield 3156, .iload 2, .iaload, .aload 0, .getfield 3163, .iload 1, .iaload, .iadd, .iaload], .invokeinterface 376 1539), ([.aload 0, .getfield 3163, .iload 1, .dup2, .iaload, .iconst 1, .iadd, .iastore], .goto 1), ([], .return_)]
def am_p453 : List Nat := [0, 7, 12, 27, 32, 35, 58, 71]
/-- X20_servesOne -/
def am_k454 : List (List Instr × Instr) := [([.aload 0, .getfield 3161, .aload 0, .getfield 3153, .arraylength], .if_icmp .ne 10), ([.aload 0, .aload 0, .getfield 3153], .invokeinterface 440 1), ([.putfield 3153, .aload 0, .aload 0, .getfield 3154], .invokeinterface 440 1), ([.putfield 3154, .aload 0, .aload 0, .getfield 3155], .invokeinterface 440 1), ([.putfield 3155, .aload 0, .aload 0, .getfield 3156], .invokeinterface 440 1), ([.putfield 3156, .aload 0, .aload 0, .getfield 3157], .invokeinterface 440 1), ([.putfield 3157, .aload 0, .aload 0, .getfield 3158], .invokeinterface 440 1), ([.putfield 3158, .aload 0, .aload 0, .getfield 3159], .invokeinterface 440 1), ([.putfield 3159, .aload 0, .aload 0, .getfield 3160], .invokeinterface 440 1), ([.putfield 3160], .nop), ([.aload 0, .getfield 3161, .istore 3, .aload 0, .dup, .getfield 3161, .iconst 1, .iadd, .putfield 3161, .aload 0, .getfield 3153, .iload 3, .iload 1, .iastore, .aload 0, .getfield 3154, .iload 3, .aload 0, .getfield 3164, .iload 1, .iaload, .iastore, .aload 0, .getfield 3164, .iload 1, .dup2, .iaload, .iconst 1, .iadd, .iastore, .aload 0, .getfield 3158, .iload 3, .aload 0, .getfield 3111, .iload 1, .iaload, .iastore, .aload 0, .getfield 3159, .iload 3, .aload 0, .getfield 3073, .iastore, .aload 0, .getfield 3156, .iload 3, .aload 0, .getfield 3152, .iastore, .aload 0, .getfield 3160, .iload 3, .aload 0, .iload 1, .iload 2, .iconst 1], .if_icmp .eq 12), ([.iconst 1], .goto 13), ([.iconst 0], .nop), ([], .invokeinterface 451 1539), ([], .ifCond .eq 16), ([.iconst 1], .goto 17), ([.iconst 0], .nop), ([.iastore, .aload 0, .getfield 3155, .iload 3, .aload 0, .iload 1, .iconst 0, .iload 2], .invokeinterface 450 1540), ([.iastore, .aload 0, .getfield 3157, .iload 3, .aload 0, .getfield 3152, .aload 0, .getfield 3156, .iload 3, .iaload, .isub, .iastore, .aload 0, .getfield 3162, .iload 1, .iload 3, .iastore, .aload 0, .getfield 3163, .iload 1, .iconst 0, .iastore, .aload 0, .iload 1], .invokeinterface 398 1538), ([], .return_)]
def am_p454 : List Nat := [0, 12, 20, 31, 42, 53, 64, 75, 86, 97, 100, 188, 192, 193, 196, 199, 203, 204, 217, 254]
/-- X20_fileAt -/
def am_k455 : List (List Instr × Instr) := [([.aload 0, .iload 1, .i2l, .jsr_w 0, .aload 0, .getfield 3140, .iconst 0, .iaload, .iconst 1, .isub, .i2l], .invokeinterface 246 3), ([.iload 2, .i2l, .jsr_w 0, .jsr_w 2], .invokeinterface 246 3), ([], .invokeinterface 248 1539), ([], .ifCond .ne 5), ([.iconst 0], .ireturn), ([.iload 2], .ifCond .ne 7), ([.aload 0, .getfield 3144, .iload 1, .iaload], .goto 10), ([.iload 2, .iconst 1], .if_icmp .ne 9), ([.aload 0, .getfield 3145, .iload 1, .iaload], .goto 10), ([.aload 0, .getfield 3142, .iload 1, .iaload], .nop), ([], .ireturn)]
def am_p455 : List Nat := [0, 16, 25, 28, 31, 33, 37, 46, 51, 60, 66]
/-- X20_fileByteAt -/
def am_k456 : List (List Instr × Instr) := [([.iload 1, .i2l, .jsr_w 0, .aload 0, .getfield 3140, .iconst 0, .iaload, .iconst 1, .isub, .i2l], .invokeinterface 246 3), ([.istore 4, .aload 0, .iload 4], .ifCond .eq 8), ([.iload 3, .i2l, .jsr_w 0, .iload 2], .ifCond .eq 4), ([.aload 0, .getfield 3142, .iload 1, .iaload], .goto 5), ([.aload 0, .getfield 3144, .iload 1, .iaload], .nop), ([.iconst 1, .isub, .i2l], .invokeinterface 246 3), ([], .ifCond .eq 8), ([.iconst 1], .goto 9), ([.iconst 0], .nop), ([], .invokeinterface 247 1538), ([], .ifCond .ne 12), ([.iconst 0], .ireturn), ([.iload 2], .ifCond .eq 14), ([.aload 0, .getfield 3143, .iconst 13, .iload 1, .imul, .iload 3, .iadd, .iaload], .goto 15), ([.aload 0, .getfield 3146, .iconst 300, .iload 1, .imul, .iload 3, .iadd, .iaload], .nop), ([], .ireturn)]
def am_p456 : List Nat := [0, 15, 23, 30, 39, 45, 51, 54, 58, 59, 62, 65, 67, 71, 85, 97]
/-- X20_servedAt -/
def am_k457 : List (List Instr × Instr) := [([.aload 0, .iload 1, .i2l, .jsr_w 0, .aload 0, .getfield 3161, .iconst 1, .isub, .i2l], .invokeinterface 246 3), ([.iload 2, .i2l, .jsr_w 0, .jsr_w 6], .invokeinterface 246 3), ([], .invokeinterface 248 1539), ([], .ifCond .ne 5), ([.iconst 0], .ireturn), ([.iload 2], .tableswitch 12 0 5 #[6, 7, 8, 9, 10, 11]), ([.aload 0, .getfield 3153, .iload 1, .iaload], .ireturn), ([.aload 0, .getfield 3154, .iload 1, .iaload], .ireturn), ([.aload 0, .getfield 3155, .iload 1, .iaload], .ireturn), ([.aload 0, .getfield 3157, .iload 1, .iaload], .ireturn), ([.aload 0, .getfield 3158, .iload 1, .iaload], .ireturn), ([.aload 0, .getfield 3160, .iload 1, .iaload], .ireturn), ([.aload 0, .getfield 3159, .iload 1, .iaload], .ireturn)]
def am_p457 : List Nat := [0, 14, 23, 26, 29, 31, 72, 79, 86, 93, 100, 107, 114]
/-- X20_answerAt -/
def am_k458 : List (List Instr × Instr) := [([.iload 1, .i2l, .jsr_w 0, .aload 0, .getfield 3161, .iconst 1, .isub, .i2l], .invokeinterface 246 3), ([.istore 3, .aload 0, .iload 3], .ifCond .eq 5), ([.iload 2, .i2l, .jsr_w 0, .aload 0, .getfield 3157, .iload 1, .iaload, .iconst 1, .isub, .i2l], .invokeinterface 246 3), ([], .ifCond .eq 5), ([.iconst 1], .goto 6), ([.iconst 0], .nop), ([], .invokeinterface 247 1538), ([], .ifCond .eq 9), ([.aload 0, .getfield 3151, .aload 0, .getfield 3156, .iload 1, .iaload, .iload 2, .iadd, .iaload], .goto 10), ([.iconst 0], .nop), ([], .ireturn)]
def am_p458 : List Nat := [0, 13, 19, 34, 37, 41, 42, 45, 48, 64, 65]
/-- X20_servedWell -/
def am_k459 : List (List Instr × Instr) := [([.iconst 0, .istore 1, .iconst 0, .istore 2], .nop), ([.iload 2, .aload 0, .getfield 3161], .if_icmp .ge 6), ([.iload 1, .aload 0, .getfield 3155, .iload 2, .iaload, .iconst 400], .if_icmp .ge 4), ([.iconst 1], .goto 5), ([.iconst 0], .nop), ([.iadd, .istore 1, .iinc 2 1], .goto 1), ([.iload 1], .ireturn)]
def am_p459 : List Nat := [0, 4, 12, 25, 29, 30, 38]
/-- X20_count -/
def am_k460 : List (List Instr × Instr) := [([.aload 0, .iload 1, .i2l, .jsr_w 0, .jsr_w 15], .invokeinterface 246 3), ([], .invokeinterface 247 1538), ([], .ifCond .ne 4), ([.iconst 0], .ireturn), ([.iload 1], .tableswitch 14 0 13 #[5, 6, 14, 14, 14, 14, 7, 7, 9, 10, 11, 12, 7, 7]), ([.aload 0, .getfield 3073], .ireturn), ([.aload 0, .getfield 3074], .ireturn), ([.aload 0, .iload 1], .invokeinterface 394 1538), ([], .ireturn), ([.aload 0, .getfield 3140, .iconst 0, .iaload], .ireturn), ([.aload 0, .getfield 3141, .iconst 0, .iaload], .ireturn), ([.aload 0, .getfield 3161], .ireturn), ([.aload 0], .invokeinterface 459 1537), ([], .ireturn), ([.aload 0, .iload 1], .invokeinterface 333 1538), ([], .ireturn)]
def am_p460 : List Nat := [0, 10, 13, 16, 18, 88, 93, 98, 103, 104, 111, 118, 123, 127, 128, 133]
/-- X20_isSameRequest -/
def am_k461 : List (List Instr × Instr) := [([.aload 0, .aload 0, .getfield 3153, .iload 1, .iaload], .invokeinterface 385 1538), ([.istore 2, .iload 2, .iconst (-1)], .if_icmp .ne 3), ([.iconst 0], .ireturn), ([.aload 0, .iconst 60], .invokeinterface 398 1538), ([.iconst 0, .istore 3], .nop), ([.iload 3], .ifCond .ne 11), ([.aload 0, .getfield 3166, .iload 2, .iaload, .aload 0, .iload 2], .invokeinterface 381 1538), ([], .if_icmp .ge 11), ([.aload 0, .iconst 60, .aload 0, .iload 2, .aload 0, .getfield 3166, .iload 2, .iaload], .invokeinterface 382 1539), ([], .invokeinterface 405 1539), ([.istore 3, .aload 0, .getfield 3166, .iload 2, .dup2, .iaload, .iconst 1, .iadd, .iastore], .goto 5), ([.iload 3], .ifCond .eq 13), ([.aload 0, .getfield 3111, .iconst 60, .iaload, .aload 0, .getfield 3158, .iload 1, .iaload], .if_icmp .eq 14), ([.iconst 0], .ireturn), ([.aload 0, .getfield 3152, .istore 4, .aload 0, .iconst 60, .iconst 1, .iload 3], .invokeinterface 450 1540), ([.istore 5, .iload 5, .aload 0, .getfield 3155, .iload 1, .iaload], .if_icmp .ne 18), ([.aload 0, .getfield 3152, .iload 4, .isub, .aload 0, .getfield 3157, .iload 1, .iaload], .if_icmp .ne 18), ([.iconst 1], .goto 19), ([.iconst 0], .nop), ([.istore 6, .iconst 0, .istore 7], .nop), ([.iload 6], .ifCond .eq 26), ([.iload 7, .aload 0, .getfield 3157, .iload 1, .iaload], .if_icmp .ge 26), ([.aload 0, .getfield 3151, .iload 4, .iload 7, .iadd, .iaload, .aload 0, .getfield 3151, .aload 0, .getfield 3156, .iload 1, .iaload, .iload 7, .iadd, .iaload], .if_icmp .ne 24), ([.iconst 1], .goto 25), ([.iconst 0], .nop), ([.istore 6, .iinc 7 1], .goto 20), ([.aload 0, .iload 4, .putfield 3152, .iload 6], .ifCond .eq 30), ([.aload 0, .iload 2, .iload 1], .invokeinterface 462 1539), ([], .ifCond .eq 30), ([.iconst 1], .goto 31), ([.iconst 0], .nop), ([], .ireturn)]
def am_p461 : List Nat := [0, 10, 16, 18, 24, 26, 30, 41, 44, 58, 61, 75, 79, 95, 97, 111, 124, 140, 144, 145, 150, 155, 166, 193, 197, 198, 206, 217, 223, 226, 230, 231]
/-- X20_isReadAsAnswered -/
def am_k462 : List (List Instr × Instr) := [([.iconst 1, .istore 3, .iconst 0, .istore 4], .nop), ([.iload 3], .ifCond .eq 10), ([.iload 4, .aload 0, .getfield 3157, .iload 2, .iaload], .if_icmp .ge 10), ([.aload 0, .getfield 3167, .iload 1, .iaload, .aload 0, .iload 1], .invokeinterface 383 1538), ([], .if_icmp .ge 10), ([.aload 0, .iload 1, .aload 0, .getfield 3167, .iload 1, .iaload], .invokeinterface 384 1539), ([.aload 0, .getfield 3151, .aload 0, .getfield 3156, .iload 2, .iaload, .iload 4, .iadd, .iaload], .if_icmp .ne 8), ([.iconst 1], .goto 9), ([.iconst 0], .nop), ([.istore 3, .aload 0, .getfield 3167, .iload 1, .dup2, .iaload, .iconst 1, .iadd, .iastore, .iinc 4 1], .goto 1), ([.iload 3], .ireturn)]
def am_p462 : List Nat := [0, 5, 9, 20, 31, 34, 45, 62, 66, 67, 84]
/-- X20_areFilesAlike -/
def am_k463 : List (List Instr × Instr) := [([.aload 0, .getfield 3140, .iconst 0, .iaload, .aload 0, .getfield 3140, .iconst 1, .iaload], .if_icmp .ne 3), ([.aload 0, .getfield 3141, .iconst 0, .iaload, .aload 0, .getfield 3141, .iconst 1, .iaload], .if_icmp .ne 3), ([.iconst 1], .goto 4), ([.iconst 0], .nop), ([.istore 1, .iconst 0, .istore 2], .nop), ([.iload 1], .ifCond .eq 27), ([.iload 2, .aload 0, .getfield 3140, .iconst 0, .iaload], .if_icmp .ge 27), ([.aload 0, .getfield 3142, .iload 2, .iaload, .aload 0, .getfield 3142, .iconst 8, .iload 2, .iadd, .iaload], .if_icmp .ne 11), ([.aload 0, .getfield 3144, .iload 2, .iaload, .aload 0, .getfield 3144, .iconst 8, .iload 2, .iadd, .iaload], .if_icmp .ne 11), ([.aload 0, .getfield 3145, .iload 2, .iaload, .aload 0, .getfield 3145, .iconst 8, .iload 2, .iadd, .iaload], .if_icmp .ne 11), ([.iconst 1], .goto 12), ([.iconst 0], .nop), ([.istore 1, .iconst 0, .istore 3], .nop), ([.iload 1], .ifCond .eq 19), ([.iload 3, .aload 0, .getfield 3142, .iload 2, .iaload], .if_icmp .ge 19), ([.aload 0, .getfield 3143, .iconst 13, .iload 2, .imul, .iload 3, .iadd, .iaload, .aload 0, .getfield 3143, .iconst 13, .iconst 8, .iload 2, .iadd, .imul, .iload 3, .iadd, .iaload], .if_icmp .ne 17), ([.iconst 1], .goto 18), ([.iconst 0], .nop), ([.istore 1, .iinc 3 1], .goto 13), ([.iconst 0, .istore 3], .nop), ([.iload 1], .ifCond .eq 26), ([.iload 3, .aload 0, .getfield 3144, .iload 2, .iaload], .if_icmp .ge 26), ([.aload 0, .getfield 3146, .iconst 300, .iload 2, .imul, .iload 3, .iadd, .iaload, .aload 0, .getfield 3146, .iconst 300, .iconst 8, .iload 2, .iadd, .imul, .iload 3, .iadd, .iaload], .if_icmp .ne 24), ([.iconst 1], .goto 25), ([.iconst 0], .nop), ([.istore 1, .iinc 3 1], .goto 20), ([.iinc 2 1], .goto 5), ([.iload 1], .ireturn)]
def am_p463 : List Nat := [0, 15, 30, 34, 35, 38, 42, 52, 70, 88, 106, 110, 111, 114, 118, 128, 156, 160, 161, 168, 170, 174, 184, 214, 218, 219, 226, 232]
/-- X20_agrees -/
def am_k464 : List (List Instr × Instr) := [([.aload 0, .iconst 0, .putfield 3072, .aload 0, .getfield 3140, .iconst 1, .iconst 0, .iastore, .aload 0, .getfield 3141, .iconst 1, .iconst 0, .iastore, .iconst 0, .istore 1], .nop), ([.iload 1, .aload 0, .getfield 3097], .if_icmp .ge 3), ([.aload 0, .getfield 3166, .iload 1, .iconst 0, .iastore, .aload 0, .getfield 3167, .iload 1, .iconst 0, .iastore, .iinc 1 1], .goto 1), ([.iconst 1, .istore 1, .iconst 0, .istore 2], .nop), ([.iload 1], .ifCond .eq 8), ([.iload 2, .aload 0, .getfield 3161], .if_icmp .ge 8), ([.aload 0, .iload 2], .invokeinterface 461 1538), ([.istore 1, .iinc 2 1], .goto 4), ([.iconst 0, .istore 2], .nop), ([.iload 1], .ifCond .eq 18), ([.iload 2, .aload 0, .getfield 3097], .if_icmp .ge 18), ([.aload 0, .iload 2], .invokeinterface 380 1538), ([], .ifCond .eq 15), ([.aload 0, .getfield 3167, .iload 2, .iaload, .aload 0, .iload 2], .invokeinterface 383 1538), ([], .if_icmp .ne 16), ([.iconst 1], .goto 17), ([.iconst 0], .nop), ([.istore 1, .iinc 2 1], .goto 9), ([.iload 1], .ifCond .eq 22), ([.aload 0], .invokeinterface 463 1537), ([], .ifCond .eq 22), ([.iconst 1], .goto 23), ([.iconst 0], .nop), ([], .ireturn)]
def am_p464 : List Nat := [0, 21, 29, 49, 53, 57, 65, 70, 77, 79, 83, 91, 96, 99, 110, 113, 117, 118, 125, 129, 133, 136, 140, 141]
/-- X20_errors -/
def am_k465 : List (List Instr × Instr) := [([.aload 0, .iconst 0, .putfield 3072, .aload 0], .invokeinterface 304 1537), ([.aload 0], .invokeinterface 395 1537), ([.iadd], .ireturn)]
def am_p465 : List Nat := [0, 9, 13]
/-- X20_deliveredShare -/
def am_k466 : List (List Instr × Instr) := [([.aload 0, .iconst 0, .putfield 3072, .aload 0, .getfield 3082, .jsr_w 0, .lcmp], .ifCond .ne 2), ([.dconst 0], .goto 3), ([.aload 0, .getfield 3083, .l2d, .aload 0, .getfield 3082, .l2d, .ddiv], .nop), ([], .dreturn)]
def am_p466 : List Nat := [0, 14, 18, 29]
/-- X20_meanAnswer -/
def am_k467 : List (List Instr × Instr) := [([.aload 0, .iconst 0, .putfield 3072, .iconst 0, .istore 1, .iconst 0, .istore 2], .nop), ([.iload 2, .aload 0, .getfield 3161], .if_icmp .ge 3), ([.iload 1, .aload 0, .getfield 3157, .iload 2, .iaload, .iadd, .istore 1, .iinc 2 1], .goto 1), ([.aload 0, .getfield 3161], .ifCond .ne 5), ([.fconst 0], .goto 6), ([.iload 1, .i2f, .aload 0, .getfield 3161, .i2f, .fdiv], .nop), ([], .freturn)]
def am_p467 : List Nat := [0, 9, 17, 32, 39, 43, 51]
/-- L_type -/
def am_k468 : List (List Instr × Instr) := [([.aload 13, .iconst 0, .aload 0, .lload 1, .lload 3, .lload 5, .lload 7, .lload 9, .lload 11], .invokeinterface 152 967), ([.i2l, .lastore], .goto 4), ([.astore 14], .nop), ([.iconst 1], .ireturn), ([.iconst 0], .ireturn)]
def am_p468 : List Nat := [0, 17, 22, 24, 26]
/-- L_put -/
def am_k469 : List (List Instr × Instr) := [([.aload 3, .iconst 0, .aload 0, .iload 1, .iload 2], .invokeinterface 153 963), ([.i2l, .lastore], .goto 6), ([.astore 4], .nop), ([.iconst 1], .ireturn), ([.astore 4], .nop), ([.iconst 2], .ireturn), ([.iconst 0], .ireturn)]
def am_p469 : List Nat := [0, 8, 13, 15, 17, 19, 21]
/-- L_piece -/
def am_k470 : List (List Instr × Instr) := [([.aload 2, .iconst 0, .aload 0, .iload 1], .invokeinterface 154 962), ([.i2l, .lastore], .goto 6), ([.astore 3], .nop), ([.iconst 1], .ireturn), ([.astore 3], .nop), ([.iconst 2], .ireturn), ([.iconst 0], .ireturn)]
def am_p470 : List Nat := [0, 7, 12, 13, 15, 16, 18]
/-- L_sum -/
def am_k471 : List (List Instr × Instr) := [([.aload 3, .iconst 0, .aload 0, .iload 1, .iload 2], .invokeinterface 156 963), ([.i2l, .lastore], .goto 4), ([.astore 4], .nop), ([.iconst 1], .ireturn), ([.iconst 0], .ireturn)]
def am_p471 : List Nat := [0, 8, 13, 15, 17]
/-- L_addHost -/
def am_k472 : List (List Instr × Instr) := [([.aload 3, .iconst 0, .aload 0, .iload 1, .iload 2], .invokeinterface 157 963), ([.i2l, .lastore], .goto 6), ([.astore 4], .nop), ([.iconst 1], .ireturn), ([.astore 4], .nop), ([.iconst 2], .ireturn), ([.iconst 0], .ireturn)]
def am_p472 : List Nat := [0, 8, 13, 15, 17, 19, 21]
/-- L_setMtu -/
def am_k473 : List (List Instr × Instr) := [([.aload 3, .iconst 0, .aload 0, .iload 1, .iload 2], .invokeinterface 158 963), ([.i2l, .lastore], .goto 6), ([.astore 4], .nop), ([.iconst 1], .ireturn), ([.astore 4], .nop), ([.iconst 2], .ireturn), ([.iconst 0], .ireturn)]
def am_p473 : List Nat := [0, 8, 13, 15, 17, 19, 21]
/-- L_hostAt -/
def am_k474 : List (List Instr × Instr) := [([.aload 3, .iconst 0, .aload 0, .iload 1, .iload 2], .invokeinterface 159 963), ([.i2l, .lastore], .goto 6), ([.astore 4], .nop), ([.iconst 1], .ireturn), ([.astore 4], .nop), ([.iconst 2], .ireturn), ([.iconst 0], .ireturn)]
def am_p474 : List Nat := [0, 8, 13, 15, 17, 19, 21]
/-- L_tableAt -/
def am_k475 : List (List Instr × Instr) := [([.aload 3, .iconst 0, .aload 0, .iload 1, .iload 2], .invokeinterface 160 963), ([.i2l, .lastore], .goto 4), ([.astore 4], .nop), ([.iconst 1], .ireturn), ([.iconst 0], .ireturn)]
def am_p475 : List Nat := [0, 8, 13, 15, 17]
/-- L_deliver -/
def am_k476 : List (List Instr × Instr) := [([.aload 2, .iconst 0, .aload 0, .iload 1], .invokeinterface 161 962), ([.i2l, .lastore], .goto 4), ([.astore 3], .nop), ([.iconst 1], .ireturn), ([.iconst 0], .ireturn)]
def am_p476 : List Nat := [0, 7, 12, 13, 15]
/-- L_lose -/
def am_k477 : List (List Instr × Instr) := [([.aload 2, .iconst 0, .aload 0, .iload 1], .invokeinterface 162 962), ([.i2l, .lastore], .goto 4), ([.astore 3], .nop), ([.iconst 1], .ireturn), ([.iconst 0], .ireturn)]
def am_p477 : List Nat := [0, 7, 12, 13, 15]
/-- L_twice -/
def am_k478 : List (List Instr × Instr) := [([.aload 2, .iconst 0, .aload 0, .iload 1], .invokeinterface 163 962), ([.i2l, .lastore], .goto 4), ([.astore 3], .nop), ([.iconst 1], .ireturn), ([.iconst 0], .ireturn)]
def am_p478 : List Nat := [0, 7, 12, 13, 15]
/-- L_spoil -/
def am_k479 : List (List Instr × Instr) := [([.aload 4, .iconst 0, .aload 0, .iload 1, .iload 2, .iload 3], .invokeinterface 164 964), ([.i2l, .lastore], .goto 4), ([.astore 5], .nop), ([.iconst 1], .ireturn), ([.iconst 0], .ireturn)]
def am_p479 : List Nat := [0, 10, 15, 17, 19]
/-- L_frameAt -/
def am_k480 : List (List Instr × Instr) := [([.aload 3, .iconst 0, .aload 0, .iload 1, .iload 2], .invokeinterface 165 963), ([.i2l, .lastore], .goto 6), ([.astore 4], .nop), ([.iconst 1], .ireturn), ([.astore 4], .nop), ([.iconst 2], .ireturn), ([.iconst 0], .ireturn)]
def am_p480 : List Nat := [0, 8, 13, 15, 17, 19, 21]
/-- L_byteAt -/
def am_k481 : List (List Instr × Instr) := [([.aload 3, .iconst 0, .aload 0, .iload 1, .iload 2], .invokeinterface 166 963), ([.i2l, .lastore], .goto 4), ([.astore 4], .nop), ([.iconst 1], .ireturn), ([.iconst 0], .ireturn)]
def am_p481 : List Nat := [0, 8, 13, 15, 17]
/-- L_pass -/
def am_k482 : List (List Instr × Instr) := [([.aload 2, .iconst 0, .aload 0, .iload 1], .invokeinterface 167 962), ([.i2l, .lastore], .goto 6), ([.astore 3], .nop), ([.iconst 1], .ireturn), ([.astore 3], .nop), ([.iconst 2], .ireturn), ([.iconst 0], .ireturn)]
def am_p482 : List Nat := [0, 7, 12, 13, 15, 16, 18]
/-- L_settle -/
def am_k483 : List (List Instr × Instr) := [([.aload 2, .iconst 0, .aload 0, .iload 1], .invokeinterface 168 962), ([.i2l, .lastore], .goto 6), ([.astore 3], .nop), ([.iconst 1], .ireturn), ([.astore 3], .nop), ([.iconst 2], .ireturn), ([.iconst 0], .ireturn)]
def am_p483 : List Nat := [0, 7, 12, 13, 15, 16, 18]
/-- L_play -/
def am_k484 : List (List Instr × Instr) := [([.aload 3, .iconst 0, .aload 0, .iload 1, .iload 2], .invokeinterface 169 963), ([.i2l, .lastore], .goto 6), ([.astore 4], .nop), ([.iconst 1], .ireturn), ([.astore 4], .nop), ([.iconst 2], .ireturn), ([.iconst 0], .ireturn)]
def am_p484 : List Nat := [0, 8, 13, 15, 17, 19, 21]
/-- L_echo -/
def am_k485 : List (List Instr × Instr) := [([.aload 4, .iconst 0, .aload 0, .iload 1, .iload 2, .iload 3], .invokeinterface 170 964), ([.i2l, .lastore], .goto 8), ([.astore 5], .nop), ([.iconst 1], .ireturn), ([.astore 5], .nop), ([.iconst 2], .ireturn), ([.astore 5], .nop), ([.iconst 3], .ireturn), ([.iconst 0], .ireturn)]
def am_p485 : List Nat := [0, 10, 15, 17, 19, 21, 23, 25, 27]
/-- L_isAnswered -/
def am_k486 : List (List Instr × Instr) := [([.aload 2, .iconst 0, .aload 0, .iload 1], .invokeinterface 171 962), ([], .ifCond .eq 3), ([.jsr_w 1], .goto 4), ([.jsr_w 0], .nop), ([.lastore], .goto 7), ([.astore 3], .nop), ([.iconst 1], .ireturn), ([.iconst 0], .ireturn)]
def am_p486 : List Nat := [0, 7, 10, 14, 15, 19, 20, 22]
/-- L_name -/
def am_k487 : List (List Instr × Instr) := [([.aload 2, .iconst 0, .aload 0, .iload 1], .invokeinterface 172 962), ([.i2l, .lastore], .goto 6), ([.astore 3], .nop), ([.iconst 1], .ireturn), ([.astore 3], .nop), ([.iconst 2], .ireturn), ([.iconst 0], .ireturn)]
def am_p487 : List Nat := [0, 7, 12, 13, 15, 16, 18]
/-- L_lookUp -/
def am_k488 : List (List Instr × Instr) := [([.aload 2, .iconst 0, .aload 0, .iload 1], .invokeinterface 173 962), ([.i2l, .lastore], .goto 8), ([.astore 3], .nop), ([.iconst 1], .ireturn), ([.astore 3], .nop), ([.iconst 2], .ireturn), ([.astore 3], .nop), ([.iconst 3], .ireturn), ([.iconst 0], .ireturn)]
def am_p488 : List Nat := [0, 7, 12, 13, 15, 16, 18, 19, 21]
/-- L_askAgain -/
def am_k489 : List (List Instr × Instr) := [([.aload 0, .iload 1], .invokeinterface 174 962), ([], .goto 6), ([.astore 2], .nop), ([.iconst 1], .ireturn), ([.astore 2], .nop), ([.iconst 2], .ireturn), ([.iconst 0], .ireturn)]
def am_p489 : List Nat := [0, 5, 8, 9, 11, 12, 14]
/-- L_found -/
def am_k490 : List (List Instr × Instr) := [([.aload 2, .iconst 0, .aload 0, .iload 1], .invokeinterface 175 962), ([.i2l, .lastore], .goto 4), ([.astore 3], .nop), ([.iconst 1], .ireturn), ([.iconst 0], .ireturn)]
def am_p490 : List Nat := [0, 7, 12, 13, 15]
/-- L_connect -/
def am_k491 : List (List Instr × Instr) := [([.aload 4, .iconst 0, .aload 0, .iload 1, .iload 2, .iload 3], .invokeinterface 176 964), ([.i2l, .lastore], .goto 8), ([.astore 5], .nop), ([.iconst 1], .ireturn), ([.astore 5], .nop), ([.iconst 2], .ireturn), ([.astore 5], .nop), ([.iconst 3], .ireturn), ([.iconst 0], .ireturn)]
def am_p491 : List Nat := [0, 10, 15, 17, 19, 21, 23, 25, 27]
/-- L_write -/
def am_k492 : List (List Instr × Instr) := [([.aload 2, .iconst 0, .aload 0, .iload 1], .invokeinterface 177 962), ([.i2l, .lastore], .goto 6), ([.astore 3], .nop), ([.iconst 1], .ireturn), ([.astore 3], .nop), ([.iconst 2], .ireturn), ([.iconst 0], .ireturn)]
def am_p492 : List Nat := [0, 7, 12, 13, 15, 16, 18]
/-- L_read -/
def am_k493 : List (List Instr × Instr) := [([.aload 3, .iconst 0, .aload 0, .iload 1, .iload 2], .invokeinterface 178 963), ([.i2l, .lastore], .goto 8), ([.astore 4], .nop), ([.iconst 1], .ireturn), ([.astore 4], .nop), ([.iconst 2], .ireturn), ([.astore 4], .nop), ([.iconst 3], .ireturn), ([.iconst 0], .ireturn)]
def am_p493 : List Nat := [0, 8, 13, 15, 17, 19, 21, 23, 25]
/-- L_readAt -/
def am_k494 : List (List Instr × Instr) := [([.aload 3, .iconst 0, .aload 0, .iload 1, .iload 2], .invokeinterface 179 963), ([.i2l, .lastore], .goto 4), ([.astore 4], .nop), ([.iconst 1], .ireturn), ([.iconst 0], .ireturn)]
def am_p494 : List Nat := [0, 8, 13, 15, 17]
/-- L_close -/
def am_k495 : List (List Instr × Instr) := [([.aload 3, .iconst 0, .aload 0, .iload 1, .iload 2], .invokeinterface 180 963), ([.i2l, .lastore], .goto 6), ([.astore 4], .nop), ([.iconst 1], .ireturn), ([.astore 4], .nop), ([.iconst 2], .ireturn), ([.iconst 0], .ireturn)]
def am_p495 : List Nat := [0, 8, 13, 15, 17, 19, 21]
/-- L_connectionAt -/
def am_k496 : List (List Instr × Instr) := [([.aload 3, .iconst 0, .aload 0, .iload 1, .iload 2], .invokeinterface 181 963), ([.i2l, .lastore], .goto 6), ([.astore 4], .nop), ([.iconst 1], .ireturn), ([.astore 4], .nop), ([.iconst 2], .ireturn), ([.iconst 0], .ireturn)]
def am_p496 : List Nat := [0, 8, 13, 15, 17, 19, 21]
/-- L_fileAt -/
def am_k497 : List (List Instr × Instr) := [([.aload 3, .iconst 0, .aload 0, .iload 1, .iload 2], .invokeinterface 182 963), ([.i2l, .lastore], .goto 6), ([.astore 4], .nop), ([.iconst 1], .ireturn), ([.astore 4], .nop), ([.iconst 2], .ireturn), ([.iconst 0], .ireturn)]
def am_p497 : List Nat := [0, 8, 13, 15, 17, 19, 21]
/-- L_fileByteAt -/
def am_k498 : List (List Instr × Instr) := [([.aload 4, .iconst 0, .aload 0, .iload 1, .iload 2, .iload 3], .invokeinterface 183 964), ([.i2l, .lastore], .goto 4), ([.astore 5], .nop), ([.iconst 1], .ireturn), ([.iconst 0], .ireturn)]
def am_p498 : List Nat := [0, 10, 15, 17, 19]
/-- L_servedAt -/
def am_k499 : List (List Instr × Instr) := [([.aload 3, .iconst 0, .aload 0, .iload 1, .iload 2], .invokeinterface 184 963), ([.i2l, .lastore], .goto 6), ([.astore 4], .nop), ([.iconst 1], .ireturn), ([.astore 4], .nop), ([.iconst 2], .ireturn), ([.iconst 0], .ireturn)]
def am_p499 : List Nat := [0, 8, 13, 15, 17, 19, 21]
/-- L_answerAt -/
def am_k500 : List (List Instr × Instr) := [([.aload 3, .iconst 0, .aload 0, .iload 1, .iload 2], .invokeinterface 185 963), ([.i2l, .lastore], .goto 4), ([.astore 4], .nop), ([.iconst 1], .ireturn), ([.iconst 0], .ireturn)]
def am_p500 : List Nat := [0, 8, 13, 15, 17]
/-- L_count -/
def am_k501 : List (List Instr × Instr) := [([.aload 2, .iconst 0, .aload 0, .iload 1], .invokeinterface 186 962), ([.i2l, .lastore], .goto 4), ([.astore 3], .nop), ([.iconst 1], .ireturn), ([.iconst 0], .ireturn)]
def am_p501 : List Nat := [0, 7, 12, 13, 15]
/-- Jx4a65c_grow_d5877 -/
def am_k504 : List (List Instr × Instr) := [([.aload 0, .aload 0, .getfield 386, .iconst 1, .iadd], .invokeinterface 503 194), ([], .areturn)]
def am_p504 : List Nat := [0, 10]
/-- Jx4a65c_size_8abf5 -/
def am_k505 : List (List Instr × Instr) := [([.aload 0, .getfield 386], .ireturn)]
def am_p505 : List Nat := [0]
/-- Jx4a65c_elementData_915e3 -/
def am_k506 : List (List Instr × Instr) := [([.aload 0, .getfield 385, .iload 1, .aaload], .areturn)]
def am_p506 : List Nat := [0]
/-- Jx4a65c_get_915e3 -/
def am_k507 : List (List Instr × Instr) := [([.iload 1, .aload 0, .getfield 386], .invokeinterface 512 2), ([.pop, .aload 0, .iload 1], .invokeinterface 506 194), ([], .areturn)]
def am_p507 : List Nat := [0, 8, 14]
/-- Jx4a65c_add_72be8 -/
def am_k508 : List (List Instr × Instr) := [([.iload 3, .aload 2, .arraylength], .if_icmp .ne 3), ([.aload 0], .invokeinterface 504 193), ([.astore 2], .nop), ([.aload 2, .iload 3, .aload 1, .aastore, .aload 0, .iload 3, .iconst 1, .iadd, .putfield 386], .return_)]
def am_p508 : List Nat := [0, 6, 10, 11]
/-- Jxa1e45_init_da8c8 -/
def am_k511 : List (List Instr × Instr) := [([.aload 0, .invokedynamic 0], .return_)]
def am_p511 : List Nat := [0]
/-- J15_checkIndex_7cf53 -/
def am_k512 : List (List Instr × Instr) := [([.iload 0, .iload 1, .aconst_null], .invokeinterface 513 3), ([], .ireturn)]
def am_p512 : List Nat := [0, 6]
/-- J7_fill_fda19 -/
def am_k517 : List (List Instr × Instr) := [([.aload 0, .arraylength, .iload 1, .iload 2], .invokeinterface 516 3), ([.iload 1, .istore 4], .nop), ([.iload 4, .iload 2], .if_icmp .ge 4), ([.aload 0, .iload 4, .iload 3, .iastore, .iinc 4 1], .goto 2), ([], .return_)]
def am_p517 : List Nat := [0, 7, 10, 16, 27]
/-- J7_copyOfRangeByte_39247 -/
def am_k525 : List (List Instr × Instr) := [([.iload 1, .iload 2], .invokeinterface 523 2), ([.iload 2, .iload 1, .isub, .istore 3, .iload 3, .newarray .byte, .astore 4, .aload 0, .iload 1, .aload 4, .iconst 0, .aload 0, .arraylength, .iload 1, .isub, .iload 3, .jsr 0], .invokeinterface 900 5), ([.aload 4], .areturn)]
def am_p525 : List Nat := [0, 5, 30]
/-- J0_init_81219 -/
def am_k526 : List (List Instr × Instr) := [([.aload 0, .aload 1, .aconst_null], .invokeinterface 530 3), ([], .return_)]
def am_p526 : List Nat := [0, 6]
/-- J0_length_8abf5 -/
def am_k527 : List (List Instr × Instr) := [([.aload 0, .getfield 0, .arraylength, .aload 0], .invokeinterface 531 1), ([.ishr], .ireturn)]
def am_p527 : List Nat := [0, 9]
/-- J0_getBytes_840e7 -/
def am_k529 : List (List Instr × Instr) := [([.aload 0], .invokeinterface 531 1), ([.iload 3], .if_icmp .ne 4), ([.aload 0, .getfield 0, .iconst 0, .aload 1, .iload 2, .iload 3, .ishl, .aload 0, .getfield 0, .arraylength], .invokeinterface 900 5), ([], .goto 5), ([.aload 0, .getfield 0, .iconst 0, .aload 1, .iload 2, .aload 0, .getfield 0, .arraylength], .invokeinterface 537 5), ([], .return_)]
def am_p529 : List Nat := [0, 4, 8, 25, 28, 43]
/-- J9_abs_0f7a4 -/
def am_k538 : List (List Instr × Instr) := [([.iload 0], .ifCond .ge 2), ([.iload 0, .ineg], .goto 3), ([.iload 0], .nop), ([], .ireturn)]
def am_p538 : List Nat := [0, 4, 9, 10]
/-- J9_max_7cf53 -/
def am_k539 : List (List Instr × Instr) := [([.iload 0, .iload 1], .if_icmp .lt 2), ([.iload 0], .goto 3), ([.iload 1], .nop), ([], .ireturn)]
def am_p539 : List Nat := [0, 5, 9, 10]
/-- J9_min_7cf53 -/
def am_k540 : List (List Instr × Instr) := [([.iload 0, .iload 1], .if_icmp .gt 2), ([.iload 0], .goto 3), ([.iload 1], .nop), ([], .ireturn)]
def am_p540 : List Nat := [0, 5, 9, 10]
def am_cds5_0 : List am_Cd := [(412, am_k412, am_p412, []), (413, am_k413, am_p413, []), (414, am_k414, am_p414, []), (415, am_k415, am_p415, []), (416, am_k416, am_p416, []), (417, am_k417, am_p417, []), (418, am_k418, am_p418, []), (419, am_k419, am_p419, []), (420, am_k420, am_p420, [])]
theorem am_ckL5_0 : am_cds5_0.all am_ckL = true := by decide +kernel
def am_cds5_1 : List am_Cd := [(421, am_k421, am_p421, []), (422, am_k422, am_p422, []), (423, am_k423, am_p423, []), (424, am_k424, am_p424, []), (425, am_k425, am_p425, []), (426, am_k426, am_p426, []), (427, am_k427, am_p427, []), (428, am_k428, am_p428, []), (429, am_k429, am_p429, []), (430, am_k430, am_p430, []), (431, am_k431, am_p431, [])]
theorem am_ckL5_1 : am_cds5_1.all am_ckL = true := by decide +kernel
def am_cds5_2 : List am_Cd := [(432, am_k432, am_p432, []), (433, am_k433, am_p433, []), (434, am_k434, am_p434, []), (435, am_k435, am_p435, []), (436, am_k436, am_p436, []), (437, am_k437, am_p437, []), (438, am_k438, am_p438, []), (439, am_k439, am_p439, []), (440, am_k440, am_p440, []), (441, am_k441, am_p441, []), (442, am_k442, am_p442, []), (443, am_k443, am_p443, []), (444, am_k444, am_p444, []), (445, am_k445, am_p445, []), (446, am_k446, am_p446, [])]
theorem am_ckL5_2 : am_cds5_2.all am_ckL = true := by decide +kernel
def am_cds5_3 : List am_Cd := [(447, am_k447, am_p447, []), (448, am_k448, am_p448, []), (449, am_k449, am_p449, []), (450, am_k450, am_p450, []), (451, am_k451, am_p451, []), (452, am_k452, am_p452, []), (453, am_k453, am_p453, []), (454, am_k454, am_p454, []), (455, am_k455, am_p455, [])]
theorem am_ckL5_3 : am_cds5_3.all am_ckL = true := by decide +kernel
def am_cds5_4 : List am_Cd := [(456, am_k456, am_p456, []), (457, am_k457, am_p457, []), (458, am_k458, am_p458, []), (459, am_k459, am_p459, []), (460, am_k460, am_p460, []), (461, am_k461, am_p461, []), (462, am_k462, am_p462, []), (463, am_k463, am_p463, []), (464, am_k464, am_p464, []), (465, am_k465, am_p465, []), (466, am_k466, am_p466, [])]
theorem am_ckL5_4 : am_cds5_4.all am_ckL = true := by decide +kernel
def am_cds5_5 : List am_Cd := [(467, am_k467, am_p467, []), (468, am_k468, am_p468, [(0, 0, 206)]), (469, am_k469, am_p469, [(0, 1, 196), (0, 0, 324)]), (470, am_k470, am_p470, [(0, 1, 195), (0, 0, 323)]), (471, am_k471, am_p471, [(0, 2, 196)]), (472, am_k472, am_p472, [(0, 1, 196), (0, 0, 324)]), (473, am_k473, am_p473, [(0, 2, 196), (0, 1, 324)]), (474, am_k474, am_p474, [(0, 2, 196), (0, 1, 324)]), (475, am_k475, am_p475, [(0, 2, 196)]), (476, am_k476, am_p476, [(0, 1, 195)]), (477, am_k477, am_p477, [(0, 1, 195)]), (478, am_k478, am_p478, [(0, 1, 195)]), (479, am_k479, am_p479, [(0, 1, 197)]), (480, am_k480, am_p480, [(0, 2, 196), (0, 1, 324)]), (481, am_k481, am_p481, [(0, 2, 196)]), (482, am_k482, am_p482, [(0, 1, 195), (0, 0, 323)]), (483, am_k483, am_p483, [(0, 1, 195), (0, 0, 323)]), (484, am_k484, am_p484, [(0, 1, 196), (0, 0, 324)]), (485, am_k485, am_p485, [(0, 2, 197), (0, 1, 325), (0, 0, 453)]), (486, am_k486, am_p486, [(0, 2, 387)]), (487, am_k487, am_p487, [(0, 2, 195), (0, 0, 323)]), (488, am_k488, am_p488, [(0, 2, 195), (0, 1, 323), (0, 0, 451)]), (489, am_k489, am_p489, [(0, 2, 194), (0, 0, 322)]), (490, am_k490, am_p490, [(0, 2, 195)]), (491, am_k491, am_p491, [(0, 2, 197), (0, 1, 325), (0, 0, 453)]), (492, am_k492, am_p492, [(0, 2, 195), (0, 0, 323)]), (493, am_k493, am_p493, [(0, 2, 196), (0, 1, 324), (0, 0, 452)]), (494, am_k494, am_p494, [(0, 2, 196)]), (495, am_k495, am_p495, [(0, 2, 196), (0, 0, 324)]), (496, am_k496, am_p496, [(0, 2, 196), (0, 1, 324)]), (497, am_k497, am_p497, [(0, 2, 196), (0, 1, 324)]), (498, am_k498, am_p498, [(0, 2, 197)]), (499, am_k499, am_p499, [(0, 2, 196), (0, 1, 324)]), (500, am_k500, am_p500, [(0, 2, 196)]), (501, am_k501, am_p501, [(0, 1, 195)]), (504, am_k504, am_p504, []), (505, am_k505, am_p505, []), (506, am_k506, am_p506, []), (507, am_k507, am_p507, []), (508, am_k508, am_p508, []), (511, am_k511, am_p511, []), (512, am_k512, am_p512, [])]
theorem am_ckL5_5 : am_cds5_5.all am_ckL = true := by decide +kernel
def am_cds5_6 : List am_Cd := [(517, am_k517, am_p517, []), (525, am_k525, am_p525, []), (526, am_k526, am_p526, []), (527, am_k527, am_p527, []), (529, am_k529, am_p529, []), (538, am_k538, am_p538, []), (539, am_k539, am_p539, []), (540, am_k540, am_p540, [])]
theorem am_ckL5_6 : am_cds5_6.all am_ckL = true := by decide +kernel
def am_cds5 : List am_Cd := am_cds5_0 ++ (am_cds5_1 ++ (am_cds5_2 ++ (am_cds5_3 ++ (am_cds5_4 ++ (am_cds5_5 ++ (am_cds5_6))))))
theorem am_ckL5 : am_cds5.all am_ckL = true := by simp only [am_cds5, List.all_append, am_ckL5_0, am_ckL5_1, am_ckL5_2, am_ckL5_3, am_ckL5_4, am_ckL5_5, am_ckL5_6, Bool.and_self]
end
