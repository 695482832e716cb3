section
/-- a private method of a class that the tables say can be made, by its rows of tables_1 -/
def lw_okq (q : MethodName × Nat) : Prop := (q.1.cls ≠ "java/lang/invoke/MethodHandle" ∧ q.1.cls ≠ "java/lang/invoke/VarHandle") ∧ Cond.instantiable q.1.cls q.2 ∈ tables_1 ∧ Cond.privateMethod q.1 ∈ tables_1 ∧ Cond.instanceMethod q.1 ∈ tables_1
theorem lw_p0 : lw_okq (⟨"java/util/ArrayList", "add", "(Ljava/lang/Object;[Ljava/lang/Object;I)V"⟩, 3) := ⟨⟨by decide +kernel, by decide +kernel⟩, List.mem_of_getElem? (i := 33) (by decide +kernel), List.mem_of_getElem? (i := 82) (by decide +kernel), List.mem_of_getElem? (i := 83) (by decide +kernel)⟩
theorem lw_p1 : lw_okq (⟨"java/util/ArrayList", "grow", "()[Ljava/lang/Object;"⟩, 3) := ⟨⟨by decide +kernel, by decide +kernel⟩, List.mem_of_getElem? (i := 33) (by decide +kernel), List.mem_of_getElem? (i := 86) (by decide +kernel), List.mem_of_getElem? (i := 87) (by decide +kernel)⟩
theorem lw_p2 : lw_okq (⟨"java/util/ArrayList", "grow", "(I)[Ljava/lang/Object;"⟩, 3) := ⟨⟨by decide +kernel, by decide +kernel⟩, List.mem_of_getElem? (i := 33) (by decide +kernel), List.mem_of_getElem? (i := 90) (by decide +kernel), List.mem_of_getElem? (i := 91) (by decide +kernel)⟩
theorem lw_p3 : lw_okq (⟨"Amendgrant", "sourceAt", "(I)LAmendgrant$Source;"⟩, 8) := ⟨⟨by decide +kernel, by decide +kernel⟩, List.mem_of_getElem? (i := 25) (by decide +kernel), List.mem_of_getElem? (i := 190) (by decide +kernel), List.mem_of_getElem? (i := 191) (by decide +kernel)⟩
theorem lw_p4 : lw_okq (⟨"java/lang/Throwable", "fillInStackTrace", "(I)Ljava/lang/Throwable;"⟩, 6) := ⟨⟨by decide +kernel, by decide +kernel⟩, List.mem_of_getElem? (i := 236) (by decide +kernel), List.mem_of_getElem? (i := 234) (by decide +kernel), List.mem_of_getElem? (i := 235) (by decide +kernel)⟩
theorem lw_p5 : lw_okq (⟨"Amendgrant", "lineAt", "(I)LAmendgrant$Line;"⟩, 8) := ⟨⟨by decide +kernel, by decide +kernel⟩, List.mem_of_getElem? (i := 25) (by decide +kernel), List.mem_of_getElem? (i := 351) (by decide +kernel), List.mem_of_getElem? (i := 352) (by decide +kernel)⟩
theorem lw_p6 : lw_okq (⟨"Amendgrant", "needRoomForAmendment", "()V"⟩, 8) := ⟨⟨by decide +kernel, by decide +kernel⟩, List.mem_of_getElem? (i := 25) (by decide +kernel), List.mem_of_getElem? (i := 377) (by decide +kernel), List.mem_of_getElem? (i := 378) (by decide +kernel)⟩
theorem lw_p7 : lw_okq (⟨"Amendgrant", "addAmendment", "(LAmendgrant$Amendment;LAmendgrant$Line;I)I"⟩, 8) := ⟨⟨by decide +kernel, by decide +kernel⟩, List.mem_of_getElem? (i := 25) (by decide +kernel), List.mem_of_getElem? (i := 382) (by decide +kernel), List.mem_of_getElem? (i := 383) (by decide +kernel)⟩
theorem lw_p8 : lw_okq (⟨"Amendgrant", "amendmentAt", "(I)LAmendgrant$Amendment;"⟩, 8) := ⟨⟨by decide +kernel, by decide +kernel⟩, List.mem_of_getElem? (i := 25) (by decide +kernel), List.mem_of_getElem? (i := 439) (by decide +kernel), List.mem_of_getElem? (i := 440) (by decide +kernel)⟩
theorem lw_p9 : lw_okq (⟨"Amendgrant", "isOneOpenOn", "(LAmendgrant$Amendment;)Z"⟩, 8) := ⟨⟨by decide +kernel, by decide +kernel⟩, List.mem_of_getElem? (i := 25) (by decide +kernel), List.mem_of_getElem? (i := 477) (by decide +kernel), List.mem_of_getElem? (i := 478) (by decide +kernel)⟩
theorem lw_p10 : lw_okq (⟨"Amendgrant", "makePassed", "(LAmendgrant$Amendment;)V"⟩, 8) := ⟨⟨by decide +kernel, by decide +kernel⟩, List.mem_of_getElem? (i := 25) (by decide +kernel), List.mem_of_getElem? (i := 491) (by decide +kernel), List.mem_of_getElem? (i := 492) (by decide +kernel)⟩
theorem lw_p11 : lw_okq (⟨"Amendgrant", "reckonWhatIsBrought", "()V"⟩, 8) := ⟨⟨by decide +kernel, by decide +kernel⟩, List.mem_of_getElem? (i := 25) (by decide +kernel), List.mem_of_getElem? (i := 495) (by decide +kernel), List.mem_of_getElem? (i := 496) (by decide +kernel)⟩
theorem lw_p12 : lw_okq (⟨"Amendgrant", "balance", "(LAmendgrant$Line;)I"⟩, 8) := ⟨⟨by decide +kernel, by decide +kernel⟩, List.mem_of_getElem? (i := 25) (by decide +kernel), List.mem_of_getElem? (i := 502) (by decide +kernel), List.mem_of_getElem? (i := 503) (by decide +kernel)⟩
theorem lw_p13 : lw_okq (⟨"Amendgrant", "freeOf", "(LAmendgrant$Line;)I"⟩, 8) := ⟨⟨by decide +kernel, by decide +kernel⟩, List.mem_of_getElem? (i := 25) (by decide +kernel), List.mem_of_getElem? (i := 506) (by decide +kernel), List.mem_of_getElem? (i := 507) (by decide +kernel)⟩
theorem lw_p14 : lw_okq (⟨"Amendgrant", "boundOf", "(LAmendgrant$Line;)I"⟩, 8) := ⟨⟨by decide +kernel, by decide +kernel⟩, List.mem_of_getElem? (i := 25) (by decide +kernel), List.mem_of_getElem? (i := 518) (by decide +kernel), List.mem_of_getElem? (i := 519) (by decide +kernel)⟩
theorem lw_p15 : lw_okq (⟨"Amendgrant", "makeFallen", "(LAmendgrant$Amendment;)I"⟩, 8) := ⟨⟨by decide +kernel, by decide +kernel⟩, List.mem_of_getElem? (i := 25) (by decide +kernel), List.mem_of_getElem? (i := 536) (by decide +kernel), List.mem_of_getElem? (i := 537) (by decide +kernel)⟩
def lw_privs_1 : List (MethodName × Nat) := [(⟨"java/util/ArrayList", "add", "(Ljava/lang/Object;[Ljava/lang/Object;I)V"⟩, 3), (⟨"java/util/ArrayList", "grow", "()[Ljava/lang/Object;"⟩, 3), (⟨"java/util/ArrayList", "grow", "(I)[Ljava/lang/Object;"⟩, 3), (⟨"Amendgrant", "sourceAt", "(I)LAmendgrant$Source;"⟩, 8), (⟨"java/lang/Throwable", "fillInStackTrace", "(I)Ljava/lang/Throwable;"⟩, 6), (⟨"Amendgrant", "lineAt", "(I)LAmendgrant$Line;"⟩, 8), (⟨"Amendgrant", "needRoomForAmendment", "()V"⟩, 8), (⟨"Amendgrant", "addAmendment", "(LAmendgrant$Amendment;LAmendgrant$Line;I)I"⟩, 8), (⟨"Amendgrant", "amendmentAt", "(I)LAmendgrant$Amendment;"⟩, 8), (⟨"Amendgrant", "isOneOpenOn", "(LAmendgrant$Amendment;)Z"⟩, 8), (⟨"Amendgrant", "makePassed", "(LAmendgrant$Amendment;)V"⟩, 8), (⟨"Amendgrant", "reckonWhatIsBrought", "()V"⟩, 8), (⟨"Amendgrant", "balance", "(LAmendgrant$Line;)I"⟩, 8), (⟨"Amendgrant", "freeOf", "(LAmendgrant$Line;)I"⟩, 8), (⟨"Amendgrant", "boundOf", "(LAmendgrant$Line;)I"⟩, 8), (⟨"Amendgrant", "makeFallen", "(LAmendgrant$Amendment;)I"⟩, 8)]
theorem lw_r1 : ∀ q ∈ lw_privs_1, lw_okq q := List.forall_mem_cons.mpr ⟨lw_p0, List.forall_mem_cons.mpr ⟨lw_p1, List.forall_mem_cons.mpr ⟨lw_p2, List.forall_mem_cons.mpr ⟨lw_p3, List.forall_mem_cons.mpr ⟨lw_p4, List.forall_mem_cons.mpr ⟨lw_p5, List.forall_mem_cons.mpr ⟨lw_p6, List.forall_mem_cons.mpr ⟨lw_p7, List.forall_mem_cons.mpr ⟨lw_p8, List.forall_mem_cons.mpr ⟨lw_p9, List.forall_mem_cons.mpr ⟨lw_p10, List.forall_mem_cons.mpr ⟨lw_p11, List.forall_mem_cons.mpr ⟨lw_p12, List.forall_mem_cons.mpr ⟨lw_p13, List.forall_mem_cons.mpr ⟨lw_p14, List.forall_mem_cons.mpr ⟨lw_p15, fun _ h => absurd h List.not_mem_nil⟩⟩⟩⟩⟩⟩⟩⟩⟩⟩⟩⟩⟩⟩⟩⟩
theorem lw_p16 : lw_okq (⟨"Amendgrant", "fellAllOnFallen", "()V"⟩, 8) := ⟨⟨by decide +kernel, by decide +kernel⟩, List.mem_of_getElem? (i := 25) (by decide +kernel), List.mem_of_getElem? (i := 540) (by decide +kernel), List.mem_of_getElem? (i := 541) (by decide +kernel)⟩
theorem lw_p17 : lw_okq (⟨"Amendgrant", "withdrawThoseOnFallen", "()I"⟩, 8) := ⟨⟨by decide +kernel, by decide +kernel⟩, List.mem_of_getElem? (i := 25) (by decide +kernel), List.mem_of_getElem? (i := 544) (by decide +kernel), List.mem_of_getElem? (i := 545) (by decide +kernel)⟩
theorem lw_p18 : lw_okq (⟨"Amendgrant", "receiverAt", "(I)LAmendgrant$Receiver;"⟩, 8) := ⟨⟨by decide +kernel, by decide +kernel⟩, List.mem_of_getElem? (i := 25) (by decide +kernel), List.mem_of_getElem? (i := 578) (by decide +kernel), List.mem_of_getElem? (i := 579) (by decide +kernel)⟩
theorem lw_p19 : lw_okq (⟨"Amendgrant", "needFree", "(LAmendgrant$Line;I)V"⟩, 8) := ⟨⟨by decide +kernel, by decide +kernel⟩, List.mem_of_getElem? (i := 25) (by decide +kernel), List.mem_of_getElem? (i := 584) (by decide +kernel), List.mem_of_getElem? (i := 585) (by decide +kernel)⟩
theorem lw_p20 : lw_okq (⟨"Amendgrant", "grantAt", "(I)LAmendgrant$Grant;"⟩, 8) := ⟨⟨by decide +kernel, by decide +kernel⟩, List.mem_of_getElem? (i := 25) (by decide +kernel), List.mem_of_getElem? (i := 634) (by decide +kernel), List.mem_of_getElem? (i := 635) (by decide +kernel)⟩
theorem lw_p21 : lw_okq (⟨"Amendgrant", "withdrawOverdue", "()V"⟩, 8) := ⟨⟨by decide +kernel, by decide +kernel⟩, List.mem_of_getElem? (i := 25) (by decide +kernel), List.mem_of_getElem? (i := 702) (by decide +kernel), List.mem_of_getElem? (i := 703) (by decide +kernel)⟩
theorem lw_p22 : lw_okq (⟨"Amendgrant", "fillReserve", "()V"⟩, 8) := ⟨⟨by decide +kernel, by decide +kernel⟩, List.mem_of_getElem? (i := 25) (by decide +kernel), List.mem_of_getElem? (i := 710) (by decide +kernel), List.mem_of_getElem? (i := 711) (by decide +kernel)⟩
theorem lw_p23 : lw_okq (⟨"Amendgrant", "targetNow", "()I"⟩, 8) := ⟨⟨by decide +kernel, by decide +kernel⟩, List.mem_of_getElem? (i := 25) (by decide +kernel), List.mem_of_getElem? (i := 714) (by decide +kernel), List.mem_of_getElem? (i := 715) (by decide +kernel)⟩
theorem lw_p24 : lw_okq (⟨"Amendgrant", "takeFrom", "(LAmendgrant$Line;I)V"⟩, 8) := ⟨⟨by decide +kernel, by decide +kernel⟩, List.mem_of_getElem? (i := 25) (by decide +kernel), List.mem_of_getElem? (i := 719) (by decide +kernel), List.mem_of_getElem? (i := 720) (by decide +kernel)⟩
theorem lw_p25 : lw_okq (⟨"Amendgrant", "countOn", "(LAmendgrant$Amendment;)I"⟩, 8) := ⟨⟨by decide +kernel, by decide +kernel⟩, List.mem_of_getElem? (i := 25) (by decide +kernel), List.mem_of_getElem? (i := 754) (by decide +kernel), List.mem_of_getElem? (i := 755) (by decide +kernel)⟩
theorem lw_p26 : lw_okq (⟨"Amendgrant", "standsOfLinesFrom", "(LAmendgrant$Source;)I"⟩, 8) := ⟨⟨by decide +kernel, by decide +kernel⟩, List.mem_of_getElem? (i := 25) (by decide +kernel), List.mem_of_getElem? (i := 779) (by decide +kernel), List.mem_of_getElem? (i := 780) (by decide +kernel)⟩
theorem lw_p27 : lw_okq (⟨"AmendgrantModel", "goesWell", "(I)Z"⟩, 31) := ⟨⟨by decide +kernel, by decide +kernel⟩, List.mem_of_getElem? (i := 783) (by decide +kernel), List.mem_of_getElem? (i := 897) (by decide +kernel), List.mem_of_getElem? (i := 898) (by decide +kernel)⟩
theorem lw_p28 : lw_okq (⟨"AmendgrantModel", "isLine", "(I)Z"⟩, 31) := ⟨⟨by decide +kernel, by decide +kernel⟩, List.mem_of_getElem? (i := 783) (by decide +kernel), List.mem_of_getElem? (i := 909) (by decide +kernel), List.mem_of_getElem? (i := 910) (by decide +kernel)⟩
theorem lw_p29 : lw_okq (⟨"AmendgrantModel", "make", "(III)I"⟩, 31) := ⟨⟨by decide +kernel, by decide +kernel⟩, List.mem_of_getElem? (i := 783) (by decide +kernel), List.mem_of_getElem? (i := 918) (by decide +kernel), List.mem_of_getElem? (i := 919) (by decide +kernel)⟩
theorem lw_p30 : lw_okq (⟨"AmendgrantModel", "isAmendment", "(I)Z"⟩, 31) := ⟨⟨by decide +kernel, by decide +kernel⟩, List.mem_of_getElem? (i := 783) (by decide +kernel), List.mem_of_getElem? (i := 926) (by decide +kernel), List.mem_of_getElem? (i := 927) (by decide +kernel)⟩
theorem lw_p31 : lw_okq (⟨"AmendgrantModel", "votesOf", "(II)I"⟩, 31) := ⟨⟨by decide +kernel, by decide +kernel⟩, List.mem_of_getElem? (i := 783) (by decide +kernel), List.mem_of_getElem? (i := 934) (by decide +kernel), List.mem_of_getElem? (i := 935) (by decide +kernel)⟩
def lw_privs_2 : List (MethodName × Nat) := [(⟨"Amendgrant", "fellAllOnFallen", "()V"⟩, 8), (⟨"Amendgrant", "withdrawThoseOnFallen", "()I"⟩, 8), (⟨"Amendgrant", "receiverAt", "(I)LAmendgrant$Receiver;"⟩, 8), (⟨"Amendgrant", "needFree", "(LAmendgrant$Line;I)V"⟩, 8), (⟨"Amendgrant", "grantAt", "(I)LAmendgrant$Grant;"⟩, 8), (⟨"Amendgrant", "withdrawOverdue", "()V"⟩, 8), (⟨"Amendgrant", "fillReserve", "()V"⟩, 8), (⟨"Amendgrant", "targetNow", "()I"⟩, 8), (⟨"Amendgrant", "takeFrom", "(LAmendgrant$Line;I)V"⟩, 8), (⟨"Amendgrant", "countOn", "(LAmendgrant$Amendment;)I"⟩, 8), (⟨"Amendgrant", "standsOfLinesFrom", "(LAmendgrant$Source;)I"⟩, 8), (⟨"AmendgrantModel", "goesWell", "(I)Z"⟩, 31), (⟨"AmendgrantModel", "isLine", "(I)Z"⟩, 31), (⟨"AmendgrantModel", "make", "(III)I"⟩, 31), (⟨"AmendgrantModel", "isAmendment", "(I)Z"⟩, 31), (⟨"AmendgrantModel", "votesOf", "(II)I"⟩, 31)]
theorem lw_r2 : ∀ q ∈ lw_privs_2, lw_okq q := List.forall_mem_cons.mpr ⟨lw_p16, List.forall_mem_cons.mpr ⟨lw_p17, List.forall_mem_cons.mpr ⟨lw_p18, List.forall_mem_cons.mpr ⟨lw_p19, List.forall_mem_cons.mpr ⟨lw_p20, List.forall_mem_cons.mpr ⟨lw_p21, List.forall_mem_cons.mpr ⟨lw_p22, List.forall_mem_cons.mpr ⟨lw_p23, List.forall_mem_cons.mpr ⟨lw_p24, List.forall_mem_cons.mpr ⟨lw_p25, List.forall_mem_cons.mpr ⟨lw_p26, List.forall_mem_cons.mpr ⟨lw_p27, List.forall_mem_cons.mpr ⟨lw_p28, List.forall_mem_cons.mpr ⟨lw_p29, List.forall_mem_cons.mpr ⟨lw_p30, List.forall_mem_cons.mpr ⟨lw_p31, fun _ h => absurd h List.not_mem_nil⟩⟩⟩⟩⟩⟩⟩⟩⟩⟩⟩⟩⟩⟩⟩⟩
theorem lw_p32 : lw_okq (⟨"AmendgrantModel", "isFree", "(I)Z"⟩, 31) := ⟨⟨by decide +kernel, by decide +kernel⟩, List.mem_of_getElem? (i := 783) (by decide +kernel), List.mem_of_getElem? (i := 942) (by decide +kernel), List.mem_of_getElem? (i := 943) (by decide +kernel)⟩
theorem lw_p33 : lw_okq (⟨"AmendgrantModel", "look", "(I)I"⟩, 31) := ⟨⟨by decide +kernel, by decide +kernel⟩, List.mem_of_getElem? (i := 783) (by decide +kernel), List.mem_of_getElem? (i := 946) (by decide +kernel), List.mem_of_getElem? (i := 947) (by decide +kernel)⟩
theorem lw_p34 : lw_okq (⟨"AmendgrantModel", "free", "(I)I"⟩, 31) := ⟨⟨by decide +kernel, by decide +kernel⟩, List.mem_of_getElem? (i := 783) (by decide +kernel), List.mem_of_getElem? (i := 950) (by decide +kernel), List.mem_of_getElem? (i := 951) (by decide +kernel)⟩
theorem lw_p35 : lw_okq (⟨"AmendgrantModel", "stands", "(I)I"⟩, 31) := ⟨⟨by decide +kernel, by decide +kernel⟩, List.mem_of_getElem? (i := 783) (by decide +kernel), List.mem_of_getElem? (i := 954) (by decide +kernel), List.mem_of_getElem? (i := 955) (by decide +kernel)⟩
theorem lw_p36 : lw_okq (⟨"AmendgrantModel", "bring", "()V"⟩, 31) := ⟨⟨by decide +kernel, by decide +kernel⟩, List.mem_of_getElem? (i := 783) (by decide +kernel), List.mem_of_getElem? (i := 958) (by decide +kernel), List.mem_of_getElem? (i := 959) (by decide +kernel)⟩
theorem lw_p37 : lw_okq (⟨"AmendgrantModel", "bound", "(I)I"⟩, 31) := ⟨⟨by decide +kernel, by decide +kernel⟩, List.mem_of_getElem? (i := 783) (by decide +kernel), List.mem_of_getElem? (i := 962) (by decide +kernel), List.mem_of_getElem? (i := 963) (by decide +kernel)⟩
theorem lw_p38 : lw_okq (⟨"AmendgrantModel", "fall", "(I)I"⟩, 31) := ⟨⟨by decide +kernel, by decide +kernel⟩, List.mem_of_getElem? (i := 783) (by decide +kernel), List.mem_of_getElem? (i := 966) (by decide +kernel), List.mem_of_getElem? (i := 967) (by decide +kernel)⟩
theorem lw_p39 : lw_okq (⟨"AmendgrantModel", "withdraw", "(I)V"⟩, 31) := ⟨⟨by decide +kernel, by decide +kernel⟩, List.mem_of_getElem? (i := 783) (by decide +kernel), List.mem_of_getElem? (i := 970) (by decide +kernel), List.mem_of_getElem? (i := 971) (by decide +kernel)⟩
theorem lw_p40 : lw_okq (⟨"AmendgrantModel", "isGrant", "(I)Z"⟩, 31) := ⟨⟨by decide +kernel, by decide +kernel⟩, List.mem_of_getElem? (i := 783) (by decide +kernel), List.mem_of_getElem? (i := 986) (by decide +kernel), List.mem_of_getElem? (i := 987) (by decide +kernel)⟩
theorem lw_p41 : lw_okq (⟨"AmendgrantModel", "canPay", "(II)Z"⟩, 31) := ⟨⟨by decide +kernel, by decide +kernel⟩, List.mem_of_getElem? (i := 783) (by decide +kernel), List.mem_of_getElem? (i := 990) (by decide +kernel), List.mem_of_getElem? (i := 991) (by decide +kernel)⟩
theorem lw_p42 : lw_okq (⟨"AmendgrantModel", "fill", "()V"⟩, 31) := ⟨⟨by decide +kernel, by decide +kernel⟩, List.mem_of_getElem? (i := 783) (by decide +kernel), List.mem_of_getElem? (i := 1018) (by decide +kernel), List.mem_of_getElem? (i := 1019) (by decide +kernel)⟩
theorem lw_p43 : lw_okq (⟨"AmendgrantModel", "manyOn", "(I)I"⟩, 31) := ⟨⟨by decide +kernel, by decide +kernel⟩, List.mem_of_getElem? (i := 783) (by decide +kernel), List.mem_of_getElem? (i := 1035) (by decide +kernel), List.mem_of_getElem? (i := 1036) (by decide +kernel)⟩
def lw_privs_3 : List (MethodName × Nat) := [(⟨"AmendgrantModel", "isFree", "(I)Z"⟩, 31), (⟨"AmendgrantModel", "look", "(I)I"⟩, 31), (⟨"AmendgrantModel", "free", "(I)I"⟩, 31), (⟨"AmendgrantModel", "stands", "(I)I"⟩, 31), (⟨"AmendgrantModel", "bring", "()V"⟩, 31), (⟨"AmendgrantModel", "bound", "(I)I"⟩, 31), (⟨"AmendgrantModel", "fall", "(I)I"⟩, 31), (⟨"AmendgrantModel", "withdraw", "(I)V"⟩, 31), (⟨"AmendgrantModel", "isGrant", "(I)Z"⟩, 31), (⟨"AmendgrantModel", "canPay", "(II)Z"⟩, 31), (⟨"AmendgrantModel", "fill", "()V"⟩, 31), (⟨"AmendgrantModel", "manyOn", "(I)I"⟩, 31)]
theorem lw_r3 : ∀ q ∈ lw_privs_3, lw_okq q := List.forall_mem_cons.mpr ⟨lw_p32, List.forall_mem_cons.mpr ⟨lw_p33, List.forall_mem_cons.mpr ⟨lw_p34, List.forall_mem_cons.mpr ⟨lw_p35, List.forall_mem_cons.mpr ⟨lw_p36, List.forall_mem_cons.mpr ⟨lw_p37, List.forall_mem_cons.mpr ⟨lw_p38, List.forall_mem_cons.mpr ⟨lw_p39, List.forall_mem_cons.mpr ⟨lw_p40, List.forall_mem_cons.mpr ⟨lw_p41, List.forall_mem_cons.mpr ⟨lw_p42, List.forall_mem_cons.mpr ⟨lw_p43, fun _ h => absurd h List.not_mem_nil⟩⟩⟩⟩⟩⟩⟩⟩⟩⟩⟩⟩
def lw_privs : List (MethodName × Nat) := lw_privs_1 ++ (lw_privs_2 ++ (lw_privs_3))
def lw_tbl : List Cond := k2_sels lw_privs ++ tables_1
theorem lw_privs_ok : ∀ q ∈ lw_privs, lw_okq q := by
  show ∀ q ∈ lw_privs_1 ++ (lw_privs_2 ++ (lw_privs_3)), lw_okq q
  exact List.forall_mem_append.mpr ⟨lw_r1, List.forall_mem_append.mpr ⟨lw_r2, lw_r3⟩⟩
/-! ===== BEGIN words of one list among another's, by their places ===== -/
theorem goodIn_r {big : List Cond} (ws : List Cond) (ps : List Nat) (hp : ws = ps.filterMap (fun i => big[i]?)) (h : ws.all goodWord = true) : GoodIn big ws := by
  intro w hw
  have h1 := List.all_eq_true.mp h w hw
  rw [hp] at hw
  obtain ⟨i, -, hi⟩ := List.mem_filterMap.mp hw
  have hm : w ∈ big := by first | exact List.mem_of_getElem? hi | exact List.getElem?_mem hi
  exact ⟨hm, good_of_word h1⟩
theorem goodIn_app {big a b : List Cond} (ha : GoodIn big a) (hb : GoodIn big b) : GoodIn big (a ++ b) := fun w h => (List.mem_append.mp h).elim (ha w) (hb w)
theorem goodIn_ca {big a b : List Cond} {c : Cond} (ha : GoodIn big (c :: a)) (hb : GoodIn big b) : GoodIn big (c :: (a ++ b)) := fun w h => (List.mem_cons.mp h).elim (fun e => ha w (List.mem_cons.mpr (Or.inl e))) (fun h => (List.mem_append.mp h).elim (fun h => ha w (List.mem_cons.mpr (Or.inr h))) (hb w))
theorem goodIn_sub {big ws : List Cond} (hm : ∀ w ∈ ws, w ∈ big) (h : ws.all goodWord = true) : GoodIn big ws := fun w hw => ⟨hm w hw, good_of_word (List.all_eq_true.mp h w hw)⟩
/-! ===== END ===== -/

/-! ===== BEGIN exceptions that leave a method, and their catching by the caller (launches without stack traces) ===== -/
section VXA
/-! The laws vx_back, vx_callV, vx_callS, vx_callSW, vx_throw0, vx_throwS follow proofs of the library, with one case more: JvmDerived/Free/Laws.lean (Back.of_free), Shelf42/LK1.lean (callV, callS), Shelf/KitTraced.lean (throwNew0V, throwNewS). -/
/-- where a method has thrown q: the class by its name, the cell, what was written, the world -/
def vx_T (XC : String → State → State → Prop) (st : State) (q : Addr) (t : State) (mc ms : Nat) (free : Addr → Prop) : Prop :=
  ∃ (E : String) (ce : Cell) (L : List Loc), XC E st t ∧ t.heap[q]? = some ce ∧ ce.vm = .none ∧ st.vm.findClass E = some ce.cls ∧ st.WarmedH t.vm ∧ st.sameButNew ({ t with vm := st.vm } : State) L mc ms ∧ ∀ z ∈ L, free z.base
def vx_Q (Qc : Array Value → State → Outcome → State → Prop) (XC : String → State → State → Prop) (mc ms : Nat) (free : Addr → Prop) : Array Value → State → Outcome → State → Prop := fun a st o t =>
  (Qc a st o t ∧ ∃ L, FrameEnd st o t L mc ms ∧ ∀ q ∈ L, free q.base) ∨ ∃ q, o = .threw q ∧ vx_T XC st q t mc ms free
/-- a callee that returns or throws -/
def vx_Met (l : Launch) (y : MethodName) (ws : List Cond) (rm : Room) (Pc : Array Value → State → Prop) (Qc : Array Value → State → Outcome → State → Prop) (XC : String → State → State → Prop) (mc ms : Nat) (free : Addr → Prop) : Prop :=
  MetFree l y (headSpec ws rm) Pc (fun _ _ _ _ _ => True) (vx_Q Qc XC mc ms free)
def vx_Post (XC : String → State → State → Prop) (mc ms : Nat) (free : Addr → Prop) : Pt → Array Value → Addr → Pt → Prop := fun A a q B =>
  ∃ (g : JFrame) (mk : MethodId) (t : State) (L : List Loc) (E : String) (ce : Cell), B.U.heap = t.heap ∧ B.U.vm = t.vm ∧ XC E (A.U.calling g mk a) t ∧ t.heap[q]? = some ce ∧ ce.vm = .none ∧ A.U.vm.findClass E = some ce.cls ∧ B.locs = A.locs ++ L ∧ (∀ z ∈ L, free z.base) ∧ B.cells = A.cells + mc ∧ B.slots = A.slots + ms
def vx_Back (l : Launch) (R : Room) (p : Program) (e : Env) (below : List Frame) (s : State) (sargs : Array Value) (y : MethodName) (len W9 : Nat)
    (Pre : Pt → Array Value → Prop) (Post : Pt → Array Value → Option Value → Pt → Prop) (PostX : Pt → Array Value → Addr → Pt → Prop) : Prop :=
  ∀ (m : MethodId) (meth : Method) (c : Code) (A : Pt) (g : JFrame) (ig : Instr) (mk : MethodId) (a : Array Value),
    Stand p l e R s m sargs below meth c A.U A.locs A.cells A.slots → g.method = m → g.locals.size = c.maxLocals → decode c.code g.pc = .ok (ig, len) →
    2 * g.monitorRoom + (g.stack.map fun v => v.category).sum ≤ W9 → A.U.methodNamed? y = some mk → Pre A a →
    (∃ (v : Option Value) (B : Pt), Stand p l e R s m sargs below meth c B.U B.locs B.cells B.slots ∧ Post A a v B ∧
      Steps p.tables e below (doInvoke e (A.U.setTop g) [] mk a).1 (B.U.setTop { g with pc := g.pc + len, stack := v.toList ++ g.stack })) ∨
    (∃ (q : Addr) (B : Pt), Stand p l e R s m sargs below meth c B.U B.locs B.cells B.slots ∧ PostX A a q B ∧
      Steps p.tables e below (doInvoke e (A.U.setTop g) [] mk a).1 ((B.U.setTop g).pushFrame (.throwing q)))
section Payer
variable {l : Launch} {R : Room} {p : Program} {e : Env} {below : List Frame} {s : State} {sargs : Array Value} {y : MethodName} {len W9 : Nat}
theorem vx_back {ws : List Cond} {rm : Room} {Pc : Array Value → State → Prop} {Qc : Array Value → State → Outcome → State → Prop} {XC : String → State → State → Prop} {mc ms : Nat} {free : Addr → Prop} {bytes : ByteArray} {maxL : Nat} {ret : Option FieldType}
    (hM : vx_Met l y ws rm Pc Qc XC mc ms free) (hblind : FrameBlind Pc) (hrc : rm.cells = mc) (hrs : rm.slots = ms)
    (hframes : rm.frames + 1 ≤ R.frames) (hlocals : W9 + (maxL + 11) + rm.locals ≤ R.locals)
    (hws : ∀ w ∈ ws, ∀ a' U, s.WarmedH U.vm → w.before a' U = true) (hcode : Cond.code y bytes maxL ret ∈ ws) (hinit : ∀ a' U, s.WarmedH U.vm → (Cond.initialized y.cls).before a' U = true) :
    vx_Back l R p e below s sargs y len W9 (PreOf R mc ms Pc) (PostOf Qc mc ms free) (vx_Post XC mc ms free) := by
  intro m meth c A g ig mk a X hg hsize hdg hW hn hp
  have h1 : (headSpec ws rm).pre.before a A.U = true := atoms_intro fun w hw => hws w hw _ _ X.warmed
  have h2 : (Cond.code y bytes maxL ret).before a A.U = true := hws _ hcode _ _ X.warmed
  have h3 : (Cond.initialized y.cls).before a A.U = true := hinit _ _ X.warmed
  have h4 : A.cells + (headSpec ws rm).room.cells ≤ R.cells := by rw [show (headSpec ws rm).room.cells = mc from hrc]; exact hp.1
  have h5 : A.slots + (headSpec ws rm).room.slots ≤ R.slots := by rw [show (headSpec ws rm).room.slots = ms from hrs]; exact hp.2.1
  have hPc : Pc a (A.U.calling g mk a) := hblind _ _ _ _ hp.2.2
  obtain ⟨U, Ls, c0, s0⟩ := A
  dsimp only [Pt.U, Pt.locs, Pt.cells, Pt.slots] at h1 h2 h3 h4 h5 X hn hPc ⊢
  obtain ⟨methY, cY, hmY, hcY, -, hlY, -, -, -, -⟩ := Cond.code_spec hn h2
  obtain ⟨kY, hkY, -⟩ := className_of_methodNamed hn
  have hinitY : kY.init = .initialized := Cond.initialized_spec (findClass_of_methodNamed hn) hkY h3
  have h : At U g.method c below := by rw [hg]; exact X.here
  have hlocals9 : W9 + (maxL + 11) + (headSpec ws rm).room.locals ≤ R.locals := hlocals
  have happ : (headSpec ws rm).appliesLoose y e.platform (U.calling g mk a) = true :=
    Spec.appliesLoose_calling (g := g) h hdg hn hkY hinitY
      (X.room_calling (g := g) (R' := (headSpec ws rm).room) hsize hmY hcY hframes (by rw [hlY]; omega) h4 h5) h1
  obtain ⟨mid, hmid⟩ := h.above
  have hfr : (U.setTop g).frames = (.java g :: mid) ++ below := by rw [State.frames_setTop' g h.top, hmid]; rfl
  obtain ⟨o, s₂, hsteps, -, hend, hq⟩ := Steps.callFree hM p X.admits X.cas X.clock (acts := []) hfr happ hPc trivial
  have hq' : vx_Q Qc XC mc ms free a (U.calling g mk a) o s₂ := hq
  rw [State.frames_setTop' g h.top] at hend
  obtain ⟨g₀, hg0⟩ := Option.isSome_iff_exists.mp h.top
  obtain ⟨r, hr⟩ := State.topJava?_eq_some.mp hg0
  have hr' : (({ U with heap := s₂.heap, slotsUsed := s₂.slotsUsed } : State).setVm s₂.vm).frames = .java g₀ :: r := hr
  rcases hq' with ⟨hqc, L, hfe, hL⟩ | ⟨q, rfl, E, ce, L, hx, hce, hcv, hcl, hW₂, hsm, hL⟩
  · obtain ⟨⟨v, rfl⟩, hW₂, e2, q2, q3, q4, q5, q6⟩ := id hfe
    have e3 : s₂ = ({ (U.calling g mk a).setFrames s₂.frames with heap := s₂.heap, slotsUsed := s₂.slotsUsed } : State).setVm s₂.vm := by
      have : s₂ = ({ s₂ with vm := (U.calling g mk a).vm } : State).setVm s₂.vm := rfl
      rw [e2] at this
      exact this
    obtain ⟨c₂, i₂, len₂, hc₂, hd₂, hf₂⟩ := hend
    have hW' : U.WarmedH s₂.vm := hW₂
    have hcc : c₂ = c := by
      have h1 : s₂.code? g.method = U.code? g.method := by
        rw [State.code?_eq, State.code?_eq, hW'.alike.method?]
      exact Option.some.inj (hc₂.symm.trans (h1.trans h.code))
    subst hcc
    have hlen : len₂ = len := by rw [hdg] at hd₂; cases hd₂; rfl
    subst hlen
    have hs₂ : s₂ = (({ U with heap := s₂.heap, slotsUsed := s₂.slotsUsed } : State).setVm s₂.vm).setTop { g with pc := g.pc + len₂, stack := v.toList ++ g.stack } := by
      refine e3.trans ?_
      rw [hf₂, State.calling_eq h.top, State.setFrames_setFrames, State.setTop_of_frames _ hr', hr]
      rfl
    have hsame : U.sameButNew ({ U with heap := s₂.heap, slotsUsed := s₂.slotsUsed } : State) L mc ms := by
      refine ⟨?_, q2, q3, q4, q5, q6⟩
      obtain ⟨t, ht, -⟩ := State.frames_cons hr
      show ({ U with heap := s₂.heap, slotsUsed := s₂.slotsUsed } : State) = { U.setFrames U.frames with heap := s₂.heap, slotsUsed := s₂.slotsUsed }
      rw [State.setFrames_self ht]
    subst hg
    refine Or.inl ⟨v, ⟨(({ U with heap := s₂.heap, slotsUsed := s₂.slotsUsed } : State).setVm s₂.vm), Ls ++ L, c0 + mc, s0 + ms⟩,
      ⟨X.admits, X.cas, X.clock, X.frames, X.room, X.hears, X.method, X.code, (X.here.setHeapUsed s₂.heap s₂.slotsUsed).setVm hW'.alike, X.tail, State.WarmedH.trans X.warmed hW', X.limits, X.bytes, X.same.trans (hsame.setVm s.vm)⟩,
      ⟨g, mk, s₂, L, rfl, rfl, hqc, rfl, hL, rfl, rfl⟩, ?_⟩
    show Steps p.tables e below _ ((({ U with heap := s₂.heap, slotsUsed := s₂.slotsUsed } : State).setVm s₂.vm).setTop { g with pc := g.pc + len₂, stack := v.toList ++ g.stack })
    rw [← hs₂]
    exact hsteps
  · obtain ⟨e2, q2, q3, q4, q5, q6⟩ := id hsm
    have e3 : s₂ = ({ (U.calling g mk a).setFrames s₂.frames with heap := s₂.heap, slotsUsed := s₂.slotsUsed } : State).setVm s₂.vm := by
      have : s₂ = ({ s₂ with vm := (U.calling g mk a).vm } : State).setVm s₂.vm := rfl
      rw [e2] at this
      exact this
    have hf₂ : s₂.frames = .throwing q :: .java g :: U.frames.tail := hend
    have hW' : U.WarmedH s₂.vm := hW₂
    have hs₂ : s₂ = ((({ U with heap := s₂.heap, slotsUsed := s₂.slotsUsed } : State).setVm s₂.vm).setTop g).pushFrame (.throwing q) := by
      refine e3.trans ?_
      rw [hf₂, State.calling_eq h.top, State.setFrames_setFrames, State.pushFrame, State.frames_setTop _ hr', State.setTop_of_frames _ hr', State.setFrames_setFrames, hr]
      rfl
    have hsame : U.sameButNew ({ U with heap := s₂.heap, slotsUsed := s₂.slotsUsed } : State) L mc ms := by
      refine ⟨?_, q2, q3, q4, q5, q6⟩
      obtain ⟨t, ht, -⟩ := State.frames_cons hr
      show ({ U with heap := s₂.heap, slotsUsed := s₂.slotsUsed } : State) = { U.setFrames U.frames with heap := s₂.heap, slotsUsed := s₂.slotsUsed }
      rw [State.setFrames_self ht]
    subst hg
    refine Or.inr ⟨q, ⟨(({ U with heap := s₂.heap, slotsUsed := s₂.slotsUsed } : State).setVm s₂.vm), Ls ++ L, c0 + mc, s0 + ms⟩,
      ⟨X.admits, X.cas, X.clock, X.frames, X.room, X.hears, X.method, X.code, (X.here.setHeapUsed s₂.heap s₂.slotsUsed).setVm hW'.alike, X.tail, State.WarmedH.trans X.warmed hW', X.limits, X.bytes, X.same.trans (hsame.setVm s.vm)⟩,
      ⟨g, mk, s₂, L, E, ce, rfl, rfl, hx, hce, hcv, hcl, rfl, hL, rfl, rfl⟩, ?_⟩
    show Steps p.tables e below _ (((({ U with heap := s₂.heap, slotsUsed := s₂.slotsUsed } : State).setVm s₂.vm).setTop g).pushFrame (.throwing q))
    rw [← hs₂]
    exact hsteps
end Payer
section Calls
variable {p : Program} {l : Launch} {e : Env} {R : Room} {s : State} {m : MethodId} {args : Array Value} {below : List Frame} {meth : Method} {c : Code} {T : State} {locs : List Loc} {cells slots : Nat}
theorem vx_callV (X : Stand p l e R s m args below meth c T locs cells slots) (hexec : p.tables.exec = Jvm.exec) {own C : String} {index : Nat} {y : MethodName} {bytes : ByteArray} {maxL : Nat} {ret : Option FieldType}
    (hown : s.vm.findClass own = some m.cls) (hlink : (Cond.methodLink own index y).before args s = true) (hinst : (Cond.instanceMethod y).before args s = true) (hsel : (Cond.selects C y y).before args s = true)
    (hcode : (Cond.code y bytes maxL ret).before args s = true) (hy : y.cls ≠ "java/lang/invoke/MethodHandle" ∧ y.cls ≠ "java/lang/invoke/VarHandle")
    {W9 : Nat} {Pre : Pt → Array Value → Prop} {Post : Pt → Array Value → Option Value → Pt → Prop} {PostX : Pt → Array Value → Addr → Pt → Prop} (hK : vx_Back l R p e below s args y 3 W9 Pre Post PostX)
    {b : Addr} {cellB : Cell} (hcell : T.heap[b]? = some cellB) (hobj : cellB.vm.isStatics = false) (hcls : s.vm.findClass C = some cellB.cls)
    {g : JFrame} (hg : g.method = m) (hsize : g.locals.size = c.maxLocals) {argsL rest : List Value} (hlen : ∀ sig, parseMethodDescriptor y.desc = some sig → argsL.length = sig.parameters.length)
    (hstack : g.stack = argsL.reverse ++ .ref b :: rest) (hW : 2 * g.monitorRoom + (rest.map fun v => v.category).sum ≤ W9) (hdg : decode c.code g.pc = .ok (.invokevirtual index, 3))
    (hpre : ∀ vm₁, s.WarmedH vm₁ → Pre ⟨T.setVm vm₁, locs, cells, slots⟩ (Value.ref b :: argsL).toArray) :
    (∃ (v : Option Value) (vm₁ : Vm) (B : Pt), s.WarmedH vm₁ ∧ Stand p l e R s m args below meth c B.U B.locs B.cells B.slots ∧ Post ⟨T.setVm vm₁, locs, cells, slots⟩ (Value.ref b :: argsL).toArray v B ∧
      ∀ target, Steps p.tables e below (B.U.setTop { g with pc := g.pc + 3, stack := v.toList ++ rest }) target → Steps p.tables e below (T.setTop g) target) ∨
    (∃ (q : Addr) (vm₁ : Vm) (B : Pt), s.WarmedH vm₁ ∧ Stand p l e R s m args below meth c B.U B.locs B.cells B.slots ∧ PostX ⟨T.setVm vm₁, locs, cells, slots⟩ (Value.ref b :: argsL).toArray q B ∧
      Steps p.tables e below (T.setTop g) ((B.U.setTop { g with stack := rest }).pushFrame (.throwing q))) := by
  obtain ⟨mk, methM, hnamed, hmethM, hstM, habM⟩ := Cond.instanceMethod_spec hinst
  obtain ⟨methM', cM, hmethM', -, -, -, -, -, -, hsigM⟩ := Cond.code_spec hnamed hcode
  cases hmethM.symm.trans hmethM'
  obtain ⟨c2, r2, m2, q1, q2, q3, q4, kP, hkP, hkPi⟩ := Cond.selects_spec hsel
  cases hcls.symm.trans q1
  cases (State.methodFound?_of_named hnamed hy).symm.trans q2
  cases hnamed.symm.trans q3
  have hselP : selectMethod e.platform s.vm cellB.cls mk = .method mk := by rw [Launch.admits_selectMethod X.admits]; exact q4
  obtain ⟨vm₁, X₁, hstep₁⟩ := X.invokevirtual hexec hown hlink hnamed hmethM hstM hkP hkPi hy (a := b) (cell := cellB) hcell
    (fun z h => by rw [h] at hobj; cases hobj) hselP hmethM habM hkP hkPi (g := g) hg (argsL := argsL) (rest := rest) (hlen _ hsigM) hstack hdg
  rcases hK m meth c ⟨T.setVm vm₁, locs, cells, slots⟩ { g with stack := rest } (.invokevirtual index) mk (Value.ref b :: argsL).toArray X₁ hg hsize hdg hW (X₁.named hnamed) (hpre vm₁ X₁.warmed) with ⟨v, B, X', hpost, hsteps⟩ | ⟨q, B, X', hpost, hsteps⟩
  · exact Or.inl ⟨v, vm₁, B, X₁.warmed, X', hpost, fun target h => hstep₁ _ fun acts => by rw [doInvoke_state]; exact hsteps.trans h⟩
  · exact Or.inr ⟨q, vm₁, B, X₁.warmed, X', hpost, hstep₁ _ fun acts => by rw [doInvoke_state]; exact hsteps⟩
theorem vx_callS (X : Stand p l e R s m args below meth c T locs cells slots) (hexec : p.tables.exec = Jvm.exec) {own : String} {index : Nat} {y : MethodName} {bytes : ByteArray} {maxL : Nat} {ret : Option FieldType}
    (hown : s.vm.findClass own = some m.cls) (hlink : (Cond.methodLink own index y).before args s = true) (hstat : (Cond.static y).before args s = true) (hinit : (Cond.initialized y.cls).before args s = true)
    (hcode : (Cond.code y bytes maxL ret).before args s = true) (hy : y.cls ≠ "java/lang/invoke/MethodHandle" ∧ y.cls ≠ "java/lang/invoke/VarHandle")
    {W9 : Nat} {Pre : Pt → Array Value → Prop} {Post : Pt → Array Value → Option Value → Pt → Prop} {PostX : Pt → Array Value → Addr → Pt → Prop} (hK : vx_Back l R p e below s args y 3 W9 Pre Post PostX)
    {g : JFrame} (hg : g.method = m) (hsize : g.locals.size = c.maxLocals) {argsL rest : List Value} (hlen : ∀ sig, parseMethodDescriptor y.desc = some sig → argsL.length = sig.parameters.length)
    (hstack : g.stack = argsL.reverse ++ rest) (hW : 2 * g.monitorRoom + (rest.map fun v => v.category).sum ≤ W9) (hdg : decode c.code g.pc = .ok (.invokestatic index, 3))
    (hpre : ∀ vm₁, s.WarmedH vm₁ → Pre ⟨T.setVm vm₁, locs, cells, slots⟩ argsL.toArray) :
    (∃ (v : Option Value) (vm₁ : Vm) (B : Pt), s.WarmedH vm₁ ∧ Stand p l e R s m args below meth c B.U B.locs B.cells B.slots ∧ Post ⟨T.setVm vm₁, locs, cells, slots⟩ argsL.toArray v B ∧
      ∀ target, Steps p.tables e below (B.U.setTop { g with pc := g.pc + 3, stack := v.toList ++ rest }) target → Steps p.tables e below (T.setTop g) target) ∨
    (∃ (q : Addr) (vm₁ : Vm) (B : Pt), s.WarmedH vm₁ ∧ Stand p l e R s m args below meth c B.U B.locs B.cells B.slots ∧ PostX ⟨T.setVm vm₁, locs, cells, slots⟩ argsL.toArray q B ∧
      Steps p.tables e below (T.setTop g) ((B.U.setTop { g with stack := rest }).pushFrame (.throwing q))) := by
  obtain ⟨mk, hnamed⟩ := Cond.code_named hcode
  obtain ⟨methM, cM, hmethM, -, -, -, -, -, -, hsigM⟩ := Cond.code_spec hnamed hcode
  have hstatic : methM.isStatic = true := Cond.static_spec hnamed hmethM hstat
  obtain ⟨kP, hkP, -⟩ := className_of_methodNamed hnamed
  have hinitP : kP.init = .initialized := Cond.initialized_spec (findClass_of_methodNamed hnamed) hkP hinit
  obtain ⟨vm₁, X₁, hstep₁⟩ := X.invokestatic hexec hown hlink hnamed hmethM hstatic hkP hinitP hy (g := g) hg (argsL := argsL) (rest := rest) (hlen _ hsigM) hstack hdg
  rcases hK m meth c ⟨T.setVm vm₁, locs, cells, slots⟩ { g with stack := rest } (.invokestatic index) mk argsL.toArray X₁ hg hsize hdg hW (X₁.named hnamed) (hpre vm₁ X₁.warmed) with ⟨v, B, X', hpost, hsteps⟩ | ⟨q, B, X', hpost, hsteps⟩
  · exact Or.inl ⟨v, vm₁, B, X₁.warmed, X', hpost, fun target h => hstep₁ _ fun acts => by rw [doInvoke_state]; exact hsteps.trans h⟩
  · exact Or.inr ⟨q, vm₁, B, X₁.warmed, X', hpost, hstep₁ _ fun acts => by rw [doInvoke_state]; exact hsteps⟩
end Calls
theorem vx_cls {s : State} {T : State} {vm₁ : Vm} {E : String} {k : ClassId} (hW : s.WarmedH vm₁) (h : (T.setVm vm₁).vm.findClass E = some k) : s.vm.findClass E = some k := by
  have h1 : vm₁.findClass E = some k := h
  rw [hW.alike.findClass] at h1
  exact h1
/-- the method's frame g, with q thrown over it -/
def vx_W (p : Program) (l : Launch) (e : Env) (R : Room) (s : State) (m : MethodId) (args : Array Value) (below : List Frame) (meth : Method) (c : Code) (H : Heap) (locs : List Loc) (cells slots : Nat) (Q : State → Prop) (g : JFrame) (q : Addr) : Prop :=
  ∀ T : State, T.heap = H → Stand p l e R s m args below meth c T locs cells slots → ∃ t, Steps p.tables e below ((T.setTop g).pushFrame (.throwing q)) t ∧ Q t
def vx_Run (p : Program) (l : Launch) (e : Env) (R : Room) (s : State) (m : MethodId) (args : Array Value) (below : List Frame) (meth : Method) (c : Code) (H : Heap) (locs : List Loc) (cells slots mc ms : Nat) (g : JFrame) (rest : List Value) (Qa : State → Outcome → State → Prop) (XC : String → State → State → Prop) (free : Addr → Prop) : Prop :=
  ∀ T : State, T.heap = H → Stand p l e R s m args below meth c T locs cells slots →
    (∃ (v : Option Value) (st₀ t T' : State) (L : List Loc), st₀.heap = H ∧ Stand p l e R s m args below meth c T' (locs ++ L) (cells + mc) (slots + ms) ∧ (∀ q ∈ L, free q.base) ∧ T'.heap = t.heap ∧ T'.vm = t.vm ∧ Qa st₀ (.returned v) t ∧
      Goes p e below T g T' { g with pc := g.pc + 3, stack := v.toList ++ rest }) ∨
    (∃ (q : Addr) (st₀ t T' : State) (L : List Loc) (E : String) (ce : Cell), st₀.heap = H ∧ Stand p l e R s m args below meth c T' (locs ++ L) (cells + mc) (slots + ms) ∧ (∀ z ∈ L, free z.base) ∧ T'.heap = t.heap ∧ T'.vm = t.vm ∧ XC E st₀ t ∧ t.heap[q]? = some ce ∧ ce.vm = .none ∧ s.vm.findClass E = some ce.cls ∧
      Steps p.tables e below (T.setTop g) ((T'.setTop { g with stack := rest }).pushFrame (.throwing q)))
def vx_X {S : Type} (px : S → Prop) (B : String → S → State → Prop) (A : Nat → Prop) : String → State → State → Prop := fun E st t => ∃ u : S, px u ∧ B E u t ∧ va_F A st t
section Runs
variable {p : Program} {l : Launch} {e : Env} {R : Room} {s : State} {m : MethodId} {args : Array Value} {below : List Frame} {meth : Method} {c : Code} {H : Heap} {locs : List Loc} {cells slots : Nat}
variable {y : MethodName} {bytes cc : ByteArray} {maxL nL mc ms n index : Nat} {ret : Option FieldType} {ws : List Cond} {rm : Room} {Pc : Array Value → State → Prop} {Qc : Array Value → State → Outcome → State → Prop} {XC : String → State → State → Prop} {free : Addr → Prop} {Ts : List Cond} {own C : String} {b : Addr} {As rest : List Value} {g : JFrame}
theorem vx_callBack (cb : CallB R s args own index y bytes maxL ret ws rm mc ms n) (hM : vx_Met l y ws rm Pc Qc XC mc ms free) (hbl : FrameBlind Pc) : vx_Back l R p e below s args y 3 8 (PreOf R mc ms Pc) (PostOf Qc mc ms free) (vx_Post XC mc ms free) := by
  obtain ⟨hrc, hrs, hfr, hlo, hws, hcw, -, hini, -⟩ := cb
  exact vx_back (bytes := bytes) (maxL := maxL) (ret := ret) hM hbl hrc hrs hfr hlo hws hcw (fun a' U hW => word_at hW (Or.inl (by first | rfl | simp [Cond.onTables, Cond.keeps, Cond.steady])) hini)
theorem vx_runV (S : CallFix p m c cc nL s args Ts own) (hM : vx_Met l y ws rm Pc Qc XC mc ms free) (cw : CallW R s args own C index y bytes maxL ret ws rm mc ms n) (hp : PreV s H C b Pc As)
    (hg : g.method = m) (hn : As.length = n) (hsize : g.locals.size = nL) (hstack : g.stack = As.reverse ++ .ref b :: rest) (hW : 2 * g.monitorRoom + (rest.map fun v => v.category).sum ≤ 8) (hdg : decode cc g.pc = .ok (.invokevirtual index, 3)) (hf : cells + mc ≤ R.cells ∧ slots + ms ≤ R.slots) :
    vx_Run p l e R s m args below meth c H locs cells slots mc ms g rest (Qc (Value.ref b :: As).toArray) XC free := by
  have hK : vx_Back l R p e below s args y 3 8 (PreOf R mc ms Pc) (PostOf Qc mc ms free) (vx_Post XC mc ms free) := vx_callBack cw.1 hM hp.1
  obtain ⟨⟨-, -, -, -, -, -, hcode, -, hy, hlen, hl⟩, hin, hse⟩ := cw
  obtain ⟨hx, hb, hml, ho, -⟩ := S
  obtain ⟨-, ⟨cellB, hcB, hoB, hclB⟩, hPc⟩ := hp
  intro T hT X
  rcases vx_callV X hx (C := C) (bytes := bytes) (maxL := maxL) (ret := ret) ho hl hin hse hcode hy hK (by rw [hT]; exact hcB) hoB hclB hg (hsize.trans hml.symm) (argsL := As) (rest := rest) (fun sig h => hn.trans (hlen sig h)) hstack hW (by rw [hb]; exact hdg)
    (fun vm₁ hW₁ => ⟨hf.1, hf.2, hPc (T.setVm vm₁) hT hW₁⟩) with ⟨v, vm₁, ⟨U', l2, c2, s2⟩, hW₁, X', ⟨g', mk, t, L, e1, e2, hq, h1, hL, h2, h3⟩, st⟩ | ⟨q, vm₁, ⟨U', l2, c2, s2⟩, hW₁, X', ⟨g', mk, t, L, E, ce, e1, e2, hq, hce, hcv, hcl, h1, hL, h2, h3⟩, st⟩
  · dsimp only [Pt.U, Pt.locs, Pt.cells, Pt.slots] at X' e1 e2 h1 h2 h3 st
    subst h1; subst h2; subst h3
    exact Or.inl ⟨v, (T.setVm vm₁).calling g' mk (Value.ref b :: As).toArray, t, U', L, hT, X', hL, e1, e2, hq, st⟩
  · dsimp only [Pt.U, Pt.locs, Pt.cells, Pt.slots] at X' e1 e2 h1 h2 h3 st hcl
    subst h1; subst h2; subst h3
    exact Or.inr ⟨q, (T.setVm vm₁).calling g' mk (Value.ref b :: As).toArray, t, U', L, E, ce, hT, X', hL, e1, e2, hq, hce, hcv, vx_cls hW₁ hcl, st⟩
theorem vx_runS (S : CallFix p m c cc nL s args Ts own) (hM : vx_Met l y ws rm Pc Qc XC mc ms free) (cw : CallB R s args own index y bytes maxL ret ws rm mc ms n ∧ (Cond.static y).before args s = true) (hp : PreS s H Pc As)
    (hg : g.method = m) (hn : As.length = n) (hsize : g.locals.size = nL) (hstack : g.stack = As.reverse ++ rest) (hW : 2 * g.monitorRoom + (rest.map fun v => v.category).sum ≤ 8) (hdg : decode cc g.pc = .ok (.invokestatic index, 3)) (hf : cells + mc ≤ R.cells ∧ slots + ms ≤ R.slots) :
    vx_Run p l e R s m args below meth c H locs cells slots mc ms g rest (Qc As.toArray) XC free := by
  have hK : vx_Back l R p e below s args y 3 8 (PreOf R mc ms Pc) (PostOf Qc mc ms free) (vx_Post XC mc ms free) := vx_callBack cw.1 hM hp.1
  obtain ⟨⟨-, -, -, -, -, -, hcode, hini, hy, hlen, hl⟩, hstt⟩ := cw
  obtain ⟨hx, hb, hml, ho, -⟩ := S
  intro T hT X
  rcases vx_callS X hx (bytes := bytes) (maxL := maxL) (ret := ret) ho hl hstt hini hcode hy hK hg (hsize.trans hml.symm) (argsL := As) (rest := rest) (fun sig h => hn.trans (hlen sig h)) hstack hW (by rw [hb]; exact hdg)
    (fun vm₁ hW₁ => ⟨hf.1, hf.2, hp.2 (T.setVm vm₁) hT hW₁⟩) with ⟨v, vm₁, ⟨U', l2, c2, s2⟩, hW₁, X', ⟨g', mk, t, L, e1, e2, hq, h1, hL, h2, h3⟩, st⟩ | ⟨q, vm₁, ⟨U', l2, c2, s2⟩, hW₁, X', ⟨g', mk, t, L, E, ce, e1, e2, hq, hce, hcv, hcl, h1, hL, h2, h3⟩, st⟩
  · dsimp only [Pt.U, Pt.locs, Pt.cells, Pt.slots] at X' e1 e2 h1 h2 h3 st
    subst h1; subst h2; subst h3
    exact Or.inl ⟨v, (T.setVm vm₁).calling g' mk As.toArray, t, U', L, hT, X', hL, e1, e2, hq, st⟩
  · dsimp only [Pt.U, Pt.locs, Pt.cells, Pt.slots] at X' e1 e2 h1 h2 h3 st hcl
    subst h1; subst h2; subst h3
    exact Or.inr ⟨q, (T.setVm vm₁).calling g' mk As.toArray, t, U', L, E, ce, hT, X', hL, e1, e2, hq, hce, hcv, vx_cls hW₁ hcl, st⟩
end Runs
section Rows
variable {p : Program} {l : Launch} {e : Env} {R : Room} {s : State} {m : MethodId} {args : Array Value} {below : List Frame} {meth : Method} {c : Code} {H : Heap} {locs : List Loc} {cells slots : Nat} {Q : State → Prop}
variable {mc ms : Nat} {free : Addr → Prop} {A0 A1 : Nat → Prop} {H0 : Heap} {a : Array Value} {pc : Nat} {ls : Array Slot} {st0 rest : List Value}
theorem vx_keep {st₀ t T' : State} {L : List Loc} (h0 : st₀.heap = H) (e1 : T'.heap = t.heap) (hS : va_S A0 H0 H locs) (hA : ∀ q, q < H.size → A1 q → A0 q) (hf : ∀ q, free q → A0 q) (hL : ∀ q ∈ L, free q.base) (hF : va_F A1 st₀ t) :
    H.size ≤ T'.heap.size ∧ (∀ q : Nat, q < H.size → ¬ A1 q → T'.heap[q]? = H[q]?) ∧ va_S A0 H0 T'.heap (locs ++ L) := by
  obtain ⟨hz, hk⟩ := hF
  rw [h0] at hz hk
  exact ⟨by rw [e1]; exact hz, fun q h1 h2 => by rw [e1]; exact hk q h1 h2,
    ⟨Nat.le_trans hS.1 (by rw [e1]; exact hz), fun q h1 h2 => by rw [e1, hk q (Nat.lt_of_lt_of_le h1 hS.1) (fun z => h2 (hA q (Nat.lt_of_lt_of_le h1 hS.1) z))]; exact hS.2.1 q h1 h2, fun q hq => by
      rcases List.mem_append.mp hq with h | h
      · exact hS.2.2 q h
      · exact hf _ (hL q h)⟩⟩
theorem vx_calli {S SX : Type} {post : Int32 → S → Prop} {px : SX → Prop} {B : S → State → Prop} {BX : String → SX → State → Prop} {AX : Nat → Prop} (hr : vx_Run p l e R s m args below meth c H locs cells slots mc ms (F0 m pc ls st0) rest (va_Qi post B A1 a) (vx_X px BX AX) free) (hS : va_S A0 H0 H locs) (hA : ∀ q, q < H.size → A1 q → A0 q) (hf : ∀ q, free q → A0 q) (hAX : ∀ q, q < H.size → AX q → A0 q)
    (kx : ∀ (E : String) (ce : Cell) (q9 : Addr) (u : SX) (t : State) (H1 : Heap) (locs1 : List Loc), t.heap = H1 → s.vm.Alike t.vm → px u → BX E u t → H.size ≤ H1.size → (∀ q : Nat, q < H.size → ¬ AX q → H1[q]? = H[q]?) → va_S A0 H0 H1 locs1 → H1[q9]? = some ce → ce.vm = .none → s.vm.findClass E = some ce.cls → vx_W p l e R s m args below meth c H1 locs1 (cells + mc) (slots + ms) Q (F0 m pc ls rest) q9)
    (kk : ∀ (r : Int32) (u : S) (t : State) (H1 : Heap) (locs1 : List Loc), t.heap = H1 → s.vm.Alike t.vm → post r u → B u t → H.size ≤ H1.size → (∀ q : Nat, q < H.size → ¬ A1 q → H1[q]? = H[q]?) → va_S A0 H0 H1 locs1 → W p l e R s m args below meth c H1 locs1 (cells + mc) (slots + ms) Q (F0 m (pc + 3) ls (.int r :: rest))) : W p l e R s m args below meth c H locs cells slots Q (F0 m pc ls st0) := by
  intro T hT X
  rcases hr T hT X with ⟨v, st₀, t, T', L, h0, X', hL, e1, e2, ⟨⟨r, u, hv, hp, hb⟩, hF⟩, st⟩ | ⟨q, st₀, t, T', L, E, ce, h0, X', hL, e1, e2, ⟨u, hp, hb, hF⟩, hce, hcv, hcl, st⟩
  · cases hv
    obtain ⟨k1, k2, k3⟩ := vx_keep h0 e1 hS hA hf hL hF
    obtain ⟨t2, a1, b1⟩ := kk r u t T'.heap (locs ++ L) e1.symm (by rw [← e2]; exact X'.warmed.alike) hp hb k1 k2 k3 T' rfl X'
    exact ⟨t2, st t2 a1, b1⟩
  · obtain ⟨k1, k2, k3⟩ := vx_keep h0 e1 hS hAX hf hL hF
    obtain ⟨t2, a1, b1⟩ := kx E ce q u t T'.heap (locs ++ L) e1.symm (by rw [← e2]; exact X'.warmed.alike) hp hb k1 k2 k3 (by rw [e1]; exact hce) hcv hcl T' rfl X'
    exact ⟨t2, st.trans a1, b1⟩
theorem vx_calll {S SX : Type} {post : Int64 → S → Prop} {px : SX → Prop} {B : S → State → Prop} {BX : String → SX → State → Prop} {AX : Nat → Prop} (hr : vx_Run p l e R s m args below meth c H locs cells slots mc ms (F0 m pc ls st0) rest (va_Ql post B A1 a) (vx_X px BX AX) free) (hS : va_S A0 H0 H locs) (hA : ∀ q, q < H.size → A1 q → A0 q) (hf : ∀ q, free q → A0 q) (hAX : ∀ q, q < H.size → AX q → A0 q)
    (kx : ∀ (E : String) (ce : Cell) (q9 : Addr) (u : SX) (t : State) (H1 : Heap) (locs1 : List Loc), t.heap = H1 → s.vm.Alike t.vm → px u → BX E u t → H.size ≤ H1.size → (∀ q : Nat, q < H.size → ¬ AX q → H1[q]? = H[q]?) → va_S A0 H0 H1 locs1 → H1[q9]? = some ce → ce.vm = .none → s.vm.findClass E = some ce.cls → vx_W p l e R s m args below meth c H1 locs1 (cells + mc) (slots + ms) Q (F0 m pc ls rest) q9)
    (kk : ∀ (r : Int64) (u : S) (t : State) (H1 : Heap) (locs1 : List Loc), t.heap = H1 → s.vm.Alike t.vm → post r u → B u t → H.size ≤ H1.size → (∀ q : Nat, q < H.size → ¬ A1 q → H1[q]? = H[q]?) → va_S A0 H0 H1 locs1 → W p l e R s m args below meth c H1 locs1 (cells + mc) (slots + ms) Q (F0 m (pc + 3) ls (.long r :: rest))) : W p l e R s m args below meth c H locs cells slots Q (F0 m pc ls st0) := by
  intro T hT X
  rcases hr T hT X with ⟨v, st₀, t, T', L, h0, X', hL, e1, e2, ⟨⟨r, u, hv, hp, hb⟩, hF⟩, st⟩ | ⟨q, st₀, t, T', L, E, ce, h0, X', hL, e1, e2, ⟨u, hp, hb, hF⟩, hce, hcv, hcl, st⟩
  · cases hv
    obtain ⟨k1, k2, k3⟩ := vx_keep h0 e1 hS hA hf hL hF
    obtain ⟨t2, a1, b1⟩ := kk r u t T'.heap (locs ++ L) e1.symm (by rw [← e2]; exact X'.warmed.alike) hp hb k1 k2 k3 T' rfl X'
    exact ⟨t2, st t2 a1, b1⟩
  · obtain ⟨k1, k2, k3⟩ := vx_keep h0 e1 hS hAX hf hL hF
    obtain ⟨t2, a1, b1⟩ := kx E ce q u t T'.heap (locs ++ L) e1.symm (by rw [← e2]; exact X'.warmed.alike) hp hb k1 k2 k3 (by rw [e1]; exact hce) hcv hcl T' rfl X'
    exact ⟨t2, st.trans a1, b1⟩
theorem vx_callf {S SX : Type} {post : UInt32 → S → Prop} {px : SX → Prop} {B : S → State → Prop} {BX : String → SX → State → Prop} {AX : Nat → Prop} (hr : vx_Run p l e R s m args below meth c H locs cells slots mc ms (F0 m pc ls st0) rest (va_Qf post B A1 a) (vx_X px BX AX) free) (hS : va_S A0 H0 H locs) (hA : ∀ q, q < H.size → A1 q → A0 q) (hf : ∀ q, free q → A0 q) (hAX : ∀ q, q < H.size → AX q → A0 q)
    (kx : ∀ (E : String) (ce : Cell) (q9 : Addr) (u : SX) (t : State) (H1 : Heap) (locs1 : List Loc), t.heap = H1 → s.vm.Alike t.vm → px u → BX E u t → H.size ≤ H1.size → (∀ q : Nat, q < H.size → ¬ AX q → H1[q]? = H[q]?) → va_S A0 H0 H1 locs1 → H1[q9]? = some ce → ce.vm = .none → s.vm.findClass E = some ce.cls → vx_W p l e R s m args below meth c H1 locs1 (cells + mc) (slots + ms) Q (F0 m pc ls rest) q9)
    (kk : ∀ (r : UInt32) (u : S) (t : State) (H1 : Heap) (locs1 : List Loc), t.heap = H1 → s.vm.Alike t.vm → post r u → B u t → H.size ≤ H1.size → (∀ q : Nat, q < H.size → ¬ A1 q → H1[q]? = H[q]?) → va_S A0 H0 H1 locs1 → W p l e R s m args below meth c H1 locs1 (cells + mc) (slots + ms) Q (F0 m (pc + 3) ls (.float r :: rest))) : W p l e R s m args below meth c H locs cells slots Q (F0 m pc ls st0) := by
  intro T hT X
  rcases hr T hT X with ⟨v, st₀, t, T', L, h0, X', hL, e1, e2, ⟨⟨r, u, hv, hp, hb⟩, hF⟩, st⟩ | ⟨q, st₀, t, T', L, E, ce, h0, X', hL, e1, e2, ⟨u, hp, hb, hF⟩, hce, hcv, hcl, st⟩
  · cases hv
    obtain ⟨k1, k2, k3⟩ := vx_keep h0 e1 hS hA hf hL hF
    obtain ⟨t2, a1, b1⟩ := kk r u t T'.heap (locs ++ L) e1.symm (by rw [← e2]; exact X'.warmed.alike) hp hb k1 k2 k3 T' rfl X'
    exact ⟨t2, st t2 a1, b1⟩
  · obtain ⟨k1, k2, k3⟩ := vx_keep h0 e1 hS hAX hf hL hF
    obtain ⟨t2, a1, b1⟩ := kx E ce q u t T'.heap (locs ++ L) e1.symm (by rw [← e2]; exact X'.warmed.alike) hp hb k1 k2 k3 (by rw [e1]; exact hce) hcv hcl T' rfl X'
    exact ⟨t2, st.trans a1, b1⟩
theorem vx_calld {S SX : Type} {post : UInt64 → S → Prop} {px : SX → Prop} {B : S → State → Prop} {BX : String → SX → State → Prop} {AX : Nat → Prop} (hr : vx_Run p l e R s m args below meth c H locs cells slots mc ms (F0 m pc ls st0) rest (va_Qd post B A1 a) (vx_X px BX AX) free) (hS : va_S A0 H0 H locs) (hA : ∀ q, q < H.size → A1 q → A0 q) (hf : ∀ q, free q → A0 q) (hAX : ∀ q, q < H.size → AX q → A0 q)
    (kx : ∀ (E : String) (ce : Cell) (q9 : Addr) (u : SX) (t : State) (H1 : Heap) (locs1 : List Loc), t.heap = H1 → s.vm.Alike t.vm → px u → BX E u t → H.size ≤ H1.size → (∀ q : Nat, q < H.size → ¬ AX q → H1[q]? = H[q]?) → va_S A0 H0 H1 locs1 → H1[q9]? = some ce → ce.vm = .none → s.vm.findClass E = some ce.cls → vx_W p l e R s m args below meth c H1 locs1 (cells + mc) (slots + ms) Q (F0 m pc ls rest) q9)
    (kk : ∀ (r : UInt64) (u : S) (t : State) (H1 : Heap) (locs1 : List Loc), t.heap = H1 → s.vm.Alike t.vm → post r u → B u t → H.size ≤ H1.size → (∀ q : Nat, q < H.size → ¬ A1 q → H1[q]? = H[q]?) → va_S A0 H0 H1 locs1 → W p l e R s m args below meth c H1 locs1 (cells + mc) (slots + ms) Q (F0 m (pc + 3) ls (.double r :: rest))) : W p l e R s m args below meth c H locs cells slots Q (F0 m pc ls st0) := by
  intro T hT X
  rcases hr T hT X with ⟨v, st₀, t, T', L, h0, X', hL, e1, e2, ⟨⟨r, u, hv, hp, hb⟩, hF⟩, st⟩ | ⟨q, st₀, t, T', L, E, ce, h0, X', hL, e1, e2, ⟨u, hp, hb, hF⟩, hce, hcv, hcl, st⟩
  · cases hv
    obtain ⟨k1, k2, k3⟩ := vx_keep h0 e1 hS hA hf hL hF
    obtain ⟨t2, a1, b1⟩ := kk r u t T'.heap (locs ++ L) e1.symm (by rw [← e2]; exact X'.warmed.alike) hp hb k1 k2 k3 T' rfl X'
    exact ⟨t2, st t2 a1, b1⟩
  · obtain ⟨k1, k2, k3⟩ := vx_keep h0 e1 hS hAX hf hL hF
    obtain ⟨t2, a1, b1⟩ := kx E ce q u t T'.heap (locs ++ L) e1.symm (by rw [← e2]; exact X'.warmed.alike) hp hb k1 k2 k3 (by rw [e1]; exact hce) hcv hcl T' rfl X'
    exact ⟨t2, st.trans a1, b1⟩
theorem vx_callv {S SX : Type} {post : S → Prop} {px : SX → Prop} {B : S → State → Prop} {BX : String → SX → State → Prop} {AX : Nat → Prop} (hr : vx_Run p l e R s m args below meth c H locs cells slots mc ms (F0 m pc ls st0) rest (va_Qv post B A1 a) (vx_X px BX AX) free) (hS : va_S A0 H0 H locs) (hA : ∀ q, q < H.size → A1 q → A0 q) (hf : ∀ q, free q → A0 q) (hAX : ∀ q, q < H.size → AX q → A0 q)
    (kx : ∀ (E : String) (ce : Cell) (q9 : Addr) (u : SX) (t : State) (H1 : Heap) (locs1 : List Loc), t.heap = H1 → s.vm.Alike t.vm → px u → BX E u t → H.size ≤ H1.size → (∀ q : Nat, q < H.size → ¬ AX q → H1[q]? = H[q]?) → va_S A0 H0 H1 locs1 → H1[q9]? = some ce → ce.vm = .none → s.vm.findClass E = some ce.cls → vx_W p l e R s m args below meth c H1 locs1 (cells + mc) (slots + ms) Q (F0 m pc ls rest) q9)
    (kk : ∀ (u : S) (t : State) (H1 : Heap) (locs1 : List Loc), t.heap = H1 → s.vm.Alike t.vm → post u → B u t → H.size ≤ H1.size → (∀ q : Nat, q < H.size → ¬ A1 q → H1[q]? = H[q]?) → va_S A0 H0 H1 locs1 → W p l e R s m args below meth c H1 locs1 (cells + mc) (slots + ms) Q (F0 m (pc + 3) ls (rest))) : W p l e R s m args below meth c H locs cells slots Q (F0 m pc ls st0) := by
  intro T hT X
  rcases hr T hT X with ⟨v, st₀, t, T', L, h0, X', hL, e1, e2, ⟨⟨u, hv, hp, hb⟩, hF⟩, st⟩ | ⟨q, st₀, t, T', L, E, ce, h0, X', hL, e1, e2, ⟨u, hp, hb, hF⟩, hce, hcv, hcl, st⟩
  · cases hv
    obtain ⟨k1, k2, k3⟩ := vx_keep h0 e1 hS hA hf hL hF
    obtain ⟨t2, a1, b1⟩ := kk u t T'.heap (locs ++ L) e1.symm (by rw [← e2]; exact X'.warmed.alike) hp hb k1 k2 k3 T' rfl X'
    exact ⟨t2, st t2 a1, b1⟩
  · obtain ⟨k1, k2, k3⟩ := vx_keep h0 e1 hS hAX hf hL hF
    obtain ⟨t2, a1, b1⟩ := kx E ce q u t T'.heap (locs ++ L) e1.symm (by rw [← e2]; exact X'.warmed.alike) hp hb k1 k2 k3 (by rw [e1]; exact hce) hcv hcl T' rfl X'
    exact ⟨t2, st.trans a1, b1⟩
/-- caught by the row x of this method's table; the rows ahead don't take it -/
theorem vx_catch {own name : String} {E : String} {ce : Cell} {q : Addr} (hown : s.vm.findClass own = some m.cls) (pre : List ExceptionTableEntry) (x : ExceptionTableEntry) (suf : List ExceptionTableEntry) (hsplit : c.exceptionTable.toList = pre ++ x :: suf)
    (hpass : ∀ z ∈ pre, covers z pc = false ∨ (z.catchType ≠ 0 ∧ ∃ nm : String, (Cond.classLink own z.catchType nm).before args s = true ∧ va_Nc E nm s)) (hx : covers x pc = true) (h0 : x.catchType ≠ 0)
    (hlink : (Cond.classLink own x.catchType name).before args s = true) (hcast : (Cond.castable E name).before args s = true) (hcell : H[q]? = some ce) (hv : ce.vm = .none) (hcl : s.vm.findClass E = some ce.cls)
    (kk : W p l e R s m args below meth c H locs cells slots Q (F0 m x.handlerPc ls [.ref q])) : vx_W p l e R s m args below meth c H locs cells slots Q (F0 m pc ls rest) q := by
  intro T hT X
  have hpl : e.platform.magicAccessors = ({} : Platform).magicAccessors := by rw [X.admits.platform]
  obtain ⟨c3, c4, hc3, hc4, hasg⟩ := Cond.castable_spec hcast
  cases Option.some.inj (hc3.symm.trans hcl)
  obtain ⟨c5, hc5, hcl5⟩ := Cond.classLink_spec hown hlink e.platform hpl
  cases Option.some.inj (hc4.symm.trans hc5)
  obtain ⟨vm', X', st⟩ := X.thenCaughtThrough q (g := F0 m pc ls rest) rfl (Steps.refl _) (by rw [hT]; exact hcell) (by rw [hv]; rfl) (by obtain ⟨k9, h9, -⟩ := Vm.findClass_spec hcl; exact ⟨k9, h9⟩) pre x suf hsplit
    (fun z hz => by
      rcases hpass z hz with h | ⟨hz0, nm, hl1, hn1⟩
      · exact Or.inl h
      · obtain ⟨c6, hc6, hcl6⟩ := Cond.classLink_spec hown hl1 e.platform hpl
        obtain ⟨a8, b8, h1, h2, h3⟩ := hn1
        cases Option.some.inj (h1.symm.trans hcl)
        cases Option.some.inj (h2.symm.trans hc6)
        exact Or.inr ⟨hz0, _, hcl6, h3⟩) hx (Or.inr ⟨h0, c4, hcl5, hasg⟩)
  obtain ⟨t, a1, b1⟩ := kk (T.setVm vm') hT X'
  exact ⟨t, st.trans a1, b1⟩
end Rows
section Ends
variable {p : Program} {l : Launch} {e : Env} {R : Room} {s : State} {m : MethodId} {args : Array Value} {below : List Frame} {meth : Method} {c : Code} {H : Heap} {locs : List Loc} {cells slots : Nat} {Q : State → Prop}
variable {mc ms : Nat} {free : Addr → Prop} {A0 A1 : Nat → Prop} {H0 : Heap} {a : Array Value} {ls : Array Slot} {st0 rest : List Value}
variable {Qc : Array Value → State → Outcome → State → Prop} {XC : String → State → State → Prop}
/-- what a body that may throw owes at its end -/
def vx_MQ (below : List Frame) (Qc : Array Value → State → Outcome → State → Prop) (XC : String → State → State → Prop) (a : Array Value) (s : State) (mc ms : Nat) (free : Addr → Prop) : State → Prop := fun t =>
  ∃ o, t.status = .running ∧ Ended t below o ∧ vx_Q Qc XC mc ms free a s o t
theorem vx_ret {g : JFrame} {mc ms : Nat} (k : W p l e R s m args below meth c H locs cells slots (MQ below Qc args s mc ms free) g) : W p l e R s m args below meth c H locs cells slots (vx_MQ below Qc XC args s mc ms free) g := by
  intro T hT X
  obtain ⟨t, a1, o, b1, b2, b3, b4⟩ := k T hT X
  exact ⟨t, a1, o, b1, b2, Or.inl ⟨b3, b4⟩⟩
/-- not caught here: it goes on to the caller -/
theorem vx_widen {g : JFrame} {q : Addr} {k n : Nat} (h1 : cells ≤ k) (h2 : slots ≤ n) (kk : vx_W p l e R s m args below meth c H locs k n Q g q) : vx_W p l e R s m args below meth c H locs cells slots Q g q := fun T hT X => kk T hT (stand_widen X h1 h2)
theorem vx_out {pc : Nat} {E : String} {ce : Cell} {q : Addr} {mc ms : Nat} (hout : ∀ x ∈ c.exceptionTable.toList, covers x pc = false) (hlocks : meth.locks = false) (hcell : H[q]? = some ce) (hv : ce.vm = .none) (hcl : s.vm.findClass E = some ce.cls)
    (hx : ∀ t : State, t.heap = H → s.vm.Alike t.vm → XC E s t) (hf : ∀ z ∈ locs, free z.base) (hc : cells ≤ mc) (hs : slots ≤ ms) :
    vx_W p l e R s m args below meth c H locs cells slots (vx_MQ below Qc XC args s mc ms free) (F0 m pc ls rest) q := by
  intro T hT X
  obtain ⟨st1, hrun, hend, hW, hsm⟩ := X.leaveThrown q (g := F0 m pc ls rest) rfl rfl rfl hout hlocks
  have hcell9 : (T.setFrames (.throwing q :: below)).heap[q]? = some ce := by
    show T.heap[q]? = some ce
    rw [hT]; exact hcell
  exact ⟨_, st1, .threw q, hrun, hend, Or.inr ⟨q, rfl, E, ce, locs, hx _ hT hW.alike, hcell9, hv, hcl, hW, hsm.mono hc hs, hf⟩⟩
theorem vx_frame {U : State} {k n : Nat} (h : s.sameButNew ({ U with vm := s.vm } : State) locs k n) : s.heap.size ≤ U.heap.size ∧ ∀ q : Nat, q < s.heap.size → (∀ z ∈ locs, z.base ≠ q) → U.heap[q]? = s.heap[q]? := by
  obtain ⟨-, h2, -, -, -, h6⟩ := h
  refine ⟨h2, fun q hq hz => ?_⟩
  obtain ⟨c9, e1, e2, e3, e4⟩ := h6 q _ (Array.getElem?_eq_getElem hq)
  have hs : c9.slots = (s.heap[q]).slots := Array.ext_getElem? fun i => e4 i fun hm => hz _ hm rfl
  have h9 : c9 = s.heap[q] := by
    rw [hs] at e2
    exact e2
  have e5 : U.heap[q]? = some c9 := e1
  rw [e5, h9, Array.getElem?_eq_getElem hq]
/-- the words of a throw but the four that speak of the heap -/
def vx_no (w : Cond) : Bool := decide (w ≠ .isRef (.static Bundle.tN "UNASSIGNED_STACK" Bundle.steD)) && decide (w ≠ .isRef (.static Bundle.tN "SUPPRESSED_SENTINEL" Bundle.listD)) && decide (w ≠ .laysStatic Bundle.tN "UNASSIGNED_STACK" Bundle.steD) && decide (w ≠ .laysStatic Bundle.tN "SUPPRESSED_SENTINEL" Bundle.listD)
def vx_at0 (own : String) (ic : Nat) (X : String) (names : List String) : List Cond := (Bundle.ownAtoms0 own ic X names).filter vx_no
def vx_atS (own : String) (ic : Nat) (X : String) (names : List String) : List Cond := (Bundle.ownAtoms own ic X names).filter vx_no
/-- a word that the tables alone decide, or a good one -/
def vx_ot (w : Cond) : Bool := w.onTables || goodWord w
theorem vx_ot_at {args a' : Array Value} {s U : State} {w : Cond} (hW : s.WarmedH U.vm) (hvm : s.vm = U.vm) (hg : vx_ot w = true) (h : w.before args s = true) : w.before a' U = true := by
  simp only [vx_ot, Bool.or_eq_true] at hg
  rcases hg with hg | hg
  · exact va_tabs hg hvm h
  · exact word_at hW (good_of_word hg) h
/-- a list's words: the good ones out of the method's own list, the others by premises of their own -/
theorem vx_hat {args : Array Value} {s : State} {L B : List Cond} (h1 : ∀ w ∈ L.filter goodWord, w.before args s = true) (h2 : ∀ w ∈ L.filter (fun w => !goodWord w), w ∈ B) (h3 : ∀ w ∈ B, w.before args s = true) : ∀ w ∈ L, w.before args s = true := by
  intro w hw
  by_cases g : goodWord w = true
  · exact h1 w (List.mem_filter.mpr ⟨hw, g⟩)
  · refine h3 w (h2 w (List.mem_filter.mpr ⟨hw, ?_⟩))
    show (!goodWord w) = true
    cases hgw : goodWord w
    · rfl
    · exact absurd hgw g
theorem vx_c {args : Array Value} {s : State} {w : Cond} {B : List Cond} (h : w.before args s = true) (t : ∀ w ∈ B, w.before args s = true) : ∀ w' ∈ w :: B, w'.before args s = true := fun w' h' => (List.mem_cons.mp h').elim (fun e => by rw [e]; exact h) (t w')
theorem vx_n {args : Array Value} {s : State} : ∀ w ∈ ([] : List Cond), w.before args s = true := fun _ h => nomatch h
theorem vx_own {args : Array Value} {s : State} {L : List Cond} (h1 : ∀ w ∈ L.filter vx_no, w.before args s = true)
    (hU : (Cond.isRef (.static Bundle.tN "UNASSIGNED_STACK" Bundle.steD)).before args s = true) (hN : (Cond.isRef (.static Bundle.tN "SUPPRESSED_SENTINEL" Bundle.listD)).before args s = true)
    (lU : (Cond.laysStatic Bundle.tN "UNASSIGNED_STACK" Bundle.steD).before args s = true) (lN : (Cond.laysStatic Bundle.tN "SUPPRESSED_SENTINEL" Bundle.listD).before args s = true) : ∀ w ∈ L, w.before args s = true := by
  intro w hw
  by_cases e1 : w = .isRef (.static Bundle.tN "UNASSIGNED_STACK" Bundle.steD)
  · rw [e1]; exact hU
  · by_cases e2 : w = .isRef (.static Bundle.tN "SUPPRESSED_SENTINEL" Bundle.listD)
    · rw [e2]; exact hN
    · by_cases e3 : w = .laysStatic Bundle.tN "UNASSIGNED_STACK" Bundle.steD
      · rw [e3]; exact lU
      · by_cases e4 : w = .laysStatic Bundle.tN "SUPPRESSED_SENTINEL" Bundle.listD
        · rw [e4]; exact lN
        · exact h1 w (List.mem_filter.mpr ⟨hw, by unfold vx_no; rw [decide_eq_true e1, decide_eq_true e2, decide_eq_true e3, decide_eq_true e4]; rfl⟩)
/-- where a static field lies, its class's statics cell in H -/
def vx_L (C n d : String) (A : Nat → Prop) (U : State) (H : Heap) : Prop := ∃ (c : ClassId) (k : Class) (i : Nat) (f : Field) (a : Nat) (cell : Cell), U.vm.findClass C = some c ∧ U.fieldFound? C n d = some (c, k, i, f) ∧ f.isStatic = true ∧ k.statics = some a ∧ H[a]? = some cell ∧ cell.vm.isStatics = true ∧ cell.cls = c ∧ f.slot < cell.slots.size ∧ k.staticTypes[f.slot]? = some f.type ∧ ¬ A a
theorem vx_L.moved {C n d : String} {A : Nat → Prop} {u U : State} {H : Heap} (hvm : u.vm.Alike U.vm) (h : vx_L C n d A u H) : vx_L C n d A U H := by
  obtain ⟨c, k, i, f, a, cell, h1, h2, h3, h4, h5, h6, h7, h8, h9, h10⟩ := h
  obtain ⟨k', hi', he⟩ := State.fieldFound?_setVm hvm h2
  exact ⟨c, k', i, f, a, cell, by rw [hvm.findClass]; exact h1, hi', h3, by rw [he]; exact h4, h5, h6, h7, h8, by rw [he]; exact h9, h10⟩
theorem vx_L.kept {C n d : String} {A : Nat → Prop} {U : State} {H H1 : Heap} (h : vx_L C n d A U H) (hq : ∀ a : Nat, a < H.size → ¬ A a → H1[a]? = H[a]?) : vx_L C n d A U H1 := by
  obtain ⟨c, k, i, f, a, cell, h1, h2, h3, h4, h5, h6, h7, h8, h9, h10⟩ := h
  exact ⟨c, k, i, f, a, cell, h1, h2, h3, h4, by rw [hq a (Array.getElem?_eq_some_iff.mp h5).1 h10]; exact h5, h6, h7, h8, h9, h10⟩
theorem vx_L.narrow {C n d : String} {A B : Nat → Prop} {U : State} {H : Heap} (h : vx_L C n d A U H) (hAB : ∀ q, B q → A q) : vx_L C n d B U H := by
  obtain ⟨c, k, i, f, a, cell, h1, h2, h3, h4, h5, h6, h7, h8, h9, h10⟩ := h
  exact ⟨c, k, i, f, a, cell, h1, h2, h3, h4, h5, h6, h7, h8, h9, fun z => h10 (hAB _ z)⟩
theorem vx_L.word {C n d : String} {A : Nat → Prop} {s : State} {args : Array Value} (h : vx_L C n d A s s.heap) : (Cond.laysStatic C n d).before args s = true := by
  obtain ⟨c, k, i, f, a, cell, h1, h2, h3, h4, h5, h6, h7, h8, h9, -⟩ := h
  show (Cond.laysStatic C n d).holds args s none s [] = true
  exact Cond.laysStatic_of h1 h2 h3 h4 h5 h6 h7 h8 h9
/-- .. and what it holds: null or some reference -/
def vx_Zq (C n d : String) (A : Nat → Prop) (U : State) (H : Heap) : Prop := va_Zq C n d A U H ∧ vx_L C n d A U H
theorem vx_Zq.moved {C n d : String} {A : Nat → Prop} {u U : State} {H : Heap} (hvm : u.vm.Alike U.vm) (h : vx_Zq C n d A u H) : vx_Zq C n d A U H := ⟨va_Zq.moved hvm h.1, vx_L.moved hvm h.2⟩
theorem vx_Zq.kept {C n d : String} {A : Nat → Prop} {U : State} {H H1 : Heap} (h : vx_Zq C n d A U H) (hq : ∀ a : Nat, a < H.size → ¬ A a → H1[a]? = H[a]?) : vx_Zq C n d A U H1 := ⟨va_Zq.kept h.1 hq, vx_L.kept h.2 hq⟩
theorem vx_Zq.narrow {C n d : String} {A B : Nat → Prop} {U : State} {H : Heap} (h : vx_Zq C n d A U H) (hAB : ∀ q, B q → A q) : vx_Zq C n d B U H := ⟨va_Zq.narrow h.1 hAB, vx_L.narrow h.2 hAB⟩
theorem vx_Zqof {args : Array Value} {s : State} {C n d : String} {A : Nat → Prop} (hl : (Cond.laysStatic C n d).before args s = true) (hini : (Cond.initialized C).before args s = true) (h : (Cond.isRef (.static C n d)).before args s = true) (hA : ∀ a : Nat, a < s.heap.size → ¬ A a) : vx_Zq C n d A s s.heap := by
  refine ⟨va_Zqof hl hini h hA, ?_⟩
  obtain ⟨c, k, i, f, a, cell, h1, h2, h3, h4, h5, h6, h7, h8, h9⟩ := Cond.laysStatic_spec hl
  exact ⟨c, k, i, f, a, cell, h1, h2, h3, h4, h5, h6, h7, h8, h9, hA a (Array.getElem?_eq_some_iff.mp h5).1⟩
theorem vx_isRef {C n d : String} {v : Value} {A : Nat → Prop} {s : State} {args : Array Value} (h : va_Z C n d v A s s.heap) (hv : v.isRef = true) : (Cond.isRef (.static C n d)).before args s = true := by
  obtain ⟨cf, kf, fi, f, a, cell, h1, h2, h3, h4, h5, h6, h7, -⟩ := h
  have he : (Term.static C n d).eval args s none [] s = some v := by
    simp [Term.eval, State.fieldNamed?, h1, h2, h4, h5, h6, h7]
  simp only [Cond.before, Cond.holds, Cond.value, he]
  cases v <;> simp_all [Value.isRef]
theorem vx_isRefq {C n d : String} {A : Nat → Prop} {s : State} {args : Array Value} (h : va_Zq C n d A s s.heap) : (Cond.isRef (.static C n d)).before args s = true := by
  rcases h with h | ⟨t, h⟩
  · exact vx_isRef h rfl
  · exact vx_isRef h rfl
/-- the same frame, seen from here: as if the method were called anew in this heap -/
theorem vx_rebase {T : State} (X : Stand p l e R s m args below meth c T locs cells slots) {R' : Room} (hf : R'.frames ≤ R.frames) (hl : R'.locals ≤ R.locals) (hc : cells + R'.cells ≤ R.cells) (hs : slots + R'.slots ≤ R.slots) :
    Stand p l e R' ((T.setVm s.vm).setFrames (.invoking m args :: below)) m args below meth c T [] 0 0 := by
  have htop : (T.setVm s.vm).topJava?.isSome := X.here.top
  have hF : ((T.setVm s.vm).setFrames (.invoking m args :: below)).frames = .invoking m args :: below := State.frames_setFrames _ (State.cur_lt_of_top htop)
  obtain ⟨g₀, hg0⟩ := Option.isSome_iff_exists.mp htop
  obtain ⟨r, hr⟩ := State.topJava?_eq_some.mp hg0
  have hl9 : e.platform.stackLimits (T.setVm s.vm).me = e.platform.stackLimits s.me := X.limits
  have hb9 : (T.setVm s.vm).me.stackBytes = s.me.stackBytes := X.bytes
  refine ⟨X.admits, X.cas, X.clock, hF, ?_, X.hears, X.method, X.code, X.here, X.tail, X.warmed, ?_, ?_, ?_⟩
  · have h := X.room
    have hU : ((T.setVm s.vm).setFrames (.invoking m args :: below)).localsInUse = s.localsInUse := by
      rw [State.localsInUse_invoking hF (meth := meth) (c := c) X.method X.code, State.localsInUse_invoking X.frames X.method X.code]
    simp only [State.hasRoom, Bool.and_eq_true, decide_eq_true_eq] at h ⊢
    obtain ⟨⟨⟨⟨h1, h2, h3, h4, h5, h6⟩, h7⟩, h8⟩, h9⟩ := h
    rw [X.frames, List.length_cons] at h2 h3
    have q1 := X.heapSize
    have q2 := X.used
    simp only [hF, hU, List.length_cons, State.stackLimits_setFrames, State.stackBytes_setFrames, hl9, hb9]
    refine ⟨⟨⟨⟨by omega, by omega, by omega, by omega, by omega, h6⟩, ?_⟩, ?_⟩, X.book⟩
    · show T.heap.size + R'.cells ≤ e.platform.maxCells
      omega
    · show T.slotsUsed + R'.slots ≤ e.platform.maxSlots
      omega
  · rw [State.stackLimits_setFrames]; rfl
  · rw [State.stackBytes_setFrames]; rfl
  · refine ⟨?_, Nat.le_refl _, Nat.le_refl _, ?_, ?_, fun a c9 h9 => ⟨c9, h9, rfl, rfl, fun _ _ => rfl⟩⟩
    · obtain ⟨t, ht, -⟩ := State.frames_cons hr
      show T.setVm s.vm = { ((T.setVm s.vm).setFrames (.invoking m args :: below)).setFrames (T.setVm s.vm).frames with heap := T.heap, slotsUsed := T.slotsUsed }
      rw [State.setFrames_setFrames, State.setFrames_self ht]
      rfl
    · show T.slotsUsed = T.slotsUsed + ((T.heap.toList.drop T.heap.size).map (·.slots.size)).sum
      rw [List.drop_eq_nil_of_le (Nat.le_of_eq Array.length_toList)]
      rfl
    · show ((T.heap.toList.drop T.heap.size).map (·.slots.size)).sum ≤ 0
      rw [List.drop_eq_nil_of_le (Nat.le_of_eq Array.length_toList)]
      exact Nat.le_refl _
/-- 'throw new E()': new; dup; invokespecial; athrow -/
theorem vx_throw0 {cc : ByteArray} {pc : Nat} (hexec : p.tables.exec = Jvm.exec) (hb : c.code = cc) (hl : l.stackTraces = false) {own cls : String} {names : List String} {ik ic mc ms : Nat} {A : Nat → Prop}
    (hown : s.vm.findClass own = some m.cls) (hcls : Bundle.fit cls = true) (hnames : ∀ n ∈ names, Bundle.fit n = true)
    (hk : (Cond.classLink own ik cls).before args s = true) (hini : (Cond.initialized cls).before args s = true) (hat : ∀ w ∈ vx_at0 own ic cls names, w.before args s = true)
    (hgood : ∀ w ∈ Cond.classLink own ik cls :: Cond.initialized cls :: vx_at0 own ic cls names, vx_ot w = true)
    (hU : vx_Zq Bundle.tN "UNASSIGNED_STACK" Bundle.steD A s s.heap) (hN : vx_Zq Bundle.tN "SUPPRESSED_SENTINEL" Bundle.listD A s s.heap) (hS : va_S A s.heap H locs) (hsize : ls.size = c.maxLocals)
    (d0 : decode cc pc = .ok (.new ik, 3)) (d3 : decode cc (pc + 3) = .ok (.dup, 1)) (d4 : decode cc (pc + 4) = .ok (.invokespecial ic, 3)) (d7 : decode cc (pc + 7) = .ok (.athrow, 1))
    (hout : ∀ x ∈ c.exceptionTable.toList, covers x (pc + 7) = false)
    (hRframes : names.length + 3 < R.frames) (hRlocals : (rest.map fun v => v.category).sum + (13 * (names.length + 1) + 42) ≤ R.locals) (hRcells : cells + 1 ≤ R.cells) (hRslots : slots + 6 ≤ R.slots) (hlocks : meth.locks = false)
    (hx : ∀ t : State, s.vm.Alike t.vm → H.size ≤ t.heap.size → (∀ q : Nat, q < H.size → t.heap[q]? = H[q]?) → XC cls s t)
    (hf : ∀ z ∈ locs, free z.base) (hc : cells + 1 ≤ mc) (hs : slots + 6 ≤ ms) :
    W p l e R s m args below meth c H locs cells slots (vx_MQ below Qc XC args s mc ms free) (F0 m pc ls rest) := by
  intro T hT X
  have htr : e.platform.stackTraces = false := (show e.platform.stackTraces = l.stackTraces by rw [X.admits.platform]).trans hl
  have Y := vx_rebase X (R' := { frames := R.frames, locals := R.locals, cells := 1, slots := 6 }) (Nat.le_refl _) (Nat.le_refl _) hRcells hRslots
  obtain ⟨s', hA⟩ : ∃ z, z = (T.setVm s.vm).setFrames (.invoking m args :: below) := ⟨_, rfl⟩
  rw [← hA] at Y
  have hvm : s'.vm = s.vm := by rw [hA]; rfl
  have hhp : s'.heap = H := by rw [hA]; exact hT
  have hW0 : s.WarmedH s'.vm := by rw [hvm]; exact State.WarmedH.refl s
  have hat' : ∀ w ∈ vx_at0 own ic cls names, w.before args s' = true := fun w hw => vx_ot_at hW0 hvm.symm (hgood w (List.mem_cons_of_mem _ (List.mem_cons_of_mem _ hw))) (hat w hw)
  have hk' : (Cond.classLink own ik cls).before args s' = true := vx_ot_at hW0 hvm.symm (hgood _ List.mem_cons_self) hk
  have hini' : (Cond.initialized cls).before args s' = true := vx_ot_at hW0 hvm.symm (hgood _ (List.mem_cons_of_mem _ List.mem_cons_self)) hini
  have hU' : vx_Zq Bundle.tN "UNASSIGNED_STACK" Bundle.steD A s' s'.heap := by rw [hhp]; exact vx_Zq.moved hW0.alike (hU.kept hS.2.1)
  have hN' : vx_Zq Bundle.tN "SUPPRESSED_SENTINEL" Bundle.listD A s' s'.heap := by rw [hhp]; exact vx_Zq.moved hW0.alike (hN.kept hS.2.1)
  have h : ∀ w ∈ Bundle.ownAtoms0 own ic cls names, w.before args s' = true := vx_own hat' (vx_isRefq hU'.1) (vx_isRefq hN'.1) hU'.2.word hN'.2.word
  have hown' : s'.vm.findClass own = some m.cls := by rw [hvm]; exact hown
  have hins : (Cond.instantiable cls 6).before args s' = true := h _ (by simp [Bundle.ownAtoms0])
  obtain ⟨vm₁, cX, kX, hfX, hkX, -, -, X₁, st1⟩ := Y.newCold hexec (own := own) (C := cls) (index := ik) (n := 6) hown' hk' hins hini'
    (g := F0 m pc ls rest) rfl (by rw [hb]; exact d0) (Nat.le_refl _) (Nat.le_refl _)
  generalize hT1 : (T.setVm vm₁).pushCell { cls := cX, slots := kX.instanceTypes.map defaultValue, vm := .none } = T1 at X₁ st1
  have hcat : (Value.ref T.heap.size).category = 1 := rfl
  have hcellA : T1.heap[T.heap.size]? = some (freshCell cX kX) := by rw [← hT1]; exact State.heap_pushCell_size _ _
  have d3' : decode c.code (pc + 3) = .ok (.dup, 1) := by rw [hb]; exact d3
  obtain ⟨U, hsteps, hrun, hend, hW, hsame, ce, hce, hO⟩ := X₁.ctorThrow0 hexec htr (own := own) (cls := cls) (names := names) (ic := ic) hown' hcls hnames h (fun x hx => nomatch hx) hfX hkX hcellA (by rw [hhp, hT]; exact Nat.le_refl _)
    (g := { method := m, pc := pc + 4, locals := ls, stack := .ref T.heap.size :: .ref T.heap.size :: rest, locked := none }) rfl hsize rfl rfl (rest := rest) rfl
    (by rw [hb]; exact d4) (by rw [hb]; exact d7) hout hRframes (by simp only [List.map_cons, List.sum_cons, hcat]; omega) hlocks
  obtain ⟨f1, f2⟩ := vx_frame hsame
  rw [hhp] at f1 f2
  have hWs : s.WarmedH U.vm := State.WarmedH.trans hW0 hW
  have hcl : s.vm.findClass cls = some ce.cls := by
    have h9 := hO.cls
    rw [hvm] at h9
    exact h9
  have hall : s.sameButNew ({ U with vm := s.vm } : State) locs mc ms := by
    subst hA
    obtain ⟨e1, e2⟩ := hsame
    rw [State.setFrames_setFrames] at e1
    have h2 : (T.setVm s.vm).sameButNew ({ U with vm := s.vm } : State) [] (0 + 1) (0 + 6) := ⟨e1, e2⟩
    have h3 := X.same.trans h2
    rw [List.append_nil] at h3
    exact h3.mono hc hs
  refine ⟨U, ?_, .threw T.heap.size, hrun, hend, Or.inr ⟨T.heap.size, rfl, cls, ce, locs, hx U hWs.alike f1 (fun q hq => f2 q hq (fun z hz => nomatch hz)), hce, hO.vm, hcl, hWs, hall, hf⟩⟩
  refine st1 _ ?_
  show Steps p.tables e below (T1.setTop { method := m, pc := pc + 3, locals := ls, stack := .ref T.heap.size :: rest, locked := none }) _
  jvm_step X₁.here [X₁.here.top, hexec, d3', Value.category]
  exact hsteps
/-- 'throw new E("text")': new; dup; ldc; invokespecial; athrow -/
theorem vx_throwS {cc : ByteArray} {pc : Nat} (hexec : p.tables.exec = Jvm.exec) (hb : c.code = cc) (hl : l.stackTraces = false) {own cls text : String} {names : List String} {ik is ic mc ms sa : Nat} {A : Nat → Prop}
    (hown : s.vm.findClass own = some m.cls) (hcls : Bundle.fit cls = true) (hnames : ∀ n ∈ names, Bundle.fit n = true)
    (hk : (Cond.classLink own ik cls).before args s = true) (hini : (Cond.initialized cls).before args s = true) (hstr : vk_R own is text sa s) (hat : ∀ w ∈ vx_atS own ic cls names, w.before args s = true)
    (hgood : ∀ w ∈ Cond.classLink own ik cls :: Cond.initialized cls :: vx_atS own ic cls names, vx_ot w = true)
    (hU : vx_Zq Bundle.tN "UNASSIGNED_STACK" Bundle.steD A s s.heap) (hN : vx_Zq Bundle.tN "SUPPRESSED_SENTINEL" Bundle.listD A s s.heap) (hS : va_S A s.heap H locs) (hsize : ls.size = c.maxLocals)
    (d0 : decode cc pc = .ok (.new ik, 3)) (d3 : decode cc (pc + 3) = .ok (.dup, 1)) (d4 : decode cc (pc + 4) = .ok (.ldc is, 2)) (d6 : decode cc (pc + 6) = .ok (.invokespecial ic, 3)) (d9 : decode cc (pc + 9) = .ok (.athrow, 1))
    (hout : ∀ x ∈ c.exceptionTable.toList, covers x (pc + 9) = false)
    (hRframes : names.length + 3 < R.frames) (hRlocals : (rest.map fun v => v.category).sum + (13 * (names.length + 1) + 43) ≤ R.locals) (hRcells : cells + 1 ≤ R.cells) (hRslots : slots + 6 ≤ R.slots) (hlocks : meth.locks = false)
    (hx : ∀ t : State, s.vm.Alike t.vm → H.size ≤ t.heap.size → (∀ q : Nat, q < H.size → t.heap[q]? = H[q]?) → XC cls s t)
    (hf : ∀ z ∈ locs, free z.base) (hc : cells + 1 ≤ mc) (hs : slots + 6 ≤ ms) :
    W p l e R s m args below meth c H locs cells slots (vx_MQ below Qc XC args s mc ms free) (F0 m pc ls rest) := by
  intro T hT X
  have htr : e.platform.stackTraces = false := (show e.platform.stackTraces = l.stackTraces by rw [X.admits.platform]).trans hl
  have Y := vx_rebase X (R' := { frames := R.frames, locals := R.locals, cells := 1, slots := 6 }) (Nat.le_refl _) (Nat.le_refl _) hRcells hRslots
  obtain ⟨s', hA⟩ : ∃ z, z = (T.setVm s.vm).setFrames (.invoking m args :: below) := ⟨_, rfl⟩
  rw [← hA] at Y
  have hvm : s'.vm = s.vm := by rw [hA]; rfl
  have hhp : s'.heap = H := by rw [hA]; exact hT
  have hW0 : s.WarmedH s'.vm := by rw [hvm]; exact State.WarmedH.refl s
  have hat' : ∀ w ∈ vx_atS own ic cls names, w.before args s' = true := fun w hw => vx_ot_at hW0 hvm.symm (hgood w (List.mem_cons_of_mem _ (List.mem_cons_of_mem _ hw))) (hat w hw)
  have hk' : (Cond.classLink own ik cls).before args s' = true := vx_ot_at hW0 hvm.symm (hgood _ List.mem_cons_self) hk
  have hini' : (Cond.initialized cls).before args s' = true := vx_ot_at hW0 hvm.symm (hgood _ (List.mem_cons_of_mem _ List.mem_cons_self)) hini
  have hU' : vx_Zq Bundle.tN "UNASSIGNED_STACK" Bundle.steD A s' s'.heap := by rw [hhp]; exact vx_Zq.moved hW0.alike (hU.kept hS.2.1)
  have hN' : vx_Zq Bundle.tN "SUPPRESSED_SENTINEL" Bundle.listD A s' s'.heap := by rw [hhp]; exact vx_Zq.moved hW0.alike (hN.kept hS.2.1)
  have h : ∀ w ∈ Bundle.ownAtoms own ic cls names, w.before args s' = true := vx_own hat' (vx_isRefq hU'.1) (vx_isRefq hN'.1) hU'.2.word hN'.2.word
  have hown' : s'.vm.findClass own = some m.cls := by rw [hvm]; exact hown
  have hins : (Cond.instantiable cls 6).before args s' = true := h _ (by simp [Bundle.ownAtoms])
  obtain ⟨vm₁, cX, kX, hfX, hkX, -, -, X₁, st1⟩ := Y.newCold hexec (own := own) (C := cls) (index := ik) (n := 6) hown' hk' hins hini'
    (g := F0 m pc ls rest) rfl (by rw [hb]; exact d0) (Nat.le_refl _) (Nat.le_refl _)
  generalize hT1 : (T.setVm vm₁).pushCell { cls := cX, slots := kX.instanceTypes.map defaultValue, vm := .none } = T1 at X₁ st1
  have hcat : (Value.ref T.heap.size).category = 1 := rfl
  have hcellA : T1.heap[T.heap.size]? = some (freshCell cX kX) := by rw [← hT1]; exact State.heap_pushCell_size _ _
  have d3' : decode c.code (pc + 3) = .ok (.dup, 1) := by rw [hb]; exact d3
  have d4' : decode c.code (pc + 4) = .ok (.ldc is, 2) := by rw [hb]; exact d4
  have hstr' : vk_R own is text sa s' := vk_R.warm hW0 hstr
  obtain ⟨U, hsteps, hrun, hend, hW, hsame, ce, hce, hO⟩ := X₁.ctorThrowS hexec htr (own := own) (cls := cls) (names := names) (ic := ic) hown' hcls hnames h (fun x hx => nomatch hx) hfX hkX hcellA (by rw [hhp, hT]; exact Nat.le_refl _) (msg := .ref sa) rfl
    (g := { method := m, pc := pc + 6, locals := ls, stack := .ref sa :: .ref T.heap.size :: .ref T.heap.size :: rest, locked := none }) rfl hsize rfl rfl (rest := rest) rfl
    (by rw [hb]; exact d6) (by rw [hb]; exact d9) hout hRframes (by simp only [List.map_cons, List.sum_cons, hcat]; omega) hlocks
  obtain ⟨f1, f2⟩ := vx_frame hsame
  rw [hhp] at f1 f2
  have hWs : s.WarmedH U.vm := State.WarmedH.trans hW0 hW
  have hcl : s.vm.findClass cls = some ce.cls := by
    have h9 := hO.cls
    rw [hvm] at h9
    exact h9
  have hall : s.sameButNew ({ U with vm := s.vm } : State) locs mc ms := by
    subst hA
    obtain ⟨e1, e2⟩ := hsame
    rw [State.setFrames_setFrames] at e1
    have h2 : (T.setVm s.vm).sameButNew ({ U with vm := s.vm } : State) [] (0 + 1) (0 + 6) := ⟨e1, e2⟩
    have h3 := X.same.trans h2
    rw [List.append_nil] at h3
    exact h3.mono hc hs
  refine ⟨U, ?_, .threw T.heap.size, hrun, hend, Or.inr ⟨T.heap.size, rfl, cls, ce, locs, hx U hWs.alike f1 (fun q hq => f2 q hq (fun z hz => nomatch hz)), hce, hO.vm, hcl, hWs, hall, hf⟩⟩
  refine st1 _ ?_
  show Steps p.tables e below (T1.setTop { method := m, pc := pc + 3, locals := ls, stack := .ref T.heap.size :: rest, locked := none }) _
  jvm_step X₁.here [X₁.here.top, hexec, d3', Value.category]
  exact X₁.ldcString hexec (own := own) (text := text) (index := is) (a := sa) hown' hstr'.1 hstr'.2
    (g := { method := m, pc := pc + 4, locals := ls, stack := .ref T.heap.size :: .ref T.heap.size :: rest, locked := none }) rfl d4' _ hsteps
/-- 'throw new E("text")', the text by a wide index -/
theorem vx_throwSW {cc : ByteArray} {pc : Nat} (hexec : p.tables.exec = Jvm.exec) (hb : c.code = cc) (hl : l.stackTraces = false) {own cls text : String} {names : List String} {ik is ic mc ms sa : Nat} {A : Nat → Prop}
    (hown : s.vm.findClass own = some m.cls) (hcls : Bundle.fit cls = true) (hnames : ∀ n ∈ names, Bundle.fit n = true)
    (hk : (Cond.classLink own ik cls).before args s = true) (hini : (Cond.initialized cls).before args s = true) (hstr : vk_R own is text sa s) (hat : ∀ w ∈ vx_atS own ic cls names, w.before args s = true)
    (hgood : ∀ w ∈ Cond.classLink own ik cls :: Cond.initialized cls :: vx_atS own ic cls names, vx_ot w = true)
    (hU : vx_Zq Bundle.tN "UNASSIGNED_STACK" Bundle.steD A s s.heap) (hN : vx_Zq Bundle.tN "SUPPRESSED_SENTINEL" Bundle.listD A s s.heap) (hS : va_S A s.heap H locs) (hsize : ls.size = c.maxLocals)
    (d0 : decode cc pc = .ok (.new ik, 3)) (d3 : decode cc (pc + 3) = .ok (.dup, 1)) (d4 : decode cc (pc + 4) = .ok (.ldc_w is, 3)) (d7 : decode cc (pc + 7) = .ok (.invokespecial ic, 3)) (d10 : decode cc (pc + 10) = .ok (.athrow, 1))
    (hout : ∀ x ∈ c.exceptionTable.toList, covers x (pc + 10) = false)
    (hRframes : names.length + 3 < R.frames) (hRlocals : (rest.map fun v => v.category).sum + (13 * (names.length + 1) + 43) ≤ R.locals) (hRcells : cells + 1 ≤ R.cells) (hRslots : slots + 6 ≤ R.slots) (hlocks : meth.locks = false)
    (hx : ∀ t : State, s.vm.Alike t.vm → H.size ≤ t.heap.size → (∀ q : Nat, q < H.size → t.heap[q]? = H[q]?) → XC cls s t)
    (hf : ∀ z ∈ locs, free z.base) (hc : cells + 1 ≤ mc) (hs : slots + 6 ≤ ms) :
    W p l e R s m args below meth c H locs cells slots (vx_MQ below Qc XC args s mc ms free) (F0 m pc ls rest) := by
  intro T hT X
  have htr : e.platform.stackTraces = false := (show e.platform.stackTraces = l.stackTraces by rw [X.admits.platform]).trans hl
  have Y := vx_rebase X (R' := { frames := R.frames, locals := R.locals, cells := 1, slots := 6 }) (Nat.le_refl _) (Nat.le_refl _) hRcells hRslots
  obtain ⟨s', hA⟩ : ∃ z, z = (T.setVm s.vm).setFrames (.invoking m args :: below) := ⟨_, rfl⟩
  rw [← hA] at Y
  have hvm : s'.vm = s.vm := by rw [hA]; rfl
  have hhp : s'.heap = H := by rw [hA]; exact hT
  have hW0 : s.WarmedH s'.vm := by rw [hvm]; exact State.WarmedH.refl s
  have hat' : ∀ w ∈ vx_atS own ic cls names, w.before args s' = true := fun w hw => vx_ot_at hW0 hvm.symm (hgood w (List.mem_cons_of_mem _ (List.mem_cons_of_mem _ hw))) (hat w hw)
  have hk' : (Cond.classLink own ik cls).before args s' = true := vx_ot_at hW0 hvm.symm (hgood _ List.mem_cons_self) hk
  have hini' : (Cond.initialized cls).before args s' = true := vx_ot_at hW0 hvm.symm (hgood _ (List.mem_cons_of_mem _ List.mem_cons_self)) hini
  have hU' : vx_Zq Bundle.tN "UNASSIGNED_STACK" Bundle.steD A s' s'.heap := by rw [hhp]; exact vx_Zq.moved hW0.alike (hU.kept hS.2.1)
  have hN' : vx_Zq Bundle.tN "SUPPRESSED_SENTINEL" Bundle.listD A s' s'.heap := by rw [hhp]; exact vx_Zq.moved hW0.alike (hN.kept hS.2.1)
  have h : ∀ w ∈ Bundle.ownAtoms own ic cls names, w.before args s' = true := vx_own hat' (vx_isRefq hU'.1) (vx_isRefq hN'.1) hU'.2.word hN'.2.word
  have hown' : s'.vm.findClass own = some m.cls := by rw [hvm]; exact hown
  have hins : (Cond.instantiable cls 6).before args s' = true := h _ (by simp [Bundle.ownAtoms])
  obtain ⟨vm₁, cX, kX, hfX, hkX, -, -, X₁, st1⟩ := Y.newCold hexec (own := own) (C := cls) (index := ik) (n := 6) hown' hk' hins hini'
    (g := F0 m pc ls rest) rfl (by rw [hb]; exact d0) (Nat.le_refl _) (Nat.le_refl _)
  generalize hT1 : (T.setVm vm₁).pushCell { cls := cX, slots := kX.instanceTypes.map defaultValue, vm := .none } = T1 at X₁ st1
  have hcat : (Value.ref T.heap.size).category = 1 := rfl
  have hcellA : T1.heap[T.heap.size]? = some (freshCell cX kX) := by rw [← hT1]; exact State.heap_pushCell_size _ _
  have d3' : decode c.code (pc + 3) = .ok (.dup, 1) := by rw [hb]; exact d3
  have d4' : decode c.code (pc + 4) = .ok (.ldc_w is, 3) := by rw [hb]; exact d4
  have hstr' : vk_R own is text sa s' := vk_R.warm hW0 hstr
  obtain ⟨U, hsteps, hrun, hend, hW, hsame, ce, hce, hO⟩ := X₁.ctorThrowS hexec htr (own := own) (cls := cls) (names := names) (ic := ic) hown' hcls hnames h (fun x hx => nomatch hx) hfX hkX hcellA (by rw [hhp, hT]; exact Nat.le_refl _) (msg := .ref sa) rfl
    (g := { method := m, pc := pc + 7, locals := ls, stack := .ref sa :: .ref T.heap.size :: .ref T.heap.size :: rest, locked := none }) rfl hsize rfl rfl (rest := rest) rfl
    (by rw [hb]; exact d7) (by rw [hb]; exact d10) hout hRframes (by simp only [List.map_cons, List.sum_cons, hcat]; omega) hlocks
  obtain ⟨f1, f2⟩ := vx_frame hsame
  rw [hhp] at f1 f2
  have hWs : s.WarmedH U.vm := State.WarmedH.trans hW0 hW
  have hcl : s.vm.findClass cls = some ce.cls := by
    have h9 := hO.cls
    rw [hvm] at h9
    exact h9
  have hall : s.sameButNew ({ U with vm := s.vm } : State) locs mc ms := by
    subst hA
    obtain ⟨e1, e2⟩ := hsame
    rw [State.setFrames_setFrames] at e1
    have h2 : (T.setVm s.vm).sameButNew ({ U with vm := s.vm } : State) [] (0 + 1) (0 + 6) := ⟨e1, e2⟩
    have h3 := X.same.trans h2
    rw [List.append_nil] at h3
    exact h3.mono hc hs
  refine ⟨U, ?_, .threw T.heap.size, hrun, hend, Or.inr ⟨T.heap.size, rfl, cls, ce, locs, hx U hWs.alike f1 (fun q hq => f2 q hq (fun z hz => nomatch hz)), hce, hO.vm, hcl, hWs, hall, hf⟩⟩
  refine st1 _ ?_
  show Steps p.tables e below (T1.setTop { method := m, pc := pc + 3, locals := ls, stack := .ref T.heap.size :: rest, locked := none }) _
  jvm_step X₁.here [X₁.here.top, hexec, d3', Value.category]
  exact X₁.ldcStringW hexec (own := own) (text := text) (index := is) (a := sa) hown' hstr'.1 hstr'.2
    (g := { method := m, pc := pc + 4, locals := ls, stack := .ref T.heap.size :: .ref T.heap.size :: rest, locked := none }) rfl d4' _ hsteps
end Ends
section Bodies
variable {l : Launch}
theorem vx_ofW {y : MethodName} {ws ws' : List Cond} {rm : Room} {Pc : Array Value → State → Prop} {Qc : Array Value → State → Outcome → State → Prop} {XC : String → State → State → Prop} {mc ms : Nat} {free : Addr → Prop} {cc : ByteArray} {maxL : Nat} {ret : Option FieldType}
    (hy : plainName y.cls = true) (hw : ws = Cond.code y cc maxL ret :: ws')
    (body : ∀ p e s m args below meth c s₁, BodyLoose p l y (headSpec ws rm) cc maxL ret e s m args below meth c s₁ → c.maxLocals = maxL → (∀ x ∈ c.exceptionTable.toList, False) → Pc args s →
      W p l e (headSpec ws rm).room s m args below meth c s.heap [] 0 0 (vx_MQ below Qc XC args s mc ms free) (entryFrame m args maxL)) : vx_Met l y ws rm Pc Qc XC mc ms free := by
  refine MetFree.of_bodyS (code := cc) (maxLocals := maxL) (ret := ret) hy ?_ ?_
  · intro args s m h hn
    obtain ⟨meth, c, h1, h2, h3, h4, h5, h6, -, -⟩ := Cond.code_spec hn (atoms_spec (ws := ws) h _ (by rw [hw]; exact List.mem_cons_self))
    exact ⟨meth, c, h1, h2, h3, h4, h5, h6⟩
  · intro p e s m args below meth c s₁ B hml hP _
    have hh0 : s₁.heap = s.heap := by rw [B.state]; rfl
    have ht : ∀ x ∈ c.exceptionTable.toList, False := by
      obtain ⟨meth9, c9, h1, h2, -, -, -, -, h7, -⟩ := Cond.code_spec B.named (atoms_spec (ws := ws) B.pre _ (by rw [hw]; exact List.mem_cons_self))
      cases Option.some.inj (h1.symm.trans B.method)
      cases Option.some.inj (h2.symm.trans (Stand.of_body B).code)
      intro x hx
      rw [Array.isEmpty_iff.mp h7] at hx
      cases hx
    obtain ⟨t, a1, o, b1, b2, b3⟩ := body p e s m args below meth c s₁ B hml ht hP s₁ hh0 (Stand.of_body B)
    exact ⟨t, o, a1, b1, b2, b3⟩
/-- the table of a body with handlers -/
theorem vx_table {p : Program} {x y : MethodName} {S : Spec} {cc bytes : ByteArray} {maxL maxL' : Nat} {ret ret' : Option FieldType} {e : Env} {s s₁ : State} {m : MethodId} {args : Array Value} {below : List Frame} {meth : Method} {c : Code} {hh : List (Nat × Nat × Nat × Nat)}
    (B : BodyLoose p l y S cc maxL ret e s m args below meth c s₁) (h : (Cond.codeWith y bytes maxL' ret' hh).before args s = true) : c.exceptionTable.toList = tableOf hh := by
  obtain ⟨m9, meth9, c9, hn9, h1, h2, -, -, h6, -⟩ := Cond.codeWith_spec h
  cases Option.some.inj (hn9.symm.trans B.named)
  cases Option.some.inj (h1.symm.trans B.method)
  cases Option.some.inj (h2.symm.trans (Stand.of_body B).code)
  rw [← h6, table_eq]
end Bodies
end VXA
/-! ===== END ===== -/
/-! ===== BEGIN a static call of a method with an exception table ===== -/
section VXS
variable {p : Program} {l : Launch} {e : Env} {R : Room} {s : State} {m : MethodId} {args : Array Value} {below : List Frame} {meth : Method} {c : Code} {T : State} {H : Heap} {locs : List Loc} {cells slots : Nat}
abbrev vx_CSW (R : Room) (s : State) (args : Array Value) (own : String) (index : Nat) (y : MethodName) (bytes : ByteArray) (maxL : Nat) (ret : Option FieldType) (hh : List (Nat × Nat × Nat × Nat)) (ws : List Cond) (rm : Room) (mc ms n : Nat) : Prop :=
  (rm.cells = mc ∧ rm.slots = ms ∧ rm.frames + 1 ≤ R.frames ∧ 8 + (maxL + 11) + rm.locals ≤ R.locals ∧ (∀ w ∈ ws, ∀ (a' : Array Value) (U : State), s.WarmedH U.vm → w.before a' U = true) ∧ Cond.codeWith y bytes maxL ret hh ∈ ws) ∧
  (Cond.codeWith y bytes maxL ret hh).before args s = true ∧ (Cond.initialized y.cls).before args s = true ∧ (y.cls ≠ "java/lang/invoke/MethodHandle" ∧ y.cls ≠ "java/lang/invoke/VarHandle") ∧
  (∀ sig, parseMethodDescriptor y.desc = some sig → n = sig.parameters.length) ∧ (Cond.methodLink own index y).before args s = true ∧ (Cond.static y).before args s = true
theorem vx_cwSW {own : String} {index maxL mc ms : Nat} {y : MethodName} {bytes : ByteArray} {ret : Option FieldType} {hh : List (Nat × Nat × Nat × Nat)} {Ts ws ws' : List Cond} {rm : Room} (n : Nat) (ht : ∀ w ∈ Ts, w.before args s = true) (hT : GoodIn Ts (va_wsS own index y ws)) (hw : ws = Cond.codeWith y bytes maxL ret hh :: ws') (hrc : rm.cells = mc) (hrs : rm.slots = ms)
    (hd : y.cls ≠ "java/lang/invoke/MethodHandle" ∧ y.cls ≠ "java/lang/invoke/VarHandle" ∧ (parseMethodDescriptor y.desc).map (fun d => d.parameters.length) = some n) (hR : rm.frames + 1 ≤ R.frames ∧ 8 + (maxL + 11) + rm.locals ≤ R.locals) :
    vx_CSW R s args own index y bytes maxL ret hh ws rm mc ms n := by
  have ok : ∀ w ∈ va_wsS own index y ws, w.before args s = true := fun w h => ht w (hT w h).1
  have hG : GoodIn Ts ws := fun w h => hT w (by unfold va_wsS; exact List.mem_append_right _ h)
  have hc : Cond.codeWith y bytes maxL ret hh ∈ ws := by rw [hw]; exact List.mem_cons_self
  refine ⟨⟨hrc, hrs, hR.1, hR.2, pay_in ht hG, hc⟩, ht _ (hG _ hc).1, ok _ (by simp [va_wsS]), ⟨hd.1, hd.2.1⟩, fun sig h => ?_, ok _ (by simp [va_wsS]), ok _ (by simp [va_wsS])⟩
  have h2 := hd.2.2
  rw [h] at h2
  exact (Option.some.inj h2).symm
theorem vx_callSW (X : Stand p l e R s m args below meth c T locs cells slots) (hexec : p.tables.exec = Jvm.exec) {own : String} {index : Nat} {y : MethodName} {bytes : ByteArray} {maxL : Nat} {ret : Option FieldType} {hh : List (Nat × Nat × Nat × Nat)}
    (hown : s.vm.findClass own = some m.cls) (hlink : (Cond.methodLink own index y).before args s = true) (hstat : (Cond.static y).before args s = true) (hinit : (Cond.initialized y.cls).before args s = true)
    (hcode : (Cond.codeWith y bytes maxL ret hh).before args s = true) (hy : y.cls ≠ "java/lang/invoke/MethodHandle" ∧ y.cls ≠ "java/lang/invoke/VarHandle")
    {W9 : Nat} {Pre : Pt → Array Value → Prop} {Post : Pt → Array Value → Option Value → Pt → Prop} (hK : Back l R p e below s args y 3 W9 Pre Post)
    {g : JFrame} (hg : g.method = m) (hsize : g.locals.size = c.maxLocals) {argsL rest : List Value} (hlen : ∀ sig, parseMethodDescriptor y.desc = some sig → argsL.length = sig.parameters.length)
    (hstack : g.stack = argsL.reverse ++ rest) (hW : 2 * g.monitorRoom + (rest.map fun v => v.category).sum ≤ W9) (hdg : decode c.code g.pc = .ok (.invokestatic index, 3))
    (hpre : ∀ vm₁, s.WarmedH vm₁ → Pre ⟨T.setVm vm₁, locs, cells, slots⟩ argsL.toArray) :
    ∃ (v : Option Value) (vm₁ : Vm) (B : Pt), s.WarmedH vm₁ ∧ Stand p l e R s m args below meth c B.U B.locs B.cells B.slots ∧ Post ⟨T.setVm vm₁, locs, cells, slots⟩ argsL.toArray v B ∧
      ∀ target, Steps p.tables e below (B.U.setTop { g with pc := g.pc + 3, stack := v.toList ++ rest }) target → Steps p.tables e below (T.setTop g) target := by
  obtain ⟨mk, methM, cM, hnamed, hmethM, -, -, -, -, -, -, hsigM⟩ := Cond.codeWith_spec hcode
  have hstatic : methM.isStatic = true := Cond.static_spec hnamed hmethM hstat
  obtain ⟨kP, hkP, -⟩ := className_of_methodNamed hnamed
  have hinitP : kP.init = .initialized := Cond.initialized_spec (findClass_of_methodNamed hnamed) hkP hinit
  obtain ⟨vm₁, X₁, hstep₁⟩ := X.invokestatic hexec hown hlink hnamed hmethM hstatic hkP hinitP hy (g := g) hg (argsL := argsL) (rest := rest) (hlen _ hsigM) hstack hdg
  obtain ⟨v, B, X', hpost, hsteps⟩ := hK m meth c ⟨T.setVm vm₁, locs, cells, slots⟩ { g with stack := rest } (.invokestatic index) mk argsL.toArray X₁ hg hsize hdg hW (X₁.named hnamed) (hpre vm₁ X₁.warmed)
  exact ⟨v, vm₁, B, X₁.warmed, X', hpost, fun target h => hstep₁ _ fun acts => by rw [doInvoke_state]; exact hsteps.trans h⟩
theorem vx_runSW {y : MethodName} {bytes cc : ByteArray} {maxL nL mc ms n index : Nat} {ret : Option FieldType} {hh : List (Nat × Nat × Nat × Nat)} {ws : List Cond} {rm : Room} {Pc : Array Value → State → Prop} {Qc : Array Value → State → Outcome → State → Prop} {free : Addr → Prop} {Ts : List Cond} {own : String} {As rest : List Value} {g : JFrame}
    (S : CallFix p m c cc nL s args Ts own) (hM : Met l y ws rm Pc Qc mc ms free) (cw : vx_CSW R s args own index y bytes maxL ret hh ws rm mc ms n) (hp : PreS s H Pc As)
    (hg : g.method = m) (hn : As.length = n) (hsize : g.locals.size = nL) (hstack : g.stack = As.reverse ++ rest) (hW : 2 * g.monitorRoom + (rest.map fun v => v.category).sum ≤ 8) (hdg : decode cc g.pc = .ok (.invokestatic index, 3)) (hf : cells + mc ≤ R.cells ∧ slots + ms ≤ R.slots) :
    va_Run p l e R s m args below meth c H locs cells slots mc ms g rest (Qc As.toArray) (free) := by
  obtain ⟨⟨hrc, hrs, hfr, hlo, hws, hcw⟩, hcode, hini, hy, hlen, hl, hstt⟩ := cw
  have hK : Back l R p e below s args y 3 8 (PreOf R mc ms Pc) (PostOf Qc mc ms free) := va_backW (hh := hh) (bytes := bytes) (maxL := maxL) (ret := ret) hM hp.1 hrc hrs hfr hlo hws hcw (fun a' U hW => word_at hW (Or.inl (by first | rfl | simp [Cond.onTables, Cond.keeps, Cond.steady])) hini)
  obtain ⟨hx, hb, hml, ho, -⟩ := S
  intro T hT X
  obtain ⟨v, vm₁, ⟨U', l2, c2, s2⟩, hW₁, X', ⟨g', mk, t, L, e1, e2, hq, h1, hL, h2, h3⟩, st⟩ := vx_callSW X hx (hh := hh) (bytes := bytes) (maxL := maxL) (ret := ret) ho hl hstt hini hcode hy hK hg (hsize.trans hml.symm) (argsL := As) (rest := rest) (fun sig h => hn.trans (hlen sig h)) hstack hW (by rw [hb]; exact hdg)
    (fun vm₁ hW₁ => ⟨hf.1, hf.2, hp.2 (T.setVm vm₁) hT hW₁⟩)
  dsimp only [Pt.U, Pt.locs, Pt.cells, Pt.slots] at X' e1 e2 h1 h2 h3 st
  subst h1; subst h2; subst h3
  exact ⟨v, (T.setVm vm₁).calling g' mk As.toArray, t, U', L, hT, X', hL, e1, e2, hq, st⟩
/-- not caught here, past rows that name other classes: it goes on to the caller -/
theorem vx_outP {p : Program} {l : Launch} {e : Env} {R : Room} {s : State} {m : MethodId} {args : Array Value} {below : List Frame} {meth : Method} {c : Code} {H : Heap} {locs : List Loc} {cells slots : Nat} {free : Addr → Prop} {ls : Array Slot} {rest : List Value} {Qc : Array Value → State → Outcome → State → Prop} {XC : String → State → State → Prop}
    {pc : Nat} {own E : String} {ce : Cell} {q : Addr} {mc ms : Nat} (hown : s.vm.findClass own = some m.cls) (hlocks : meth.locks = false)
    (hpass : ∀ z ∈ c.exceptionTable.toList, covers z pc = false ∨ (z.catchType ≠ 0 ∧ ∃ nm : String, (Cond.classLink own z.catchType nm).before args s = true ∧ va_Nc E nm s)) (hcell : H[q]? = some ce) (hv : ce.vm = .none) (hcl : s.vm.findClass E = some ce.cls)
    (hx : ∀ t : State, t.heap = H → s.vm.Alike t.vm → XC E s t) (hf : ∀ z ∈ locs, free z.base) (hc : cells ≤ mc) (hs : slots ≤ ms) :
    vx_W p l e R s m args below meth c H locs cells slots (vx_MQ below Qc XC args s mc ms free) (F0 m pc ls rest) q := by
  intro T hT X
  have hpl : e.platform.magicAccessors = ({} : Platform).magicAccessors := by rw [X.admits.platform]
  obtain ⟨vm', hW', X', st⟩ := X.outThrough hlocks q (g := F0 m pc ls rest) rfl rfl rfl (cell := ce) (by rw [hT]; exact hcell) (by rw [hv]; rfl)
    (by obtain ⟨k9, h9, -⟩ := Vm.findClass_spec hcl; exact ⟨k9, h9⟩) (fun z hz => by
      rcases hpass z hz with h | ⟨hz0, nm, hl1, hn1⟩
      · exact Or.inl h
      · obtain ⟨c6, hc6, hcl6⟩ := Cond.classLink_spec hown hl1 e.platform hpl
        obtain ⟨a8, b8, h1, h2, h3⟩ := hn1
        cases Option.some.inj (h1.symm.trans hcl)
        cases Option.some.inj (h2.symm.trans hc6)
        exact Or.inr ⟨hz0, _, hcl6, h3⟩)
  obtain ⟨g₀, hfr⟩ := X'.frames_eq
  have hcell9 : ((T.setVm vm').setFrames (.throwing q :: below)).heap[q]? = some ce := by
    show T.heap[q]? = some ce
    rw [hT]; exact hcell
  have hend : Ended ((T.setVm vm').setFrames (.throwing q :: below)) below (.threw q) := State.frames_setFrames _ (State.cur_lt_of_frames hfr)
  refine ⟨(T.setVm vm').setFrames (.throwing q :: below), ?_, .threw q, X'.here.running, hend, Or.inr ⟨q, rfl, E, ce, locs, hx _ hT (X'.ends _).1.alike, hcell9, hv, hcl, (X'.ends _).1, (X'.ends _).2.mono hc hs, hf⟩⟩
  rw [X.pushThrowing_eq]
  exact st
/-- a thing of a world lies in the heap -/
theorem vx_lt {D : va_G} {cl : List vw_C} {ws : va_W} {H1 : Heap} (h : va_P D cl ws H1) {k : Nat} {q : Nat × va_E} (hk : ws[k]? = some q) : q.1 < H1.size := (h k q hk).lt
end VXS
/-! ===== END ===== -/
/-! ===== BEGIN methods with a table of their own: called by a name, returning or throwing ===== -/
section VXH
/-! vx_backW, vx_callVX, vx_callSX, vx_callVW, vx_runVW, vx_runVX, vx_runSX, vx_ofWH follow the same proofs as their sisters above (Free/Laws.lean, Shelf42/LK1.lean); vx_outP calls Shelf42/NT130.lean (outThrough). -/
section
variable {l : Launch} {R : Room} {p : Program} {e : Env} {below : List Frame} {s : State} {sargs : Array Value} {y : MethodName} {len W9 : Nat}
theorem vx_backW {ws : List Cond} {rm : Room} {Pc : Array Value → State → Prop} {Qc : Array Value → State → Outcome → State → Prop} {XC : String → State → State → Prop} {mc ms : Nat} {free : Addr → Prop} {bytes : ByteArray} {maxL : Nat} {ret : Option FieldType} {hh : List (Nat × Nat × Nat × Nat)}
    (hM : vx_Met l y ws rm Pc Qc XC mc ms free) (hblind : FrameBlind Pc) (hrc : rm.cells = mc) (hrs : rm.slots = ms)
    (hframes : rm.frames + 1 ≤ R.frames) (hlocals : W9 + (maxL + 11) + rm.locals ≤ R.locals)
    (hws : ∀ w ∈ ws, ∀ a' U, s.WarmedH U.vm → w.before a' U = true) (hcode : Cond.codeWith y bytes maxL ret hh ∈ ws) (hinit : ∀ a' U, s.WarmedH U.vm → (Cond.initialized y.cls).before a' U = true) :
    vx_Back l R p e below s sargs y len W9 (PreOf R mc ms Pc) (PostOf Qc mc ms free) (vx_Post XC mc ms free) := by
  intro m meth c A g ig mk a X hg hsize hdg hW hn hp
  have h1 : (headSpec ws rm).pre.before a A.U = true := atoms_intro fun w hw => hws w hw _ _ X.warmed
  have h2 : (Cond.codeWith y bytes maxL ret hh).before a A.U = true := hws _ hcode _ _ X.warmed
  have h3 : (Cond.initialized y.cls).before a A.U = true := hinit _ _ X.warmed
  have h4 : A.cells + (headSpec ws rm).room.cells ≤ R.cells := by rw [show (headSpec ws rm).room.cells = mc from hrc]; exact hp.1
  have h5 : A.slots + (headSpec ws rm).room.slots ≤ R.slots := by rw [show (headSpec ws rm).room.slots = ms from hrs]; exact hp.2.1
  have hPc : Pc a (A.U.calling g mk a) := hblind _ _ _ _ hp.2.2
  obtain ⟨U, Ls, c0, s0⟩ := A
  dsimp only [Pt.U, Pt.locs, Pt.cells, Pt.slots] at h1 h2 h3 h4 h5 X hn hPc ⊢
  obtain ⟨m9, methY, cY, hn9, hmY, hcY, -, hlY, -⟩ := Cond.codeWith_spec h2
  cases Option.some.inj (hn9.symm.trans hn)
  obtain ⟨kY, hkY, -⟩ := className_of_methodNamed hn
  have hinitY : kY.init = .initialized := Cond.initialized_spec (findClass_of_methodNamed hn) hkY h3
  have h : At U g.method c below := by rw [hg]; exact X.here
  have hlocals9 : W9 + (maxL + 11) + (headSpec ws rm).room.locals ≤ R.locals := hlocals
  have happ : (headSpec ws rm).appliesLoose y e.platform (U.calling g mk a) = true :=
    Spec.appliesLoose_calling (g := g) h hdg hn hkY hinitY
      (X.room_calling (g := g) (R' := (headSpec ws rm).room) hsize hmY hcY hframes (by rw [hlY]; omega) h4 h5) h1
  obtain ⟨mid, hmid⟩ := h.above
  have hfr : (U.setTop g).frames = (.java g :: mid) ++ below := by rw [State.frames_setTop' g h.top, hmid]; rfl
  obtain ⟨o, s₂, hsteps, -, hend, hq⟩ := Steps.callFree hM p X.admits X.cas X.clock (acts := []) hfr happ hPc trivial
  have hq' : vx_Q Qc XC mc ms free a (U.calling g mk a) o s₂ := hq
  rw [State.frames_setTop' g h.top] at hend
  obtain ⟨g₀, hg0⟩ := Option.isSome_iff_exists.mp h.top
  obtain ⟨r, hr⟩ := State.topJava?_eq_some.mp hg0
  have hr' : (({ U with heap := s₂.heap, slotsUsed := s₂.slotsUsed } : State).setVm s₂.vm).frames = .java g₀ :: r := hr
  rcases hq' with ⟨hqc, L, hfe, hL⟩ | ⟨q, rfl, E, ce, L, hx, hce, hcv, hcl, hW₂, hsm, hL⟩
  · obtain ⟨⟨v, rfl⟩, hW₂, e2, q2, q3, q4, q5, q6⟩ := id hfe
    have e3 : s₂ = ({ (U.calling g mk a).setFrames s₂.frames with heap := s₂.heap, slotsUsed := s₂.slotsUsed } : State).setVm s₂.vm := by
      have : s₂ = ({ s₂ with vm := (U.calling g mk a).vm } : State).setVm s₂.vm := rfl
      rw [e2] at this
      exact this
    obtain ⟨c₂, i₂, len₂, hc₂, hd₂, hf₂⟩ := hend
    have hW' : U.WarmedH s₂.vm := hW₂
    have hcc : c₂ = c := by
      have h1 : s₂.code? g.method = U.code? g.method := by
        rw [State.code?_eq, State.code?_eq, hW'.alike.method?]
      exact Option.some.inj (hc₂.symm.trans (h1.trans h.code))
    subst hcc
    have hlen : len₂ = len := by rw [hdg] at hd₂; cases hd₂; rfl
    subst hlen
    have hs₂ : s₂ = (({ U with heap := s₂.heap, slotsUsed := s₂.slotsUsed } : State).setVm s₂.vm).setTop { g with pc := g.pc + len₂, stack := v.toList ++ g.stack } := by
      refine e3.trans ?_
      rw [hf₂, State.calling_eq h.top, State.setFrames_setFrames, State.setTop_of_frames _ hr', hr]
      rfl
    have hsame : U.sameButNew ({ U with heap := s₂.heap, slotsUsed := s₂.slotsUsed } : State) L mc ms := by
      refine ⟨?_, q2, q3, q4, q5, q6⟩
      obtain ⟨t, ht, -⟩ := State.frames_cons hr
      show ({ U with heap := s₂.heap, slotsUsed := s₂.slotsUsed } : State) = { U.setFrames U.frames with heap := s₂.heap, slotsUsed := s₂.slotsUsed }
      rw [State.setFrames_self ht]
    subst hg
    refine Or.inl ⟨v, ⟨(({ U with heap := s₂.heap, slotsUsed := s₂.slotsUsed } : State).setVm s₂.vm), Ls ++ L, c0 + mc, s0 + ms⟩,
      ⟨X.admits, X.cas, X.clock, X.frames, X.room, X.hears, X.method, X.code, (X.here.setHeapUsed s₂.heap s₂.slotsUsed).setVm hW'.alike, X.tail, State.WarmedH.trans X.warmed hW', X.limits, X.bytes, X.same.trans (hsame.setVm s.vm)⟩,
      ⟨g, mk, s₂, L, rfl, rfl, hqc, rfl, hL, rfl, rfl⟩, ?_⟩
    show Steps p.tables e below _ ((({ U with heap := s₂.heap, slotsUsed := s₂.slotsUsed } : State).setVm s₂.vm).setTop { g with pc := g.pc + len₂, stack := v.toList ++ g.stack })
    rw [← hs₂]
    exact hsteps
  · obtain ⟨e2, q2, q3, q4, q5, q6⟩ := id hsm
    have e3 : s₂ = ({ (U.calling g mk a).setFrames s₂.frames with heap := s₂.heap, slotsUsed := s₂.slotsUsed } : State).setVm s₂.vm := by
      have : s₂ = ({ s₂ with vm := (U.calling g mk a).vm } : State).setVm s₂.vm := rfl
      rw [e2] at this
      exact this
    have hf₂ : s₂.frames = .throwing q :: .java g :: U.frames.tail := hend
    have hW' : U.WarmedH s₂.vm := hW₂
    have hs₂ : s₂ = ((({ U with heap := s₂.heap, slotsUsed := s₂.slotsUsed } : State).setVm s₂.vm).setTop g).pushFrame (.throwing q) := by
      refine e3.trans ?_
      rw [hf₂, State.calling_eq h.top, State.setFrames_setFrames, State.pushFrame, State.frames_setTop _ hr', State.setTop_of_frames _ hr', State.setFrames_setFrames, hr]
      rfl
    have hsame : U.sameButNew ({ U with heap := s₂.heap, slotsUsed := s₂.slotsUsed } : State) L mc ms := by
      refine ⟨?_, q2, q3, q4, q5, q6⟩
      obtain ⟨t, ht, -⟩ := State.frames_cons hr
      show ({ U with heap := s₂.heap, slotsUsed := s₂.slotsUsed } : State) = { U.setFrames U.frames with heap := s₂.heap, slotsUsed := s₂.slotsUsed }
      rw [State.setFrames_self ht]
    subst hg
    refine Or.inr ⟨q, ⟨(({ U with heap := s₂.heap, slotsUsed := s₂.slotsUsed } : State).setVm s₂.vm), Ls ++ L, c0 + mc, s0 + ms⟩,
      ⟨X.admits, X.cas, X.clock, X.frames, X.room, X.hears, X.method, X.code, (X.here.setHeapUsed s₂.heap s₂.slotsUsed).setVm hW'.alike, X.tail, State.WarmedH.trans X.warmed hW', X.limits, X.bytes, X.same.trans (hsame.setVm s.vm)⟩,
      ⟨g, mk, s₂, L, E, ce, rfl, rfl, hx, hce, hcv, hcl, rfl, hL, rfl, rfl⟩, ?_⟩
    show Steps p.tables e below _ (((({ U with heap := s₂.heap, slotsUsed := s₂.slotsUsed } : State).setVm s₂.vm).setTop g).pushFrame (.throwing q))
    rw [← hs₂]
    exact hsteps
end
variable {p : Program} {l : Launch} {e : Env} {R : Room} {s : State} {m : MethodId} {args : Array Value} {below : List Frame} {meth : Method} {c : Code} {T : State} {H : Heap} {locs : List Loc} {cells slots : Nat}
theorem vx_callVX (X : Stand p l e R s m args below meth c T locs cells slots) (hexec : p.tables.exec = Jvm.exec) {own C : String} {index : Nat} {y : MethodName} {bytes : ByteArray} {maxL : Nat} {ret : Option FieldType} {hh : List (Nat × Nat × Nat × Nat)}
    (hown : s.vm.findClass own = some m.cls) (hlink : (Cond.methodLink own index y).before args s = true) (hinst : (Cond.instanceMethod y).before args s = true) (hsel : (Cond.selects C y y).before args s = true)
    (hcode : (Cond.codeWith y bytes maxL ret hh).before args s = true) (hy : y.cls ≠ "java/lang/invoke/MethodHandle" ∧ y.cls ≠ "java/lang/invoke/VarHandle")
    {W9 : Nat} {Pre : Pt → Array Value → Prop} {Post : Pt → Array Value → Option Value → Pt → Prop} {PostX : Pt → Array Value → Addr → Pt → Prop} (hK : vx_Back l R p e below s args y 3 W9 Pre Post PostX)
    {b : Addr} {cellB : Cell} (hcell : T.heap[b]? = some cellB) (hobj : cellB.vm.isStatics = false) (hcls : s.vm.findClass C = some cellB.cls)
    {g : JFrame} (hg : g.method = m) (hsize : g.locals.size = c.maxLocals) {argsL rest : List Value} (hlen : ∀ sig, parseMethodDescriptor y.desc = some sig → argsL.length = sig.parameters.length)
    (hstack : g.stack = argsL.reverse ++ .ref b :: rest) (hW : 2 * g.monitorRoom + (rest.map fun v => v.category).sum ≤ W9) (hdg : decode c.code g.pc = .ok (.invokevirtual index, 3))
    (hpre : ∀ vm₁, s.WarmedH vm₁ → Pre ⟨T.setVm vm₁, locs, cells, slots⟩ (Value.ref b :: argsL).toArray) :
    (∃ (v : Option Value) (vm₁ : Vm) (B : Pt), s.WarmedH vm₁ ∧ Stand p l e R s m args below meth c B.U B.locs B.cells B.slots ∧ Post ⟨T.setVm vm₁, locs, cells, slots⟩ (Value.ref b :: argsL).toArray v B ∧
      ∀ target, Steps p.tables e below (B.U.setTop { g with pc := g.pc + 3, stack := v.toList ++ rest }) target → Steps p.tables e below (T.setTop g) target) ∨
    (∃ (q : Addr) (vm₁ : Vm) (B : Pt), s.WarmedH vm₁ ∧ Stand p l e R s m args below meth c B.U B.locs B.cells B.slots ∧ PostX ⟨T.setVm vm₁, locs, cells, slots⟩ (Value.ref b :: argsL).toArray q B ∧
      Steps p.tables e below (T.setTop g) ((B.U.setTop { g with stack := rest }).pushFrame (.throwing q))) := by
  obtain ⟨mk, methM, hnamed, hmethM, hstM, habM⟩ := Cond.instanceMethod_spec hinst
  obtain ⟨m8, methM', cM, hn8, hmethM', -, -, -, -, -, -, hsigM⟩ := Cond.codeWith_spec hcode
  cases Option.some.inj (hn8.symm.trans hnamed)
  cases hmethM.symm.trans hmethM'
  obtain ⟨c2, r2, m2, q1, q2, q3, q4, kP, hkP, hkPi⟩ := Cond.selects_spec hsel
  cases hcls.symm.trans q1
  cases (State.methodFound?_of_named hnamed hy).symm.trans q2
  cases hnamed.symm.trans q3
  have hselP : selectMethod e.platform s.vm cellB.cls mk = .method mk := by rw [Launch.admits_selectMethod X.admits]; exact q4
  obtain ⟨vm₁, X₁, hstep₁⟩ := X.invokevirtual hexec hown hlink hnamed hmethM hstM hkP hkPi hy (a := b) (cell := cellB) hcell
    (fun z h => by rw [h] at hobj; cases hobj) hselP hmethM habM hkP hkPi (g := g) hg (argsL := argsL) (rest := rest) (hlen _ hsigM) hstack hdg
  rcases hK m meth c ⟨T.setVm vm₁, locs, cells, slots⟩ { g with stack := rest } (.invokevirtual index) mk (Value.ref b :: argsL).toArray X₁ hg hsize hdg hW (X₁.named hnamed) (hpre vm₁ X₁.warmed) with ⟨v, B, X', hpost, hsteps⟩ | ⟨q, B, X', hpost, hsteps⟩
  · exact Or.inl ⟨v, vm₁, B, X₁.warmed, X', hpost, fun target h => hstep₁ _ fun acts => by rw [doInvoke_state]; exact hsteps.trans h⟩
  · exact Or.inr ⟨q, vm₁, B, X₁.warmed, X', hpost, hstep₁ _ fun acts => by rw [doInvoke_state]; exact hsteps⟩
theorem vx_callSX (X : Stand p l e R s m args below meth c T locs cells slots) (hexec : p.tables.exec = Jvm.exec) {own : String} {index : Nat} {y : MethodName} {bytes : ByteArray} {maxL : Nat} {ret : Option FieldType} {hh : List (Nat × Nat × Nat × Nat)}
    (hown : s.vm.findClass own = some m.cls) (hlink : (Cond.methodLink own index y).before args s = true) (hstat : (Cond.static y).before args s = true) (hinit : (Cond.initialized y.cls).before args s = true)
    (hcode : (Cond.codeWith y bytes maxL ret hh).before args s = true) (hy : y.cls ≠ "java/lang/invoke/MethodHandle" ∧ y.cls ≠ "java/lang/invoke/VarHandle")
    {W9 : Nat} {Pre : Pt → Array Value → Prop} {Post : Pt → Array Value → Option Value → Pt → Prop} {PostX : Pt → Array Value → Addr → Pt → Prop} (hK : vx_Back l R p e below s args y 3 W9 Pre Post PostX)
    {g : JFrame} (hg : g.method = m) (hsize : g.locals.size = c.maxLocals) {argsL rest : List Value} (hlen : ∀ sig, parseMethodDescriptor y.desc = some sig → argsL.length = sig.parameters.length)
    (hstack : g.stack = argsL.reverse ++ rest) (hW : 2 * g.monitorRoom + (rest.map fun v => v.category).sum ≤ W9) (hdg : decode c.code g.pc = .ok (.invokestatic index, 3))
    (hpre : ∀ vm₁, s.WarmedH vm₁ → Pre ⟨T.setVm vm₁, locs, cells, slots⟩ argsL.toArray) :
    (∃ (v : Option Value) (vm₁ : Vm) (B : Pt), s.WarmedH vm₁ ∧ Stand p l e R s m args below meth c B.U B.locs B.cells B.slots ∧ Post ⟨T.setVm vm₁, locs, cells, slots⟩ argsL.toArray v B ∧
      ∀ target, Steps p.tables e below (B.U.setTop { g with pc := g.pc + 3, stack := v.toList ++ rest }) target → Steps p.tables e below (T.setTop g) target) ∨
    (∃ (q : Addr) (vm₁ : Vm) (B : Pt), s.WarmedH vm₁ ∧ Stand p l e R s m args below meth c B.U B.locs B.cells B.slots ∧ PostX ⟨T.setVm vm₁, locs, cells, slots⟩ argsL.toArray q B ∧
      Steps p.tables e below (T.setTop g) ((B.U.setTop { g with stack := rest }).pushFrame (.throwing q))) := by
  obtain ⟨mk, methM, cM, hnamed, hmethM, -, -, -, -, -, -, hsigM⟩ := Cond.codeWith_spec hcode
  have hstatic : methM.isStatic = true := Cond.static_spec hnamed hmethM hstat
  obtain ⟨kP, hkP, -⟩ := className_of_methodNamed hnamed
  have hinitP : kP.init = .initialized := Cond.initialized_spec (findClass_of_methodNamed hnamed) hkP hinit
  obtain ⟨vm₁, X₁, hstep₁⟩ := X.invokestatic hexec hown hlink hnamed hmethM hstatic hkP hinitP hy (g := g) hg (argsL := argsL) (rest := rest) (hlen _ hsigM) hstack hdg
  rcases hK m meth c ⟨T.setVm vm₁, locs, cells, slots⟩ { g with stack := rest } (.invokestatic index) mk argsL.toArray X₁ hg hsize hdg hW (X₁.named hnamed) (hpre vm₁ X₁.warmed) with ⟨v, B, X', hpost, hsteps⟩ | ⟨q, B, X', hpost, hsteps⟩
  · exact Or.inl ⟨v, vm₁, B, X₁.warmed, X', hpost, fun target h => hstep₁ _ fun acts => by rw [doInvoke_state]; exact hsteps.trans h⟩
  · exact Or.inr ⟨q, vm₁, B, X₁.warmed, X', hpost, hstep₁ _ fun acts => by rw [doInvoke_state]; exact hsteps⟩
theorem vx_callVW (X : Stand p l e R s m args below meth c T locs cells slots) (hexec : p.tables.exec = Jvm.exec) {own C : String} {index : Nat} {y : MethodName} {bytes : ByteArray} {maxL : Nat} {ret : Option FieldType} {hh : List (Nat × Nat × Nat × Nat)}
    (hown : s.vm.findClass own = some m.cls) (hlink : (Cond.methodLink own index y).before args s = true) (hinst : (Cond.instanceMethod y).before args s = true) (hsel : (Cond.selects C y y).before args s = true)
    (hcode : (Cond.codeWith y bytes maxL ret hh).before args s = true) (hy : y.cls ≠ "java/lang/invoke/MethodHandle" ∧ y.cls ≠ "java/lang/invoke/VarHandle")
    {W9 : Nat} {Pre : Pt → Array Value → Prop} {Post : Pt → Array Value → Option Value → Pt → Prop} (hK : Back l R p e below s args y 3 W9 Pre Post)
    {b : Addr} {cellB : Cell} (hcell : T.heap[b]? = some cellB) (hobj : cellB.vm.isStatics = false) (hcls : s.vm.findClass C = some cellB.cls)
    {g : JFrame} (hg : g.method = m) (hsize : g.locals.size = c.maxLocals) {argsL rest : List Value} (hlen : ∀ sig, parseMethodDescriptor y.desc = some sig → argsL.length = sig.parameters.length)
    (hstack : g.stack = argsL.reverse ++ .ref b :: rest) (hW : 2 * g.monitorRoom + (rest.map fun v => v.category).sum ≤ W9) (hdg : decode c.code g.pc = .ok (.invokevirtual index, 3))
    (hpre : ∀ vm₁, s.WarmedH vm₁ → Pre ⟨T.setVm vm₁, locs, cells, slots⟩ (Value.ref b :: argsL).toArray) :
    ∃ (v : Option Value) (vm₁ : Vm) (B : Pt), s.WarmedH vm₁ ∧ Stand p l e R s m args below meth c B.U B.locs B.cells B.slots ∧ Post ⟨T.setVm vm₁, locs, cells, slots⟩ (Value.ref b :: argsL).toArray v B ∧
      ∀ target, Steps p.tables e below (B.U.setTop { g with pc := g.pc + 3, stack := v.toList ++ rest }) target → Steps p.tables e below (T.setTop g) target := by
  obtain ⟨mk, methM, hnamed, hmethM, hstM, habM⟩ := Cond.instanceMethod_spec hinst
  obtain ⟨m8, methM', cM, hn8, hmethM', -, -, -, -, -, -, hsigM⟩ := Cond.codeWith_spec hcode
  cases Option.some.inj (hn8.symm.trans hnamed)
  cases hmethM.symm.trans hmethM'
  obtain ⟨c2, r2, m2, q1, q2, q3, q4, kP, hkP, hkPi⟩ := Cond.selects_spec hsel
  cases hcls.symm.trans q1
  cases (State.methodFound?_of_named hnamed hy).symm.trans q2
  cases hnamed.symm.trans q3
  have hselP : selectMethod e.platform s.vm cellB.cls mk = .method mk := by rw [Launch.admits_selectMethod X.admits]; exact q4
  obtain ⟨vm₁, X₁, hstep₁⟩ := X.invokevirtual hexec hown hlink hnamed hmethM hstM hkP hkPi hy (a := b) (cell := cellB) hcell
    (fun z h => by rw [h] at hobj; cases hobj) hselP hmethM habM hkP hkPi (g := g) hg (argsL := argsL) (rest := rest) (hlen _ hsigM) hstack hdg
  obtain ⟨v, B, X', hpost, hsteps⟩ := hK m meth c ⟨T.setVm vm₁, locs, cells, slots⟩ { g with stack := rest } (.invokevirtual index) mk (Value.ref b :: argsL).toArray X₁ hg hsize hdg hW (X₁.named hnamed) (hpre vm₁ X₁.warmed)
  exact ⟨v, vm₁, B, X₁.warmed, X', hpost, fun target h => hstep₁ _ fun acts => by rw [doInvoke_state]; exact hsteps.trans h⟩
abbrev vx_CVW (R : Room) (s : State) (args : Array Value) (own C : String) (index : Nat) (y : MethodName) (bytes : ByteArray) (maxL : Nat) (ret : Option FieldType) (hh : List (Nat × Nat × Nat × Nat)) (ws : List Cond) (rm : Room) (mc ms n : Nat) : Prop :=
  (rm.cells = mc ∧ rm.slots = ms ∧ rm.frames + 1 ≤ R.frames ∧ 8 + (maxL + 11) + rm.locals ≤ R.locals ∧ (∀ w ∈ ws, ∀ (a' : Array Value) (U : State), s.WarmedH U.vm → w.before a' U = true) ∧ Cond.codeWith y bytes maxL ret hh ∈ ws) ∧
  (Cond.codeWith y bytes maxL ret hh).before args s = true ∧ (Cond.initialized y.cls).before args s = true ∧ (y.cls ≠ "java/lang/invoke/MethodHandle" ∧ y.cls ≠ "java/lang/invoke/VarHandle") ∧
  (∀ sig, parseMethodDescriptor y.desc = some sig → n = sig.parameters.length) ∧ (Cond.methodLink own index y).before args s = true ∧ (Cond.instanceMethod y).before args s = true ∧ (Cond.selects C y y).before args s = true
theorem vx_cwVW {own C : String} {index maxL mc ms : Nat} {y : MethodName} {bytes : ByteArray} {ret : Option FieldType} {hh : List (Nat × Nat × Nat × Nat)} {Ts ws ws' : List Cond} {rm : Room} (n : Nat) (ht : ∀ w ∈ Ts, w.before args s = true) (hT : GoodIn Ts (wsV own index C y ws)) (hw : ws = Cond.codeWith y bytes maxL ret hh :: ws') (hrc : rm.cells = mc) (hrs : rm.slots = ms)
    (hd : y.cls = C ∧ y.cls ≠ "java/lang/invoke/MethodHandle" ∧ y.cls ≠ "java/lang/invoke/VarHandle" ∧ (parseMethodDescriptor y.desc).map (fun d => d.parameters.length) = some n) (hR : rm.frames + 1 ≤ R.frames ∧ 8 + (maxL + 11) + rm.locals ≤ R.locals) :
    vx_CVW R s args own C index y bytes maxL ret hh ws rm mc ms n := by
  obtain ⟨hC, hd⟩ := hd
  subst hC
  have ok : ∀ w ∈ wsV own index y.cls y ws, w.before args s = true := fun w h => ht w (hT w h).1
  have hG : GoodIn Ts ws := fun w h => hT w (by unfold wsV; exact List.mem_append_right _ h)
  have hc : Cond.codeWith y bytes maxL ret hh ∈ ws := by rw [hw]; exact List.mem_cons_self
  refine ⟨⟨hrc, hrs, hR.1, hR.2, pay_in ht hG, hc⟩, ht _ (hG _ hc).1, ok _ (by simp [wsV]), ⟨hd.1, hd.2.1⟩, fun sig h => ?_, ok _ (by simp [wsV]), ok _ (by simp [wsV]), ok _ (by simp [wsV])⟩
  have h2 := hd.2.2
  rw [h] at h2
  exact (Option.some.inj h2).symm
theorem vx_runVW {y : MethodName} {bytes cc : ByteArray} {maxL nL mc ms n index : Nat} {ret : Option FieldType} {hh : List (Nat × Nat × Nat × Nat)} {ws : List Cond} {rm : Room} {Pc : Array Value → State → Prop} {Qc : Array Value → State → Outcome → State → Prop} {free : Addr → Prop} {Ts : List Cond} {own C : String} {b : Addr} {As rest : List Value} {g : JFrame}
    (S : CallFix p m c cc nL s args Ts own) (hM : Met l y ws rm Pc Qc mc ms free) (cw : vx_CVW R s args own C index y bytes maxL ret hh ws rm mc ms n) (hp : PreV s H C b Pc As)
    (hg : g.method = m) (hn : As.length = n) (hsize : g.locals.size = nL) (hstack : g.stack = As.reverse ++ .ref b :: rest) (hW : 2 * g.monitorRoom + (rest.map fun v => v.category).sum ≤ 8) (hdg : decode cc g.pc = .ok (.invokevirtual index, 3)) (hf : cells + mc ≤ R.cells ∧ slots + ms ≤ R.slots) :
    va_Run p l e R s m args below meth c H locs cells slots mc ms g rest (Qc (Value.ref b :: As).toArray) free := by
  obtain ⟨⟨hrc, hrs, hfr, hlo, hws, hcw⟩, hcode, hini, hy, hlen, hl, hin, hse⟩ := cw
  have hK : Back l R p e below s args y 3 8 (PreOf R mc ms Pc) (PostOf Qc mc ms free) := va_backW (hh := hh) (bytes := bytes) (maxL := maxL) (ret := ret) hM hp.1 hrc hrs hfr hlo hws hcw (fun a' U hW => word_at hW (Or.inl (by first | rfl | simp [Cond.onTables, Cond.keeps, Cond.steady])) hini)
  obtain ⟨hx, hb, hml, ho, -⟩ := S
  obtain ⟨-, ⟨cellB, hcB, hoB, hclB⟩, hPc⟩ := hp
  intro T hT X
  obtain ⟨v, vm₁, ⟨U', l2, c2, s2⟩, hW₁, X', ⟨g', mk, t, L, e1, e2, hq, h1, hL, h2, h3⟩, st⟩ := vx_callVW X hx (C := C) (hh := hh) (bytes := bytes) (maxL := maxL) (ret := ret) ho hl hin hse hcode hy hK (by rw [hT]; exact hcB) hoB hclB hg (hsize.trans hml.symm) (argsL := As) (rest := rest) (fun sig h => hn.trans (hlen sig h)) hstack hW (by rw [hb]; exact hdg)
    (fun vm₁ hW₁ => ⟨hf.1, hf.2, hPc (T.setVm vm₁) hT hW₁⟩)
  dsimp only [Pt.U, Pt.locs, Pt.cells, Pt.slots] at X' e1 e2 h1 h2 h3 st
  subst h1; subst h2; subst h3
  exact ⟨v, (T.setVm vm₁).calling g' mk (Value.ref b :: As).toArray, t, U', L, hT, X', hL, e1, e2, hq, st⟩
section
variable {y : MethodName} {bytes cc : ByteArray} {maxL nL mc ms n index : Nat} {ret : Option FieldType} {ws : List Cond} {rm : Room} {Pc : Array Value → State → Prop} {Qc : Array Value → State → Outcome → State → Prop} {XC : String → State → State → Prop} {free : Addr → Prop} {Ts : List Cond} {own C : String} {b : Addr} {As rest : List Value} {g : JFrame}
theorem vx_runVX {hh : List (Nat × Nat × Nat × Nat)} (S : CallFix p m c cc nL s args Ts own) (hM : vx_Met l y ws rm Pc Qc XC mc ms free) (cw : vx_CVW R s args own C index y bytes maxL ret hh ws rm mc ms n) (hp : PreV s H C b Pc As)
    (hg : g.method = m) (hn : As.length = n) (hsize : g.locals.size = nL) (hstack : g.stack = As.reverse ++ .ref b :: rest) (hW : 2 * g.monitorRoom + (rest.map fun v => v.category).sum ≤ 8) (hdg : decode cc g.pc = .ok (.invokevirtual index, 3)) (hf : cells + mc ≤ R.cells ∧ slots + ms ≤ R.slots) :
    vx_Run p l e R s m args below meth c H locs cells slots mc ms g rest (Qc (Value.ref b :: As).toArray) XC free := by
  obtain ⟨⟨hrc, hrs, hfr, hlo, hws, hcw⟩, hcode, hini, hy, hlen, hl, hin, hse⟩ := cw
  have hK : vx_Back l R p e below s args y 3 8 (PreOf R mc ms Pc) (PostOf Qc mc ms free) (vx_Post XC mc ms free) := vx_backW (hh := hh) (bytes := bytes) (maxL := maxL) (ret := ret) hM hp.1 hrc hrs hfr hlo hws hcw (fun a' U hW => word_at hW (Or.inl (by first | rfl | simp [Cond.onTables, Cond.keeps, Cond.steady])) hini)
  obtain ⟨hx, hb, hml, ho, -⟩ := S
  obtain ⟨-, ⟨cellB, hcB, hoB, hclB⟩, hPc⟩ := hp
  intro T hT X
  rcases vx_callVX X hx (C := C) (hh := hh) (bytes := bytes) (maxL := maxL) (ret := ret) ho hl hin hse hcode hy hK (by rw [hT]; exact hcB) hoB hclB hg (hsize.trans hml.symm) (argsL := As) (rest := rest) (fun sig h => hn.trans (hlen sig h)) hstack hW (by rw [hb]; exact hdg)
    (fun vm₁ hW₁ => ⟨hf.1, hf.2, hPc (T.setVm vm₁) hT hW₁⟩) with ⟨v, vm₁, ⟨U', l2, c2, s2⟩, hW₁, X', ⟨g', mk, t, L, e1, e2, hq, h1, hL, h2, h3⟩, st⟩ | ⟨q, vm₁, ⟨U', l2, c2, s2⟩, hW₁, X', ⟨g', mk, t, L, E, ce, e1, e2, hq, hce, hcv, hcl, h1, hL, h2, h3⟩, st⟩
  · dsimp only [Pt.U, Pt.locs, Pt.cells, Pt.slots] at X' e1 e2 h1 h2 h3 st
    subst h1; subst h2; subst h3
    exact Or.inl ⟨v, (T.setVm vm₁).calling g' mk (Value.ref b :: As).toArray, t, U', L, hT, X', hL, e1, e2, hq, st⟩
  · dsimp only [Pt.U, Pt.locs, Pt.cells, Pt.slots] at X' e1 e2 h1 h2 h3 st hcl
    subst h1; subst h2; subst h3
    exact Or.inr ⟨q, (T.setVm vm₁).calling g' mk (Value.ref b :: As).toArray, t, U', L, E, ce, hT, X', hL, e1, e2, hq, hce, hcv, vx_cls hW₁ hcl, st⟩
theorem vx_runSX {hh : List (Nat × Nat × Nat × Nat)} (S : CallFix p m c cc nL s args Ts own) (hM : vx_Met l y ws rm Pc Qc XC mc ms free) (cw : vx_CSW R s args own index y bytes maxL ret hh ws rm mc ms n) (hp : PreS s H Pc As)
    (hg : g.method = m) (hn : As.length = n) (hsize : g.locals.size = nL) (hstack : g.stack = As.reverse ++ rest) (hW : 2 * g.monitorRoom + (rest.map fun v => v.category).sum ≤ 8) (hdg : decode cc g.pc = .ok (.invokestatic index, 3)) (hf : cells + mc ≤ R.cells ∧ slots + ms ≤ R.slots) :
    vx_Run p l e R s m args below meth c H locs cells slots mc ms g rest (Qc As.toArray) XC free := by
  obtain ⟨⟨hrc, hrs, hfr, hlo, hws, hcw⟩, hcode, hini, hy, hlen, hl, hstt⟩ := cw
  have hK : vx_Back l R p e below s args y 3 8 (PreOf R mc ms Pc) (PostOf Qc mc ms free) (vx_Post XC mc ms free) := vx_backW (hh := hh) (bytes := bytes) (maxL := maxL) (ret := ret) hM hp.1 hrc hrs hfr hlo hws hcw (fun a' U hW => word_at hW (Or.inl (by first | rfl | simp [Cond.onTables, Cond.keeps, Cond.steady])) hini)
  obtain ⟨hx, hb, hml, ho, -⟩ := S
  intro T hT X
  rcases vx_callSX X hx (hh := hh) (bytes := bytes) (maxL := maxL) (ret := ret) ho hl hstt hini hcode hy hK hg (hsize.trans hml.symm) (argsL := As) (rest := rest) (fun sig h => hn.trans (hlen sig h)) hstack hW (by rw [hb]; exact hdg)
    (fun vm₁ hW₁ => ⟨hf.1, hf.2, hp.2 (T.setVm vm₁) hT hW₁⟩) with ⟨v, vm₁, ⟨U', l2, c2, s2⟩, hW₁, X', ⟨g', mk, t, L, e1, e2, hq, h1, hL, h2, h3⟩, st⟩ | ⟨q, vm₁, ⟨U', l2, c2, s2⟩, hW₁, X', ⟨g', mk, t, L, E, ce, e1, e2, hq, hce, hcv, hcl, h1, hL, h2, h3⟩, st⟩
  · dsimp only [Pt.U, Pt.locs, Pt.cells, Pt.slots] at X' e1 e2 h1 h2 h3 st
    subst h1; subst h2; subst h3
    exact Or.inl ⟨v, (T.setVm vm₁).calling g' mk As.toArray, t, U', L, hT, X', hL, e1, e2, hq, st⟩
  · dsimp only [Pt.U, Pt.locs, Pt.cells, Pt.slots] at X' e1 e2 h1 h2 h3 st hcl
    subst h1; subst h2; subst h3
    exact Or.inr ⟨q, (T.setVm vm₁).calling g' mk As.toArray, t, U', L, E, ce, hT, X', hL, e1, e2, hq, hce, hcv, vx_cls hW₁ hcl, st⟩
end
end VXH
theorem vx_ofWH {l : Launch} {y : MethodName} {ws ws' : List Cond} {rm : Room} {Pc : Array Value → State → Prop} {Qc : Array Value → State → Outcome → State → Prop} {XC : String → State → State → Prop} {mc ms : Nat} {free : Addr → Prop} {cc : ByteArray} {maxL : Nat} {ret : Option FieldType} {hh : List (Nat × Nat × Nat × Nat)}
    (hy : plainName y.cls = true) (hw : ws = Cond.codeWith y cc maxL ret hh :: ws')
    (body : ∀ p e s m args below meth c s₁, BodyLoose p l y (headSpec ws rm) cc maxL ret e s m args below meth c s₁ → c.maxLocals = maxL → Pc args s →
      W p l e (headSpec ws rm).room s m args below meth c s.heap [] 0 0 (vx_MQ below Qc XC args s mc ms free) (entryFrame m args maxL)) : vx_Met l y ws rm Pc Qc XC mc ms free := by
  refine MetFree.of_bodyS (code := cc) (maxLocals := maxL) (ret := ret) hy ?_ ?_
  · intro args s m h hn
    obtain ⟨m9, meth, c, hn9, h1, h2, h3, h4, -, h5, h6, -⟩ := Cond.codeWith_spec (atoms_spec (ws := ws) h _ (by rw [hw]; exact List.mem_cons_self))
    cases hn.symm.trans hn9
    exact ⟨meth, c, h1, h2, h3, h4, h5, h6⟩
  · intro p e s m args below meth c s₁ B hml hP _
    have hh0 : s₁.heap = s.heap := by rw [B.state]; rfl
    obtain ⟨t, a1, o, b1, b2, b3⟩ := body p e s m args below meth c s₁ B hml hP s₁ hh0 (Stand.of_body B)
    exact ⟨t, o, a1, b1, b2, b3⟩
/-! ===== END ===== -/

def RX0 : String := "Amendgrant$Amendment"
def TX0 : u_T := fun k => match k with
  | 0 => ("Amendgrant$Amendment", "number", "I", true)
  | 1 => ("Amendgrant$Amendment", "above", "LAmendgrant$Amendment;", true)
  | 2 => ("Amendgrant$Amendment", "line", "LAmendgrant$Line;", true)
  | 3 => ("Amendgrant$Amendment", "more", "I", true)
  | 4 => ("Amendgrant$Amendment", "brings", "I", false)
  | 5 => ("Amendgrant$Amendment", "state", "I", false)
  | 6 => ("Amendgrant$Amendment", "round", "I", false)
  | 7 => ("Amendgrant$Amendment", "struck", "Z", false)
  | 8 => ("Amendgrant$Amendment", "membersFor", "I", false)
  | _ => ("Amendgrant$Amendment", "membersAgainst", "I", false)
def tyX0 : Nat → FieldType := fun k => match k with
  | 0 => .int
  | 1 => .object "Amendgrant$Amendment"
  | 2 => .object "Amendgrant$Line"
  | 3 => .int
  | 4 => .int
  | 5 => .int
  | 6 => .int
  | 7 => .boolean
  | 8 => .int
  | _ => .int
abbrev wsX00 : List Cond := u_ws RX0 TX0 10
theorem nmX0 : ∀ a, a < 10 → ∀ b, b < 10 → a ≠ b → (TX0 a).2.1 ≠ (TX0 b).2.1 := by decide +kernel
theorem tyX0_ok : ∀ k, k < 10 → parseFieldDescriptor (TX0 k).2.2.1 = some (tyX0 k) := by decide +kernel
abbrev cX0_init : ByteArray := prog_2_method_1_code
def yX0_init : MethodName := ⟨RX0, "<init>", "(ILAmendgrant$Amendment;LAmendgrant$Line;I)V"⟩
abbrev cX0_takeVote : ByteArray := prog_2_method_2_code
def yX0_takeVote : MethodName := ⟨RX0, "takeVote", "(IZ)V"⟩
abbrev cX0_votesFor : ByteArray := prog_2_method_3_code
def yX0_votesFor : MethodName := ⟨RX0, "votesFor", "()I"⟩
abbrev cX0_votesAgainst : ByteArray := prog_2_method_4_code
def yX0_votesAgainst : MethodName := ⟨RX0, "votesAgainst", "()I"⟩
abbrev cX0_isWon : ByteArray := prog_2_method_5_code
def yX0_isWon : MethodName := ⟨RX0, "isWon", "()Z"⟩
abbrev cX0_isLost : ByteArray := prog_2_method_6_code
def yX0_isLost : MethodName := ⟨RX0, "isLost", "()Z"⟩
abbrev cX0_beginRoundTwo : ByteArray := prog_2_method_7_code
def yX0_beginRoundTwo : MethodName := ⟨RX0, "beginRoundTwo", "()V"⟩
def RX1 : String := "Amendgrant$Grant"
def TX1 : u_T := fun k => match k with
  | 0 => ("Amendgrant$Grant", "line", "LAmendgrant$Line;", true)
  | 1 => ("Amendgrant$Grant", "receiver", "LAmendgrant$Receiver;", true)
  | 2 => ("Amendgrant$Grant", "hangsOn", "LAmendgrant$Amendment;", true)
  | 3 => ("Amendgrant$Grant", "lastMonth", "I", true)
  | 4 => ("Amendgrant$Grant", "sum", "I", false)
  | 5 => ("Amendgrant$Grant", "paid", "I", false)
  | 6 => ("Amendgrant$Grant", "state", "I", false)
  | _ => ("Amendgrant$Grant", "reported", "Z", false)
def tyX1 : Nat → FieldType := fun k => match k with
  | 0 => .object "Amendgrant$Line"
  | 1 => .object "Amendgrant$Receiver"
  | 2 => .object "Amendgrant$Amendment"
  | 3 => .int
  | 4 => .int
  | 5 => .int
  | 6 => .int
  | _ => .boolean
abbrev wsX10 : List Cond := u_ws RX1 TX1 8
theorem nmX1 : ∀ a, a < 8 → ∀ b, b < 8 → a ≠ b → (TX1 a).2.1 ≠ (TX1 b).2.1 := by decide +kernel
theorem tyX1_ok : ∀ k, k < 8 → parseFieldDescriptor (TX1 k).2.2.1 = some (tyX1 k) := by decide +kernel
abbrev cX1_init : ByteArray := prog_3_method_1_code
def yX1_init : MethodName := ⟨RX1, "<init>", "(LAmendgrant$Line;LAmendgrant$Receiver;ILAmendgrant$Amendment;I)V"⟩
abbrev cX1_binds : ByteArray := prog_3_method_2_code
def yX1_binds : MethodName := ⟨RX1, "binds", "()I"⟩
abbrev cX1_isOverdue : ByteArray := prog_3_method_3_code
def yX1_isOverdue : MethodName := ⟨RX1, "isOverdue", "(I)Z"⟩
abbrev cX1_hangsOnFallen : ByteArray := prog_3_method_4_code
def yX1_hangsOnFallen : MethodName := ⟨RX1, "hangsOnFallen", "()Z"⟩
abbrev cX1_withdraw : ByteArray := prog_3_method_5_code
def yX1_withdraw : MethodName := ⟨RX1, "withdraw", "()V"⟩
abbrev cX1_cut : ByteArray := prog_3_method_6_code
def yX1_cut : MethodName := ⟨RX1, "cut", "()V"⟩
abbrev cX1_clawBack : ByteArray := prog_3_method_7_code
def yX1_clawBack : MethodName := ⟨RX1, "clawBack", "(I)V"⟩
def RX2 : String := "Amendgrant$Line"
def TX2 : u_T := fun k => match k with
  | 0 => ("Amendgrant$Line", "number", "I", true)
  | 1 => ("Amendgrant$Line", "source", "LAmendgrant$Source;", true)
  | 2 => ("Amendgrant$Line", "atFirst", "I", true)
  | 3 => ("Amendgrant$Line", "brought", "I", false)
  | 4 => ("Amendgrant$Line", "spent", "I", false)
  | 5 => ("Amendgrant$Line", "taken", "I", false)
  | _ => ("Amendgrant$Line", "covered", "I", false)
def tyX2 : Nat → FieldType := fun k => match k with
  | 0 => .int
  | 1 => .object "Amendgrant$Source"
  | 2 => .int
  | 3 => .int
  | 4 => .int
  | 5 => .int
  | _ => .int
abbrev wsX20 : List Cond := u_ws RX2 TX2 7
theorem nmX2 : ∀ a, a < 7 → ∀ b, b < 7 → a ≠ b → (TX2 a).2.1 ≠ (TX2 b).2.1 := by decide +kernel
theorem tyX2_ok : ∀ k, k < 7 → parseFieldDescriptor (TX2 k).2.2.1 = some (tyX2 k) := by decide +kernel
abbrev cX2_init : ByteArray := prog_4_method_1_code
def yX2_init : MethodName := ⟨RX2, "<init>", "(ILAmendgrant$Source;I)V"⟩
abbrev cX2_stands : ByteArray := prog_4_method_2_code
def yX2_stands : MethodName := ⟨RX2, "stands", "()I"⟩
abbrev cX2_standsWith : ByteArray := prog_4_method_3_code
def yX2_standsWith : MethodName := ⟨RX2, "standsWith", "(I)I"⟩
def RX3 : String := "Amendgrant$Receiver"
def TX3 : u_T := fun k => match k with
  | 0 => ("Amendgrant$Receiver", "number", "I", true)
  | _ => ("Amendgrant$Receiver", "debt", "I", false)
def tyX3 : Nat → FieldType := fun k => match k with
  | 0 => .int
  | _ => .int
abbrev wsX30 : List Cond := u_ws RX3 TX3 2
theorem nmX3 : ∀ a, a < 2 → ∀ b, b < 2 → a ≠ b → (TX3 a).2.1 ≠ (TX3 b).2.1 := by decide +kernel
theorem tyX3_ok : ∀ k, k < 2 → parseFieldDescriptor (TX3 k).2.2.1 = some (tyX3 k) := by decide +kernel
abbrev cX3_init : ByteArray := prog_5_method_1_code
def yX3_init : MethodName := ⟨RX3, "<init>", "(I)V"⟩
def RX4 : String := "Amendgrant$Source"
def TX4 : u_T := fun k => match k with
  | 0 => ("Amendgrant$Source", "number", "I", true)
  | 1 => ("Amendgrant$Source", "income", "I", false)
  | _ => ("Amendgrant$Source", "paid", "I", false)
def tyX4 : Nat → FieldType := fun k => match k with
  | 0 => .int
  | 1 => .int
  | _ => .int
abbrev wsX40 : List Cond := u_ws RX4 TX4 3
theorem nmX4 : ∀ a, a < 3 → ∀ b, b < 3 → a ≠ b → (TX4 a).2.1 ≠ (TX4 b).2.1 := by decide +kernel
theorem tyX4_ok : ∀ k, k < 3 → parseFieldDescriptor (TX4 k).2.2.1 = some (tyX4 k) := by decide +kernel
abbrev cX4_init : ByteArray := prog_6_method_1_code
def yX4_init : MethodName := ⟨RX4, "<init>", "(I)V"⟩
abbrev cX4_unpaid : ByteArray := prog_6_method_2_code
def yX4_unpaid : MethodName := ⟨RX4, "unpaid", "()I"⟩
def RX5 : String := "Amendgrant"
def TX5 : u_T := fun k => match k with
  | 0 => ("Amendgrant", "sources", "Ljava/util/ArrayList;", true)
  | 1 => ("Amendgrant", "receivers", "Ljava/util/ArrayList;", true)
  | 2 => ("Amendgrant", "lines", "Ljava/util/ArrayList;", true)
  | 3 => ("Amendgrant", "amendments", "Ljava/util/ArrayList;", true)
  | 4 => ("Amendgrant", "grants", "Ljava/util/ArrayList;", true)
  | 5 => ("Amendgrant", "inReserve", "I", false)
  | 6 => ("Amendgrant", "percentOfTarget", "I", false)
  | _ => ("Amendgrant", "thisMonth", "I", false)
def tyX5 : Nat → FieldType := fun k => match k with
  | 0 => .object "java/util/ArrayList"
  | 1 => .object "java/util/ArrayList"
  | 2 => .object "java/util/ArrayList"
  | 3 => .object "java/util/ArrayList"
  | 4 => .object "java/util/ArrayList"
  | 5 => .int
  | 6 => .int
  | _ => .int
abbrev wsX50 : List Cond := u_ws RX5 TX5 8
theorem nmX5 : ∀ a, a < 8 → ∀ b, b < 8 → a ≠ b → (TX5 a).2.1 ≠ (TX5 b).2.1 := by decide +kernel
theorem tyX5_ok : ∀ k, k < 8 → parseFieldDescriptor (TX5 k).2.2.1 = some (tyX5 k) := by decide +kernel
abbrev cX5_init : ByteArray := prog_1_method_1_code
def yX5_init : MethodName := ⟨RX5, "<init>", "()V"⟩
abbrev cX5_line : ByteArray := prog_1_method_2_code
def yX5_line : MethodName := ⟨RX5, "line", "(II)I"⟩
abbrev cX5_income : ByteArray := prog_1_method_3_code
def yX5_income : MethodName := ⟨RX5, "income", "(II)I"⟩
abbrev cX5_amend : ByteArray := prog_1_method_4_code
def yX5_amend : MethodName := ⟨RX5, "amend", "(II)I"⟩
abbrev cX5_amendOn : ByteArray := prog_1_method_5_code
def yX5_amendOn : MethodName := ⟨RX5, "amendOn", "(II)I"⟩
abbrev cX5_vote : ByteArray := prog_1_method_6_code
def yX5_vote : MethodName := ⟨RX5, "vote", "(IIZ)I"⟩
abbrev cX5_decide : ByteArray := prog_1_method_7_code
def yX5_decide : MethodName := ⟨RX5, "decide", "(I)I"⟩
abbrev cX5_strike : ByteArray := prog_1_method_8_code
def yX5_strike : MethodName := ⟨RX5, "strike", "(I)I"⟩
abbrev cX5_grant : ByteArray := prog_1_method_9_code
def yX5_grant : MethodName := ⟨RX5, "grant", "(IIIII)I"⟩
abbrev cX5_pay : ByteArray := prog_1_method_10_code
def yX5_pay : MethodName := ⟨RX5, "pay", "(II)I"⟩
abbrev cX5_report : ByteArray := prog_1_method_11_code
def yX5_report : MethodName := ⟨RX5, "report", "(I)Z"⟩
abbrev cX5_spend : ByteArray := prog_1_method_12_code
def yX5_spend : MethodName := ⟨RX5, "spend", "(II)I"⟩
abbrev cX5_audit : ByteArray := prog_1_method_13_code
def yX5_audit : MethodName := ⟨RX5, "audit", "(II)I"⟩
abbrev cX5_repay : ByteArray := prog_1_method_14_code
def yX5_repay : MethodName := ⟨RX5, "repay", "(II)I"⟩
abbrev cX5_target : ByteArray := prog_1_method_15_code
def yX5_target : MethodName := ⟨RX5, "target", "(I)I"⟩
abbrev cX5_month : ByteArray := prog_1_method_16_code
def yX5_month : MethodName := ⟨RX5, "month", "(I)I"⟩
abbrev cX5_ofLine : ByteArray := prog_1_method_17_code
def yX5_ofLine : MethodName := ⟨RX5, "ofLine", "(II)I"⟩
abbrev cX5_standsAnew : ByteArray := prog_1_method_18_code
def yX5_standsAnew : MethodName := ⟨RX5, "standsAnew", "(I)I"⟩
abbrev cX5_ofAmendment : ByteArray := prog_1_method_19_code
def yX5_ofAmendment : MethodName := ⟨RX5, "ofAmendment", "(II)I"⟩
abbrev cX5_ofGrant : ByteArray := prog_1_method_20_code
def yX5_ofGrant : MethodName := ⟨RX5, "ofGrant", "(II)I"⟩
abbrev cX5_owes : ByteArray := prog_1_method_21_code
def yX5_owes : MethodName := ⟨RX5, "owes", "(I)I"⟩
abbrev cX5_reserve : ByteArray := prog_1_method_22_code
def yX5_reserve : MethodName := ⟨RX5, "reserve", "()I"⟩
abbrev cX5_ofSource : ByteArray := prog_1_method_23_code
def yX5_ofSource : MethodName := ⟨RX5, "ofSource", "(II)I"⟩
abbrev cX5_sourceAt : ByteArray := prog_1_method_24_code
def yX5_sourceAt : MethodName := ⟨RX5, "sourceAt", "(I)LAmendgrant$Source;"⟩
abbrev cX5_receiverAt : ByteArray := prog_1_method_25_code
def yX5_receiverAt : MethodName := ⟨RX5, "receiverAt", "(I)LAmendgrant$Receiver;"⟩
abbrev cX5_lineAt : ByteArray := prog_1_method_26_code
def yX5_lineAt : MethodName := ⟨RX5, "lineAt", "(I)LAmendgrant$Line;"⟩
abbrev cX5_amendmentAt : ByteArray := prog_1_method_27_code
def yX5_amendmentAt : MethodName := ⟨RX5, "amendmentAt", "(I)LAmendgrant$Amendment;"⟩
abbrev cX5_grantAt : ByteArray := prog_1_method_28_code
def yX5_grantAt : MethodName := ⟨RX5, "grantAt", "(I)LAmendgrant$Grant;"⟩
abbrev cX5_numberOf : ByteArray := prog_1_method_29_code
def yX5_numberOf : MethodName := ⟨RX5, "numberOf", "(LAmendgrant$Amendment;)I"⟩
abbrev cX5_needRange : ByteArray := prog_1_method_30_code
def yX5_needRange : MethodName := ⟨RX5, "needRange", "(III)V"⟩
abbrev cX5_needMore : ByteArray := prog_1_method_31_code
def yX5_needMore : MethodName := ⟨RX5, "needMore", "(I)V"⟩
abbrev cX5_needRoomForAmendment : ByteArray := prog_1_method_32_code
def yX5_needRoomForAmendment : MethodName := ⟨RX5, "needRoomForAmendment", "()V"⟩
abbrev cX5_needOpen : ByteArray := prog_1_method_33_code
def yX5_needOpen : MethodName := ⟨RX5, "needOpen", "(LAmendgrant$Amendment;)V"⟩
abbrev cX5_needPassed : ByteArray := prog_1_method_34_code
def yX5_needPassed : MethodName := ⟨RX5, "needPassed", "(LAmendgrant$Amendment;)V"⟩
abbrev cX5_needNotWithdrawn : ByteArray := prog_1_method_35_code
def yX5_needNotWithdrawn : MethodName := ⟨RX5, "needNotWithdrawn", "(LAmendgrant$Grant;)V"⟩
abbrev cX5_needFree : ByteArray := prog_1_method_36_code
def yX5_needFree : MethodName := ⟨RX5, "needFree", "(LAmendgrant$Line;I)V"⟩
abbrev cX5_payFrom : ByteArray := prog_1_method_37_code
def yX5_payFrom : MethodName := ⟨RX5, "payFrom", "(LAmendgrant$Source;I)V"⟩
abbrev cX5_addAmendment : ByteArray := prog_1_method_38_code
def yX5_addAmendment : MethodName := ⟨RX5, "addAmendment", "(LAmendgrant$Amendment;LAmendgrant$Line;I)I"⟩
abbrev cX5_countOn : ByteArray := prog_1_method_39_code
def yX5_countOn : MethodName := ⟨RX5, "countOn", "(LAmendgrant$Amendment;)I"⟩
abbrev cX5_isOneOpenOn : ByteArray := prog_1_method_40_code
def yX5_isOneOpenOn : MethodName := ⟨RX5, "isOneOpenOn", "(LAmendgrant$Amendment;)Z"⟩
abbrev cX5_makePassed : ByteArray := prog_1_method_41_code
def yX5_makePassed : MethodName := ⟨RX5, "makePassed", "(LAmendgrant$Amendment;)V"⟩
abbrev cX5_makeFallen : ByteArray := prog_1_method_42_code
def yX5_makeFallen : MethodName := ⟨RX5, "makeFallen", "(LAmendgrant$Amendment;)I"⟩
abbrev cX5_fellAllOnFallen : ByteArray := prog_1_method_43_code
def yX5_fellAllOnFallen : MethodName := ⟨RX5, "fellAllOnFallen", "()V"⟩
abbrev cX5_reckonWhatIsBrought : ByteArray := prog_1_method_44_code
def yX5_reckonWhatIsBrought : MethodName := ⟨RX5, "reckonWhatIsBrought", "()V"⟩
abbrev cX5_passOn : ByteArray := prog_1_method_45_code
def yX5_passOn : MethodName := ⟨RX5, "passOn", "(LAmendgrant$Amendment;)V"⟩
abbrev cX5_countsByVotes : ByteArray := prog_1_method_46_code
def yX5_countsByVotes : MethodName := ⟨RX5, "countsByVotes", "(LAmendgrant$Amendment;)Z"⟩
abbrev cX5_boundOf : ByteArray := prog_1_method_47_code
def yX5_boundOf : MethodName := ⟨RX5, "boundOf", "(LAmendgrant$Line;)I"⟩
abbrev cX5_freeOf : ByteArray := prog_1_method_48_code
def yX5_freeOf : MethodName := ⟨RX5, "freeOf", "(LAmendgrant$Line;)I"⟩
abbrev cX5_standsOfLinesFrom : ByteArray := prog_1_method_49_code
def yX5_standsOfLinesFrom : MethodName := ⟨RX5, "standsOfLinesFrom", "(LAmendgrant$Source;)I"⟩
abbrev cX5_withdrawThoseOnFallen : ByteArray := prog_1_method_50_code
def yX5_withdrawThoseOnFallen : MethodName := ⟨RX5, "withdrawThoseOnFallen", "()I"⟩
abbrev cX5_withdrawOverdue : ByteArray := prog_1_method_51_code
def yX5_withdrawOverdue : MethodName := ⟨RX5, "withdrawOverdue", "()V"⟩
abbrev cX5_balance : ByteArray := prog_1_method_52_code
def yX5_balance : MethodName := ⟨RX5, "balance", "(LAmendgrant$Line;)I"⟩
abbrev cX5_fillReserve : ByteArray := prog_1_method_53_code
def yX5_fillReserve : MethodName := ⟨RX5, "fillReserve", "()V"⟩
abbrev cX5_takeFrom : ByteArray := prog_1_method_54_code
def yX5_takeFrom : MethodName := ⟨RX5, "takeFrom", "(LAmendgrant$Line;I)V"⟩
abbrev cX5_targetNow : ByteArray := prog_1_method_55_code
def yX5_targetNow : MethodName := ⟨RX5, "targetNow", "()I"⟩
def RX6 : String := "AmendgrantModel"
def TX6 : u_T := fun k => match k with
  | 0 => ("AmendgrantModel", "thrown", "I", false)
  | 1 => ("AmendgrantModel", "now", "I", false)
  | 2 => ("AmendgrantModel", "reserve", "I", false)
  | 3 => ("AmendgrantModel", "percent", "I", false)
  | 4 => ("AmendgrantModel", "income", "[I", true)
  | 5 => ("AmendgrantModel", "paidFrom", "[I", true)
  | 6 => ("AmendgrantModel", "owes", "[I", true)
  | 7 => ("AmendgrantModel", "lines", "I", false)
  | 8 => ("AmendgrantModel", "sourceOf", "[I", true)
  | 9 => ("AmendgrantModel", "first", "[I", true)
  | 10 => ("AmendgrantModel", "took", "[I", true)
  | 11 => ("AmendgrantModel", "covered", "[I", true)
  | 12 => ("AmendgrantModel", "spent", "[I", true)
  | 13 => ("AmendgrantModel", "amendments", "I", false)
  | 14 => ("AmendgrantModel", "on", "[I", true)
  | 15 => ("AmendgrantModel", "lineOf", "[I", true)
  | 16 => ("AmendgrantModel", "more", "[I", true)
  | 17 => ("AmendgrantModel", "state", "[I", true)
  | 18 => ("AmendgrantModel", "round", "[I", true)
  | 19 => ("AmendgrantModel", "votes", "[I", true)
  | 20 => ("AmendgrantModel", "grants", "I", false)
  | 21 => ("AmendgrantModel", "grantLine", "[I", true)
  | 22 => ("AmendgrantModel", "receiver", "[I", true)
  | 23 => ("AmendgrantModel", "sum", "[I", true)
  | 24 => ("AmendgrantModel", "paid", "[I", true)
  | 25 => ("AmendgrantModel", "hangsOn", "[I", true)
  | 26 => ("AmendgrantModel", "until", "[I", true)
  | 27 => ("AmendgrantModel", "becomes", "[I", true)
  | 28 => ("AmendgrantModel", "isReported", "[Z", true)
  | 29 => ("AmendgrantModel", "sums", "[I", true)
  | _ => ("AmendgrantModel", "isFalling", "[Z", true)
def tyX6 : Nat → FieldType := fun k => match k with
  | 0 => .int
  | 1 => .int
  | 2 => .int
  | 3 => .int
  | 4 => .array .int
  | 5 => .array .int
  | 6 => .array .int
  | 7 => .int
  | 8 => .array .int
  | 9 => .array .int
  | 10 => .array .int
  | 11 => .array .int
  | 12 => .array .int
  | 13 => .int
  | 14 => .array .int
  | 15 => .array .int
  | 16 => .array .int
  | 17 => .array .int
  | 18 => .array .int
  | 19 => .array .int
  | 20 => .int
  | 21 => .array .int
  | 22 => .array .int
  | 23 => .array .int
  | 24 => .array .int
  | 25 => .array .int
  | 26 => .array .int
  | 27 => .array .int
  | 28 => .array .boolean
  | 29 => .array .int
  | _ => .array .boolean
abbrev wsX60 : List Cond := u_ws RX6 TX6 31
theorem nmX6 : ∀ a, a < 31 → ∀ b, b < 31 → a ≠ b → (TX6 a).2.1 ≠ (TX6 b).2.1 := by decide +kernel
theorem tyX6_ok : ∀ k, k < 31 → parseFieldDescriptor (TX6 k).2.2.1 = some (tyX6 k) := by decide +kernel
abbrev cX6_init : ByteArray := prog_8_method_1_code
def yX6_init : MethodName := ⟨RX6, "<init>", "()V"⟩
abbrev cX6_thrown : ByteArray := prog_8_method_2_code
def yX6_thrown : MethodName := ⟨RX6, "thrown", "()I"⟩
abbrev cX6_goesWell : ByteArray := prog_8_method_3_code
def yX6_goesWell : MethodName := ⟨RX6, "goesWell", "(I)Z"⟩
abbrev cX6_in : ByteArray := prog_8_method_4_code
def yX6_in : MethodName := ⟨RX6, "in", "(III)Z"⟩
abbrev cX6_isLine : ByteArray := prog_8_method_5_code
def yX6_isLine : MethodName := ⟨RX6, "isLine", "(I)Z"⟩
abbrev cX6_isAmendment : ByteArray := prog_8_method_6_code
def yX6_isAmendment : MethodName := ⟨RX6, "isAmendment", "(I)Z"⟩
abbrev cX6_isGrant : ByteArray := prog_8_method_7_code
def yX6_isGrant : MethodName := ⟨RX6, "isGrant", "(I)Z"⟩
abbrev cX6_bring : ByteArray := prog_8_method_8_code
def yX6_bring : MethodName := ⟨RX6, "bring", "()V"⟩
abbrev cX6_stands : ByteArray := prog_8_method_9_code
def yX6_stands : MethodName := ⟨RX6, "stands", "(I)I"⟩
abbrev cX6_bound : ByteArray := prog_8_method_10_code
def yX6_bound : MethodName := ⟨RX6, "bound", "(I)I"⟩
abbrev cX6_free : ByteArray := prog_8_method_11_code
def yX6_free : MethodName := ⟨RX6, "free", "(I)I"⟩
abbrev cX6_line : ByteArray := prog_8_method_12_code
def yX6_line : MethodName := ⟨RX6, "line", "(II)I"⟩
abbrev cX6_income : ByteArray := prog_8_method_13_code
def yX6_income : MethodName := ⟨RX6, "income", "(II)I"⟩
abbrev cX6_make : ByteArray := prog_8_method_14_code
def yX6_make : MethodName := ⟨RX6, "make", "(III)I"⟩
abbrev cX6_isMore : ByteArray := prog_8_method_15_code
def yX6_isMore : MethodName := ⟨RX6, "isMore", "(I)Z"⟩
abbrev cX6_amend : ByteArray := prog_8_method_16_code
def yX6_amend : MethodName := ⟨RX6, "amend", "(II)I"⟩
abbrev cX6_amendOn : ByteArray := prog_8_method_17_code
def yX6_amendOn : MethodName := ⟨RX6, "amendOn", "(II)I"⟩
abbrev cX6_votesOf : ByteArray := prog_8_method_18_code
def yX6_votesOf : MethodName := ⟨RX6, "votesOf", "(II)I"⟩
abbrev cX6_vote : ByteArray := prog_8_method_19_code
def yX6_vote : MethodName := ⟨RX6, "vote", "(IIZ)I"⟩
abbrev cX6_withdraw : ByteArray := prog_8_method_20_code
def yX6_withdraw : MethodName := ⟨RX6, "withdraw", "(I)V"⟩
abbrev cX6_look : ByteArray := prog_8_method_21_code
def yX6_look : MethodName := ⟨RX6, "look", "(I)I"⟩
abbrev cX6_fall : ByteArray := prog_8_method_22_code
def yX6_fall : MethodName := ⟨RX6, "fall", "(I)I"⟩
abbrev cX6_isFree : ByteArray := prog_8_method_23_code
def yX6_isFree : MethodName := ⟨RX6, "isFree", "(I)Z"⟩
abbrev cX6_decide : ByteArray := prog_8_method_24_code
def yX6_decide : MethodName := ⟨RX6, "decide", "(I)I"⟩
abbrev cX6_strike : ByteArray := prog_8_method_25_code
def yX6_strike : MethodName := ⟨RX6, "strike", "(I)I"⟩
abbrev cX6_grant : ByteArray := prog_8_method_26_code
def yX6_grant : MethodName := ⟨RX6, "grant", "(IIIII)I"⟩
abbrev cX6_canPay : ByteArray := prog_8_method_27_code
def yX6_canPay : MethodName := ⟨RX6, "canPay", "(II)Z"⟩
abbrev cX6_pay : ByteArray := prog_8_method_28_code
def yX6_pay : MethodName := ⟨RX6, "pay", "(II)I"⟩
abbrev cX6_report : ByteArray := prog_8_method_29_code
def yX6_report : MethodName := ⟨RX6, "report", "(I)Z"⟩
abbrev cX6_spend : ByteArray := prog_8_method_30_code
def yX6_spend : MethodName := ⟨RX6, "spend", "(II)I"⟩
abbrev cX6_audit : ByteArray := prog_8_method_31_code
def yX6_audit : MethodName := ⟨RX6, "audit", "(II)I"⟩
abbrev cX6_repay : ByteArray := prog_8_method_32_code
def yX6_repay : MethodName := ⟨RX6, "repay", "(II)I"⟩
abbrev cX6_target : ByteArray := prog_8_method_33_code
def yX6_target : MethodName := ⟨RX6, "target", "(I)I"⟩
abbrev cX6_fill : ByteArray := prog_8_method_34_code
def yX6_fill : MethodName := ⟨RX6, "fill", "()V"⟩
abbrev cX6_month : ByteArray := prog_8_method_35_code
def yX6_month : MethodName := ⟨RX6, "month", "(I)I"⟩
abbrev cX6_ofLine : ByteArray := prog_8_method_36_code
def yX6_ofLine : MethodName := ⟨RX6, "ofLine", "(II)I"⟩
abbrev cX6_standsAnew : ByteArray := prog_8_method_37_code
def yX6_standsAnew : MethodName := ⟨RX6, "standsAnew", "(I)I"⟩
abbrev cX6_manyOn : ByteArray := prog_8_method_38_code
def yX6_manyOn : MethodName := ⟨RX6, "manyOn", "(I)I"⟩
abbrev cX6_ofAmendment : ByteArray := prog_8_method_39_code
def yX6_ofAmendment : MethodName := ⟨RX6, "ofAmendment", "(II)I"⟩
abbrev cX6_ofGrant : ByteArray := prog_8_method_40_code
def yX6_ofGrant : MethodName := ⟨RX6, "ofGrant", "(II)I"⟩
abbrev cX6_owes : ByteArray := prog_8_method_41_code
def yX6_owes : MethodName := ⟨RX6, "owes", "(I)I"⟩
abbrev cX6_reserve : ByteArray := prog_8_method_42_code
def yX6_reserve : MethodName := ⟨RX6, "reserve", "()I"⟩
abbrev cX6_ofSource : ByteArray := prog_8_method_43_code
def yX6_ofSource : MethodName := ⟨RX6, "ofSource", "(II)I"⟩
def RJx145de : String := "java/io/Serializable"
def TJx145de : u_T := fun k => match k with
  | _ => ("", "", "", false)
def tyJx145de : Nat → FieldType := fun k => match k with
  | _ => .int
abbrev wsJx145de0 : List Cond := u_ws RJx145de TJx145de 0
theorem nmJx145de : ∀ a, a < 0 → ∀ b, b < 0 → a ≠ b → (TJx145de a).2.1 ≠ (TJx145de b).2.1 := by decide +kernel
theorem tyJx145de_ok : ∀ k, k < 0 → parseFieldDescriptor (TJx145de k).2.2.1 = some (tyJx145de k) := by decide +kernel
def RJx8e188 : String := "java/lang/Cloneable"
def TJx8e188 : u_T := fun k => match k with
  | _ => ("", "", "", false)
def tyJx8e188 : Nat → FieldType := fun k => match k with
  | _ => .int
abbrev wsJx8e1880 : List Cond := u_ws RJx8e188 TJx8e188 0
theorem nmJx8e188 : ∀ a, a < 0 → ∀ b, b < 0 → a ≠ b → (TJx8e188 a).2.1 ≠ (TJx8e188 b).2.1 := by decide +kernel
theorem tyJx8e188_ok : ∀ k, k < 0 → parseFieldDescriptor (TJx8e188 k).2.2.1 = some (tyJx8e188 k) := by decide +kernel
def RJ6 : String := "java/lang/Integer"
def TJ6 : u_T := fun k => match k with
  | _ => ("", "", "", false)
def tyJ6 : Nat → FieldType := fun k => match k with
  | _ => .int
abbrev wsJ60 : List Cond := u_ws RJ6 TJ6 0
theorem nmJ6 : ∀ a, a < 0 → ∀ b, b < 0 → a ≠ b → (TJ6 a).2.1 ≠ (TJ6 b).2.1 := by decide +kernel
theorem tyJ6_ok : ∀ k, k < 0 → parseFieldDescriptor (TJ6 k).2.2.1 = some (tyJ6 k) := by decide +kernel
abbrev cJ6_bitCount_0f7a4 : ByteArray := prog_15_method_49_code
def yJ6_bitCount_0f7a4 : MethodName := ⟨RJ6, "bitCount", "(I)I"⟩
def RJxab1ab : String := "java/lang/Iterable"
def TJxab1ab : u_T := fun k => match k with
  | _ => ("", "", "", false)
def tyJxab1ab : Nat → FieldType := fun k => match k with
  | _ => .int
abbrev wsJxab1ab0 : List Cond := u_ws RJxab1ab TJxab1ab 0
theorem nmJxab1ab : ∀ a, a < 0 → ∀ b, b < 0 → a ≠ b → (TJxab1ab a).2.1 ≠ (TJxab1ab b).2.1 := by decide +kernel
theorem tyJxab1ab_ok : ∀ k, k < 0 → parseFieldDescriptor (TJxab1ab k).2.2.1 = some (tyJxab1ab k) := by decide +kernel
def RJ9 : String := "java/lang/Math"
def TJ9 : u_T := fun k => match k with
  | _ => ("", "", "", false)
def tyJ9 : Nat → FieldType := fun k => match k with
  | _ => .int
abbrev wsJ90 : List Cond := u_ws RJ9 TJ9 0
theorem nmJ9 : ∀ a, a < 0 → ∀ b, b < 0 → a ≠ b → (TJ9 a).2.1 ≠ (TJ9 b).2.1 := by decide +kernel
theorem tyJ9_ok : ∀ k, k < 0 → parseFieldDescriptor (TJ9 k).2.2.1 = some (tyJ9 k) := by decide +kernel
abbrev cJ9_max_7cf53 : ByteArray := prog_17_method_65_code
def yJ9_max_7cf53 : MethodName := ⟨RJ9, "max", "(II)I"⟩
abbrev cJ9_min_7cf53 : ByteArray := prog_17_method_69_code
def yJ9_min_7cf53 : MethodName := ⟨RJ9, "min", "(II)I"⟩
def RJ0 : String := "java/lang/String"
def TJ0 : u_T := fun k => match k with
  | _ => ("", "", "", false)
def tyJ0 : Nat → FieldType := fun k => match k with
  | _ => .int
abbrev wsJ00 : List Cond := u_ws RJ0 TJ0 0
theorem nmJ0 : ∀ a, a < 0 → ∀ b, b < 0 → a ≠ b → (TJ0 a).2.1 ≠ (TJ0 b).2.1 := by decide +kernel
theorem tyJ0_ok : ∀ k, k < 0 → parseFieldDescriptor (TJ0 k).2.2.1 = some (tyJ0 k) := by decide +kernel
def RJ10 : String := "java/lang/System"
def TJ10 : u_T := fun k => match k with
  | _ => ("", "", "", false)
def tyJ10 : Nat → FieldType := fun k => match k with
  | _ => .int
abbrev wsJ100 : List Cond := u_ws RJ10 TJ10 0
theorem nmJ10 : ∀ a, a < 0 → ∀ b, b < 0 → a ≠ b → (TJ10 a).2.1 ≠ (TJ10 b).2.1 := by decide +kernel
theorem tyJ10_ok : ∀ k, k < 0 → parseFieldDescriptor (TJ10 k).2.2.1 = some (tyJ10 k) := by decide +kernel
def RJxa1e45 : String := "java/util/AbstractCollection"
def TJxa1e45 : u_T := fun k => match k with
  | _ => ("", "", "", false)
def tyJxa1e45 : Nat → FieldType := fun k => match k with
  | _ => .int
abbrev wsJxa1e450 : List Cond := u_ws RJxa1e45 TJxa1e45 0
theorem nmJxa1e45 : ∀ a, a < 0 → ∀ b, b < 0 → a ≠ b → (TJxa1e45 a).2.1 ≠ (TJxa1e45 b).2.1 := by decide +kernel
theorem tyJxa1e45_ok : ∀ k, k < 0 → parseFieldDescriptor (TJxa1e45 k).2.2.1 = some (tyJxa1e45 k) := by decide +kernel
abbrev cJxa1e45_init_da8c8 : ByteArray := prog_22_method_1_code
def yJxa1e45_init_da8c8 : MethodName := ⟨RJxa1e45, "<init>", "()V"⟩
def RJxc12de : String := "java/util/AbstractList"
def TJxc12de : u_T := fun k => match k with
  | _ => ("", "", "", false)
def tyJxc12de : Nat → FieldType := fun k => match k with
  | _ => .int
abbrev wsJxc12de0 : List Cond := u_ws RJxc12de TJxc12de 0
theorem nmJxc12de : ∀ a, a < 0 → ∀ b, b < 0 → a ≠ b → (TJxc12de a).2.1 ≠ (TJxc12de b).2.1 := by decide +kernel
theorem tyJxc12de_ok : ∀ k, k < 0 → parseFieldDescriptor (TJxc12de k).2.2.1 = some (tyJxc12de k) := by decide +kernel
abbrev cJxc12de_init_da8c8 : ByteArray := prog_23_method_1_code
def yJxc12de_init_da8c8 : MethodName := ⟨RJxc12de, "<init>", "()V"⟩
def RJx4a65c : String := "java/util/ArrayList"
def TJx4a65c : u_T := fun k => match k with
  | 0 => ("java/util/AbstractList", "modCount", "I", false)
  | 1 => ("java/util/ArrayList", "elementData", "[Ljava/lang/Object;", false)
  | _ => ("java/util/ArrayList", "size", "I", false)
def tyJx4a65c : Nat → FieldType := fun k => match k with
  | 0 => .int
  | 1 => .array (.object "java/lang/Object")
  | _ => .int
abbrev wsJx4a65c0 : List Cond := u_ws RJx4a65c TJx4a65c 3
theorem nmJx4a65c : ∀ a, a < 3 → ∀ b, b < 3 → a ≠ b → (TJx4a65c a).2.1 ≠ (TJx4a65c b).2.1 := by decide +kernel
theorem tyJx4a65c_ok : ∀ k, k < 3 → parseFieldDescriptor (TJx4a65c k).2.2.1 = some (tyJx4a65c k) := by decide +kernel
abbrev cJx4a65c_init_da8c8 : ByteArray := prog_24_method_2_code
def yJx4a65c_init_da8c8 : MethodName := ⟨RJx4a65c, "<init>", "()V"⟩
abbrev cJx4a65c_grow_92f84 : ByteArray := prog_24_method_6_code
def yJx4a65c_grow_92f84 : MethodName := ⟨RJx4a65c, "grow", "(I)[Ljava/lang/Object;"⟩
abbrev cJx4a65c_grow_d5877 : ByteArray := prog_24_method_7_code
def yJx4a65c_grow_d5877 : MethodName := ⟨RJx4a65c, "grow", "()[Ljava/lang/Object;"⟩
abbrev cJx4a65c_size_8abf5 : ByteArray := prog_24_method_8_code
def yJx4a65c_size_8abf5 : MethodName := ⟨RJx4a65c, "size", "()I"⟩
abbrev cJx4a65c_elementData_915e3 : ByteArray := prog_24_method_18_code
def yJx4a65c_elementData_915e3 : MethodName := ⟨RJx4a65c, "elementData", "(I)Ljava/lang/Object;"⟩
abbrev cJx4a65c_get_915e3 : ByteArray := prog_24_method_20_code
def yJx4a65c_get_915e3 : MethodName := ⟨RJx4a65c, "get", "(I)Ljava/lang/Object;"⟩
abbrev cJx4a65c_add_72be8 : ByteArray := prog_24_method_24_code
def yJx4a65c_add_72be8 : MethodName := ⟨RJx4a65c, "add", "(Ljava/lang/Object;[Ljava/lang/Object;I)V"⟩
abbrev cJx4a65c_add_9ea2d : ByteArray := prog_24_method_25_code
def yJx4a65c_add_9ea2d : MethodName := ⟨RJx4a65c, "add", "(Ljava/lang/Object;)Z"⟩
def RJ7 : String := "java/util/Arrays"
def TJ7 : u_T := fun k => match k with
  | _ => ("", "", "", false)
def tyJ7 : Nat → FieldType := fun k => match k with
  | _ => .int
abbrev wsJ70 : List Cond := u_ws RJ7 TJ7 0
theorem nmJ7 : ∀ a, a < 0 → ∀ b, b < 0 → a ≠ b → (TJ7 a).2.1 ≠ (TJ7 b).2.1 := by decide +kernel
theorem tyJ7_ok : ∀ k, k < 0 → parseFieldDescriptor (TJ7 k).2.2.1 = some (tyJ7 k) := by decide +kernel
abbrev cJ7_copyOf_1904c : ByteArray := prog_25_method_119_code
def yJ7_copyOf_1904c : MethodName := ⟨RJ7, "copyOf", "([Ljava/lang/Object;I)[Ljava/lang/Object;"⟩
abbrev cJ7_copyOf_6403c : ByteArray := prog_25_method_120_code
def yJ7_copyOf_6403c : MethodName := ⟨RJ7, "copyOf", "([Ljava/lang/Object;ILjava/lang/Class;)[Ljava/lang/Object;"⟩
def RJx5ef63 : String := "java/util/Collection"
def TJx5ef63 : u_T := fun k => match k with
  | _ => ("", "", "", false)
def tyJx5ef63 : Nat → FieldType := fun k => match k with
  | _ => .int
abbrev wsJx5ef630 : List Cond := u_ws RJx5ef63 TJx5ef63 0
theorem nmJx5ef63 : ∀ a, a < 0 → ∀ b, b < 0 → a ≠ b → (TJx5ef63 a).2.1 ≠ (TJx5ef63 b).2.1 := by decide +kernel
theorem tyJx5ef63_ok : ∀ k, k < 0 → parseFieldDescriptor (TJx5ef63 k).2.2.1 = some (tyJx5ef63 k) := by decide +kernel
def RJxbd725 : String := "java/util/List"
def TJxbd725 : u_T := fun k => match k with
  | _ => ("", "", "", false)
def tyJxbd725 : Nat → FieldType := fun k => match k with
  | _ => .int
abbrev wsJxbd7250 : List Cond := u_ws RJxbd725 TJxbd725 0
theorem nmJxbd725 : ∀ a, a < 0 → ∀ b, b < 0 → a ≠ b → (TJxbd725 a).2.1 ≠ (TJxbd725 b).2.1 := by decide +kernel
theorem tyJxbd725_ok : ∀ k, k < 0 → parseFieldDescriptor (TJxbd725 k).2.2.1 = some (tyJxbd725 k) := by decide +kernel
def RJ15 : String := "java/util/Objects"
def TJ15 : u_T := fun k => match k with
  | _ => ("", "", "", false)
def tyJ15 : Nat → FieldType := fun k => match k with
  | _ => .int
abbrev wsJ150 : List Cond := u_ws RJ15 TJ15 0
theorem nmJ15 : ∀ a, a < 0 → ∀ b, b < 0 → a ≠ b → (TJ15 a).2.1 ≠ (TJ15 b).2.1 := by decide +kernel
theorem tyJ15_ok : ∀ k, k < 0 → parseFieldDescriptor (TJ15 k).2.2.1 = some (tyJ15 k) := by decide +kernel
abbrev cJ15_checkIndex_7cf53 : ByteArray := prog_28_method_17_code
def yJ15_checkIndex_7cf53 : MethodName := ⟨RJ15, "checkIndex", "(II)I"⟩
def RJxf0a74 : String := "java/util/RandomAccess"
def TJxf0a74 : u_T := fun k => match k with
  | _ => ("", "", "", false)
def tyJxf0a74 : Nat → FieldType := fun k => match k with
  | _ => .int
abbrev wsJxf0a740 : List Cond := u_ws RJxf0a74 TJxf0a74 0
theorem nmJxf0a74 : ∀ a, a < 0 → ∀ b, b < 0 → a ≠ b → (TJxf0a74 a).2.1 ≠ (TJxf0a74 b).2.1 := by decide +kernel
theorem tyJxf0a74_ok : ∀ k, k < 0 → parseFieldDescriptor (TJxf0a74 k).2.2.1 = some (tyJxf0a74 k) := by decide +kernel
def RJxa66e6 : String := "java/util/SequencedCollection"
def TJxa66e6 : u_T := fun k => match k with
  | _ => ("", "", "", false)
def tyJxa66e6 : Nat → FieldType := fun k => match k with
  | _ => .int
abbrev wsJxa66e60 : List Cond := u_ws RJxa66e6 TJxa66e6 0
theorem nmJxa66e6 : ∀ a, a < 0 → ∀ b, b < 0 → a ≠ b → (TJxa66e6 a).2.1 ≠ (TJxa66e6 b).2.1 := by decide +kernel
theorem tyJxa66e6_ok : ∀ k, k < 0 → parseFieldDescriptor (TJxa66e6 k).2.2.1 = some (tyJxa66e6 k) := by decide +kernel
def RJ8 : String := "jdk/internal/util/ArraysSupport"
def TJ8 : u_T := fun k => match k with
  | _ => ("", "", "", false)
def tyJ8 : Nat → FieldType := fun k => match k with
  | _ => .int
abbrev wsJ80 : List Cond := u_ws RJ8 TJ8 0
theorem nmJ8 : ∀ a, a < 0 → ∀ b, b < 0 → a ≠ b → (TJ8 a).2.1 ≠ (TJ8 b).2.1 := by decide +kernel
theorem tyJ8_ok : ∀ k, k < 0 → parseFieldDescriptor (TJ8 k).2.2.1 = some (tyJ8 k) := by decide +kernel
abbrev cJ8_newLength_cabcc : ByteArray := prog_31_method_27_code
def yJ8_newLength_cabcc : MethodName := ⟨RJ8, "newLength", "(III)I"⟩
abbrev cJ8_hugeLength_7cf53 : ByteArray := prog_31_method_28_code
def yJ8_hugeLength_7cf53 : MethodName := ⟨RJ8, "hugeLength", "(II)I"⟩
def RJ3 : String := "jdk/internal/util/Preconditions"
def TJ3 : u_T := fun k => match k with
  | _ => ("", "", "", false)
def tyJ3 : Nat → FieldType := fun k => match k with
  | _ => .int
abbrev wsJ30 : List Cond := u_ws RJ3 TJ3 0
theorem nmJ3 : ∀ a, a < 0 → ∀ b, b < 0 → a ≠ b → (TJ3 a).2.1 ≠ (TJ3 b).2.1 := by decide +kernel
theorem tyJ3_ok : ∀ k, k < 0 → parseFieldDescriptor (TJ3 k).2.2.1 = some (tyJ3 k) := by decide +kernel
abbrev cJ3_checkIndex_8e157 : ByteArray := prog_32_method_11_code
def yJ3_checkIndex_8e157 : MethodName := ⟨RJ3, "checkIndex", "(IILjava/util/function/BiFunction;)I"⟩
def RL : String := "AmendgrantLaw"
abbrev cL_line : ByteArray := method_3_code
def yL_line : MethodName := ⟨RL, "line", "(LAmendgrant;II[J)I"⟩
abbrev cL_income : ByteArray := method_4_code
def yL_income : MethodName := ⟨RL, "income", "(LAmendgrant;II[J)I"⟩
abbrev cL_amend : ByteArray := method_5_code
def yL_amend : MethodName := ⟨RL, "amend", "(LAmendgrant;II[J)I"⟩
abbrev cL_amendOn : ByteArray := method_6_code
def yL_amendOn : MethodName := ⟨RL, "amendOn", "(LAmendgrant;II[J)I"⟩
abbrev cL_vote : ByteArray := method_7_code
def yL_vote : MethodName := ⟨RL, "vote", "(LAmendgrant;IIZ[J)I"⟩
abbrev cL_decide : ByteArray := method_8_code
def yL_decide : MethodName := ⟨RL, "decide", "(LAmendgrant;I[J)I"⟩
abbrev cL_strike : ByteArray := method_9_code
def yL_strike : MethodName := ⟨RL, "strike", "(LAmendgrant;I[J)I"⟩
abbrev cL_grant : ByteArray := method_10_code
def yL_grant : MethodName := ⟨RL, "grant", "(LAmendgrant;IIIII[J)I"⟩
abbrev cL_pay : ByteArray := method_11_code
def yL_pay : MethodName := ⟨RL, "pay", "(LAmendgrant;II[J)I"⟩
abbrev cL_report : ByteArray := method_12_code
def yL_report : MethodName := ⟨RL, "report", "(LAmendgrant;I[J)I"⟩
abbrev cL_spend : ByteArray := method_13_code
def yL_spend : MethodName := ⟨RL, "spend", "(LAmendgrant;II[J)I"⟩
abbrev cL_audit : ByteArray := method_14_code
def yL_audit : MethodName := ⟨RL, "audit", "(LAmendgrant;II[J)I"⟩
abbrev cL_repay : ByteArray := method_15_code
def yL_repay : MethodName := ⟨RL, "repay", "(LAmendgrant;II[J)I"⟩
abbrev cL_target : ByteArray := method_16_code
def yL_target : MethodName := ⟨RL, "target", "(LAmendgrant;I[J)I"⟩
abbrev cL_month : ByteArray := method_17_code
def yL_month : MethodName := ⟨RL, "month", "(LAmendgrant;I[J)I"⟩
abbrev cL_ofLine : ByteArray := method_18_code
def yL_ofLine : MethodName := ⟨RL, "ofLine", "(LAmendgrant;II[J)I"⟩
abbrev cL_standsAnew : ByteArray := method_19_code
def yL_standsAnew : MethodName := ⟨RL, "standsAnew", "(LAmendgrant;I[J)I"⟩
abbrev cL_ofAmendment : ByteArray := method_20_code
def yL_ofAmendment : MethodName := ⟨RL, "ofAmendment", "(LAmendgrant;II[J)I"⟩
abbrev cL_ofGrant : ByteArray := method_21_code
def yL_ofGrant : MethodName := ⟨RL, "ofGrant", "(LAmendgrant;II[J)I"⟩
abbrev cL_owes : ByteArray := method_22_code
def yL_owes : MethodName := ⟨RL, "owes", "(LAmendgrant;I[J)I"⟩
abbrev cL_ofSource : ByteArray := method_23_code
def yL_ofSource : MethodName := ⟨RL, "ofSource", "(LAmendgrant;II[J)I"⟩
abbrev cL_law : ByteArray := code
def yL_law : MethodName := ⟨RL, "law", "([I)Z"⟩
abbrev vwCl : List vw_C := [(RJx4a65c, TJx4a65c, 3), (RX0, TX0, 10), (RX1, TX1, 8), (RX2, TX2, 7), (RX3, TX3, 2), (RX4, TX4, 3), (RX5, TX5, 8), (RX6, TX6, 31)]
end
section
theorem dX0_init_0 : decode cX0_init 0 = .ok (.aload_n 0, 1) := by decide +kernel
theorem dX0_init_1 : decode cX0_init 1 = .ok (.invokespecial 3, 3) := by decide +kernel
theorem dX0_init_4 : decode cX0_init 4 = .ok (.aload_n 0, 1) := by decide +kernel
theorem dX0_init_5 : decode cX0_init 5 = .ok (.iconst 0, 1) := by decide +kernel
theorem dX0_init_6 : decode cX0_init 6 = .ok (.putfield 9, 3) := by decide +kernel
theorem dX0_init_9 : decode cX0_init 9 = .ok (.aload_n 0, 1) := by decide +kernel
theorem dX0_init_10 : decode cX0_init 10 = .ok (.iconst 1, 1) := by decide +kernel
theorem dX0_init_11 : decode cX0_init 11 = .ok (.putfield 15, 3) := by decide +kernel
theorem dX0_init_14 : decode cX0_init 14 = .ok (.aload_n 0, 1) := by decide +kernel
theorem dX0_init_15 : decode cX0_init 15 = .ok (.iconst 0, 1) := by decide +kernel
theorem dX0_init_16 : decode cX0_init 16 = .ok (.putfield 18, 3) := by decide +kernel
theorem dX0_init_19 : decode cX0_init 19 = .ok (.aload_n 0, 1) := by decide +kernel
theorem dX0_init_20 : decode cX0_init 20 = .ok (.iconst 0, 1) := by decide +kernel
theorem dX0_init_21 : decode cX0_init 21 = .ok (.putfield 22, 3) := by decide +kernel
theorem dX0_init_24 : decode cX0_init 24 = .ok (.aload_n 0, 1) := by decide +kernel
theorem dX0_init_25 : decode cX0_init 25 = .ok (.iconst 0, 1) := by decide +kernel
theorem dX0_init_26 : decode cX0_init 26 = .ok (.putfield 25, 3) := by decide +kernel
theorem dX0_init_29 : decode cX0_init 29 = .ok (.aload_n 0, 1) := by decide +kernel
theorem dX0_init_30 : decode cX0_init 30 = .ok (.iload_n 1, 1) := by decide +kernel
theorem dX0_init_31 : decode cX0_init 31 = .ok (.putfield 28, 3) := by decide +kernel
theorem dX0_init_34 : decode cX0_init 34 = .ok (.aload_n 0, 1) := by decide +kernel
theorem dX0_init_35 : decode cX0_init 35 = .ok (.aload_n 2, 1) := by decide +kernel
theorem dX0_init_36 : decode cX0_init 36 = .ok (.putfield 31, 3) := by decide +kernel
theorem dX0_init_39 : decode cX0_init 39 = .ok (.aload_n 0, 1) := by decide +kernel
theorem dX0_init_40 : decode cX0_init 40 = .ok (.aload_n 3, 1) := by decide +kernel
theorem dX0_init_41 : decode cX0_init 41 = .ok (.putfield 35, 3) := by decide +kernel
theorem dX0_init_44 : decode cX0_init 44 = .ok (.aload_n 0, 1) := by decide +kernel
theorem dX0_init_45 : decode cX0_init 45 = .ok (.iload 4, 2) := by decide +kernel
theorem dX0_init_47 : decode cX0_init 47 = .ok (.putfield 39, 3) := by decide +kernel
theorem dX0_init_50 : decode cX0_init 50 = .ok (.aload_n 0, 1) := by decide +kernel
theorem dX0_init_51 : decode cX0_init 51 = .ok (.iload 4, 2) := by decide +kernel
theorem dX0_init_53 : decode cX0_init 53 = .ok (.putfield 42, 3) := by decide +kernel
theorem dX0_init_56 : decode cX0_init 56 = .ok (.return_, 1) := by decide +kernel
theorem dX0_takeVote_0 : decode cX0_takeVote 0 = .ok (.iconst 1, 1) := by decide +kernel
theorem dX0_takeVote_1 : decode cX0_takeVote 1 = .ok (.iload_n 1, 1) := by decide +kernel
theorem dX0_takeVote_2 : decode cX0_takeVote 2 = .ok (.ishl, 1) := by decide +kernel
theorem dX0_takeVote_3 : decode cX0_takeVote 3 = .ok (.istore_n 3, 1) := by decide +kernel
theorem dX0_takeVote_4 : decode cX0_takeVote 4 = .ok (.aload_n 0, 1) := by decide +kernel
theorem dX0_takeVote_5 : decode cX0_takeVote 5 = .ok (.iload_n 2, 1) := by decide +kernel
theorem dX0_takeVote_6 : decode cX0_takeVote 6 = .ok (.ifCond .eq 12, 3) := by decide +kernel
theorem dX0_takeVote_9 : decode cX0_takeVote 9 = .ok (.aload_n 0, 1) := by decide +kernel
theorem dX0_takeVote_10 : decode cX0_takeVote 10 = .ok (.getfield 22, 3) := by decide +kernel
theorem dX0_takeVote_13 : decode cX0_takeVote 13 = .ok (.iload_n 3, 1) := by decide +kernel
theorem dX0_takeVote_14 : decode cX0_takeVote 14 = .ok (.ior, 1) := by decide +kernel
theorem dX0_takeVote_15 : decode cX0_takeVote 15 = .ok (.goto 11, 3) := by decide +kernel
theorem dX0_takeVote_18 : decode cX0_takeVote 18 = .ok (.aload_n 0, 1) := by decide +kernel
theorem dX0_takeVote_19 : decode cX0_takeVote 19 = .ok (.getfield 22, 3) := by decide +kernel
theorem dX0_takeVote_22 : decode cX0_takeVote 22 = .ok (.iload_n 3, 1) := by decide +kernel
theorem dX0_takeVote_23 : decode cX0_takeVote 23 = .ok (.iconst (-1), 1) := by decide +kernel
theorem dX0_takeVote_24 : decode cX0_takeVote 24 = .ok (.ixor, 1) := by decide +kernel
theorem dX0_takeVote_25 : decode cX0_takeVote 25 = .ok (.iand, 1) := by decide +kernel
theorem dX0_takeVote_26 : decode cX0_takeVote 26 = .ok (.putfield 22, 3) := by decide +kernel
theorem dX0_takeVote_29 : decode cX0_takeVote 29 = .ok (.aload_n 0, 1) := by decide +kernel
theorem dX0_takeVote_30 : decode cX0_takeVote 30 = .ok (.iload_n 2, 1) := by decide +kernel
theorem dX0_takeVote_31 : decode cX0_takeVote 31 = .ok (.ifCond .eq 14, 3) := by decide +kernel
theorem dX0_takeVote_34 : decode cX0_takeVote 34 = .ok (.aload_n 0, 1) := by decide +kernel
theorem dX0_takeVote_35 : decode cX0_takeVote 35 = .ok (.getfield 25, 3) := by decide +kernel
theorem dX0_takeVote_38 : decode cX0_takeVote 38 = .ok (.iload_n 3, 1) := by decide +kernel
theorem dX0_takeVote_39 : decode cX0_takeVote 39 = .ok (.iconst (-1), 1) := by decide +kernel
theorem dX0_takeVote_40 : decode cX0_takeVote 40 = .ok (.ixor, 1) := by decide +kernel
theorem dX0_takeVote_41 : decode cX0_takeVote 41 = .ok (.iand, 1) := by decide +kernel
theorem dX0_takeVote_42 : decode cX0_takeVote 42 = .ok (.goto 9, 3) := by decide +kernel
theorem dX0_takeVote_45 : decode cX0_takeVote 45 = .ok (.aload_n 0, 1) := by decide +kernel
theorem dX0_takeVote_46 : decode cX0_takeVote 46 = .ok (.getfield 25, 3) := by decide +kernel
theorem dX0_takeVote_49 : decode cX0_takeVote 49 = .ok (.iload_n 3, 1) := by decide +kernel
theorem dX0_takeVote_50 : decode cX0_takeVote 50 = .ok (.ior, 1) := by decide +kernel
theorem dX0_takeVote_51 : decode cX0_takeVote 51 = .ok (.putfield 25, 3) := by decide +kernel
theorem dX0_takeVote_54 : decode cX0_takeVote 54 = .ok (.return_, 1) := by decide +kernel
theorem dX0_votesFor_0 : decode cX0_votesFor 0 = .ok (.aload_n 0, 1) := by decide +kernel
theorem dX0_votesFor_1 : decode cX0_votesFor 1 = .ok (.getfield 22, 3) := by decide +kernel
theorem dX0_votesFor_4 : decode cX0_votesFor 4 = .ok (.invokestatic 45, 3) := by decide +kernel
theorem dX0_votesFor_7 : decode cX0_votesFor 7 = .ok (.ireturn, 1) := by decide +kernel
theorem dX0_votesAgainst_0 : decode cX0_votesAgainst 0 = .ok (.aload_n 0, 1) := by decide +kernel
theorem dX0_votesAgainst_1 : decode cX0_votesAgainst 1 = .ok (.getfield 25, 3) := by decide +kernel
theorem dX0_votesAgainst_4 : decode cX0_votesAgainst 4 = .ok (.invokestatic 45, 3) := by decide +kernel
theorem dX0_votesAgainst_7 : decode cX0_votesAgainst 7 = .ok (.ireturn, 1) := by decide +kernel
theorem dX0_isWon_0 : decode cX0_isWon 0 = .ok (.aload_n 0, 1) := by decide +kernel
theorem dX0_isWon_1 : decode cX0_isWon 1 = .ok (.getfield 15, 3) := by decide +kernel
theorem dX0_isWon_4 : decode cX0_isWon 4 = .ok (.iconst 1, 1) := by decide +kernel
theorem dX0_isWon_5 : decode cX0_isWon 5 = .ok (.if_icmp .ne 19, 3) := by decide +kernel
theorem dX0_isWon_8 : decode cX0_isWon 8 = .ok (.aload_n 0, 1) := by decide +kernel
theorem dX0_isWon_9 : decode cX0_isWon 9 = .ok (.invokevirtual 51, 3) := by decide +kernel
theorem dX0_isWon_12 : decode cX0_isWon 12 = .ok (.iconst 5, 1) := by decide +kernel
theorem dX0_isWon_13 : decode cX0_isWon 13 = .ok (.if_icmp .lt 7, 3) := by decide +kernel
theorem dX0_isWon_16 : decode cX0_isWon 16 = .ok (.iconst 1, 1) := by decide +kernel
theorem dX0_isWon_17 : decode cX0_isWon 17 = .ok (.goto 23, 3) := by decide +kernel
theorem dX0_isWon_20 : decode cX0_isWon 20 = .ok (.iconst 0, 1) := by decide +kernel
theorem dX0_isWon_21 : decode cX0_isWon 21 = .ok (.goto 19, 3) := by decide +kernel
theorem dX0_isWon_24 : decode cX0_isWon 24 = .ok (.aload_n 0, 1) := by decide +kernel
theorem dX0_isWon_25 : decode cX0_isWon 25 = .ok (.invokevirtual 51, 3) := by decide +kernel
theorem dX0_isWon_28 : decode cX0_isWon 28 = .ok (.aload_n 0, 1) := by decide +kernel
theorem dX0_isWon_29 : decode cX0_isWon 29 = .ok (.invokevirtual 55, 3) := by decide +kernel
theorem dX0_isWon_32 : decode cX0_isWon 32 = .ok (.if_icmp .le 7, 3) := by decide +kernel
theorem dX0_isWon_35 : decode cX0_isWon 35 = .ok (.iconst 1, 1) := by decide +kernel
theorem dX0_isWon_36 : decode cX0_isWon 36 = .ok (.goto 4, 3) := by decide +kernel
theorem dX0_isWon_39 : decode cX0_isWon 39 = .ok (.iconst 0, 1) := by decide +kernel
theorem dX0_isWon_40 : decode cX0_isWon 40 = .ok (.ireturn, 1) := by decide +kernel
theorem dX0_isLost_0 : decode cX0_isLost 0 = .ok (.aload_n 0, 1) := by decide +kernel
theorem dX0_isLost_1 : decode cX0_isLost 1 = .ok (.getfield 15, 3) := by decide +kernel
theorem dX0_isLost_4 : decode cX0_isLost 4 = .ok (.iconst 1, 1) := by decide +kernel
theorem dX0_isLost_5 : decode cX0_isLost 5 = .ok (.if_icmp .ne 19, 3) := by decide +kernel
theorem dX0_isLost_8 : decode cX0_isLost 8 = .ok (.aload_n 0, 1) := by decide +kernel
theorem dX0_isLost_9 : decode cX0_isLost 9 = .ok (.invokevirtual 55, 3) := by decide +kernel
theorem dX0_isLost_12 : decode cX0_isLost 12 = .ok (.iconst 5, 1) := by decide +kernel
theorem dX0_isLost_13 : decode cX0_isLost 13 = .ok (.if_icmp .lt 7, 3) := by decide +kernel
theorem dX0_isLost_16 : decode cX0_isLost 16 = .ok (.iconst 1, 1) := by decide +kernel
theorem dX0_isLost_17 : decode cX0_isLost 17 = .ok (.goto 19, 3) := by decide +kernel
theorem dX0_isLost_20 : decode cX0_isLost 20 = .ok (.iconst 0, 1) := by decide +kernel
theorem dX0_isLost_21 : decode cX0_isLost 21 = .ok (.goto 15, 3) := by decide +kernel
theorem dX0_isLost_24 : decode cX0_isLost 24 = .ok (.aload_n 0, 1) := by decide +kernel
theorem dX0_isLost_25 : decode cX0_isLost 25 = .ok (.invokevirtual 58, 3) := by decide +kernel
theorem dX0_isLost_28 : decode cX0_isLost 28 = .ok (.ifCond .ne 7, 3) := by decide +kernel
theorem dX0_isLost_31 : decode cX0_isLost 31 = .ok (.iconst 1, 1) := by decide +kernel
theorem dX0_isLost_32 : decode cX0_isLost 32 = .ok (.goto 4, 3) := by decide +kernel
theorem dX0_isLost_35 : decode cX0_isLost 35 = .ok (.iconst 0, 1) := by decide +kernel
theorem dX0_isLost_36 : decode cX0_isLost 36 = .ok (.ireturn, 1) := by decide +kernel
theorem dX0_beginRoundTwo_0 : decode cX0_beginRoundTwo 0 = .ok (.aload_n 0, 1) := by decide +kernel
theorem dX0_beginRoundTwo_1 : decode cX0_beginRoundTwo 1 = .ok (.iconst 2, 1) := by decide +kernel
theorem dX0_beginRoundTwo_2 : decode cX0_beginRoundTwo 2 = .ok (.putfield 15, 3) := by decide +kernel
theorem dX0_beginRoundTwo_5 : decode cX0_beginRoundTwo 5 = .ok (.aload_n 0, 1) := by decide +kernel
theorem dX0_beginRoundTwo_6 : decode cX0_beginRoundTwo 6 = .ok (.iconst 0, 1) := by decide +kernel
theorem dX0_beginRoundTwo_7 : decode cX0_beginRoundTwo 7 = .ok (.putfield 22, 3) := by decide +kernel
theorem dX0_beginRoundTwo_10 : decode cX0_beginRoundTwo 10 = .ok (.aload_n 0, 1) := by decide +kernel
theorem dX0_beginRoundTwo_11 : decode cX0_beginRoundTwo 11 = .ok (.iconst 0, 1) := by decide +kernel
theorem dX0_beginRoundTwo_12 : decode cX0_beginRoundTwo 12 = .ok (.putfield 25, 3) := by decide +kernel
theorem dX0_beginRoundTwo_15 : decode cX0_beginRoundTwo 15 = .ok (.return_, 1) := by decide +kernel
theorem dX1_init_0 : decode cX1_init 0 = .ok (.aload_n 0, 1) := by decide +kernel
theorem dX1_init_1 : decode cX1_init 1 = .ok (.invokespecial 3, 3) := by decide +kernel
theorem dX1_init_4 : decode cX1_init 4 = .ok (.aload_n 0, 1) := by decide +kernel
theorem dX1_init_5 : decode cX1_init 5 = .ok (.iconst 0, 1) := by decide +kernel
theorem dX1_init_6 : decode cX1_init 6 = .ok (.putfield 9, 3) := by decide +kernel
theorem dX1_init_9 : decode cX1_init 9 = .ok (.aload_n 0, 1) := by decide +kernel
theorem dX1_init_10 : decode cX1_init 10 = .ok (.iconst 0, 1) := by decide +kernel
theorem dX1_init_11 : decode cX1_init 11 = .ok (.putfield 15, 3) := by decide +kernel
theorem dX1_init_14 : decode cX1_init 14 = .ok (.aload_n 0, 1) := by decide +kernel
theorem dX1_init_15 : decode cX1_init 15 = .ok (.iconst 0, 1) := by decide +kernel
theorem dX1_init_16 : decode cX1_init 16 = .ok (.putfield 18, 3) := by decide +kernel
theorem dX1_init_19 : decode cX1_init 19 = .ok (.aload_n 0, 1) := by decide +kernel
theorem dX1_init_20 : decode cX1_init 20 = .ok (.aload_n 1, 1) := by decide +kernel
theorem dX1_init_21 : decode cX1_init 21 = .ok (.putfield 22, 3) := by decide +kernel
theorem dX1_init_24 : decode cX1_init 24 = .ok (.aload_n 0, 1) := by decide +kernel
theorem dX1_init_25 : decode cX1_init 25 = .ok (.aload_n 2, 1) := by decide +kernel
theorem dX1_init_26 : decode cX1_init 26 = .ok (.putfield 26, 3) := by decide +kernel
theorem dX1_init_29 : decode cX1_init 29 = .ok (.aload_n 0, 1) := by decide +kernel
theorem dX1_init_30 : decode cX1_init 30 = .ok (.iload_n 3, 1) := by decide +kernel
theorem dX1_init_31 : decode cX1_init 31 = .ok (.putfield 30, 3) := by decide +kernel
theorem dX1_init_34 : decode cX1_init 34 = .ok (.aload_n 0, 1) := by decide +kernel
theorem dX1_init_35 : decode cX1_init 35 = .ok (.aload 4, 2) := by decide +kernel
theorem dX1_init_37 : decode cX1_init 37 = .ok (.putfield 33, 3) := by decide +kernel
theorem dX1_init_40 : decode cX1_init 40 = .ok (.aload_n 0, 1) := by decide +kernel
theorem dX1_init_41 : decode cX1_init 41 = .ok (.iload 5, 2) := by decide +kernel
theorem dX1_init_43 : decode cX1_init 43 = .ok (.putfield 37, 3) := by decide +kernel
theorem dX1_init_46 : decode cX1_init 46 = .ok (.return_, 1) := by decide +kernel
theorem dX1_binds_0 : decode cX1_binds 0 = .ok (.aload_n 0, 1) := by decide +kernel
theorem dX1_binds_1 : decode cX1_binds 1 = .ok (.getfield 15, 3) := by decide +kernel
theorem dX1_binds_4 : decode cX1_binds 4 = .ok (.iconst 2, 1) := by decide +kernel
theorem dX1_binds_5 : decode cX1_binds 5 = .ok (.if_icmp .ne 10, 3) := by decide +kernel
theorem dX1_binds_8 : decode cX1_binds 8 = .ok (.aload_n 0, 1) := by decide +kernel
theorem dX1_binds_9 : decode cX1_binds 9 = .ok (.getfield 9, 3) := by decide +kernel
theorem dX1_binds_12 : decode cX1_binds 12 = .ok (.goto 7, 3) := by decide +kernel
theorem dX1_binds_15 : decode cX1_binds 15 = .ok (.aload_n 0, 1) := by decide +kernel
theorem dX1_binds_16 : decode cX1_binds 16 = .ok (.getfield 30, 3) := by decide +kernel
theorem dX1_binds_19 : decode cX1_binds 19 = .ok (.ireturn, 1) := by decide +kernel
theorem dX1_isOverdue_0 : decode cX1_isOverdue 0 = .ok (.aload_n 0, 1) := by decide +kernel
theorem dX1_isOverdue_1 : decode cX1_isOverdue 1 = .ok (.getfield 15, 3) := by decide +kernel
theorem dX1_isOverdue_4 : decode cX1_isOverdue 4 = .ok (.ifCond .ne 22, 3) := by decide +kernel
theorem dX1_isOverdue_7 : decode cX1_isOverdue 7 = .ok (.aload_n 0, 1) := by decide +kernel
theorem dX1_isOverdue_8 : decode cX1_isOverdue 8 = .ok (.getfield 18, 3) := by decide +kernel
theorem dX1_isOverdue_11 : decode cX1_isOverdue 11 = .ok (.ifCond .ne 15, 3) := by decide +kernel
theorem dX1_isOverdue_14 : decode cX1_isOverdue 14 = .ok (.aload_n 0, 1) := by decide +kernel
theorem dX1_isOverdue_15 : decode cX1_isOverdue 15 = .ok (.getfield 37, 3) := by decide +kernel
theorem dX1_isOverdue_18 : decode cX1_isOverdue 18 = .ok (.iload_n 1, 1) := by decide +kernel
theorem dX1_isOverdue_19 : decode cX1_isOverdue 19 = .ok (.if_icmp .ge 7, 3) := by decide +kernel
theorem dX1_isOverdue_22 : decode cX1_isOverdue 22 = .ok (.iconst 1, 1) := by decide +kernel
theorem dX1_isOverdue_23 : decode cX1_isOverdue 23 = .ok (.goto 4, 3) := by decide +kernel
theorem dX1_isOverdue_26 : decode cX1_isOverdue 26 = .ok (.iconst 0, 1) := by decide +kernel
theorem dX1_isOverdue_27 : decode cX1_isOverdue 27 = .ok (.ireturn, 1) := by decide +kernel
theorem dX1_hangsOnFallen_0 : decode cX1_hangsOnFallen 0 = .ok (.aload_n 0, 1) := by decide +kernel
theorem dX1_hangsOnFallen_1 : decode cX1_hangsOnFallen 1 = .ok (.getfield 33, 3) := by decide +kernel
theorem dX1_hangsOnFallen_4 : decode cX1_hangsOnFallen 4 = .ok (.ifnull 18, 3) := by decide +kernel
theorem dX1_hangsOnFallen_7 : decode cX1_hangsOnFallen 7 = .ok (.aload_n 0, 1) := by decide +kernel
theorem dX1_hangsOnFallen_8 : decode cX1_hangsOnFallen 8 = .ok (.getfield 33, 3) := by decide +kernel
theorem dX1_hangsOnFallen_11 : decode cX1_hangsOnFallen 11 = .ok (.getfield 40, 3) := by decide +kernel
theorem dX1_hangsOnFallen_14 : decode cX1_hangsOnFallen 14 = .ok (.iconst 2, 1) := by decide +kernel
theorem dX1_hangsOnFallen_15 : decode cX1_hangsOnFallen 15 = .ok (.if_icmp .ne 7, 3) := by decide +kernel
theorem dX1_hangsOnFallen_18 : decode cX1_hangsOnFallen 18 = .ok (.iconst 1, 1) := by decide +kernel
theorem dX1_hangsOnFallen_19 : decode cX1_hangsOnFallen 19 = .ok (.goto 4, 3) := by decide +kernel
theorem dX1_hangsOnFallen_22 : decode cX1_hangsOnFallen 22 = .ok (.iconst 0, 1) := by decide +kernel
theorem dX1_hangsOnFallen_23 : decode cX1_hangsOnFallen 23 = .ok (.ireturn, 1) := by decide +kernel
theorem dX1_withdraw_0 : decode cX1_withdraw 0 = .ok (.aload_n 0, 1) := by decide +kernel
theorem dX1_withdraw_1 : decode cX1_withdraw 1 = .ok (.iconst 2, 1) := by decide +kernel
theorem dX1_withdraw_2 : decode cX1_withdraw 2 = .ok (.putfield 15, 3) := by decide +kernel
theorem dX1_withdraw_5 : decode cX1_withdraw 5 = .ok (.aload_n 0, 1) := by decide +kernel
theorem dX1_withdraw_6 : decode cX1_withdraw 6 = .ok (.getfield 26, 3) := by decide +kernel
theorem dX1_withdraw_9 : decode cX1_withdraw 9 = .ok (.dup, 1) := by decide +kernel
theorem dX1_withdraw_10 : decode cX1_withdraw 10 = .ok (.getfield 43, 3) := by decide +kernel
theorem dX1_withdraw_13 : decode cX1_withdraw 13 = .ok (.aload_n 0, 1) := by decide +kernel
theorem dX1_withdraw_14 : decode cX1_withdraw 14 = .ok (.getfield 9, 3) := by decide +kernel
theorem dX1_withdraw_17 : decode cX1_withdraw 17 = .ok (.iadd, 1) := by decide +kernel
theorem dX1_withdraw_18 : decode cX1_withdraw 18 = .ok (.putfield 43, 3) := by decide +kernel
theorem dX1_withdraw_21 : decode cX1_withdraw 21 = .ok (.return_, 1) := by decide +kernel
theorem dX1_cut_0 : decode cX1_cut 0 = .ok (.aload_n 0, 1) := by decide +kernel
theorem dX1_cut_1 : decode cX1_cut 1 = .ok (.iconst 1, 1) := by decide +kernel
theorem dX1_cut_2 : decode cX1_cut 2 = .ok (.putfield 15, 3) := by decide +kernel
theorem dX1_cut_5 : decode cX1_cut 5 = .ok (.aload_n 0, 1) := by decide +kernel
theorem dX1_cut_6 : decode cX1_cut 6 = .ok (.aload_n 0, 1) := by decide +kernel
theorem dX1_cut_7 : decode cX1_cut 7 = .ok (.getfield 9, 3) := by decide +kernel
theorem dX1_cut_10 : decode cX1_cut 10 = .ok (.putfield 30, 3) := by decide +kernel
theorem dX1_cut_13 : decode cX1_cut 13 = .ok (.return_, 1) := by decide +kernel
theorem dX1_clawBack_0 : decode cX1_clawBack 0 = .ok (.aload_n 0, 1) := by decide +kernel
theorem dX1_clawBack_1 : decode cX1_clawBack 1 = .ok (.dup, 1) := by decide +kernel
theorem dX1_clawBack_2 : decode cX1_clawBack 2 = .ok (.getfield 9, 3) := by decide +kernel
theorem dX1_clawBack_5 : decode cX1_clawBack 5 = .ok (.iload_n 1, 1) := by decide +kernel
theorem dX1_clawBack_6 : decode cX1_clawBack 6 = .ok (.isub, 1) := by decide +kernel
theorem dX1_clawBack_7 : decode cX1_clawBack 7 = .ok (.putfield 9, 3) := by decide +kernel
theorem dX1_clawBack_10 : decode cX1_clawBack 10 = .ok (.aload_n 0, 1) := by decide +kernel
theorem dX1_clawBack_11 : decode cX1_clawBack 11 = .ok (.invokevirtual 48, 3) := by decide +kernel
theorem dX1_clawBack_14 : decode cX1_clawBack 14 = .ok (.aload_n 0, 1) := by decide +kernel
theorem dX1_clawBack_15 : decode cX1_clawBack 15 = .ok (.getfield 26, 3) := by decide +kernel
theorem dX1_clawBack_18 : decode cX1_clawBack 18 = .ok (.dup, 1) := by decide +kernel
theorem dX1_clawBack_19 : decode cX1_clawBack 19 = .ok (.getfield 43, 3) := by decide +kernel
theorem dX1_clawBack_22 : decode cX1_clawBack 22 = .ok (.iload_n 1, 1) := by decide +kernel
theorem dX1_clawBack_23 : decode cX1_clawBack 23 = .ok (.iadd, 1) := by decide +kernel
theorem dX1_clawBack_24 : decode cX1_clawBack 24 = .ok (.putfield 43, 3) := by decide +kernel
theorem dX1_clawBack_27 : decode cX1_clawBack 27 = .ok (.aload_n 0, 1) := by decide +kernel
theorem dX1_clawBack_28 : decode cX1_clawBack 28 = .ok (.getfield 22, 3) := by decide +kernel
theorem dX1_clawBack_31 : decode cX1_clawBack 31 = .ok (.dup, 1) := by decide +kernel
theorem dX1_clawBack_32 : decode cX1_clawBack 32 = .ok (.getfield 51, 3) := by decide +kernel
theorem dX1_clawBack_35 : decode cX1_clawBack 35 = .ok (.iload_n 1, 1) := by decide +kernel
theorem dX1_clawBack_36 : decode cX1_clawBack 36 = .ok (.iadd, 1) := by decide +kernel
theorem dX1_clawBack_37 : decode cX1_clawBack 37 = .ok (.putfield 51, 3) := by decide +kernel
theorem dX1_clawBack_40 : decode cX1_clawBack 40 = .ok (.return_, 1) := by decide +kernel
theorem dX2_init_0 : decode cX2_init 0 = .ok (.aload_n 0, 1) := by decide +kernel
theorem dX2_init_1 : decode cX2_init 1 = .ok (.invokespecial 1, 3) := by decide +kernel
theorem dX2_init_4 : decode cX2_init 4 = .ok (.aload_n 0, 1) := by decide +kernel
theorem dX2_init_5 : decode cX2_init 5 = .ok (.iconst 0, 1) := by decide +kernel
theorem dX2_init_6 : decode cX2_init 6 = .ok (.putfield 7, 3) := by decide +kernel
theorem dX2_init_9 : decode cX2_init 9 = .ok (.aload_n 0, 1) := by decide +kernel
theorem dX2_init_10 : decode cX2_init 10 = .ok (.iconst 0, 1) := by decide +kernel
theorem dX2_init_11 : decode cX2_init 11 = .ok (.putfield 13, 3) := by decide +kernel
theorem dX2_init_14 : decode cX2_init 14 = .ok (.aload_n 0, 1) := by decide +kernel
theorem dX2_init_15 : decode cX2_init 15 = .ok (.iconst 0, 1) := by decide +kernel
theorem dX2_init_16 : decode cX2_init 16 = .ok (.putfield 16, 3) := by decide +kernel
theorem dX2_init_19 : decode cX2_init 19 = .ok (.aload_n 0, 1) := by decide +kernel
theorem dX2_init_20 : decode cX2_init 20 = .ok (.iconst 0, 1) := by decide +kernel
theorem dX2_init_21 : decode cX2_init 21 = .ok (.putfield 19, 3) := by decide +kernel
theorem dX2_init_24 : decode cX2_init 24 = .ok (.aload_n 0, 1) := by decide +kernel
theorem dX2_init_25 : decode cX2_init 25 = .ok (.iload_n 1, 1) := by decide +kernel
theorem dX2_init_26 : decode cX2_init 26 = .ok (.putfield 22, 3) := by decide +kernel
theorem dX2_init_29 : decode cX2_init 29 = .ok (.aload_n 0, 1) := by decide +kernel
theorem dX2_init_30 : decode cX2_init 30 = .ok (.aload_n 2, 1) := by decide +kernel
theorem dX2_init_31 : decode cX2_init 31 = .ok (.putfield 25, 3) := by decide +kernel
theorem dX2_init_34 : decode cX2_init 34 = .ok (.aload_n 0, 1) := by decide +kernel
theorem dX2_init_35 : decode cX2_init 35 = .ok (.iload_n 3, 1) := by decide +kernel
theorem dX2_init_36 : decode cX2_init 36 = .ok (.putfield 29, 3) := by decide +kernel
theorem dX2_init_39 : decode cX2_init 39 = .ok (.return_, 1) := by decide +kernel
theorem dX2_stands_0 : decode cX2_stands 0 = .ok (.aload_n 0, 1) := by decide +kernel
theorem dX2_stands_1 : decode cX2_stands 1 = .ok (.aload_n 0, 1) := by decide +kernel
theorem dX2_stands_2 : decode cX2_stands 2 = .ok (.getfield 7, 3) := by decide +kernel
theorem dX2_stands_5 : decode cX2_stands 5 = .ok (.invokevirtual 32, 3) := by decide +kernel
theorem dX2_stands_8 : decode cX2_stands 8 = .ok (.ireturn, 1) := by decide +kernel
theorem dX2_standsWith_0 : decode cX2_standsWith 0 = .ok (.aload_n 0, 1) := by decide +kernel
theorem dX2_standsWith_1 : decode cX2_standsWith 1 = .ok (.getfield 29, 3) := by decide +kernel
theorem dX2_standsWith_4 : decode cX2_standsWith 4 = .ok (.iload_n 1, 1) := by decide +kernel
theorem dX2_standsWith_5 : decode cX2_standsWith 5 = .ok (.iadd, 1) := by decide +kernel
theorem dX2_standsWith_6 : decode cX2_standsWith 6 = .ok (.aload_n 0, 1) := by decide +kernel
theorem dX2_standsWith_7 : decode cX2_standsWith 7 = .ok (.getfield 19, 3) := by decide +kernel
theorem dX2_standsWith_10 : decode cX2_standsWith 10 = .ok (.iadd, 1) := by decide +kernel
theorem dX2_standsWith_11 : decode cX2_standsWith 11 = .ok (.aload_n 0, 1) := by decide +kernel
theorem dX2_standsWith_12 : decode cX2_standsWith 12 = .ok (.getfield 16, 3) := by decide +kernel
theorem dX2_standsWith_15 : decode cX2_standsWith 15 = .ok (.isub, 1) := by decide +kernel
theorem dX2_standsWith_16 : decode cX2_standsWith 16 = .ok (.ireturn, 1) := by decide +kernel
theorem dX3_init_0 : decode cX3_init 0 = .ok (.aload_n 0, 1) := by decide +kernel
theorem dX3_init_1 : decode cX3_init 1 = .ok (.invokespecial 1, 3) := by decide +kernel
theorem dX3_init_4 : decode cX3_init 4 = .ok (.aload_n 0, 1) := by decide +kernel
theorem dX3_init_5 : decode cX3_init 5 = .ok (.iconst 0, 1) := by decide +kernel
theorem dX3_init_6 : decode cX3_init 6 = .ok (.putfield 7, 3) := by decide +kernel
theorem dX3_init_9 : decode cX3_init 9 = .ok (.aload_n 0, 1) := by decide +kernel
theorem dX3_init_10 : decode cX3_init 10 = .ok (.iload_n 1, 1) := by decide +kernel
theorem dX3_init_11 : decode cX3_init 11 = .ok (.putfield 13, 3) := by decide +kernel
theorem dX3_init_14 : decode cX3_init 14 = .ok (.return_, 1) := by decide +kernel
theorem dX4_init_0 : decode cX4_init 0 = .ok (.aload_n 0, 1) := by decide +kernel
theorem dX4_init_1 : decode cX4_init 1 = .ok (.invokespecial 1, 3) := by decide +kernel
theorem dX4_init_4 : decode cX4_init 4 = .ok (.aload_n 0, 1) := by decide +kernel
theorem dX4_init_5 : decode cX4_init 5 = .ok (.iconst 0, 1) := by decide +kernel
theorem dX4_init_6 : decode cX4_init 6 = .ok (.putfield 7, 3) := by decide +kernel
theorem dX4_init_9 : decode cX4_init 9 = .ok (.aload_n 0, 1) := by decide +kernel
theorem dX4_init_10 : decode cX4_init 10 = .ok (.iconst 0, 1) := by decide +kernel
theorem dX4_init_11 : decode cX4_init 11 = .ok (.putfield 13, 3) := by decide +kernel
theorem dX4_init_14 : decode cX4_init 14 = .ok (.aload_n 0, 1) := by decide +kernel
theorem dX4_init_15 : decode cX4_init 15 = .ok (.iload_n 1, 1) := by decide +kernel
theorem dX4_init_16 : decode cX4_init 16 = .ok (.putfield 16, 3) := by decide +kernel
theorem dX4_init_19 : decode cX4_init 19 = .ok (.return_, 1) := by decide +kernel
theorem dX4_unpaid_0 : decode cX4_unpaid 0 = .ok (.aload_n 0, 1) := by decide +kernel
theorem dX4_unpaid_1 : decode cX4_unpaid 1 = .ok (.getfield 7, 3) := by decide +kernel
theorem dX4_unpaid_4 : decode cX4_unpaid 4 = .ok (.aload_n 0, 1) := by decide +kernel
theorem dX4_unpaid_5 : decode cX4_unpaid 5 = .ok (.getfield 13, 3) := by decide +kernel
theorem dX4_unpaid_8 : decode cX4_unpaid 8 = .ok (.isub, 1) := by decide +kernel
theorem dX4_unpaid_9 : decode cX4_unpaid 9 = .ok (.ireturn, 1) := by decide +kernel
theorem dX5_init_0 : decode cX5_init 0 = .ok (.aload_n 0, 1) := by decide +kernel
theorem dX5_init_1 : decode cX5_init 1 = .ok (.invokespecial 1, 3) := by decide +kernel
theorem dX5_init_4 : decode cX5_init 4 = .ok (.aload_n 0, 1) := by decide +kernel
theorem dX5_init_5 : decode cX5_init 5 = .ok (.new 7, 3) := by decide +kernel
theorem dX5_init_8 : decode cX5_init 8 = .ok (.dup, 1) := by decide +kernel
theorem dX5_init_9 : decode cX5_init 9 = .ok (.invokespecial 9, 3) := by decide +kernel
theorem dX5_init_12 : decode cX5_init 12 = .ok (.putfield 10, 3) := by decide +kernel
theorem dX5_init_15 : decode cX5_init 15 = .ok (.aload_n 0, 1) := by decide +kernel
theorem dX5_init_16 : decode cX5_init 16 = .ok (.new 7, 3) := by decide +kernel
theorem dX5_init_19 : decode cX5_init 19 = .ok (.dup, 1) := by decide +kernel
theorem dX5_init_20 : decode cX5_init 20 = .ok (.invokespecial 9, 3) := by decide +kernel
theorem dX5_init_23 : decode cX5_init 23 = .ok (.putfield 16, 3) := by decide +kernel
theorem dX5_init_26 : decode cX5_init 26 = .ok (.aload_n 0, 1) := by decide +kernel
theorem dX5_init_27 : decode cX5_init 27 = .ok (.new 7, 3) := by decide +kernel
theorem dX5_init_30 : decode cX5_init 30 = .ok (.dup, 1) := by decide +kernel
theorem dX5_init_31 : decode cX5_init 31 = .ok (.invokespecial 9, 3) := by decide +kernel
theorem dX5_init_34 : decode cX5_init 34 = .ok (.putfield 19, 3) := by decide +kernel
theorem dX5_init_37 : decode cX5_init 37 = .ok (.aload_n 0, 1) := by decide +kernel
theorem dX5_init_38 : decode cX5_init 38 = .ok (.new 7, 3) := by decide +kernel
theorem dX5_init_41 : decode cX5_init 41 = .ok (.dup, 1) := by decide +kernel
theorem dX5_init_42 : decode cX5_init 42 = .ok (.invokespecial 9, 3) := by decide +kernel
theorem dX5_init_45 : decode cX5_init 45 = .ok (.putfield 22, 3) := by decide +kernel
theorem dX5_init_48 : decode cX5_init 48 = .ok (.aload_n 0, 1) := by decide +kernel
theorem dX5_init_49 : decode cX5_init 49 = .ok (.new 7, 3) := by decide +kernel
theorem dX5_init_52 : decode cX5_init 52 = .ok (.dup, 1) := by decide +kernel
theorem dX5_init_53 : decode cX5_init 53 = .ok (.invokespecial 9, 3) := by decide +kernel
theorem dX5_init_56 : decode cX5_init 56 = .ok (.putfield 25, 3) := by decide +kernel
theorem dX5_init_59 : decode cX5_init 59 = .ok (.aload_n 0, 1) := by decide +kernel
theorem dX5_init_60 : decode cX5_init 60 = .ok (.iconst 0, 1) := by decide +kernel
theorem dX5_init_61 : decode cX5_init 61 = .ok (.putfield 28, 3) := by decide +kernel
theorem dX5_init_64 : decode cX5_init 64 = .ok (.aload_n 0, 1) := by decide +kernel
theorem dX5_init_65 : decode cX5_init 65 = .ok (.iconst 5, 1) := by decide +kernel
theorem dX5_init_66 : decode cX5_init 66 = .ok (.putfield 32, 3) := by decide +kernel
theorem dX5_init_69 : decode cX5_init 69 = .ok (.aload_n 0, 1) := by decide +kernel
theorem dX5_init_70 : decode cX5_init 70 = .ok (.iconst 0, 1) := by decide +kernel
theorem dX5_init_71 : decode cX5_init 71 = .ok (.putfield 35, 3) := by decide +kernel
theorem dX5_init_74 : decode cX5_init 74 = .ok (.iconst 0, 1) := by decide +kernel
theorem dX5_init_75 : decode cX5_init 75 = .ok (.istore_n 1, 1) := by decide +kernel
theorem dX5_init_76 : decode cX5_init 76 = .ok (.iload_n 1, 1) := by decide +kernel
theorem dX5_init_77 : decode cX5_init 77 = .ok (.iconst 4, 1) := by decide +kernel
theorem dX5_init_78 : decode cX5_init 78 = .ok (.if_icmp .ge 25, 3) := by decide +kernel
theorem dX5_init_81 : decode cX5_init 81 = .ok (.aload_n 0, 1) := by decide +kernel
theorem dX5_init_82 : decode cX5_init 82 = .ok (.getfield 10, 3) := by decide +kernel
theorem dX5_init_85 : decode cX5_init 85 = .ok (.new 38, 3) := by decide +kernel
theorem dX5_init_88 : decode cX5_init 88 = .ok (.dup, 1) := by decide +kernel
theorem dX5_init_89 : decode cX5_init 89 = .ok (.iload_n 1, 1) := by decide +kernel
theorem dX5_init_90 : decode cX5_init 90 = .ok (.invokespecial 40, 3) := by decide +kernel
theorem dX5_init_93 : decode cX5_init 93 = .ok (.invokevirtual 43, 3) := by decide +kernel
theorem dX5_init_96 : decode cX5_init 96 = .ok (.pop, 1) := by decide +kernel
theorem dX5_init_97 : decode cX5_init 97 = .ok (.iinc 1 1, 3) := by decide +kernel
theorem dX5_init_100 : decode cX5_init 100 = .ok (.goto (-24), 3) := by decide +kernel
theorem dX5_init_103 : decode cX5_init 103 = .ok (.iconst 0, 1) := by decide +kernel
theorem dX5_init_104 : decode cX5_init 104 = .ok (.istore_n 1, 1) := by decide +kernel
theorem dX5_init_105 : decode cX5_init 105 = .ok (.iload_n 1, 1) := by decide +kernel
theorem dX5_init_106 : decode cX5_init 106 = .ok (.bipush 8, 2) := by decide +kernel
theorem dX5_init_108 : decode cX5_init 108 = .ok (.if_icmp .ge 25, 3) := by decide +kernel
theorem dX5_init_111 : decode cX5_init 111 = .ok (.aload_n 0, 1) := by decide +kernel
theorem dX5_init_112 : decode cX5_init 112 = .ok (.getfield 16, 3) := by decide +kernel
theorem dX5_init_115 : decode cX5_init 115 = .ok (.new 47, 3) := by decide +kernel
theorem dX5_init_118 : decode cX5_init 118 = .ok (.dup, 1) := by decide +kernel
theorem dX5_init_119 : decode cX5_init 119 = .ok (.iload_n 1, 1) := by decide +kernel
theorem dX5_init_120 : decode cX5_init 120 = .ok (.invokespecial 49, 3) := by decide +kernel
theorem dX5_init_123 : decode cX5_init 123 = .ok (.invokevirtual 43, 3) := by decide +kernel
theorem dX5_init_126 : decode cX5_init 126 = .ok (.pop, 1) := by decide +kernel
theorem dX5_init_127 : decode cX5_init 127 = .ok (.iinc 1 1, 3) := by decide +kernel
theorem dX5_init_130 : decode cX5_init 130 = .ok (.goto (-25), 3) := by decide +kernel
theorem dX5_init_133 : decode cX5_init 133 = .ok (.return_, 1) := by decide +kernel
theorem dX5_line_0 : decode cX5_line 0 = .ok (.aload_n 0, 1) := by decide +kernel
theorem dX5_line_1 : decode cX5_line 1 = .ok (.iload_n 1, 1) := by decide +kernel
theorem dX5_line_2 : decode cX5_line 2 = .ok (.invokevirtual 50, 3) := by decide +kernel
theorem dX5_line_5 : decode cX5_line 5 = .ok (.astore_n 3, 1) := by decide +kernel
theorem dX5_line_6 : decode cX5_line 6 = .ok (.iload_n 2, 1) := by decide +kernel
theorem dX5_line_7 : decode cX5_line 7 = .ok (.iconst 0, 1) := by decide +kernel
theorem dX5_line_8 : decode cX5_line 8 = .ok (.ldc 54, 2) := by decide +kernel
theorem dX5_line_10 : decode cX5_line 10 = .ok (.invokestatic 55, 3) := by decide +kernel
theorem dX5_line_13 : decode cX5_line 13 = .ok (.aload_n 0, 1) := by decide +kernel
theorem dX5_line_14 : decode cX5_line 14 = .ok (.getfield 19, 3) := by decide +kernel
theorem dX5_line_17 : decode cX5_line 17 = .ok (.invokevirtual 59, 3) := by decide +kernel
theorem dX5_line_20 : decode cX5_line 20 = .ok (.istore 4, 2) := by decide +kernel
theorem dX5_line_22 : decode cX5_line 22 = .ok (.iload 4, 2) := by decide +kernel
theorem dX5_line_24 : decode cX5_line 24 = .ok (.bipush 10, 2) := by decide +kernel
theorem dX5_line_26 : decode cX5_line 26 = .ok (.if_icmp .lt 13, 3) := by decide +kernel
theorem dX5_line_29 : decode cX5_line 29 = .ok (.new 63, 3) := by decide +kernel
theorem dX5_line_32 : decode cX5_line 32 = .ok (.dup, 1) := by decide +kernel
theorem dX5_line_33 : decode cX5_line 33 = .ok (.ldc 65, 2) := by decide +kernel
theorem dX5_line_35 : decode cX5_line 35 = .ok (.invokespecial 67, 3) := by decide +kernel
theorem dX5_line_38 : decode cX5_line 38 = .ok (.athrow, 1) := by decide +kernel
theorem dX5_line_39 : decode cX5_line 39 = .ok (.aload_n 0, 1) := by decide +kernel
theorem dX5_line_40 : decode cX5_line 40 = .ok (.getfield 19, 3) := by decide +kernel
theorem dX5_line_43 : decode cX5_line 43 = .ok (.new 70, 3) := by decide +kernel
theorem dX5_line_46 : decode cX5_line 46 = .ok (.dup, 1) := by decide +kernel
theorem dX5_line_47 : decode cX5_line 47 = .ok (.iload 4, 2) := by decide +kernel
theorem dX5_line_49 : decode cX5_line 49 = .ok (.aload_n 3, 1) := by decide +kernel
theorem dX5_line_50 : decode cX5_line 50 = .ok (.iload_n 2, 1) := by decide +kernel
theorem dX5_line_51 : decode cX5_line 51 = .ok (.invokespecial 72, 3) := by decide +kernel
theorem dX5_line_54 : decode cX5_line 54 = .ok (.invokevirtual 43, 3) := by decide +kernel
theorem dX5_line_57 : decode cX5_line 57 = .ok (.pop, 1) := by decide +kernel
theorem dX5_line_58 : decode cX5_line 58 = .ok (.iload 4, 2) := by decide +kernel
theorem dX5_line_60 : decode cX5_line 60 = .ok (.ireturn, 1) := by decide +kernel
theorem dX5_income_0 : decode cX5_income 0 = .ok (.aload_n 0, 1) := by decide +kernel
theorem dX5_income_1 : decode cX5_income 1 = .ok (.iload_n 1, 1) := by decide +kernel
theorem dX5_income_2 : decode cX5_income 2 = .ok (.invokevirtual 50, 3) := by decide +kernel
theorem dX5_income_5 : decode cX5_income 5 = .ok (.astore_n 3, 1) := by decide +kernel
theorem dX5_income_6 : decode cX5_income 6 = .ok (.iload_n 2, 1) := by decide +kernel
theorem dX5_income_7 : decode cX5_income 7 = .ok (.iconst 1, 1) := by decide +kernel
theorem dX5_income_8 : decode cX5_income 8 = .ok (.ldc 54, 2) := by decide +kernel
theorem dX5_income_10 : decode cX5_income 10 = .ok (.invokestatic 55, 3) := by decide +kernel
theorem dX5_income_13 : decode cX5_income 13 = .ok (.aload_n 3, 1) := by decide +kernel
theorem dX5_income_14 : decode cX5_income 14 = .ok (.dup, 1) := by decide +kernel
theorem dX5_income_15 : decode cX5_income 15 = .ok (.getfield 75, 3) := by decide +kernel
theorem dX5_income_18 : decode cX5_income 18 = .ok (.iload_n 2, 1) := by decide +kernel
theorem dX5_income_19 : decode cX5_income 19 = .ok (.iadd, 1) := by decide +kernel
theorem dX5_income_20 : decode cX5_income 20 = .ok (.putfield 75, 3) := by decide +kernel
theorem dX5_income_23 : decode cX5_income 23 = .ok (.aload_n 3, 1) := by decide +kernel
theorem dX5_income_24 : decode cX5_income 24 = .ok (.getfield 75, 3) := by decide +kernel
theorem dX5_income_27 : decode cX5_income 27 = .ok (.ireturn, 1) := by decide +kernel
theorem dX5_amend_0 : decode cX5_amend 0 = .ok (.aload_n 0, 1) := by decide +kernel
theorem dX5_amend_1 : decode cX5_amend 1 = .ok (.iload_n 1, 1) := by decide +kernel
theorem dX5_amend_2 : decode cX5_amend 2 = .ok (.invokevirtual 78, 3) := by decide +kernel
theorem dX5_amend_5 : decode cX5_amend 5 = .ok (.astore_n 3, 1) := by decide +kernel
theorem dX5_amend_6 : decode cX5_amend 6 = .ok (.iload_n 2, 1) := by decide +kernel
theorem dX5_amend_7 : decode cX5_amend 7 = .ok (.invokestatic 82, 3) := by decide +kernel
theorem dX5_amend_10 : decode cX5_amend 10 = .ok (.aload_n 0, 1) := by decide +kernel
theorem dX5_amend_11 : decode cX5_amend 11 = .ok (.invokevirtual 85, 3) := by decide +kernel
theorem dX5_amend_14 : decode cX5_amend 14 = .ok (.aload_n 0, 1) := by decide +kernel
theorem dX5_amend_15 : decode cX5_amend 15 = .ok (.aconst_null, 1) := by decide +kernel
theorem dX5_amend_16 : decode cX5_amend 16 = .ok (.aload_n 3, 1) := by decide +kernel
theorem dX5_amend_17 : decode cX5_amend 17 = .ok (.iload_n 2, 1) := by decide +kernel
theorem dX5_amend_18 : decode cX5_amend 18 = .ok (.invokevirtual 88, 3) := by decide +kernel
theorem dX5_amend_21 : decode cX5_amend 21 = .ok (.ireturn, 1) := by decide +kernel
theorem dX5_amendOn_0 : decode cX5_amendOn 0 = .ok (.aload_n 0, 1) := by decide +kernel
theorem dX5_amendOn_1 : decode cX5_amendOn 1 = .ok (.iload_n 1, 1) := by decide +kernel
theorem dX5_amendOn_2 : decode cX5_amendOn 2 = .ok (.invokevirtual 92, 3) := by decide +kernel
theorem dX5_amendOn_5 : decode cX5_amendOn 5 = .ok (.astore_n 3, 1) := by decide +kernel
theorem dX5_amendOn_6 : decode cX5_amendOn 6 = .ok (.iload_n 2, 1) := by decide +kernel
theorem dX5_amendOn_7 : decode cX5_amendOn 7 = .ok (.invokestatic 82, 3) := by decide +kernel
theorem dX5_amendOn_10 : decode cX5_amendOn 10 = .ok (.aload_n 3, 1) := by decide +kernel
theorem dX5_amendOn_11 : decode cX5_amendOn 11 = .ok (.invokestatic 96, 3) := by decide +kernel
theorem dX5_amendOn_14 : decode cX5_amendOn 14 = .ok (.aload_n 0, 1) := by decide +kernel
theorem dX5_amendOn_15 : decode cX5_amendOn 15 = .ok (.invokevirtual 85, 3) := by decide +kernel
theorem dX5_amendOn_18 : decode cX5_amendOn 18 = .ok (.aload_n 0, 1) := by decide +kernel
theorem dX5_amendOn_19 : decode cX5_amendOn 19 = .ok (.aload_n 3, 1) := by decide +kernel
theorem dX5_amendOn_20 : decode cX5_amendOn 20 = .ok (.aload_n 3, 1) := by decide +kernel
theorem dX5_amendOn_21 : decode cX5_amendOn 21 = .ok (.getfield 100, 3) := by decide +kernel
theorem dX5_amendOn_24 : decode cX5_amendOn 24 = .ok (.iload_n 2, 1) := by decide +kernel
theorem dX5_amendOn_25 : decode cX5_amendOn 25 = .ok (.invokevirtual 88, 3) := by decide +kernel
theorem dX5_amendOn_28 : decode cX5_amendOn 28 = .ok (.ireturn, 1) := by decide +kernel
theorem dX5_vote_0 : decode cX5_vote 0 = .ok (.iload_n 1, 1) := by decide +kernel
theorem dX5_vote_1 : decode cX5_vote 1 = .ok (.ifCond .lt 9, 3) := by decide +kernel
theorem dX5_vote_4 : decode cX5_vote 4 = .ok (.iload_n 1, 1) := by decide +kernel
theorem dX5_vote_5 : decode cX5_vote 5 = .ok (.bipush 9, 2) := by decide +kernel
theorem dX5_vote_7 : decode cX5_vote 7 = .ok (.if_icmp .lt 13, 3) := by decide +kernel
theorem dX5_vote_10 : decode cX5_vote 10 = .ok (.new 106, 3) := by decide +kernel
theorem dX5_vote_13 : decode cX5_vote 13 = .ok (.dup, 1) := by decide +kernel
theorem dX5_vote_14 : decode cX5_vote 14 = .ok (.ldc 108, 2) := by decide +kernel
theorem dX5_vote_16 : decode cX5_vote 16 = .ok (.invokespecial 110, 3) := by decide +kernel
theorem dX5_vote_19 : decode cX5_vote 19 = .ok (.athrow, 1) := by decide +kernel
theorem dX5_vote_20 : decode cX5_vote 20 = .ok (.aload_n 0, 1) := by decide +kernel
theorem dX5_vote_21 : decode cX5_vote 21 = .ok (.iload_n 2, 1) := by decide +kernel
theorem dX5_vote_22 : decode cX5_vote 22 = .ok (.invokevirtual 92, 3) := by decide +kernel
theorem dX5_vote_25 : decode cX5_vote 25 = .ok (.astore 4, 2) := by decide +kernel
theorem dX5_vote_27 : decode cX5_vote 27 = .ok (.aload 4, 2) := by decide +kernel
theorem dX5_vote_29 : decode cX5_vote 29 = .ok (.invokestatic 96, 3) := by decide +kernel
theorem dX5_vote_32 : decode cX5_vote 32 = .ok (.aload 4, 2) := by decide +kernel
theorem dX5_vote_34 : decode cX5_vote 34 = .ok (.iload_n 1, 1) := by decide +kernel
theorem dX5_vote_35 : decode cX5_vote 35 = .ok (.iload_n 3, 1) := by decide +kernel
theorem dX5_vote_36 : decode cX5_vote 36 = .ok (.invokevirtual 111, 3) := by decide +kernel
theorem dX5_vote_39 : decode cX5_vote 39 = .ok (.aload 4, 2) := by decide +kernel
theorem dX5_vote_41 : decode cX5_vote 41 = .ok (.invokevirtual 115, 3) := by decide +kernel
theorem dX5_vote_44 : decode cX5_vote 44 = .ok (.ireturn, 1) := by decide +kernel
theorem dX5_decide_0 : decode cX5_decide 0 = .ok (.aload_n 0, 1) := by decide +kernel
theorem dX5_decide_1 : decode cX5_decide 1 = .ok (.iload_n 1, 1) := by decide +kernel
theorem dX5_decide_2 : decode cX5_decide 2 = .ok (.invokevirtual 92, 3) := by decide +kernel
theorem dX5_decide_5 : decode cX5_decide 5 = .ok (.astore_n 2, 1) := by decide +kernel
theorem dX5_decide_6 : decode cX5_decide 6 = .ok (.aload_n 2, 1) := by decide +kernel
theorem dX5_decide_7 : decode cX5_decide 7 = .ok (.invokestatic 96, 3) := by decide +kernel
theorem dX5_decide_10 : decode cX5_decide 10 = .ok (.aload_n 0, 1) := by decide +kernel
theorem dX5_decide_11 : decode cX5_decide 11 = .ok (.aload_n 2, 1) := by decide +kernel
theorem dX5_decide_12 : decode cX5_decide 12 = .ok (.invokevirtual 118, 3) := by decide +kernel
theorem dX5_decide_15 : decode cX5_decide 15 = .ok (.ifCond .eq 13, 3) := by decide +kernel
theorem dX5_decide_18 : decode cX5_decide 18 = .ok (.new 63, 3) := by decide +kernel
theorem dX5_decide_21 : decode cX5_decide 21 = .ok (.dup, 1) := by decide +kernel
theorem dX5_decide_22 : decode cX5_decide 22 = .ok (.ldc 122, 2) := by decide +kernel
theorem dX5_decide_24 : decode cX5_decide 24 = .ok (.invokespecial 67, 3) := by decide +kernel
theorem dX5_decide_27 : decode cX5_decide 27 = .ok (.athrow, 1) := by decide +kernel
theorem dX5_decide_28 : decode cX5_decide 28 = .ok (.aload_n 2, 1) := by decide +kernel
theorem dX5_decide_29 : decode cX5_decide 29 = .ok (.invokevirtual 124, 3) := by decide +kernel
theorem dX5_decide_32 : decode cX5_decide 32 = .ok (.ifCond .eq 11, 3) := by decide +kernel
theorem dX5_decide_35 : decode cX5_decide 35 = .ok (.aload_n 0, 1) := by decide +kernel
theorem dX5_decide_36 : decode cX5_decide 36 = .ok (.aload_n 2, 1) := by decide +kernel
theorem dX5_decide_37 : decode cX5_decide 37 = .ok (.invokevirtual 128, 3) := by decide +kernel
theorem dX5_decide_40 : decode cX5_decide 40 = .ok (.goto 23, 3) := by decide +kernel
theorem dX5_decide_43 : decode cX5_decide 43 = .ok (.aload_n 2, 1) := by decide +kernel
theorem dX5_decide_44 : decode cX5_decide 44 = .ok (.invokevirtual 131, 3) := by decide +kernel
theorem dX5_decide_47 : decode cX5_decide 47 = .ok (.ifCond .eq 12, 3) := by decide +kernel
theorem dX5_decide_50 : decode cX5_decide 50 = .ok (.aload_n 0, 1) := by decide +kernel
theorem dX5_decide_51 : decode cX5_decide 51 = .ok (.aload_n 2, 1) := by decide +kernel
theorem dX5_decide_52 : decode cX5_decide 52 = .ok (.invokevirtual 134, 3) := by decide +kernel
theorem dX5_decide_55 : decode cX5_decide 55 = .ok (.pop, 1) := by decide +kernel
theorem dX5_decide_56 : decode cX5_decide 56 = .ok (.goto 7, 3) := by decide +kernel
theorem dX5_decide_59 : decode cX5_decide 59 = .ok (.aload_n 2, 1) := by decide +kernel
theorem dX5_decide_60 : decode cX5_decide 60 = .ok (.invokevirtual 138, 3) := by decide +kernel
theorem dX5_decide_63 : decode cX5_decide 63 = .ok (.aload_n 2, 1) := by decide +kernel
theorem dX5_decide_64 : decode cX5_decide 64 = .ok (.getfield 141, 3) := by decide +kernel
theorem dX5_decide_67 : decode cX5_decide 67 = .ok (.ireturn, 1) := by decide +kernel
theorem dX5_strike_0 : decode cX5_strike 0 = .ok (.aload_n 0, 1) := by decide +kernel
theorem dX5_strike_1 : decode cX5_strike 1 = .ok (.iload_n 1, 1) := by decide +kernel
theorem dX5_strike_2 : decode cX5_strike 2 = .ok (.invokevirtual 92, 3) := by decide +kernel
theorem dX5_strike_5 : decode cX5_strike 5 = .ok (.astore_n 2, 1) := by decide +kernel
theorem dX5_strike_6 : decode cX5_strike 6 = .ok (.aload_n 2, 1) := by decide +kernel
theorem dX5_strike_7 : decode cX5_strike 7 = .ok (.invokestatic 144, 3) := by decide +kernel
theorem dX5_strike_10 : decode cX5_strike 10 = .ok (.aload_n 2, 1) := by decide +kernel
theorem dX5_strike_11 : decode cX5_strike 11 = .ok (.iconst 1, 1) := by decide +kernel
theorem dX5_strike_12 : decode cX5_strike 12 = .ok (.putfield 147, 3) := by decide +kernel
theorem dX5_strike_15 : decode cX5_strike 15 = .ok (.aload_n 0, 1) := by decide +kernel
theorem dX5_strike_16 : decode cX5_strike 16 = .ok (.aload_n 2, 1) := by decide +kernel
theorem dX5_strike_17 : decode cX5_strike 17 = .ok (.invokevirtual 134, 3) := by decide +kernel
theorem dX5_strike_20 : decode cX5_strike 20 = .ok (.ireturn, 1) := by decide +kernel
theorem dX5_grant_0 : decode cX5_grant 0 = .ok (.aload_n 0, 1) := by decide +kernel
theorem dX5_grant_1 : decode cX5_grant 1 = .ok (.iload_n 1, 1) := by decide +kernel
theorem dX5_grant_2 : decode cX5_grant 2 = .ok (.invokevirtual 78, 3) := by decide +kernel
theorem dX5_grant_5 : decode cX5_grant 5 = .ok (.astore 6, 2) := by decide +kernel
theorem dX5_grant_7 : decode cX5_grant 7 = .ok (.aload_n 0, 1) := by decide +kernel
theorem dX5_grant_8 : decode cX5_grant 8 = .ok (.iload_n 2, 1) := by decide +kernel
theorem dX5_grant_9 : decode cX5_grant 9 = .ok (.invokevirtual 151, 3) := by decide +kernel
theorem dX5_grant_12 : decode cX5_grant 12 = .ok (.astore 7, 2) := by decide +kernel
theorem dX5_grant_14 : decode cX5_grant 14 = .ok (.iload 4, 2) := by decide +kernel
theorem dX5_grant_16 : decode cX5_grant 16 = .ok (.iconst (-1), 1) := by decide +kernel
theorem dX5_grant_17 : decode cX5_grant 17 = .ok (.if_icmp .ne 7, 3) := by decide +kernel
theorem dX5_grant_20 : decode cX5_grant 20 = .ok (.aconst_null, 1) := by decide +kernel
theorem dX5_grant_21 : decode cX5_grant 21 = .ok (.goto 9, 3) := by decide +kernel
theorem dX5_grant_24 : decode cX5_grant 24 = .ok (.aload_n 0, 1) := by decide +kernel
theorem dX5_grant_25 : decode cX5_grant 25 = .ok (.iload 4, 2) := by decide +kernel
theorem dX5_grant_27 : decode cX5_grant 27 = .ok (.invokevirtual 92, 3) := by decide +kernel
theorem dX5_grant_30 : decode cX5_grant 30 = .ok (.astore 8, 2) := by decide +kernel
theorem dX5_grant_32 : decode cX5_grant 32 = .ok (.iload_n 3, 1) := by decide +kernel
theorem dX5_grant_33 : decode cX5_grant 33 = .ok (.iconst 1, 1) := by decide +kernel
theorem dX5_grant_34 : decode cX5_grant 34 = .ok (.ldc 155, 2) := by decide +kernel
theorem dX5_grant_36 : decode cX5_grant 36 = .ok (.invokestatic 55, 3) := by decide +kernel
theorem dX5_grant_39 : decode cX5_grant 39 = .ok (.iload 5, 2) := by decide +kernel
theorem dX5_grant_41 : decode cX5_grant 41 = .ok (.iconst 0, 1) := by decide +kernel
theorem dX5_grant_42 : decode cX5_grant 42 = .ok (.bipush 60, 2) := by decide +kernel
theorem dX5_grant_44 : decode cX5_grant 44 = .ok (.invokestatic 55, 3) := by decide +kernel
theorem dX5_grant_47 : decode cX5_grant 47 = .ok (.aload_n 0, 1) := by decide +kernel
theorem dX5_grant_48 : decode cX5_grant 48 = .ok (.getfield 25, 3) := by decide +kernel
theorem dX5_grant_51 : decode cX5_grant 51 = .ok (.invokevirtual 59, 3) := by decide +kernel
theorem dX5_grant_54 : decode cX5_grant 54 = .ok (.istore 9, 2) := by decide +kernel
theorem dX5_grant_56 : decode cX5_grant 56 = .ok (.iload 9, 2) := by decide +kernel
theorem dX5_grant_58 : decode cX5_grant 58 = .ok (.bipush 40, 2) := by decide +kernel
theorem dX5_grant_60 : decode cX5_grant 60 = .ok (.if_icmp .lt 13, 3) := by decide +kernel
theorem dX5_grant_63 : decode cX5_grant 63 = .ok (.new 63, 3) := by decide +kernel
theorem dX5_grant_66 : decode cX5_grant 66 = .ok (.dup, 1) := by decide +kernel
theorem dX5_grant_67 : decode cX5_grant 67 = .ok (.ldc 156, 2) := by decide +kernel
theorem dX5_grant_69 : decode cX5_grant 69 = .ok (.invokespecial 67, 3) := by decide +kernel
theorem dX5_grant_72 : decode cX5_grant 72 = .ok (.athrow, 1) := by decide +kernel
theorem dX5_grant_73 : decode cX5_grant 73 = .ok (.aload_n 0, 1) := by decide +kernel
theorem dX5_grant_74 : decode cX5_grant 74 = .ok (.aload 6, 2) := by decide +kernel
theorem dX5_grant_76 : decode cX5_grant 76 = .ok (.iload_n 3, 1) := by decide +kernel
theorem dX5_grant_77 : decode cX5_grant 77 = .ok (.invokevirtual 158, 3) := by decide +kernel
theorem dX5_grant_80 : decode cX5_grant 80 = .ok (.aload 8, 2) := by decide +kernel
theorem dX5_grant_82 : decode cX5_grant 82 = .ok (.ifnull 8, 3) := by decide +kernel
theorem dX5_grant_85 : decode cX5_grant 85 = .ok (.aload 8, 2) := by decide +kernel
theorem dX5_grant_87 : decode cX5_grant 87 = .ok (.invokestatic 144, 3) := by decide +kernel
theorem dX5_grant_90 : decode cX5_grant 90 = .ok (.aload_n 0, 1) := by decide +kernel
theorem dX5_grant_91 : decode cX5_grant 91 = .ok (.getfield 25, 3) := by decide +kernel
theorem dX5_grant_94 : decode cX5_grant 94 = .ok (.new 162, 3) := by decide +kernel
theorem dX5_grant_97 : decode cX5_grant 97 = .ok (.dup, 1) := by decide +kernel
theorem dX5_grant_98 : decode cX5_grant 98 = .ok (.aload 6, 2) := by decide +kernel
theorem dX5_grant_100 : decode cX5_grant 100 = .ok (.aload 7, 2) := by decide +kernel
theorem dX5_grant_102 : decode cX5_grant 102 = .ok (.iload_n 3, 1) := by decide +kernel
theorem dX5_grant_103 : decode cX5_grant 103 = .ok (.aload 8, 2) := by decide +kernel
theorem dX5_grant_105 : decode cX5_grant 105 = .ok (.aload_n 0, 1) := by decide +kernel
theorem dX5_grant_106 : decode cX5_grant 106 = .ok (.getfield 35, 3) := by decide +kernel
theorem dX5_grant_109 : decode cX5_grant 109 = .ok (.iload 5, 2) := by decide +kernel
theorem dX5_grant_111 : decode cX5_grant 111 = .ok (.iadd, 1) := by decide +kernel
theorem dX5_grant_112 : decode cX5_grant 112 = .ok (.invokespecial 164, 3) := by decide +kernel
theorem dX5_grant_115 : decode cX5_grant 115 = .ok (.invokevirtual 43, 3) := by decide +kernel
theorem dX5_grant_118 : decode cX5_grant 118 = .ok (.pop, 1) := by decide +kernel
theorem dX5_grant_119 : decode cX5_grant 119 = .ok (.iload 9, 2) := by decide +kernel
theorem dX5_grant_121 : decode cX5_grant 121 = .ok (.ireturn, 1) := by decide +kernel
theorem dX5_pay_0 : decode cX5_pay 0 = .ok (.aload_n 0, 1) := by decide +kernel
theorem dX5_pay_1 : decode cX5_pay 1 = .ok (.iload_n 1, 1) := by decide +kernel
theorem dX5_pay_2 : decode cX5_pay 2 = .ok (.invokevirtual 167, 3) := by decide +kernel
theorem dX5_pay_5 : decode cX5_pay 5 = .ok (.astore_n 3, 1) := by decide +kernel
theorem dX5_pay_6 : decode cX5_pay 6 = .ok (.iload_n 2, 1) := by decide +kernel
theorem dX5_pay_7 : decode cX5_pay 7 = .ok (.iconst 1, 1) := by decide +kernel
theorem dX5_pay_8 : decode cX5_pay 8 = .ok (.ldc 155, 2) := by decide +kernel
theorem dX5_pay_10 : decode cX5_pay 10 = .ok (.invokestatic 55, 3) := by decide +kernel
theorem dX5_pay_13 : decode cX5_pay 13 = .ok (.aload_n 3, 1) := by decide +kernel
theorem dX5_pay_14 : decode cX5_pay 14 = .ok (.getfield 171, 3) := by decide +kernel
theorem dX5_pay_17 : decode cX5_pay 17 = .ok (.ifCond .eq 13, 3) := by decide +kernel
theorem dX5_pay_20 : decode cX5_pay 20 = .ok (.new 63, 3) := by decide +kernel
theorem dX5_pay_23 : decode cX5_pay 23 = .ok (.dup, 1) := by decide +kernel
theorem dX5_pay_24 : decode cX5_pay 24 = .ok (.ldc 172, 2) := by decide +kernel
theorem dX5_pay_26 : decode cX5_pay 26 = .ok (.invokespecial 67, 3) := by decide +kernel
theorem dX5_pay_29 : decode cX5_pay 29 = .ok (.athrow, 1) := by decide +kernel
theorem dX5_pay_30 : decode cX5_pay 30 = .ok (.iload_n 2, 1) := by decide +kernel
theorem dX5_pay_31 : decode cX5_pay 31 = .ok (.aload_n 3, 1) := by decide +kernel
theorem dX5_pay_32 : decode cX5_pay 32 = .ok (.getfield 174, 3) := by decide +kernel
theorem dX5_pay_35 : decode cX5_pay 35 = .ok (.aload_n 3, 1) := by decide +kernel
theorem dX5_pay_36 : decode cX5_pay 36 = .ok (.getfield 177, 3) := by decide +kernel
theorem dX5_pay_39 : decode cX5_pay 39 = .ok (.isub, 1) := by decide +kernel
theorem dX5_pay_40 : decode cX5_pay 40 = .ok (.if_icmp .le 13, 3) := by decide +kernel
theorem dX5_pay_43 : decode cX5_pay 43 = .ok (.new 63, 3) := by decide +kernel
theorem dX5_pay_46 : decode cX5_pay 46 = .ok (.dup, 1) := by decide +kernel
theorem dX5_pay_47 : decode cX5_pay 47 = .ok (.ldc 180, 2) := by decide +kernel
theorem dX5_pay_49 : decode cX5_pay 49 = .ok (.invokespecial 67, 3) := by decide +kernel
theorem dX5_pay_52 : decode cX5_pay 52 = .ok (.athrow, 1) := by decide +kernel
theorem dX5_pay_53 : decode cX5_pay 53 = .ok (.aload_n 3, 1) := by decide +kernel
theorem dX5_pay_54 : decode cX5_pay 54 = .ok (.getfield 182, 3) := by decide +kernel
theorem dX5_pay_57 : decode cX5_pay 57 = .ok (.getfield 183, 3) := by decide +kernel
theorem dX5_pay_60 : decode cX5_pay 60 = .ok (.iload_n 2, 1) := by decide +kernel
theorem dX5_pay_61 : decode cX5_pay 61 = .ok (.invokestatic 187, 3) := by decide +kernel
theorem dX5_pay_64 : decode cX5_pay 64 = .ok (.aload_n 3, 1) := by decide +kernel
theorem dX5_pay_65 : decode cX5_pay 65 = .ok (.dup, 1) := by decide +kernel
theorem dX5_pay_66 : decode cX5_pay 66 = .ok (.getfield 177, 3) := by decide +kernel
theorem dX5_pay_69 : decode cX5_pay 69 = .ok (.iload_n 2, 1) := by decide +kernel
theorem dX5_pay_70 : decode cX5_pay 70 = .ok (.iadd, 1) := by decide +kernel
theorem dX5_pay_71 : decode cX5_pay 71 = .ok (.putfield 177, 3) := by decide +kernel
theorem dX5_pay_74 : decode cX5_pay 74 = .ok (.aload_n 3, 1) := by decide +kernel
theorem dX5_pay_75 : decode cX5_pay 75 = .ok (.getfield 177, 3) := by decide +kernel
theorem dX5_pay_78 : decode cX5_pay 78 = .ok (.ireturn, 1) := by decide +kernel
theorem dX5_report_0 : decode cX5_report 0 = .ok (.aload_n 0, 1) := by decide +kernel
theorem dX5_report_1 : decode cX5_report 1 = .ok (.iload_n 1, 1) := by decide +kernel
theorem dX5_report_2 : decode cX5_report 2 = .ok (.invokevirtual 167, 3) := by decide +kernel
theorem dX5_report_5 : decode cX5_report 5 = .ok (.astore_n 2, 1) := by decide +kernel
theorem dX5_report_6 : decode cX5_report 6 = .ok (.aload_n 2, 1) := by decide +kernel
theorem dX5_report_7 : decode cX5_report 7 = .ok (.invokestatic 191, 3) := by decide +kernel
theorem dX5_report_10 : decode cX5_report 10 = .ok (.aload_n 2, 1) := by decide +kernel
theorem dX5_report_11 : decode cX5_report 11 = .ok (.getfield 195, 3) := by decide +kernel
theorem dX5_report_14 : decode cX5_report 14 = .ok (.ifCond .ne 7, 3) := by decide +kernel
theorem dX5_report_17 : decode cX5_report 17 = .ok (.iconst 1, 1) := by decide +kernel
theorem dX5_report_18 : decode cX5_report 18 = .ok (.goto 4, 3) := by decide +kernel
theorem dX5_report_21 : decode cX5_report 21 = .ok (.iconst 0, 1) := by decide +kernel
theorem dX5_report_22 : decode cX5_report 22 = .ok (.istore_n 3, 1) := by decide +kernel
theorem dX5_report_23 : decode cX5_report 23 = .ok (.aload_n 2, 1) := by decide +kernel
theorem dX5_report_24 : decode cX5_report 24 = .ok (.iconst 1, 1) := by decide +kernel
theorem dX5_report_25 : decode cX5_report 25 = .ok (.putfield 195, 3) := by decide +kernel
theorem dX5_report_28 : decode cX5_report 28 = .ok (.iload_n 3, 1) := by decide +kernel
theorem dX5_report_29 : decode cX5_report 29 = .ok (.ireturn, 1) := by decide +kernel
theorem dX5_spend_0 : decode cX5_spend 0 = .ok (.aload_n 0, 1) := by decide +kernel
theorem dX5_spend_1 : decode cX5_spend 1 = .ok (.iload_n 1, 1) := by decide +kernel
theorem dX5_spend_2 : decode cX5_spend 2 = .ok (.invokevirtual 78, 3) := by decide +kernel
theorem dX5_spend_5 : decode cX5_spend 5 = .ok (.astore_n 3, 1) := by decide +kernel
theorem dX5_spend_6 : decode cX5_spend 6 = .ok (.iload_n 2, 1) := by decide +kernel
theorem dX5_spend_7 : decode cX5_spend 7 = .ok (.iconst 1, 1) := by decide +kernel
theorem dX5_spend_8 : decode cX5_spend 8 = .ok (.ldc 155, 2) := by decide +kernel
theorem dX5_spend_10 : decode cX5_spend 10 = .ok (.invokestatic 55, 3) := by decide +kernel
theorem dX5_spend_13 : decode cX5_spend 13 = .ok (.aload_n 0, 1) := by decide +kernel
theorem dX5_spend_14 : decode cX5_spend 14 = .ok (.aload_n 3, 1) := by decide +kernel
theorem dX5_spend_15 : decode cX5_spend 15 = .ok (.iload_n 2, 1) := by decide +kernel
theorem dX5_spend_16 : decode cX5_spend 16 = .ok (.invokevirtual 158, 3) := by decide +kernel
theorem dX5_spend_19 : decode cX5_spend 19 = .ok (.aload_n 3, 1) := by decide +kernel
theorem dX5_spend_20 : decode cX5_spend 20 = .ok (.getfield 183, 3) := by decide +kernel
theorem dX5_spend_23 : decode cX5_spend 23 = .ok (.iload_n 2, 1) := by decide +kernel
theorem dX5_spend_24 : decode cX5_spend 24 = .ok (.invokestatic 187, 3) := by decide +kernel
theorem dX5_spend_27 : decode cX5_spend 27 = .ok (.aload_n 3, 1) := by decide +kernel
theorem dX5_spend_28 : decode cX5_spend 28 = .ok (.dup, 1) := by decide +kernel
theorem dX5_spend_29 : decode cX5_spend 29 = .ok (.getfield 198, 3) := by decide +kernel
theorem dX5_spend_32 : decode cX5_spend 32 = .ok (.iload_n 2, 1) := by decide +kernel
theorem dX5_spend_33 : decode cX5_spend 33 = .ok (.iadd, 1) := by decide +kernel
theorem dX5_spend_34 : decode cX5_spend 34 = .ok (.putfield 198, 3) := by decide +kernel
theorem dX5_spend_37 : decode cX5_spend 37 = .ok (.aload_n 0, 1) := by decide +kernel
theorem dX5_spend_38 : decode cX5_spend 38 = .ok (.aload_n 3, 1) := by decide +kernel
theorem dX5_spend_39 : decode cX5_spend 39 = .ok (.invokevirtual 201, 3) := by decide +kernel
theorem dX5_spend_42 : decode cX5_spend 42 = .ok (.ireturn, 1) := by decide +kernel
theorem dX5_audit_0 : decode cX5_audit 0 = .ok (.aload_n 0, 1) := by decide +kernel
theorem dX5_audit_1 : decode cX5_audit 1 = .ok (.iload_n 1, 1) := by decide +kernel
theorem dX5_audit_2 : decode cX5_audit 2 = .ok (.invokevirtual 167, 3) := by decide +kernel
theorem dX5_audit_5 : decode cX5_audit 5 = .ok (.astore_n 3, 1) := by decide +kernel
theorem dX5_audit_6 : decode cX5_audit 6 = .ok (.iload_n 2, 1) := by decide +kernel
theorem dX5_audit_7 : decode cX5_audit 7 = .ok (.iconst 1, 1) := by decide +kernel
theorem dX5_audit_8 : decode cX5_audit 8 = .ok (.ldc 155, 2) := by decide +kernel
theorem dX5_audit_10 : decode cX5_audit 10 = .ok (.invokestatic 55, 3) := by decide +kernel
theorem dX5_audit_13 : decode cX5_audit 13 = .ok (.aload_n 3, 1) := by decide +kernel
theorem dX5_audit_14 : decode cX5_audit 14 = .ok (.invokestatic 191, 3) := by decide +kernel
theorem dX5_audit_17 : decode cX5_audit 17 = .ok (.aload_n 3, 1) := by decide +kernel
theorem dX5_audit_18 : decode cX5_audit 18 = .ok (.getfield 177, 3) := by decide +kernel
theorem dX5_audit_21 : decode cX5_audit 21 = .ok (.iload_n 2, 1) := by decide +kernel
theorem dX5_audit_22 : decode cX5_audit 22 = .ok (.if_icmp .ge 13, 3) := by decide +kernel
theorem dX5_audit_25 : decode cX5_audit 25 = .ok (.new 63, 3) := by decide +kernel
theorem dX5_audit_28 : decode cX5_audit 28 = .ok (.dup, 1) := by decide +kernel
theorem dX5_audit_29 : decode cX5_audit 29 = .ok (.ldc 205, 2) := by decide +kernel
theorem dX5_audit_31 : decode cX5_audit 31 = .ok (.invokespecial 67, 3) := by decide +kernel
theorem dX5_audit_34 : decode cX5_audit 34 = .ok (.athrow, 1) := by decide +kernel
theorem dX5_audit_35 : decode cX5_audit 35 = .ok (.aload_n 3, 1) := by decide +kernel
theorem dX5_audit_36 : decode cX5_audit 36 = .ok (.iload_n 2, 1) := by decide +kernel
theorem dX5_audit_37 : decode cX5_audit 37 = .ok (.invokevirtual 207, 3) := by decide +kernel
theorem dX5_audit_40 : decode cX5_audit 40 = .ok (.aload_n 3, 1) := by decide +kernel
theorem dX5_audit_41 : decode cX5_audit 41 = .ok (.getfield 177, 3) := by decide +kernel
theorem dX5_audit_44 : decode cX5_audit 44 = .ok (.ireturn, 1) := by decide +kernel
theorem dX5_repay_0 : decode cX5_repay 0 = .ok (.aload_n 0, 1) := by decide +kernel
theorem dX5_repay_1 : decode cX5_repay 1 = .ok (.iload_n 1, 1) := by decide +kernel
theorem dX5_repay_2 : decode cX5_repay 2 = .ok (.invokevirtual 151, 3) := by decide +kernel
theorem dX5_repay_5 : decode cX5_repay 5 = .ok (.astore_n 3, 1) := by decide +kernel
theorem dX5_repay_6 : decode cX5_repay 6 = .ok (.iload_n 2, 1) := by decide +kernel
theorem dX5_repay_7 : decode cX5_repay 7 = .ok (.iconst 1, 1) := by decide +kernel
theorem dX5_repay_8 : decode cX5_repay 8 = .ok (.ldc 155, 2) := by decide +kernel
theorem dX5_repay_10 : decode cX5_repay 10 = .ok (.invokestatic 55, 3) := by decide +kernel
theorem dX5_repay_13 : decode cX5_repay 13 = .ok (.aload_n 3, 1) := by decide +kernel
theorem dX5_repay_14 : decode cX5_repay 14 = .ok (.getfield 210, 3) := by decide +kernel
theorem dX5_repay_17 : decode cX5_repay 17 = .ok (.iload_n 2, 1) := by decide +kernel
theorem dX5_repay_18 : decode cX5_repay 18 = .ok (.if_icmp .ge 13, 3) := by decide +kernel
theorem dX5_repay_21 : decode cX5_repay 21 = .ok (.new 63, 3) := by decide +kernel
theorem dX5_repay_24 : decode cX5_repay 24 = .ok (.dup, 1) := by decide +kernel
theorem dX5_repay_25 : decode cX5_repay 25 = .ok (.ldc 213, 2) := by decide +kernel
theorem dX5_repay_27 : decode cX5_repay 27 = .ok (.invokespecial 67, 3) := by decide +kernel
theorem dX5_repay_30 : decode cX5_repay 30 = .ok (.athrow, 1) := by decide +kernel
theorem dX5_repay_31 : decode cX5_repay 31 = .ok (.aload_n 3, 1) := by decide +kernel
theorem dX5_repay_32 : decode cX5_repay 32 = .ok (.dup, 1) := by decide +kernel
theorem dX5_repay_33 : decode cX5_repay 33 = .ok (.getfield 210, 3) := by decide +kernel
theorem dX5_repay_36 : decode cX5_repay 36 = .ok (.iload_n 2, 1) := by decide +kernel
theorem dX5_repay_37 : decode cX5_repay 37 = .ok (.isub, 1) := by decide +kernel
theorem dX5_repay_38 : decode cX5_repay 38 = .ok (.putfield 210, 3) := by decide +kernel
theorem dX5_repay_41 : decode cX5_repay 41 = .ok (.aload_n 0, 1) := by decide +kernel
theorem dX5_repay_42 : decode cX5_repay 42 = .ok (.dup, 1) := by decide +kernel
theorem dX5_repay_43 : decode cX5_repay 43 = .ok (.getfield 28, 3) := by decide +kernel
theorem dX5_repay_46 : decode cX5_repay 46 = .ok (.iload_n 2, 1) := by decide +kernel
theorem dX5_repay_47 : decode cX5_repay 47 = .ok (.iadd, 1) := by decide +kernel
theorem dX5_repay_48 : decode cX5_repay 48 = .ok (.putfield 28, 3) := by decide +kernel
theorem dX5_repay_51 : decode cX5_repay 51 = .ok (.aload_n 3, 1) := by decide +kernel
theorem dX5_repay_52 : decode cX5_repay 52 = .ok (.getfield 210, 3) := by decide +kernel
theorem dX5_repay_55 : decode cX5_repay 55 = .ok (.ireturn, 1) := by decide +kernel
theorem dX5_target_0 : decode cX5_target 0 = .ok (.iload_n 1, 1) := by decide +kernel
theorem dX5_target_1 : decode cX5_target 1 = .ok (.iconst 0, 1) := by decide +kernel
theorem dX5_target_2 : decode cX5_target 2 = .ok (.bipush 50, 2) := by decide +kernel
theorem dX5_target_4 : decode cX5_target 4 = .ok (.invokestatic 55, 3) := by decide +kernel
theorem dX5_target_7 : decode cX5_target 7 = .ok (.aload_n 0, 1) := by decide +kernel
theorem dX5_target_8 : decode cX5_target 8 = .ok (.getfield 32, 3) := by decide +kernel
theorem dX5_target_11 : decode cX5_target 11 = .ok (.istore_n 2, 1) := by decide +kernel
theorem dX5_target_12 : decode cX5_target 12 = .ok (.aload_n 0, 1) := by decide +kernel
theorem dX5_target_13 : decode cX5_target 13 = .ok (.iload_n 1, 1) := by decide +kernel
theorem dX5_target_14 : decode cX5_target 14 = .ok (.putfield 32, 3) := by decide +kernel
theorem dX5_target_17 : decode cX5_target 17 = .ok (.iload_n 2, 1) := by decide +kernel
theorem dX5_target_18 : decode cX5_target 18 = .ok (.ireturn, 1) := by decide +kernel
theorem dX5_month_0 : decode cX5_month 0 = .ok (.iload_n 1, 1) := by decide +kernel
theorem dX5_month_1 : decode cX5_month 1 = .ok (.iconst 1, 1) := by decide +kernel
theorem dX5_month_2 : decode cX5_month 2 = .ok (.bipush 24, 2) := by decide +kernel
theorem dX5_month_4 : decode cX5_month 4 = .ok (.invokestatic 55, 3) := by decide +kernel
theorem dX5_month_7 : decode cX5_month 7 = .ok (.iconst 0, 1) := by decide +kernel
theorem dX5_month_8 : decode cX5_month 8 = .ok (.istore_n 2, 1) := by decide +kernel
theorem dX5_month_9 : decode cX5_month 9 = .ok (.iload_n 2, 1) := by decide +kernel
theorem dX5_month_10 : decode cX5_month 10 = .ok (.iload_n 1, 1) := by decide +kernel
theorem dX5_month_11 : decode cX5_month 11 = .ok (.if_icmp .ge 27, 3) := by decide +kernel
theorem dX5_month_14 : decode cX5_month 14 = .ok (.aload_n 0, 1) := by decide +kernel
theorem dX5_month_15 : decode cX5_month 15 = .ok (.dup, 1) := by decide +kernel
theorem dX5_month_16 : decode cX5_month 16 = .ok (.getfield 35, 3) := by decide +kernel
theorem dX5_month_19 : decode cX5_month 19 = .ok (.iconst 1, 1) := by decide +kernel
theorem dX5_month_20 : decode cX5_month 20 = .ok (.iadd, 1) := by decide +kernel
theorem dX5_month_21 : decode cX5_month 21 = .ok (.putfield 35, 3) := by decide +kernel
theorem dX5_month_24 : decode cX5_month 24 = .ok (.aload_n 0, 1) := by decide +kernel
theorem dX5_month_25 : decode cX5_month 25 = .ok (.invokevirtual 215, 3) := by decide +kernel
theorem dX5_month_28 : decode cX5_month 28 = .ok (.aload_n 0, 1) := by decide +kernel
theorem dX5_month_29 : decode cX5_month 29 = .ok (.invokevirtual 218, 3) := by decide +kernel
theorem dX5_month_32 : decode cX5_month 32 = .ok (.iinc 2 1, 3) := by decide +kernel
theorem dX5_month_35 : decode cX5_month 35 = .ok (.goto (-26), 3) := by decide +kernel
theorem dX5_month_38 : decode cX5_month 38 = .ok (.aload_n 0, 1) := by decide +kernel
theorem dX5_month_39 : decode cX5_month 39 = .ok (.getfield 35, 3) := by decide +kernel
theorem dX5_month_42 : decode cX5_month 42 = .ok (.ireturn, 1) := by decide +kernel
theorem dX5_ofLine_0 : decode cX5_ofLine 0 = .ok (.aload_n 0, 1) := by decide +kernel
theorem dX5_ofLine_1 : decode cX5_ofLine 1 = .ok (.iload_n 1, 1) := by decide +kernel
theorem dX5_ofLine_2 : decode cX5_ofLine 2 = .ok (.invokevirtual 78, 3) := by decide +kernel
theorem dX5_ofLine_5 : decode cX5_ofLine 5 = .ok (.astore_n 3, 1) := by decide +kernel
theorem dX5_ofLine_6 : decode cX5_ofLine 6 = .ok (.iload_n 2, 1) := by decide +kernel
theorem dX5_ofLine_7 : decode cX5_ofLine 7 = .ok (.tableswitch 81 0 6 #[41, 46, 51, 57, 63, 68, 73], 41) := by decide +kernel
theorem dX5_ofLine_48 : decode cX5_ofLine 48 = .ok (.aload_n 3, 1) := by decide +kernel
theorem dX5_ofLine_49 : decode cX5_ofLine 49 = .ok (.invokevirtual 221, 3) := by decide +kernel
theorem dX5_ofLine_52 : decode cX5_ofLine 52 = .ok (.ireturn, 1) := by decide +kernel
theorem dX5_ofLine_53 : decode cX5_ofLine 53 = .ok (.aload_n 3, 1) := by decide +kernel
theorem dX5_ofLine_54 : decode cX5_ofLine 54 = .ok (.getfield 198, 3) := by decide +kernel
theorem dX5_ofLine_57 : decode cX5_ofLine 57 = .ok (.ireturn, 1) := by decide +kernel
theorem dX5_ofLine_58 : decode cX5_ofLine 58 = .ok (.aload_n 0, 1) := by decide +kernel
theorem dX5_ofLine_59 : decode cX5_ofLine 59 = .ok (.aload_n 3, 1) := by decide +kernel
theorem dX5_ofLine_60 : decode cX5_ofLine 60 = .ok (.invokevirtual 224, 3) := by decide +kernel
theorem dX5_ofLine_63 : decode cX5_ofLine 63 = .ok (.ireturn, 1) := by decide +kernel
theorem dX5_ofLine_64 : decode cX5_ofLine 64 = .ok (.aload_n 0, 1) := by decide +kernel
theorem dX5_ofLine_65 : decode cX5_ofLine 65 = .ok (.aload_n 3, 1) := by decide +kernel
theorem dX5_ofLine_66 : decode cX5_ofLine 66 = .ok (.invokevirtual 201, 3) := by decide +kernel
theorem dX5_ofLine_69 : decode cX5_ofLine 69 = .ok (.ireturn, 1) := by decide +kernel
theorem dX5_ofLine_70 : decode cX5_ofLine 70 = .ok (.aload_n 3, 1) := by decide +kernel
theorem dX5_ofLine_71 : decode cX5_ofLine 71 = .ok (.getfield 227, 3) := by decide +kernel
theorem dX5_ofLine_74 : decode cX5_ofLine 74 = .ok (.ireturn, 1) := by decide +kernel
theorem dX5_ofLine_75 : decode cX5_ofLine 75 = .ok (.aload_n 3, 1) := by decide +kernel
theorem dX5_ofLine_76 : decode cX5_ofLine 76 = .ok (.getfield 230, 3) := by decide +kernel
theorem dX5_ofLine_79 : decode cX5_ofLine 79 = .ok (.ireturn, 1) := by decide +kernel
theorem dX5_ofLine_80 : decode cX5_ofLine 80 = .ok (.aload_n 3, 1) := by decide +kernel
theorem dX5_ofLine_81 : decode cX5_ofLine 81 = .ok (.getfield 183, 3) := by decide +kernel
theorem dX5_ofLine_84 : decode cX5_ofLine 84 = .ok (.getfield 233, 3) := by decide +kernel
theorem dX5_ofLine_87 : decode cX5_ofLine 87 = .ok (.ireturn, 1) := by decide +kernel
theorem dX5_ofLine_88 : decode cX5_ofLine 88 = .ok (.new 236, 3) := by decide +kernel
theorem dX5_ofLine_91 : decode cX5_ofLine 91 = .ok (.dup, 1) := by decide +kernel
theorem dX5_ofLine_92 : decode cX5_ofLine 92 = .ok (.ldc 238, 2) := by decide +kernel
theorem dX5_ofLine_94 : decode cX5_ofLine 94 = .ok (.invokespecial 240, 3) := by decide +kernel
theorem dX5_ofLine_97 : decode cX5_ofLine 97 = .ok (.athrow, 1) := by decide +kernel
theorem dX5_standsAnew_0 : decode cX5_standsAnew 0 = .ok (.aload_n 0, 1) := by decide +kernel
theorem dX5_standsAnew_1 : decode cX5_standsAnew 1 = .ok (.iload_n 1, 1) := by decide +kernel
theorem dX5_standsAnew_2 : decode cX5_standsAnew 2 = .ok (.invokevirtual 78, 3) := by decide +kernel
theorem dX5_standsAnew_5 : decode cX5_standsAnew 5 = .ok (.astore_n 2, 1) := by decide +kernel
theorem dX5_standsAnew_6 : decode cX5_standsAnew 6 = .ok (.iconst 0, 1) := by decide +kernel
theorem dX5_standsAnew_7 : decode cX5_standsAnew 7 = .ok (.istore_n 3, 1) := by decide +kernel
theorem dX5_standsAnew_8 : decode cX5_standsAnew 8 = .ok (.iconst 0, 1) := by decide +kernel
theorem dX5_standsAnew_9 : decode cX5_standsAnew 9 = .ok (.istore 4, 2) := by decide +kernel
theorem dX5_standsAnew_11 : decode cX5_standsAnew 11 = .ok (.iload 4, 2) := by decide +kernel
theorem dX5_standsAnew_13 : decode cX5_standsAnew 13 = .ok (.aload_n 0, 1) := by decide +kernel
theorem dX5_standsAnew_14 : decode cX5_standsAnew 14 = .ok (.getfield 22, 3) := by decide +kernel
theorem dX5_standsAnew_17 : decode cX5_standsAnew 17 = .ok (.invokevirtual 59, 3) := by decide +kernel
theorem dX5_standsAnew_20 : decode cX5_standsAnew 20 = .ok (.if_icmp .ge 48, 3) := by decide +kernel
theorem dX5_standsAnew_23 : decode cX5_standsAnew 23 = .ok (.aload_n 0, 1) := by decide +kernel
theorem dX5_standsAnew_24 : decode cX5_standsAnew 24 = .ok (.getfield 22, 3) := by decide +kernel
theorem dX5_standsAnew_27 : decode cX5_standsAnew 27 = .ok (.iload 4, 2) := by decide +kernel
theorem dX5_standsAnew_29 : decode cX5_standsAnew 29 = .ok (.invokevirtual 241, 3) := by decide +kernel
theorem dX5_standsAnew_32 : decode cX5_standsAnew 32 = .ok (.checkcast 101, 3) := by decide +kernel
theorem dX5_standsAnew_35 : decode cX5_standsAnew 35 = .ok (.astore 5, 2) := by decide +kernel
theorem dX5_standsAnew_37 : decode cX5_standsAnew 37 = .ok (.aload 5, 2) := by decide +kernel
theorem dX5_standsAnew_39 : decode cX5_standsAnew 39 = .ok (.getfield 100, 3) := by decide +kernel
theorem dX5_standsAnew_42 : decode cX5_standsAnew 42 = .ok (.aload_n 2, 1) := by decide +kernel
theorem dX5_standsAnew_43 : decode cX5_standsAnew 43 = .ok (.if_acmp .ne 19, 3) := by decide +kernel
theorem dX5_standsAnew_46 : decode cX5_standsAnew 46 = .ok (.aload 5, 2) := by decide +kernel
theorem dX5_standsAnew_48 : decode cX5_standsAnew 48 = .ok (.invokestatic 245, 3) := by decide +kernel
theorem dX5_standsAnew_51 : decode cX5_standsAnew 51 = .ok (.ifCond .eq 11, 3) := by decide +kernel
theorem dX5_standsAnew_54 : decode cX5_standsAnew 54 = .ok (.iload_n 3, 1) := by decide +kernel
theorem dX5_standsAnew_55 : decode cX5_standsAnew 55 = .ok (.aload 5, 2) := by decide +kernel
theorem dX5_standsAnew_57 : decode cX5_standsAnew 57 = .ok (.getfield 248, 3) := by decide +kernel
theorem dX5_standsAnew_60 : decode cX5_standsAnew 60 = .ok (.iadd, 1) := by decide +kernel
theorem dX5_standsAnew_61 : decode cX5_standsAnew 61 = .ok (.istore_n 3, 1) := by decide +kernel
theorem dX5_standsAnew_62 : decode cX5_standsAnew 62 = .ok (.iinc 4 1, 3) := by decide +kernel
theorem dX5_standsAnew_65 : decode cX5_standsAnew 65 = .ok (.goto (-54), 3) := by decide +kernel
theorem dX5_standsAnew_68 : decode cX5_standsAnew 68 = .ok (.aload_n 2, 1) := by decide +kernel
theorem dX5_standsAnew_69 : decode cX5_standsAnew 69 = .ok (.iload_n 3, 1) := by decide +kernel
theorem dX5_standsAnew_70 : decode cX5_standsAnew 70 = .ok (.invokevirtual 251, 3) := by decide +kernel
theorem dX5_standsAnew_73 : decode cX5_standsAnew 73 = .ok (.ireturn, 1) := by decide +kernel
theorem dX5_ofAmendment_0 : decode cX5_ofAmendment 0 = .ok (.aload_n 0, 1) := by decide +kernel
theorem dX5_ofAmendment_1 : decode cX5_ofAmendment 1 = .ok (.iload_n 1, 1) := by decide +kernel
theorem dX5_ofAmendment_2 : decode cX5_ofAmendment 2 = .ok (.invokevirtual 92, 3) := by decide +kernel
theorem dX5_ofAmendment_5 : decode cX5_ofAmendment 5 = .ok (.astore_n 3, 1) := by decide +kernel
theorem dX5_ofAmendment_6 : decode cX5_ofAmendment 6 = .ok (.iload_n 2, 1) := by decide +kernel
theorem dX5_ofAmendment_7 : decode cX5_ofAmendment 7 = .ok (.tableswitch 92 0 7 #[45, 50, 55, 60, 65, 70, 78, 86], 45) := by decide +kernel
theorem dX5_ofAmendment_52 : decode cX5_ofAmendment 52 = .ok (.aload_n 3, 1) := by decide +kernel
theorem dX5_ofAmendment_53 : decode cX5_ofAmendment 53 = .ok (.getfield 141, 3) := by decide +kernel
theorem dX5_ofAmendment_56 : decode cX5_ofAmendment 56 = .ok (.ireturn, 1) := by decide +kernel
theorem dX5_ofAmendment_57 : decode cX5_ofAmendment 57 = .ok (.aload_n 3, 1) := by decide +kernel
theorem dX5_ofAmendment_58 : decode cX5_ofAmendment 58 = .ok (.getfield 255, 3) := by decide +kernel
theorem dX5_ofAmendment_61 : decode cX5_ofAmendment 61 = .ok (.ireturn, 1) := by decide +kernel
theorem dX5_ofAmendment_62 : decode cX5_ofAmendment 62 = .ok (.aload_n 3, 1) := by decide +kernel
theorem dX5_ofAmendment_63 : decode cX5_ofAmendment 63 = .ok (.getfield 258, 3) := by decide +kernel
theorem dX5_ofAmendment_66 : decode cX5_ofAmendment 66 = .ok (.ireturn, 1) := by decide +kernel
theorem dX5_ofAmendment_67 : decode cX5_ofAmendment 67 = .ok (.aload_n 3, 1) := by decide +kernel
theorem dX5_ofAmendment_68 : decode cX5_ofAmendment 68 = .ok (.invokevirtual 115, 3) := by decide +kernel
theorem dX5_ofAmendment_71 : decode cX5_ofAmendment 71 = .ok (.ireturn, 1) := by decide +kernel
theorem dX5_ofAmendment_72 : decode cX5_ofAmendment 72 = .ok (.aload_n 3, 1) := by decide +kernel
theorem dX5_ofAmendment_73 : decode cX5_ofAmendment 73 = .ok (.invokevirtual 261, 3) := by decide +kernel
theorem dX5_ofAmendment_76 : decode cX5_ofAmendment 76 = .ok (.ireturn, 1) := by decide +kernel
theorem dX5_ofAmendment_77 : decode cX5_ofAmendment 77 = .ok (.aload_n 3, 1) := by decide +kernel
theorem dX5_ofAmendment_78 : decode cX5_ofAmendment 78 = .ok (.getfield 264, 3) := by decide +kernel
theorem dX5_ofAmendment_81 : decode cX5_ofAmendment 81 = .ok (.invokestatic 268, 3) := by decide +kernel
theorem dX5_ofAmendment_84 : decode cX5_ofAmendment 84 = .ok (.ireturn, 1) := by decide +kernel
theorem dX5_ofAmendment_85 : decode cX5_ofAmendment 85 = .ok (.aload_n 3, 1) := by decide +kernel
theorem dX5_ofAmendment_86 : decode cX5_ofAmendment 86 = .ok (.getfield 100, 3) := by decide +kernel
theorem dX5_ofAmendment_89 : decode cX5_ofAmendment 89 = .ok (.getfield 271, 3) := by decide +kernel
theorem dX5_ofAmendment_92 : decode cX5_ofAmendment 92 = .ok (.ireturn, 1) := by decide +kernel
theorem dX5_ofAmendment_93 : decode cX5_ofAmendment 93 = .ok (.aload_n 0, 1) := by decide +kernel
theorem dX5_ofAmendment_94 : decode cX5_ofAmendment 94 = .ok (.aload_n 3, 1) := by decide +kernel
theorem dX5_ofAmendment_95 : decode cX5_ofAmendment 95 = .ok (.invokevirtual 272, 3) := by decide +kernel
theorem dX5_ofAmendment_98 : decode cX5_ofAmendment 98 = .ok (.ireturn, 1) := by decide +kernel
theorem dX5_ofAmendment_99 : decode cX5_ofAmendment 99 = .ok (.new 236, 3) := by decide +kernel
theorem dX5_ofAmendment_102 : decode cX5_ofAmendment 102 = .ok (.dup, 1) := by decide +kernel
theorem dX5_ofAmendment_103 : decode cX5_ofAmendment 103 = .ok (.ldc 238, 2) := by decide +kernel
theorem dX5_ofAmendment_105 : decode cX5_ofAmendment 105 = .ok (.invokespecial 240, 3) := by decide +kernel
theorem dX5_ofAmendment_108 : decode cX5_ofAmendment 108 = .ok (.athrow, 1) := by decide +kernel
theorem dX5_ofGrant_0 : decode cX5_ofGrant 0 = .ok (.aload_n 0, 1) := by decide +kernel
theorem dX5_ofGrant_1 : decode cX5_ofGrant 1 = .ok (.iload_n 1, 1) := by decide +kernel
theorem dX5_ofGrant_2 : decode cX5_ofGrant 2 = .ok (.invokevirtual 167, 3) := by decide +kernel
theorem dX5_ofGrant_5 : decode cX5_ofGrant 5 = .ok (.astore_n 3, 1) := by decide +kernel
theorem dX5_ofGrant_6 : decode cX5_ofGrant 6 = .ok (.iload_n 2, 1) := by decide +kernel
theorem dX5_ofGrant_7 : decode cX5_ofGrant 7 = .ok (.tableswitch 102 0 7 #[45, 50, 55, 60, 68, 76, 84, 89], 45) := by decide +kernel
theorem dX5_ofGrant_52 : decode cX5_ofGrant 52 = .ok (.aload_n 3, 1) := by decide +kernel
theorem dX5_ofGrant_53 : decode cX5_ofGrant 53 = .ok (.getfield 171, 3) := by decide +kernel
theorem dX5_ofGrant_56 : decode cX5_ofGrant 56 = .ok (.ireturn, 1) := by decide +kernel
theorem dX5_ofGrant_57 : decode cX5_ofGrant 57 = .ok (.aload_n 3, 1) := by decide +kernel
theorem dX5_ofGrant_58 : decode cX5_ofGrant 58 = .ok (.getfield 174, 3) := by decide +kernel
theorem dX5_ofGrant_61 : decode cX5_ofGrant 61 = .ok (.ireturn, 1) := by decide +kernel
theorem dX5_ofGrant_62 : decode cX5_ofGrant 62 = .ok (.aload_n 3, 1) := by decide +kernel
theorem dX5_ofGrant_63 : decode cX5_ofGrant 63 = .ok (.getfield 177, 3) := by decide +kernel
theorem dX5_ofGrant_66 : decode cX5_ofGrant 66 = .ok (.ireturn, 1) := by decide +kernel
theorem dX5_ofGrant_67 : decode cX5_ofGrant 67 = .ok (.aload_n 3, 1) := by decide +kernel
theorem dX5_ofGrant_68 : decode cX5_ofGrant 68 = .ok (.getfield 182, 3) := by decide +kernel
theorem dX5_ofGrant_71 : decode cX5_ofGrant 71 = .ok (.getfield 271, 3) := by decide +kernel
theorem dX5_ofGrant_74 : decode cX5_ofGrant 74 = .ok (.ireturn, 1) := by decide +kernel
theorem dX5_ofGrant_75 : decode cX5_ofGrant 75 = .ok (.aload_n 3, 1) := by decide +kernel
theorem dX5_ofGrant_76 : decode cX5_ofGrant 76 = .ok (.getfield 275, 3) := by decide +kernel
theorem dX5_ofGrant_79 : decode cX5_ofGrant 79 = .ok (.getfield 279, 3) := by decide +kernel
theorem dX5_ofGrant_82 : decode cX5_ofGrant 82 = .ok (.ireturn, 1) := by decide +kernel
theorem dX5_ofGrant_83 : decode cX5_ofGrant 83 = .ok (.aload_n 3, 1) := by decide +kernel
theorem dX5_ofGrant_84 : decode cX5_ofGrant 84 = .ok (.getfield 280, 3) := by decide +kernel
theorem dX5_ofGrant_87 : decode cX5_ofGrant 87 = .ok (.invokestatic 268, 3) := by decide +kernel
theorem dX5_ofGrant_90 : decode cX5_ofGrant 90 = .ok (.ireturn, 1) := by decide +kernel
theorem dX5_ofGrant_91 : decode cX5_ofGrant 91 = .ok (.aload_n 3, 1) := by decide +kernel
theorem dX5_ofGrant_92 : decode cX5_ofGrant 92 = .ok (.getfield 283, 3) := by decide +kernel
theorem dX5_ofGrant_95 : decode cX5_ofGrant 95 = .ok (.ireturn, 1) := by decide +kernel
theorem dX5_ofGrant_96 : decode cX5_ofGrant 96 = .ok (.aload_n 3, 1) := by decide +kernel
theorem dX5_ofGrant_97 : decode cX5_ofGrant 97 = .ok (.getfield 195, 3) := by decide +kernel
theorem dX5_ofGrant_100 : decode cX5_ofGrant 100 = .ok (.ifCond .eq 7, 3) := by decide +kernel
theorem dX5_ofGrant_103 : decode cX5_ofGrant 103 = .ok (.iconst 1, 1) := by decide +kernel
theorem dX5_ofGrant_104 : decode cX5_ofGrant 104 = .ok (.goto 4, 3) := by decide +kernel
theorem dX5_ofGrant_107 : decode cX5_ofGrant 107 = .ok (.iconst 0, 1) := by decide +kernel
theorem dX5_ofGrant_108 : decode cX5_ofGrant 108 = .ok (.ireturn, 1) := by decide +kernel
theorem dX5_ofGrant_109 : decode cX5_ofGrant 109 = .ok (.new 236, 3) := by decide +kernel
theorem dX5_ofGrant_112 : decode cX5_ofGrant 112 = .ok (.dup, 1) := by decide +kernel
theorem dX5_ofGrant_113 : decode cX5_ofGrant 113 = .ok (.ldc 238, 2) := by decide +kernel
theorem dX5_ofGrant_115 : decode cX5_ofGrant 115 = .ok (.invokespecial 240, 3) := by decide +kernel
theorem dX5_ofGrant_118 : decode cX5_ofGrant 118 = .ok (.athrow, 1) := by decide +kernel
theorem dX5_owes_0 : decode cX5_owes 0 = .ok (.aload_n 0, 1) := by decide +kernel
theorem dX5_owes_1 : decode cX5_owes 1 = .ok (.iload_n 1, 1) := by decide +kernel
theorem dX5_owes_2 : decode cX5_owes 2 = .ok (.invokevirtual 151, 3) := by decide +kernel
theorem dX5_owes_5 : decode cX5_owes 5 = .ok (.getfield 210, 3) := by decide +kernel
theorem dX5_owes_8 : decode cX5_owes 8 = .ok (.ireturn, 1) := by decide +kernel
theorem dX5_reserve_0 : decode cX5_reserve 0 = .ok (.aload_n 0, 1) := by decide +kernel
theorem dX5_reserve_1 : decode cX5_reserve 1 = .ok (.getfield 28, 3) := by decide +kernel
theorem dX5_reserve_4 : decode cX5_reserve 4 = .ok (.ireturn, 1) := by decide +kernel
theorem dX5_ofSource_0 : decode cX5_ofSource 0 = .ok (.aload_n 0, 1) := by decide +kernel
theorem dX5_ofSource_1 : decode cX5_ofSource 1 = .ok (.iload_n 1, 1) := by decide +kernel
theorem dX5_ofSource_2 : decode cX5_ofSource 2 = .ok (.invokevirtual 50, 3) := by decide +kernel
theorem dX5_ofSource_5 : decode cX5_ofSource 5 = .ok (.astore_n 3, 1) := by decide +kernel
theorem dX5_ofSource_6 : decode cX5_ofSource 6 = .ok (.iload_n 2, 1) := by decide +kernel
theorem dX5_ofSource_7 : decode cX5_ofSource 7 = .ok (.tableswitch 41 0 2 #[25, 30, 35], 25) := by decide +kernel
theorem dX5_ofSource_32 : decode cX5_ofSource 32 = .ok (.aload_n 3, 1) := by decide +kernel
theorem dX5_ofSource_33 : decode cX5_ofSource 33 = .ok (.getfield 75, 3) := by decide +kernel
theorem dX5_ofSource_36 : decode cX5_ofSource 36 = .ok (.ireturn, 1) := by decide +kernel
theorem dX5_ofSource_37 : decode cX5_ofSource 37 = .ok (.aload_n 3, 1) := by decide +kernel
theorem dX5_ofSource_38 : decode cX5_ofSource 38 = .ok (.getfield 286, 3) := by decide +kernel
theorem dX5_ofSource_41 : decode cX5_ofSource 41 = .ok (.ireturn, 1) := by decide +kernel
theorem dX5_ofSource_42 : decode cX5_ofSource 42 = .ok (.aload_n 0, 1) := by decide +kernel
theorem dX5_ofSource_43 : decode cX5_ofSource 43 = .ok (.aload_n 3, 1) := by decide +kernel
theorem dX5_ofSource_44 : decode cX5_ofSource 44 = .ok (.invokevirtual 287, 3) := by decide +kernel
theorem dX5_ofSource_47 : decode cX5_ofSource 47 = .ok (.ireturn, 1) := by decide +kernel
theorem dX5_ofSource_48 : decode cX5_ofSource 48 = .ok (.new 236, 3) := by decide +kernel
theorem dX5_ofSource_51 : decode cX5_ofSource 51 = .ok (.dup, 1) := by decide +kernel
theorem dX5_ofSource_52 : decode cX5_ofSource 52 = .ok (.ldc 238, 2) := by decide +kernel
theorem dX5_ofSource_54 : decode cX5_ofSource 54 = .ok (.invokespecial 240, 3) := by decide +kernel
theorem dX5_ofSource_57 : decode cX5_ofSource 57 = .ok (.athrow, 1) := by decide +kernel
theorem dX5_sourceAt_0 : decode cX5_sourceAt 0 = .ok (.iload_n 1, 1) := by decide +kernel
theorem dX5_sourceAt_1 : decode cX5_sourceAt 1 = .ok (.ifCond .lt 14, 3) := by decide +kernel
theorem dX5_sourceAt_4 : decode cX5_sourceAt 4 = .ok (.iload_n 1, 1) := by decide +kernel
theorem dX5_sourceAt_5 : decode cX5_sourceAt 5 = .ok (.aload_n 0, 1) := by decide +kernel
theorem dX5_sourceAt_6 : decode cX5_sourceAt 6 = .ok (.getfield 10, 3) := by decide +kernel
theorem dX5_sourceAt_9 : decode cX5_sourceAt 9 = .ok (.invokevirtual 59, 3) := by decide +kernel
theorem dX5_sourceAt_12 : decode cX5_sourceAt 12 = .ok (.if_icmp .lt 14, 3) := by decide +kernel
theorem dX5_sourceAt_15 : decode cX5_sourceAt 15 = .ok (.new 236, 3) := by decide +kernel
theorem dX5_sourceAt_18 : decode cX5_sourceAt 18 = .ok (.dup, 1) := by decide +kernel
theorem dX5_sourceAt_19 : decode cX5_sourceAt 19 = .ok (.ldc_w 291, 3) := by decide +kernel
theorem dX5_sourceAt_22 : decode cX5_sourceAt 22 = .ok (.invokespecial 240, 3) := by decide +kernel
theorem dX5_sourceAt_25 : decode cX5_sourceAt 25 = .ok (.athrow, 1) := by decide +kernel
theorem dX5_sourceAt_26 : decode cX5_sourceAt 26 = .ok (.aload_n 0, 1) := by decide +kernel
theorem dX5_sourceAt_27 : decode cX5_sourceAt 27 = .ok (.getfield 10, 3) := by decide +kernel
theorem dX5_sourceAt_30 : decode cX5_sourceAt 30 = .ok (.iload_n 1, 1) := by decide +kernel
theorem dX5_sourceAt_31 : decode cX5_sourceAt 31 = .ok (.invokevirtual 241, 3) := by decide +kernel
theorem dX5_sourceAt_34 : decode cX5_sourceAt 34 = .ok (.checkcast 38, 3) := by decide +kernel
theorem dX5_sourceAt_37 : decode cX5_sourceAt 37 = .ok (.areturn, 1) := by decide +kernel
theorem dX5_receiverAt_0 : decode cX5_receiverAt 0 = .ok (.iload_n 1, 1) := by decide +kernel
theorem dX5_receiverAt_1 : decode cX5_receiverAt 1 = .ok (.ifCond .lt 14, 3) := by decide +kernel
theorem dX5_receiverAt_4 : decode cX5_receiverAt 4 = .ok (.iload_n 1, 1) := by decide +kernel
theorem dX5_receiverAt_5 : decode cX5_receiverAt 5 = .ok (.aload_n 0, 1) := by decide +kernel
theorem dX5_receiverAt_6 : decode cX5_receiverAt 6 = .ok (.getfield 16, 3) := by decide +kernel
theorem dX5_receiverAt_9 : decode cX5_receiverAt 9 = .ok (.invokevirtual 59, 3) := by decide +kernel
theorem dX5_receiverAt_12 : decode cX5_receiverAt 12 = .ok (.if_icmp .lt 14, 3) := by decide +kernel
theorem dX5_receiverAt_15 : decode cX5_receiverAt 15 = .ok (.new 106, 3) := by decide +kernel
theorem dX5_receiverAt_18 : decode cX5_receiverAt 18 = .ok (.dup, 1) := by decide +kernel
theorem dX5_receiverAt_19 : decode cX5_receiverAt 19 = .ok (.ldc_w 293, 3) := by decide +kernel
theorem dX5_receiverAt_22 : decode cX5_receiverAt 22 = .ok (.invokespecial 110, 3) := by decide +kernel
theorem dX5_receiverAt_25 : decode cX5_receiverAt 25 = .ok (.athrow, 1) := by decide +kernel
theorem dX5_receiverAt_26 : decode cX5_receiverAt 26 = .ok (.aload_n 0, 1) := by decide +kernel
theorem dX5_receiverAt_27 : decode cX5_receiverAt 27 = .ok (.getfield 16, 3) := by decide +kernel
theorem dX5_receiverAt_30 : decode cX5_receiverAt 30 = .ok (.iload_n 1, 1) := by decide +kernel
theorem dX5_receiverAt_31 : decode cX5_receiverAt 31 = .ok (.invokevirtual 241, 3) := by decide +kernel
theorem dX5_receiverAt_34 : decode cX5_receiverAt 34 = .ok (.checkcast 47, 3) := by decide +kernel
theorem dX5_receiverAt_37 : decode cX5_receiverAt 37 = .ok (.areturn, 1) := by decide +kernel
theorem dX5_lineAt_0 : decode cX5_lineAt 0 = .ok (.iload_n 1, 1) := by decide +kernel
theorem dX5_lineAt_1 : decode cX5_lineAt 1 = .ok (.ifCond .lt 14, 3) := by decide +kernel
theorem dX5_lineAt_4 : decode cX5_lineAt 4 = .ok (.iload_n 1, 1) := by decide +kernel
theorem dX5_lineAt_5 : decode cX5_lineAt 5 = .ok (.aload_n 0, 1) := by decide +kernel
theorem dX5_lineAt_6 : decode cX5_lineAt 6 = .ok (.getfield 19, 3) := by decide +kernel
theorem dX5_lineAt_9 : decode cX5_lineAt 9 = .ok (.invokevirtual 59, 3) := by decide +kernel
theorem dX5_lineAt_12 : decode cX5_lineAt 12 = .ok (.if_icmp .lt 14, 3) := by decide +kernel
theorem dX5_lineAt_15 : decode cX5_lineAt 15 = .ok (.new 106, 3) := by decide +kernel
theorem dX5_lineAt_18 : decode cX5_lineAt 18 = .ok (.dup, 1) := by decide +kernel
theorem dX5_lineAt_19 : decode cX5_lineAt 19 = .ok (.ldc_w 295, 3) := by decide +kernel
theorem dX5_lineAt_22 : decode cX5_lineAt 22 = .ok (.invokespecial 110, 3) := by decide +kernel
theorem dX5_lineAt_25 : decode cX5_lineAt 25 = .ok (.athrow, 1) := by decide +kernel
theorem dX5_lineAt_26 : decode cX5_lineAt 26 = .ok (.aload_n 0, 1) := by decide +kernel
theorem dX5_lineAt_27 : decode cX5_lineAt 27 = .ok (.getfield 19, 3) := by decide +kernel
theorem dX5_lineAt_30 : decode cX5_lineAt 30 = .ok (.iload_n 1, 1) := by decide +kernel
theorem dX5_lineAt_31 : decode cX5_lineAt 31 = .ok (.invokevirtual 241, 3) := by decide +kernel
theorem dX5_lineAt_34 : decode cX5_lineAt 34 = .ok (.checkcast 70, 3) := by decide +kernel
theorem dX5_lineAt_37 : decode cX5_lineAt 37 = .ok (.areturn, 1) := by decide +kernel
theorem dX5_amendmentAt_0 : decode cX5_amendmentAt 0 = .ok (.iload_n 1, 1) := by decide +kernel
theorem dX5_amendmentAt_1 : decode cX5_amendmentAt 1 = .ok (.ifCond .lt 14, 3) := by decide +kernel
theorem dX5_amendmentAt_4 : decode cX5_amendmentAt 4 = .ok (.iload_n 1, 1) := by decide +kernel
theorem dX5_amendmentAt_5 : decode cX5_amendmentAt 5 = .ok (.aload_n 0, 1) := by decide +kernel
theorem dX5_amendmentAt_6 : decode cX5_amendmentAt 6 = .ok (.getfield 22, 3) := by decide +kernel
theorem dX5_amendmentAt_9 : decode cX5_amendmentAt 9 = .ok (.invokevirtual 59, 3) := by decide +kernel
theorem dX5_amendmentAt_12 : decode cX5_amendmentAt 12 = .ok (.if_icmp .lt 14, 3) := by decide +kernel
theorem dX5_amendmentAt_15 : decode cX5_amendmentAt 15 = .ok (.new 106, 3) := by decide +kernel
theorem dX5_amendmentAt_18 : decode cX5_amendmentAt 18 = .ok (.dup, 1) := by decide +kernel
theorem dX5_amendmentAt_19 : decode cX5_amendmentAt 19 = .ok (.ldc_w 297, 3) := by decide +kernel
theorem dX5_amendmentAt_22 : decode cX5_amendmentAt 22 = .ok (.invokespecial 110, 3) := by decide +kernel
theorem dX5_amendmentAt_25 : decode cX5_amendmentAt 25 = .ok (.athrow, 1) := by decide +kernel
theorem dX5_amendmentAt_26 : decode cX5_amendmentAt 26 = .ok (.aload_n 0, 1) := by decide +kernel
theorem dX5_amendmentAt_27 : decode cX5_amendmentAt 27 = .ok (.getfield 22, 3) := by decide +kernel
theorem dX5_amendmentAt_30 : decode cX5_amendmentAt 30 = .ok (.iload_n 1, 1) := by decide +kernel
theorem dX5_amendmentAt_31 : decode cX5_amendmentAt 31 = .ok (.invokevirtual 241, 3) := by decide +kernel
theorem dX5_amendmentAt_34 : decode cX5_amendmentAt 34 = .ok (.checkcast 101, 3) := by decide +kernel
theorem dX5_amendmentAt_37 : decode cX5_amendmentAt 37 = .ok (.areturn, 1) := by decide +kernel
theorem dX5_grantAt_0 : decode cX5_grantAt 0 = .ok (.iload_n 1, 1) := by decide +kernel
theorem dX5_grantAt_1 : decode cX5_grantAt 1 = .ok (.ifCond .lt 14, 3) := by decide +kernel
theorem dX5_grantAt_4 : decode cX5_grantAt 4 = .ok (.iload_n 1, 1) := by decide +kernel
theorem dX5_grantAt_5 : decode cX5_grantAt 5 = .ok (.aload_n 0, 1) := by decide +kernel
theorem dX5_grantAt_6 : decode cX5_grantAt 6 = .ok (.getfield 25, 3) := by decide +kernel
theorem dX5_grantAt_9 : decode cX5_grantAt 9 = .ok (.invokevirtual 59, 3) := by decide +kernel
theorem dX5_grantAt_12 : decode cX5_grantAt 12 = .ok (.if_icmp .lt 14, 3) := by decide +kernel
theorem dX5_grantAt_15 : decode cX5_grantAt 15 = .ok (.new 106, 3) := by decide +kernel
theorem dX5_grantAt_18 : decode cX5_grantAt 18 = .ok (.dup, 1) := by decide +kernel
theorem dX5_grantAt_19 : decode cX5_grantAt 19 = .ok (.ldc_w 299, 3) := by decide +kernel
theorem dX5_grantAt_22 : decode cX5_grantAt 22 = .ok (.invokespecial 110, 3) := by decide +kernel
theorem dX5_grantAt_25 : decode cX5_grantAt 25 = .ok (.athrow, 1) := by decide +kernel
theorem dX5_grantAt_26 : decode cX5_grantAt 26 = .ok (.aload_n 0, 1) := by decide +kernel
theorem dX5_grantAt_27 : decode cX5_grantAt 27 = .ok (.getfield 25, 3) := by decide +kernel
theorem dX5_grantAt_30 : decode cX5_grantAt 30 = .ok (.iload_n 1, 1) := by decide +kernel
theorem dX5_grantAt_31 : decode cX5_grantAt 31 = .ok (.invokevirtual 241, 3) := by decide +kernel
theorem dX5_grantAt_34 : decode cX5_grantAt 34 = .ok (.checkcast 162, 3) := by decide +kernel
theorem dX5_grantAt_37 : decode cX5_grantAt 37 = .ok (.areturn, 1) := by decide +kernel
theorem dX5_numberOf_0 : decode cX5_numberOf 0 = .ok (.aload_n 0, 1) := by decide +kernel
theorem dX5_numberOf_1 : decode cX5_numberOf 1 = .ok (.ifnonnull 7, 3) := by decide +kernel
theorem dX5_numberOf_4 : decode cX5_numberOf 4 = .ok (.iconst (-1), 1) := by decide +kernel
theorem dX5_numberOf_5 : decode cX5_numberOf 5 = .ok (.goto 7, 3) := by decide +kernel
theorem dX5_numberOf_8 : decode cX5_numberOf 8 = .ok (.aload_n 0, 1) := by decide +kernel
theorem dX5_numberOf_9 : decode cX5_numberOf 9 = .ok (.getfield 301, 3) := by decide +kernel
theorem dX5_numberOf_12 : decode cX5_numberOf 12 = .ok (.ireturn, 1) := by decide +kernel
theorem dX5_needRange_0 : decode cX5_needRange 0 = .ok (.iload_n 0, 1) := by decide +kernel
theorem dX5_needRange_1 : decode cX5_needRange 1 = .ok (.iload_n 1, 1) := by decide +kernel
theorem dX5_needRange_2 : decode cX5_needRange 2 = .ok (.if_icmp .lt 8, 3) := by decide +kernel
theorem dX5_needRange_5 : decode cX5_needRange 5 = .ok (.iload_n 0, 1) := by decide +kernel
theorem dX5_needRange_6 : decode cX5_needRange 6 = .ok (.iload_n 2, 1) := by decide +kernel
theorem dX5_needRange_7 : decode cX5_needRange 7 = .ok (.if_icmp .le 14, 3) := by decide +kernel
theorem dX5_needRange_10 : decode cX5_needRange 10 = .ok (.new 236, 3) := by decide +kernel
theorem dX5_needRange_13 : decode cX5_needRange 13 = .ok (.dup, 1) := by decide +kernel
theorem dX5_needRange_14 : decode cX5_needRange 14 = .ok (.ldc_w 302, 3) := by decide +kernel
theorem dX5_needRange_17 : decode cX5_needRange 17 = .ok (.invokespecial 240, 3) := by decide +kernel
theorem dX5_needRange_20 : decode cX5_needRange 20 = .ok (.athrow, 1) := by decide +kernel
theorem dX5_needRange_21 : decode cX5_needRange 21 = .ok (.return_, 1) := by decide +kernel
theorem dX5_needMore_0 : decode cX5_needMore 0 = .ok (.iload_n 0, 1) := by decide +kernel
theorem dX5_needMore_1 : decode cX5_needMore 1 = .ok (.ldc_w 304, 3) := by decide +kernel
theorem dX5_needMore_4 : decode cX5_needMore 4 = .ok (.ldc 155, 2) := by decide +kernel
theorem dX5_needMore_6 : decode cX5_needMore 6 = .ok (.invokestatic 55, 3) := by decide +kernel
theorem dX5_needMore_9 : decode cX5_needMore 9 = .ok (.iload_n 0, 1) := by decide +kernel
theorem dX5_needMore_10 : decode cX5_needMore 10 = .ok (.ifCond .ne 14, 3) := by decide +kernel
theorem dX5_needMore_13 : decode cX5_needMore 13 = .ok (.new 236, 3) := by decide +kernel
theorem dX5_needMore_16 : decode cX5_needMore 16 = .ok (.dup, 1) := by decide +kernel
theorem dX5_needMore_17 : decode cX5_needMore 17 = .ok (.ldc_w 305, 3) := by decide +kernel
theorem dX5_needMore_20 : decode cX5_needMore 20 = .ok (.invokespecial 240, 3) := by decide +kernel
theorem dX5_needMore_23 : decode cX5_needMore 23 = .ok (.athrow, 1) := by decide +kernel
theorem dX5_needMore_24 : decode cX5_needMore 24 = .ok (.return_, 1) := by decide +kernel
theorem dX5_needRoomForAmendment_0 : decode cX5_needRoomForAmendment 0 = .ok (.aload_n 0, 1) := by decide +kernel
theorem dX5_needRoomForAmendment_1 : decode cX5_needRoomForAmendment 1 = .ok (.getfield 22, 3) := by decide +kernel
theorem dX5_needRoomForAmendment_4 : decode cX5_needRoomForAmendment 4 = .ok (.invokevirtual 59, 3) := by decide +kernel
theorem dX5_needRoomForAmendment_7 : decode cX5_needRoomForAmendment 7 = .ok (.bipush 40, 2) := by decide +kernel
theorem dX5_needRoomForAmendment_9 : decode cX5_needRoomForAmendment 9 = .ok (.if_icmp .lt 14, 3) := by decide +kernel
theorem dX5_needRoomForAmendment_12 : decode cX5_needRoomForAmendment 12 = .ok (.new 63, 3) := by decide +kernel
theorem dX5_needRoomForAmendment_15 : decode cX5_needRoomForAmendment 15 = .ok (.dup, 1) := by decide +kernel
theorem dX5_needRoomForAmendment_16 : decode cX5_needRoomForAmendment 16 = .ok (.ldc_w 307, 3) := by decide +kernel
theorem dX5_needRoomForAmendment_19 : decode cX5_needRoomForAmendment 19 = .ok (.invokespecial 67, 3) := by decide +kernel
theorem dX5_needRoomForAmendment_22 : decode cX5_needRoomForAmendment 22 = .ok (.athrow, 1) := by decide +kernel
theorem dX5_needRoomForAmendment_23 : decode cX5_needRoomForAmendment 23 = .ok (.return_, 1) := by decide +kernel
theorem dX5_needOpen_0 : decode cX5_needOpen 0 = .ok (.aload_n 0, 1) := by decide +kernel
theorem dX5_needOpen_1 : decode cX5_needOpen 1 = .ok (.getfield 141, 3) := by decide +kernel
theorem dX5_needOpen_4 : decode cX5_needOpen 4 = .ok (.ifCond .eq 14, 3) := by decide +kernel
theorem dX5_needOpen_7 : decode cX5_needOpen 7 = .ok (.new 63, 3) := by decide +kernel
theorem dX5_needOpen_10 : decode cX5_needOpen 10 = .ok (.dup, 1) := by decide +kernel
theorem dX5_needOpen_11 : decode cX5_needOpen 11 = .ok (.ldc_w 309, 3) := by decide +kernel
theorem dX5_needOpen_14 : decode cX5_needOpen 14 = .ok (.invokespecial 67, 3) := by decide +kernel
theorem dX5_needOpen_17 : decode cX5_needOpen 17 = .ok (.athrow, 1) := by decide +kernel
theorem dX5_needOpen_18 : decode cX5_needOpen 18 = .ok (.return_, 1) := by decide +kernel
theorem dX5_needPassed_0 : decode cX5_needPassed 0 = .ok (.aload_n 0, 1) := by decide +kernel
theorem dX5_needPassed_1 : decode cX5_needPassed 1 = .ok (.getfield 141, 3) := by decide +kernel
theorem dX5_needPassed_4 : decode cX5_needPassed 4 = .ok (.iconst 1, 1) := by decide +kernel
theorem dX5_needPassed_5 : decode cX5_needPassed 5 = .ok (.if_icmp .eq 14, 3) := by decide +kernel
theorem dX5_needPassed_8 : decode cX5_needPassed 8 = .ok (.new 63, 3) := by decide +kernel
theorem dX5_needPassed_11 : decode cX5_needPassed 11 = .ok (.dup, 1) := by decide +kernel
theorem dX5_needPassed_12 : decode cX5_needPassed 12 = .ok (.ldc_w 311, 3) := by decide +kernel
theorem dX5_needPassed_15 : decode cX5_needPassed 15 = .ok (.invokespecial 67, 3) := by decide +kernel
theorem dX5_needPassed_18 : decode cX5_needPassed 18 = .ok (.athrow, 1) := by decide +kernel
theorem dX5_needPassed_19 : decode cX5_needPassed 19 = .ok (.return_, 1) := by decide +kernel
theorem dX5_needNotWithdrawn_0 : decode cX5_needNotWithdrawn 0 = .ok (.aload_n 0, 1) := by decide +kernel
theorem dX5_needNotWithdrawn_1 : decode cX5_needNotWithdrawn 1 = .ok (.getfield 171, 3) := by decide +kernel
theorem dX5_needNotWithdrawn_4 : decode cX5_needNotWithdrawn 4 = .ok (.iconst 2, 1) := by decide +kernel
theorem dX5_needNotWithdrawn_5 : decode cX5_needNotWithdrawn 5 = .ok (.if_icmp .ne 14, 3) := by decide +kernel
theorem dX5_needNotWithdrawn_8 : decode cX5_needNotWithdrawn 8 = .ok (.new 63, 3) := by decide +kernel
theorem dX5_needNotWithdrawn_11 : decode cX5_needNotWithdrawn 11 = .ok (.dup, 1) := by decide +kernel
theorem dX5_needNotWithdrawn_12 : decode cX5_needNotWithdrawn 12 = .ok (.ldc_w 313, 3) := by decide +kernel
theorem dX5_needNotWithdrawn_15 : decode cX5_needNotWithdrawn 15 = .ok (.invokespecial 67, 3) := by decide +kernel
theorem dX5_needNotWithdrawn_18 : decode cX5_needNotWithdrawn 18 = .ok (.athrow, 1) := by decide +kernel
theorem dX5_needNotWithdrawn_19 : decode cX5_needNotWithdrawn 19 = .ok (.return_, 1) := by decide +kernel
theorem dX5_needFree_0 : decode cX5_needFree 0 = .ok (.aload_n 0, 1) := by decide +kernel
theorem dX5_needFree_1 : decode cX5_needFree 1 = .ok (.aload_n 1, 1) := by decide +kernel
theorem dX5_needFree_2 : decode cX5_needFree 2 = .ok (.invokevirtual 201, 3) := by decide +kernel
theorem dX5_needFree_5 : decode cX5_needFree 5 = .ok (.iload_n 2, 1) := by decide +kernel
theorem dX5_needFree_6 : decode cX5_needFree 6 = .ok (.if_icmp .ge 14, 3) := by decide +kernel
theorem dX5_needFree_9 : decode cX5_needFree 9 = .ok (.new 63, 3) := by decide +kernel
theorem dX5_needFree_12 : decode cX5_needFree 12 = .ok (.dup, 1) := by decide +kernel
theorem dX5_needFree_13 : decode cX5_needFree 13 = .ok (.ldc_w 315, 3) := by decide +kernel
theorem dX5_needFree_16 : decode cX5_needFree 16 = .ok (.invokespecial 67, 3) := by decide +kernel
theorem dX5_needFree_19 : decode cX5_needFree 19 = .ok (.athrow, 1) := by decide +kernel
theorem dX5_needFree_20 : decode cX5_needFree 20 = .ok (.return_, 1) := by decide +kernel
theorem dX5_payFrom_0 : decode cX5_payFrom 0 = .ok (.aload_n 0, 1) := by decide +kernel
theorem dX5_payFrom_1 : decode cX5_payFrom 1 = .ok (.invokevirtual 317, 3) := by decide +kernel
theorem dX5_payFrom_4 : decode cX5_payFrom 4 = .ok (.iload_n 1, 1) := by decide +kernel
theorem dX5_payFrom_5 : decode cX5_payFrom 5 = .ok (.if_icmp .ge 14, 3) := by decide +kernel
theorem dX5_payFrom_8 : decode cX5_payFrom 8 = .ok (.new 63, 3) := by decide +kernel
theorem dX5_payFrom_11 : decode cX5_payFrom 11 = .ok (.dup, 1) := by decide +kernel
theorem dX5_payFrom_12 : decode cX5_payFrom 12 = .ok (.ldc_w 320, 3) := by decide +kernel
theorem dX5_payFrom_15 : decode cX5_payFrom 15 = .ok (.invokespecial 67, 3) := by decide +kernel
theorem dX5_payFrom_18 : decode cX5_payFrom 18 = .ok (.athrow, 1) := by decide +kernel
theorem dX5_payFrom_19 : decode cX5_payFrom 19 = .ok (.aload_n 0, 1) := by decide +kernel
theorem dX5_payFrom_20 : decode cX5_payFrom 20 = .ok (.dup, 1) := by decide +kernel
theorem dX5_payFrom_21 : decode cX5_payFrom 21 = .ok (.getfield 286, 3) := by decide +kernel
theorem dX5_payFrom_24 : decode cX5_payFrom 24 = .ok (.iload_n 1, 1) := by decide +kernel
theorem dX5_payFrom_25 : decode cX5_payFrom 25 = .ok (.iadd, 1) := by decide +kernel
theorem dX5_payFrom_26 : decode cX5_payFrom 26 = .ok (.putfield 286, 3) := by decide +kernel
theorem dX5_payFrom_29 : decode cX5_payFrom 29 = .ok (.return_, 1) := by decide +kernel
theorem dX5_addAmendment_0 : decode cX5_addAmendment 0 = .ok (.aload_n 0, 1) := by decide +kernel
theorem dX5_addAmendment_1 : decode cX5_addAmendment 1 = .ok (.getfield 22, 3) := by decide +kernel
theorem dX5_addAmendment_4 : decode cX5_addAmendment 4 = .ok (.invokevirtual 59, 3) := by decide +kernel
theorem dX5_addAmendment_7 : decode cX5_addAmendment 7 = .ok (.istore 4, 2) := by decide +kernel
theorem dX5_addAmendment_9 : decode cX5_addAmendment 9 = .ok (.aload_n 0, 1) := by decide +kernel
theorem dX5_addAmendment_10 : decode cX5_addAmendment 10 = .ok (.getfield 22, 3) := by decide +kernel
theorem dX5_addAmendment_13 : decode cX5_addAmendment 13 = .ok (.new 101, 3) := by decide +kernel
theorem dX5_addAmendment_16 : decode cX5_addAmendment 16 = .ok (.dup, 1) := by decide +kernel
theorem dX5_addAmendment_17 : decode cX5_addAmendment 17 = .ok (.iload 4, 2) := by decide +kernel
theorem dX5_addAmendment_19 : decode cX5_addAmendment 19 = .ok (.aload_n 1, 1) := by decide +kernel
theorem dX5_addAmendment_20 : decode cX5_addAmendment 20 = .ok (.aload_n 2, 1) := by decide +kernel
theorem dX5_addAmendment_21 : decode cX5_addAmendment 21 = .ok (.iload_n 3, 1) := by decide +kernel
theorem dX5_addAmendment_22 : decode cX5_addAmendment 22 = .ok (.invokespecial 322, 3) := by decide +kernel
theorem dX5_addAmendment_25 : decode cX5_addAmendment 25 = .ok (.invokevirtual 43, 3) := by decide +kernel
theorem dX5_addAmendment_28 : decode cX5_addAmendment 28 = .ok (.pop, 1) := by decide +kernel
theorem dX5_addAmendment_29 : decode cX5_addAmendment 29 = .ok (.iload 4, 2) := by decide +kernel
theorem dX5_addAmendment_31 : decode cX5_addAmendment 31 = .ok (.ireturn, 1) := by decide +kernel
theorem dX5_countOn_0 : decode cX5_countOn 0 = .ok (.iconst 0, 1) := by decide +kernel
theorem dX5_countOn_1 : decode cX5_countOn 1 = .ok (.istore_n 2, 1) := by decide +kernel
theorem dX5_countOn_2 : decode cX5_countOn 2 = .ok (.iconst 0, 1) := by decide +kernel
theorem dX5_countOn_3 : decode cX5_countOn 3 = .ok (.istore_n 3, 1) := by decide +kernel
theorem dX5_countOn_4 : decode cX5_countOn 4 = .ok (.iload_n 3, 1) := by decide +kernel
theorem dX5_countOn_5 : decode cX5_countOn 5 = .ok (.aload_n 0, 1) := by decide +kernel
theorem dX5_countOn_6 : decode cX5_countOn 6 = .ok (.getfield 22, 3) := by decide +kernel
theorem dX5_countOn_9 : decode cX5_countOn 9 = .ok (.invokevirtual 59, 3) := by decide +kernel
theorem dX5_countOn_12 : decode cX5_countOn 12 = .ok (.if_icmp .ge 30, 3) := by decide +kernel
theorem dX5_countOn_15 : decode cX5_countOn 15 = .ok (.aload_n 0, 1) := by decide +kernel
theorem dX5_countOn_16 : decode cX5_countOn 16 = .ok (.getfield 22, 3) := by decide +kernel
theorem dX5_countOn_19 : decode cX5_countOn 19 = .ok (.iload_n 3, 1) := by decide +kernel
theorem dX5_countOn_20 : decode cX5_countOn 20 = .ok (.invokevirtual 241, 3) := by decide +kernel
theorem dX5_countOn_23 : decode cX5_countOn 23 = .ok (.checkcast 101, 3) := by decide +kernel
theorem dX5_countOn_26 : decode cX5_countOn 26 = .ok (.getfield 264, 3) := by decide +kernel
theorem dX5_countOn_29 : decode cX5_countOn 29 = .ok (.aload_n 1, 1) := by decide +kernel
theorem dX5_countOn_30 : decode cX5_countOn 30 = .ok (.if_acmp .ne 6, 3) := by decide +kernel
theorem dX5_countOn_33 : decode cX5_countOn 33 = .ok (.iinc 2 1, 3) := by decide +kernel
theorem dX5_countOn_36 : decode cX5_countOn 36 = .ok (.iinc 3 1, 3) := by decide +kernel
theorem dX5_countOn_39 : decode cX5_countOn 39 = .ok (.goto (-35), 3) := by decide +kernel
theorem dX5_countOn_42 : decode cX5_countOn 42 = .ok (.iload_n 2, 1) := by decide +kernel
theorem dX5_countOn_43 : decode cX5_countOn 43 = .ok (.ireturn, 1) := by decide +kernel
theorem dX5_isOneOpenOn_0 : decode cX5_isOneOpenOn 0 = .ok (.iconst 0, 1) := by decide +kernel
theorem dX5_isOneOpenOn_1 : decode cX5_isOneOpenOn 1 = .ok (.istore_n 2, 1) := by decide +kernel
theorem dX5_isOneOpenOn_2 : decode cX5_isOneOpenOn 2 = .ok (.iload_n 2, 1) := by decide +kernel
theorem dX5_isOneOpenOn_3 : decode cX5_isOneOpenOn 3 = .ok (.aload_n 0, 1) := by decide +kernel
theorem dX5_isOneOpenOn_4 : decode cX5_isOneOpenOn 4 = .ok (.getfield 22, 3) := by decide +kernel
theorem dX5_isOneOpenOn_7 : decode cX5_isOneOpenOn 7 = .ok (.invokevirtual 59, 3) := by decide +kernel
theorem dX5_isOneOpenOn_10 : decode cX5_isOneOpenOn 10 = .ok (.if_icmp .ge 38, 3) := by decide +kernel
theorem dX5_isOneOpenOn_13 : decode cX5_isOneOpenOn 13 = .ok (.aload_n 0, 1) := by decide +kernel
theorem dX5_isOneOpenOn_14 : decode cX5_isOneOpenOn 14 = .ok (.getfield 22, 3) := by decide +kernel
theorem dX5_isOneOpenOn_17 : decode cX5_isOneOpenOn 17 = .ok (.iload_n 2, 1) := by decide +kernel
theorem dX5_isOneOpenOn_18 : decode cX5_isOneOpenOn 18 = .ok (.invokevirtual 241, 3) := by decide +kernel
theorem dX5_isOneOpenOn_21 : decode cX5_isOneOpenOn 21 = .ok (.checkcast 101, 3) := by decide +kernel
theorem dX5_isOneOpenOn_24 : decode cX5_isOneOpenOn 24 = .ok (.astore_n 3, 1) := by decide +kernel
theorem dX5_isOneOpenOn_25 : decode cX5_isOneOpenOn 25 = .ok (.aload_n 3, 1) := by decide +kernel
theorem dX5_isOneOpenOn_26 : decode cX5_isOneOpenOn 26 = .ok (.getfield 264, 3) := by decide +kernel
theorem dX5_isOneOpenOn_29 : decode cX5_isOneOpenOn 29 = .ok (.aload_n 1, 1) := by decide +kernel
theorem dX5_isOneOpenOn_30 : decode cX5_isOneOpenOn 30 = .ok (.if_acmp .ne 12, 3) := by decide +kernel
theorem dX5_isOneOpenOn_33 : decode cX5_isOneOpenOn 33 = .ok (.aload_n 3, 1) := by decide +kernel
theorem dX5_isOneOpenOn_34 : decode cX5_isOneOpenOn 34 = .ok (.getfield 141, 3) := by decide +kernel
theorem dX5_isOneOpenOn_37 : decode cX5_isOneOpenOn 37 = .ok (.ifCond .ne 5, 3) := by decide +kernel
theorem dX5_isOneOpenOn_40 : decode cX5_isOneOpenOn 40 = .ok (.iconst 1, 1) := by decide +kernel
theorem dX5_isOneOpenOn_41 : decode cX5_isOneOpenOn 41 = .ok (.ireturn, 1) := by decide +kernel
theorem dX5_isOneOpenOn_42 : decode cX5_isOneOpenOn 42 = .ok (.iinc 2 1, 3) := by decide +kernel
theorem dX5_isOneOpenOn_45 : decode cX5_isOneOpenOn 45 = .ok (.goto (-43), 3) := by decide +kernel
theorem dX5_isOneOpenOn_48 : decode cX5_isOneOpenOn 48 = .ok (.iconst 0, 1) := by decide +kernel
theorem dX5_isOneOpenOn_49 : decode cX5_isOneOpenOn 49 = .ok (.ireturn, 1) := by decide +kernel
theorem dX5_makePassed_0 : decode cX5_makePassed 0 = .ok (.aload_n 1, 1) := by decide +kernel
theorem dX5_makePassed_1 : decode cX5_makePassed 1 = .ok (.iconst 1, 1) := by decide +kernel
theorem dX5_makePassed_2 : decode cX5_makePassed 2 = .ok (.putfield 141, 3) := by decide +kernel
theorem dX5_makePassed_5 : decode cX5_makePassed 5 = .ok (.aload_n 0, 1) := by decide +kernel
theorem dX5_makePassed_6 : decode cX5_makePassed 6 = .ok (.invokevirtual 325, 3) := by decide +kernel
theorem dX5_makePassed_9 : decode cX5_makePassed 9 = .ok (.aload_n 1, 1) := by decide +kernel
theorem dX5_makePassed_10 : decode cX5_makePassed 10 = .ok (.getfield 264, 3) := by decide +kernel
theorem dX5_makePassed_13 : decode cX5_makePassed 13 = .ok (.ifnonnull 12, 3) := by decide +kernel
theorem dX5_makePassed_16 : decode cX5_makePassed 16 = .ok (.aload_n 0, 1) := by decide +kernel
theorem dX5_makePassed_17 : decode cX5_makePassed 17 = .ok (.aload_n 1, 1) := by decide +kernel
theorem dX5_makePassed_18 : decode cX5_makePassed 18 = .ok (.getfield 100, 3) := by decide +kernel
theorem dX5_makePassed_21 : decode cX5_makePassed 21 = .ok (.invokevirtual 328, 3) := by decide +kernel
theorem dX5_makePassed_24 : decode cX5_makePassed 24 = .ok (.pop, 1) := by decide +kernel
theorem dX5_makePassed_25 : decode cX5_makePassed 25 = .ok (.return_, 1) := by decide +kernel
theorem dX5_makeFallen_0 : decode cX5_makeFallen 0 = .ok (.aload_n 1, 1) := by decide +kernel
theorem dX5_makeFallen_1 : decode cX5_makeFallen 1 = .ok (.iconst 2, 1) := by decide +kernel
theorem dX5_makeFallen_2 : decode cX5_makeFallen 2 = .ok (.putfield 141, 3) := by decide +kernel
theorem dX5_makeFallen_5 : decode cX5_makeFallen 5 = .ok (.aload_n 0, 1) := by decide +kernel
theorem dX5_makeFallen_6 : decode cX5_makeFallen 6 = .ok (.invokevirtual 331, 3) := by decide +kernel
theorem dX5_makeFallen_9 : decode cX5_makeFallen 9 = .ok (.aload_n 0, 1) := by decide +kernel
theorem dX5_makeFallen_10 : decode cX5_makeFallen 10 = .ok (.invokevirtual 325, 3) := by decide +kernel
theorem dX5_makeFallen_13 : decode cX5_makeFallen 13 = .ok (.aload_n 0, 1) := by decide +kernel
theorem dX5_makeFallen_14 : decode cX5_makeFallen 14 = .ok (.invokevirtual 334, 3) := by decide +kernel
theorem dX5_makeFallen_17 : decode cX5_makeFallen 17 = .ok (.istore_n 2, 1) := by decide +kernel
theorem dX5_makeFallen_18 : decode cX5_makeFallen 18 = .ok (.iload_n 2, 1) := by decide +kernel
theorem dX5_makeFallen_19 : decode cX5_makeFallen 19 = .ok (.aload_n 0, 1) := by decide +kernel
theorem dX5_makeFallen_20 : decode cX5_makeFallen 20 = .ok (.aload_n 1, 1) := by decide +kernel
theorem dX5_makeFallen_21 : decode cX5_makeFallen 21 = .ok (.getfield 100, 3) := by decide +kernel
theorem dX5_makeFallen_24 : decode cX5_makeFallen 24 = .ok (.invokevirtual 328, 3) := by decide +kernel
theorem dX5_makeFallen_27 : decode cX5_makeFallen 27 = .ok (.iadd, 1) := by decide +kernel
theorem dX5_makeFallen_28 : decode cX5_makeFallen 28 = .ok (.ireturn, 1) := by decide +kernel
theorem dX5_fellAllOnFallen_0 : decode cX5_fellAllOnFallen 0 = .ok (.iconst 0, 1) := by decide +kernel
theorem dX5_fellAllOnFallen_1 : decode cX5_fellAllOnFallen 1 = .ok (.istore_n 1, 1) := by decide +kernel
theorem dX5_fellAllOnFallen_2 : decode cX5_fellAllOnFallen 2 = .ok (.iload_n 1, 1) := by decide +kernel
theorem dX5_fellAllOnFallen_3 : decode cX5_fellAllOnFallen 3 = .ok (.aload_n 0, 1) := by decide +kernel
theorem dX5_fellAllOnFallen_4 : decode cX5_fellAllOnFallen 4 = .ok (.getfield 22, 3) := by decide +kernel
theorem dX5_fellAllOnFallen_7 : decode cX5_fellAllOnFallen 7 = .ok (.invokevirtual 59, 3) := by decide +kernel
theorem dX5_fellAllOnFallen_10 : decode cX5_fellAllOnFallen 10 = .ok (.if_icmp .ge 44, 3) := by decide +kernel
theorem dX5_fellAllOnFallen_13 : decode cX5_fellAllOnFallen 13 = .ok (.aload_n 0, 1) := by decide +kernel
theorem dX5_fellAllOnFallen_14 : decode cX5_fellAllOnFallen 14 = .ok (.getfield 22, 3) := by decide +kernel
theorem dX5_fellAllOnFallen_17 : decode cX5_fellAllOnFallen 17 = .ok (.iload_n 1, 1) := by decide +kernel
theorem dX5_fellAllOnFallen_18 : decode cX5_fellAllOnFallen 18 = .ok (.invokevirtual 241, 3) := by decide +kernel
theorem dX5_fellAllOnFallen_21 : decode cX5_fellAllOnFallen 21 = .ok (.checkcast 101, 3) := by decide +kernel
theorem dX5_fellAllOnFallen_24 : decode cX5_fellAllOnFallen 24 = .ok (.astore_n 2, 1) := by decide +kernel
theorem dX5_fellAllOnFallen_25 : decode cX5_fellAllOnFallen 25 = .ok (.aload_n 2, 1) := by decide +kernel
theorem dX5_fellAllOnFallen_26 : decode cX5_fellAllOnFallen 26 = .ok (.getfield 264, 3) := by decide +kernel
theorem dX5_fellAllOnFallen_29 : decode cX5_fellAllOnFallen 29 = .ok (.ifnull 19, 3) := by decide +kernel
theorem dX5_fellAllOnFallen_32 : decode cX5_fellAllOnFallen 32 = .ok (.aload_n 2, 1) := by decide +kernel
theorem dX5_fellAllOnFallen_33 : decode cX5_fellAllOnFallen 33 = .ok (.getfield 264, 3) := by decide +kernel
theorem dX5_fellAllOnFallen_36 : decode cX5_fellAllOnFallen 36 = .ok (.getfield 141, 3) := by decide +kernel
theorem dX5_fellAllOnFallen_39 : decode cX5_fellAllOnFallen 39 = .ok (.iconst 2, 1) := by decide +kernel
theorem dX5_fellAllOnFallen_40 : decode cX5_fellAllOnFallen 40 = .ok (.if_icmp .ne 8, 3) := by decide +kernel
theorem dX5_fellAllOnFallen_43 : decode cX5_fellAllOnFallen 43 = .ok (.aload_n 2, 1) := by decide +kernel
theorem dX5_fellAllOnFallen_44 : decode cX5_fellAllOnFallen 44 = .ok (.iconst 2, 1) := by decide +kernel
theorem dX5_fellAllOnFallen_45 : decode cX5_fellAllOnFallen 45 = .ok (.putfield 141, 3) := by decide +kernel
theorem dX5_fellAllOnFallen_48 : decode cX5_fellAllOnFallen 48 = .ok (.iinc 1 1, 3) := by decide +kernel
theorem dX5_fellAllOnFallen_51 : decode cX5_fellAllOnFallen 51 = .ok (.goto (-49), 3) := by decide +kernel
theorem dX5_fellAllOnFallen_54 : decode cX5_fellAllOnFallen 54 = .ok (.return_, 1) := by decide +kernel
theorem dX5_reckonWhatIsBrought_0 : decode cX5_reckonWhatIsBrought 0 = .ok (.iconst 0, 1) := by decide +kernel
theorem dX5_reckonWhatIsBrought_1 : decode cX5_reckonWhatIsBrought 1 = .ok (.istore_n 1, 1) := by decide +kernel
theorem dX5_reckonWhatIsBrought_2 : decode cX5_reckonWhatIsBrought 2 = .ok (.iload_n 1, 1) := by decide +kernel
theorem dX5_reckonWhatIsBrought_3 : decode cX5_reckonWhatIsBrought 3 = .ok (.aload_n 0, 1) := by decide +kernel
theorem dX5_reckonWhatIsBrought_4 : decode cX5_reckonWhatIsBrought 4 = .ok (.getfield 19, 3) := by decide +kernel
theorem dX5_reckonWhatIsBrought_7 : decode cX5_reckonWhatIsBrought 7 = .ok (.invokevirtual 59, 3) := by decide +kernel
theorem dX5_reckonWhatIsBrought_10 : decode cX5_reckonWhatIsBrought 10 = .ok (.if_icmp .ge 24, 3) := by decide +kernel
theorem dX5_reckonWhatIsBrought_13 : decode cX5_reckonWhatIsBrought 13 = .ok (.aload_n 0, 1) := by decide +kernel
theorem dX5_reckonWhatIsBrought_14 : decode cX5_reckonWhatIsBrought 14 = .ok (.getfield 19, 3) := by decide +kernel
theorem dX5_reckonWhatIsBrought_17 : decode cX5_reckonWhatIsBrought 17 = .ok (.iload_n 1, 1) := by decide +kernel
theorem dX5_reckonWhatIsBrought_18 : decode cX5_reckonWhatIsBrought 18 = .ok (.invokevirtual 241, 3) := by decide +kernel
theorem dX5_reckonWhatIsBrought_21 : decode cX5_reckonWhatIsBrought 21 = .ok (.checkcast 70, 3) := by decide +kernel
theorem dX5_reckonWhatIsBrought_24 : decode cX5_reckonWhatIsBrought 24 = .ok (.iconst 0, 1) := by decide +kernel
theorem dX5_reckonWhatIsBrought_25 : decode cX5_reckonWhatIsBrought 25 = .ok (.putfield 337, 3) := by decide +kernel
theorem dX5_reckonWhatIsBrought_28 : decode cX5_reckonWhatIsBrought 28 = .ok (.iinc 1 1, 3) := by decide +kernel
theorem dX5_reckonWhatIsBrought_31 : decode cX5_reckonWhatIsBrought 31 = .ok (.goto (-29), 3) := by decide +kernel
theorem dX5_reckonWhatIsBrought_34 : decode cX5_reckonWhatIsBrought 34 = .ok (.iconst 0, 1) := by decide +kernel
theorem dX5_reckonWhatIsBrought_35 : decode cX5_reckonWhatIsBrought 35 = .ok (.istore_n 1, 1) := by decide +kernel
theorem dX5_reckonWhatIsBrought_36 : decode cX5_reckonWhatIsBrought 36 = .ok (.iload_n 1, 1) := by decide +kernel
theorem dX5_reckonWhatIsBrought_37 : decode cX5_reckonWhatIsBrought 37 = .ok (.aload_n 0, 1) := by decide +kernel
theorem dX5_reckonWhatIsBrought_38 : decode cX5_reckonWhatIsBrought 38 = .ok (.getfield 22, 3) := by decide +kernel
theorem dX5_reckonWhatIsBrought_41 : decode cX5_reckonWhatIsBrought 41 = .ok (.invokevirtual 59, 3) := by decide +kernel
theorem dX5_reckonWhatIsBrought_44 : decode cX5_reckonWhatIsBrought 44 = .ok (.if_icmp .ge 29, 3) := by decide +kernel
theorem dX5_reckonWhatIsBrought_47 : decode cX5_reckonWhatIsBrought 47 = .ok (.aload_n 0, 1) := by decide +kernel
theorem dX5_reckonWhatIsBrought_48 : decode cX5_reckonWhatIsBrought 48 = .ok (.getfield 22, 3) := by decide +kernel
theorem dX5_reckonWhatIsBrought_51 : decode cX5_reckonWhatIsBrought 51 = .ok (.iload_n 1, 1) := by decide +kernel
theorem dX5_reckonWhatIsBrought_52 : decode cX5_reckonWhatIsBrought 52 = .ok (.invokevirtual 241, 3) := by decide +kernel
theorem dX5_reckonWhatIsBrought_55 : decode cX5_reckonWhatIsBrought 55 = .ok (.checkcast 101, 3) := by decide +kernel
theorem dX5_reckonWhatIsBrought_58 : decode cX5_reckonWhatIsBrought 58 = .ok (.astore_n 2, 1) := by decide +kernel
theorem dX5_reckonWhatIsBrought_59 : decode cX5_reckonWhatIsBrought 59 = .ok (.aload_n 2, 1) := by decide +kernel
theorem dX5_reckonWhatIsBrought_60 : decode cX5_reckonWhatIsBrought 60 = .ok (.aload_n 2, 1) := by decide +kernel
theorem dX5_reckonWhatIsBrought_61 : decode cX5_reckonWhatIsBrought 61 = .ok (.getfield 248, 3) := by decide +kernel
theorem dX5_reckonWhatIsBrought_64 : decode cX5_reckonWhatIsBrought 64 = .ok (.putfield 255, 3) := by decide +kernel
theorem dX5_reckonWhatIsBrought_67 : decode cX5_reckonWhatIsBrought 67 = .ok (.iinc 1 1, 3) := by decide +kernel
theorem dX5_reckonWhatIsBrought_70 : decode cX5_reckonWhatIsBrought 70 = .ok (.goto (-34), 3) := by decide +kernel
theorem dX5_reckonWhatIsBrought_73 : decode cX5_reckonWhatIsBrought 73 = .ok (.aload_n 0, 1) := by decide +kernel
theorem dX5_reckonWhatIsBrought_74 : decode cX5_reckonWhatIsBrought 74 = .ok (.getfield 22, 3) := by decide +kernel
theorem dX5_reckonWhatIsBrought_77 : decode cX5_reckonWhatIsBrought 77 = .ok (.invokevirtual 59, 3) := by decide +kernel
theorem dX5_reckonWhatIsBrought_80 : decode cX5_reckonWhatIsBrought 80 = .ok (.iconst 1, 1) := by decide +kernel
theorem dX5_reckonWhatIsBrought_81 : decode cX5_reckonWhatIsBrought 81 = .ok (.isub, 1) := by decide +kernel
theorem dX5_reckonWhatIsBrought_82 : decode cX5_reckonWhatIsBrought 82 = .ok (.istore_n 1, 1) := by decide +kernel
theorem dX5_reckonWhatIsBrought_83 : decode cX5_reckonWhatIsBrought 83 = .ok (.iload_n 1, 1) := by decide +kernel
theorem dX5_reckonWhatIsBrought_84 : decode cX5_reckonWhatIsBrought 84 = .ok (.ifCond .lt 23, 3) := by decide +kernel
theorem dX5_reckonWhatIsBrought_87 : decode cX5_reckonWhatIsBrought 87 = .ok (.aload_n 0, 1) := by decide +kernel
theorem dX5_reckonWhatIsBrought_88 : decode cX5_reckonWhatIsBrought 88 = .ok (.getfield 22, 3) := by decide +kernel
theorem dX5_reckonWhatIsBrought_91 : decode cX5_reckonWhatIsBrought 91 = .ok (.iload_n 1, 1) := by decide +kernel
theorem dX5_reckonWhatIsBrought_92 : decode cX5_reckonWhatIsBrought 92 = .ok (.invokevirtual 241, 3) := by decide +kernel
theorem dX5_reckonWhatIsBrought_95 : decode cX5_reckonWhatIsBrought 95 = .ok (.checkcast 101, 3) := by decide +kernel
theorem dX5_reckonWhatIsBrought_98 : decode cX5_reckonWhatIsBrought 98 = .ok (.invokestatic 340, 3) := by decide +kernel
theorem dX5_reckonWhatIsBrought_101 : decode cX5_reckonWhatIsBrought 101 = .ok (.iinc 1 (-1), 3) := by decide +kernel
theorem dX5_reckonWhatIsBrought_104 : decode cX5_reckonWhatIsBrought 104 = .ok (.goto (-21), 3) := by decide +kernel
theorem dX5_reckonWhatIsBrought_107 : decode cX5_reckonWhatIsBrought 107 = .ok (.return_, 1) := by decide +kernel
theorem dX5_passOn_0 : decode cX5_passOn 0 = .ok (.aload_n 0, 1) := by decide +kernel
theorem dX5_passOn_1 : decode cX5_passOn 1 = .ok (.getfield 141, 3) := by decide +kernel
theorem dX5_passOn_4 : decode cX5_passOn 4 = .ok (.iconst 1, 1) := by decide +kernel
theorem dX5_passOn_5 : decode cX5_passOn 5 = .ok (.if_icmp .eq 4, 3) := by decide +kernel
theorem dX5_passOn_8 : decode cX5_passOn 8 = .ok (.return_, 1) := by decide +kernel
theorem dX5_passOn_9 : decode cX5_passOn 9 = .ok (.aload_n 0, 1) := by decide +kernel
theorem dX5_passOn_10 : decode cX5_passOn 10 = .ok (.getfield 264, 3) := by decide +kernel
theorem dX5_passOn_13 : decode cX5_passOn 13 = .ok (.ifnonnull 22, 3) := by decide +kernel
theorem dX5_passOn_16 : decode cX5_passOn 16 = .ok (.aload_n 0, 1) := by decide +kernel
theorem dX5_passOn_17 : decode cX5_passOn 17 = .ok (.getfield 100, 3) := by decide +kernel
theorem dX5_passOn_20 : decode cX5_passOn 20 = .ok (.dup, 1) := by decide +kernel
theorem dX5_passOn_21 : decode cX5_passOn 21 = .ok (.getfield 337, 3) := by decide +kernel
theorem dX5_passOn_24 : decode cX5_passOn 24 = .ok (.aload_n 0, 1) := by decide +kernel
theorem dX5_passOn_25 : decode cX5_passOn 25 = .ok (.getfield 255, 3) := by decide +kernel
theorem dX5_passOn_28 : decode cX5_passOn 28 = .ok (.iadd, 1) := by decide +kernel
theorem dX5_passOn_29 : decode cX5_passOn 29 = .ok (.putfield 337, 3) := by decide +kernel
theorem dX5_passOn_32 : decode cX5_passOn 32 = .ok (.goto 19, 3) := by decide +kernel
theorem dX5_passOn_35 : decode cX5_passOn 35 = .ok (.aload_n 0, 1) := by decide +kernel
theorem dX5_passOn_36 : decode cX5_passOn 36 = .ok (.getfield 264, 3) := by decide +kernel
theorem dX5_passOn_39 : decode cX5_passOn 39 = .ok (.dup, 1) := by decide +kernel
theorem dX5_passOn_40 : decode cX5_passOn 40 = .ok (.getfield 255, 3) := by decide +kernel
theorem dX5_passOn_43 : decode cX5_passOn 43 = .ok (.aload_n 0, 1) := by decide +kernel
theorem dX5_passOn_44 : decode cX5_passOn 44 = .ok (.getfield 255, 3) := by decide +kernel
theorem dX5_passOn_47 : decode cX5_passOn 47 = .ok (.iadd, 1) := by decide +kernel
theorem dX5_passOn_48 : decode cX5_passOn 48 = .ok (.putfield 255, 3) := by decide +kernel
theorem dX5_passOn_51 : decode cX5_passOn 51 = .ok (.return_, 1) := by decide +kernel
theorem dX5_countsByVotes_0 : decode cX5_countsByVotes 0 = .ok (.aload_n 0, 1) := by decide +kernel
theorem dX5_countsByVotes_1 : decode cX5_countsByVotes 1 = .ok (.astore_n 1, 1) := by decide +kernel
theorem dX5_countsByVotes_2 : decode cX5_countsByVotes 2 = .ok (.aload_n 1, 1) := by decide +kernel
theorem dX5_countsByVotes_3 : decode cX5_countsByVotes 3 = .ok (.ifnull 34, 3) := by decide +kernel
theorem dX5_countsByVotes_6 : decode cX5_countsByVotes 6 = .ok (.aload_n 1, 1) := by decide +kernel
theorem dX5_countsByVotes_7 : decode cX5_countsByVotes 7 = .ok (.getfield 141, 3) := by decide +kernel
theorem dX5_countsByVotes_10 : decode cX5_countsByVotes 10 = .ok (.ifCond .eq 17, 3) := by decide +kernel
theorem dX5_countsByVotes_13 : decode cX5_countsByVotes 13 = .ok (.aload_n 1, 1) := by decide +kernel
theorem dX5_countsByVotes_14 : decode cX5_countsByVotes 14 = .ok (.getfield 147, 3) := by decide +kernel
theorem dX5_countsByVotes_17 : decode cX5_countsByVotes 17 = .ok (.ifCond .ne 10, 3) := by decide +kernel
theorem dX5_countsByVotes_20 : decode cX5_countsByVotes 20 = .ok (.aload_n 1, 1) := by decide +kernel
theorem dX5_countsByVotes_21 : decode cX5_countsByVotes 21 = .ok (.invokevirtual 124, 3) := by decide +kernel
theorem dX5_countsByVotes_24 : decode cX5_countsByVotes 24 = .ok (.ifCond .ne 5, 3) := by decide +kernel
theorem dX5_countsByVotes_27 : decode cX5_countsByVotes 27 = .ok (.iconst 0, 1) := by decide +kernel
theorem dX5_countsByVotes_28 : decode cX5_countsByVotes 28 = .ok (.ireturn, 1) := by decide +kernel
theorem dX5_countsByVotes_29 : decode cX5_countsByVotes 29 = .ok (.aload_n 1, 1) := by decide +kernel
theorem dX5_countsByVotes_30 : decode cX5_countsByVotes 30 = .ok (.getfield 264, 3) := by decide +kernel
theorem dX5_countsByVotes_33 : decode cX5_countsByVotes 33 = .ok (.astore_n 1, 1) := by decide +kernel
theorem dX5_countsByVotes_34 : decode cX5_countsByVotes 34 = .ok (.goto (-32), 3) := by decide +kernel
theorem dX5_countsByVotes_37 : decode cX5_countsByVotes 37 = .ok (.iconst 1, 1) := by decide +kernel
theorem dX5_countsByVotes_38 : decode cX5_countsByVotes 38 = .ok (.ireturn, 1) := by decide +kernel
theorem dX5_boundOf_0 : decode cX5_boundOf 0 = .ok (.aload_n 1, 1) := by decide +kernel
theorem dX5_boundOf_1 : decode cX5_boundOf 1 = .ok (.getfield 198, 3) := by decide +kernel
theorem dX5_boundOf_4 : decode cX5_boundOf 4 = .ok (.istore_n 2, 1) := by decide +kernel
theorem dX5_boundOf_5 : decode cX5_boundOf 5 = .ok (.iconst 0, 1) := by decide +kernel
theorem dX5_boundOf_6 : decode cX5_boundOf 6 = .ok (.istore_n 3, 1) := by decide +kernel
theorem dX5_boundOf_7 : decode cX5_boundOf 7 = .ok (.iload_n 3, 1) := by decide +kernel
theorem dX5_boundOf_8 : decode cX5_boundOf 8 = .ok (.aload_n 0, 1) := by decide +kernel
theorem dX5_boundOf_9 : decode cX5_boundOf 9 = .ok (.getfield 25, 3) := by decide +kernel
theorem dX5_boundOf_12 : decode cX5_boundOf 12 = .ok (.invokevirtual 59, 3) := by decide +kernel
theorem dX5_boundOf_15 : decode cX5_boundOf 15 = .ok (.if_icmp .ge 39, 3) := by decide +kernel
theorem dX5_boundOf_18 : decode cX5_boundOf 18 = .ok (.aload_n 0, 1) := by decide +kernel
theorem dX5_boundOf_19 : decode cX5_boundOf 19 = .ok (.getfield 25, 3) := by decide +kernel
theorem dX5_boundOf_22 : decode cX5_boundOf 22 = .ok (.iload_n 3, 1) := by decide +kernel
theorem dX5_boundOf_23 : decode cX5_boundOf 23 = .ok (.invokevirtual 241, 3) := by decide +kernel
theorem dX5_boundOf_26 : decode cX5_boundOf 26 = .ok (.checkcast 162, 3) := by decide +kernel
theorem dX5_boundOf_29 : decode cX5_boundOf 29 = .ok (.astore 4, 2) := by decide +kernel
theorem dX5_boundOf_31 : decode cX5_boundOf 31 = .ok (.aload 4, 2) := by decide +kernel
theorem dX5_boundOf_33 : decode cX5_boundOf 33 = .ok (.getfield 182, 3) := by decide +kernel
theorem dX5_boundOf_36 : decode cX5_boundOf 36 = .ok (.aload_n 1, 1) := by decide +kernel
theorem dX5_boundOf_37 : decode cX5_boundOf 37 = .ok (.if_acmp .ne 11, 3) := by decide +kernel
theorem dX5_boundOf_40 : decode cX5_boundOf 40 = .ok (.iload_n 2, 1) := by decide +kernel
theorem dX5_boundOf_41 : decode cX5_boundOf 41 = .ok (.aload 4, 2) := by decide +kernel
theorem dX5_boundOf_43 : decode cX5_boundOf 43 = .ok (.invokevirtual 343, 3) := by decide +kernel
theorem dX5_boundOf_46 : decode cX5_boundOf 46 = .ok (.iadd, 1) := by decide +kernel
theorem dX5_boundOf_47 : decode cX5_boundOf 47 = .ok (.istore_n 2, 1) := by decide +kernel
theorem dX5_boundOf_48 : decode cX5_boundOf 48 = .ok (.iinc 3 1, 3) := by decide +kernel
theorem dX5_boundOf_51 : decode cX5_boundOf 51 = .ok (.goto (-44), 3) := by decide +kernel
theorem dX5_boundOf_54 : decode cX5_boundOf 54 = .ok (.iload_n 2, 1) := by decide +kernel
theorem dX5_boundOf_55 : decode cX5_boundOf 55 = .ok (.ireturn, 1) := by decide +kernel
theorem dX5_freeOf_0 : decode cX5_freeOf 0 = .ok (.aload_n 1, 1) := by decide +kernel
theorem dX5_freeOf_1 : decode cX5_freeOf 1 = .ok (.invokevirtual 221, 3) := by decide +kernel
theorem dX5_freeOf_4 : decode cX5_freeOf 4 = .ok (.aload_n 0, 1) := by decide +kernel
theorem dX5_freeOf_5 : decode cX5_freeOf 5 = .ok (.aload_n 1, 1) := by decide +kernel
theorem dX5_freeOf_6 : decode cX5_freeOf 6 = .ok (.invokevirtual 224, 3) := by decide +kernel
theorem dX5_freeOf_9 : decode cX5_freeOf 9 = .ok (.isub, 1) := by decide +kernel
theorem dX5_freeOf_10 : decode cX5_freeOf 10 = .ok (.ireturn, 1) := by decide +kernel
theorem dX5_standsOfLinesFrom_0 : decode cX5_standsOfLinesFrom 0 = .ok (.iconst 0, 1) := by decide +kernel
theorem dX5_standsOfLinesFrom_1 : decode cX5_standsOfLinesFrom 1 = .ok (.istore_n 2, 1) := by decide +kernel
theorem dX5_standsOfLinesFrom_2 : decode cX5_standsOfLinesFrom 2 = .ok (.iconst 0, 1) := by decide +kernel
theorem dX5_standsOfLinesFrom_3 : decode cX5_standsOfLinesFrom 3 = .ok (.istore_n 3, 1) := by decide +kernel
theorem dX5_standsOfLinesFrom_4 : decode cX5_standsOfLinesFrom 4 = .ok (.iload_n 3, 1) := by decide +kernel
theorem dX5_standsOfLinesFrom_5 : decode cX5_standsOfLinesFrom 5 = .ok (.aload_n 0, 1) := by decide +kernel
theorem dX5_standsOfLinesFrom_6 : decode cX5_standsOfLinesFrom 6 = .ok (.getfield 19, 3) := by decide +kernel
theorem dX5_standsOfLinesFrom_9 : decode cX5_standsOfLinesFrom 9 = .ok (.invokevirtual 59, 3) := by decide +kernel
theorem dX5_standsOfLinesFrom_12 : decode cX5_standsOfLinesFrom 12 = .ok (.if_icmp .ge 39, 3) := by decide +kernel
theorem dX5_standsOfLinesFrom_15 : decode cX5_standsOfLinesFrom 15 = .ok (.aload_n 0, 1) := by decide +kernel
theorem dX5_standsOfLinesFrom_16 : decode cX5_standsOfLinesFrom 16 = .ok (.getfield 19, 3) := by decide +kernel
theorem dX5_standsOfLinesFrom_19 : decode cX5_standsOfLinesFrom 19 = .ok (.iload_n 3, 1) := by decide +kernel
theorem dX5_standsOfLinesFrom_20 : decode cX5_standsOfLinesFrom 20 = .ok (.invokevirtual 241, 3) := by decide +kernel
theorem dX5_standsOfLinesFrom_23 : decode cX5_standsOfLinesFrom 23 = .ok (.checkcast 70, 3) := by decide +kernel
theorem dX5_standsOfLinesFrom_26 : decode cX5_standsOfLinesFrom 26 = .ok (.astore 4, 2) := by decide +kernel
theorem dX5_standsOfLinesFrom_28 : decode cX5_standsOfLinesFrom 28 = .ok (.aload 4, 2) := by decide +kernel
theorem dX5_standsOfLinesFrom_30 : decode cX5_standsOfLinesFrom 30 = .ok (.getfield 183, 3) := by decide +kernel
theorem dX5_standsOfLinesFrom_33 : decode cX5_standsOfLinesFrom 33 = .ok (.aload_n 1, 1) := by decide +kernel
theorem dX5_standsOfLinesFrom_34 : decode cX5_standsOfLinesFrom 34 = .ok (.if_acmp .ne 11, 3) := by decide +kernel
theorem dX5_standsOfLinesFrom_37 : decode cX5_standsOfLinesFrom 37 = .ok (.iload_n 2, 1) := by decide +kernel
theorem dX5_standsOfLinesFrom_38 : decode cX5_standsOfLinesFrom 38 = .ok (.aload 4, 2) := by decide +kernel
theorem dX5_standsOfLinesFrom_40 : decode cX5_standsOfLinesFrom 40 = .ok (.invokevirtual 221, 3) := by decide +kernel
theorem dX5_standsOfLinesFrom_43 : decode cX5_standsOfLinesFrom 43 = .ok (.iadd, 1) := by decide +kernel
theorem dX5_standsOfLinesFrom_44 : decode cX5_standsOfLinesFrom 44 = .ok (.istore_n 2, 1) := by decide +kernel
theorem dX5_standsOfLinesFrom_45 : decode cX5_standsOfLinesFrom 45 = .ok (.iinc 3 1, 3) := by decide +kernel
theorem dX5_standsOfLinesFrom_48 : decode cX5_standsOfLinesFrom 48 = .ok (.goto (-44), 3) := by decide +kernel
theorem dX5_standsOfLinesFrom_51 : decode cX5_standsOfLinesFrom 51 = .ok (.iload_n 2, 1) := by decide +kernel
theorem dX5_standsOfLinesFrom_52 : decode cX5_standsOfLinesFrom 52 = .ok (.ireturn, 1) := by decide +kernel
theorem dX5_withdrawThoseOnFallen_0 : decode cX5_withdrawThoseOnFallen 0 = .ok (.iconst 0, 1) := by decide +kernel
theorem dX5_withdrawThoseOnFallen_1 : decode cX5_withdrawThoseOnFallen 1 = .ok (.istore_n 1, 1) := by decide +kernel
theorem dX5_withdrawThoseOnFallen_2 : decode cX5_withdrawThoseOnFallen 2 = .ok (.iconst 0, 1) := by decide +kernel
theorem dX5_withdrawThoseOnFallen_3 : decode cX5_withdrawThoseOnFallen 3 = .ok (.istore_n 2, 1) := by decide +kernel
theorem dX5_withdrawThoseOnFallen_4 : decode cX5_withdrawThoseOnFallen 4 = .ok (.iload_n 2, 1) := by decide +kernel
theorem dX5_withdrawThoseOnFallen_5 : decode cX5_withdrawThoseOnFallen 5 = .ok (.aload_n 0, 1) := by decide +kernel
theorem dX5_withdrawThoseOnFallen_6 : decode cX5_withdrawThoseOnFallen 6 = .ok (.getfield 25, 3) := by decide +kernel
theorem dX5_withdrawThoseOnFallen_9 : decode cX5_withdrawThoseOnFallen 9 = .ok (.invokevirtual 59, 3) := by decide +kernel
theorem dX5_withdrawThoseOnFallen_12 : decode cX5_withdrawThoseOnFallen 12 = .ok (.if_icmp .ge 42, 3) := by decide +kernel
theorem dX5_withdrawThoseOnFallen_15 : decode cX5_withdrawThoseOnFallen 15 = .ok (.aload_n 0, 1) := by decide +kernel
theorem dX5_withdrawThoseOnFallen_16 : decode cX5_withdrawThoseOnFallen 16 = .ok (.getfield 25, 3) := by decide +kernel
theorem dX5_withdrawThoseOnFallen_19 : decode cX5_withdrawThoseOnFallen 19 = .ok (.iload_n 2, 1) := by decide +kernel
theorem dX5_withdrawThoseOnFallen_20 : decode cX5_withdrawThoseOnFallen 20 = .ok (.invokevirtual 241, 3) := by decide +kernel
theorem dX5_withdrawThoseOnFallen_23 : decode cX5_withdrawThoseOnFallen 23 = .ok (.checkcast 162, 3) := by decide +kernel
theorem dX5_withdrawThoseOnFallen_26 : decode cX5_withdrawThoseOnFallen 26 = .ok (.astore_n 3, 1) := by decide +kernel
theorem dX5_withdrawThoseOnFallen_27 : decode cX5_withdrawThoseOnFallen 27 = .ok (.aload_n 3, 1) := by decide +kernel
theorem dX5_withdrawThoseOnFallen_28 : decode cX5_withdrawThoseOnFallen 28 = .ok (.getfield 171, 3) := by decide +kernel
theorem dX5_withdrawThoseOnFallen_31 : decode cX5_withdrawThoseOnFallen 31 = .ok (.ifCond .ne 17, 3) := by decide +kernel
theorem dX5_withdrawThoseOnFallen_34 : decode cX5_withdrawThoseOnFallen 34 = .ok (.aload_n 3, 1) := by decide +kernel
theorem dX5_withdrawThoseOnFallen_35 : decode cX5_withdrawThoseOnFallen 35 = .ok (.invokevirtual 346, 3) := by decide +kernel
theorem dX5_withdrawThoseOnFallen_38 : decode cX5_withdrawThoseOnFallen 38 = .ok (.ifCond .eq 10, 3) := by decide +kernel
theorem dX5_withdrawThoseOnFallen_41 : decode cX5_withdrawThoseOnFallen 41 = .ok (.aload_n 3, 1) := by decide +kernel
theorem dX5_withdrawThoseOnFallen_42 : decode cX5_withdrawThoseOnFallen 42 = .ok (.invokevirtual 349, 3) := by decide +kernel
theorem dX5_withdrawThoseOnFallen_45 : decode cX5_withdrawThoseOnFallen 45 = .ok (.iinc 1 1, 3) := by decide +kernel
theorem dX5_withdrawThoseOnFallen_48 : decode cX5_withdrawThoseOnFallen 48 = .ok (.iinc 2 1, 3) := by decide +kernel
theorem dX5_withdrawThoseOnFallen_51 : decode cX5_withdrawThoseOnFallen 51 = .ok (.goto (-47), 3) := by decide +kernel
theorem dX5_withdrawThoseOnFallen_54 : decode cX5_withdrawThoseOnFallen 54 = .ok (.iload_n 1, 1) := by decide +kernel
theorem dX5_withdrawThoseOnFallen_55 : decode cX5_withdrawThoseOnFallen 55 = .ok (.ireturn, 1) := by decide +kernel
theorem dX5_withdrawOverdue_0 : decode cX5_withdrawOverdue 0 = .ok (.iconst 0, 1) := by decide +kernel
theorem dX5_withdrawOverdue_1 : decode cX5_withdrawOverdue 1 = .ok (.istore_n 1, 1) := by decide +kernel
theorem dX5_withdrawOverdue_2 : decode cX5_withdrawOverdue 2 = .ok (.iload_n 1, 1) := by decide +kernel
theorem dX5_withdrawOverdue_3 : decode cX5_withdrawOverdue 3 = .ok (.aload_n 0, 1) := by decide +kernel
theorem dX5_withdrawOverdue_4 : decode cX5_withdrawOverdue 4 = .ok (.getfield 25, 3) := by decide +kernel
theorem dX5_withdrawOverdue_7 : decode cX5_withdrawOverdue 7 = .ok (.invokevirtual 59, 3) := by decide +kernel
theorem dX5_withdrawOverdue_10 : decode cX5_withdrawOverdue 10 = .ok (.if_icmp .ge 36, 3) := by decide +kernel
theorem dX5_withdrawOverdue_13 : decode cX5_withdrawOverdue 13 = .ok (.aload_n 0, 1) := by decide +kernel
theorem dX5_withdrawOverdue_14 : decode cX5_withdrawOverdue 14 = .ok (.getfield 25, 3) := by decide +kernel
theorem dX5_withdrawOverdue_17 : decode cX5_withdrawOverdue 17 = .ok (.iload_n 1, 1) := by decide +kernel
theorem dX5_withdrawOverdue_18 : decode cX5_withdrawOverdue 18 = .ok (.invokevirtual 241, 3) := by decide +kernel
theorem dX5_withdrawOverdue_21 : decode cX5_withdrawOverdue 21 = .ok (.checkcast 162, 3) := by decide +kernel
theorem dX5_withdrawOverdue_24 : decode cX5_withdrawOverdue 24 = .ok (.astore_n 2, 1) := by decide +kernel
theorem dX5_withdrawOverdue_25 : decode cX5_withdrawOverdue 25 = .ok (.aload_n 2, 1) := by decide +kernel
theorem dX5_withdrawOverdue_26 : decode cX5_withdrawOverdue 26 = .ok (.aload_n 0, 1) := by decide +kernel
theorem dX5_withdrawOverdue_27 : decode cX5_withdrawOverdue 27 = .ok (.getfield 35, 3) := by decide +kernel
theorem dX5_withdrawOverdue_30 : decode cX5_withdrawOverdue 30 = .ok (.invokevirtual 352, 3) := by decide +kernel
theorem dX5_withdrawOverdue_33 : decode cX5_withdrawOverdue 33 = .ok (.ifCond .eq 7, 3) := by decide +kernel
theorem dX5_withdrawOverdue_36 : decode cX5_withdrawOverdue 36 = .ok (.aload_n 2, 1) := by decide +kernel
theorem dX5_withdrawOverdue_37 : decode cX5_withdrawOverdue 37 = .ok (.invokevirtual 349, 3) := by decide +kernel
theorem dX5_withdrawOverdue_40 : decode cX5_withdrawOverdue 40 = .ok (.iinc 1 1, 3) := by decide +kernel
theorem dX5_withdrawOverdue_43 : decode cX5_withdrawOverdue 43 = .ok (.goto (-41), 3) := by decide +kernel
theorem dX5_withdrawOverdue_46 : decode cX5_withdrawOverdue 46 = .ok (.return_, 1) := by decide +kernel
theorem dX5_balance_0 : decode cX5_balance 0 = .ok (.iconst 0, 1) := by decide +kernel
theorem dX5_balance_1 : decode cX5_balance 1 = .ok (.istore_n 2, 1) := by decide +kernel
theorem dX5_balance_2 : decode cX5_balance 2 = .ok (.aload_n 0, 1) := by decide +kernel
theorem dX5_balance_3 : decode cX5_balance 3 = .ok (.getfield 25, 3) := by decide +kernel
theorem dX5_balance_6 : decode cX5_balance 6 = .ok (.invokevirtual 59, 3) := by decide +kernel
theorem dX5_balance_9 : decode cX5_balance 9 = .ok (.iconst 1, 1) := by decide +kernel
theorem dX5_balance_10 : decode cX5_balance 10 = .ok (.isub, 1) := by decide +kernel
theorem dX5_balance_11 : decode cX5_balance 11 = .ok (.istore_n 3, 1) := by decide +kernel
theorem dX5_balance_12 : decode cX5_balance 12 = .ok (.iload_n 3, 1) := by decide +kernel
theorem dX5_balance_13 : decode cX5_balance 13 = .ok (.ifCond .lt 55, 3) := by decide +kernel
theorem dX5_balance_16 : decode cX5_balance 16 = .ok (.aload_n 0, 1) := by decide +kernel
theorem dX5_balance_17 : decode cX5_balance 17 = .ok (.aload_n 1, 1) := by decide +kernel
theorem dX5_balance_18 : decode cX5_balance 18 = .ok (.invokevirtual 201, 3) := by decide +kernel
theorem dX5_balance_21 : decode cX5_balance 21 = .ok (.ifCond .ge 47, 3) := by decide +kernel
theorem dX5_balance_24 : decode cX5_balance 24 = .ok (.aload_n 0, 1) := by decide +kernel
theorem dX5_balance_25 : decode cX5_balance 25 = .ok (.getfield 25, 3) := by decide +kernel
theorem dX5_balance_28 : decode cX5_balance 28 = .ok (.iload_n 3, 1) := by decide +kernel
theorem dX5_balance_29 : decode cX5_balance 29 = .ok (.invokevirtual 241, 3) := by decide +kernel
theorem dX5_balance_32 : decode cX5_balance 32 = .ok (.checkcast 162, 3) := by decide +kernel
theorem dX5_balance_35 : decode cX5_balance 35 = .ok (.astore 4, 2) := by decide +kernel
theorem dX5_balance_37 : decode cX5_balance 37 = .ok (.aload 4, 2) := by decide +kernel
theorem dX5_balance_39 : decode cX5_balance 39 = .ok (.getfield 182, 3) := by decide +kernel
theorem dX5_balance_42 : decode cX5_balance 42 = .ok (.aload_n 1, 1) := by decide +kernel
theorem dX5_balance_43 : decode cX5_balance 43 = .ok (.if_acmp .ne 19, 3) := by decide +kernel
theorem dX5_balance_46 : decode cX5_balance 46 = .ok (.aload 4, 2) := by decide +kernel
theorem dX5_balance_48 : decode cX5_balance 48 = .ok (.getfield 171, 3) := by decide +kernel
theorem dX5_balance_51 : decode cX5_balance 51 = .ok (.ifCond .ne 11, 3) := by decide +kernel
theorem dX5_balance_54 : decode cX5_balance 54 = .ok (.aload 4, 2) := by decide +kernel
theorem dX5_balance_56 : decode cX5_balance 56 = .ok (.invokevirtual 356, 3) := by decide +kernel
theorem dX5_balance_59 : decode cX5_balance 59 = .ok (.iinc 2 1, 3) := by decide +kernel
theorem dX5_balance_62 : decode cX5_balance 62 = .ok (.iinc 3 (-1), 3) := by decide +kernel
theorem dX5_balance_65 : decode cX5_balance 65 = .ok (.goto (-53), 3) := by decide +kernel
theorem dX5_balance_68 : decode cX5_balance 68 = .ok (.aload_n 0, 1) := by decide +kernel
theorem dX5_balance_69 : decode cX5_balance 69 = .ok (.aload_n 1, 1) := by decide +kernel
theorem dX5_balance_70 : decode cX5_balance 70 = .ok (.invokevirtual 201, 3) := by decide +kernel
theorem dX5_balance_73 : decode cX5_balance 73 = .ok (.ineg, 1) := by decide +kernel
theorem dX5_balance_74 : decode cX5_balance 74 = .ok (.istore_n 3, 1) := by decide +kernel
theorem dX5_balance_75 : decode cX5_balance 75 = .ok (.iload_n 3, 1) := by decide +kernel
theorem dX5_balance_76 : decode cX5_balance 76 = .ok (.ifCond .le 23, 3) := by decide +kernel
theorem dX5_balance_79 : decode cX5_balance 79 = .ok (.aload_n 1, 1) := by decide +kernel
theorem dX5_balance_80 : decode cX5_balance 80 = .ok (.dup, 1) := by decide +kernel
theorem dX5_balance_81 : decode cX5_balance 81 = .ok (.getfield 230, 3) := by decide +kernel
theorem dX5_balance_84 : decode cX5_balance 84 = .ok (.iload_n 3, 1) := by decide +kernel
theorem dX5_balance_85 : decode cX5_balance 85 = .ok (.iadd, 1) := by decide +kernel
theorem dX5_balance_86 : decode cX5_balance 86 = .ok (.putfield 230, 3) := by decide +kernel
theorem dX5_balance_89 : decode cX5_balance 89 = .ok (.aload_n 0, 1) := by decide +kernel
theorem dX5_balance_90 : decode cX5_balance 90 = .ok (.dup, 1) := by decide +kernel
theorem dX5_balance_91 : decode cX5_balance 91 = .ok (.getfield 28, 3) := by decide +kernel
theorem dX5_balance_94 : decode cX5_balance 94 = .ok (.iload_n 3, 1) := by decide +kernel
theorem dX5_balance_95 : decode cX5_balance 95 = .ok (.isub, 1) := by decide +kernel
theorem dX5_balance_96 : decode cX5_balance 96 = .ok (.putfield 28, 3) := by decide +kernel
theorem dX5_balance_99 : decode cX5_balance 99 = .ok (.iload_n 2, 1) := by decide +kernel
theorem dX5_balance_100 : decode cX5_balance 100 = .ok (.ireturn, 1) := by decide +kernel
theorem dX5_fillReserve_0 : decode cX5_fillReserve 0 = .ok (.aload_n 0, 1) := by decide +kernel
theorem dX5_fillReserve_1 : decode cX5_fillReserve 1 = .ok (.invokevirtual 359, 3) := by decide +kernel
theorem dX5_fillReserve_4 : decode cX5_fillReserve 4 = .ok (.istore_n 1, 1) := by decide +kernel
theorem dX5_fillReserve_5 : decode cX5_fillReserve 5 = .ok (.iconst 0, 1) := by decide +kernel
theorem dX5_fillReserve_6 : decode cX5_fillReserve 6 = .ok (.istore_n 2, 1) := by decide +kernel
theorem dX5_fillReserve_7 : decode cX5_fillReserve 7 = .ok (.iload_n 2, 1) := by decide +kernel
theorem dX5_fillReserve_8 : decode cX5_fillReserve 8 = .ok (.aload_n 0, 1) := by decide +kernel
theorem dX5_fillReserve_9 : decode cX5_fillReserve 9 = .ok (.getfield 19, 3) := by decide +kernel
theorem dX5_fillReserve_12 : decode cX5_fillReserve 12 = .ok (.invokevirtual 59, 3) := by decide +kernel
theorem dX5_fillReserve_15 : decode cX5_fillReserve 15 = .ok (.if_icmp .ge 38, 3) := by decide +kernel
theorem dX5_fillReserve_18 : decode cX5_fillReserve 18 = .ok (.aload_n 0, 1) := by decide +kernel
theorem dX5_fillReserve_19 : decode cX5_fillReserve 19 = .ok (.getfield 28, 3) := by decide +kernel
theorem dX5_fillReserve_22 : decode cX5_fillReserve 22 = .ok (.iload_n 1, 1) := by decide +kernel
theorem dX5_fillReserve_23 : decode cX5_fillReserve 23 = .ok (.if_icmp .ge 30, 3) := by decide +kernel
theorem dX5_fillReserve_26 : decode cX5_fillReserve 26 = .ok (.aload_n 0, 1) := by decide +kernel
theorem dX5_fillReserve_27 : decode cX5_fillReserve 27 = .ok (.aload_n 0, 1) := by decide +kernel
theorem dX5_fillReserve_28 : decode cX5_fillReserve 28 = .ok (.getfield 19, 3) := by decide +kernel
theorem dX5_fillReserve_31 : decode cX5_fillReserve 31 = .ok (.iload_n 2, 1) := by decide +kernel
theorem dX5_fillReserve_32 : decode cX5_fillReserve 32 = .ok (.invokevirtual 241, 3) := by decide +kernel
theorem dX5_fillReserve_35 : decode cX5_fillReserve 35 = .ok (.checkcast 70, 3) := by decide +kernel
theorem dX5_fillReserve_38 : decode cX5_fillReserve 38 = .ok (.iload_n 1, 1) := by decide +kernel
theorem dX5_fillReserve_39 : decode cX5_fillReserve 39 = .ok (.aload_n 0, 1) := by decide +kernel
theorem dX5_fillReserve_40 : decode cX5_fillReserve 40 = .ok (.getfield 28, 3) := by decide +kernel
theorem dX5_fillReserve_43 : decode cX5_fillReserve 43 = .ok (.isub, 1) := by decide +kernel
theorem dX5_fillReserve_44 : decode cX5_fillReserve 44 = .ok (.invokevirtual 362, 3) := by decide +kernel
theorem dX5_fillReserve_47 : decode cX5_fillReserve 47 = .ok (.iinc 2 1, 3) := by decide +kernel
theorem dX5_fillReserve_50 : decode cX5_fillReserve 50 = .ok (.goto (-43), 3) := by decide +kernel
theorem dX5_fillReserve_53 : decode cX5_fillReserve 53 = .ok (.return_, 1) := by decide +kernel
theorem dX5_takeFrom_0 : decode cX5_takeFrom 0 = .ok (.aload_n 0, 1) := by decide +kernel
theorem dX5_takeFrom_1 : decode cX5_takeFrom 1 = .ok (.aload_n 1, 1) := by decide +kernel
theorem dX5_takeFrom_2 : decode cX5_takeFrom 2 = .ok (.invokevirtual 201, 3) := by decide +kernel
theorem dX5_takeFrom_5 : decode cX5_takeFrom 5 = .ok (.istore_n 3, 1) := by decide +kernel
theorem dX5_takeFrom_6 : decode cX5_takeFrom 6 = .ok (.iload_n 3, 1) := by decide +kernel
theorem dX5_takeFrom_7 : decode cX5_takeFrom 7 = .ok (.ifCond .le 35, 3) := by decide +kernel
theorem dX5_takeFrom_10 : decode cX5_takeFrom 10 = .ok (.iload_n 3, 1) := by decide +kernel
theorem dX5_takeFrom_11 : decode cX5_takeFrom 11 = .ok (.bipush 10, 2) := by decide +kernel
theorem dX5_takeFrom_13 : decode cX5_takeFrom 13 = .ok (.idiv, 1) := by decide +kernel
theorem dX5_takeFrom_14 : decode cX5_takeFrom 14 = .ok (.iload_n 2, 1) := by decide +kernel
theorem dX5_takeFrom_15 : decode cX5_takeFrom 15 = .ok (.invokestatic 365, 3) := by decide +kernel
theorem dX5_takeFrom_18 : decode cX5_takeFrom 18 = .ok (.istore 4, 2) := by decide +kernel
theorem dX5_takeFrom_20 : decode cX5_takeFrom 20 = .ok (.aload_n 1, 1) := by decide +kernel
theorem dX5_takeFrom_21 : decode cX5_takeFrom 21 = .ok (.dup, 1) := by decide +kernel
theorem dX5_takeFrom_22 : decode cX5_takeFrom 22 = .ok (.getfield 227, 3) := by decide +kernel
theorem dX5_takeFrom_25 : decode cX5_takeFrom 25 = .ok (.iload 4, 2) := by decide +kernel
theorem dX5_takeFrom_27 : decode cX5_takeFrom 27 = .ok (.iadd, 1) := by decide +kernel
theorem dX5_takeFrom_28 : decode cX5_takeFrom 28 = .ok (.putfield 227, 3) := by decide +kernel
theorem dX5_takeFrom_31 : decode cX5_takeFrom 31 = .ok (.aload_n 0, 1) := by decide +kernel
theorem dX5_takeFrom_32 : decode cX5_takeFrom 32 = .ok (.dup, 1) := by decide +kernel
theorem dX5_takeFrom_33 : decode cX5_takeFrom 33 = .ok (.getfield 28, 3) := by decide +kernel
theorem dX5_takeFrom_36 : decode cX5_takeFrom 36 = .ok (.iload 4, 2) := by decide +kernel
theorem dX5_takeFrom_38 : decode cX5_takeFrom 38 = .ok (.iadd, 1) := by decide +kernel
theorem dX5_takeFrom_39 : decode cX5_takeFrom 39 = .ok (.putfield 28, 3) := by decide +kernel
theorem dX5_takeFrom_42 : decode cX5_takeFrom 42 = .ok (.return_, 1) := by decide +kernel
theorem dX5_targetNow_0 : decode cX5_targetNow 0 = .ok (.lconst 0, 1) := by decide +kernel
theorem dX5_targetNow_1 : decode cX5_targetNow 1 = .ok (.lstore_n 1, 1) := by decide +kernel
theorem dX5_targetNow_2 : decode cX5_targetNow 2 = .ok (.iconst 0, 1) := by decide +kernel
theorem dX5_targetNow_3 : decode cX5_targetNow 3 = .ok (.istore_n 3, 1) := by decide +kernel
theorem dX5_targetNow_4 : decode cX5_targetNow 4 = .ok (.iload_n 3, 1) := by decide +kernel
theorem dX5_targetNow_5 : decode cX5_targetNow 5 = .ok (.aload_n 0, 1) := by decide +kernel
theorem dX5_targetNow_6 : decode cX5_targetNow 6 = .ok (.getfield 19, 3) := by decide +kernel
theorem dX5_targetNow_9 : decode cX5_targetNow 9 = .ok (.invokevirtual 59, 3) := by decide +kernel
theorem dX5_targetNow_12 : decode cX5_targetNow 12 = .ok (.if_icmp .ge 27, 3) := by decide +kernel
theorem dX5_targetNow_15 : decode cX5_targetNow 15 = .ok (.lload_n 1, 1) := by decide +kernel
theorem dX5_targetNow_16 : decode cX5_targetNow 16 = .ok (.aload_n 0, 1) := by decide +kernel
theorem dX5_targetNow_17 : decode cX5_targetNow 17 = .ok (.getfield 19, 3) := by decide +kernel
theorem dX5_targetNow_20 : decode cX5_targetNow 20 = .ok (.iload_n 3, 1) := by decide +kernel
theorem dX5_targetNow_21 : decode cX5_targetNow 21 = .ok (.invokevirtual 241, 3) := by decide +kernel
theorem dX5_targetNow_24 : decode cX5_targetNow 24 = .ok (.checkcast 70, 3) := by decide +kernel
theorem dX5_targetNow_27 : decode cX5_targetNow 27 = .ok (.invokevirtual 221, 3) := by decide +kernel
theorem dX5_targetNow_30 : decode cX5_targetNow 30 = .ok (.i2l, 1) := by decide +kernel
theorem dX5_targetNow_31 : decode cX5_targetNow 31 = .ok (.ladd, 1) := by decide +kernel
theorem dX5_targetNow_32 : decode cX5_targetNow 32 = .ok (.lstore_n 1, 1) := by decide +kernel
theorem dX5_targetNow_33 : decode cX5_targetNow 33 = .ok (.iinc 3 1, 3) := by decide +kernel
theorem dX5_targetNow_36 : decode cX5_targetNow 36 = .ok (.goto (-32), 3) := by decide +kernel
theorem dX5_targetNow_39 : decode cX5_targetNow 39 = .ok (.lload_n 1, 1) := by decide +kernel
theorem dX5_targetNow_40 : decode cX5_targetNow 40 = .ok (.lconst 0, 1) := by decide +kernel
theorem dX5_targetNow_41 : decode cX5_targetNow 41 = .ok (.lcmp, 1) := by decide +kernel
theorem dX5_targetNow_42 : decode cX5_targetNow 42 = .ok (.ifCond .ge 7, 3) := by decide +kernel
theorem dX5_targetNow_45 : decode cX5_targetNow 45 = .ok (.iconst 0, 1) := by decide +kernel
theorem dX5_targetNow_46 : decode cX5_targetNow 46 = .ok (.goto 15, 3) := by decide +kernel
theorem dX5_targetNow_49 : decode cX5_targetNow 49 = .ok (.lload_n 1, 1) := by decide +kernel
theorem dX5_targetNow_50 : decode cX5_targetNow 50 = .ok (.aload_n 0, 1) := by decide +kernel
theorem dX5_targetNow_51 : decode cX5_targetNow 51 = .ok (.getfield 32, 3) := by decide +kernel
theorem dX5_targetNow_54 : decode cX5_targetNow 54 = .ok (.i2l, 1) := by decide +kernel
theorem dX5_targetNow_55 : decode cX5_targetNow 55 = .ok (.lmul, 1) := by decide +kernel
theorem dX5_targetNow_56 : decode cX5_targetNow 56 = .ok (.ldc2_w 371, 3) := by decide +kernel
theorem dX5_targetNow_59 : decode cX5_targetNow 59 = .ok (.ldiv, 1) := by decide +kernel
theorem dX5_targetNow_60 : decode cX5_targetNow 60 = .ok (.l2i, 1) := by decide +kernel
theorem dX5_targetNow_61 : decode cX5_targetNow 61 = .ok (.ireturn, 1) := by decide +kernel
theorem dX6_init_0 : decode cX6_init 0 = .ok (.aload_n 0, 1) := by decide +kernel
theorem dX6_init_1 : decode cX6_init 1 = .ok (.invokespecial 1, 3) := by decide +kernel
theorem dX6_init_4 : decode cX6_init 4 = .ok (.aload_n 0, 1) := by decide +kernel
theorem dX6_init_5 : decode cX6_init 5 = .ok (.iconst 5, 1) := by decide +kernel
theorem dX6_init_6 : decode cX6_init 6 = .ok (.putfield 7, 3) := by decide +kernel
theorem dX6_init_9 : decode cX6_init 9 = .ok (.aload_n 0, 1) := by decide +kernel
theorem dX6_init_10 : decode cX6_init 10 = .ok (.iconst 4, 1) := by decide +kernel
theorem dX6_init_11 : decode cX6_init 11 = .ok (.newarray .int, 2) := by decide +kernel
theorem dX6_init_13 : decode cX6_init 13 = .ok (.putfield 13, 3) := by decide +kernel
theorem dX6_init_16 : decode cX6_init 16 = .ok (.aload_n 0, 1) := by decide +kernel
theorem dX6_init_17 : decode cX6_init 17 = .ok (.iconst 4, 1) := by decide +kernel
theorem dX6_init_18 : decode cX6_init 18 = .ok (.newarray .int, 2) := by decide +kernel
theorem dX6_init_20 : decode cX6_init 20 = .ok (.putfield 17, 3) := by decide +kernel
theorem dX6_init_23 : decode cX6_init 23 = .ok (.aload_n 0, 1) := by decide +kernel
theorem dX6_init_24 : decode cX6_init 24 = .ok (.bipush 8, 2) := by decide +kernel
theorem dX6_init_26 : decode cX6_init 26 = .ok (.newarray .int, 2) := by decide +kernel
theorem dX6_init_28 : decode cX6_init 28 = .ok (.putfield 20, 3) := by decide +kernel
theorem dX6_init_31 : decode cX6_init 31 = .ok (.aload_n 0, 1) := by decide +kernel
theorem dX6_init_32 : decode cX6_init 32 = .ok (.bipush 10, 2) := by decide +kernel
theorem dX6_init_34 : decode cX6_init 34 = .ok (.newarray .int, 2) := by decide +kernel
theorem dX6_init_36 : decode cX6_init 36 = .ok (.putfield 23, 3) := by decide +kernel
theorem dX6_init_39 : decode cX6_init 39 = .ok (.aload_n 0, 1) := by decide +kernel
theorem dX6_init_40 : decode cX6_init 40 = .ok (.bipush 10, 2) := by decide +kernel
theorem dX6_init_42 : decode cX6_init 42 = .ok (.newarray .int, 2) := by decide +kernel
theorem dX6_init_44 : decode cX6_init 44 = .ok (.putfield 26, 3) := by decide +kernel
theorem dX6_init_47 : decode cX6_init 47 = .ok (.aload_n 0, 1) := by decide +kernel
theorem dX6_init_48 : decode cX6_init 48 = .ok (.bipush 10, 2) := by decide +kernel
theorem dX6_init_50 : decode cX6_init 50 = .ok (.newarray .int, 2) := by decide +kernel
theorem dX6_init_52 : decode cX6_init 52 = .ok (.putfield 29, 3) := by decide +kernel
theorem dX6_init_55 : decode cX6_init 55 = .ok (.aload_n 0, 1) := by decide +kernel
theorem dX6_init_56 : decode cX6_init 56 = .ok (.bipush 10, 2) := by decide +kernel
theorem dX6_init_58 : decode cX6_init 58 = .ok (.newarray .int, 2) := by decide +kernel
theorem dX6_init_60 : decode cX6_init 60 = .ok (.putfield 32, 3) := by decide +kernel
theorem dX6_init_63 : decode cX6_init 63 = .ok (.aload_n 0, 1) := by decide +kernel
theorem dX6_init_64 : decode cX6_init 64 = .ok (.bipush 10, 2) := by decide +kernel
theorem dX6_init_66 : decode cX6_init 66 = .ok (.newarray .int, 2) := by decide +kernel
theorem dX6_init_68 : decode cX6_init 68 = .ok (.putfield 35, 3) := by decide +kernel
theorem dX6_init_71 : decode cX6_init 71 = .ok (.aload_n 0, 1) := by decide +kernel
theorem dX6_init_72 : decode cX6_init 72 = .ok (.bipush 40, 2) := by decide +kernel
theorem dX6_init_74 : decode cX6_init 74 = .ok (.newarray .int, 2) := by decide +kernel
theorem dX6_init_76 : decode cX6_init 76 = .ok (.putfield 38, 3) := by decide +kernel
theorem dX6_init_79 : decode cX6_init 79 = .ok (.aload_n 0, 1) := by decide +kernel
theorem dX6_init_80 : decode cX6_init 80 = .ok (.bipush 40, 2) := by decide +kernel
theorem dX6_init_82 : decode cX6_init 82 = .ok (.newarray .int, 2) := by decide +kernel
theorem dX6_init_84 : decode cX6_init 84 = .ok (.putfield 41, 3) := by decide +kernel
theorem dX6_init_87 : decode cX6_init 87 = .ok (.aload_n 0, 1) := by decide +kernel
theorem dX6_init_88 : decode cX6_init 88 = .ok (.bipush 40, 2) := by decide +kernel
theorem dX6_init_90 : decode cX6_init 90 = .ok (.newarray .int, 2) := by decide +kernel
theorem dX6_init_92 : decode cX6_init 92 = .ok (.putfield 44, 3) := by decide +kernel
theorem dX6_init_95 : decode cX6_init 95 = .ok (.aload_n 0, 1) := by decide +kernel
theorem dX6_init_96 : decode cX6_init 96 = .ok (.bipush 40, 2) := by decide +kernel
theorem dX6_init_98 : decode cX6_init 98 = .ok (.newarray .int, 2) := by decide +kernel
theorem dX6_init_100 : decode cX6_init 100 = .ok (.putfield 47, 3) := by decide +kernel
theorem dX6_init_103 : decode cX6_init 103 = .ok (.aload_n 0, 1) := by decide +kernel
theorem dX6_init_104 : decode cX6_init 104 = .ok (.bipush 40, 2) := by decide +kernel
theorem dX6_init_106 : decode cX6_init 106 = .ok (.newarray .int, 2) := by decide +kernel
theorem dX6_init_108 : decode cX6_init 108 = .ok (.putfield 50, 3) := by decide +kernel
theorem dX6_init_111 : decode cX6_init 111 = .ok (.aload_n 0, 1) := by decide +kernel
theorem dX6_init_112 : decode cX6_init 112 = .ok (.sipush 360, 3) := by decide +kernel
theorem dX6_init_115 : decode cX6_init 115 = .ok (.newarray .int, 2) := by decide +kernel
theorem dX6_init_117 : decode cX6_init 117 = .ok (.putfield 53, 3) := by decide +kernel
theorem dX6_init_120 : decode cX6_init 120 = .ok (.aload_n 0, 1) := by decide +kernel
theorem dX6_init_121 : decode cX6_init 121 = .ok (.bipush 40, 2) := by decide +kernel
theorem dX6_init_123 : decode cX6_init 123 = .ok (.newarray .int, 2) := by decide +kernel
theorem dX6_init_125 : decode cX6_init 125 = .ok (.putfield 56, 3) := by decide +kernel
theorem dX6_init_128 : decode cX6_init 128 = .ok (.aload_n 0, 1) := by decide +kernel
theorem dX6_init_129 : decode cX6_init 129 = .ok (.bipush 40, 2) := by decide +kernel
theorem dX6_init_131 : decode cX6_init 131 = .ok (.newarray .int, 2) := by decide +kernel
theorem dX6_init_133 : decode cX6_init 133 = .ok (.putfield 59, 3) := by decide +kernel
theorem dX6_init_136 : decode cX6_init 136 = .ok (.aload_n 0, 1) := by decide +kernel
theorem dX6_init_137 : decode cX6_init 137 = .ok (.bipush 40, 2) := by decide +kernel
theorem dX6_init_139 : decode cX6_init 139 = .ok (.newarray .int, 2) := by decide +kernel
theorem dX6_init_141 : decode cX6_init 141 = .ok (.putfield 62, 3) := by decide +kernel
theorem dX6_init_144 : decode cX6_init 144 = .ok (.aload_n 0, 1) := by decide +kernel
theorem dX6_init_145 : decode cX6_init 145 = .ok (.bipush 40, 2) := by decide +kernel
theorem dX6_init_147 : decode cX6_init 147 = .ok (.newarray .int, 2) := by decide +kernel
theorem dX6_init_149 : decode cX6_init 149 = .ok (.putfield 65, 3) := by decide +kernel
theorem dX6_init_152 : decode cX6_init 152 = .ok (.aload_n 0, 1) := by decide +kernel
theorem dX6_init_153 : decode cX6_init 153 = .ok (.bipush 40, 2) := by decide +kernel
theorem dX6_init_155 : decode cX6_init 155 = .ok (.newarray .int, 2) := by decide +kernel
theorem dX6_init_157 : decode cX6_init 157 = .ok (.putfield 68, 3) := by decide +kernel
theorem dX6_init_160 : decode cX6_init 160 = .ok (.aload_n 0, 1) := by decide +kernel
theorem dX6_init_161 : decode cX6_init 161 = .ok (.bipush 40, 2) := by decide +kernel
theorem dX6_init_163 : decode cX6_init 163 = .ok (.newarray .int, 2) := by decide +kernel
theorem dX6_init_165 : decode cX6_init 165 = .ok (.putfield 71, 3) := by decide +kernel
theorem dX6_init_168 : decode cX6_init 168 = .ok (.aload_n 0, 1) := by decide +kernel
theorem dX6_init_169 : decode cX6_init 169 = .ok (.bipush 40, 2) := by decide +kernel
theorem dX6_init_171 : decode cX6_init 171 = .ok (.newarray .int, 2) := by decide +kernel
theorem dX6_init_173 : decode cX6_init 173 = .ok (.putfield 74, 3) := by decide +kernel
theorem dX6_init_176 : decode cX6_init 176 = .ok (.aload_n 0, 1) := by decide +kernel
theorem dX6_init_177 : decode cX6_init 177 = .ok (.bipush 40, 2) := by decide +kernel
theorem dX6_init_179 : decode cX6_init 179 = .ok (.newarray .boolean, 2) := by decide +kernel
theorem dX6_init_181 : decode cX6_init 181 = .ok (.putfield 77, 3) := by decide +kernel
theorem dX6_init_184 : decode cX6_init 184 = .ok (.aload_n 0, 1) := by decide +kernel
theorem dX6_init_185 : decode cX6_init 185 = .ok (.bipush 40, 2) := by decide +kernel
theorem dX6_init_187 : decode cX6_init 187 = .ok (.newarray .int, 2) := by decide +kernel
theorem dX6_init_189 : decode cX6_init 189 = .ok (.putfield 81, 3) := by decide +kernel
theorem dX6_init_192 : decode cX6_init 192 = .ok (.aload_n 0, 1) := by decide +kernel
theorem dX6_init_193 : decode cX6_init 193 = .ok (.bipush 40, 2) := by decide +kernel
theorem dX6_init_195 : decode cX6_init 195 = .ok (.newarray .boolean, 2) := by decide +kernel
theorem dX6_init_197 : decode cX6_init 197 = .ok (.putfield 84, 3) := by decide +kernel
theorem dX6_init_200 : decode cX6_init 200 = .ok (.return_, 1) := by decide +kernel
theorem dX6_thrown_0 : decode cX6_thrown 0 = .ok (.aload_n 0, 1) := by decide +kernel
theorem dX6_thrown_1 : decode cX6_thrown 1 = .ok (.getfield 87, 3) := by decide +kernel
theorem dX6_thrown_4 : decode cX6_thrown 4 = .ok (.ireturn, 1) := by decide +kernel
theorem dX6_goesWell_0 : decode cX6_goesWell 0 = .ok (.aload_n 0, 1) := by decide +kernel
theorem dX6_goesWell_1 : decode cX6_goesWell 1 = .ok (.iload_n 1, 1) := by decide +kernel
theorem dX6_goesWell_2 : decode cX6_goesWell 2 = .ok (.putfield 87, 3) := by decide +kernel
theorem dX6_goesWell_5 : decode cX6_goesWell 5 = .ok (.iload_n 1, 1) := by decide +kernel
theorem dX6_goesWell_6 : decode cX6_goesWell 6 = .ok (.ifCond .ne 7, 3) := by decide +kernel
theorem dX6_goesWell_9 : decode cX6_goesWell 9 = .ok (.iconst 1, 1) := by decide +kernel
theorem dX6_goesWell_10 : decode cX6_goesWell 10 = .ok (.goto 4, 3) := by decide +kernel
theorem dX6_goesWell_13 : decode cX6_goesWell 13 = .ok (.iconst 0, 1) := by decide +kernel
theorem dX6_goesWell_14 : decode cX6_goesWell 14 = .ok (.ireturn, 1) := by decide +kernel
theorem dX6_in_0 : decode cX6_in 0 = .ok (.iload_n 0, 1) := by decide +kernel
theorem dX6_in_1 : decode cX6_in 1 = .ok (.iload_n 1, 1) := by decide +kernel
theorem dX6_in_2 : decode cX6_in 2 = .ok (.if_icmp .lt 12, 3) := by decide +kernel
theorem dX6_in_5 : decode cX6_in 5 = .ok (.iload_n 0, 1) := by decide +kernel
theorem dX6_in_6 : decode cX6_in 6 = .ok (.iload_n 2, 1) := by decide +kernel
theorem dX6_in_7 : decode cX6_in 7 = .ok (.if_icmp .gt 7, 3) := by decide +kernel
theorem dX6_in_10 : decode cX6_in 10 = .ok (.iconst 1, 1) := by decide +kernel
theorem dX6_in_11 : decode cX6_in 11 = .ok (.goto 4, 3) := by decide +kernel
theorem dX6_in_14 : decode cX6_in 14 = .ok (.iconst 0, 1) := by decide +kernel
theorem dX6_in_15 : decode cX6_in 15 = .ok (.ireturn, 1) := by decide +kernel
theorem dX6_isLine_0 : decode cX6_isLine 0 = .ok (.iload_n 1, 1) := by decide +kernel
theorem dX6_isLine_1 : decode cX6_isLine 1 = .ok (.iconst 0, 1) := by decide +kernel
theorem dX6_isLine_2 : decode cX6_isLine 2 = .ok (.aload_n 0, 1) := by decide +kernel
theorem dX6_isLine_3 : decode cX6_isLine 3 = .ok (.getfield 90, 3) := by decide +kernel
theorem dX6_isLine_6 : decode cX6_isLine 6 = .ok (.iconst 1, 1) := by decide +kernel
theorem dX6_isLine_7 : decode cX6_isLine 7 = .ok (.isub, 1) := by decide +kernel
theorem dX6_isLine_8 : decode cX6_isLine 8 = .ok (.invokestatic 93, 3) := by decide +kernel
theorem dX6_isLine_11 : decode cX6_isLine 11 = .ok (.ireturn, 1) := by decide +kernel
theorem dX6_isAmendment_0 : decode cX6_isAmendment 0 = .ok (.iload_n 1, 1) := by decide +kernel
theorem dX6_isAmendment_1 : decode cX6_isAmendment 1 = .ok (.iconst 0, 1) := by decide +kernel
theorem dX6_isAmendment_2 : decode cX6_isAmendment 2 = .ok (.aload_n 0, 1) := by decide +kernel
theorem dX6_isAmendment_3 : decode cX6_isAmendment 3 = .ok (.getfield 97, 3) := by decide +kernel
theorem dX6_isAmendment_6 : decode cX6_isAmendment 6 = .ok (.iconst 1, 1) := by decide +kernel
theorem dX6_isAmendment_7 : decode cX6_isAmendment 7 = .ok (.isub, 1) := by decide +kernel
theorem dX6_isAmendment_8 : decode cX6_isAmendment 8 = .ok (.invokestatic 93, 3) := by decide +kernel
theorem dX6_isAmendment_11 : decode cX6_isAmendment 11 = .ok (.ireturn, 1) := by decide +kernel
theorem dX6_isGrant_0 : decode cX6_isGrant 0 = .ok (.iload_n 1, 1) := by decide +kernel
theorem dX6_isGrant_1 : decode cX6_isGrant 1 = .ok (.iconst 0, 1) := by decide +kernel
theorem dX6_isGrant_2 : decode cX6_isGrant 2 = .ok (.aload_n 0, 1) := by decide +kernel
theorem dX6_isGrant_3 : decode cX6_isGrant 3 = .ok (.getfield 100, 3) := by decide +kernel
theorem dX6_isGrant_6 : decode cX6_isGrant 6 = .ok (.iconst 1, 1) := by decide +kernel
theorem dX6_isGrant_7 : decode cX6_isGrant 7 = .ok (.isub, 1) := by decide +kernel
theorem dX6_isGrant_8 : decode cX6_isGrant 8 = .ok (.invokestatic 93, 3) := by decide +kernel
theorem dX6_isGrant_11 : decode cX6_isGrant 11 = .ok (.ireturn, 1) := by decide +kernel
theorem dX6_bring_0 : decode cX6_bring 0 = .ok (.aload_n 0, 1) := by decide +kernel
theorem dX6_bring_1 : decode cX6_bring 1 = .ok (.getfield 97, 3) := by decide +kernel
theorem dX6_bring_4 : decode cX6_bring 4 = .ok (.iconst 1, 1) := by decide +kernel
theorem dX6_bring_5 : decode cX6_bring 5 = .ok (.isub, 1) := by decide +kernel
theorem dX6_bring_6 : decode cX6_bring 6 = .ok (.istore_n 1, 1) := by decide +kernel
theorem dX6_bring_7 : decode cX6_bring 7 = .ok (.iload_n 1, 1) := by decide +kernel
theorem dX6_bring_8 : decode cX6_bring 8 = .ok (.ifCond .lt 78, 3) := by decide +kernel
theorem dX6_bring_11 : decode cX6_bring 11 = .ok (.aload_n 0, 1) := by decide +kernel
theorem dX6_bring_12 : decode cX6_bring 12 = .ok (.getfield 81, 3) := by decide +kernel
theorem dX6_bring_15 : decode cX6_bring 15 = .ok (.iload_n 1, 1) := by decide +kernel
theorem dX6_bring_16 : decode cX6_bring 16 = .ok (.aload_n 0, 1) := by decide +kernel
theorem dX6_bring_17 : decode cX6_bring 17 = .ok (.getfield 44, 3) := by decide +kernel
theorem dX6_bring_20 : decode cX6_bring 20 = .ok (.iload_n 1, 1) := by decide +kernel
theorem dX6_bring_21 : decode cX6_bring 21 = .ok (.iaload, 1) := by decide +kernel
theorem dX6_bring_22 : decode cX6_bring 22 = .ok (.iastore, 1) := by decide +kernel
theorem dX6_bring_23 : decode cX6_bring 23 = .ok (.iload_n 1, 1) := by decide +kernel
theorem dX6_bring_24 : decode cX6_bring 24 = .ok (.iconst 1, 1) := by decide +kernel
theorem dX6_bring_25 : decode cX6_bring 25 = .ok (.iadd, 1) := by decide +kernel
theorem dX6_bring_26 : decode cX6_bring 26 = .ok (.istore_n 2, 1) := by decide +kernel
theorem dX6_bring_27 : decode cX6_bring 27 = .ok (.iload_n 2, 1) := by decide +kernel
theorem dX6_bring_28 : decode cX6_bring 28 = .ok (.aload_n 0, 1) := by decide +kernel
theorem dX6_bring_29 : decode cX6_bring 29 = .ok (.getfield 97, 3) := by decide +kernel
theorem dX6_bring_32 : decode cX6_bring 32 = .ok (.if_icmp .ge 48, 3) := by decide +kernel
theorem dX6_bring_35 : decode cX6_bring 35 = .ok (.aload_n 0, 1) := by decide +kernel
theorem dX6_bring_36 : decode cX6_bring 36 = .ok (.getfield 81, 3) := by decide +kernel
theorem dX6_bring_39 : decode cX6_bring 39 = .ok (.iload_n 1, 1) := by decide +kernel
theorem dX6_bring_40 : decode cX6_bring 40 = .ok (.dup2, 1) := by decide +kernel
theorem dX6_bring_41 : decode cX6_bring 41 = .ok (.iaload, 1) := by decide +kernel
theorem dX6_bring_42 : decode cX6_bring 42 = .ok (.aload_n 0, 1) := by decide +kernel
theorem dX6_bring_43 : decode cX6_bring 43 = .ok (.getfield 38, 3) := by decide +kernel
theorem dX6_bring_46 : decode cX6_bring 46 = .ok (.iload_n 2, 1) := by decide +kernel
theorem dX6_bring_47 : decode cX6_bring 47 = .ok (.iaload, 1) := by decide +kernel
theorem dX6_bring_48 : decode cX6_bring 48 = .ok (.iload_n 1, 1) := by decide +kernel
theorem dX6_bring_49 : decode cX6_bring 49 = .ok (.if_icmp .ne 22, 3) := by decide +kernel
theorem dX6_bring_52 : decode cX6_bring 52 = .ok (.aload_n 0, 1) := by decide +kernel
theorem dX6_bring_53 : decode cX6_bring 53 = .ok (.getfield 47, 3) := by decide +kernel
theorem dX6_bring_56 : decode cX6_bring 56 = .ok (.iload_n 2, 1) := by decide +kernel
theorem dX6_bring_57 : decode cX6_bring 57 = .ok (.iaload, 1) := by decide +kernel
theorem dX6_bring_58 : decode cX6_bring 58 = .ok (.iconst 1, 1) := by decide +kernel
theorem dX6_bring_59 : decode cX6_bring 59 = .ok (.if_icmp .ne 12, 3) := by decide +kernel
theorem dX6_bring_62 : decode cX6_bring 62 = .ok (.aload_n 0, 1) := by decide +kernel
theorem dX6_bring_63 : decode cX6_bring 63 = .ok (.getfield 81, 3) := by decide +kernel
theorem dX6_bring_66 : decode cX6_bring 66 = .ok (.iload_n 2, 1) := by decide +kernel
theorem dX6_bring_67 : decode cX6_bring 67 = .ok (.iaload, 1) := by decide +kernel
theorem dX6_bring_68 : decode cX6_bring 68 = .ok (.goto 4, 3) := by decide +kernel
theorem dX6_bring_71 : decode cX6_bring 71 = .ok (.iconst 0, 1) := by decide +kernel
theorem dX6_bring_72 : decode cX6_bring 72 = .ok (.iadd, 1) := by decide +kernel
theorem dX6_bring_73 : decode cX6_bring 73 = .ok (.iastore, 1) := by decide +kernel
theorem dX6_bring_74 : decode cX6_bring 74 = .ok (.iinc 2 1, 3) := by decide +kernel
theorem dX6_bring_77 : decode cX6_bring 77 = .ok (.goto (-50), 3) := by decide +kernel
theorem dX6_bring_80 : decode cX6_bring 80 = .ok (.iinc 1 (-1), 3) := by decide +kernel
theorem dX6_bring_83 : decode cX6_bring 83 = .ok (.goto (-76), 3) := by decide +kernel
theorem dX6_bring_86 : decode cX6_bring 86 = .ok (.return_, 1) := by decide +kernel
theorem dX6_stands_0 : decode cX6_stands 0 = .ok (.aload_n 0, 1) := by decide +kernel
theorem dX6_stands_1 : decode cX6_stands 1 = .ok (.invokevirtual 103, 3) := by decide +kernel
theorem dX6_stands_4 : decode cX6_stands 4 = .ok (.aload_n 0, 1) := by decide +kernel
theorem dX6_stands_5 : decode cX6_stands 5 = .ok (.getfield 26, 3) := by decide +kernel
theorem dX6_stands_8 : decode cX6_stands 8 = .ok (.iload_n 1, 1) := by decide +kernel
theorem dX6_stands_9 : decode cX6_stands 9 = .ok (.iaload, 1) := by decide +kernel
theorem dX6_stands_10 : decode cX6_stands 10 = .ok (.aload_n 0, 1) := by decide +kernel
theorem dX6_stands_11 : decode cX6_stands 11 = .ok (.getfield 29, 3) := by decide +kernel
theorem dX6_stands_14 : decode cX6_stands 14 = .ok (.iload_n 1, 1) := by decide +kernel
theorem dX6_stands_15 : decode cX6_stands 15 = .ok (.iaload, 1) := by decide +kernel
theorem dX6_stands_16 : decode cX6_stands 16 = .ok (.isub, 1) := by decide +kernel
theorem dX6_stands_17 : decode cX6_stands 17 = .ok (.aload_n 0, 1) := by decide +kernel
theorem dX6_stands_18 : decode cX6_stands 18 = .ok (.getfield 32, 3) := by decide +kernel
theorem dX6_stands_21 : decode cX6_stands 21 = .ok (.iload_n 1, 1) := by decide +kernel
theorem dX6_stands_22 : decode cX6_stands 22 = .ok (.iaload, 1) := by decide +kernel
theorem dX6_stands_23 : decode cX6_stands 23 = .ok (.iadd, 1) := by decide +kernel
theorem dX6_stands_24 : decode cX6_stands 24 = .ok (.istore_n 2, 1) := by decide +kernel
theorem dX6_stands_25 : decode cX6_stands 25 = .ok (.iconst 0, 1) := by decide +kernel
theorem dX6_stands_26 : decode cX6_stands 26 = .ok (.istore_n 3, 1) := by decide +kernel
theorem dX6_stands_27 : decode cX6_stands 27 = .ok (.iload_n 3, 1) := by decide +kernel
theorem dX6_stands_28 : decode cX6_stands 28 = .ok (.aload_n 0, 1) := by decide +kernel
theorem dX6_stands_29 : decode cX6_stands 29 = .ok (.getfield 97, 3) := by decide +kernel
theorem dX6_stands_32 : decode cX6_stands 32 = .ok (.if_icmp .ge 52, 3) := by decide +kernel
theorem dX6_stands_35 : decode cX6_stands 35 = .ok (.iload_n 2, 1) := by decide +kernel
theorem dX6_stands_36 : decode cX6_stands 36 = .ok (.aload_n 0, 1) := by decide +kernel
theorem dX6_stands_37 : decode cX6_stands 37 = .ok (.getfield 38, 3) := by decide +kernel
theorem dX6_stands_40 : decode cX6_stands 40 = .ok (.iload_n 3, 1) := by decide +kernel
theorem dX6_stands_41 : decode cX6_stands 41 = .ok (.iaload, 1) := by decide +kernel
theorem dX6_stands_42 : decode cX6_stands 42 = .ok (.iconst (-1), 1) := by decide +kernel
theorem dX6_stands_43 : decode cX6_stands 43 = .ok (.if_icmp .ne 32, 3) := by decide +kernel
theorem dX6_stands_46 : decode cX6_stands 46 = .ok (.aload_n 0, 1) := by decide +kernel
theorem dX6_stands_47 : decode cX6_stands 47 = .ok (.getfield 41, 3) := by decide +kernel
theorem dX6_stands_50 : decode cX6_stands 50 = .ok (.iload_n 3, 1) := by decide +kernel
theorem dX6_stands_51 : decode cX6_stands 51 = .ok (.iaload, 1) := by decide +kernel
theorem dX6_stands_52 : decode cX6_stands 52 = .ok (.iload_n 1, 1) := by decide +kernel
theorem dX6_stands_53 : decode cX6_stands 53 = .ok (.if_icmp .ne 22, 3) := by decide +kernel
theorem dX6_stands_56 : decode cX6_stands 56 = .ok (.aload_n 0, 1) := by decide +kernel
theorem dX6_stands_57 : decode cX6_stands 57 = .ok (.getfield 47, 3) := by decide +kernel
theorem dX6_stands_60 : decode cX6_stands 60 = .ok (.iload_n 3, 1) := by decide +kernel
theorem dX6_stands_61 : decode cX6_stands 61 = .ok (.iaload, 1) := by decide +kernel
theorem dX6_stands_62 : decode cX6_stands 62 = .ok (.iconst 1, 1) := by decide +kernel
theorem dX6_stands_63 : decode cX6_stands 63 = .ok (.if_icmp .ne 12, 3) := by decide +kernel
theorem dX6_stands_66 : decode cX6_stands 66 = .ok (.aload_n 0, 1) := by decide +kernel
theorem dX6_stands_67 : decode cX6_stands 67 = .ok (.getfield 81, 3) := by decide +kernel
theorem dX6_stands_70 : decode cX6_stands 70 = .ok (.iload_n 3, 1) := by decide +kernel
theorem dX6_stands_71 : decode cX6_stands 71 = .ok (.iaload, 1) := by decide +kernel
theorem dX6_stands_72 : decode cX6_stands 72 = .ok (.goto 4, 3) := by decide +kernel
theorem dX6_stands_75 : decode cX6_stands 75 = .ok (.iconst 0, 1) := by decide +kernel
theorem dX6_stands_76 : decode cX6_stands 76 = .ok (.iadd, 1) := by decide +kernel
theorem dX6_stands_77 : decode cX6_stands 77 = .ok (.istore_n 2, 1) := by decide +kernel
theorem dX6_stands_78 : decode cX6_stands 78 = .ok (.iinc 3 1, 3) := by decide +kernel
theorem dX6_stands_81 : decode cX6_stands 81 = .ok (.goto (-54), 3) := by decide +kernel
theorem dX6_stands_84 : decode cX6_stands 84 = .ok (.iload_n 2, 1) := by decide +kernel
theorem dX6_stands_85 : decode cX6_stands 85 = .ok (.ireturn, 1) := by decide +kernel
theorem dX6_bound_0 : decode cX6_bound 0 = .ok (.aload_n 0, 1) := by decide +kernel
theorem dX6_bound_1 : decode cX6_bound 1 = .ok (.getfield 35, 3) := by decide +kernel
theorem dX6_bound_4 : decode cX6_bound 4 = .ok (.iload_n 1, 1) := by decide +kernel
theorem dX6_bound_5 : decode cX6_bound 5 = .ok (.iaload, 1) := by decide +kernel
theorem dX6_bound_6 : decode cX6_bound 6 = .ok (.istore_n 2, 1) := by decide +kernel
theorem dX6_bound_7 : decode cX6_bound 7 = .ok (.iconst 0, 1) := by decide +kernel
theorem dX6_bound_8 : decode cX6_bound 8 = .ok (.istore_n 3, 1) := by decide +kernel
theorem dX6_bound_9 : decode cX6_bound 9 = .ok (.iload_n 3, 1) := by decide +kernel
theorem dX6_bound_10 : decode cX6_bound 10 = .ok (.aload_n 0, 1) := by decide +kernel
theorem dX6_bound_11 : decode cX6_bound 11 = .ok (.getfield 100, 3) := by decide +kernel
theorem dX6_bound_14 : decode cX6_bound 14 = .ok (.if_icmp .ge 51, 3) := by decide +kernel
theorem dX6_bound_17 : decode cX6_bound 17 = .ok (.iload_n 2, 1) := by decide +kernel
theorem dX6_bound_18 : decode cX6_bound 18 = .ok (.aload_n 0, 1) := by decide +kernel
theorem dX6_bound_19 : decode cX6_bound 19 = .ok (.getfield 56, 3) := by decide +kernel
theorem dX6_bound_22 : decode cX6_bound 22 = .ok (.iload_n 3, 1) := by decide +kernel
theorem dX6_bound_23 : decode cX6_bound 23 = .ok (.iaload, 1) := by decide +kernel
theorem dX6_bound_24 : decode cX6_bound 24 = .ok (.iload_n 1, 1) := by decide +kernel
theorem dX6_bound_25 : decode cX6_bound 25 = .ok (.if_icmp .ne 31, 3) := by decide +kernel
theorem dX6_bound_28 : decode cX6_bound 28 = .ok (.aload_n 0, 1) := by decide +kernel
theorem dX6_bound_29 : decode cX6_bound 29 = .ok (.getfield 74, 3) := by decide +kernel
theorem dX6_bound_32 : decode cX6_bound 32 = .ok (.iload_n 3, 1) := by decide +kernel
theorem dX6_bound_33 : decode cX6_bound 33 = .ok (.iaload, 1) := by decide +kernel
theorem dX6_bound_34 : decode cX6_bound 34 = .ok (.iconst 2, 1) := by decide +kernel
theorem dX6_bound_35 : decode cX6_bound 35 = .ok (.if_icmp .ne 12, 3) := by decide +kernel
theorem dX6_bound_38 : decode cX6_bound 38 = .ok (.aload_n 0, 1) := by decide +kernel
theorem dX6_bound_39 : decode cX6_bound 39 = .ok (.getfield 65, 3) := by decide +kernel
theorem dX6_bound_42 : decode cX6_bound 42 = .ok (.iload_n 3, 1) := by decide +kernel
theorem dX6_bound_43 : decode cX6_bound 43 = .ok (.iaload, 1) := by decide +kernel
theorem dX6_bound_44 : decode cX6_bound 44 = .ok (.goto 13, 3) := by decide +kernel
theorem dX6_bound_47 : decode cX6_bound 47 = .ok (.aload_n 0, 1) := by decide +kernel
theorem dX6_bound_48 : decode cX6_bound 48 = .ok (.getfield 62, 3) := by decide +kernel
theorem dX6_bound_51 : decode cX6_bound 51 = .ok (.iload_n 3, 1) := by decide +kernel
theorem dX6_bound_52 : decode cX6_bound 52 = .ok (.iaload, 1) := by decide +kernel
theorem dX6_bound_53 : decode cX6_bound 53 = .ok (.goto 4, 3) := by decide +kernel
theorem dX6_bound_56 : decode cX6_bound 56 = .ok (.iconst 0, 1) := by decide +kernel
theorem dX6_bound_57 : decode cX6_bound 57 = .ok (.iadd, 1) := by decide +kernel
theorem dX6_bound_58 : decode cX6_bound 58 = .ok (.istore_n 2, 1) := by decide +kernel
theorem dX6_bound_59 : decode cX6_bound 59 = .ok (.iinc 3 1, 3) := by decide +kernel
theorem dX6_bound_62 : decode cX6_bound 62 = .ok (.goto (-53), 3) := by decide +kernel
theorem dX6_bound_65 : decode cX6_bound 65 = .ok (.iload_n 2, 1) := by decide +kernel
theorem dX6_bound_66 : decode cX6_bound 66 = .ok (.ireturn, 1) := by decide +kernel
theorem dX6_free_0 : decode cX6_free 0 = .ok (.aload_n 0, 1) := by decide +kernel
theorem dX6_free_1 : decode cX6_free 1 = .ok (.iload_n 1, 1) := by decide +kernel
theorem dX6_free_2 : decode cX6_free 2 = .ok (.invokevirtual 106, 3) := by decide +kernel
theorem dX6_free_5 : decode cX6_free 5 = .ok (.aload_n 0, 1) := by decide +kernel
theorem dX6_free_6 : decode cX6_free 6 = .ok (.iload_n 1, 1) := by decide +kernel
theorem dX6_free_7 : decode cX6_free 7 = .ok (.invokevirtual 110, 3) := by decide +kernel
theorem dX6_free_10 : decode cX6_free 10 = .ok (.isub, 1) := by decide +kernel
theorem dX6_free_11 : decode cX6_free 11 = .ok (.ireturn, 1) := by decide +kernel
theorem dX6_line_0 : decode cX6_line 0 = .ok (.iload_n 1, 1) := by decide +kernel
theorem dX6_line_1 : decode cX6_line 1 = .ok (.iconst 0, 1) := by decide +kernel
theorem dX6_line_2 : decode cX6_line 2 = .ok (.iconst 3, 1) := by decide +kernel
theorem dX6_line_3 : decode cX6_line 3 = .ok (.invokestatic 93, 3) := by decide +kernel
theorem dX6_line_6 : decode cX6_line 6 = .ok (.ifCond .eq 17, 3) := by decide +kernel
theorem dX6_line_9 : decode cX6_line 9 = .ok (.iload_n 2, 1) := by decide +kernel
theorem dX6_line_10 : decode cX6_line 10 = .ok (.iconst 0, 1) := by decide +kernel
theorem dX6_line_11 : decode cX6_line 11 = .ok (.ldc 113, 2) := by decide +kernel
theorem dX6_line_13 : decode cX6_line 13 = .ok (.invokestatic 93, 3) := by decide +kernel
theorem dX6_line_16 : decode cX6_line 16 = .ok (.ifCond .eq 7, 3) := by decide +kernel
theorem dX6_line_19 : decode cX6_line 19 = .ok (.iconst 1, 1) := by decide +kernel
theorem dX6_line_20 : decode cX6_line 20 = .ok (.goto 4, 3) := by decide +kernel
theorem dX6_line_23 : decode cX6_line 23 = .ok (.iconst 0, 1) := by decide +kernel
theorem dX6_line_24 : decode cX6_line 24 = .ok (.istore_n 3, 1) := by decide +kernel
theorem dX6_line_25 : decode cX6_line 25 = .ok (.aload_n 0, 1) := by decide +kernel
theorem dX6_line_26 : decode cX6_line 26 = .ok (.iload_n 3, 1) := by decide +kernel
theorem dX6_line_27 : decode cX6_line 27 = .ok (.ifCond .ne 7, 3) := by decide +kernel
theorem dX6_line_30 : decode cX6_line 30 = .ok (.iconst 1, 1) := by decide +kernel
theorem dX6_line_31 : decode cX6_line 31 = .ok (.goto 17, 3) := by decide +kernel
theorem dX6_line_34 : decode cX6_line 34 = .ok (.aload_n 0, 1) := by decide +kernel
theorem dX6_line_35 : decode cX6_line 35 = .ok (.getfield 90, 3) := by decide +kernel
theorem dX6_line_38 : decode cX6_line 38 = .ok (.bipush 10, 2) := by decide +kernel
theorem dX6_line_40 : decode cX6_line 40 = .ok (.if_icmp .ne 7, 3) := by decide +kernel
theorem dX6_line_43 : decode cX6_line 43 = .ok (.iconst 2, 1) := by decide +kernel
theorem dX6_line_44 : decode cX6_line 44 = .ok (.goto 4, 3) := by decide +kernel
theorem dX6_line_47 : decode cX6_line 47 = .ok (.iconst 0, 1) := by decide +kernel
theorem dX6_line_48 : decode cX6_line 48 = .ok (.invokevirtual 114, 3) := by decide +kernel
theorem dX6_line_51 : decode cX6_line 51 = .ok (.ifCond .ne 5, 3) := by decide +kernel
theorem dX6_line_54 : decode cX6_line 54 = .ok (.iconst 0, 1) := by decide +kernel
theorem dX6_line_55 : decode cX6_line 55 = .ok (.ireturn, 1) := by decide +kernel
theorem dX6_line_56 : decode cX6_line 56 = .ok (.aload_n 0, 1) := by decide +kernel
theorem dX6_line_57 : decode cX6_line 57 = .ok (.getfield 23, 3) := by decide +kernel
theorem dX6_line_60 : decode cX6_line 60 = .ok (.aload_n 0, 1) := by decide +kernel
theorem dX6_line_61 : decode cX6_line 61 = .ok (.getfield 90, 3) := by decide +kernel
theorem dX6_line_64 : decode cX6_line 64 = .ok (.iload_n 1, 1) := by decide +kernel
theorem dX6_line_65 : decode cX6_line 65 = .ok (.iastore, 1) := by decide +kernel
theorem dX6_line_66 : decode cX6_line 66 = .ok (.aload_n 0, 1) := by decide +kernel
theorem dX6_line_67 : decode cX6_line 67 = .ok (.getfield 26, 3) := by decide +kernel
theorem dX6_line_70 : decode cX6_line 70 = .ok (.aload_n 0, 1) := by decide +kernel
theorem dX6_line_71 : decode cX6_line 71 = .ok (.getfield 90, 3) := by decide +kernel
theorem dX6_line_74 : decode cX6_line 74 = .ok (.iload_n 2, 1) := by decide +kernel
theorem dX6_line_75 : decode cX6_line 75 = .ok (.iastore, 1) := by decide +kernel
theorem dX6_line_76 : decode cX6_line 76 = .ok (.aload_n 0, 1) := by decide +kernel
theorem dX6_line_77 : decode cX6_line 77 = .ok (.dup, 1) := by decide +kernel
theorem dX6_line_78 : decode cX6_line 78 = .ok (.getfield 90, 3) := by decide +kernel
theorem dX6_line_81 : decode cX6_line 81 = .ok (.iconst 1, 1) := by decide +kernel
theorem dX6_line_82 : decode cX6_line 82 = .ok (.iadd, 1) := by decide +kernel
theorem dX6_line_83 : decode cX6_line 83 = .ok (.putfield 90, 3) := by decide +kernel
theorem dX6_line_86 : decode cX6_line 86 = .ok (.aload_n 0, 1) := by decide +kernel
theorem dX6_line_87 : decode cX6_line 87 = .ok (.getfield 90, 3) := by decide +kernel
theorem dX6_line_90 : decode cX6_line 90 = .ok (.iconst 1, 1) := by decide +kernel
theorem dX6_line_91 : decode cX6_line 91 = .ok (.isub, 1) := by decide +kernel
theorem dX6_line_92 : decode cX6_line 92 = .ok (.ireturn, 1) := by decide +kernel
theorem dX6_income_0 : decode cX6_income 0 = .ok (.aload_n 0, 1) := by decide +kernel
theorem dX6_income_1 : decode cX6_income 1 = .ok (.iload_n 1, 1) := by decide +kernel
theorem dX6_income_2 : decode cX6_income 2 = .ok (.iconst 0, 1) := by decide +kernel
theorem dX6_income_3 : decode cX6_income 3 = .ok (.iconst 3, 1) := by decide +kernel
theorem dX6_income_4 : decode cX6_income 4 = .ok (.invokestatic 93, 3) := by decide +kernel
theorem dX6_income_7 : decode cX6_income 7 = .ok (.ifCond .eq 17, 3) := by decide +kernel
theorem dX6_income_10 : decode cX6_income 10 = .ok (.iload_n 2, 1) := by decide +kernel
theorem dX6_income_11 : decode cX6_income 11 = .ok (.iconst 1, 1) := by decide +kernel
theorem dX6_income_12 : decode cX6_income 12 = .ok (.ldc 113, 2) := by decide +kernel
theorem dX6_income_14 : decode cX6_income 14 = .ok (.invokestatic 93, 3) := by decide +kernel
theorem dX6_income_17 : decode cX6_income 17 = .ok (.ifCond .eq 7, 3) := by decide +kernel
theorem dX6_income_20 : decode cX6_income 20 = .ok (.iconst 0, 1) := by decide +kernel
theorem dX6_income_21 : decode cX6_income 21 = .ok (.goto 4, 3) := by decide +kernel
theorem dX6_income_24 : decode cX6_income 24 = .ok (.iconst 1, 1) := by decide +kernel
theorem dX6_income_25 : decode cX6_income 25 = .ok (.invokevirtual 114, 3) := by decide +kernel
theorem dX6_income_28 : decode cX6_income 28 = .ok (.ifCond .ne 5, 3) := by decide +kernel
theorem dX6_income_31 : decode cX6_income 31 = .ok (.iconst 0, 1) := by decide +kernel
theorem dX6_income_32 : decode cX6_income 32 = .ok (.ireturn, 1) := by decide +kernel
theorem dX6_income_33 : decode cX6_income 33 = .ok (.aload_n 0, 1) := by decide +kernel
theorem dX6_income_34 : decode cX6_income 34 = .ok (.getfield 13, 3) := by decide +kernel
theorem dX6_income_37 : decode cX6_income 37 = .ok (.iload_n 1, 1) := by decide +kernel
theorem dX6_income_38 : decode cX6_income 38 = .ok (.dup2, 1) := by decide +kernel
theorem dX6_income_39 : decode cX6_income 39 = .ok (.iaload, 1) := by decide +kernel
theorem dX6_income_40 : decode cX6_income 40 = .ok (.iload_n 2, 1) := by decide +kernel
theorem dX6_income_41 : decode cX6_income 41 = .ok (.iadd, 1) := by decide +kernel
theorem dX6_income_42 : decode cX6_income 42 = .ok (.iastore, 1) := by decide +kernel
theorem dX6_income_43 : decode cX6_income 43 = .ok (.aload_n 0, 1) := by decide +kernel
theorem dX6_income_44 : decode cX6_income 44 = .ok (.getfield 13, 3) := by decide +kernel
theorem dX6_income_47 : decode cX6_income 47 = .ok (.iload_n 1, 1) := by decide +kernel
theorem dX6_income_48 : decode cX6_income 48 = .ok (.iaload, 1) := by decide +kernel
theorem dX6_income_49 : decode cX6_income 49 = .ok (.ireturn, 1) := by decide +kernel
theorem dX6_make_0 : decode cX6_make 0 = .ok (.aload_n 0, 1) := by decide +kernel
theorem dX6_make_1 : decode cX6_make 1 = .ok (.getfield 38, 3) := by decide +kernel
theorem dX6_make_4 : decode cX6_make 4 = .ok (.aload_n 0, 1) := by decide +kernel
theorem dX6_make_5 : decode cX6_make 5 = .ok (.getfield 97, 3) := by decide +kernel
theorem dX6_make_8 : decode cX6_make 8 = .ok (.iload_n 1, 1) := by decide +kernel
theorem dX6_make_9 : decode cX6_make 9 = .ok (.iastore, 1) := by decide +kernel
theorem dX6_make_10 : decode cX6_make 10 = .ok (.aload_n 0, 1) := by decide +kernel
theorem dX6_make_11 : decode cX6_make 11 = .ok (.getfield 41, 3) := by decide +kernel
theorem dX6_make_14 : decode cX6_make 14 = .ok (.aload_n 0, 1) := by decide +kernel
theorem dX6_make_15 : decode cX6_make 15 = .ok (.getfield 97, 3) := by decide +kernel
theorem dX6_make_18 : decode cX6_make 18 = .ok (.iload_n 2, 1) := by decide +kernel
theorem dX6_make_19 : decode cX6_make 19 = .ok (.iastore, 1) := by decide +kernel
theorem dX6_make_20 : decode cX6_make 20 = .ok (.aload_n 0, 1) := by decide +kernel
theorem dX6_make_21 : decode cX6_make 21 = .ok (.getfield 44, 3) := by decide +kernel
theorem dX6_make_24 : decode cX6_make 24 = .ok (.aload_n 0, 1) := by decide +kernel
theorem dX6_make_25 : decode cX6_make 25 = .ok (.getfield 97, 3) := by decide +kernel
theorem dX6_make_28 : decode cX6_make 28 = .ok (.iload_n 3, 1) := by decide +kernel
theorem dX6_make_29 : decode cX6_make 29 = .ok (.iastore, 1) := by decide +kernel
theorem dX6_make_30 : decode cX6_make 30 = .ok (.aload_n 0, 1) := by decide +kernel
theorem dX6_make_31 : decode cX6_make 31 = .ok (.getfield 50, 3) := by decide +kernel
theorem dX6_make_34 : decode cX6_make 34 = .ok (.aload_n 0, 1) := by decide +kernel
theorem dX6_make_35 : decode cX6_make 35 = .ok (.getfield 97, 3) := by decide +kernel
theorem dX6_make_38 : decode cX6_make 38 = .ok (.iconst 1, 1) := by decide +kernel
theorem dX6_make_39 : decode cX6_make 39 = .ok (.iastore, 1) := by decide +kernel
theorem dX6_make_40 : decode cX6_make 40 = .ok (.aload_n 0, 1) := by decide +kernel
theorem dX6_make_41 : decode cX6_make 41 = .ok (.dup, 1) := by decide +kernel
theorem dX6_make_42 : decode cX6_make 42 = .ok (.getfield 97, 3) := by decide +kernel
theorem dX6_make_45 : decode cX6_make 45 = .ok (.iconst 1, 1) := by decide +kernel
theorem dX6_make_46 : decode cX6_make 46 = .ok (.iadd, 1) := by decide +kernel
theorem dX6_make_47 : decode cX6_make 47 = .ok (.putfield 97, 3) := by decide +kernel
theorem dX6_make_50 : decode cX6_make 50 = .ok (.aload_n 0, 1) := by decide +kernel
theorem dX6_make_51 : decode cX6_make 51 = .ok (.getfield 97, 3) := by decide +kernel
theorem dX6_make_54 : decode cX6_make 54 = .ok (.iconst 1, 1) := by decide +kernel
theorem dX6_make_55 : decode cX6_make 55 = .ok (.isub, 1) := by decide +kernel
theorem dX6_make_56 : decode cX6_make 56 = .ok (.ireturn, 1) := by decide +kernel
theorem dX6_isMore_0 : decode cX6_isMore 0 = .ok (.iload_n 0, 1) := by decide +kernel
theorem dX6_isMore_1 : decode cX6_isMore 1 = .ok (.ifCond .eq 18, 3) := by decide +kernel
theorem dX6_isMore_4 : decode cX6_isMore 4 = .ok (.iload_n 0, 1) := by decide +kernel
theorem dX6_isMore_5 : decode cX6_isMore 5 = .ok (.ldc 118, 2) := by decide +kernel
theorem dX6_isMore_7 : decode cX6_isMore 7 = .ok (.ldc 119, 2) := by decide +kernel
theorem dX6_isMore_9 : decode cX6_isMore 9 = .ok (.invokestatic 93, 3) := by decide +kernel
theorem dX6_isMore_12 : decode cX6_isMore 12 = .ok (.ifCond .eq 7, 3) := by decide +kernel
theorem dX6_isMore_15 : decode cX6_isMore 15 = .ok (.iconst 1, 1) := by decide +kernel
theorem dX6_isMore_16 : decode cX6_isMore 16 = .ok (.goto 4, 3) := by decide +kernel
theorem dX6_isMore_19 : decode cX6_isMore 19 = .ok (.iconst 0, 1) := by decide +kernel
theorem dX6_isMore_20 : decode cX6_isMore 20 = .ok (.ireturn, 1) := by decide +kernel
theorem dX6_amend_0 : decode cX6_amend 0 = .ok (.aload_n 0, 1) := by decide +kernel
theorem dX6_amend_1 : decode cX6_amend 1 = .ok (.iload_n 1, 1) := by decide +kernel
theorem dX6_amend_2 : decode cX6_amend 2 = .ok (.invokevirtual 120, 3) := by decide +kernel
theorem dX6_amend_5 : decode cX6_amend 5 = .ok (.istore_n 3, 1) := by decide +kernel
theorem dX6_amend_6 : decode cX6_amend 6 = .ok (.aload_n 0, 1) := by decide +kernel
theorem dX6_amend_7 : decode cX6_amend 7 = .ok (.iload_n 3, 1) := by decide +kernel
theorem dX6_amend_8 : decode cX6_amend 8 = .ok (.ifCond .ne 7, 3) := by decide +kernel
theorem dX6_amend_11 : decode cX6_amend 11 = .ok (.iconst 1, 1) := by decide +kernel
theorem dX6_amend_12 : decode cX6_amend 12 = .ok (.goto 28, 3) := by decide +kernel
theorem dX6_amend_15 : decode cX6_amend 15 = .ok (.iload_n 2, 1) := by decide +kernel
theorem dX6_amend_16 : decode cX6_amend 16 = .ok (.invokestatic 123, 3) := by decide +kernel
theorem dX6_amend_19 : decode cX6_amend 19 = .ok (.ifCond .ne 7, 3) := by decide +kernel
theorem dX6_amend_22 : decode cX6_amend 22 = .ok (.iconst 2, 1) := by decide +kernel
theorem dX6_amend_23 : decode cX6_amend 23 = .ok (.goto 17, 3) := by decide +kernel
theorem dX6_amend_26 : decode cX6_amend 26 = .ok (.aload_n 0, 1) := by decide +kernel
theorem dX6_amend_27 : decode cX6_amend 27 = .ok (.getfield 97, 3) := by decide +kernel
theorem dX6_amend_30 : decode cX6_amend 30 = .ok (.bipush 40, 2) := by decide +kernel
theorem dX6_amend_32 : decode cX6_amend 32 = .ok (.if_icmp .ne 7, 3) := by decide +kernel
theorem dX6_amend_35 : decode cX6_amend 35 = .ok (.iconst 3, 1) := by decide +kernel
theorem dX6_amend_36 : decode cX6_amend 36 = .ok (.goto 4, 3) := by decide +kernel
theorem dX6_amend_39 : decode cX6_amend 39 = .ok (.iconst 0, 1) := by decide +kernel
theorem dX6_amend_40 : decode cX6_amend 40 = .ok (.invokevirtual 114, 3) := by decide +kernel
theorem dX6_amend_43 : decode cX6_amend 43 = .ok (.ifCond .ne 5, 3) := by decide +kernel
theorem dX6_amend_46 : decode cX6_amend 46 = .ok (.iconst 0, 1) := by decide +kernel
theorem dX6_amend_47 : decode cX6_amend 47 = .ok (.ireturn, 1) := by decide +kernel
theorem dX6_amend_48 : decode cX6_amend 48 = .ok (.aload_n 0, 1) := by decide +kernel
theorem dX6_amend_49 : decode cX6_amend 49 = .ok (.iconst (-1), 1) := by decide +kernel
theorem dX6_amend_50 : decode cX6_amend 50 = .ok (.iload_n 1, 1) := by decide +kernel
theorem dX6_amend_51 : decode cX6_amend 51 = .ok (.iload_n 2, 1) := by decide +kernel
theorem dX6_amend_52 : decode cX6_amend 52 = .ok (.invokevirtual 126, 3) := by decide +kernel
theorem dX6_amend_55 : decode cX6_amend 55 = .ok (.ireturn, 1) := by decide +kernel
theorem dX6_amendOn_0 : decode cX6_amendOn 0 = .ok (.aload_n 0, 1) := by decide +kernel
theorem dX6_amendOn_1 : decode cX6_amendOn 1 = .ok (.iload_n 1, 1) := by decide +kernel
theorem dX6_amendOn_2 : decode cX6_amendOn 2 = .ok (.invokevirtual 130, 3) := by decide +kernel
theorem dX6_amendOn_5 : decode cX6_amendOn 5 = .ok (.istore_n 3, 1) := by decide +kernel
theorem dX6_amendOn_6 : decode cX6_amendOn 6 = .ok (.aload_n 0, 1) := by decide +kernel
theorem dX6_amendOn_7 : decode cX6_amendOn 7 = .ok (.iload_n 3, 1) := by decide +kernel
theorem dX6_amendOn_8 : decode cX6_amendOn 8 = .ok (.ifCond .ne 7, 3) := by decide +kernel
theorem dX6_amendOn_11 : decode cX6_amendOn 11 = .ok (.iconst 1, 1) := by decide +kernel
theorem dX6_amendOn_12 : decode cX6_amendOn 12 = .ok (.goto 37, 3) := by decide +kernel
theorem dX6_amendOn_15 : decode cX6_amendOn 15 = .ok (.iload_n 2, 1) := by decide +kernel
theorem dX6_amendOn_16 : decode cX6_amendOn 16 = .ok (.invokestatic 123, 3) := by decide +kernel
theorem dX6_amendOn_19 : decode cX6_amendOn 19 = .ok (.ifCond .ne 7, 3) := by decide +kernel
theorem dX6_amendOn_22 : decode cX6_amendOn 22 = .ok (.iconst 2, 1) := by decide +kernel
theorem dX6_amendOn_23 : decode cX6_amendOn 23 = .ok (.goto 26, 3) := by decide +kernel
theorem dX6_amendOn_26 : decode cX6_amendOn 26 = .ok (.aload_n 0, 1) := by decide +kernel
theorem dX6_amendOn_27 : decode cX6_amendOn 27 = .ok (.getfield 47, 3) := by decide +kernel
theorem dX6_amendOn_30 : decode cX6_amendOn 30 = .ok (.iload_n 1, 1) := by decide +kernel
theorem dX6_amendOn_31 : decode cX6_amendOn 31 = .ok (.iaload, 1) := by decide +kernel
theorem dX6_amendOn_32 : decode cX6_amendOn 32 = .ok (.ifCond .ne 12, 3) := by decide +kernel
theorem dX6_amendOn_35 : decode cX6_amendOn 35 = .ok (.aload_n 0, 1) := by decide +kernel
theorem dX6_amendOn_36 : decode cX6_amendOn 36 = .ok (.getfield 97, 3) := by decide +kernel
theorem dX6_amendOn_39 : decode cX6_amendOn 39 = .ok (.bipush 40, 2) := by decide +kernel
theorem dX6_amendOn_41 : decode cX6_amendOn 41 = .ok (.if_icmp .ne 7, 3) := by decide +kernel
theorem dX6_amendOn_44 : decode cX6_amendOn 44 = .ok (.iconst 3, 1) := by decide +kernel
theorem dX6_amendOn_45 : decode cX6_amendOn 45 = .ok (.goto 4, 3) := by decide +kernel
theorem dX6_amendOn_48 : decode cX6_amendOn 48 = .ok (.iconst 0, 1) := by decide +kernel
theorem dX6_amendOn_49 : decode cX6_amendOn 49 = .ok (.invokevirtual 114, 3) := by decide +kernel
theorem dX6_amendOn_52 : decode cX6_amendOn 52 = .ok (.ifCond .ne 5, 3) := by decide +kernel
theorem dX6_amendOn_55 : decode cX6_amendOn 55 = .ok (.iconst 0, 1) := by decide +kernel
theorem dX6_amendOn_56 : decode cX6_amendOn 56 = .ok (.ireturn, 1) := by decide +kernel
theorem dX6_amendOn_57 : decode cX6_amendOn 57 = .ok (.aload_n 0, 1) := by decide +kernel
theorem dX6_amendOn_58 : decode cX6_amendOn 58 = .ok (.iload_n 1, 1) := by decide +kernel
theorem dX6_amendOn_59 : decode cX6_amendOn 59 = .ok (.aload_n 0, 1) := by decide +kernel
theorem dX6_amendOn_60 : decode cX6_amendOn 60 = .ok (.getfield 41, 3) := by decide +kernel
theorem dX6_amendOn_63 : decode cX6_amendOn 63 = .ok (.iload_n 1, 1) := by decide +kernel
theorem dX6_amendOn_64 : decode cX6_amendOn 64 = .ok (.iaload, 1) := by decide +kernel
theorem dX6_amendOn_65 : decode cX6_amendOn 65 = .ok (.iload_n 2, 1) := by decide +kernel
theorem dX6_amendOn_66 : decode cX6_amendOn 66 = .ok (.invokevirtual 126, 3) := by decide +kernel
theorem dX6_amendOn_69 : decode cX6_amendOn 69 = .ok (.ireturn, 1) := by decide +kernel
theorem dX6_votesOf_0 : decode cX6_votesOf 0 = .ok (.iconst 0, 1) := by decide +kernel
theorem dX6_votesOf_1 : decode cX6_votesOf 1 = .ok (.istore_n 3, 1) := by decide +kernel
theorem dX6_votesOf_2 : decode cX6_votesOf 2 = .ok (.iconst 0, 1) := by decide +kernel
theorem dX6_votesOf_3 : decode cX6_votesOf 3 = .ok (.istore 4, 2) := by decide +kernel
theorem dX6_votesOf_5 : decode cX6_votesOf 5 = .ok (.iload 4, 2) := by decide +kernel
theorem dX6_votesOf_7 : decode cX6_votesOf 7 = .ok (.bipush 9, 2) := by decide +kernel
theorem dX6_votesOf_9 : decode cX6_votesOf 9 = .ok (.if_icmp .ge 33, 3) := by decide +kernel
theorem dX6_votesOf_12 : decode cX6_votesOf 12 = .ok (.iload_n 3, 1) := by decide +kernel
theorem dX6_votesOf_13 : decode cX6_votesOf 13 = .ok (.aload_n 0, 1) := by decide +kernel
theorem dX6_votesOf_14 : decode cX6_votesOf 14 = .ok (.getfield 53, 3) := by decide +kernel
theorem dX6_votesOf_17 : decode cX6_votesOf 17 = .ok (.bipush 9, 2) := by decide +kernel
theorem dX6_votesOf_19 : decode cX6_votesOf 19 = .ok (.iload_n 1, 1) := by decide +kernel
theorem dX6_votesOf_20 : decode cX6_votesOf 20 = .ok (.imul, 1) := by decide +kernel
theorem dX6_votesOf_21 : decode cX6_votesOf 21 = .ok (.iload 4, 2) := by decide +kernel
theorem dX6_votesOf_23 : decode cX6_votesOf 23 = .ok (.iadd, 1) := by decide +kernel
theorem dX6_votesOf_24 : decode cX6_votesOf 24 = .ok (.iaload, 1) := by decide +kernel
theorem dX6_votesOf_25 : decode cX6_votesOf 25 = .ok (.iload_n 2, 1) := by decide +kernel
theorem dX6_votesOf_26 : decode cX6_votesOf 26 = .ok (.if_icmp .ne 7, 3) := by decide +kernel
theorem dX6_votesOf_29 : decode cX6_votesOf 29 = .ok (.iconst 1, 1) := by decide +kernel
theorem dX6_votesOf_30 : decode cX6_votesOf 30 = .ok (.goto 4, 3) := by decide +kernel
theorem dX6_votesOf_33 : decode cX6_votesOf 33 = .ok (.iconst 0, 1) := by decide +kernel
theorem dX6_votesOf_34 : decode cX6_votesOf 34 = .ok (.iadd, 1) := by decide +kernel
theorem dX6_votesOf_35 : decode cX6_votesOf 35 = .ok (.istore_n 3, 1) := by decide +kernel
theorem dX6_votesOf_36 : decode cX6_votesOf 36 = .ok (.iinc 4 1, 3) := by decide +kernel
theorem dX6_votesOf_39 : decode cX6_votesOf 39 = .ok (.goto (-34), 3) := by decide +kernel
theorem dX6_votesOf_42 : decode cX6_votesOf 42 = .ok (.iload_n 3, 1) := by decide +kernel
theorem dX6_votesOf_43 : decode cX6_votesOf 43 = .ok (.ireturn, 1) := by decide +kernel
theorem dX6_vote_0 : decode cX6_vote 0 = .ok (.iload_n 1, 1) := by decide +kernel
theorem dX6_vote_1 : decode cX6_vote 1 = .ok (.iconst 0, 1) := by decide +kernel
theorem dX6_vote_2 : decode cX6_vote 2 = .ok (.bipush 8, 2) := by decide +kernel
theorem dX6_vote_4 : decode cX6_vote 4 = .ok (.invokestatic 93, 3) := by decide +kernel
theorem dX6_vote_7 : decode cX6_vote 7 = .ok (.ifCond .eq 15, 3) := by decide +kernel
theorem dX6_vote_10 : decode cX6_vote 10 = .ok (.aload_n 0, 1) := by decide +kernel
theorem dX6_vote_11 : decode cX6_vote 11 = .ok (.iload_n 2, 1) := by decide +kernel
theorem dX6_vote_12 : decode cX6_vote 12 = .ok (.invokevirtual 130, 3) := by decide +kernel
theorem dX6_vote_15 : decode cX6_vote 15 = .ok (.ifCond .eq 7, 3) := by decide +kernel
theorem dX6_vote_18 : decode cX6_vote 18 = .ok (.iconst 1, 1) := by decide +kernel
theorem dX6_vote_19 : decode cX6_vote 19 = .ok (.goto 4, 3) := by decide +kernel
theorem dX6_vote_22 : decode cX6_vote 22 = .ok (.iconst 0, 1) := by decide +kernel
theorem dX6_vote_23 : decode cX6_vote 23 = .ok (.istore 4, 2) := by decide +kernel
theorem dX6_vote_25 : decode cX6_vote 25 = .ok (.aload_n 0, 1) := by decide +kernel
theorem dX6_vote_26 : decode cX6_vote 26 = .ok (.iload 4, 2) := by decide +kernel
theorem dX6_vote_28 : decode cX6_vote 28 = .ok (.ifCond .ne 7, 3) := by decide +kernel
theorem dX6_vote_31 : decode cX6_vote 31 = .ok (.iconst 1, 1) := by decide +kernel
theorem dX6_vote_32 : decode cX6_vote 32 = .ok (.goto 17, 3) := by decide +kernel
theorem dX6_vote_35 : decode cX6_vote 35 = .ok (.aload_n 0, 1) := by decide +kernel
theorem dX6_vote_36 : decode cX6_vote 36 = .ok (.getfield 47, 3) := by decide +kernel
theorem dX6_vote_39 : decode cX6_vote 39 = .ok (.iload_n 2, 1) := by decide +kernel
theorem dX6_vote_40 : decode cX6_vote 40 = .ok (.iaload, 1) := by decide +kernel
theorem dX6_vote_41 : decode cX6_vote 41 = .ok (.ifCond .eq 7, 3) := by decide +kernel
theorem dX6_vote_44 : decode cX6_vote 44 = .ok (.iconst 2, 1) := by decide +kernel
theorem dX6_vote_45 : decode cX6_vote 45 = .ok (.goto 4, 3) := by decide +kernel
theorem dX6_vote_48 : decode cX6_vote 48 = .ok (.iconst 0, 1) := by decide +kernel
theorem dX6_vote_49 : decode cX6_vote 49 = .ok (.invokevirtual 114, 3) := by decide +kernel
theorem dX6_vote_52 : decode cX6_vote 52 = .ok (.ifCond .ne 5, 3) := by decide +kernel
theorem dX6_vote_55 : decode cX6_vote 55 = .ok (.iconst 0, 1) := by decide +kernel
theorem dX6_vote_56 : decode cX6_vote 56 = .ok (.ireturn, 1) := by decide +kernel
theorem dX6_vote_57 : decode cX6_vote 57 = .ok (.aload_n 0, 1) := by decide +kernel
theorem dX6_vote_58 : decode cX6_vote 58 = .ok (.getfield 53, 3) := by decide +kernel
theorem dX6_vote_61 : decode cX6_vote 61 = .ok (.bipush 9, 2) := by decide +kernel
theorem dX6_vote_63 : decode cX6_vote 63 = .ok (.iload_n 2, 1) := by decide +kernel
theorem dX6_vote_64 : decode cX6_vote 64 = .ok (.imul, 1) := by decide +kernel
theorem dX6_vote_65 : decode cX6_vote 65 = .ok (.iload_n 1, 1) := by decide +kernel
theorem dX6_vote_66 : decode cX6_vote 66 = .ok (.iadd, 1) := by decide +kernel
theorem dX6_vote_67 : decode cX6_vote 67 = .ok (.iload_n 3, 1) := by decide +kernel
theorem dX6_vote_68 : decode cX6_vote 68 = .ok (.ifCond .eq 7, 3) := by decide +kernel
theorem dX6_vote_71 : decode cX6_vote 71 = .ok (.iconst 1, 1) := by decide +kernel
theorem dX6_vote_72 : decode cX6_vote 72 = .ok (.goto 4, 3) := by decide +kernel
theorem dX6_vote_75 : decode cX6_vote 75 = .ok (.iconst 2, 1) := by decide +kernel
theorem dX6_vote_76 : decode cX6_vote 76 = .ok (.iastore, 1) := by decide +kernel
theorem dX6_vote_77 : decode cX6_vote 77 = .ok (.aload_n 0, 1) := by decide +kernel
theorem dX6_vote_78 : decode cX6_vote 78 = .ok (.iload_n 2, 1) := by decide +kernel
theorem dX6_vote_79 : decode cX6_vote 79 = .ok (.iconst 1, 1) := by decide +kernel
theorem dX6_vote_80 : decode cX6_vote 80 = .ok (.invokevirtual 133, 3) := by decide +kernel
theorem dX6_vote_83 : decode cX6_vote 83 = .ok (.ireturn, 1) := by decide +kernel
theorem dX6_withdraw_0 : decode cX6_withdraw 0 = .ok (.aload_n 0, 1) := by decide +kernel
theorem dX6_withdraw_1 : decode cX6_withdraw 1 = .ok (.getfield 74, 3) := by decide +kernel
theorem dX6_withdraw_4 : decode cX6_withdraw 4 = .ok (.iload_n 1, 1) := by decide +kernel
theorem dX6_withdraw_5 : decode cX6_withdraw 5 = .ok (.iconst 2, 1) := by decide +kernel
theorem dX6_withdraw_6 : decode cX6_withdraw 6 = .ok (.iastore, 1) := by decide +kernel
theorem dX6_withdraw_7 : decode cX6_withdraw 7 = .ok (.aload_n 0, 1) := by decide +kernel
theorem dX6_withdraw_8 : decode cX6_withdraw 8 = .ok (.getfield 20, 3) := by decide +kernel
theorem dX6_withdraw_11 : decode cX6_withdraw 11 = .ok (.aload_n 0, 1) := by decide +kernel
theorem dX6_withdraw_12 : decode cX6_withdraw 12 = .ok (.getfield 59, 3) := by decide +kernel
theorem dX6_withdraw_15 : decode cX6_withdraw 15 = .ok (.iload_n 1, 1) := by decide +kernel
theorem dX6_withdraw_16 : decode cX6_withdraw 16 = .ok (.iaload, 1) := by decide +kernel
theorem dX6_withdraw_17 : decode cX6_withdraw 17 = .ok (.dup2, 1) := by decide +kernel
theorem dX6_withdraw_18 : decode cX6_withdraw 18 = .ok (.iaload, 1) := by decide +kernel
theorem dX6_withdraw_19 : decode cX6_withdraw 19 = .ok (.aload_n 0, 1) := by decide +kernel
theorem dX6_withdraw_20 : decode cX6_withdraw 20 = .ok (.getfield 65, 3) := by decide +kernel
theorem dX6_withdraw_23 : decode cX6_withdraw 23 = .ok (.iload_n 1, 1) := by decide +kernel
theorem dX6_withdraw_24 : decode cX6_withdraw 24 = .ok (.iaload, 1) := by decide +kernel
theorem dX6_withdraw_25 : decode cX6_withdraw 25 = .ok (.iadd, 1) := by decide +kernel
theorem dX6_withdraw_26 : decode cX6_withdraw 26 = .ok (.iastore, 1) := by decide +kernel
theorem dX6_withdraw_27 : decode cX6_withdraw 27 = .ok (.return_, 1) := by decide +kernel
theorem dX6_look_0 : decode cX6_look 0 = .ok (.iconst 0, 1) := by decide +kernel
theorem dX6_look_1 : decode cX6_look 1 = .ok (.istore_n 2, 1) := by decide +kernel
theorem dX6_look_2 : decode cX6_look 2 = .ok (.aload_n 0, 1) := by decide +kernel
theorem dX6_look_3 : decode cX6_look 3 = .ok (.getfield 100, 3) := by decide +kernel
theorem dX6_look_6 : decode cX6_look 6 = .ok (.iconst 1, 1) := by decide +kernel
theorem dX6_look_7 : decode cX6_look 7 = .ok (.isub, 1) := by decide +kernel
theorem dX6_look_8 : decode cX6_look 8 = .ok (.istore_n 3, 1) := by decide +kernel
theorem dX6_look_9 : decode cX6_look 9 = .ok (.iload_n 3, 1) := by decide +kernel
theorem dX6_look_10 : decode cX6_look 10 = .ok (.ifCond .lt 58, 3) := by decide +kernel
theorem dX6_look_13 : decode cX6_look 13 = .ok (.aload_n 0, 1) := by decide +kernel
theorem dX6_look_14 : decode cX6_look 14 = .ok (.getfield 56, 3) := by decide +kernel
theorem dX6_look_17 : decode cX6_look 17 = .ok (.iload_n 3, 1) := by decide +kernel
theorem dX6_look_18 : decode cX6_look 18 = .ok (.iaload, 1) := by decide +kernel
theorem dX6_look_19 : decode cX6_look 19 = .ok (.iload_n 1, 1) := by decide +kernel
theorem dX6_look_20 : decode cX6_look 20 = .ok (.if_icmp .ne 42, 3) := by decide +kernel
theorem dX6_look_23 : decode cX6_look 23 = .ok (.aload_n 0, 1) := by decide +kernel
theorem dX6_look_24 : decode cX6_look 24 = .ok (.getfield 74, 3) := by decide +kernel
theorem dX6_look_27 : decode cX6_look 27 = .ok (.iload_n 3, 1) := by decide +kernel
theorem dX6_look_28 : decode cX6_look 28 = .ok (.iaload, 1) := by decide +kernel
theorem dX6_look_29 : decode cX6_look 29 = .ok (.ifCond .ne 33, 3) := by decide +kernel
theorem dX6_look_32 : decode cX6_look 32 = .ok (.aload_n 0, 1) := by decide +kernel
theorem dX6_look_33 : decode cX6_look 33 = .ok (.iload_n 1, 1) := by decide +kernel
theorem dX6_look_34 : decode cX6_look 34 = .ok (.invokevirtual 137, 3) := by decide +kernel
theorem dX6_look_37 : decode cX6_look 37 = .ok (.ifCond .ge 25, 3) := by decide +kernel
theorem dX6_look_40 : decode cX6_look 40 = .ok (.aload_n 0, 1) := by decide +kernel
theorem dX6_look_41 : decode cX6_look 41 = .ok (.getfield 74, 3) := by decide +kernel
theorem dX6_look_44 : decode cX6_look 44 = .ok (.iload_n 3, 1) := by decide +kernel
theorem dX6_look_45 : decode cX6_look 45 = .ok (.iconst 1, 1) := by decide +kernel
theorem dX6_look_46 : decode cX6_look 46 = .ok (.iastore, 1) := by decide +kernel
theorem dX6_look_47 : decode cX6_look 47 = .ok (.aload_n 0, 1) := by decide +kernel
theorem dX6_look_48 : decode cX6_look 48 = .ok (.getfield 62, 3) := by decide +kernel
theorem dX6_look_51 : decode cX6_look 51 = .ok (.iload_n 3, 1) := by decide +kernel
theorem dX6_look_52 : decode cX6_look 52 = .ok (.aload_n 0, 1) := by decide +kernel
theorem dX6_look_53 : decode cX6_look 53 = .ok (.getfield 65, 3) := by decide +kernel
theorem dX6_look_56 : decode cX6_look 56 = .ok (.iload_n 3, 1) := by decide +kernel
theorem dX6_look_57 : decode cX6_look 57 = .ok (.iaload, 1) := by decide +kernel
theorem dX6_look_58 : decode cX6_look 58 = .ok (.iastore, 1) := by decide +kernel
theorem dX6_look_59 : decode cX6_look 59 = .ok (.iinc 2 1, 3) := by decide +kernel
theorem dX6_look_62 : decode cX6_look 62 = .ok (.iinc 3 (-1), 3) := by decide +kernel
theorem dX6_look_65 : decode cX6_look 65 = .ok (.goto (-56), 3) := by decide +kernel
theorem dX6_look_68 : decode cX6_look 68 = .ok (.aload_n 0, 1) := by decide +kernel
theorem dX6_look_69 : decode cX6_look 69 = .ok (.iload_n 1, 1) := by decide +kernel
theorem dX6_look_70 : decode cX6_look 70 = .ok (.invokevirtual 137, 3) := by decide +kernel
theorem dX6_look_73 : decode cX6_look 73 = .ok (.ineg, 1) := by decide +kernel
theorem dX6_look_74 : decode cX6_look 74 = .ok (.istore_n 3, 1) := by decide +kernel
theorem dX6_look_75 : decode cX6_look 75 = .ok (.iload_n 3, 1) := by decide +kernel
theorem dX6_look_76 : decode cX6_look 76 = .ok (.ifCond .le 23, 3) := by decide +kernel
theorem dX6_look_79 : decode cX6_look 79 = .ok (.aload_n 0, 1) := by decide +kernel
theorem dX6_look_80 : decode cX6_look 80 = .ok (.getfield 32, 3) := by decide +kernel
theorem dX6_look_83 : decode cX6_look 83 = .ok (.iload_n 1, 1) := by decide +kernel
theorem dX6_look_84 : decode cX6_look 84 = .ok (.dup2, 1) := by decide +kernel
theorem dX6_look_85 : decode cX6_look 85 = .ok (.iaload, 1) := by decide +kernel
theorem dX6_look_86 : decode cX6_look 86 = .ok (.iload_n 3, 1) := by decide +kernel
theorem dX6_look_87 : decode cX6_look 87 = .ok (.iadd, 1) := by decide +kernel
theorem dX6_look_88 : decode cX6_look 88 = .ok (.iastore, 1) := by decide +kernel
theorem dX6_look_89 : decode cX6_look 89 = .ok (.aload_n 0, 1) := by decide +kernel
theorem dX6_look_90 : decode cX6_look 90 = .ok (.dup, 1) := by decide +kernel
theorem dX6_look_91 : decode cX6_look 91 = .ok (.getfield 140, 3) := by decide +kernel
theorem dX6_look_94 : decode cX6_look 94 = .ok (.iload_n 3, 1) := by decide +kernel
theorem dX6_look_95 : decode cX6_look 95 = .ok (.isub, 1) := by decide +kernel
theorem dX6_look_96 : decode cX6_look 96 = .ok (.putfield 140, 3) := by decide +kernel
theorem dX6_look_99 : decode cX6_look 99 = .ok (.iload_n 2, 1) := by decide +kernel
theorem dX6_look_100 : decode cX6_look 100 = .ok (.ireturn, 1) := by decide +kernel
theorem dX6_fall_0 : decode cX6_fall 0 = .ok (.iconst 0, 1) := by decide +kernel
theorem dX6_fall_1 : decode cX6_fall 1 = .ok (.istore_n 2, 1) := by decide +kernel
theorem dX6_fall_2 : decode cX6_fall 2 = .ok (.iconst 0, 1) := by decide +kernel
theorem dX6_fall_3 : decode cX6_fall 3 = .ok (.istore_n 3, 1) := by decide +kernel
theorem dX6_fall_4 : decode cX6_fall 4 = .ok (.iload_n 1, 1) := by decide +kernel
theorem dX6_fall_5 : decode cX6_fall 5 = .ok (.istore 4, 2) := by decide +kernel
theorem dX6_fall_7 : decode cX6_fall 7 = .ok (.iload 4, 2) := by decide +kernel
theorem dX6_fall_9 : decode cX6_fall 9 = .ok (.aload_n 0, 1) := by decide +kernel
theorem dX6_fall_10 : decode cX6_fall 10 = .ok (.getfield 97, 3) := by decide +kernel
theorem dX6_fall_13 : decode cX6_fall 13 = .ok (.if_icmp .ge 147, 3) := by decide +kernel
theorem dX6_fall_16 : decode cX6_fall 16 = .ok (.iload 4, 2) := by decide +kernel
theorem dX6_fall_18 : decode cX6_fall 18 = .ok (.iload_n 1, 1) := by decide +kernel
theorem dX6_fall_19 : decode cX6_fall 19 = .ok (.if_icmp .eq 29, 3) := by decide +kernel
theorem dX6_fall_22 : decode cX6_fall 22 = .ok (.aload_n 0, 1) := by decide +kernel
theorem dX6_fall_23 : decode cX6_fall 23 = .ok (.getfield 38, 3) := by decide +kernel
theorem dX6_fall_26 : decode cX6_fall 26 = .ok (.iload 4, 2) := by decide +kernel
theorem dX6_fall_28 : decode cX6_fall 28 = .ok (.iaload, 1) := by decide +kernel
theorem dX6_fall_29 : decode cX6_fall 29 = .ok (.iload_n 1, 1) := by decide +kernel
theorem dX6_fall_30 : decode cX6_fall 30 = .ok (.if_icmp .lt 22, 3) := by decide +kernel
theorem dX6_fall_33 : decode cX6_fall 33 = .ok (.aload_n 0, 1) := by decide +kernel
theorem dX6_fall_34 : decode cX6_fall 34 = .ok (.getfield 84, 3) := by decide +kernel
theorem dX6_fall_37 : decode cX6_fall 37 = .ok (.aload_n 0, 1) := by decide +kernel
theorem dX6_fall_38 : decode cX6_fall 38 = .ok (.getfield 38, 3) := by decide +kernel
theorem dX6_fall_41 : decode cX6_fall 41 = .ok (.iload 4, 2) := by decide +kernel
theorem dX6_fall_43 : decode cX6_fall 43 = .ok (.iaload, 1) := by decide +kernel
theorem dX6_fall_44 : decode cX6_fall 44 = .ok (.baload, 1) := by decide +kernel
theorem dX6_fall_45 : decode cX6_fall 45 = .ok (.ifCond .eq 7, 3) := by decide +kernel
theorem dX6_fall_48 : decode cX6_fall 48 = .ok (.iconst 1, 1) := by decide +kernel
theorem dX6_fall_49 : decode cX6_fall 49 = .ok (.goto 4, 3) := by decide +kernel
theorem dX6_fall_52 : decode cX6_fall 52 = .ok (.iconst 0, 1) := by decide +kernel
theorem dX6_fall_53 : decode cX6_fall 53 = .ok (.istore 5, 2) := by decide +kernel
theorem dX6_fall_55 : decode cX6_fall 55 = .ok (.aload_n 0, 1) := by decide +kernel
theorem dX6_fall_56 : decode cX6_fall 56 = .ok (.getfield 84, 3) := by decide +kernel
theorem dX6_fall_59 : decode cX6_fall 59 = .ok (.iload 4, 2) := by decide +kernel
theorem dX6_fall_61 : decode cX6_fall 61 = .ok (.iload 5, 2) := by decide +kernel
theorem dX6_fall_63 : decode cX6_fall 63 = .ok (.bastore, 1) := by decide +kernel
theorem dX6_fall_64 : decode cX6_fall 64 = .ok (.iload 5, 2) := by decide +kernel
theorem dX6_fall_66 : decode cX6_fall 66 = .ok (.ifCond .eq 65, 3) := by decide +kernel
theorem dX6_fall_69 : decode cX6_fall 69 = .ok (.aload_n 0, 1) := by decide +kernel
theorem dX6_fall_70 : decode cX6_fall 70 = .ok (.getfield 47, 3) := by decide +kernel
theorem dX6_fall_73 : decode cX6_fall 73 = .ok (.iload 4, 2) := by decide +kernel
theorem dX6_fall_75 : decode cX6_fall 75 = .ok (.iaload, 1) := by decide +kernel
theorem dX6_fall_76 : decode cX6_fall 76 = .ok (.iconst 1, 1) := by decide +kernel
theorem dX6_fall_77 : decode cX6_fall 77 = .ok (.if_icmp .ne 54, 3) := by decide +kernel
theorem dX6_fall_80 : decode cX6_fall 80 = .ok (.iconst 1, 1) := by decide +kernel
theorem dX6_fall_81 : decode cX6_fall 81 = .ok (.istore_n 2, 1) := by decide +kernel
theorem dX6_fall_82 : decode cX6_fall 82 = .ok (.iconst 0, 1) := by decide +kernel
theorem dX6_fall_83 : decode cX6_fall 83 = .ok (.istore 6, 2) := by decide +kernel
theorem dX6_fall_85 : decode cX6_fall 85 = .ok (.iload 6, 2) := by decide +kernel
theorem dX6_fall_87 : decode cX6_fall 87 = .ok (.aload_n 0, 1) := by decide +kernel
theorem dX6_fall_88 : decode cX6_fall 88 = .ok (.getfield 100, 3) := by decide +kernel
theorem dX6_fall_91 : decode cX6_fall 91 = .ok (.if_icmp .ge 40, 3) := by decide +kernel
theorem dX6_fall_94 : decode cX6_fall 94 = .ok (.aload_n 0, 1) := by decide +kernel
theorem dX6_fall_95 : decode cX6_fall 95 = .ok (.getfield 68, 3) := by decide +kernel
theorem dX6_fall_98 : decode cX6_fall 98 = .ok (.iload 6, 2) := by decide +kernel
theorem dX6_fall_100 : decode cX6_fall 100 = .ok (.iaload, 1) := by decide +kernel
theorem dX6_fall_101 : decode cX6_fall 101 = .ok (.iload 4, 2) := by decide +kernel
theorem dX6_fall_103 : decode cX6_fall 103 = .ok (.if_icmp .ne 22, 3) := by decide +kernel
theorem dX6_fall_106 : decode cX6_fall 106 = .ok (.aload_n 0, 1) := by decide +kernel
theorem dX6_fall_107 : decode cX6_fall 107 = .ok (.getfield 74, 3) := by decide +kernel
theorem dX6_fall_110 : decode cX6_fall 110 = .ok (.iload 6, 2) := by decide +kernel
theorem dX6_fall_112 : decode cX6_fall 112 = .ok (.iaload, 1) := by decide +kernel
theorem dX6_fall_113 : decode cX6_fall 113 = .ok (.ifCond .ne 12, 3) := by decide +kernel
theorem dX6_fall_116 : decode cX6_fall 116 = .ok (.aload_n 0, 1) := by decide +kernel
theorem dX6_fall_117 : decode cX6_fall 117 = .ok (.iload 6, 2) := by decide +kernel
theorem dX6_fall_119 : decode cX6_fall 119 = .ok (.invokevirtual 143, 3) := by decide +kernel
theorem dX6_fall_122 : decode cX6_fall 122 = .ok (.iinc 3 1, 3) := by decide +kernel
theorem dX6_fall_125 : decode cX6_fall 125 = .ok (.iinc 6 1, 3) := by decide +kernel
theorem dX6_fall_128 : decode cX6_fall 128 = .ok (.goto (-43), 3) := by decide +kernel
theorem dX6_fall_131 : decode cX6_fall 131 = .ok (.aload_n 0, 1) := by decide +kernel
theorem dX6_fall_132 : decode cX6_fall 132 = .ok (.getfield 47, 3) := by decide +kernel
theorem dX6_fall_135 : decode cX6_fall 135 = .ok (.iload 4, 2) := by decide +kernel
theorem dX6_fall_137 : decode cX6_fall 137 = .ok (.iload 5, 2) := by decide +kernel
theorem dX6_fall_139 : decode cX6_fall 139 = .ok (.ifCond .eq 7, 3) := by decide +kernel
theorem dX6_fall_142 : decode cX6_fall 142 = .ok (.iconst 2, 1) := by decide +kernel
theorem dX6_fall_143 : decode cX6_fall 143 = .ok (.goto 10, 3) := by decide +kernel
theorem dX6_fall_146 : decode cX6_fall 146 = .ok (.aload_n 0, 1) := by decide +kernel
theorem dX6_fall_147 : decode cX6_fall 147 = .ok (.getfield 47, 3) := by decide +kernel
theorem dX6_fall_150 : decode cX6_fall 150 = .ok (.iload 4, 2) := by decide +kernel
theorem dX6_fall_152 : decode cX6_fall 152 = .ok (.iaload, 1) := by decide +kernel
theorem dX6_fall_153 : decode cX6_fall 153 = .ok (.iastore, 1) := by decide +kernel
theorem dX6_fall_154 : decode cX6_fall 154 = .ok (.iinc 4 1, 3) := by decide +kernel
theorem dX6_fall_157 : decode cX6_fall 157 = .ok (.goto (-150), 3) := by decide +kernel
theorem dX6_fall_160 : decode cX6_fall 160 = .ok (.iload_n 2, 1) := by decide +kernel
theorem dX6_fall_161 : decode cX6_fall 161 = .ok (.ifCond .eq 18, 3) := by decide +kernel
theorem dX6_fall_164 : decode cX6_fall 164 = .ok (.iload_n 3, 1) := by decide +kernel
theorem dX6_fall_165 : decode cX6_fall 165 = .ok (.aload_n 0, 1) := by decide +kernel
theorem dX6_fall_166 : decode cX6_fall 166 = .ok (.aload_n 0, 1) := by decide +kernel
theorem dX6_fall_167 : decode cX6_fall 167 = .ok (.getfield 41, 3) := by decide +kernel
theorem dX6_fall_170 : decode cX6_fall 170 = .ok (.iload_n 1, 1) := by decide +kernel
theorem dX6_fall_171 : decode cX6_fall 171 = .ok (.iaload, 1) := by decide +kernel
theorem dX6_fall_172 : decode cX6_fall 172 = .ok (.invokevirtual 147, 3) := by decide +kernel
theorem dX6_fall_175 : decode cX6_fall 175 = .ok (.iadd, 1) := by decide +kernel
theorem dX6_fall_176 : decode cX6_fall 176 = .ok (.goto 4, 3) := by decide +kernel
theorem dX6_fall_179 : decode cX6_fall 179 = .ok (.iload_n 3, 1) := by decide +kernel
theorem dX6_fall_180 : decode cX6_fall 180 = .ok (.ireturn, 1) := by decide +kernel
theorem dX6_isFree_0 : decode cX6_isFree 0 = .ok (.aload_n 0, 1) := by decide +kernel
theorem dX6_isFree_1 : decode cX6_isFree 1 = .ok (.getfield 47, 3) := by decide +kernel
theorem dX6_isFree_4 : decode cX6_isFree 4 = .ok (.iload_n 1, 1) := by decide +kernel
theorem dX6_isFree_5 : decode cX6_isFree 5 = .ok (.iaload, 1) := by decide +kernel
theorem dX6_isFree_6 : decode cX6_isFree 6 = .ok (.ifCond .ne 7, 3) := by decide +kernel
theorem dX6_isFree_9 : decode cX6_isFree 9 = .ok (.iconst 1, 1) := by decide +kernel
theorem dX6_isFree_10 : decode cX6_isFree 10 = .ok (.goto 4, 3) := by decide +kernel
theorem dX6_isFree_13 : decode cX6_isFree 13 = .ok (.iconst 0, 1) := by decide +kernel
theorem dX6_isFree_14 : decode cX6_isFree 14 = .ok (.istore_n 2, 1) := by decide +kernel
theorem dX6_isFree_15 : decode cX6_isFree 15 = .ok (.iload_n 1, 1) := by decide +kernel
theorem dX6_isFree_16 : decode cX6_isFree 16 = .ok (.iconst 1, 1) := by decide +kernel
theorem dX6_isFree_17 : decode cX6_isFree 17 = .ok (.iadd, 1) := by decide +kernel
theorem dX6_isFree_18 : decode cX6_isFree 18 = .ok (.istore_n 3, 1) := by decide +kernel
theorem dX6_isFree_19 : decode cX6_isFree 19 = .ok (.iload_n 3, 1) := by decide +kernel
theorem dX6_isFree_20 : decode cX6_isFree 20 = .ok (.aload_n 0, 1) := by decide +kernel
theorem dX6_isFree_21 : decode cX6_isFree 21 = .ok (.getfield 97, 3) := by decide +kernel
theorem dX6_isFree_24 : decode cX6_isFree 24 = .ok (.if_icmp .ge 38, 3) := by decide +kernel
theorem dX6_isFree_27 : decode cX6_isFree 27 = .ok (.iload_n 2, 1) := by decide +kernel
theorem dX6_isFree_28 : decode cX6_isFree 28 = .ok (.ifCond .eq 26, 3) := by decide +kernel
theorem dX6_isFree_31 : decode cX6_isFree 31 = .ok (.aload_n 0, 1) := by decide +kernel
theorem dX6_isFree_32 : decode cX6_isFree 32 = .ok (.getfield 38, 3) := by decide +kernel
theorem dX6_isFree_35 : decode cX6_isFree 35 = .ok (.iload_n 3, 1) := by decide +kernel
theorem dX6_isFree_36 : decode cX6_isFree 36 = .ok (.iaload, 1) := by decide +kernel
theorem dX6_isFree_37 : decode cX6_isFree 37 = .ok (.iload_n 1, 1) := by decide +kernel
theorem dX6_isFree_38 : decode cX6_isFree 38 = .ok (.if_icmp .ne 12, 3) := by decide +kernel
theorem dX6_isFree_41 : decode cX6_isFree 41 = .ok (.aload_n 0, 1) := by decide +kernel
theorem dX6_isFree_42 : decode cX6_isFree 42 = .ok (.getfield 47, 3) := by decide +kernel
theorem dX6_isFree_45 : decode cX6_isFree 45 = .ok (.iload_n 3, 1) := by decide +kernel
theorem dX6_isFree_46 : decode cX6_isFree 46 = .ok (.iaload, 1) := by decide +kernel
theorem dX6_isFree_47 : decode cX6_isFree 47 = .ok (.ifCond .eq 7, 3) := by decide +kernel
theorem dX6_isFree_50 : decode cX6_isFree 50 = .ok (.iconst 1, 1) := by decide +kernel
theorem dX6_isFree_51 : decode cX6_isFree 51 = .ok (.goto 4, 3) := by decide +kernel
theorem dX6_isFree_54 : decode cX6_isFree 54 = .ok (.iconst 0, 1) := by decide +kernel
theorem dX6_isFree_55 : decode cX6_isFree 55 = .ok (.istore_n 2, 1) := by decide +kernel
theorem dX6_isFree_56 : decode cX6_isFree 56 = .ok (.iinc 3 1, 3) := by decide +kernel
theorem dX6_isFree_59 : decode cX6_isFree 59 = .ok (.goto (-40), 3) := by decide +kernel
theorem dX6_isFree_62 : decode cX6_isFree 62 = .ok (.iload_n 2, 1) := by decide +kernel
theorem dX6_isFree_63 : decode cX6_isFree 63 = .ok (.ireturn, 1) := by decide +kernel
theorem dX6_decide_0 : decode cX6_decide 0 = .ok (.aload_n 0, 1) := by decide +kernel
theorem dX6_decide_1 : decode cX6_decide 1 = .ok (.iload_n 1, 1) := by decide +kernel
theorem dX6_decide_2 : decode cX6_decide 2 = .ok (.invokevirtual 130, 3) := by decide +kernel
theorem dX6_decide_5 : decode cX6_decide 5 = .ok (.istore_n 2, 1) := by decide +kernel
theorem dX6_decide_6 : decode cX6_decide 6 = .ok (.aload_n 0, 1) := by decide +kernel
theorem dX6_decide_7 : decode cX6_decide 7 = .ok (.iload_n 2, 1) := by decide +kernel
theorem dX6_decide_8 : decode cX6_decide 8 = .ok (.ifCond .ne 7, 3) := by decide +kernel
theorem dX6_decide_11 : decode cX6_decide 11 = .ok (.iconst 1, 1) := by decide +kernel
theorem dX6_decide_12 : decode cX6_decide 12 = .ok (.goto 16, 3) := by decide +kernel
theorem dX6_decide_15 : decode cX6_decide 15 = .ok (.aload_n 0, 1) := by decide +kernel
theorem dX6_decide_16 : decode cX6_decide 16 = .ok (.iload_n 1, 1) := by decide +kernel
theorem dX6_decide_17 : decode cX6_decide 17 = .ok (.invokevirtual 150, 3) := by decide +kernel
theorem dX6_decide_20 : decode cX6_decide 20 = .ok (.ifCond .eq 7, 3) := by decide +kernel
theorem dX6_decide_23 : decode cX6_decide 23 = .ok (.iconst 0, 1) := by decide +kernel
theorem dX6_decide_24 : decode cX6_decide 24 = .ok (.goto 4, 3) := by decide +kernel
theorem dX6_decide_27 : decode cX6_decide 27 = .ok (.iconst 2, 1) := by decide +kernel
theorem dX6_decide_28 : decode cX6_decide 28 = .ok (.invokevirtual 114, 3) := by decide +kernel
theorem dX6_decide_31 : decode cX6_decide 31 = .ok (.ifCond .ne 5, 3) := by decide +kernel
theorem dX6_decide_34 : decode cX6_decide 34 = .ok (.iconst 0, 1) := by decide +kernel
theorem dX6_decide_35 : decode cX6_decide 35 = .ok (.ireturn, 1) := by decide +kernel
theorem dX6_decide_36 : decode cX6_decide 36 = .ok (.aload_n 0, 1) := by decide +kernel
theorem dX6_decide_37 : decode cX6_decide 37 = .ok (.iload_n 1, 1) := by decide +kernel
theorem dX6_decide_38 : decode cX6_decide 38 = .ok (.iconst 1, 1) := by decide +kernel
theorem dX6_decide_39 : decode cX6_decide 39 = .ok (.invokevirtual 133, 3) := by decide +kernel
theorem dX6_decide_42 : decode cX6_decide 42 = .ok (.istore_n 3, 1) := by decide +kernel
theorem dX6_decide_43 : decode cX6_decide 43 = .ok (.aload_n 0, 1) := by decide +kernel
theorem dX6_decide_44 : decode cX6_decide 44 = .ok (.iload_n 1, 1) := by decide +kernel
theorem dX6_decide_45 : decode cX6_decide 45 = .ok (.iconst 2, 1) := by decide +kernel
theorem dX6_decide_46 : decode cX6_decide 46 = .ok (.invokevirtual 133, 3) := by decide +kernel
theorem dX6_decide_49 : decode cX6_decide 49 = .ok (.istore 4, 2) := by decide +kernel
theorem dX6_decide_51 : decode cX6_decide 51 = .ok (.aload_n 0, 1) := by decide +kernel
theorem dX6_decide_52 : decode cX6_decide 52 = .ok (.getfield 50, 3) := by decide +kernel
theorem dX6_decide_55 : decode cX6_decide 55 = .ok (.iload_n 1, 1) := by decide +kernel
theorem dX6_decide_56 : decode cX6_decide 56 = .ok (.iaload, 1) := by decide +kernel
theorem dX6_decide_57 : decode cX6_decide 57 = .ok (.iconst 1, 1) := by decide +kernel
theorem dX6_decide_58 : decode cX6_decide 58 = .ok (.if_icmp .ne 53, 3) := by decide +kernel
theorem dX6_decide_61 : decode cX6_decide 61 = .ok (.iload_n 3, 1) := by decide +kernel
theorem dX6_decide_62 : decode cX6_decide 62 = .ok (.iconst 5, 1) := by decide +kernel
theorem dX6_decide_63 : decode cX6_decide 63 = .ok (.if_icmp .ge 48, 3) := by decide +kernel
theorem dX6_decide_66 : decode cX6_decide 66 = .ok (.iload 4, 2) := by decide +kernel
theorem dX6_decide_68 : decode cX6_decide 68 = .ok (.iconst 5, 1) := by decide +kernel
theorem dX6_decide_69 : decode cX6_decide 69 = .ok (.if_icmp .ge 42, 3) := by decide +kernel
theorem dX6_decide_72 : decode cX6_decide 72 = .ok (.aload_n 0, 1) := by decide +kernel
theorem dX6_decide_73 : decode cX6_decide 73 = .ok (.getfield 50, 3) := by decide +kernel
theorem dX6_decide_76 : decode cX6_decide 76 = .ok (.iload_n 1, 1) := by decide +kernel
theorem dX6_decide_77 : decode cX6_decide 77 = .ok (.iconst 2, 1) := by decide +kernel
theorem dX6_decide_78 : decode cX6_decide 78 = .ok (.iastore, 1) := by decide +kernel
theorem dX6_decide_79 : decode cX6_decide 79 = .ok (.iconst 0, 1) := by decide +kernel
theorem dX6_decide_80 : decode cX6_decide 80 = .ok (.istore 5, 2) := by decide +kernel
theorem dX6_decide_82 : decode cX6_decide 82 = .ok (.iload 5, 2) := by decide +kernel
theorem dX6_decide_84 : decode cX6_decide 84 = .ok (.bipush 9, 2) := by decide +kernel
theorem dX6_decide_86 : decode cX6_decide 86 = .ok (.if_icmp .ge 22, 3) := by decide +kernel
theorem dX6_decide_89 : decode cX6_decide 89 = .ok (.aload_n 0, 1) := by decide +kernel
theorem dX6_decide_90 : decode cX6_decide 90 = .ok (.getfield 53, 3) := by decide +kernel
theorem dX6_decide_93 : decode cX6_decide 93 = .ok (.bipush 9, 2) := by decide +kernel
theorem dX6_decide_95 : decode cX6_decide 95 = .ok (.iload_n 1, 1) := by decide +kernel
theorem dX6_decide_96 : decode cX6_decide 96 = .ok (.imul, 1) := by decide +kernel
theorem dX6_decide_97 : decode cX6_decide 97 = .ok (.iload 5, 2) := by decide +kernel
theorem dX6_decide_99 : decode cX6_decide 99 = .ok (.iadd, 1) := by decide +kernel
theorem dX6_decide_100 : decode cX6_decide 100 = .ok (.iconst 0, 1) := by decide +kernel
theorem dX6_decide_101 : decode cX6_decide 101 = .ok (.iastore, 1) := by decide +kernel
theorem dX6_decide_102 : decode cX6_decide 102 = .ok (.iinc 5 1, 3) := by decide +kernel
theorem dX6_decide_105 : decode cX6_decide 105 = .ok (.goto (-23), 3) := by decide +kernel
theorem dX6_decide_108 : decode cX6_decide 108 = .ok (.goto 52, 3) := by decide +kernel
theorem dX6_decide_111 : decode cX6_decide 111 = .ok (.iload_n 3, 1) := by decide +kernel
theorem dX6_decide_112 : decode cX6_decide 112 = .ok (.iload 4, 2) := by decide +kernel
theorem dX6_decide_114 : decode cX6_decide 114 = .ok (.if_icmp .le 39, 3) := by decide +kernel
theorem dX6_decide_117 : decode cX6_decide 117 = .ok (.aload_n 0, 1) := by decide +kernel
theorem dX6_decide_118 : decode cX6_decide 118 = .ok (.getfield 47, 3) := by decide +kernel
theorem dX6_decide_121 : decode cX6_decide 121 = .ok (.iload_n 1, 1) := by decide +kernel
theorem dX6_decide_122 : decode cX6_decide 122 = .ok (.iconst 1, 1) := by decide +kernel
theorem dX6_decide_123 : decode cX6_decide 123 = .ok (.iastore, 1) := by decide +kernel
theorem dX6_decide_124 : decode cX6_decide 124 = .ok (.aload_n 0, 1) := by decide +kernel
theorem dX6_decide_125 : decode cX6_decide 125 = .ok (.getfield 38, 3) := by decide +kernel
theorem dX6_decide_128 : decode cX6_decide 128 = .ok (.iload_n 1, 1) := by decide +kernel
theorem dX6_decide_129 : decode cX6_decide 129 = .ok (.iaload, 1) := by decide +kernel
theorem dX6_decide_130 : decode cX6_decide 130 = .ok (.iconst (-1), 1) := by decide +kernel
theorem dX6_decide_131 : decode cX6_decide 131 = .ok (.if_icmp .ne 16, 3) := by decide +kernel
theorem dX6_decide_134 : decode cX6_decide 134 = .ok (.aload_n 0, 1) := by decide +kernel
theorem dX6_decide_135 : decode cX6_decide 135 = .ok (.aload_n 0, 1) := by decide +kernel
theorem dX6_decide_136 : decode cX6_decide 136 = .ok (.getfield 41, 3) := by decide +kernel
theorem dX6_decide_139 : decode cX6_decide 139 = .ok (.iload_n 1, 1) := by decide +kernel
theorem dX6_decide_140 : decode cX6_decide 140 = .ok (.iaload, 1) := by decide +kernel
theorem dX6_decide_141 : decode cX6_decide 141 = .ok (.invokevirtual 147, 3) := by decide +kernel
theorem dX6_decide_144 : decode cX6_decide 144 = .ok (.goto 4, 3) := by decide +kernel
theorem dX6_decide_147 : decode cX6_decide 147 = .ok (.iconst 0, 1) := by decide +kernel
theorem dX6_decide_148 : decode cX6_decide 148 = .ok (.istore 5, 2) := by decide +kernel
theorem dX6_decide_150 : decode cX6_decide 150 = .ok (.goto 10, 3) := by decide +kernel
theorem dX6_decide_153 : decode cX6_decide 153 = .ok (.aload_n 0, 1) := by decide +kernel
theorem dX6_decide_154 : decode cX6_decide 154 = .ok (.iload_n 1, 1) := by decide +kernel
theorem dX6_decide_155 : decode cX6_decide 155 = .ok (.invokevirtual 153, 3) := by decide +kernel
theorem dX6_decide_158 : decode cX6_decide 158 = .ok (.istore 5, 2) := by decide +kernel
theorem dX6_decide_160 : decode cX6_decide 160 = .ok (.aload_n 0, 1) := by decide +kernel
theorem dX6_decide_161 : decode cX6_decide 161 = .ok (.getfield 47, 3) := by decide +kernel
theorem dX6_decide_164 : decode cX6_decide 164 = .ok (.iload_n 1, 1) := by decide +kernel
theorem dX6_decide_165 : decode cX6_decide 165 = .ok (.iaload, 1) := by decide +kernel
theorem dX6_decide_166 : decode cX6_decide 166 = .ok (.ireturn, 1) := by decide +kernel
theorem dX6_strike_0 : decode cX6_strike 0 = .ok (.aload_n 0, 1) := by decide +kernel
theorem dX6_strike_1 : decode cX6_strike 1 = .ok (.iload_n 1, 1) := by decide +kernel
theorem dX6_strike_2 : decode cX6_strike 2 = .ok (.invokevirtual 130, 3) := by decide +kernel
theorem dX6_strike_5 : decode cX6_strike 5 = .ok (.istore_n 2, 1) := by decide +kernel
theorem dX6_strike_6 : decode cX6_strike 6 = .ok (.aload_n 0, 1) := by decide +kernel
theorem dX6_strike_7 : decode cX6_strike 7 = .ok (.iload_n 2, 1) := by decide +kernel
theorem dX6_strike_8 : decode cX6_strike 8 = .ok (.ifCond .ne 7, 3) := by decide +kernel
theorem dX6_strike_11 : decode cX6_strike 11 = .ok (.iconst 1, 1) := by decide +kernel
theorem dX6_strike_12 : decode cX6_strike 12 = .ok (.goto 18, 3) := by decide +kernel
theorem dX6_strike_15 : decode cX6_strike 15 = .ok (.aload_n 0, 1) := by decide +kernel
theorem dX6_strike_16 : decode cX6_strike 16 = .ok (.getfield 47, 3) := by decide +kernel
theorem dX6_strike_19 : decode cX6_strike 19 = .ok (.iload_n 1, 1) := by decide +kernel
theorem dX6_strike_20 : decode cX6_strike 20 = .ok (.iaload, 1) := by decide +kernel
theorem dX6_strike_21 : decode cX6_strike 21 = .ok (.iconst 1, 1) := by decide +kernel
theorem dX6_strike_22 : decode cX6_strike 22 = .ok (.if_icmp .ne 7, 3) := by decide +kernel
theorem dX6_strike_25 : decode cX6_strike 25 = .ok (.iconst 0, 1) := by decide +kernel
theorem dX6_strike_26 : decode cX6_strike 26 = .ok (.goto 4, 3) := by decide +kernel
theorem dX6_strike_29 : decode cX6_strike 29 = .ok (.iconst 2, 1) := by decide +kernel
theorem dX6_strike_30 : decode cX6_strike 30 = .ok (.invokevirtual 114, 3) := by decide +kernel
theorem dX6_strike_33 : decode cX6_strike 33 = .ok (.ifCond .eq 11, 3) := by decide +kernel
theorem dX6_strike_36 : decode cX6_strike 36 = .ok (.aload_n 0, 1) := by decide +kernel
theorem dX6_strike_37 : decode cX6_strike 37 = .ok (.iload_n 1, 1) := by decide +kernel
theorem dX6_strike_38 : decode cX6_strike 38 = .ok (.invokevirtual 153, 3) := by decide +kernel
theorem dX6_strike_41 : decode cX6_strike 41 = .ok (.goto 4, 3) := by decide +kernel
theorem dX6_strike_44 : decode cX6_strike 44 = .ok (.iconst 0, 1) := by decide +kernel
theorem dX6_strike_45 : decode cX6_strike 45 = .ok (.ireturn, 1) := by decide +kernel
theorem dX6_grant_0 : decode cX6_grant 0 = .ok (.aload_n 0, 1) := by decide +kernel
end
section
theorem dX6_grant_1 : decode cX6_grant 1 = .ok (.iload_n 1, 1) := by decide +kernel
theorem dX6_grant_2 : decode cX6_grant 2 = .ok (.invokevirtual 120, 3) := by decide +kernel
theorem dX6_grant_5 : decode cX6_grant 5 = .ok (.ifCond .eq 32, 3) := by decide +kernel
theorem dX6_grant_8 : decode cX6_grant 8 = .ok (.iload_n 2, 1) := by decide +kernel
theorem dX6_grant_9 : decode cX6_grant 9 = .ok (.iconst 0, 1) := by decide +kernel
theorem dX6_grant_10 : decode cX6_grant 10 = .ok (.bipush 7, 2) := by decide +kernel
theorem dX6_grant_12 : decode cX6_grant 12 = .ok (.invokestatic 93, 3) := by decide +kernel
theorem dX6_grant_15 : decode cX6_grant 15 = .ok (.ifCond .eq 22, 3) := by decide +kernel
theorem dX6_grant_18 : decode cX6_grant 18 = .ok (.iload 4, 2) := by decide +kernel
theorem dX6_grant_20 : decode cX6_grant 20 = .ok (.iconst (-1), 1) := by decide +kernel
theorem dX6_grant_21 : decode cX6_grant 21 = .ok (.if_icmp .eq 12, 3) := by decide +kernel
theorem dX6_grant_24 : decode cX6_grant 24 = .ok (.aload_n 0, 1) := by decide +kernel
theorem dX6_grant_25 : decode cX6_grant 25 = .ok (.iload 4, 2) := by decide +kernel
theorem dX6_grant_27 : decode cX6_grant 27 = .ok (.invokevirtual 130, 3) := by decide +kernel
theorem dX6_grant_30 : decode cX6_grant 30 = .ok (.ifCond .eq 7, 3) := by decide +kernel
theorem dX6_grant_33 : decode cX6_grant 33 = .ok (.iconst 1, 1) := by decide +kernel
theorem dX6_grant_34 : decode cX6_grant 34 = .ok (.goto 4, 3) := by decide +kernel
theorem dX6_grant_37 : decode cX6_grant 37 = .ok (.iconst 0, 1) := by decide +kernel
theorem dX6_grant_38 : decode cX6_grant 38 = .ok (.istore 6, 2) := by decide +kernel
theorem dX6_grant_40 : decode cX6_grant 40 = .ok (.iload_n 3, 1) := by decide +kernel
theorem dX6_grant_41 : decode cX6_grant 41 = .ok (.iconst 1, 1) := by decide +kernel
theorem dX6_grant_42 : decode cX6_grant 42 = .ok (.ldc 119, 2) := by decide +kernel
theorem dX6_grant_44 : decode cX6_grant 44 = .ok (.invokestatic 93, 3) := by decide +kernel
theorem dX6_grant_47 : decode cX6_grant 47 = .ok (.ifCond .eq 18, 3) := by decide +kernel
theorem dX6_grant_50 : decode cX6_grant 50 = .ok (.iload 5, 2) := by decide +kernel
theorem dX6_grant_52 : decode cX6_grant 52 = .ok (.iconst 0, 1) := by decide +kernel
theorem dX6_grant_53 : decode cX6_grant 53 = .ok (.bipush 60, 2) := by decide +kernel
theorem dX6_grant_55 : decode cX6_grant 55 = .ok (.invokestatic 93, 3) := by decide +kernel
theorem dX6_grant_58 : decode cX6_grant 58 = .ok (.ifCond .eq 7, 3) := by decide +kernel
theorem dX6_grant_61 : decode cX6_grant 61 = .ok (.iconst 1, 1) := by decide +kernel
theorem dX6_grant_62 : decode cX6_grant 62 = .ok (.goto 4, 3) := by decide +kernel
theorem dX6_grant_65 : decode cX6_grant 65 = .ok (.iconst 0, 1) := by decide +kernel
theorem dX6_grant_66 : decode cX6_grant 66 = .ok (.istore 7, 2) := by decide +kernel
theorem dX6_grant_68 : decode cX6_grant 68 = .ok (.iload 6, 2) := by decide +kernel
theorem dX6_grant_70 : decode cX6_grant 70 = .ok (.ifCond .eq 42, 3) := by decide +kernel
theorem dX6_grant_73 : decode cX6_grant 73 = .ok (.aload_n 0, 1) := by decide +kernel
theorem dX6_grant_74 : decode cX6_grant 74 = .ok (.getfield 100, 3) := by decide +kernel
theorem dX6_grant_77 : decode cX6_grant 77 = .ok (.bipush 40, 2) := by decide +kernel
theorem dX6_grant_79 : decode cX6_grant 79 = .ok (.if_icmp .ge 33, 3) := by decide +kernel
theorem dX6_grant_82 : decode cX6_grant 82 = .ok (.aload_n 0, 1) := by decide +kernel
theorem dX6_grant_83 : decode cX6_grant 83 = .ok (.iload_n 1, 1) := by decide +kernel
theorem dX6_grant_84 : decode cX6_grant 84 = .ok (.invokevirtual 137, 3) := by decide +kernel
theorem dX6_grant_87 : decode cX6_grant 87 = .ok (.iload_n 3, 1) := by decide +kernel
theorem dX6_grant_88 : decode cX6_grant 88 = .ok (.if_icmp .lt 24, 3) := by decide +kernel
theorem dX6_grant_91 : decode cX6_grant 91 = .ok (.iload 4, 2) := by decide +kernel
theorem dX6_grant_93 : decode cX6_grant 93 = .ok (.iconst (-1), 1) := by decide +kernel
theorem dX6_grant_94 : decode cX6_grant 94 = .ok (.if_icmp .eq 14, 3) := by decide +kernel
theorem dX6_grant_97 : decode cX6_grant 97 = .ok (.aload_n 0, 1) := by decide +kernel
theorem dX6_grant_98 : decode cX6_grant 98 = .ok (.getfield 47, 3) := by decide +kernel
theorem dX6_grant_101 : decode cX6_grant 101 = .ok (.iload 4, 2) := by decide +kernel
theorem dX6_grant_103 : decode cX6_grant 103 = .ok (.iaload, 1) := by decide +kernel
theorem dX6_grant_104 : decode cX6_grant 104 = .ok (.iconst 1, 1) := by decide +kernel
theorem dX6_grant_105 : decode cX6_grant 105 = .ok (.if_icmp .ne 7, 3) := by decide +kernel
theorem dX6_grant_108 : decode cX6_grant 108 = .ok (.iconst 1, 1) := by decide +kernel
theorem dX6_grant_109 : decode cX6_grant 109 = .ok (.goto 4, 3) := by decide +kernel
theorem dX6_grant_112 : decode cX6_grant 112 = .ok (.iconst 0, 1) := by decide +kernel
theorem dX6_grant_113 : decode cX6_grant 113 = .ok (.istore 8, 2) := by decide +kernel
theorem dX6_grant_115 : decode cX6_grant 115 = .ok (.aload_n 0, 1) := by decide +kernel
theorem dX6_grant_116 : decode cX6_grant 116 = .ok (.iload 6, 2) := by decide +kernel
theorem dX6_grant_118 : decode cX6_grant 118 = .ok (.ifCond .ne 7, 3) := by decide +kernel
theorem dX6_grant_121 : decode cX6_grant 121 = .ok (.iconst 1, 1) := by decide +kernel
theorem dX6_grant_122 : decode cX6_grant 122 = .ok (.goto 22, 3) := by decide +kernel
theorem dX6_grant_125 : decode cX6_grant 125 = .ok (.iload 7, 2) := by decide +kernel
theorem dX6_grant_127 : decode cX6_grant 127 = .ok (.ifCond .ne 7, 3) := by decide +kernel
theorem dX6_grant_130 : decode cX6_grant 130 = .ok (.iconst 2, 1) := by decide +kernel
theorem dX6_grant_131 : decode cX6_grant 131 = .ok (.goto 13, 3) := by decide +kernel
theorem dX6_grant_134 : decode cX6_grant 134 = .ok (.iload 8, 2) := by decide +kernel
theorem dX6_grant_136 : decode cX6_grant 136 = .ok (.ifCond .eq 7, 3) := by decide +kernel
theorem dX6_grant_139 : decode cX6_grant 139 = .ok (.iconst 0, 1) := by decide +kernel
theorem dX6_grant_140 : decode cX6_grant 140 = .ok (.goto 4, 3) := by decide +kernel
theorem dX6_grant_143 : decode cX6_grant 143 = .ok (.iconst 3, 1) := by decide +kernel
theorem dX6_grant_144 : decode cX6_grant 144 = .ok (.invokevirtual 114, 3) := by decide +kernel
theorem dX6_grant_147 : decode cX6_grant 147 = .ok (.ifCond .ne 5, 3) := by decide +kernel
theorem dX6_grant_150 : decode cX6_grant 150 = .ok (.iconst 0, 1) := by decide +kernel
theorem dX6_grant_151 : decode cX6_grant 151 = .ok (.ireturn, 1) := by decide +kernel
theorem dX6_grant_152 : decode cX6_grant 152 = .ok (.aload_n 0, 1) := by decide +kernel
theorem dX6_grant_153 : decode cX6_grant 153 = .ok (.getfield 56, 3) := by decide +kernel
theorem dX6_grant_156 : decode cX6_grant 156 = .ok (.aload_n 0, 1) := by decide +kernel
theorem dX6_grant_157 : decode cX6_grant 157 = .ok (.getfield 100, 3) := by decide +kernel
theorem dX6_grant_160 : decode cX6_grant 160 = .ok (.iload_n 1, 1) := by decide +kernel
theorem dX6_grant_161 : decode cX6_grant 161 = .ok (.iastore, 1) := by decide +kernel
theorem dX6_grant_162 : decode cX6_grant 162 = .ok (.aload_n 0, 1) := by decide +kernel
theorem dX6_grant_163 : decode cX6_grant 163 = .ok (.getfield 59, 3) := by decide +kernel
theorem dX6_grant_166 : decode cX6_grant 166 = .ok (.aload_n 0, 1) := by decide +kernel
theorem dX6_grant_167 : decode cX6_grant 167 = .ok (.getfield 100, 3) := by decide +kernel
theorem dX6_grant_170 : decode cX6_grant 170 = .ok (.iload_n 2, 1) := by decide +kernel
theorem dX6_grant_171 : decode cX6_grant 171 = .ok (.iastore, 1) := by decide +kernel
theorem dX6_grant_172 : decode cX6_grant 172 = .ok (.aload_n 0, 1) := by decide +kernel
theorem dX6_grant_173 : decode cX6_grant 173 = .ok (.getfield 62, 3) := by decide +kernel
theorem dX6_grant_176 : decode cX6_grant 176 = .ok (.aload_n 0, 1) := by decide +kernel
theorem dX6_grant_177 : decode cX6_grant 177 = .ok (.getfield 100, 3) := by decide +kernel
theorem dX6_grant_180 : decode cX6_grant 180 = .ok (.iload_n 3, 1) := by decide +kernel
theorem dX6_grant_181 : decode cX6_grant 181 = .ok (.iastore, 1) := by decide +kernel
theorem dX6_grant_182 : decode cX6_grant 182 = .ok (.aload_n 0, 1) := by decide +kernel
theorem dX6_grant_183 : decode cX6_grant 183 = .ok (.getfield 68, 3) := by decide +kernel
theorem dX6_grant_186 : decode cX6_grant 186 = .ok (.aload_n 0, 1) := by decide +kernel
theorem dX6_grant_187 : decode cX6_grant 187 = .ok (.getfield 100, 3) := by decide +kernel
theorem dX6_grant_190 : decode cX6_grant 190 = .ok (.iload 4, 2) := by decide +kernel
theorem dX6_grant_192 : decode cX6_grant 192 = .ok (.iastore, 1) := by decide +kernel
theorem dX6_grant_193 : decode cX6_grant 193 = .ok (.aload_n 0, 1) := by decide +kernel
theorem dX6_grant_194 : decode cX6_grant 194 = .ok (.getfield 71, 3) := by decide +kernel
theorem dX6_grant_197 : decode cX6_grant 197 = .ok (.aload_n 0, 1) := by decide +kernel
theorem dX6_grant_198 : decode cX6_grant 198 = .ok (.getfield 100, 3) := by decide +kernel
theorem dX6_grant_201 : decode cX6_grant 201 = .ok (.aload_n 0, 1) := by decide +kernel
theorem dX6_grant_202 : decode cX6_grant 202 = .ok (.getfield 156, 3) := by decide +kernel
theorem dX6_grant_205 : decode cX6_grant 205 = .ok (.iload 5, 2) := by decide +kernel
theorem dX6_grant_207 : decode cX6_grant 207 = .ok (.iadd, 1) := by decide +kernel
theorem dX6_grant_208 : decode cX6_grant 208 = .ok (.iastore, 1) := by decide +kernel
theorem dX6_grant_209 : decode cX6_grant 209 = .ok (.aload_n 0, 1) := by decide +kernel
theorem dX6_grant_210 : decode cX6_grant 210 = .ok (.dup, 1) := by decide +kernel
theorem dX6_grant_211 : decode cX6_grant 211 = .ok (.getfield 100, 3) := by decide +kernel
theorem dX6_grant_214 : decode cX6_grant 214 = .ok (.iconst 1, 1) := by decide +kernel
theorem dX6_grant_215 : decode cX6_grant 215 = .ok (.iadd, 1) := by decide +kernel
theorem dX6_grant_216 : decode cX6_grant 216 = .ok (.putfield 100, 3) := by decide +kernel
theorem dX6_grant_219 : decode cX6_grant 219 = .ok (.aload_n 0, 1) := by decide +kernel
theorem dX6_grant_220 : decode cX6_grant 220 = .ok (.getfield 100, 3) := by decide +kernel
theorem dX6_grant_223 : decode cX6_grant 223 = .ok (.iconst 1, 1) := by decide +kernel
theorem dX6_grant_224 : decode cX6_grant 224 = .ok (.isub, 1) := by decide +kernel
theorem dX6_grant_225 : decode cX6_grant 225 = .ok (.ireturn, 1) := by decide +kernel
theorem dX6_canPay_0 : decode cX6_canPay 0 = .ok (.aload_n 0, 1) := by decide +kernel
theorem dX6_canPay_1 : decode cX6_canPay 1 = .ok (.getfield 17, 3) := by decide +kernel
theorem dX6_canPay_4 : decode cX6_canPay 4 = .ok (.aload_n 0, 1) := by decide +kernel
theorem dX6_canPay_5 : decode cX6_canPay 5 = .ok (.getfield 23, 3) := by decide +kernel
theorem dX6_canPay_8 : decode cX6_canPay 8 = .ok (.iload_n 1, 1) := by decide +kernel
theorem dX6_canPay_9 : decode cX6_canPay 9 = .ok (.iaload, 1) := by decide +kernel
theorem dX6_canPay_10 : decode cX6_canPay 10 = .ok (.iaload, 1) := by decide +kernel
theorem dX6_canPay_11 : decode cX6_canPay 11 = .ok (.iload_n 2, 1) := by decide +kernel
theorem dX6_canPay_12 : decode cX6_canPay 12 = .ok (.iadd, 1) := by decide +kernel
theorem dX6_canPay_13 : decode cX6_canPay 13 = .ok (.aload_n 0, 1) := by decide +kernel
theorem dX6_canPay_14 : decode cX6_canPay 14 = .ok (.getfield 13, 3) := by decide +kernel
theorem dX6_canPay_17 : decode cX6_canPay 17 = .ok (.aload_n 0, 1) := by decide +kernel
theorem dX6_canPay_18 : decode cX6_canPay 18 = .ok (.getfield 23, 3) := by decide +kernel
theorem dX6_canPay_21 : decode cX6_canPay 21 = .ok (.iload_n 1, 1) := by decide +kernel
theorem dX6_canPay_22 : decode cX6_canPay 22 = .ok (.iaload, 1) := by decide +kernel
theorem dX6_canPay_23 : decode cX6_canPay 23 = .ok (.iaload, 1) := by decide +kernel
theorem dX6_canPay_24 : decode cX6_canPay 24 = .ok (.if_icmp .gt 7, 3) := by decide +kernel
theorem dX6_canPay_27 : decode cX6_canPay 27 = .ok (.iconst 1, 1) := by decide +kernel
theorem dX6_canPay_28 : decode cX6_canPay 28 = .ok (.goto 4, 3) := by decide +kernel
theorem dX6_canPay_31 : decode cX6_canPay 31 = .ok (.iconst 0, 1) := by decide +kernel
theorem dX6_canPay_32 : decode cX6_canPay 32 = .ok (.ireturn, 1) := by decide +kernel
theorem dX6_pay_0 : decode cX6_pay 0 = .ok (.aload_n 0, 1) := by decide +kernel
theorem dX6_pay_1 : decode cX6_pay 1 = .ok (.iload_n 1, 1) := by decide +kernel
theorem dX6_pay_2 : decode cX6_pay 2 = .ok (.invokevirtual 159, 3) := by decide +kernel
theorem dX6_pay_5 : decode cX6_pay 5 = .ok (.istore_n 3, 1) := by decide +kernel
theorem dX6_pay_6 : decode cX6_pay 6 = .ok (.iload_n 2, 1) := by decide +kernel
theorem dX6_pay_7 : decode cX6_pay 7 = .ok (.iconst 1, 1) := by decide +kernel
theorem dX6_pay_8 : decode cX6_pay 8 = .ok (.ldc 119, 2) := by decide +kernel
theorem dX6_pay_10 : decode cX6_pay 10 = .ok (.invokestatic 93, 3) := by decide +kernel
theorem dX6_pay_13 : decode cX6_pay 13 = .ok (.istore 4, 2) := by decide +kernel
theorem dX6_pay_15 : decode cX6_pay 15 = .ok (.iload_n 3, 1) := by decide +kernel
theorem dX6_pay_16 : decode cX6_pay 16 = .ok (.ifCond .eq 52, 3) := by decide +kernel
theorem dX6_pay_19 : decode cX6_pay 19 = .ok (.iload 4, 2) := by decide +kernel
theorem dX6_pay_21 : decode cX6_pay 21 = .ok (.ifCond .eq 47, 3) := by decide +kernel
theorem dX6_pay_24 : decode cX6_pay 24 = .ok (.aload_n 0, 1) := by decide +kernel
theorem dX6_pay_25 : decode cX6_pay 25 = .ok (.getfield 74, 3) := by decide +kernel
theorem dX6_pay_28 : decode cX6_pay 28 = .ok (.iload_n 1, 1) := by decide +kernel
theorem dX6_pay_29 : decode cX6_pay 29 = .ok (.iaload, 1) := by decide +kernel
theorem dX6_pay_30 : decode cX6_pay 30 = .ok (.ifCond .ne 38, 3) := by decide +kernel
theorem dX6_pay_33 : decode cX6_pay 33 = .ok (.aload_n 0, 1) := by decide +kernel
theorem dX6_pay_34 : decode cX6_pay 34 = .ok (.getfield 65, 3) := by decide +kernel
theorem dX6_pay_37 : decode cX6_pay 37 = .ok (.iload_n 1, 1) := by decide +kernel
theorem dX6_pay_38 : decode cX6_pay 38 = .ok (.iaload, 1) := by decide +kernel
theorem dX6_pay_39 : decode cX6_pay 39 = .ok (.iload_n 2, 1) := by decide +kernel
theorem dX6_pay_40 : decode cX6_pay 40 = .ok (.iadd, 1) := by decide +kernel
theorem dX6_pay_41 : decode cX6_pay 41 = .ok (.aload_n 0, 1) := by decide +kernel
theorem dX6_pay_42 : decode cX6_pay 42 = .ok (.getfield 62, 3) := by decide +kernel
theorem dX6_pay_45 : decode cX6_pay 45 = .ok (.iload_n 1, 1) := by decide +kernel
theorem dX6_pay_46 : decode cX6_pay 46 = .ok (.iaload, 1) := by decide +kernel
theorem dX6_pay_47 : decode cX6_pay 47 = .ok (.if_icmp .gt 21, 3) := by decide +kernel
theorem dX6_pay_50 : decode cX6_pay 50 = .ok (.aload_n 0, 1) := by decide +kernel
theorem dX6_pay_51 : decode cX6_pay 51 = .ok (.aload_n 0, 1) := by decide +kernel
theorem dX6_pay_52 : decode cX6_pay 52 = .ok (.getfield 56, 3) := by decide +kernel
theorem dX6_pay_55 : decode cX6_pay 55 = .ok (.iload_n 1, 1) := by decide +kernel
theorem dX6_pay_56 : decode cX6_pay 56 = .ok (.iaload, 1) := by decide +kernel
theorem dX6_pay_57 : decode cX6_pay 57 = .ok (.iload_n 2, 1) := by decide +kernel
theorem dX6_pay_58 : decode cX6_pay 58 = .ok (.invokevirtual 162, 3) := by decide +kernel
theorem dX6_pay_61 : decode cX6_pay 61 = .ok (.ifCond .eq 7, 3) := by decide +kernel
theorem dX6_pay_64 : decode cX6_pay 64 = .ok (.iconst 1, 1) := by decide +kernel
theorem dX6_pay_65 : decode cX6_pay 65 = .ok (.goto 4, 3) := by decide +kernel
theorem dX6_pay_68 : decode cX6_pay 68 = .ok (.iconst 0, 1) := by decide +kernel
theorem dX6_pay_69 : decode cX6_pay 69 = .ok (.istore 5, 2) := by decide +kernel
theorem dX6_pay_71 : decode cX6_pay 71 = .ok (.aload_n 0, 1) := by decide +kernel
theorem dX6_pay_72 : decode cX6_pay 72 = .ok (.iload_n 3, 1) := by decide +kernel
theorem dX6_pay_73 : decode cX6_pay 73 = .ok (.ifCond .ne 7, 3) := by decide +kernel
theorem dX6_pay_76 : decode cX6_pay 76 = .ok (.iconst 1, 1) := by decide +kernel
theorem dX6_pay_77 : decode cX6_pay 77 = .ok (.goto 22, 3) := by decide +kernel
theorem dX6_pay_80 : decode cX6_pay 80 = .ok (.iload 4, 2) := by decide +kernel
theorem dX6_pay_82 : decode cX6_pay 82 = .ok (.ifCond .ne 7, 3) := by decide +kernel
theorem dX6_pay_85 : decode cX6_pay 85 = .ok (.iconst 2, 1) := by decide +kernel
theorem dX6_pay_86 : decode cX6_pay 86 = .ok (.goto 13, 3) := by decide +kernel
theorem dX6_pay_89 : decode cX6_pay 89 = .ok (.iload 5, 2) := by decide +kernel
theorem dX6_pay_91 : decode cX6_pay 91 = .ok (.ifCond .eq 7, 3) := by decide +kernel
theorem dX6_pay_94 : decode cX6_pay 94 = .ok (.iconst 0, 1) := by decide +kernel
theorem dX6_pay_95 : decode cX6_pay 95 = .ok (.goto 4, 3) := by decide +kernel
theorem dX6_pay_98 : decode cX6_pay 98 = .ok (.iconst 3, 1) := by decide +kernel
theorem dX6_pay_99 : decode cX6_pay 99 = .ok (.invokevirtual 114, 3) := by decide +kernel
theorem dX6_pay_102 : decode cX6_pay 102 = .ok (.ifCond .ne 5, 3) := by decide +kernel
theorem dX6_pay_105 : decode cX6_pay 105 = .ok (.iconst 0, 1) := by decide +kernel
theorem dX6_pay_106 : decode cX6_pay 106 = .ok (.ireturn, 1) := by decide +kernel
theorem dX6_pay_107 : decode cX6_pay 107 = .ok (.aload_n 0, 1) := by decide +kernel
theorem dX6_pay_108 : decode cX6_pay 108 = .ok (.getfield 65, 3) := by decide +kernel
theorem dX6_pay_111 : decode cX6_pay 111 = .ok (.iload_n 1, 1) := by decide +kernel
theorem dX6_pay_112 : decode cX6_pay 112 = .ok (.dup2, 1) := by decide +kernel
theorem dX6_pay_113 : decode cX6_pay 113 = .ok (.iaload, 1) := by decide +kernel
theorem dX6_pay_114 : decode cX6_pay 114 = .ok (.iload_n 2, 1) := by decide +kernel
theorem dX6_pay_115 : decode cX6_pay 115 = .ok (.iadd, 1) := by decide +kernel
theorem dX6_pay_116 : decode cX6_pay 116 = .ok (.iastore, 1) := by decide +kernel
theorem dX6_pay_117 : decode cX6_pay 117 = .ok (.aload_n 0, 1) := by decide +kernel
theorem dX6_pay_118 : decode cX6_pay 118 = .ok (.getfield 17, 3) := by decide +kernel
theorem dX6_pay_121 : decode cX6_pay 121 = .ok (.aload_n 0, 1) := by decide +kernel
theorem dX6_pay_122 : decode cX6_pay 122 = .ok (.getfield 23, 3) := by decide +kernel
theorem dX6_pay_125 : decode cX6_pay 125 = .ok (.aload_n 0, 1) := by decide +kernel
theorem dX6_pay_126 : decode cX6_pay 126 = .ok (.getfield 56, 3) := by decide +kernel
theorem dX6_pay_129 : decode cX6_pay 129 = .ok (.iload_n 1, 1) := by decide +kernel
theorem dX6_pay_130 : decode cX6_pay 130 = .ok (.iaload, 1) := by decide +kernel
theorem dX6_pay_131 : decode cX6_pay 131 = .ok (.iaload, 1) := by decide +kernel
theorem dX6_pay_132 : decode cX6_pay 132 = .ok (.dup2, 1) := by decide +kernel
theorem dX6_pay_133 : decode cX6_pay 133 = .ok (.iaload, 1) := by decide +kernel
theorem dX6_pay_134 : decode cX6_pay 134 = .ok (.iload_n 2, 1) := by decide +kernel
theorem dX6_pay_135 : decode cX6_pay 135 = .ok (.iadd, 1) := by decide +kernel
theorem dX6_pay_136 : decode cX6_pay 136 = .ok (.iastore, 1) := by decide +kernel
theorem dX6_pay_137 : decode cX6_pay 137 = .ok (.aload_n 0, 1) := by decide +kernel
theorem dX6_pay_138 : decode cX6_pay 138 = .ok (.getfield 65, 3) := by decide +kernel
theorem dX6_pay_141 : decode cX6_pay 141 = .ok (.iload_n 1, 1) := by decide +kernel
theorem dX6_pay_142 : decode cX6_pay 142 = .ok (.iaload, 1) := by decide +kernel
theorem dX6_pay_143 : decode cX6_pay 143 = .ok (.ireturn, 1) := by decide +kernel
theorem dX6_report_0 : decode cX6_report 0 = .ok (.aload_n 0, 1) := by decide +kernel
theorem dX6_report_1 : decode cX6_report 1 = .ok (.iload_n 1, 1) := by decide +kernel
theorem dX6_report_2 : decode cX6_report 2 = .ok (.invokevirtual 159, 3) := by decide +kernel
theorem dX6_report_5 : decode cX6_report 5 = .ok (.istore_n 2, 1) := by decide +kernel
theorem dX6_report_6 : decode cX6_report 6 = .ok (.aload_n 0, 1) := by decide +kernel
theorem dX6_report_7 : decode cX6_report 7 = .ok (.iload_n 2, 1) := by decide +kernel
theorem dX6_report_8 : decode cX6_report 8 = .ok (.ifCond .ne 7, 3) := by decide +kernel
theorem dX6_report_11 : decode cX6_report 11 = .ok (.iconst 1, 1) := by decide +kernel
theorem dX6_report_12 : decode cX6_report 12 = .ok (.goto 18, 3) := by decide +kernel
theorem dX6_report_15 : decode cX6_report 15 = .ok (.aload_n 0, 1) := by decide +kernel
theorem dX6_report_16 : decode cX6_report 16 = .ok (.getfield 74, 3) := by decide +kernel
theorem dX6_report_19 : decode cX6_report 19 = .ok (.iload_n 1, 1) := by decide +kernel
theorem dX6_report_20 : decode cX6_report 20 = .ok (.iaload, 1) := by decide +kernel
theorem dX6_report_21 : decode cX6_report 21 = .ok (.iconst 2, 1) := by decide +kernel
theorem dX6_report_22 : decode cX6_report 22 = .ok (.if_icmp .ne 7, 3) := by decide +kernel
theorem dX6_report_25 : decode cX6_report 25 = .ok (.iconst 2, 1) := by decide +kernel
theorem dX6_report_26 : decode cX6_report 26 = .ok (.goto 4, 3) := by decide +kernel
theorem dX6_report_29 : decode cX6_report 29 = .ok (.iconst 0, 1) := by decide +kernel
theorem dX6_report_30 : decode cX6_report 30 = .ok (.invokevirtual 114, 3) := by decide +kernel
theorem dX6_report_33 : decode cX6_report 33 = .ok (.ifCond .ne 5, 3) := by decide +kernel
theorem dX6_report_36 : decode cX6_report 36 = .ok (.iconst 0, 1) := by decide +kernel
theorem dX6_report_37 : decode cX6_report 37 = .ok (.ireturn, 1) := by decide +kernel
theorem dX6_report_38 : decode cX6_report 38 = .ok (.aload_n 0, 1) := by decide +kernel
theorem dX6_report_39 : decode cX6_report 39 = .ok (.getfield 77, 3) := by decide +kernel
theorem dX6_report_42 : decode cX6_report 42 = .ok (.iload_n 1, 1) := by decide +kernel
theorem dX6_report_43 : decode cX6_report 43 = .ok (.baload, 1) := by decide +kernel
theorem dX6_report_44 : decode cX6_report 44 = .ok (.istore_n 3, 1) := by decide +kernel
theorem dX6_report_45 : decode cX6_report 45 = .ok (.aload_n 0, 1) := by decide +kernel
theorem dX6_report_46 : decode cX6_report 46 = .ok (.getfield 77, 3) := by decide +kernel
theorem dX6_report_49 : decode cX6_report 49 = .ok (.iload_n 1, 1) := by decide +kernel
theorem dX6_report_50 : decode cX6_report 50 = .ok (.iconst 1, 1) := by decide +kernel
theorem dX6_report_51 : decode cX6_report 51 = .ok (.bastore, 1) := by decide +kernel
theorem dX6_report_52 : decode cX6_report 52 = .ok (.iload_n 3, 1) := by decide +kernel
theorem dX6_report_53 : decode cX6_report 53 = .ok (.ifCond .ne 7, 3) := by decide +kernel
theorem dX6_report_56 : decode cX6_report 56 = .ok (.iconst 1, 1) := by decide +kernel
theorem dX6_report_57 : decode cX6_report 57 = .ok (.goto 4, 3) := by decide +kernel
theorem dX6_report_60 : decode cX6_report 60 = .ok (.iconst 0, 1) := by decide +kernel
theorem dX6_report_61 : decode cX6_report 61 = .ok (.ireturn, 1) := by decide +kernel
theorem dX6_spend_0 : decode cX6_spend 0 = .ok (.aload_n 0, 1) := by decide +kernel
theorem dX6_spend_1 : decode cX6_spend 1 = .ok (.iload_n 1, 1) := by decide +kernel
theorem dX6_spend_2 : decode cX6_spend 2 = .ok (.invokevirtual 120, 3) := by decide +kernel
theorem dX6_spend_5 : decode cX6_spend 5 = .ok (.istore_n 3, 1) := by decide +kernel
theorem dX6_spend_6 : decode cX6_spend 6 = .ok (.iload_n 2, 1) := by decide +kernel
theorem dX6_spend_7 : decode cX6_spend 7 = .ok (.iconst 1, 1) := by decide +kernel
theorem dX6_spend_8 : decode cX6_spend 8 = .ok (.ldc 119, 2) := by decide +kernel
theorem dX6_spend_10 : decode cX6_spend 10 = .ok (.invokestatic 93, 3) := by decide +kernel
theorem dX6_spend_13 : decode cX6_spend 13 = .ok (.istore 4, 2) := by decide +kernel
theorem dX6_spend_15 : decode cX6_spend 15 = .ok (.iload_n 3, 1) := by decide +kernel
theorem dX6_spend_16 : decode cX6_spend 16 = .ok (.ifCond .eq 30, 3) := by decide +kernel
theorem dX6_spend_19 : decode cX6_spend 19 = .ok (.iload 4, 2) := by decide +kernel
theorem dX6_spend_21 : decode cX6_spend 21 = .ok (.ifCond .eq 25, 3) := by decide +kernel
theorem dX6_spend_24 : decode cX6_spend 24 = .ok (.aload_n 0, 1) := by decide +kernel
theorem dX6_spend_25 : decode cX6_spend 25 = .ok (.iload_n 1, 1) := by decide +kernel
theorem dX6_spend_26 : decode cX6_spend 26 = .ok (.invokevirtual 137, 3) := by decide +kernel
theorem dX6_spend_29 : decode cX6_spend 29 = .ok (.iload_n 2, 1) := by decide +kernel
theorem dX6_spend_30 : decode cX6_spend 30 = .ok (.if_icmp .lt 16, 3) := by decide +kernel
theorem dX6_spend_33 : decode cX6_spend 33 = .ok (.aload_n 0, 1) := by decide +kernel
theorem dX6_spend_34 : decode cX6_spend 34 = .ok (.iload_n 1, 1) := by decide +kernel
theorem dX6_spend_35 : decode cX6_spend 35 = .ok (.iload_n 2, 1) := by decide +kernel
theorem dX6_spend_36 : decode cX6_spend 36 = .ok (.invokevirtual 162, 3) := by decide +kernel
theorem dX6_spend_39 : decode cX6_spend 39 = .ok (.ifCond .eq 7, 3) := by decide +kernel
theorem dX6_spend_42 : decode cX6_spend 42 = .ok (.iconst 1, 1) := by decide +kernel
theorem dX6_spend_43 : decode cX6_spend 43 = .ok (.goto 4, 3) := by decide +kernel
theorem dX6_spend_46 : decode cX6_spend 46 = .ok (.iconst 0, 1) := by decide +kernel
theorem dX6_spend_47 : decode cX6_spend 47 = .ok (.istore 5, 2) := by decide +kernel
theorem dX6_spend_49 : decode cX6_spend 49 = .ok (.aload_n 0, 1) := by decide +kernel
theorem dX6_spend_50 : decode cX6_spend 50 = .ok (.iload_n 3, 1) := by decide +kernel
theorem dX6_spend_51 : decode cX6_spend 51 = .ok (.ifCond .ne 7, 3) := by decide +kernel
theorem dX6_spend_54 : decode cX6_spend 54 = .ok (.iconst 1, 1) := by decide +kernel
theorem dX6_spend_55 : decode cX6_spend 55 = .ok (.goto 22, 3) := by decide +kernel
theorem dX6_spend_58 : decode cX6_spend 58 = .ok (.iload 4, 2) := by decide +kernel
theorem dX6_spend_60 : decode cX6_spend 60 = .ok (.ifCond .ne 7, 3) := by decide +kernel
theorem dX6_spend_63 : decode cX6_spend 63 = .ok (.iconst 2, 1) := by decide +kernel
theorem dX6_spend_64 : decode cX6_spend 64 = .ok (.goto 13, 3) := by decide +kernel
theorem dX6_spend_67 : decode cX6_spend 67 = .ok (.iload 5, 2) := by decide +kernel
theorem dX6_spend_69 : decode cX6_spend 69 = .ok (.ifCond .eq 7, 3) := by decide +kernel
theorem dX6_spend_72 : decode cX6_spend 72 = .ok (.iconst 0, 1) := by decide +kernel
theorem dX6_spend_73 : decode cX6_spend 73 = .ok (.goto 4, 3) := by decide +kernel
theorem dX6_spend_76 : decode cX6_spend 76 = .ok (.iconst 3, 1) := by decide +kernel
theorem dX6_spend_77 : decode cX6_spend 77 = .ok (.invokevirtual 114, 3) := by decide +kernel
theorem dX6_spend_80 : decode cX6_spend 80 = .ok (.ifCond .ne 5, 3) := by decide +kernel
theorem dX6_spend_83 : decode cX6_spend 83 = .ok (.iconst 0, 1) := by decide +kernel
theorem dX6_spend_84 : decode cX6_spend 84 = .ok (.ireturn, 1) := by decide +kernel
theorem dX6_spend_85 : decode cX6_spend 85 = .ok (.aload_n 0, 1) := by decide +kernel
theorem dX6_spend_86 : decode cX6_spend 86 = .ok (.getfield 35, 3) := by decide +kernel
theorem dX6_spend_89 : decode cX6_spend 89 = .ok (.iload_n 1, 1) := by decide +kernel
theorem dX6_spend_90 : decode cX6_spend 90 = .ok (.dup2, 1) := by decide +kernel
theorem dX6_spend_91 : decode cX6_spend 91 = .ok (.iaload, 1) := by decide +kernel
theorem dX6_spend_92 : decode cX6_spend 92 = .ok (.iload_n 2, 1) := by decide +kernel
theorem dX6_spend_93 : decode cX6_spend 93 = .ok (.iadd, 1) := by decide +kernel
theorem dX6_spend_94 : decode cX6_spend 94 = .ok (.iastore, 1) := by decide +kernel
theorem dX6_spend_95 : decode cX6_spend 95 = .ok (.aload_n 0, 1) := by decide +kernel
theorem dX6_spend_96 : decode cX6_spend 96 = .ok (.getfield 17, 3) := by decide +kernel
theorem dX6_spend_99 : decode cX6_spend 99 = .ok (.aload_n 0, 1) := by decide +kernel
theorem dX6_spend_100 : decode cX6_spend 100 = .ok (.getfield 23, 3) := by decide +kernel
theorem dX6_spend_103 : decode cX6_spend 103 = .ok (.iload_n 1, 1) := by decide +kernel
theorem dX6_spend_104 : decode cX6_spend 104 = .ok (.iaload, 1) := by decide +kernel
theorem dX6_spend_105 : decode cX6_spend 105 = .ok (.dup2, 1) := by decide +kernel
theorem dX6_spend_106 : decode cX6_spend 106 = .ok (.iaload, 1) := by decide +kernel
theorem dX6_spend_107 : decode cX6_spend 107 = .ok (.iload_n 2, 1) := by decide +kernel
theorem dX6_spend_108 : decode cX6_spend 108 = .ok (.iadd, 1) := by decide +kernel
theorem dX6_spend_109 : decode cX6_spend 109 = .ok (.iastore, 1) := by decide +kernel
theorem dX6_spend_110 : decode cX6_spend 110 = .ok (.aload_n 0, 1) := by decide +kernel
theorem dX6_spend_111 : decode cX6_spend 111 = .ok (.iload_n 1, 1) := by decide +kernel
theorem dX6_spend_112 : decode cX6_spend 112 = .ok (.invokevirtual 137, 3) := by decide +kernel
theorem dX6_spend_115 : decode cX6_spend 115 = .ok (.ireturn, 1) := by decide +kernel
theorem dX6_audit_0 : decode cX6_audit 0 = .ok (.aload_n 0, 1) := by decide +kernel
theorem dX6_audit_1 : decode cX6_audit 1 = .ok (.iload_n 1, 1) := by decide +kernel
theorem dX6_audit_2 : decode cX6_audit 2 = .ok (.invokevirtual 159, 3) := by decide +kernel
theorem dX6_audit_5 : decode cX6_audit 5 = .ok (.istore_n 3, 1) := by decide +kernel
theorem dX6_audit_6 : decode cX6_audit 6 = .ok (.iload_n 2, 1) := by decide +kernel
theorem dX6_audit_7 : decode cX6_audit 7 = .ok (.iconst 1, 1) := by decide +kernel
theorem dX6_audit_8 : decode cX6_audit 8 = .ok (.ldc 119, 2) := by decide +kernel
theorem dX6_audit_10 : decode cX6_audit 10 = .ok (.invokestatic 93, 3) := by decide +kernel
theorem dX6_audit_13 : decode cX6_audit 13 = .ok (.istore 4, 2) := by decide +kernel
theorem dX6_audit_15 : decode cX6_audit 15 = .ok (.iload_n 3, 1) := by decide +kernel
theorem dX6_audit_16 : decode cX6_audit 16 = .ok (.ifCond .eq 27, 3) := by decide +kernel
theorem dX6_audit_19 : decode cX6_audit 19 = .ok (.aload_n 0, 1) := by decide +kernel
theorem dX6_audit_20 : decode cX6_audit 20 = .ok (.getfield 74, 3) := by decide +kernel
theorem dX6_audit_23 : decode cX6_audit 23 = .ok (.iload_n 1, 1) := by decide +kernel
theorem dX6_audit_24 : decode cX6_audit 24 = .ok (.iaload, 1) := by decide +kernel
theorem dX6_audit_25 : decode cX6_audit 25 = .ok (.iconst 2, 1) := by decide +kernel
theorem dX6_audit_26 : decode cX6_audit 26 = .ok (.if_icmp .eq 17, 3) := by decide +kernel
theorem dX6_audit_29 : decode cX6_audit 29 = .ok (.aload_n 0, 1) := by decide +kernel
theorem dX6_audit_30 : decode cX6_audit 30 = .ok (.getfield 65, 3) := by decide +kernel
theorem dX6_audit_33 : decode cX6_audit 33 = .ok (.iload_n 1, 1) := by decide +kernel
theorem dX6_audit_34 : decode cX6_audit 34 = .ok (.iaload, 1) := by decide +kernel
theorem dX6_audit_35 : decode cX6_audit 35 = .ok (.iload_n 2, 1) := by decide +kernel
theorem dX6_audit_36 : decode cX6_audit 36 = .ok (.if_icmp .lt 7, 3) := by decide +kernel
theorem dX6_audit_39 : decode cX6_audit 39 = .ok (.iconst 1, 1) := by decide +kernel
theorem dX6_audit_40 : decode cX6_audit 40 = .ok (.goto 4, 3) := by decide +kernel
theorem dX6_audit_43 : decode cX6_audit 43 = .ok (.iconst 0, 1) := by decide +kernel
theorem dX6_audit_44 : decode cX6_audit 44 = .ok (.istore 5, 2) := by decide +kernel
theorem dX6_audit_46 : decode cX6_audit 46 = .ok (.aload_n 0, 1) := by decide +kernel
theorem dX6_audit_47 : decode cX6_audit 47 = .ok (.iload_n 3, 1) := by decide +kernel
theorem dX6_audit_48 : decode cX6_audit 48 = .ok (.ifCond .ne 7, 3) := by decide +kernel
theorem dX6_audit_51 : decode cX6_audit 51 = .ok (.iconst 1, 1) := by decide +kernel
theorem dX6_audit_52 : decode cX6_audit 52 = .ok (.goto 22, 3) := by decide +kernel
theorem dX6_audit_55 : decode cX6_audit 55 = .ok (.iload 4, 2) := by decide +kernel
theorem dX6_audit_57 : decode cX6_audit 57 = .ok (.ifCond .ne 7, 3) := by decide +kernel
theorem dX6_audit_60 : decode cX6_audit 60 = .ok (.iconst 2, 1) := by decide +kernel
theorem dX6_audit_61 : decode cX6_audit 61 = .ok (.goto 13, 3) := by decide +kernel
theorem dX6_audit_64 : decode cX6_audit 64 = .ok (.iload 5, 2) := by decide +kernel
theorem dX6_audit_66 : decode cX6_audit 66 = .ok (.ifCond .eq 7, 3) := by decide +kernel
theorem dX6_audit_69 : decode cX6_audit 69 = .ok (.iconst 0, 1) := by decide +kernel
theorem dX6_audit_70 : decode cX6_audit 70 = .ok (.goto 4, 3) := by decide +kernel
theorem dX6_audit_73 : decode cX6_audit 73 = .ok (.iconst 3, 1) := by decide +kernel
theorem dX6_audit_74 : decode cX6_audit 74 = .ok (.invokevirtual 114, 3) := by decide +kernel
theorem dX6_audit_77 : decode cX6_audit 77 = .ok (.ifCond .ne 5, 3) := by decide +kernel
theorem dX6_audit_80 : decode cX6_audit 80 = .ok (.iconst 0, 1) := by decide +kernel
theorem dX6_audit_81 : decode cX6_audit 81 = .ok (.ireturn, 1) := by decide +kernel
theorem dX6_audit_82 : decode cX6_audit 82 = .ok (.aload_n 0, 1) := by decide +kernel
theorem dX6_audit_83 : decode cX6_audit 83 = .ok (.getfield 20, 3) := by decide +kernel
theorem dX6_audit_86 : decode cX6_audit 86 = .ok (.aload_n 0, 1) := by decide +kernel
theorem dX6_audit_87 : decode cX6_audit 87 = .ok (.getfield 59, 3) := by decide +kernel
theorem dX6_audit_90 : decode cX6_audit 90 = .ok (.iload_n 1, 1) := by decide +kernel
theorem dX6_audit_91 : decode cX6_audit 91 = .ok (.iaload, 1) := by decide +kernel
theorem dX6_audit_92 : decode cX6_audit 92 = .ok (.dup2, 1) := by decide +kernel
theorem dX6_audit_93 : decode cX6_audit 93 = .ok (.iaload, 1) := by decide +kernel
theorem dX6_audit_94 : decode cX6_audit 94 = .ok (.iload_n 2, 1) := by decide +kernel
theorem dX6_audit_95 : decode cX6_audit 95 = .ok (.iadd, 1) := by decide +kernel
theorem dX6_audit_96 : decode cX6_audit 96 = .ok (.iastore, 1) := by decide +kernel
theorem dX6_audit_97 : decode cX6_audit 97 = .ok (.aload_n 0, 1) := by decide +kernel
theorem dX6_audit_98 : decode cX6_audit 98 = .ok (.getfield 35, 3) := by decide +kernel
theorem dX6_audit_101 : decode cX6_audit 101 = .ok (.aload_n 0, 1) := by decide +kernel
theorem dX6_audit_102 : decode cX6_audit 102 = .ok (.getfield 56, 3) := by decide +kernel
theorem dX6_audit_105 : decode cX6_audit 105 = .ok (.iload_n 1, 1) := by decide +kernel
theorem dX6_audit_106 : decode cX6_audit 106 = .ok (.iaload, 1) := by decide +kernel
theorem dX6_audit_107 : decode cX6_audit 107 = .ok (.dup2, 1) := by decide +kernel
theorem dX6_audit_108 : decode cX6_audit 108 = .ok (.iaload, 1) := by decide +kernel
theorem dX6_audit_109 : decode cX6_audit 109 = .ok (.iload_n 2, 1) := by decide +kernel
theorem dX6_audit_110 : decode cX6_audit 110 = .ok (.iadd, 1) := by decide +kernel
theorem dX6_audit_111 : decode cX6_audit 111 = .ok (.iastore, 1) := by decide +kernel
theorem dX6_audit_112 : decode cX6_audit 112 = .ok (.aload_n 0, 1) := by decide +kernel
theorem dX6_audit_113 : decode cX6_audit 113 = .ok (.getfield 74, 3) := by decide +kernel
theorem dX6_audit_116 : decode cX6_audit 116 = .ok (.iload_n 1, 1) := by decide +kernel
theorem dX6_audit_117 : decode cX6_audit 117 = .ok (.iconst 1, 1) := by decide +kernel
theorem dX6_audit_118 : decode cX6_audit 118 = .ok (.iastore, 1) := by decide +kernel
theorem dX6_audit_119 : decode cX6_audit 119 = .ok (.aload_n 0, 1) := by decide +kernel
theorem dX6_audit_120 : decode cX6_audit 120 = .ok (.getfield 65, 3) := by decide +kernel
theorem dX6_audit_123 : decode cX6_audit 123 = .ok (.iload_n 1, 1) := by decide +kernel
theorem dX6_audit_124 : decode cX6_audit 124 = .ok (.dup2, 1) := by decide +kernel
theorem dX6_audit_125 : decode cX6_audit 125 = .ok (.iaload, 1) := by decide +kernel
theorem dX6_audit_126 : decode cX6_audit 126 = .ok (.iload_n 2, 1) := by decide +kernel
theorem dX6_audit_127 : decode cX6_audit 127 = .ok (.isub, 1) := by decide +kernel
theorem dX6_audit_128 : decode cX6_audit 128 = .ok (.iastore, 1) := by decide +kernel
theorem dX6_audit_129 : decode cX6_audit 129 = .ok (.aload_n 0, 1) := by decide +kernel
theorem dX6_audit_130 : decode cX6_audit 130 = .ok (.getfield 62, 3) := by decide +kernel
theorem dX6_audit_133 : decode cX6_audit 133 = .ok (.iload_n 1, 1) := by decide +kernel
theorem dX6_audit_134 : decode cX6_audit 134 = .ok (.aload_n 0, 1) := by decide +kernel
theorem dX6_audit_135 : decode cX6_audit 135 = .ok (.getfield 65, 3) := by decide +kernel
theorem dX6_audit_138 : decode cX6_audit 138 = .ok (.iload_n 1, 1) := by decide +kernel
theorem dX6_audit_139 : decode cX6_audit 139 = .ok (.iaload, 1) := by decide +kernel
theorem dX6_audit_140 : decode cX6_audit 140 = .ok (.iastore, 1) := by decide +kernel
theorem dX6_audit_141 : decode cX6_audit 141 = .ok (.aload_n 0, 1) := by decide +kernel
theorem dX6_audit_142 : decode cX6_audit 142 = .ok (.getfield 65, 3) := by decide +kernel
theorem dX6_audit_145 : decode cX6_audit 145 = .ok (.iload_n 1, 1) := by decide +kernel
theorem dX6_audit_146 : decode cX6_audit 146 = .ok (.iaload, 1) := by decide +kernel
theorem dX6_audit_147 : decode cX6_audit 147 = .ok (.ireturn, 1) := by decide +kernel
theorem dX6_repay_0 : decode cX6_repay 0 = .ok (.iload_n 1, 1) := by decide +kernel
theorem dX6_repay_1 : decode cX6_repay 1 = .ok (.iconst 0, 1) := by decide +kernel
theorem dX6_repay_2 : decode cX6_repay 2 = .ok (.bipush 7, 2) := by decide +kernel
theorem dX6_repay_4 : decode cX6_repay 4 = .ok (.invokestatic 93, 3) := by decide +kernel
theorem dX6_repay_7 : decode cX6_repay 7 = .ok (.istore_n 3, 1) := by decide +kernel
theorem dX6_repay_8 : decode cX6_repay 8 = .ok (.iload_n 2, 1) := by decide +kernel
theorem dX6_repay_9 : decode cX6_repay 9 = .ok (.iconst 1, 1) := by decide +kernel
theorem dX6_repay_10 : decode cX6_repay 10 = .ok (.ldc 119, 2) := by decide +kernel
theorem dX6_repay_12 : decode cX6_repay 12 = .ok (.invokestatic 93, 3) := by decide +kernel
theorem dX6_repay_15 : decode cX6_repay 15 = .ok (.istore 4, 2) := by decide +kernel
theorem dX6_repay_17 : decode cX6_repay 17 = .ok (.aload_n 0, 1) := by decide +kernel
theorem dX6_repay_18 : decode cX6_repay 18 = .ok (.iload_n 3, 1) := by decide +kernel
theorem dX6_repay_19 : decode cX6_repay 19 = .ok (.ifCond .ne 7, 3) := by decide +kernel
theorem dX6_repay_22 : decode cX6_repay 22 = .ok (.iconst 1, 1) := by decide +kernel
theorem dX6_repay_23 : decode cX6_repay 23 = .ok (.goto 27, 3) := by decide +kernel
theorem dX6_repay_26 : decode cX6_repay 26 = .ok (.iload 4, 2) := by decide +kernel
theorem dX6_repay_28 : decode cX6_repay 28 = .ok (.ifCond .ne 7, 3) := by decide +kernel
theorem dX6_repay_31 : decode cX6_repay 31 = .ok (.iconst 2, 1) := by decide +kernel
theorem dX6_repay_32 : decode cX6_repay 32 = .ok (.goto 18, 3) := by decide +kernel
theorem dX6_repay_35 : decode cX6_repay 35 = .ok (.aload_n 0, 1) := by decide +kernel
theorem dX6_repay_36 : decode cX6_repay 36 = .ok (.getfield 20, 3) := by decide +kernel
theorem dX6_repay_39 : decode cX6_repay 39 = .ok (.iload_n 1, 1) := by decide +kernel
theorem dX6_repay_40 : decode cX6_repay 40 = .ok (.iaload, 1) := by decide +kernel
theorem dX6_repay_41 : decode cX6_repay 41 = .ok (.iload_n 2, 1) := by decide +kernel
theorem dX6_repay_42 : decode cX6_repay 42 = .ok (.if_icmp .ge 7, 3) := by decide +kernel
theorem dX6_repay_45 : decode cX6_repay 45 = .ok (.iconst 3, 1) := by decide +kernel
theorem dX6_repay_46 : decode cX6_repay 46 = .ok (.goto 4, 3) := by decide +kernel
theorem dX6_repay_49 : decode cX6_repay 49 = .ok (.iconst 0, 1) := by decide +kernel
theorem dX6_repay_50 : decode cX6_repay 50 = .ok (.invokevirtual 114, 3) := by decide +kernel
theorem dX6_repay_53 : decode cX6_repay 53 = .ok (.ifCond .ne 5, 3) := by decide +kernel
theorem dX6_repay_56 : decode cX6_repay 56 = .ok (.iconst 0, 1) := by decide +kernel
theorem dX6_repay_57 : decode cX6_repay 57 = .ok (.ireturn, 1) := by decide +kernel
theorem dX6_repay_58 : decode cX6_repay 58 = .ok (.aload_n 0, 1) := by decide +kernel
theorem dX6_repay_59 : decode cX6_repay 59 = .ok (.getfield 20, 3) := by decide +kernel
theorem dX6_repay_62 : decode cX6_repay 62 = .ok (.iload_n 1, 1) := by decide +kernel
theorem dX6_repay_63 : decode cX6_repay 63 = .ok (.dup2, 1) := by decide +kernel
theorem dX6_repay_64 : decode cX6_repay 64 = .ok (.iaload, 1) := by decide +kernel
theorem dX6_repay_65 : decode cX6_repay 65 = .ok (.iload_n 2, 1) := by decide +kernel
theorem dX6_repay_66 : decode cX6_repay 66 = .ok (.isub, 1) := by decide +kernel
theorem dX6_repay_67 : decode cX6_repay 67 = .ok (.iastore, 1) := by decide +kernel
theorem dX6_repay_68 : decode cX6_repay 68 = .ok (.aload_n 0, 1) := by decide +kernel
theorem dX6_repay_69 : decode cX6_repay 69 = .ok (.dup, 1) := by decide +kernel
theorem dX6_repay_70 : decode cX6_repay 70 = .ok (.getfield 140, 3) := by decide +kernel
theorem dX6_repay_73 : decode cX6_repay 73 = .ok (.iload_n 2, 1) := by decide +kernel
theorem dX6_repay_74 : decode cX6_repay 74 = .ok (.iadd, 1) := by decide +kernel
theorem dX6_repay_75 : decode cX6_repay 75 = .ok (.putfield 140, 3) := by decide +kernel
theorem dX6_repay_78 : decode cX6_repay 78 = .ok (.aload_n 0, 1) := by decide +kernel
theorem dX6_repay_79 : decode cX6_repay 79 = .ok (.getfield 20, 3) := by decide +kernel
theorem dX6_repay_82 : decode cX6_repay 82 = .ok (.iload_n 1, 1) := by decide +kernel
theorem dX6_repay_83 : decode cX6_repay 83 = .ok (.iaload, 1) := by decide +kernel
theorem dX6_repay_84 : decode cX6_repay 84 = .ok (.ireturn, 1) := by decide +kernel
theorem dX6_target_0 : decode cX6_target 0 = .ok (.aload_n 0, 1) := by decide +kernel
theorem dX6_target_1 : decode cX6_target 1 = .ok (.iload_n 1, 1) := by decide +kernel
theorem dX6_target_2 : decode cX6_target 2 = .ok (.iconst 0, 1) := by decide +kernel
theorem dX6_target_3 : decode cX6_target 3 = .ok (.bipush 50, 2) := by decide +kernel
theorem dX6_target_5 : decode cX6_target 5 = .ok (.invokestatic 93, 3) := by decide +kernel
theorem dX6_target_8 : decode cX6_target 8 = .ok (.ifCond .eq 7, 3) := by decide +kernel
theorem dX6_target_11 : decode cX6_target 11 = .ok (.iconst 0, 1) := by decide +kernel
theorem dX6_target_12 : decode cX6_target 12 = .ok (.goto 4, 3) := by decide +kernel
theorem dX6_target_15 : decode cX6_target 15 = .ok (.iconst 1, 1) := by decide +kernel
theorem dX6_target_16 : decode cX6_target 16 = .ok (.invokevirtual 114, 3) := by decide +kernel
theorem dX6_target_19 : decode cX6_target 19 = .ok (.ifCond .ne 5, 3) := by decide +kernel
theorem dX6_target_22 : decode cX6_target 22 = .ok (.iconst 0, 1) := by decide +kernel
theorem dX6_target_23 : decode cX6_target 23 = .ok (.ireturn, 1) := by decide +kernel
theorem dX6_target_24 : decode cX6_target 24 = .ok (.aload_n 0, 1) := by decide +kernel
theorem dX6_target_25 : decode cX6_target 25 = .ok (.getfield 7, 3) := by decide +kernel
theorem dX6_target_28 : decode cX6_target 28 = .ok (.istore_n 2, 1) := by decide +kernel
theorem dX6_target_29 : decode cX6_target 29 = .ok (.aload_n 0, 1) := by decide +kernel
theorem dX6_target_30 : decode cX6_target 30 = .ok (.iload_n 1, 1) := by decide +kernel
theorem dX6_target_31 : decode cX6_target 31 = .ok (.putfield 7, 3) := by decide +kernel
theorem dX6_target_34 : decode cX6_target 34 = .ok (.iload_n 2, 1) := by decide +kernel
theorem dX6_target_35 : decode cX6_target 35 = .ok (.ireturn, 1) := by decide +kernel
theorem dX6_fill_0 : decode cX6_fill 0 = .ok (.lconst 0, 1) := by decide +kernel
theorem dX6_fill_1 : decode cX6_fill 1 = .ok (.lstore_n 1, 1) := by decide +kernel
theorem dX6_fill_2 : decode cX6_fill 2 = .ok (.iconst 0, 1) := by decide +kernel
theorem dX6_fill_3 : decode cX6_fill 3 = .ok (.istore_n 3, 1) := by decide +kernel
theorem dX6_fill_4 : decode cX6_fill 4 = .ok (.iload_n 3, 1) := by decide +kernel
theorem dX6_fill_5 : decode cX6_fill 5 = .ok (.aload_n 0, 1) := by decide +kernel
theorem dX6_fill_6 : decode cX6_fill 6 = .ok (.getfield 90, 3) := by decide +kernel
theorem dX6_fill_9 : decode cX6_fill 9 = .ok (.if_icmp .ge 18, 3) := by decide +kernel
theorem dX6_fill_12 : decode cX6_fill 12 = .ok (.lload_n 1, 1) := by decide +kernel
theorem dX6_fill_13 : decode cX6_fill 13 = .ok (.aload_n 0, 1) := by decide +kernel
theorem dX6_fill_14 : decode cX6_fill 14 = .ok (.iload_n 3, 1) := by decide +kernel
theorem dX6_fill_15 : decode cX6_fill 15 = .ok (.invokevirtual 106, 3) := by decide +kernel
theorem dX6_fill_18 : decode cX6_fill 18 = .ok (.i2l, 1) := by decide +kernel
theorem dX6_fill_19 : decode cX6_fill 19 = .ok (.ladd, 1) := by decide +kernel
theorem dX6_fill_20 : decode cX6_fill 20 = .ok (.lstore_n 1, 1) := by decide +kernel
theorem dX6_fill_21 : decode cX6_fill 21 = .ok (.iinc 3 1, 3) := by decide +kernel
theorem dX6_fill_24 : decode cX6_fill 24 = .ok (.goto (-20), 3) := by decide +kernel
theorem dX6_fill_27 : decode cX6_fill 27 = .ok (.lload_n 1, 1) := by decide +kernel
theorem dX6_fill_28 : decode cX6_fill 28 = .ok (.lconst 0, 1) := by decide +kernel
theorem dX6_fill_29 : decode cX6_fill 29 = .ok (.lcmp, 1) := by decide +kernel
theorem dX6_fill_30 : decode cX6_fill 30 = .ok (.ifCond .ge 7, 3) := by decide +kernel
theorem dX6_fill_33 : decode cX6_fill 33 = .ok (.lconst 0, 1) := by decide +kernel
theorem dX6_fill_34 : decode cX6_fill 34 = .ok (.goto 14, 3) := by decide +kernel
theorem dX6_fill_37 : decode cX6_fill 37 = .ok (.aload_n 0, 1) := by decide +kernel
theorem dX6_fill_38 : decode cX6_fill 38 = .ok (.getfield 7, 3) := by decide +kernel
theorem dX6_fill_41 : decode cX6_fill 41 = .ok (.i2l, 1) := by decide +kernel
theorem dX6_fill_42 : decode cX6_fill 42 = .ok (.lload_n 1, 1) := by decide +kernel
theorem dX6_fill_43 : decode cX6_fill 43 = .ok (.lmul, 1) := by decide +kernel
theorem dX6_fill_44 : decode cX6_fill 44 = .ok (.ldc2_w 166, 3) := by decide +kernel
theorem dX6_fill_47 : decode cX6_fill 47 = .ok (.ldiv, 1) := by decide +kernel
theorem dX6_fill_48 : decode cX6_fill 48 = .ok (.lstore_n 3, 1) := by decide +kernel
theorem dX6_fill_49 : decode cX6_fill 49 = .ok (.iconst 0, 1) := by decide +kernel
theorem dX6_fill_50 : decode cX6_fill 50 = .ok (.istore 5, 2) := by decide +kernel
theorem dX6_fill_52 : decode cX6_fill 52 = .ok (.iload 5, 2) := by decide +kernel
theorem dX6_fill_54 : decode cX6_fill 54 = .ok (.aload_n 0, 1) := by decide +kernel
theorem dX6_fill_55 : decode cX6_fill 55 = .ok (.getfield 90, 3) := by decide +kernel
theorem dX6_fill_58 : decode cX6_fill 58 = .ok (.if_icmp .ge 79, 3) := by decide +kernel
theorem dX6_fill_61 : decode cX6_fill 61 = .ok (.lload_n 3, 1) := by decide +kernel
theorem dX6_fill_62 : decode cX6_fill 62 = .ok (.aload_n 0, 1) := by decide +kernel
theorem dX6_fill_63 : decode cX6_fill 63 = .ok (.getfield 140, 3) := by decide +kernel
theorem dX6_fill_66 : decode cX6_fill 66 = .ok (.i2l, 1) := by decide +kernel
theorem dX6_fill_67 : decode cX6_fill 67 = .ok (.lsub, 1) := by decide +kernel
theorem dX6_fill_68 : decode cX6_fill 68 = .ok (.lstore 6, 2) := by decide +kernel
theorem dX6_fill_70 : decode cX6_fill 70 = .ok (.aload_n 0, 1) := by decide +kernel
theorem dX6_fill_71 : decode cX6_fill 71 = .ok (.iload 5, 2) := by decide +kernel
theorem dX6_fill_73 : decode cX6_fill 73 = .ok (.invokevirtual 137, 3) := by decide +kernel
theorem dX6_fill_76 : decode cX6_fill 76 = .ok (.bipush 10, 2) := by decide +kernel
theorem dX6_fill_78 : decode cX6_fill 78 = .ok (.idiv, 1) := by decide +kernel
theorem dX6_fill_79 : decode cX6_fill 79 = .ok (.i2l, 1) := by decide +kernel
theorem dX6_fill_80 : decode cX6_fill 80 = .ok (.lstore 8, 2) := by decide +kernel
theorem dX6_fill_82 : decode cX6_fill 82 = .ok (.lload 8, 2) := by decide +kernel
theorem dX6_fill_84 : decode cX6_fill 84 = .ok (.lload 6, 2) := by decide +kernel
theorem dX6_fill_86 : decode cX6_fill 86 = .ok (.lcmp, 1) := by decide +kernel
theorem dX6_fill_87 : decode cX6_fill 87 = .ok (.ifCond .ge 8, 3) := by decide +kernel
theorem dX6_fill_90 : decode cX6_fill 90 = .ok (.lload 8, 2) := by decide +kernel
theorem dX6_fill_92 : decode cX6_fill 92 = .ok (.goto 5, 3) := by decide +kernel
theorem dX6_fill_95 : decode cX6_fill 95 = .ok (.lload 6, 2) := by decide +kernel
theorem dX6_fill_97 : decode cX6_fill 97 = .ok (.lstore 8, 2) := by decide +kernel
theorem dX6_fill_99 : decode cX6_fill 99 = .ok (.lload 8, 2) := by decide +kernel
theorem dX6_fill_101 : decode cX6_fill 101 = .ok (.lconst 0, 1) := by decide +kernel
theorem dX6_fill_102 : decode cX6_fill 102 = .ok (.lcmp, 1) := by decide +kernel
theorem dX6_fill_103 : decode cX6_fill 103 = .ok (.ifCond .le 28, 3) := by decide +kernel
theorem dX6_fill_106 : decode cX6_fill 106 = .ok (.aload_n 0, 1) := by decide +kernel
theorem dX6_fill_107 : decode cX6_fill 107 = .ok (.getfield 29, 3) := by decide +kernel
theorem dX6_fill_110 : decode cX6_fill 110 = .ok (.iload 5, 2) := by decide +kernel
theorem dX6_fill_112 : decode cX6_fill 112 = .ok (.dup2, 1) := by decide +kernel
theorem dX6_fill_113 : decode cX6_fill 113 = .ok (.iaload, 1) := by decide +kernel
theorem dX6_fill_114 : decode cX6_fill 114 = .ok (.lload 8, 2) := by decide +kernel
theorem dX6_fill_116 : decode cX6_fill 116 = .ok (.l2i, 1) := by decide +kernel
theorem dX6_fill_117 : decode cX6_fill 117 = .ok (.iadd, 1) := by decide +kernel
theorem dX6_fill_118 : decode cX6_fill 118 = .ok (.iastore, 1) := by decide +kernel
theorem dX6_fill_119 : decode cX6_fill 119 = .ok (.aload_n 0, 1) := by decide +kernel
theorem dX6_fill_120 : decode cX6_fill 120 = .ok (.dup, 1) := by decide +kernel
theorem dX6_fill_121 : decode cX6_fill 121 = .ok (.getfield 140, 3) := by decide +kernel
theorem dX6_fill_124 : decode cX6_fill 124 = .ok (.lload 8, 2) := by decide +kernel
theorem dX6_fill_126 : decode cX6_fill 126 = .ok (.l2i, 1) := by decide +kernel
theorem dX6_fill_127 : decode cX6_fill 127 = .ok (.iadd, 1) := by decide +kernel
theorem dX6_fill_128 : decode cX6_fill 128 = .ok (.putfield 140, 3) := by decide +kernel
theorem dX6_fill_131 : decode cX6_fill 131 = .ok (.iinc 5 1, 3) := by decide +kernel
theorem dX6_fill_134 : decode cX6_fill 134 = .ok (.goto (-82), 3) := by decide +kernel
theorem dX6_fill_137 : decode cX6_fill 137 = .ok (.return_, 1) := by decide +kernel
theorem dX6_month_0 : decode cX6_month 0 = .ok (.aload_n 0, 1) := by decide +kernel
theorem dX6_month_1 : decode cX6_month 1 = .ok (.iload_n 1, 1) := by decide +kernel
theorem dX6_month_2 : decode cX6_month 2 = .ok (.iconst 1, 1) := by decide +kernel
theorem dX6_month_3 : decode cX6_month 3 = .ok (.bipush 24, 2) := by decide +kernel
theorem dX6_month_5 : decode cX6_month 5 = .ok (.invokestatic 93, 3) := by decide +kernel
theorem dX6_month_8 : decode cX6_month 8 = .ok (.ifCond .eq 7, 3) := by decide +kernel
theorem dX6_month_11 : decode cX6_month 11 = .ok (.iconst 0, 1) := by decide +kernel
theorem dX6_month_12 : decode cX6_month 12 = .ok (.goto 4, 3) := by decide +kernel
theorem dX6_month_15 : decode cX6_month 15 = .ok (.iconst 1, 1) := by decide +kernel
theorem dX6_month_16 : decode cX6_month 16 = .ok (.invokevirtual 114, 3) := by decide +kernel
theorem dX6_month_19 : decode cX6_month 19 = .ok (.ifCond .ne 5, 3) := by decide +kernel
theorem dX6_month_22 : decode cX6_month 22 = .ok (.iconst 0, 1) := by decide +kernel
theorem dX6_month_23 : decode cX6_month 23 = .ok (.ireturn, 1) := by decide +kernel
theorem dX6_month_24 : decode cX6_month 24 = .ok (.iconst 0, 1) := by decide +kernel
theorem dX6_month_25 : decode cX6_month 25 = .ok (.istore_n 2, 1) := by decide +kernel
theorem dX6_month_26 : decode cX6_month 26 = .ok (.iload_n 2, 1) := by decide +kernel
theorem dX6_month_27 : decode cX6_month 27 = .ok (.iload_n 1, 1) := by decide +kernel
theorem dX6_month_28 : decode cX6_month 28 = .ok (.if_icmp .ge 75, 3) := by decide +kernel
theorem dX6_month_31 : decode cX6_month 31 = .ok (.aload_n 0, 1) := by decide +kernel
theorem dX6_month_32 : decode cX6_month 32 = .ok (.dup, 1) := by decide +kernel
theorem dX6_month_33 : decode cX6_month 33 = .ok (.getfield 156, 3) := by decide +kernel
theorem dX6_month_36 : decode cX6_month 36 = .ok (.iconst 1, 1) := by decide +kernel
theorem dX6_month_37 : decode cX6_month 37 = .ok (.iadd, 1) := by decide +kernel
theorem dX6_month_38 : decode cX6_month 38 = .ok (.putfield 156, 3) := by decide +kernel
theorem dX6_month_41 : decode cX6_month 41 = .ok (.iconst 0, 1) := by decide +kernel
theorem dX6_month_42 : decode cX6_month 42 = .ok (.istore_n 3, 1) := by decide +kernel
theorem dX6_month_43 : decode cX6_month 43 = .ok (.iload_n 3, 1) := by decide +kernel
theorem dX6_month_44 : decode cX6_month 44 = .ok (.aload_n 0, 1) := by decide +kernel
theorem dX6_month_45 : decode cX6_month 45 = .ok (.getfield 100, 3) := by decide +kernel
theorem dX6_month_48 : decode cX6_month 48 = .ok (.if_icmp .ge 45, 3) := by decide +kernel
theorem dX6_month_51 : decode cX6_month 51 = .ok (.aload_n 0, 1) := by decide +kernel
theorem dX6_month_52 : decode cX6_month 52 = .ok (.getfield 74, 3) := by decide +kernel
theorem dX6_month_55 : decode cX6_month 55 = .ok (.iload_n 3, 1) := by decide +kernel
theorem dX6_month_56 : decode cX6_month 56 = .ok (.iaload, 1) := by decide +kernel
theorem dX6_month_57 : decode cX6_month 57 = .ok (.ifCond .ne 30, 3) := by decide +kernel
theorem dX6_month_60 : decode cX6_month 60 = .ok (.aload_n 0, 1) := by decide +kernel
theorem dX6_month_61 : decode cX6_month 61 = .ok (.getfield 71, 3) := by decide +kernel
theorem dX6_month_64 : decode cX6_month 64 = .ok (.iload_n 3, 1) := by decide +kernel
theorem dX6_month_65 : decode cX6_month 65 = .ok (.iaload, 1) := by decide +kernel
theorem dX6_month_66 : decode cX6_month 66 = .ok (.aload_n 0, 1) := by decide +kernel
theorem dX6_month_67 : decode cX6_month 67 = .ok (.getfield 156, 3) := by decide +kernel
theorem dX6_month_70 : decode cX6_month 70 = .ok (.if_icmp .ge 17, 3) := by decide +kernel
theorem dX6_month_73 : decode cX6_month 73 = .ok (.aload_n 0, 1) := by decide +kernel
theorem dX6_month_74 : decode cX6_month 74 = .ok (.getfield 77, 3) := by decide +kernel
theorem dX6_month_77 : decode cX6_month 77 = .ok (.iload_n 3, 1) := by decide +kernel
theorem dX6_month_78 : decode cX6_month 78 = .ok (.baload, 1) := by decide +kernel
theorem dX6_month_79 : decode cX6_month 79 = .ok (.ifCond .ne 8, 3) := by decide +kernel
theorem dX6_month_82 : decode cX6_month 82 = .ok (.aload_n 0, 1) := by decide +kernel
theorem dX6_month_83 : decode cX6_month 83 = .ok (.iload_n 3, 1) := by decide +kernel
theorem dX6_month_84 : decode cX6_month 84 = .ok (.invokevirtual 143, 3) := by decide +kernel
theorem dX6_month_87 : decode cX6_month 87 = .ok (.iinc 3 1, 3) := by decide +kernel
theorem dX6_month_90 : decode cX6_month 90 = .ok (.goto (-47), 3) := by decide +kernel
theorem dX6_month_93 : decode cX6_month 93 = .ok (.aload_n 0, 1) := by decide +kernel
theorem dX6_month_94 : decode cX6_month 94 = .ok (.invokevirtual 168, 3) := by decide +kernel
theorem dX6_month_97 : decode cX6_month 97 = .ok (.iinc 2 1, 3) := by decide +kernel
theorem dX6_month_100 : decode cX6_month 100 = .ok (.goto (-74), 3) := by decide +kernel
theorem dX6_month_103 : decode cX6_month 103 = .ok (.aload_n 0, 1) := by decide +kernel
theorem dX6_month_104 : decode cX6_month 104 = .ok (.getfield 156, 3) := by decide +kernel
theorem dX6_month_107 : decode cX6_month 107 = .ok (.ireturn, 1) := by decide +kernel
theorem dX6_ofLine_0 : decode cX6_ofLine 0 = .ok (.aload_n 0, 1) := by decide +kernel
theorem dX6_ofLine_1 : decode cX6_ofLine 1 = .ok (.iload_n 1, 1) := by decide +kernel
theorem dX6_ofLine_2 : decode cX6_ofLine 2 = .ok (.invokevirtual 120, 3) := by decide +kernel
theorem dX6_ofLine_5 : decode cX6_ofLine 5 = .ok (.istore_n 3, 1) := by decide +kernel
theorem dX6_ofLine_6 : decode cX6_ofLine 6 = .ok (.aload_n 0, 1) := by decide +kernel
theorem dX6_ofLine_7 : decode cX6_ofLine 7 = .ok (.iload_n 3, 1) := by decide +kernel
theorem dX6_ofLine_8 : decode cX6_ofLine 8 = .ok (.ifCond .ne 7, 3) := by decide +kernel
theorem dX6_ofLine_11 : decode cX6_ofLine 11 = .ok (.iconst 1, 1) := by decide +kernel
theorem dX6_ofLine_12 : decode cX6_ofLine 12 = .ok (.goto 18, 3) := by decide +kernel
theorem dX6_ofLine_15 : decode cX6_ofLine 15 = .ok (.iload_n 2, 1) := by decide +kernel
theorem dX6_ofLine_16 : decode cX6_ofLine 16 = .ok (.iconst 0, 1) := by decide +kernel
theorem dX6_ofLine_17 : decode cX6_ofLine 17 = .ok (.bipush 6, 2) := by decide +kernel
theorem dX6_ofLine_19 : decode cX6_ofLine 19 = .ok (.invokestatic 93, 3) := by decide +kernel
theorem dX6_ofLine_22 : decode cX6_ofLine 22 = .ok (.ifCond .eq 7, 3) := by decide +kernel
theorem dX6_ofLine_25 : decode cX6_ofLine 25 = .ok (.iconst 0, 1) := by decide +kernel
theorem dX6_ofLine_26 : decode cX6_ofLine 26 = .ok (.goto 4, 3) := by decide +kernel
theorem dX6_ofLine_29 : decode cX6_ofLine 29 = .ok (.iconst 2, 1) := by decide +kernel
theorem dX6_ofLine_30 : decode cX6_ofLine 30 = .ok (.invokevirtual 114, 3) := by decide +kernel
theorem dX6_ofLine_33 : decode cX6_ofLine 33 = .ok (.ifCond .ne 5, 3) := by decide +kernel
theorem dX6_ofLine_36 : decode cX6_ofLine 36 = .ok (.iconst 0, 1) := by decide +kernel
theorem dX6_ofLine_37 : decode cX6_ofLine 37 = .ok (.ireturn, 1) := by decide +kernel
theorem dX6_ofLine_38 : decode cX6_ofLine 38 = .ok (.iload_n 2, 1) := by decide +kernel
theorem dX6_ofLine_39 : decode cX6_ofLine 39 = .ok (.tableswitch 76 0 5 #[37, 43, 50, 56, 62, 69], 37) := by decide +kernel
theorem dX6_ofLine_76 : decode cX6_ofLine 76 = .ok (.aload_n 0, 1) := by decide +kernel
theorem dX6_ofLine_77 : decode cX6_ofLine 77 = .ok (.iload_n 1, 1) := by decide +kernel
theorem dX6_ofLine_78 : decode cX6_ofLine 78 = .ok (.invokevirtual 106, 3) := by decide +kernel
theorem dX6_ofLine_81 : decode cX6_ofLine 81 = .ok (.ireturn, 1) := by decide +kernel
theorem dX6_ofLine_82 : decode cX6_ofLine 82 = .ok (.aload_n 0, 1) := by decide +kernel
theorem dX6_ofLine_83 : decode cX6_ofLine 83 = .ok (.getfield 35, 3) := by decide +kernel
theorem dX6_ofLine_86 : decode cX6_ofLine 86 = .ok (.iload_n 1, 1) := by decide +kernel
theorem dX6_ofLine_87 : decode cX6_ofLine 87 = .ok (.iaload, 1) := by decide +kernel
theorem dX6_ofLine_88 : decode cX6_ofLine 88 = .ok (.ireturn, 1) := by decide +kernel
theorem dX6_ofLine_89 : decode cX6_ofLine 89 = .ok (.aload_n 0, 1) := by decide +kernel
theorem dX6_ofLine_90 : decode cX6_ofLine 90 = .ok (.iload_n 1, 1) := by decide +kernel
theorem dX6_ofLine_91 : decode cX6_ofLine 91 = .ok (.invokevirtual 110, 3) := by decide +kernel
theorem dX6_ofLine_94 : decode cX6_ofLine 94 = .ok (.ireturn, 1) := by decide +kernel
theorem dX6_ofLine_95 : decode cX6_ofLine 95 = .ok (.aload_n 0, 1) := by decide +kernel
theorem dX6_ofLine_96 : decode cX6_ofLine 96 = .ok (.iload_n 1, 1) := by decide +kernel
theorem dX6_ofLine_97 : decode cX6_ofLine 97 = .ok (.invokevirtual 137, 3) := by decide +kernel
theorem dX6_ofLine_100 : decode cX6_ofLine 100 = .ok (.ireturn, 1) := by decide +kernel
theorem dX6_ofLine_101 : decode cX6_ofLine 101 = .ok (.aload_n 0, 1) := by decide +kernel
theorem dX6_ofLine_102 : decode cX6_ofLine 102 = .ok (.getfield 29, 3) := by decide +kernel
theorem dX6_ofLine_105 : decode cX6_ofLine 105 = .ok (.iload_n 1, 1) := by decide +kernel
theorem dX6_ofLine_106 : decode cX6_ofLine 106 = .ok (.iaload, 1) := by decide +kernel
theorem dX6_ofLine_107 : decode cX6_ofLine 107 = .ok (.ireturn, 1) := by decide +kernel
theorem dX6_ofLine_108 : decode cX6_ofLine 108 = .ok (.aload_n 0, 1) := by decide +kernel
theorem dX6_ofLine_109 : decode cX6_ofLine 109 = .ok (.getfield 32, 3) := by decide +kernel
theorem dX6_ofLine_112 : decode cX6_ofLine 112 = .ok (.iload_n 1, 1) := by decide +kernel
theorem dX6_ofLine_113 : decode cX6_ofLine 113 = .ok (.iaload, 1) := by decide +kernel
theorem dX6_ofLine_114 : decode cX6_ofLine 114 = .ok (.ireturn, 1) := by decide +kernel
theorem dX6_ofLine_115 : decode cX6_ofLine 115 = .ok (.aload_n 0, 1) := by decide +kernel
theorem dX6_ofLine_116 : decode cX6_ofLine 116 = .ok (.getfield 23, 3) := by decide +kernel
theorem dX6_ofLine_119 : decode cX6_ofLine 119 = .ok (.iload_n 1, 1) := by decide +kernel
theorem dX6_ofLine_120 : decode cX6_ofLine 120 = .ok (.iaload, 1) := by decide +kernel
theorem dX6_ofLine_121 : decode cX6_ofLine 121 = .ok (.ireturn, 1) := by decide +kernel
theorem dX6_standsAnew_0 : decode cX6_standsAnew 0 = .ok (.aload_n 0, 1) := by decide +kernel
theorem dX6_standsAnew_1 : decode cX6_standsAnew 1 = .ok (.aload_n 0, 1) := by decide +kernel
theorem dX6_standsAnew_2 : decode cX6_standsAnew 2 = .ok (.iload_n 1, 1) := by decide +kernel
theorem dX6_standsAnew_3 : decode cX6_standsAnew 3 = .ok (.invokevirtual 120, 3) := by decide +kernel
theorem dX6_standsAnew_6 : decode cX6_standsAnew 6 = .ok (.ifCond .eq 7, 3) := by decide +kernel
theorem dX6_standsAnew_9 : decode cX6_standsAnew 9 = .ok (.iconst 0, 1) := by decide +kernel
theorem dX6_standsAnew_10 : decode cX6_standsAnew 10 = .ok (.goto 4, 3) := by decide +kernel
theorem dX6_standsAnew_13 : decode cX6_standsAnew 13 = .ok (.iconst 1, 1) := by decide +kernel
theorem dX6_standsAnew_14 : decode cX6_standsAnew 14 = .ok (.invokevirtual 114, 3) := by decide +kernel
theorem dX6_standsAnew_17 : decode cX6_standsAnew 17 = .ok (.ifCond .eq 11, 3) := by decide +kernel
theorem dX6_standsAnew_20 : decode cX6_standsAnew 20 = .ok (.aload_n 0, 1) := by decide +kernel
theorem dX6_standsAnew_21 : decode cX6_standsAnew 21 = .ok (.iload_n 1, 1) := by decide +kernel
theorem dX6_standsAnew_22 : decode cX6_standsAnew 22 = .ok (.invokevirtual 106, 3) := by decide +kernel
theorem dX6_standsAnew_25 : decode cX6_standsAnew 25 = .ok (.goto 4, 3) := by decide +kernel
theorem dX6_standsAnew_28 : decode cX6_standsAnew 28 = .ok (.iconst 0, 1) := by decide +kernel
theorem dX6_standsAnew_29 : decode cX6_standsAnew 29 = .ok (.ireturn, 1) := by decide +kernel
theorem dX6_manyOn_0 : decode cX6_manyOn 0 = .ok (.iconst 0, 1) := by decide +kernel
theorem dX6_manyOn_1 : decode cX6_manyOn 1 = .ok (.istore_n 2, 1) := by decide +kernel
theorem dX6_manyOn_2 : decode cX6_manyOn 2 = .ok (.iconst 0, 1) := by decide +kernel
theorem dX6_manyOn_3 : decode cX6_manyOn 3 = .ok (.istore_n 3, 1) := by decide +kernel
theorem dX6_manyOn_4 : decode cX6_manyOn 4 = .ok (.iload_n 3, 1) := by decide +kernel
theorem dX6_manyOn_5 : decode cX6_manyOn 5 = .ok (.aload_n 0, 1) := by decide +kernel
theorem dX6_manyOn_6 : decode cX6_manyOn 6 = .ok (.getfield 97, 3) := by decide +kernel
theorem dX6_manyOn_9 : decode cX6_manyOn 9 = .ok (.if_icmp .ge 27, 3) := by decide +kernel
theorem dX6_manyOn_12 : decode cX6_manyOn 12 = .ok (.iload_n 2, 1) := by decide +kernel
theorem dX6_manyOn_13 : decode cX6_manyOn 13 = .ok (.aload_n 0, 1) := by decide +kernel
theorem dX6_manyOn_14 : decode cX6_manyOn 14 = .ok (.getfield 38, 3) := by decide +kernel
theorem dX6_manyOn_17 : decode cX6_manyOn 17 = .ok (.iload_n 3, 1) := by decide +kernel
theorem dX6_manyOn_18 : decode cX6_manyOn 18 = .ok (.iaload, 1) := by decide +kernel
theorem dX6_manyOn_19 : decode cX6_manyOn 19 = .ok (.iload_n 1, 1) := by decide +kernel
theorem dX6_manyOn_20 : decode cX6_manyOn 20 = .ok (.if_icmp .ne 7, 3) := by decide +kernel
theorem dX6_manyOn_23 : decode cX6_manyOn 23 = .ok (.iconst 1, 1) := by decide +kernel
theorem dX6_manyOn_24 : decode cX6_manyOn 24 = .ok (.goto 4, 3) := by decide +kernel
theorem dX6_manyOn_27 : decode cX6_manyOn 27 = .ok (.iconst 0, 1) := by decide +kernel
theorem dX6_manyOn_28 : decode cX6_manyOn 28 = .ok (.iadd, 1) := by decide +kernel
theorem dX6_manyOn_29 : decode cX6_manyOn 29 = .ok (.istore_n 2, 1) := by decide +kernel
theorem dX6_manyOn_30 : decode cX6_manyOn 30 = .ok (.iinc 3 1, 3) := by decide +kernel
theorem dX6_manyOn_33 : decode cX6_manyOn 33 = .ok (.goto (-29), 3) := by decide +kernel
theorem dX6_manyOn_36 : decode cX6_manyOn 36 = .ok (.iload_n 2, 1) := by decide +kernel
theorem dX6_manyOn_37 : decode cX6_manyOn 37 = .ok (.ireturn, 1) := by decide +kernel
theorem dX6_ofAmendment_0 : decode cX6_ofAmendment 0 = .ok (.aload_n 0, 1) := by decide +kernel
theorem dX6_ofAmendment_1 : decode cX6_ofAmendment 1 = .ok (.iload_n 1, 1) := by decide +kernel
theorem dX6_ofAmendment_2 : decode cX6_ofAmendment 2 = .ok (.invokevirtual 130, 3) := by decide +kernel
theorem dX6_ofAmendment_5 : decode cX6_ofAmendment 5 = .ok (.istore_n 3, 1) := by decide +kernel
theorem dX6_ofAmendment_6 : decode cX6_ofAmendment 6 = .ok (.aload_n 0, 1) := by decide +kernel
theorem dX6_ofAmendment_7 : decode cX6_ofAmendment 7 = .ok (.iload_n 3, 1) := by decide +kernel
theorem dX6_ofAmendment_8 : decode cX6_ofAmendment 8 = .ok (.ifCond .ne 7, 3) := by decide +kernel
theorem dX6_ofAmendment_11 : decode cX6_ofAmendment 11 = .ok (.iconst 1, 1) := by decide +kernel
theorem dX6_ofAmendment_12 : decode cX6_ofAmendment 12 = .ok (.goto 18, 3) := by decide +kernel
theorem dX6_ofAmendment_15 : decode cX6_ofAmendment 15 = .ok (.iload_n 2, 1) := by decide +kernel
theorem dX6_ofAmendment_16 : decode cX6_ofAmendment 16 = .ok (.iconst 0, 1) := by decide +kernel
theorem dX6_ofAmendment_17 : decode cX6_ofAmendment 17 = .ok (.bipush 7, 2) := by decide +kernel
theorem dX6_ofAmendment_19 : decode cX6_ofAmendment 19 = .ok (.invokestatic 93, 3) := by decide +kernel
theorem dX6_ofAmendment_22 : decode cX6_ofAmendment 22 = .ok (.ifCond .eq 7, 3) := by decide +kernel
theorem dX6_ofAmendment_25 : decode cX6_ofAmendment 25 = .ok (.iconst 0, 1) := by decide +kernel
theorem dX6_ofAmendment_26 : decode cX6_ofAmendment 26 = .ok (.goto 4, 3) := by decide +kernel
theorem dX6_ofAmendment_29 : decode cX6_ofAmendment 29 = .ok (.iconst 2, 1) := by decide +kernel
theorem dX6_ofAmendment_30 : decode cX6_ofAmendment 30 = .ok (.invokevirtual 114, 3) := by decide +kernel
theorem dX6_ofAmendment_33 : decode cX6_ofAmendment 33 = .ok (.ifCond .ne 5, 3) := by decide +kernel
theorem dX6_ofAmendment_36 : decode cX6_ofAmendment 36 = .ok (.iconst 0, 1) := by decide +kernel
theorem dX6_ofAmendment_37 : decode cX6_ofAmendment 37 = .ok (.ireturn, 1) := by decide +kernel
theorem dX6_ofAmendment_38 : decode cX6_ofAmendment 38 = .ok (.aload_n 0, 1) := by decide +kernel
theorem dX6_ofAmendment_39 : decode cX6_ofAmendment 39 = .ok (.invokevirtual 103, 3) := by decide +kernel
theorem dX6_ofAmendment_42 : decode cX6_ofAmendment 42 = .ok (.iload_n 2, 1) := by decide +kernel
theorem dX6_ofAmendment_43 : decode cX6_ofAmendment 43 = .ok (.tableswitch 90 0 6 #[41, 48, 55, 62, 69, 76, 83], 41) := by decide +kernel
theorem dX6_ofAmendment_84 : decode cX6_ofAmendment 84 = .ok (.aload_n 0, 1) := by decide +kernel
theorem dX6_ofAmendment_85 : decode cX6_ofAmendment 85 = .ok (.getfield 47, 3) := by decide +kernel
theorem dX6_ofAmendment_88 : decode cX6_ofAmendment 88 = .ok (.iload_n 1, 1) := by decide +kernel
theorem dX6_ofAmendment_89 : decode cX6_ofAmendment 89 = .ok (.iaload, 1) := by decide +kernel
theorem dX6_ofAmendment_90 : decode cX6_ofAmendment 90 = .ok (.ireturn, 1) := by decide +kernel
theorem dX6_ofAmendment_91 : decode cX6_ofAmendment 91 = .ok (.aload_n 0, 1) := by decide +kernel
theorem dX6_ofAmendment_92 : decode cX6_ofAmendment 92 = .ok (.getfield 81, 3) := by decide +kernel
theorem dX6_ofAmendment_95 : decode cX6_ofAmendment 95 = .ok (.iload_n 1, 1) := by decide +kernel
theorem dX6_ofAmendment_96 : decode cX6_ofAmendment 96 = .ok (.iaload, 1) := by decide +kernel
theorem dX6_ofAmendment_97 : decode cX6_ofAmendment 97 = .ok (.ireturn, 1) := by decide +kernel
theorem dX6_ofAmendment_98 : decode cX6_ofAmendment 98 = .ok (.aload_n 0, 1) := by decide +kernel
theorem dX6_ofAmendment_99 : decode cX6_ofAmendment 99 = .ok (.getfield 50, 3) := by decide +kernel
theorem dX6_ofAmendment_102 : decode cX6_ofAmendment 102 = .ok (.iload_n 1, 1) := by decide +kernel
theorem dX6_ofAmendment_103 : decode cX6_ofAmendment 103 = .ok (.iaload, 1) := by decide +kernel
theorem dX6_ofAmendment_104 : decode cX6_ofAmendment 104 = .ok (.ireturn, 1) := by decide +kernel
theorem dX6_ofAmendment_105 : decode cX6_ofAmendment 105 = .ok (.aload_n 0, 1) := by decide +kernel
theorem dX6_ofAmendment_106 : decode cX6_ofAmendment 106 = .ok (.iload_n 1, 1) := by decide +kernel
theorem dX6_ofAmendment_107 : decode cX6_ofAmendment 107 = .ok (.iconst 1, 1) := by decide +kernel
theorem dX6_ofAmendment_108 : decode cX6_ofAmendment 108 = .ok (.invokevirtual 133, 3) := by decide +kernel
theorem dX6_ofAmendment_111 : decode cX6_ofAmendment 111 = .ok (.ireturn, 1) := by decide +kernel
theorem dX6_ofAmendment_112 : decode cX6_ofAmendment 112 = .ok (.aload_n 0, 1) := by decide +kernel
theorem dX6_ofAmendment_113 : decode cX6_ofAmendment 113 = .ok (.iload_n 1, 1) := by decide +kernel
theorem dX6_ofAmendment_114 : decode cX6_ofAmendment 114 = .ok (.iconst 2, 1) := by decide +kernel
theorem dX6_ofAmendment_115 : decode cX6_ofAmendment 115 = .ok (.invokevirtual 133, 3) := by decide +kernel
theorem dX6_ofAmendment_118 : decode cX6_ofAmendment 118 = .ok (.ireturn, 1) := by decide +kernel
theorem dX6_ofAmendment_119 : decode cX6_ofAmendment 119 = .ok (.aload_n 0, 1) := by decide +kernel
theorem dX6_ofAmendment_120 : decode cX6_ofAmendment 120 = .ok (.getfield 38, 3) := by decide +kernel
theorem dX6_ofAmendment_123 : decode cX6_ofAmendment 123 = .ok (.iload_n 1, 1) := by decide +kernel
theorem dX6_ofAmendment_124 : decode cX6_ofAmendment 124 = .ok (.iaload, 1) := by decide +kernel
theorem dX6_ofAmendment_125 : decode cX6_ofAmendment 125 = .ok (.ireturn, 1) := by decide +kernel
theorem dX6_ofAmendment_126 : decode cX6_ofAmendment 126 = .ok (.aload_n 0, 1) := by decide +kernel
theorem dX6_ofAmendment_127 : decode cX6_ofAmendment 127 = .ok (.getfield 41, 3) := by decide +kernel
theorem dX6_ofAmendment_130 : decode cX6_ofAmendment 130 = .ok (.iload_n 1, 1) := by decide +kernel
theorem dX6_ofAmendment_131 : decode cX6_ofAmendment 131 = .ok (.iaload, 1) := by decide +kernel
theorem dX6_ofAmendment_132 : decode cX6_ofAmendment 132 = .ok (.ireturn, 1) := by decide +kernel
theorem dX6_ofAmendment_133 : decode cX6_ofAmendment 133 = .ok (.aload_n 0, 1) := by decide +kernel
theorem dX6_ofAmendment_134 : decode cX6_ofAmendment 134 = .ok (.iload_n 1, 1) := by decide +kernel
theorem dX6_ofAmendment_135 : decode cX6_ofAmendment 135 = .ok (.invokevirtual 171, 3) := by decide +kernel
theorem dX6_ofAmendment_138 : decode cX6_ofAmendment 138 = .ok (.ireturn, 1) := by decide +kernel
theorem dX6_ofGrant_0 : decode cX6_ofGrant 0 = .ok (.aload_n 0, 1) := by decide +kernel
theorem dX6_ofGrant_1 : decode cX6_ofGrant 1 = .ok (.iload_n 1, 1) := by decide +kernel
theorem dX6_ofGrant_2 : decode cX6_ofGrant 2 = .ok (.invokevirtual 159, 3) := by decide +kernel
theorem dX6_ofGrant_5 : decode cX6_ofGrant 5 = .ok (.istore_n 3, 1) := by decide +kernel
theorem dX6_ofGrant_6 : decode cX6_ofGrant 6 = .ok (.aload_n 0, 1) := by decide +kernel
theorem dX6_ofGrant_7 : decode cX6_ofGrant 7 = .ok (.iload_n 3, 1) := by decide +kernel
theorem dX6_ofGrant_8 : decode cX6_ofGrant 8 = .ok (.ifCond .ne 7, 3) := by decide +kernel
theorem dX6_ofGrant_11 : decode cX6_ofGrant 11 = .ok (.iconst 1, 1) := by decide +kernel
theorem dX6_ofGrant_12 : decode cX6_ofGrant 12 = .ok (.goto 18, 3) := by decide +kernel
theorem dX6_ofGrant_15 : decode cX6_ofGrant 15 = .ok (.iload_n 2, 1) := by decide +kernel
theorem dX6_ofGrant_16 : decode cX6_ofGrant 16 = .ok (.iconst 0, 1) := by decide +kernel
theorem dX6_ofGrant_17 : decode cX6_ofGrant 17 = .ok (.bipush 7, 2) := by decide +kernel
theorem dX6_ofGrant_19 : decode cX6_ofGrant 19 = .ok (.invokestatic 93, 3) := by decide +kernel
theorem dX6_ofGrant_22 : decode cX6_ofGrant 22 = .ok (.ifCond .eq 7, 3) := by decide +kernel
theorem dX6_ofGrant_25 : decode cX6_ofGrant 25 = .ok (.iconst 0, 1) := by decide +kernel
theorem dX6_ofGrant_26 : decode cX6_ofGrant 26 = .ok (.goto 4, 3) := by decide +kernel
theorem dX6_ofGrant_29 : decode cX6_ofGrant 29 = .ok (.iconst 2, 1) := by decide +kernel
theorem dX6_ofGrant_30 : decode cX6_ofGrant 30 = .ok (.invokevirtual 114, 3) := by decide +kernel
theorem dX6_ofGrant_33 : decode cX6_ofGrant 33 = .ok (.ifCond .ne 5, 3) := by decide +kernel
theorem dX6_ofGrant_36 : decode cX6_ofGrant 36 = .ok (.iconst 0, 1) := by decide +kernel
theorem dX6_ofGrant_37 : decode cX6_ofGrant 37 = .ok (.ireturn, 1) := by decide +kernel
theorem dX6_ofGrant_38 : decode cX6_ofGrant 38 = .ok (.iload_n 2, 1) := by decide +kernel
theorem dX6_ofGrant_39 : decode cX6_ofGrant 39 = .ok (.tableswitch 90 0 6 #[41, 48, 55, 62, 69, 76, 83], 41) := by decide +kernel
theorem dX6_ofGrant_80 : decode cX6_ofGrant 80 = .ok (.aload_n 0, 1) := by decide +kernel
theorem dX6_ofGrant_81 : decode cX6_ofGrant 81 = .ok (.getfield 74, 3) := by decide +kernel
theorem dX6_ofGrant_84 : decode cX6_ofGrant 84 = .ok (.iload_n 1, 1) := by decide +kernel
theorem dX6_ofGrant_85 : decode cX6_ofGrant 85 = .ok (.iaload, 1) := by decide +kernel
theorem dX6_ofGrant_86 : decode cX6_ofGrant 86 = .ok (.ireturn, 1) := by decide +kernel
theorem dX6_ofGrant_87 : decode cX6_ofGrant 87 = .ok (.aload_n 0, 1) := by decide +kernel
theorem dX6_ofGrant_88 : decode cX6_ofGrant 88 = .ok (.getfield 62, 3) := by decide +kernel
theorem dX6_ofGrant_91 : decode cX6_ofGrant 91 = .ok (.iload_n 1, 1) := by decide +kernel
theorem dX6_ofGrant_92 : decode cX6_ofGrant 92 = .ok (.iaload, 1) := by decide +kernel
theorem dX6_ofGrant_93 : decode cX6_ofGrant 93 = .ok (.ireturn, 1) := by decide +kernel
theorem dX6_ofGrant_94 : decode cX6_ofGrant 94 = .ok (.aload_n 0, 1) := by decide +kernel
theorem dX6_ofGrant_95 : decode cX6_ofGrant 95 = .ok (.getfield 65, 3) := by decide +kernel
theorem dX6_ofGrant_98 : decode cX6_ofGrant 98 = .ok (.iload_n 1, 1) := by decide +kernel
theorem dX6_ofGrant_99 : decode cX6_ofGrant 99 = .ok (.iaload, 1) := by decide +kernel
theorem dX6_ofGrant_100 : decode cX6_ofGrant 100 = .ok (.ireturn, 1) := by decide +kernel
theorem dX6_ofGrant_101 : decode cX6_ofGrant 101 = .ok (.aload_n 0, 1) := by decide +kernel
theorem dX6_ofGrant_102 : decode cX6_ofGrant 102 = .ok (.getfield 56, 3) := by decide +kernel
theorem dX6_ofGrant_105 : decode cX6_ofGrant 105 = .ok (.iload_n 1, 1) := by decide +kernel
theorem dX6_ofGrant_106 : decode cX6_ofGrant 106 = .ok (.iaload, 1) := by decide +kernel
theorem dX6_ofGrant_107 : decode cX6_ofGrant 107 = .ok (.ireturn, 1) := by decide +kernel
theorem dX6_ofGrant_108 : decode cX6_ofGrant 108 = .ok (.aload_n 0, 1) := by decide +kernel
theorem dX6_ofGrant_109 : decode cX6_ofGrant 109 = .ok (.getfield 59, 3) := by decide +kernel
theorem dX6_ofGrant_112 : decode cX6_ofGrant 112 = .ok (.iload_n 1, 1) := by decide +kernel
theorem dX6_ofGrant_113 : decode cX6_ofGrant 113 = .ok (.iaload, 1) := by decide +kernel
theorem dX6_ofGrant_114 : decode cX6_ofGrant 114 = .ok (.ireturn, 1) := by decide +kernel
theorem dX6_ofGrant_115 : decode cX6_ofGrant 115 = .ok (.aload_n 0, 1) := by decide +kernel
theorem dX6_ofGrant_116 : decode cX6_ofGrant 116 = .ok (.getfield 68, 3) := by decide +kernel
theorem dX6_ofGrant_119 : decode cX6_ofGrant 119 = .ok (.iload_n 1, 1) := by decide +kernel
theorem dX6_ofGrant_120 : decode cX6_ofGrant 120 = .ok (.iaload, 1) := by decide +kernel
theorem dX6_ofGrant_121 : decode cX6_ofGrant 121 = .ok (.ireturn, 1) := by decide +kernel
theorem dX6_ofGrant_122 : decode cX6_ofGrant 122 = .ok (.aload_n 0, 1) := by decide +kernel
theorem dX6_ofGrant_123 : decode cX6_ofGrant 123 = .ok (.getfield 71, 3) := by decide +kernel
theorem dX6_ofGrant_126 : decode cX6_ofGrant 126 = .ok (.iload_n 1, 1) := by decide +kernel
theorem dX6_ofGrant_127 : decode cX6_ofGrant 127 = .ok (.iaload, 1) := by decide +kernel
theorem dX6_ofGrant_128 : decode cX6_ofGrant 128 = .ok (.ireturn, 1) := by decide +kernel
theorem dX6_ofGrant_129 : decode cX6_ofGrant 129 = .ok (.aload_n 0, 1) := by decide +kernel
theorem dX6_ofGrant_130 : decode cX6_ofGrant 130 = .ok (.getfield 77, 3) := by decide +kernel
theorem dX6_ofGrant_133 : decode cX6_ofGrant 133 = .ok (.iload_n 1, 1) := by decide +kernel
theorem dX6_ofGrant_134 : decode cX6_ofGrant 134 = .ok (.baload, 1) := by decide +kernel
theorem dX6_ofGrant_135 : decode cX6_ofGrant 135 = .ok (.ifCond .eq 7, 3) := by decide +kernel
theorem dX6_ofGrant_138 : decode cX6_ofGrant 138 = .ok (.iconst 1, 1) := by decide +kernel
theorem dX6_ofGrant_139 : decode cX6_ofGrant 139 = .ok (.goto 4, 3) := by decide +kernel
theorem dX6_ofGrant_142 : decode cX6_ofGrant 142 = .ok (.iconst 0, 1) := by decide +kernel
theorem dX6_ofGrant_143 : decode cX6_ofGrant 143 = .ok (.ireturn, 1) := by decide +kernel
theorem dX6_owes_0 : decode cX6_owes 0 = .ok (.aload_n 0, 1) := by decide +kernel
theorem dX6_owes_1 : decode cX6_owes 1 = .ok (.iload_n 1, 1) := by decide +kernel
theorem dX6_owes_2 : decode cX6_owes 2 = .ok (.iconst 0, 1) := by decide +kernel
theorem dX6_owes_3 : decode cX6_owes 3 = .ok (.bipush 7, 2) := by decide +kernel
theorem dX6_owes_5 : decode cX6_owes 5 = .ok (.invokestatic 93, 3) := by decide +kernel
theorem dX6_owes_8 : decode cX6_owes 8 = .ok (.ifCond .eq 7, 3) := by decide +kernel
theorem dX6_owes_11 : decode cX6_owes 11 = .ok (.iconst 0, 1) := by decide +kernel
theorem dX6_owes_12 : decode cX6_owes 12 = .ok (.goto 4, 3) := by decide +kernel
theorem dX6_owes_15 : decode cX6_owes 15 = .ok (.iconst 1, 1) := by decide +kernel
theorem dX6_owes_16 : decode cX6_owes 16 = .ok (.invokevirtual 114, 3) := by decide +kernel
theorem dX6_owes_19 : decode cX6_owes 19 = .ok (.ifCond .eq 12, 3) := by decide +kernel
theorem dX6_owes_22 : decode cX6_owes 22 = .ok (.aload_n 0, 1) := by decide +kernel
theorem dX6_owes_23 : decode cX6_owes 23 = .ok (.getfield 20, 3) := by decide +kernel
theorem dX6_owes_26 : decode cX6_owes 26 = .ok (.iload_n 1, 1) := by decide +kernel
theorem dX6_owes_27 : decode cX6_owes 27 = .ok (.iaload, 1) := by decide +kernel
theorem dX6_owes_28 : decode cX6_owes 28 = .ok (.goto 4, 3) := by decide +kernel
theorem dX6_owes_31 : decode cX6_owes 31 = .ok (.iconst 0, 1) := by decide +kernel
theorem dX6_owes_32 : decode cX6_owes 32 = .ok (.ireturn, 1) := by decide +kernel
theorem dX6_reserve_0 : decode cX6_reserve 0 = .ok (.aload_n 0, 1) := by decide +kernel
theorem dX6_reserve_1 : decode cX6_reserve 1 = .ok (.iconst 0, 1) := by decide +kernel
theorem dX6_reserve_2 : decode cX6_reserve 2 = .ok (.putfield 87, 3) := by decide +kernel
theorem dX6_reserve_5 : decode cX6_reserve 5 = .ok (.aload_n 0, 1) := by decide +kernel
theorem dX6_reserve_6 : decode cX6_reserve 6 = .ok (.getfield 140, 3) := by decide +kernel
theorem dX6_reserve_9 : decode cX6_reserve 9 = .ok (.ireturn, 1) := by decide +kernel
theorem dX6_ofSource_0 : decode cX6_ofSource 0 = .ok (.aload_n 0, 1) := by decide +kernel
theorem dX6_ofSource_1 : decode cX6_ofSource 1 = .ok (.iload_n 1, 1) := by decide +kernel
theorem dX6_ofSource_2 : decode cX6_ofSource 2 = .ok (.iconst 0, 1) := by decide +kernel
theorem dX6_ofSource_3 : decode cX6_ofSource 3 = .ok (.iconst 3, 1) := by decide +kernel
theorem dX6_ofSource_4 : decode cX6_ofSource 4 = .ok (.invokestatic 93, 3) := by decide +kernel
theorem dX6_ofSource_7 : decode cX6_ofSource 7 = .ok (.ifCond .eq 16, 3) := by decide +kernel
theorem dX6_ofSource_10 : decode cX6_ofSource 10 = .ok (.iload_n 2, 1) := by decide +kernel
theorem dX6_ofSource_11 : decode cX6_ofSource 11 = .ok (.iconst 0, 1) := by decide +kernel
theorem dX6_ofSource_12 : decode cX6_ofSource 12 = .ok (.iconst 2, 1) := by decide +kernel
theorem dX6_ofSource_13 : decode cX6_ofSource 13 = .ok (.invokestatic 93, 3) := by decide +kernel
theorem dX6_ofSource_16 : decode cX6_ofSource 16 = .ok (.ifCond .eq 7, 3) := by decide +kernel
theorem dX6_ofSource_19 : decode cX6_ofSource 19 = .ok (.iconst 0, 1) := by decide +kernel
theorem dX6_ofSource_20 : decode cX6_ofSource 20 = .ok (.goto 4, 3) := by decide +kernel
theorem dX6_ofSource_23 : decode cX6_ofSource 23 = .ok (.iconst 1, 1) := by decide +kernel
theorem dX6_ofSource_24 : decode cX6_ofSource 24 = .ok (.invokevirtual 114, 3) := by decide +kernel
theorem dX6_ofSource_27 : decode cX6_ofSource 27 = .ok (.ifCond .ne 5, 3) := by decide +kernel
theorem dX6_ofSource_30 : decode cX6_ofSource 30 = .ok (.iconst 0, 1) := by decide +kernel
theorem dX6_ofSource_31 : decode cX6_ofSource 31 = .ok (.ireturn, 1) := by decide +kernel
theorem dX6_ofSource_32 : decode cX6_ofSource 32 = .ok (.iconst 0, 1) := by decide +kernel
theorem dX6_ofSource_33 : decode cX6_ofSource 33 = .ok (.istore_n 3, 1) := by decide +kernel
theorem dX6_ofSource_34 : decode cX6_ofSource 34 = .ok (.iconst 0, 1) := by decide +kernel
theorem dX6_ofSource_35 : decode cX6_ofSource 35 = .ok (.istore 4, 2) := by decide +kernel
theorem dX6_ofSource_37 : decode cX6_ofSource 37 = .ok (.iload 4, 2) := by decide +kernel
theorem dX6_ofSource_39 : decode cX6_ofSource 39 = .ok (.aload_n 0, 1) := by decide +kernel
theorem dX6_ofSource_40 : decode cX6_ofSource 40 = .ok (.getfield 90, 3) := by decide +kernel
theorem dX6_ofSource_43 : decode cX6_ofSource 43 = .ok (.if_icmp .ge 33, 3) := by decide +kernel
theorem dX6_ofSource_46 : decode cX6_ofSource 46 = .ok (.iload_n 3, 1) := by decide +kernel
theorem dX6_ofSource_47 : decode cX6_ofSource 47 = .ok (.aload_n 0, 1) := by decide +kernel
theorem dX6_ofSource_48 : decode cX6_ofSource 48 = .ok (.getfield 23, 3) := by decide +kernel
theorem dX6_ofSource_51 : decode cX6_ofSource 51 = .ok (.iload 4, 2) := by decide +kernel
theorem dX6_ofSource_53 : decode cX6_ofSource 53 = .ok (.iaload, 1) := by decide +kernel
theorem dX6_ofSource_54 : decode cX6_ofSource 54 = .ok (.iload_n 1, 1) := by decide +kernel
theorem dX6_ofSource_55 : decode cX6_ofSource 55 = .ok (.if_icmp .ne 12, 3) := by decide +kernel
theorem dX6_ofSource_58 : decode cX6_ofSource 58 = .ok (.aload_n 0, 1) := by decide +kernel
theorem dX6_ofSource_59 : decode cX6_ofSource 59 = .ok (.iload 4, 2) := by decide +kernel
theorem dX6_ofSource_61 : decode cX6_ofSource 61 = .ok (.invokevirtual 106, 3) := by decide +kernel
theorem dX6_ofSource_64 : decode cX6_ofSource 64 = .ok (.goto 4, 3) := by decide +kernel
theorem dX6_ofSource_67 : decode cX6_ofSource 67 = .ok (.iconst 0, 1) := by decide +kernel
theorem dX6_ofSource_68 : decode cX6_ofSource 68 = .ok (.iadd, 1) := by decide +kernel
theorem dX6_ofSource_69 : decode cX6_ofSource 69 = .ok (.istore_n 3, 1) := by decide +kernel
theorem dX6_ofSource_70 : decode cX6_ofSource 70 = .ok (.iinc 4 1, 3) := by decide +kernel
theorem dX6_ofSource_73 : decode cX6_ofSource 73 = .ok (.goto (-36), 3) := by decide +kernel
theorem dX6_ofSource_76 : decode cX6_ofSource 76 = .ok (.iload_n 2, 1) := by decide +kernel
theorem dX6_ofSource_77 : decode cX6_ofSource 77 = .ok (.ifCond .ne 12, 3) := by decide +kernel
theorem dX6_ofSource_80 : decode cX6_ofSource 80 = .ok (.aload_n 0, 1) := by decide +kernel
theorem dX6_ofSource_81 : decode cX6_ofSource 81 = .ok (.getfield 13, 3) := by decide +kernel
theorem dX6_ofSource_84 : decode cX6_ofSource 84 = .ok (.iload_n 1, 1) := by decide +kernel
theorem dX6_ofSource_85 : decode cX6_ofSource 85 = .ok (.iaload, 1) := by decide +kernel
theorem dX6_ofSource_86 : decode cX6_ofSource 86 = .ok (.goto 18, 3) := by decide +kernel
theorem dX6_ofSource_89 : decode cX6_ofSource 89 = .ok (.iload_n 2, 1) := by decide +kernel
theorem dX6_ofSource_90 : decode cX6_ofSource 90 = .ok (.iconst 1, 1) := by decide +kernel
theorem dX6_ofSource_91 : decode cX6_ofSource 91 = .ok (.if_icmp .ne 12, 3) := by decide +kernel
theorem dX6_ofSource_94 : decode cX6_ofSource 94 = .ok (.aload_n 0, 1) := by decide +kernel
theorem dX6_ofSource_95 : decode cX6_ofSource 95 = .ok (.getfield 17, 3) := by decide +kernel
theorem dX6_ofSource_98 : decode cX6_ofSource 98 = .ok (.iload_n 1, 1) := by decide +kernel
theorem dX6_ofSource_99 : decode cX6_ofSource 99 = .ok (.iaload, 1) := by decide +kernel
theorem dX6_ofSource_100 : decode cX6_ofSource 100 = .ok (.goto 4, 3) := by decide +kernel
theorem dX6_ofSource_103 : decode cX6_ofSource 103 = .ok (.iload_n 3, 1) := by decide +kernel
theorem dX6_ofSource_104 : decode cX6_ofSource 104 = .ok (.ireturn, 1) := by decide +kernel
theorem dJ6_bitCount_0f7a4_0 : decode cJ6_bitCount_0f7a4 0 = .ok (.iload_n 0, 1) := by decide +kernel
theorem dJ6_bitCount_0f7a4_1 : decode cJ6_bitCount_0f7a4 1 = .ok (.iload_n 0, 1) := by decide +kernel
theorem dJ6_bitCount_0f7a4_2 : decode cJ6_bitCount_0f7a4 2 = .ok (.iconst 1, 1) := by decide +kernel
theorem dJ6_bitCount_0f7a4_3 : decode cJ6_bitCount_0f7a4 3 = .ok (.iushr, 1) := by decide +kernel
theorem dJ6_bitCount_0f7a4_4 : decode cJ6_bitCount_0f7a4 4 = .ok (.ldc_w 265, 3) := by decide +kernel
theorem dJ6_bitCount_0f7a4_7 : decode cJ6_bitCount_0f7a4 7 = .ok (.iand, 1) := by decide +kernel
theorem dJ6_bitCount_0f7a4_8 : decode cJ6_bitCount_0f7a4 8 = .ok (.isub, 1) := by decide +kernel
theorem dJ6_bitCount_0f7a4_9 : decode cJ6_bitCount_0f7a4 9 = .ok (.istore_n 0, 1) := by decide +kernel
theorem dJ6_bitCount_0f7a4_10 : decode cJ6_bitCount_0f7a4 10 = .ok (.iload_n 0, 1) := by decide +kernel
theorem dJ6_bitCount_0f7a4_11 : decode cJ6_bitCount_0f7a4 11 = .ok (.ldc_w 266, 3) := by decide +kernel
theorem dJ6_bitCount_0f7a4_14 : decode cJ6_bitCount_0f7a4 14 = .ok (.iand, 1) := by decide +kernel
theorem dJ6_bitCount_0f7a4_15 : decode cJ6_bitCount_0f7a4 15 = .ok (.iload_n 0, 1) := by decide +kernel
theorem dJ6_bitCount_0f7a4_16 : decode cJ6_bitCount_0f7a4 16 = .ok (.iconst 2, 1) := by decide +kernel
theorem dJ6_bitCount_0f7a4_17 : decode cJ6_bitCount_0f7a4 17 = .ok (.iushr, 1) := by decide +kernel
theorem dJ6_bitCount_0f7a4_18 : decode cJ6_bitCount_0f7a4 18 = .ok (.ldc_w 266, 3) := by decide +kernel
theorem dJ6_bitCount_0f7a4_21 : decode cJ6_bitCount_0f7a4 21 = .ok (.iand, 1) := by decide +kernel
theorem dJ6_bitCount_0f7a4_22 : decode cJ6_bitCount_0f7a4 22 = .ok (.iadd, 1) := by decide +kernel
theorem dJ6_bitCount_0f7a4_23 : decode cJ6_bitCount_0f7a4 23 = .ok (.istore_n 0, 1) := by decide +kernel
theorem dJ6_bitCount_0f7a4_24 : decode cJ6_bitCount_0f7a4 24 = .ok (.iload_n 0, 1) := by decide +kernel
theorem dJ6_bitCount_0f7a4_25 : decode cJ6_bitCount_0f7a4 25 = .ok (.iload_n 0, 1) := by decide +kernel
theorem dJ6_bitCount_0f7a4_26 : decode cJ6_bitCount_0f7a4 26 = .ok (.iconst 4, 1) := by decide +kernel
theorem dJ6_bitCount_0f7a4_27 : decode cJ6_bitCount_0f7a4 27 = .ok (.iushr, 1) := by decide +kernel
theorem dJ6_bitCount_0f7a4_28 : decode cJ6_bitCount_0f7a4 28 = .ok (.iadd, 1) := by decide +kernel
theorem dJ6_bitCount_0f7a4_29 : decode cJ6_bitCount_0f7a4 29 = .ok (.ldc_w 267, 3) := by decide +kernel
theorem dJ6_bitCount_0f7a4_32 : decode cJ6_bitCount_0f7a4 32 = .ok (.iand, 1) := by decide +kernel
theorem dJ6_bitCount_0f7a4_33 : decode cJ6_bitCount_0f7a4 33 = .ok (.istore_n 0, 1) := by decide +kernel
theorem dJ6_bitCount_0f7a4_34 : decode cJ6_bitCount_0f7a4 34 = .ok (.iload_n 0, 1) := by decide +kernel
theorem dJ6_bitCount_0f7a4_35 : decode cJ6_bitCount_0f7a4 35 = .ok (.iload_n 0, 1) := by decide +kernel
theorem dJ6_bitCount_0f7a4_36 : decode cJ6_bitCount_0f7a4 36 = .ok (.bipush 8, 2) := by decide +kernel
theorem dJ6_bitCount_0f7a4_38 : decode cJ6_bitCount_0f7a4 38 = .ok (.iushr, 1) := by decide +kernel
theorem dJ6_bitCount_0f7a4_39 : decode cJ6_bitCount_0f7a4 39 = .ok (.iadd, 1) := by decide +kernel
theorem dJ6_bitCount_0f7a4_40 : decode cJ6_bitCount_0f7a4 40 = .ok (.istore_n 0, 1) := by decide +kernel
theorem dJ6_bitCount_0f7a4_41 : decode cJ6_bitCount_0f7a4 41 = .ok (.iload_n 0, 1) := by decide +kernel
theorem dJ6_bitCount_0f7a4_42 : decode cJ6_bitCount_0f7a4 42 = .ok (.iload_n 0, 1) := by decide +kernel
theorem dJ6_bitCount_0f7a4_43 : decode cJ6_bitCount_0f7a4 43 = .ok (.bipush 16, 2) := by decide +kernel
theorem dJ6_bitCount_0f7a4_45 : decode cJ6_bitCount_0f7a4 45 = .ok (.iushr, 1) := by decide +kernel
theorem dJ6_bitCount_0f7a4_46 : decode cJ6_bitCount_0f7a4 46 = .ok (.iadd, 1) := by decide +kernel
theorem dJ6_bitCount_0f7a4_47 : decode cJ6_bitCount_0f7a4 47 = .ok (.istore_n 0, 1) := by decide +kernel
theorem dJ6_bitCount_0f7a4_48 : decode cJ6_bitCount_0f7a4 48 = .ok (.iload_n 0, 1) := by decide +kernel
theorem dJ6_bitCount_0f7a4_49 : decode cJ6_bitCount_0f7a4 49 = .ok (.bipush 63, 2) := by decide +kernel
theorem dJ6_bitCount_0f7a4_51 : decode cJ6_bitCount_0f7a4 51 = .ok (.iand, 1) := by decide +kernel
theorem dJ6_bitCount_0f7a4_52 : decode cJ6_bitCount_0f7a4 52 = .ok (.ireturn, 1) := by decide +kernel
theorem dJ9_max_7cf53_0 : decode cJ9_max_7cf53 0 = .ok (.iload_n 0, 1) := by decide +kernel
theorem dJ9_max_7cf53_1 : decode cJ9_max_7cf53 1 = .ok (.iload_n 1, 1) := by decide +kernel
theorem dJ9_max_7cf53_2 : decode cJ9_max_7cf53 2 = .ok (.if_icmp .lt 7, 3) := by decide +kernel
theorem dJ9_max_7cf53_5 : decode cJ9_max_7cf53 5 = .ok (.iload_n 0, 1) := by decide +kernel
theorem dJ9_max_7cf53_6 : decode cJ9_max_7cf53 6 = .ok (.goto 4, 3) := by decide +kernel
theorem dJ9_max_7cf53_9 : decode cJ9_max_7cf53 9 = .ok (.iload_n 1, 1) := by decide +kernel
theorem dJ9_max_7cf53_10 : decode cJ9_max_7cf53 10 = .ok (.ireturn, 1) := by decide +kernel
theorem dJ9_min_7cf53_0 : decode cJ9_min_7cf53 0 = .ok (.iload_n 0, 1) := by decide +kernel
theorem dJ9_min_7cf53_1 : decode cJ9_min_7cf53 1 = .ok (.iload_n 1, 1) := by decide +kernel
theorem dJ9_min_7cf53_2 : decode cJ9_min_7cf53 2 = .ok (.if_icmp .gt 7, 3) := by decide +kernel
theorem dJ9_min_7cf53_5 : decode cJ9_min_7cf53 5 = .ok (.iload_n 0, 1) := by decide +kernel
theorem dJ9_min_7cf53_6 : decode cJ9_min_7cf53 6 = .ok (.goto 4, 3) := by decide +kernel
theorem dJ9_min_7cf53_9 : decode cJ9_min_7cf53 9 = .ok (.iload_n 1, 1) := by decide +kernel
theorem dJ9_min_7cf53_10 : decode cJ9_min_7cf53 10 = .ok (.ireturn, 1) := by decide +kernel
theorem dJxa1e45_init_da8c8_0 : decode cJxa1e45_init_da8c8 0 = .ok (.aload_n 0, 1) := by decide +kernel
theorem dJxa1e45_init_da8c8_1 : decode cJxa1e45_init_da8c8 1 = .ok (.invokespecial 1, 3) := by decide +kernel
theorem dJxa1e45_init_da8c8_4 : decode cJxa1e45_init_da8c8 4 = .ok (.return_, 1) := by decide +kernel
theorem dJxc12de_init_da8c8_0 : decode cJxc12de_init_da8c8 0 = .ok (.aload_n 0, 1) := by decide +kernel
theorem dJxc12de_init_da8c8_1 : decode cJxc12de_init_da8c8 1 = .ok (.invokespecial 1, 3) := by decide +kernel
theorem dJxc12de_init_da8c8_4 : decode cJxc12de_init_da8c8 4 = .ok (.aload_n 0, 1) := by decide +kernel
theorem dJxc12de_init_da8c8_5 : decode cJxc12de_init_da8c8 5 = .ok (.iconst 0, 1) := by decide +kernel
theorem dJxc12de_init_da8c8_6 : decode cJxc12de_init_da8c8 6 = .ok (.putfield 7, 3) := by decide +kernel
theorem dJxc12de_init_da8c8_9 : decode cJxc12de_init_da8c8 9 = .ok (.return_, 1) := by decide +kernel
theorem dJx4a65c_init_da8c8_0 : decode cJx4a65c_init_da8c8 0 = .ok (.aload_n 0, 1) := by decide +kernel
theorem dJx4a65c_init_da8c8_1 : decode cJx4a65c_init_da8c8 1 = .ok (.invokespecial 1, 3) := by decide +kernel
theorem dJx4a65c_init_da8c8_4 : decode cJx4a65c_init_da8c8 4 = .ok (.aload_n 0, 1) := by decide +kernel
theorem dJx4a65c_init_da8c8_5 : decode cJx4a65c_init_da8c8 5 = .ok (.getstatic 39, 3) := by decide +kernel
theorem dJx4a65c_init_da8c8_8 : decode cJx4a65c_init_da8c8 8 = .ok (.putfield 9, 3) := by decide +kernel
theorem dJx4a65c_init_da8c8_11 : decode cJx4a65c_init_da8c8 11 = .ok (.return_, 1) := by decide +kernel
theorem dJx4a65c_grow_92f84_0 : decode cJx4a65c_grow_92f84 0 = .ok (.aload_n 0, 1) := by decide +kernel
theorem dJx4a65c_grow_92f84_1 : decode cJx4a65c_grow_92f84 1 = .ok (.getfield 9, 3) := by decide +kernel
theorem dJx4a65c_grow_92f84_4 : decode cJx4a65c_grow_92f84 4 = .ok (.arraylength, 1) := by decide +kernel
theorem dJx4a65c_grow_92f84_5 : decode cJx4a65c_grow_92f84 5 = .ok (.istore_n 2, 1) := by decide +kernel
theorem dJx4a65c_grow_92f84_6 : decode cJx4a65c_grow_92f84 6 = .ok (.iload_n 2, 1) := by decide +kernel
theorem dJx4a65c_grow_92f84_7 : decode cJx4a65c_grow_92f84 7 = .ok (.ifCond .gt 13, 3) := by decide +kernel
theorem dJx4a65c_grow_92f84_10 : decode cJx4a65c_grow_92f84 10 = .ok (.aload_n 0, 1) := by decide +kernel
theorem dJx4a65c_grow_92f84_11 : decode cJx4a65c_grow_92f84 11 = .ok (.getfield 9, 3) := by decide +kernel
theorem dJx4a65c_grow_92f84_14 : decode cJx4a65c_grow_92f84 14 = .ok (.getstatic 39, 3) := by decide +kernel
theorem dJx4a65c_grow_92f84_17 : decode cJx4a65c_grow_92f84 17 = .ok (.if_acmp .eq 28, 3) := by decide +kernel
theorem dJx4a65c_grow_92f84_20 : decode cJx4a65c_grow_92f84 20 = .ok (.iload_n 2, 1) := by decide +kernel
theorem dJx4a65c_grow_92f84_21 : decode cJx4a65c_grow_92f84 21 = .ok (.iload_n 1, 1) := by decide +kernel
theorem dJx4a65c_grow_92f84_22 : decode cJx4a65c_grow_92f84 22 = .ok (.iload_n 2, 1) := by decide +kernel
theorem dJx4a65c_grow_92f84_23 : decode cJx4a65c_grow_92f84 23 = .ok (.isub, 1) := by decide +kernel
theorem dJx4a65c_grow_92f84_24 : decode cJx4a65c_grow_92f84 24 = .ok (.iload_n 2, 1) := by decide +kernel
theorem dJx4a65c_grow_92f84_25 : decode cJx4a65c_grow_92f84 25 = .ok (.iconst 1, 1) := by decide +kernel
theorem dJx4a65c_grow_92f84_26 : decode cJx4a65c_grow_92f84 26 = .ok (.ishr, 1) := by decide +kernel
theorem dJx4a65c_grow_92f84_27 : decode cJx4a65c_grow_92f84 27 = .ok (.invokestatic 73, 3) := by decide +kernel
theorem dJx4a65c_grow_92f84_30 : decode cJx4a65c_grow_92f84 30 = .ok (.istore_n 3, 1) := by decide +kernel
theorem dJx4a65c_grow_92f84_31 : decode cJx4a65c_grow_92f84 31 = .ok (.aload_n 0, 1) := by decide +kernel
theorem dJx4a65c_grow_92f84_32 : decode cJx4a65c_grow_92f84 32 = .ok (.aload_n 0, 1) := by decide +kernel
theorem dJx4a65c_grow_92f84_33 : decode cJx4a65c_grow_92f84 33 = .ok (.getfield 9, 3) := by decide +kernel
theorem dJx4a65c_grow_92f84_36 : decode cJx4a65c_grow_92f84 36 = .ok (.iload_n 3, 1) := by decide +kernel
theorem dJx4a65c_grow_92f84_37 : decode cJx4a65c_grow_92f84 37 = .ok (.invokestatic 66, 3) := by decide +kernel
theorem dJx4a65c_grow_92f84_40 : decode cJx4a65c_grow_92f84 40 = .ok (.dup_x1, 1) := by decide +kernel
theorem dJx4a65c_grow_92f84_41 : decode cJx4a65c_grow_92f84 41 = .ok (.putfield 9, 3) := by decide +kernel
theorem dJx4a65c_grow_92f84_44 : decode cJx4a65c_grow_92f84 44 = .ok (.areturn, 1) := by decide +kernel
theorem dJx4a65c_grow_92f84_45 : decode cJx4a65c_grow_92f84 45 = .ok (.aload_n 0, 1) := by decide +kernel
theorem dJx4a65c_grow_92f84_46 : decode cJx4a65c_grow_92f84 46 = .ok (.bipush 10, 2) := by decide +kernel
theorem dJx4a65c_grow_92f84_48 : decode cJx4a65c_grow_92f84 48 = .ok (.iload_n 1, 1) := by decide +kernel
theorem dJx4a65c_grow_92f84_49 : decode cJx4a65c_grow_92f84 49 = .ok (.invokestatic 79, 3) := by decide +kernel
theorem dJx4a65c_grow_92f84_52 : decode cJx4a65c_grow_92f84 52 = .ok (.anewarray 7, 3) := by decide +kernel
theorem dJx4a65c_grow_92f84_55 : decode cJx4a65c_grow_92f84 55 = .ok (.dup_x1, 1) := by decide +kernel
theorem dJx4a65c_grow_92f84_56 : decode cJx4a65c_grow_92f84 56 = .ok (.putfield 9, 3) := by decide +kernel
theorem dJx4a65c_grow_92f84_59 : decode cJx4a65c_grow_92f84 59 = .ok (.areturn, 1) := by decide +kernel
theorem dJx4a65c_grow_d5877_0 : decode cJx4a65c_grow_d5877 0 = .ok (.aload_n 0, 1) := by decide +kernel
theorem dJx4a65c_grow_d5877_1 : decode cJx4a65c_grow_d5877 1 = .ok (.aload_n 0, 1) := by decide +kernel
theorem dJx4a65c_grow_d5877_2 : decode cJx4a65c_grow_d5877 2 = .ok (.getfield 48, 3) := by decide +kernel
theorem dJx4a65c_grow_d5877_5 : decode cJx4a65c_grow_d5877 5 = .ok (.iconst 1, 1) := by decide +kernel
theorem dJx4a65c_grow_d5877_6 : decode cJx4a65c_grow_d5877 6 = .ok (.iadd, 1) := by decide +kernel
theorem dJx4a65c_grow_d5877_7 : decode cJx4a65c_grow_d5877 7 = .ok (.invokevirtual 69, 3) := by decide +kernel
theorem dJx4a65c_grow_d5877_10 : decode cJx4a65c_grow_d5877 10 = .ok (.areturn, 1) := by decide +kernel
theorem dJx4a65c_size_8abf5_0 : decode cJx4a65c_size_8abf5 0 = .ok (.aload_n 0, 1) := by decide +kernel
theorem dJx4a65c_size_8abf5_1 : decode cJx4a65c_size_8abf5 1 = .ok (.getfield 48, 3) := by decide +kernel
theorem dJx4a65c_size_8abf5_4 : decode cJx4a65c_size_8abf5 4 = .ok (.ireturn, 1) := by decide +kernel
theorem dJx4a65c_elementData_915e3_0 : decode cJx4a65c_elementData_915e3 0 = .ok (.aload_n 0, 1) := by decide +kernel
theorem dJx4a65c_elementData_915e3_1 : decode cJx4a65c_elementData_915e3 1 = .ok (.getfield 9, 3) := by decide +kernel
theorem dJx4a65c_elementData_915e3_4 : decode cJx4a65c_elementData_915e3 4 = .ok (.iload_n 1, 1) := by decide +kernel
theorem dJx4a65c_elementData_915e3_5 : decode cJx4a65c_elementData_915e3 5 = .ok (.aaload, 1) := by decide +kernel
theorem dJx4a65c_elementData_915e3_6 : decode cJx4a65c_elementData_915e3 6 = .ok (.areturn, 1) := by decide +kernel
theorem dJx4a65c_get_915e3_0 : decode cJx4a65c_get_915e3 0 = .ok (.iload_n 1, 1) := by decide +kernel
theorem dJx4a65c_get_915e3_1 : decode cJx4a65c_get_915e3 1 = .ok (.aload_n 0, 1) := by decide +kernel
theorem dJx4a65c_get_915e3_2 : decode cJx4a65c_get_915e3 2 = .ok (.getfield 48, 3) := by decide +kernel
theorem dJx4a65c_get_915e3_5 : decode cJx4a65c_get_915e3 5 = .ok (.invokestatic 118, 3) := by decide +kernel
theorem dJx4a65c_get_915e3_8 : decode cJx4a65c_get_915e3 8 = .ok (.pop, 1) := by decide +kernel
theorem dJx4a65c_get_915e3_9 : decode cJx4a65c_get_915e3 9 = .ok (.aload_n 0, 1) := by decide +kernel
theorem dJx4a65c_get_915e3_10 : decode cJx4a65c_get_915e3 10 = .ok (.iload_n 1, 1) := by decide +kernel
theorem dJx4a65c_get_915e3_11 : decode cJx4a65c_get_915e3 11 = .ok (.invokevirtual 123, 3) := by decide +kernel
theorem dJx4a65c_get_915e3_14 : decode cJx4a65c_get_915e3 14 = .ok (.areturn, 1) := by decide +kernel
theorem dJx4a65c_add_72be8_0 : decode cJx4a65c_add_72be8 0 = .ok (.iload_n 3, 1) := by decide +kernel
theorem dJx4a65c_add_72be8_1 : decode cJx4a65c_add_72be8 1 = .ok (.aload_n 2, 1) := by decide +kernel
theorem dJx4a65c_add_72be8_2 : decode cJx4a65c_add_72be8 2 = .ok (.arraylength, 1) := by decide +kernel
theorem dJx4a65c_add_72be8_3 : decode cJx4a65c_add_72be8 3 = .ok (.if_icmp .ne 8, 3) := by decide +kernel
theorem dJx4a65c_add_72be8_6 : decode cJx4a65c_add_72be8 6 = .ok (.aload_n 0, 1) := by decide +kernel
theorem dJx4a65c_add_72be8_7 : decode cJx4a65c_add_72be8 7 = .ok (.invokevirtual 129, 3) := by decide +kernel
theorem dJx4a65c_add_72be8_10 : decode cJx4a65c_add_72be8 10 = .ok (.astore_n 2, 1) := by decide +kernel
theorem dJx4a65c_add_72be8_11 : decode cJx4a65c_add_72be8 11 = .ok (.aload_n 2, 1) := by decide +kernel
theorem dJx4a65c_add_72be8_12 : decode cJx4a65c_add_72be8 12 = .ok (.iload_n 3, 1) := by decide +kernel
theorem dJx4a65c_add_72be8_13 : decode cJx4a65c_add_72be8 13 = .ok (.aload_n 1, 1) := by decide +kernel
theorem dJx4a65c_add_72be8_14 : decode cJx4a65c_add_72be8 14 = .ok (.aastore, 1) := by decide +kernel
theorem dJx4a65c_add_72be8_15 : decode cJx4a65c_add_72be8 15 = .ok (.aload_n 0, 1) := by decide +kernel
theorem dJx4a65c_add_72be8_16 : decode cJx4a65c_add_72be8 16 = .ok (.iload_n 3, 1) := by decide +kernel
theorem dJx4a65c_add_72be8_17 : decode cJx4a65c_add_72be8 17 = .ok (.iconst 1, 1) := by decide +kernel
theorem dJx4a65c_add_72be8_18 : decode cJx4a65c_add_72be8 18 = .ok (.iadd, 1) := by decide +kernel
theorem dJx4a65c_add_72be8_19 : decode cJx4a65c_add_72be8 19 = .ok (.putfield 48, 3) := by decide +kernel
theorem dJx4a65c_add_72be8_22 : decode cJx4a65c_add_72be8 22 = .ok (.return_, 1) := by decide +kernel
theorem dJx4a65c_add_9ea2d_0 : decode cJx4a65c_add_9ea2d 0 = .ok (.aload_n 0, 1) := by decide +kernel
theorem dJx4a65c_add_9ea2d_1 : decode cJx4a65c_add_9ea2d 1 = .ok (.dup, 1) := by decide +kernel
theorem dJx4a65c_add_9ea2d_2 : decode cJx4a65c_add_9ea2d 2 = .ok (.getfield 63, 3) := by decide +kernel
theorem dJx4a65c_add_9ea2d_5 : decode cJx4a65c_add_9ea2d 5 = .ok (.iconst 1, 1) := by decide +kernel
theorem dJx4a65c_add_9ea2d_6 : decode cJx4a65c_add_9ea2d 6 = .ok (.iadd, 1) := by decide +kernel
theorem dJx4a65c_add_9ea2d_7 : decode cJx4a65c_add_9ea2d 7 = .ok (.putfield 63, 3) := by decide +kernel
theorem dJx4a65c_add_9ea2d_10 : decode cJx4a65c_add_9ea2d 10 = .ok (.aload_n 0, 1) := by decide +kernel
theorem dJx4a65c_add_9ea2d_11 : decode cJx4a65c_add_9ea2d 11 = .ok (.aload_n 1, 1) := by decide +kernel
theorem dJx4a65c_add_9ea2d_12 : decode cJx4a65c_add_9ea2d 12 = .ok (.aload_n 0, 1) := by decide +kernel
theorem dJx4a65c_add_9ea2d_13 : decode cJx4a65c_add_9ea2d 13 = .ok (.getfield 9, 3) := by decide +kernel
theorem dJx4a65c_add_9ea2d_16 : decode cJx4a65c_add_9ea2d 16 = .ok (.aload_n 0, 1) := by decide +kernel
theorem dJx4a65c_add_9ea2d_17 : decode cJx4a65c_add_9ea2d 17 = .ok (.getfield 48, 3) := by decide +kernel
theorem dJx4a65c_add_9ea2d_20 : decode cJx4a65c_add_9ea2d 20 = .ok (.invokevirtual 131, 3) := by decide +kernel
theorem dJx4a65c_add_9ea2d_23 : decode cJx4a65c_add_9ea2d 23 = .ok (.iconst 1, 1) := by decide +kernel
theorem dJx4a65c_add_9ea2d_24 : decode cJx4a65c_add_9ea2d 24 = .ok (.ireturn, 1) := by decide +kernel
theorem dJ7_copyOf_1904c_0 : decode cJ7_copyOf_1904c 0 = .ok (.aload_n 0, 1) := by decide +kernel
theorem dJ7_copyOf_1904c_1 : decode cJ7_copyOf_1904c 1 = .ok (.iload_n 1, 1) := by decide +kernel
theorem dJ7_copyOf_1904c_2 : decode cJ7_copyOf_1904c 2 = .ok (.aload_n 0, 1) := by decide +kernel
theorem dJ7_copyOf_1904c_3 : decode cJ7_copyOf_1904c 3 = .ok (.invokevirtual 86, 3) := by decide +kernel
theorem dJ7_copyOf_1904c_6 : decode cJ7_copyOf_1904c 6 = .ok (.invokestatic 300, 3) := by decide +kernel
theorem dJ7_copyOf_1904c_9 : decode cJ7_copyOf_1904c 9 = .ok (.areturn, 1) := by decide +kernel
theorem dJ7_copyOf_6403c_0 : decode cJ7_copyOf_6403c 0 = .ok (.aload_n 2, 1) := by decide +kernel
theorem dJ7_copyOf_6403c_1 : decode cJ7_copyOf_6403c 1 = .ok (.ldc 110, 2) := by decide +kernel
theorem dJ7_copyOf_6403c_3 : decode cJ7_copyOf_6403c 3 = .ok (.if_acmp .ne 10, 3) := by decide +kernel
theorem dJ7_copyOf_6403c_6 : decode cJ7_copyOf_6403c 6 = .ok (.iload_n 1, 1) := by decide +kernel
theorem dJ7_copyOf_6403c_7 : decode cJ7_copyOf_6403c 7 = .ok (.anewarray 2, 3) := by decide +kernel
theorem dJ7_copyOf_6403c_10 : decode cJ7_copyOf_6403c 10 = .ok (.goto 14, 3) := by decide +kernel
theorem dJ7_copyOf_6403c_13 : decode cJ7_copyOf_6403c 13 = .ok (.aload_n 2, 1) := by decide +kernel
theorem dJ7_copyOf_6403c_14 : decode cJ7_copyOf_6403c 14 = .ok (.invokevirtual 90, 3) := by decide +kernel
theorem dJ7_copyOf_6403c_17 : decode cJ7_copyOf_6403c 17 = .ok (.iload_n 1, 1) := by decide +kernel
theorem dJ7_copyOf_6403c_18 : decode cJ7_copyOf_6403c 18 = .ok (.invokestatic 95, 3) := by decide +kernel
theorem dJ7_copyOf_6403c_21 : decode cJ7_copyOf_6403c 21 = .ok (.checkcast 110, 3) := by decide +kernel
theorem dJ7_copyOf_6403c_24 : decode cJ7_copyOf_6403c 24 = .ok (.astore_n 3, 1) := by decide +kernel
theorem dJ7_copyOf_6403c_25 : decode cJ7_copyOf_6403c 25 = .ok (.aload_n 0, 1) := by decide +kernel
theorem dJ7_copyOf_6403c_26 : decode cJ7_copyOf_6403c 26 = .ok (.iconst 0, 1) := by decide +kernel
theorem dJ7_copyOf_6403c_27 : decode cJ7_copyOf_6403c 27 = .ok (.aload_n 3, 1) := by decide +kernel
theorem dJ7_copyOf_6403c_28 : decode cJ7_copyOf_6403c 28 = .ok (.iconst 0, 1) := by decide +kernel
theorem dJ7_copyOf_6403c_29 : decode cJ7_copyOf_6403c 29 = .ok (.aload_n 0, 1) := by decide +kernel
theorem dJ7_copyOf_6403c_30 : decode cJ7_copyOf_6403c 30 = .ok (.arraylength, 1) := by decide +kernel
theorem dJ7_copyOf_6403c_31 : decode cJ7_copyOf_6403c 31 = .ok (.iload_n 1, 1) := by decide +kernel
theorem dJ7_copyOf_6403c_32 : decode cJ7_copyOf_6403c 32 = .ok (.invokestatic 304, 3) := by decide +kernel
theorem dJ7_copyOf_6403c_35 : decode cJ7_copyOf_6403c 35 = .ok (.invokestatic 150, 3) := by decide +kernel
theorem dJ7_copyOf_6403c_38 : decode cJ7_copyOf_6403c 38 = .ok (.aload_n 3, 1) := by decide +kernel
theorem dJ7_copyOf_6403c_39 : decode cJ7_copyOf_6403c 39 = .ok (.areturn, 1) := by decide +kernel
theorem dJ15_checkIndex_7cf53_0 : decode cJ15_checkIndex_7cf53 0 = .ok (.iload_n 0, 1) := by decide +kernel
theorem dJ15_checkIndex_7cf53_1 : decode cJ15_checkIndex_7cf53 1 = .ok (.iload_n 1, 1) := by decide +kernel
theorem dJ15_checkIndex_7cf53_2 : decode cJ15_checkIndex_7cf53 2 = .ok (.aconst_null, 1) := by decide +kernel
theorem dJ15_checkIndex_7cf53_3 : decode cJ15_checkIndex_7cf53 3 = .ok (.invokestatic 105, 3) := by decide +kernel
theorem dJ15_checkIndex_7cf53_6 : decode cJ15_checkIndex_7cf53 6 = .ok (.ireturn, 1) := by decide +kernel
theorem dJ8_newLength_cabcc_0 : decode cJ8_newLength_cabcc 0 = .ok (.iload_n 0, 1) := by decide +kernel
theorem dJ8_newLength_cabcc_1 : decode cJ8_newLength_cabcc 1 = .ok (.iload_n 1, 1) := by decide +kernel
theorem dJ8_newLength_cabcc_2 : decode cJ8_newLength_cabcc 2 = .ok (.iload_n 2, 1) := by decide +kernel
theorem dJ8_newLength_cabcc_3 : decode cJ8_newLength_cabcc 3 = .ok (.invokestatic 194, 3) := by decide +kernel
theorem dJ8_newLength_cabcc_6 : decode cJ8_newLength_cabcc 6 = .ok (.iadd, 1) := by decide +kernel
theorem dJ8_newLength_cabcc_7 : decode cJ8_newLength_cabcc 7 = .ok (.istore_n 3, 1) := by decide +kernel
theorem dJ8_newLength_cabcc_8 : decode cJ8_newLength_cabcc 8 = .ok (.iconst 0, 1) := by decide +kernel
theorem dJ8_newLength_cabcc_9 : decode cJ8_newLength_cabcc 9 = .ok (.iload_n 3, 1) := by decide +kernel
theorem dJ8_newLength_cabcc_10 : decode cJ8_newLength_cabcc 10 = .ok (.if_icmp .ge 11, 3) := by decide +kernel
theorem dJ8_newLength_cabcc_13 : decode cJ8_newLength_cabcc 13 = .ok (.iload_n 3, 1) := by decide +kernel
theorem dJ8_newLength_cabcc_14 : decode cJ8_newLength_cabcc 14 = .ok (.ldc 200, 2) := by decide +kernel
theorem dJ8_newLength_cabcc_16 : decode cJ8_newLength_cabcc 16 = .ok (.if_icmp .gt 5, 3) := by decide +kernel
theorem dJ8_newLength_cabcc_19 : decode cJ8_newLength_cabcc 19 = .ok (.iload_n 3, 1) := by decide +kernel
theorem dJ8_newLength_cabcc_20 : decode cJ8_newLength_cabcc 20 = .ok (.ireturn, 1) := by decide +kernel
theorem dJ8_newLength_cabcc_21 : decode cJ8_newLength_cabcc 21 = .ok (.iload_n 0, 1) := by decide +kernel
theorem dJ8_newLength_cabcc_22 : decode cJ8_newLength_cabcc 22 = .ok (.iload_n 1, 1) := by decide +kernel
theorem dJ8_newLength_cabcc_23 : decode cJ8_newLength_cabcc 23 = .ok (.invokestatic 201, 3) := by decide +kernel
theorem dJ8_newLength_cabcc_26 : decode cJ8_newLength_cabcc 26 = .ok (.ireturn, 1) := by decide +kernel
theorem dJ8_hugeLength_7cf53_0 : decode cJ8_hugeLength_7cf53 0 = .ok (.iload_n 0, 1) := by decide +kernel
theorem dJ8_hugeLength_7cf53_1 : decode cJ8_hugeLength_7cf53 1 = .ok (.iload_n 1, 1) := by decide +kernel
theorem dJ8_hugeLength_7cf53_2 : decode cJ8_hugeLength_7cf53 2 = .ok (.iadd, 1) := by decide +kernel
theorem dJ8_hugeLength_7cf53_3 : decode cJ8_hugeLength_7cf53 3 = .ok (.istore_n 2, 1) := by decide +kernel
theorem dJ8_hugeLength_7cf53_4 : decode cJ8_hugeLength_7cf53 4 = .ok (.iload_n 2, 1) := by decide +kernel
theorem dJ8_hugeLength_7cf53_5 : decode cJ8_hugeLength_7cf53 5 = .ok (.ifCond .ge 44, 3) := by decide +kernel
theorem dJ8_hugeLength_7cf53_8 : decode cJ8_hugeLength_7cf53 8 = .ok (.new 204, 3) := by decide +kernel
theorem dJ8_hugeLength_7cf53_11 : decode cJ8_hugeLength_7cf53 11 = .ok (.dup, 1) := by decide +kernel
theorem dJ8_hugeLength_7cf53_12 : decode cJ8_hugeLength_7cf53 12 = .ok (.new 89, 3) := by decide +kernel
theorem dJ8_hugeLength_7cf53_15 : decode cJ8_hugeLength_7cf53 15 = .ok (.dup, 1) := by decide +kernel
theorem dJ8_hugeLength_7cf53_16 : decode cJ8_hugeLength_7cf53 16 = .ok (.invokespecial 91, 3) := by decide +kernel
theorem dJ8_hugeLength_7cf53_19 : decode cJ8_hugeLength_7cf53 19 = .ok (.ldc 206, 2) := by decide +kernel
theorem dJ8_hugeLength_7cf53_21 : decode cJ8_hugeLength_7cf53 21 = .ok (.invokevirtual 94, 3) := by decide +kernel
theorem dJ8_hugeLength_7cf53_24 : decode cJ8_hugeLength_7cf53 24 = .ok (.iload_n 0, 1) := by decide +kernel
theorem dJ8_hugeLength_7cf53_25 : decode cJ8_hugeLength_7cf53 25 = .ok (.invokevirtual 98, 3) := by decide +kernel
theorem dJ8_hugeLength_7cf53_28 : decode cJ8_hugeLength_7cf53 28 = .ok (.ldc 208, 2) := by decide +kernel
theorem dJ8_hugeLength_7cf53_30 : decode cJ8_hugeLength_7cf53 30 = .ok (.invokevirtual 94, 3) := by decide +kernel
theorem dJ8_hugeLength_7cf53_33 : decode cJ8_hugeLength_7cf53 33 = .ok (.iload_n 1, 1) := by decide +kernel
theorem dJ8_hugeLength_7cf53_34 : decode cJ8_hugeLength_7cf53 34 = .ok (.invokevirtual 98, 3) := by decide +kernel
theorem dJ8_hugeLength_7cf53_37 : decode cJ8_hugeLength_7cf53 37 = .ok (.ldc 210, 2) := by decide +kernel
theorem dJ8_hugeLength_7cf53_39 : decode cJ8_hugeLength_7cf53 39 = .ok (.invokevirtual 94, 3) := by decide +kernel
theorem dJ8_hugeLength_7cf53_42 : decode cJ8_hugeLength_7cf53 42 = .ok (.invokevirtual 101, 3) := by decide +kernel
theorem dJ8_hugeLength_7cf53_45 : decode cJ8_hugeLength_7cf53 45 = .ok (.invokespecial 212, 3) := by decide +kernel
theorem dJ8_hugeLength_7cf53_48 : decode cJ8_hugeLength_7cf53 48 = .ok (.athrow, 1) := by decide +kernel
theorem dJ8_hugeLength_7cf53_49 : decode cJ8_hugeLength_7cf53 49 = .ok (.iload_n 2, 1) := by decide +kernel
theorem dJ8_hugeLength_7cf53_50 : decode cJ8_hugeLength_7cf53 50 = .ok (.ldc 200, 2) := by decide +kernel
theorem dJ8_hugeLength_7cf53_52 : decode cJ8_hugeLength_7cf53 52 = .ok (.if_icmp .gt 6, 3) := by decide +kernel
theorem dJ8_hugeLength_7cf53_55 : decode cJ8_hugeLength_7cf53 55 = .ok (.ldc 200, 2) := by decide +kernel
theorem dJ8_hugeLength_7cf53_57 : decode cJ8_hugeLength_7cf53 57 = .ok (.ireturn, 1) := by decide +kernel
theorem dJ8_hugeLength_7cf53_58 : decode cJ8_hugeLength_7cf53 58 = .ok (.iload_n 2, 1) := by decide +kernel
theorem dJ8_hugeLength_7cf53_59 : decode cJ8_hugeLength_7cf53 59 = .ok (.ireturn, 1) := by decide +kernel
theorem dJ3_checkIndex_8e157_0 : decode cJ3_checkIndex_8e157 0 = .ok (.iload_n 0, 1) := by decide +kernel
theorem dJ3_checkIndex_8e157_1 : decode cJ3_checkIndex_8e157 1 = .ok (.ifCond .lt 8, 3) := by decide +kernel
theorem dJ3_checkIndex_8e157_4 : decode cJ3_checkIndex_8e157 4 = .ok (.iload_n 0, 1) := by decide +kernel
theorem dJ3_checkIndex_8e157_5 : decode cJ3_checkIndex_8e157 5 = .ok (.iload_n 1, 1) := by decide +kernel
theorem dJ3_checkIndex_8e157_6 : decode cJ3_checkIndex_8e157 6 = .ok (.if_icmp .lt 10, 3) := by decide +kernel
theorem dJ3_checkIndex_8e157_9 : decode cJ3_checkIndex_8e157 9 = .ok (.aload_n 2, 1) := by decide +kernel
theorem dJ3_checkIndex_8e157_10 : decode cJ3_checkIndex_8e157 10 = .ok (.iload_n 0, 1) := by decide +kernel
theorem dJ3_checkIndex_8e157_11 : decode cJ3_checkIndex_8e157 11 = .ok (.iload_n 1, 1) := by decide +kernel
theorem dJ3_checkIndex_8e157_12 : decode cJ3_checkIndex_8e157 12 = .ok (.invokestatic 95, 3) := by decide +kernel
theorem dJ3_checkIndex_8e157_15 : decode cJ3_checkIndex_8e157 15 = .ok (.athrow, 1) := by decide +kernel
theorem dJ3_checkIndex_8e157_16 : decode cJ3_checkIndex_8e157 16 = .ok (.iload_n 0, 1) := by decide +kernel
theorem dJ3_checkIndex_8e157_17 : decode cJ3_checkIndex_8e157 17 = .ok (.ireturn, 1) := by decide +kernel
theorem dL_line_0 : decode cL_line 0 = .ok (.aload_n 3, 1) := by decide +kernel
theorem dL_line_1 : decode cL_line 1 = .ok (.iconst 0, 1) := by decide +kernel
theorem dL_line_2 : decode cL_line 2 = .ok (.aload_n 0, 1) := by decide +kernel
theorem dL_line_3 : decode cL_line 3 = .ok (.iload_n 1, 1) := by decide +kernel
theorem dL_line_4 : decode cL_line 4 = .ok (.iload_n 2, 1) := by decide +kernel
theorem dL_line_5 : decode cL_line 5 = .ok (.invokevirtual 7, 3) := by decide +kernel
theorem dL_line_8 : decode cL_line 8 = .ok (.i2l, 1) := by decide +kernel
theorem dL_line_9 : decode cL_line 9 = .ok (.lastore, 1) := by decide +kernel
theorem dL_line_10 : decode cL_line 10 = .ok (.goto 11, 3) := by decide +kernel
theorem dL_line_13 : decode cL_line 13 = .ok (.astore 4, 2) := by decide +kernel
theorem dL_line_15 : decode cL_line 15 = .ok (.iconst 1, 1) := by decide +kernel
theorem dL_line_16 : decode cL_line 16 = .ok (.ireturn, 1) := by decide +kernel
theorem dL_line_17 : decode cL_line 17 = .ok (.astore 4, 2) := by decide +kernel
theorem dL_line_19 : decode cL_line 19 = .ok (.iconst 2, 1) := by decide +kernel
theorem dL_line_20 : decode cL_line 20 = .ok (.ireturn, 1) := by decide +kernel
theorem dL_line_21 : decode cL_line 21 = .ok (.iconst 0, 1) := by decide +kernel
theorem dL_line_22 : decode cL_line 22 = .ok (.ireturn, 1) := by decide +kernel
theorem dL_income_0 : decode cL_income 0 = .ok (.aload_n 3, 1) := by decide +kernel
theorem dL_income_1 : decode cL_income 1 = .ok (.iconst 0, 1) := by decide +kernel
theorem dL_income_2 : decode cL_income 2 = .ok (.aload_n 0, 1) := by decide +kernel
theorem dL_income_3 : decode cL_income 3 = .ok (.iload_n 1, 1) := by decide +kernel
theorem dL_income_4 : decode cL_income 4 = .ok (.iload_n 2, 1) := by decide +kernel
theorem dL_income_5 : decode cL_income 5 = .ok (.invokevirtual 17, 3) := by decide +kernel
theorem dL_income_8 : decode cL_income 8 = .ok (.i2l, 1) := by decide +kernel
theorem dL_income_9 : decode cL_income 9 = .ok (.lastore, 1) := by decide +kernel
theorem dL_income_10 : decode cL_income 10 = .ok (.goto 7, 3) := by decide +kernel
theorem dL_income_13 : decode cL_income 13 = .ok (.astore 4, 2) := by decide +kernel
theorem dL_income_15 : decode cL_income 15 = .ok (.iconst 1, 1) := by decide +kernel
theorem dL_income_16 : decode cL_income 16 = .ok (.ireturn, 1) := by decide +kernel
theorem dL_income_17 : decode cL_income 17 = .ok (.iconst 0, 1) := by decide +kernel
theorem dL_income_18 : decode cL_income 18 = .ok (.ireturn, 1) := by decide +kernel
theorem dL_amend_0 : decode cL_amend 0 = .ok (.aload_n 3, 1) := by decide +kernel
theorem dL_amend_1 : decode cL_amend 1 = .ok (.iconst 0, 1) := by decide +kernel
theorem dL_amend_2 : decode cL_amend 2 = .ok (.aload_n 0, 1) := by decide +kernel
theorem dL_amend_3 : decode cL_amend 3 = .ok (.iload_n 1, 1) := by decide +kernel
theorem dL_amend_4 : decode cL_amend 4 = .ok (.iload_n 2, 1) := by decide +kernel
theorem dL_amend_5 : decode cL_amend 5 = .ok (.invokevirtual 20, 3) := by decide +kernel
theorem dL_amend_8 : decode cL_amend 8 = .ok (.i2l, 1) := by decide +kernel
theorem dL_amend_9 : decode cL_amend 9 = .ok (.lastore, 1) := by decide +kernel
theorem dL_amend_10 : decode cL_amend 10 = .ok (.goto 15, 3) := by decide +kernel
theorem dL_amend_13 : decode cL_amend 13 = .ok (.astore 4, 2) := by decide +kernel
theorem dL_amend_15 : decode cL_amend 15 = .ok (.iconst 1, 1) := by decide +kernel
theorem dL_amend_16 : decode cL_amend 16 = .ok (.ireturn, 1) := by decide +kernel
theorem dL_amend_17 : decode cL_amend 17 = .ok (.astore 4, 2) := by decide +kernel
theorem dL_amend_19 : decode cL_amend 19 = .ok (.iconst 2, 1) := by decide +kernel
theorem dL_amend_20 : decode cL_amend 20 = .ok (.ireturn, 1) := by decide +kernel
theorem dL_amend_21 : decode cL_amend 21 = .ok (.astore 4, 2) := by decide +kernel
theorem dL_amend_23 : decode cL_amend 23 = .ok (.iconst 3, 1) := by decide +kernel
theorem dL_amend_24 : decode cL_amend 24 = .ok (.ireturn, 1) := by decide +kernel
theorem dL_amend_25 : decode cL_amend 25 = .ok (.iconst 0, 1) := by decide +kernel
theorem dL_amend_26 : decode cL_amend 26 = .ok (.ireturn, 1) := by decide +kernel
theorem dL_amendOn_0 : decode cL_amendOn 0 = .ok (.aload_n 3, 1) := by decide +kernel
theorem dL_amendOn_1 : decode cL_amendOn 1 = .ok (.iconst 0, 1) := by decide +kernel
theorem dL_amendOn_2 : decode cL_amendOn 2 = .ok (.aload_n 0, 1) := by decide +kernel
theorem dL_amendOn_3 : decode cL_amendOn 3 = .ok (.iload_n 1, 1) := by decide +kernel
theorem dL_amendOn_4 : decode cL_amendOn 4 = .ok (.iload_n 2, 1) := by decide +kernel
theorem dL_amendOn_5 : decode cL_amendOn 5 = .ok (.invokevirtual 25, 3) := by decide +kernel
theorem dL_amendOn_8 : decode cL_amendOn 8 = .ok (.i2l, 1) := by decide +kernel
theorem dL_amendOn_9 : decode cL_amendOn 9 = .ok (.lastore, 1) := by decide +kernel
theorem dL_amendOn_10 : decode cL_amendOn 10 = .ok (.goto 15, 3) := by decide +kernel
theorem dL_amendOn_13 : decode cL_amendOn 13 = .ok (.astore 4, 2) := by decide +kernel
theorem dL_amendOn_15 : decode cL_amendOn 15 = .ok (.iconst 1, 1) := by decide +kernel
theorem dL_amendOn_16 : decode cL_amendOn 16 = .ok (.ireturn, 1) := by decide +kernel
theorem dL_amendOn_17 : decode cL_amendOn 17 = .ok (.astore 4, 2) := by decide +kernel
theorem dL_amendOn_19 : decode cL_amendOn 19 = .ok (.iconst 2, 1) := by decide +kernel
theorem dL_amendOn_20 : decode cL_amendOn 20 = .ok (.ireturn, 1) := by decide +kernel
theorem dL_amendOn_21 : decode cL_amendOn 21 = .ok (.astore 4, 2) := by decide +kernel
theorem dL_amendOn_23 : decode cL_amendOn 23 = .ok (.iconst 3, 1) := by decide +kernel
theorem dL_amendOn_24 : decode cL_amendOn 24 = .ok (.ireturn, 1) := by decide +kernel
theorem dL_amendOn_25 : decode cL_amendOn 25 = .ok (.iconst 0, 1) := by decide +kernel
theorem dL_amendOn_26 : decode cL_amendOn 26 = .ok (.ireturn, 1) := by decide +kernel
theorem dL_vote_0 : decode cL_vote 0 = .ok (.aload 4, 2) := by decide +kernel
theorem dL_vote_2 : decode cL_vote 2 = .ok (.iconst 0, 1) := by decide +kernel
theorem dL_vote_3 : decode cL_vote 3 = .ok (.aload_n 0, 1) := by decide +kernel
theorem dL_vote_4 : decode cL_vote 4 = .ok (.iload_n 1, 1) := by decide +kernel
theorem dL_vote_5 : decode cL_vote 5 = .ok (.iload_n 2, 1) := by decide +kernel
theorem dL_vote_6 : decode cL_vote 6 = .ok (.iload_n 3, 1) := by decide +kernel
theorem dL_vote_7 : decode cL_vote 7 = .ok (.invokevirtual 28, 3) := by decide +kernel
theorem dL_vote_10 : decode cL_vote 10 = .ok (.i2l, 1) := by decide +kernel
theorem dL_vote_11 : decode cL_vote 11 = .ok (.lastore, 1) := by decide +kernel
theorem dL_vote_12 : decode cL_vote 12 = .ok (.goto 11, 3) := by decide +kernel
theorem dL_vote_15 : decode cL_vote 15 = .ok (.astore 5, 2) := by decide +kernel
theorem dL_vote_17 : decode cL_vote 17 = .ok (.iconst 1, 1) := by decide +kernel
theorem dL_vote_18 : decode cL_vote 18 = .ok (.ireturn, 1) := by decide +kernel
theorem dL_vote_19 : decode cL_vote 19 = .ok (.astore 5, 2) := by decide +kernel
theorem dL_vote_21 : decode cL_vote 21 = .ok (.iconst 2, 1) := by decide +kernel
theorem dL_vote_22 : decode cL_vote 22 = .ok (.ireturn, 1) := by decide +kernel
theorem dL_vote_23 : decode cL_vote 23 = .ok (.iconst 0, 1) := by decide +kernel
theorem dL_vote_24 : decode cL_vote 24 = .ok (.ireturn, 1) := by decide +kernel
theorem dL_decide_0 : decode cL_decide 0 = .ok (.aload_n 2, 1) := by decide +kernel
theorem dL_decide_1 : decode cL_decide 1 = .ok (.iconst 0, 1) := by decide +kernel
theorem dL_decide_2 : decode cL_decide 2 = .ok (.aload_n 0, 1) := by decide +kernel
theorem dL_decide_3 : decode cL_decide 3 = .ok (.iload_n 1, 1) := by decide +kernel
theorem dL_decide_4 : decode cL_decide 4 = .ok (.invokevirtual 32, 3) := by decide +kernel
theorem dL_decide_7 : decode cL_decide 7 = .ok (.i2l, 1) := by decide +kernel
theorem dL_decide_8 : decode cL_decide 8 = .ok (.lastore, 1) := by decide +kernel
theorem dL_decide_9 : decode cL_decide 9 = .ok (.goto 9, 3) := by decide +kernel
theorem dL_decide_12 : decode cL_decide 12 = .ok (.astore_n 3, 1) := by decide +kernel
theorem dL_decide_13 : decode cL_decide 13 = .ok (.iconst 1, 1) := by decide +kernel
theorem dL_decide_14 : decode cL_decide 14 = .ok (.ireturn, 1) := by decide +kernel
theorem dL_decide_15 : decode cL_decide 15 = .ok (.astore_n 3, 1) := by decide +kernel
theorem dL_decide_16 : decode cL_decide 16 = .ok (.iconst 2, 1) := by decide +kernel
theorem dL_decide_17 : decode cL_decide 17 = .ok (.ireturn, 1) := by decide +kernel
theorem dL_decide_18 : decode cL_decide 18 = .ok (.iconst 0, 1) := by decide +kernel
theorem dL_decide_19 : decode cL_decide 19 = .ok (.ireturn, 1) := by decide +kernel
theorem dL_strike_0 : decode cL_strike 0 = .ok (.aload_n 2, 1) := by decide +kernel
theorem dL_strike_1 : decode cL_strike 1 = .ok (.iconst 0, 1) := by decide +kernel
theorem dL_strike_2 : decode cL_strike 2 = .ok (.aload_n 0, 1) := by decide +kernel
theorem dL_strike_3 : decode cL_strike 3 = .ok (.iload_n 1, 1) := by decide +kernel
theorem dL_strike_4 : decode cL_strike 4 = .ok (.invokevirtual 36, 3) := by decide +kernel
theorem dL_strike_7 : decode cL_strike 7 = .ok (.i2l, 1) := by decide +kernel
theorem dL_strike_8 : decode cL_strike 8 = .ok (.lastore, 1) := by decide +kernel
theorem dL_strike_9 : decode cL_strike 9 = .ok (.goto 9, 3) := by decide +kernel
theorem dL_strike_12 : decode cL_strike 12 = .ok (.astore_n 3, 1) := by decide +kernel
theorem dL_strike_13 : decode cL_strike 13 = .ok (.iconst 1, 1) := by decide +kernel
theorem dL_strike_14 : decode cL_strike 14 = .ok (.ireturn, 1) := by decide +kernel
theorem dL_strike_15 : decode cL_strike 15 = .ok (.astore_n 3, 1) := by decide +kernel
theorem dL_strike_16 : decode cL_strike 16 = .ok (.iconst 2, 1) := by decide +kernel
theorem dL_strike_17 : decode cL_strike 17 = .ok (.ireturn, 1) := by decide +kernel
theorem dL_strike_18 : decode cL_strike 18 = .ok (.iconst 0, 1) := by decide +kernel
theorem dL_strike_19 : decode cL_strike 19 = .ok (.ireturn, 1) := by decide +kernel
theorem dL_grant_0 : decode cL_grant 0 = .ok (.aload 6, 2) := by decide +kernel
theorem dL_grant_2 : decode cL_grant 2 = .ok (.iconst 0, 1) := by decide +kernel
theorem dL_grant_3 : decode cL_grant 3 = .ok (.aload_n 0, 1) := by decide +kernel
theorem dL_grant_4 : decode cL_grant 4 = .ok (.iload_n 1, 1) := by decide +kernel
theorem dL_grant_5 : decode cL_grant 5 = .ok (.iload_n 2, 1) := by decide +kernel
theorem dL_grant_6 : decode cL_grant 6 = .ok (.iload_n 3, 1) := by decide +kernel
theorem dL_grant_7 : decode cL_grant 7 = .ok (.iload 4, 2) := by decide +kernel
theorem dL_grant_9 : decode cL_grant 9 = .ok (.iload 5, 2) := by decide +kernel
theorem dL_grant_11 : decode cL_grant 11 = .ok (.invokevirtual 39, 3) := by decide +kernel
theorem dL_grant_14 : decode cL_grant 14 = .ok (.i2l, 1) := by decide +kernel
theorem dL_grant_15 : decode cL_grant 15 = .ok (.lastore, 1) := by decide +kernel
theorem dL_grant_16 : decode cL_grant 16 = .ok (.goto 15, 3) := by decide +kernel
theorem dL_grant_19 : decode cL_grant 19 = .ok (.astore 7, 2) := by decide +kernel
theorem dL_grant_21 : decode cL_grant 21 = .ok (.iconst 1, 1) := by decide +kernel
theorem dL_grant_22 : decode cL_grant 22 = .ok (.ireturn, 1) := by decide +kernel
theorem dL_grant_23 : decode cL_grant 23 = .ok (.astore 7, 2) := by decide +kernel
theorem dL_grant_25 : decode cL_grant 25 = .ok (.iconst 2, 1) := by decide +kernel
theorem dL_grant_26 : decode cL_grant 26 = .ok (.ireturn, 1) := by decide +kernel
theorem dL_grant_27 : decode cL_grant 27 = .ok (.astore 7, 2) := by decide +kernel
theorem dL_grant_29 : decode cL_grant 29 = .ok (.iconst 3, 1) := by decide +kernel
theorem dL_grant_30 : decode cL_grant 30 = .ok (.ireturn, 1) := by decide +kernel
theorem dL_grant_31 : decode cL_grant 31 = .ok (.iconst 0, 1) := by decide +kernel
theorem dL_grant_32 : decode cL_grant 32 = .ok (.ireturn, 1) := by decide +kernel
theorem dL_pay_0 : decode cL_pay 0 = .ok (.aload_n 3, 1) := by decide +kernel
theorem dL_pay_1 : decode cL_pay 1 = .ok (.iconst 0, 1) := by decide +kernel
theorem dL_pay_2 : decode cL_pay 2 = .ok (.aload_n 0, 1) := by decide +kernel
theorem dL_pay_3 : decode cL_pay 3 = .ok (.iload_n 1, 1) := by decide +kernel
theorem dL_pay_4 : decode cL_pay 4 = .ok (.iload_n 2, 1) := by decide +kernel
theorem dL_pay_5 : decode cL_pay 5 = .ok (.invokevirtual 43, 3) := by decide +kernel
theorem dL_pay_8 : decode cL_pay 8 = .ok (.i2l, 1) := by decide +kernel
theorem dL_pay_9 : decode cL_pay 9 = .ok (.lastore, 1) := by decide +kernel
theorem dL_pay_10 : decode cL_pay 10 = .ok (.goto 15, 3) := by decide +kernel
theorem dL_pay_13 : decode cL_pay 13 = .ok (.astore 4, 2) := by decide +kernel
theorem dL_pay_15 : decode cL_pay 15 = .ok (.iconst 1, 1) := by decide +kernel
theorem dL_pay_16 : decode cL_pay 16 = .ok (.ireturn, 1) := by decide +kernel
theorem dL_pay_17 : decode cL_pay 17 = .ok (.astore 4, 2) := by decide +kernel
theorem dL_pay_19 : decode cL_pay 19 = .ok (.iconst 2, 1) := by decide +kernel
theorem dL_pay_20 : decode cL_pay 20 = .ok (.ireturn, 1) := by decide +kernel
theorem dL_pay_21 : decode cL_pay 21 = .ok (.astore 4, 2) := by decide +kernel
theorem dL_pay_23 : decode cL_pay 23 = .ok (.iconst 3, 1) := by decide +kernel
theorem dL_pay_24 : decode cL_pay 24 = .ok (.ireturn, 1) := by decide +kernel
theorem dL_pay_25 : decode cL_pay 25 = .ok (.iconst 0, 1) := by decide +kernel
theorem dL_pay_26 : decode cL_pay 26 = .ok (.ireturn, 1) := by decide +kernel
theorem dL_report_0 : decode cL_report 0 = .ok (.aload_n 2, 1) := by decide +kernel
theorem dL_report_1 : decode cL_report 1 = .ok (.iconst 0, 1) := by decide +kernel
theorem dL_report_2 : decode cL_report 2 = .ok (.aload_n 0, 1) := by decide +kernel
theorem dL_report_3 : decode cL_report 3 = .ok (.iload_n 1, 1) := by decide +kernel
theorem dL_report_4 : decode cL_report 4 = .ok (.invokevirtual 46, 3) := by decide +kernel
theorem dL_report_7 : decode cL_report 7 = .ok (.ifCond .eq 7, 3) := by decide +kernel
theorem dL_report_10 : decode cL_report 10 = .ok (.lconst 1, 1) := by decide +kernel
theorem dL_report_11 : decode cL_report 11 = .ok (.goto 4, 3) := by decide +kernel
theorem dL_report_14 : decode cL_report 14 = .ok (.lconst 0, 1) := by decide +kernel
theorem dL_report_15 : decode cL_report 15 = .ok (.lastore, 1) := by decide +kernel
theorem dL_report_16 : decode cL_report 16 = .ok (.goto 9, 3) := by decide +kernel
theorem dL_report_19 : decode cL_report 19 = .ok (.astore_n 3, 1) := by decide +kernel
theorem dL_report_20 : decode cL_report 20 = .ok (.iconst 1, 1) := by decide +kernel
theorem dL_report_21 : decode cL_report 21 = .ok (.ireturn, 1) := by decide +kernel
theorem dL_report_22 : decode cL_report 22 = .ok (.astore_n 3, 1) := by decide +kernel
theorem dL_report_23 : decode cL_report 23 = .ok (.iconst 2, 1) := by decide +kernel
theorem dL_report_24 : decode cL_report 24 = .ok (.ireturn, 1) := by decide +kernel
theorem dL_report_25 : decode cL_report 25 = .ok (.iconst 0, 1) := by decide +kernel
theorem dL_report_26 : decode cL_report 26 = .ok (.ireturn, 1) := by decide +kernel
theorem dL_spend_0 : decode cL_spend 0 = .ok (.aload_n 3, 1) := by decide +kernel
theorem dL_spend_1 : decode cL_spend 1 = .ok (.iconst 0, 1) := by decide +kernel
theorem dL_spend_2 : decode cL_spend 2 = .ok (.aload_n 0, 1) := by decide +kernel
theorem dL_spend_3 : decode cL_spend 3 = .ok (.iload_n 1, 1) := by decide +kernel
theorem dL_spend_4 : decode cL_spend 4 = .ok (.iload_n 2, 1) := by decide +kernel
theorem dL_spend_5 : decode cL_spend 5 = .ok (.invokevirtual 50, 3) := by decide +kernel
theorem dL_spend_8 : decode cL_spend 8 = .ok (.i2l, 1) := by decide +kernel
theorem dL_spend_9 : decode cL_spend 9 = .ok (.lastore, 1) := by decide +kernel
theorem dL_spend_10 : decode cL_spend 10 = .ok (.goto 15, 3) := by decide +kernel
theorem dL_spend_13 : decode cL_spend 13 = .ok (.astore 4, 2) := by decide +kernel
theorem dL_spend_15 : decode cL_spend 15 = .ok (.iconst 1, 1) := by decide +kernel
theorem dL_spend_16 : decode cL_spend 16 = .ok (.ireturn, 1) := by decide +kernel
theorem dL_spend_17 : decode cL_spend 17 = .ok (.astore 4, 2) := by decide +kernel
theorem dL_spend_19 : decode cL_spend 19 = .ok (.iconst 2, 1) := by decide +kernel
theorem dL_spend_20 : decode cL_spend 20 = .ok (.ireturn, 1) := by decide +kernel
theorem dL_spend_21 : decode cL_spend 21 = .ok (.astore 4, 2) := by decide +kernel
theorem dL_spend_23 : decode cL_spend 23 = .ok (.iconst 3, 1) := by decide +kernel
theorem dL_spend_24 : decode cL_spend 24 = .ok (.ireturn, 1) := by decide +kernel
theorem dL_spend_25 : decode cL_spend 25 = .ok (.iconst 0, 1) := by decide +kernel
theorem dL_spend_26 : decode cL_spend 26 = .ok (.ireturn, 1) := by decide +kernel
theorem dL_audit_0 : decode cL_audit 0 = .ok (.aload_n 3, 1) := by decide +kernel
theorem dL_audit_1 : decode cL_audit 1 = .ok (.iconst 0, 1) := by decide +kernel
theorem dL_audit_2 : decode cL_audit 2 = .ok (.aload_n 0, 1) := by decide +kernel
theorem dL_audit_3 : decode cL_audit 3 = .ok (.iload_n 1, 1) := by decide +kernel
theorem dL_audit_4 : decode cL_audit 4 = .ok (.iload_n 2, 1) := by decide +kernel
theorem dL_audit_5 : decode cL_audit 5 = .ok (.invokevirtual 53, 3) := by decide +kernel
theorem dL_audit_8 : decode cL_audit 8 = .ok (.i2l, 1) := by decide +kernel
theorem dL_audit_9 : decode cL_audit 9 = .ok (.lastore, 1) := by decide +kernel
theorem dL_audit_10 : decode cL_audit 10 = .ok (.goto 15, 3) := by decide +kernel
theorem dL_audit_13 : decode cL_audit 13 = .ok (.astore 4, 2) := by decide +kernel
theorem dL_audit_15 : decode cL_audit 15 = .ok (.iconst 1, 1) := by decide +kernel
theorem dL_audit_16 : decode cL_audit 16 = .ok (.ireturn, 1) := by decide +kernel
theorem dL_audit_17 : decode cL_audit 17 = .ok (.astore 4, 2) := by decide +kernel
theorem dL_audit_19 : decode cL_audit 19 = .ok (.iconst 2, 1) := by decide +kernel
theorem dL_audit_20 : decode cL_audit 20 = .ok (.ireturn, 1) := by decide +kernel
theorem dL_audit_21 : decode cL_audit 21 = .ok (.astore 4, 2) := by decide +kernel
theorem dL_audit_23 : decode cL_audit 23 = .ok (.iconst 3, 1) := by decide +kernel
theorem dL_audit_24 : decode cL_audit 24 = .ok (.ireturn, 1) := by decide +kernel
theorem dL_audit_25 : decode cL_audit 25 = .ok (.iconst 0, 1) := by decide +kernel
theorem dL_audit_26 : decode cL_audit 26 = .ok (.ireturn, 1) := by decide +kernel
theorem dL_repay_0 : decode cL_repay 0 = .ok (.aload_n 3, 1) := by decide +kernel
theorem dL_repay_1 : decode cL_repay 1 = .ok (.iconst 0, 1) := by decide +kernel
theorem dL_repay_2 : decode cL_repay 2 = .ok (.aload_n 0, 1) := by decide +kernel
theorem dL_repay_3 : decode cL_repay 3 = .ok (.iload_n 1, 1) := by decide +kernel
theorem dL_repay_4 : decode cL_repay 4 = .ok (.iload_n 2, 1) := by decide +kernel
theorem dL_repay_5 : decode cL_repay 5 = .ok (.invokevirtual 56, 3) := by decide +kernel
theorem dL_repay_8 : decode cL_repay 8 = .ok (.i2l, 1) := by decide +kernel
theorem dL_repay_9 : decode cL_repay 9 = .ok (.lastore, 1) := by decide +kernel
theorem dL_repay_10 : decode cL_repay 10 = .ok (.goto 15, 3) := by decide +kernel
theorem dL_repay_13 : decode cL_repay 13 = .ok (.astore 4, 2) := by decide +kernel
theorem dL_repay_15 : decode cL_repay 15 = .ok (.iconst 1, 1) := by decide +kernel
theorem dL_repay_16 : decode cL_repay 16 = .ok (.ireturn, 1) := by decide +kernel
theorem dL_repay_17 : decode cL_repay 17 = .ok (.astore 4, 2) := by decide +kernel
theorem dL_repay_19 : decode cL_repay 19 = .ok (.iconst 2, 1) := by decide +kernel
theorem dL_repay_20 : decode cL_repay 20 = .ok (.ireturn, 1) := by decide +kernel
theorem dL_repay_21 : decode cL_repay 21 = .ok (.astore 4, 2) := by decide +kernel
theorem dL_repay_23 : decode cL_repay 23 = .ok (.iconst 3, 1) := by decide +kernel
theorem dL_repay_24 : decode cL_repay 24 = .ok (.ireturn, 1) := by decide +kernel
theorem dL_repay_25 : decode cL_repay 25 = .ok (.iconst 0, 1) := by decide +kernel
theorem dL_repay_26 : decode cL_repay 26 = .ok (.ireturn, 1) := by decide +kernel
theorem dL_target_0 : decode cL_target 0 = .ok (.aload_n 2, 1) := by decide +kernel
theorem dL_target_1 : decode cL_target 1 = .ok (.iconst 0, 1) := by decide +kernel
theorem dL_target_2 : decode cL_target 2 = .ok (.aload_n 0, 1) := by decide +kernel
theorem dL_target_3 : decode cL_target 3 = .ok (.iload_n 1, 1) := by decide +kernel
theorem dL_target_4 : decode cL_target 4 = .ok (.invokevirtual 59, 3) := by decide +kernel
theorem dL_target_7 : decode cL_target 7 = .ok (.i2l, 1) := by decide +kernel
theorem dL_target_8 : decode cL_target 8 = .ok (.lastore, 1) := by decide +kernel
theorem dL_target_9 : decode cL_target 9 = .ok (.goto 6, 3) := by decide +kernel
theorem dL_target_12 : decode cL_target 12 = .ok (.astore_n 3, 1) := by decide +kernel
theorem dL_target_13 : decode cL_target 13 = .ok (.iconst 1, 1) := by decide +kernel
theorem dL_target_14 : decode cL_target 14 = .ok (.ireturn, 1) := by decide +kernel
theorem dL_target_15 : decode cL_target 15 = .ok (.iconst 0, 1) := by decide +kernel
theorem dL_target_16 : decode cL_target 16 = .ok (.ireturn, 1) := by decide +kernel
theorem dL_month_0 : decode cL_month 0 = .ok (.aload_n 2, 1) := by decide +kernel
theorem dL_month_1 : decode cL_month 1 = .ok (.iconst 0, 1) := by decide +kernel
theorem dL_month_2 : decode cL_month 2 = .ok (.aload_n 0, 1) := by decide +kernel
theorem dL_month_3 : decode cL_month 3 = .ok (.iload_n 1, 1) := by decide +kernel
theorem dL_month_4 : decode cL_month 4 = .ok (.invokevirtual 62, 3) := by decide +kernel
theorem dL_month_7 : decode cL_month 7 = .ok (.i2l, 1) := by decide +kernel
theorem dL_month_8 : decode cL_month 8 = .ok (.lastore, 1) := by decide +kernel
theorem dL_month_9 : decode cL_month 9 = .ok (.goto 6, 3) := by decide +kernel
theorem dL_month_12 : decode cL_month 12 = .ok (.astore_n 3, 1) := by decide +kernel
theorem dL_month_13 : decode cL_month 13 = .ok (.iconst 1, 1) := by decide +kernel
theorem dL_month_14 : decode cL_month 14 = .ok (.ireturn, 1) := by decide +kernel
theorem dL_month_15 : decode cL_month 15 = .ok (.iconst 0, 1) := by decide +kernel
theorem dL_month_16 : decode cL_month 16 = .ok (.ireturn, 1) := by decide +kernel
theorem dL_ofLine_0 : decode cL_ofLine 0 = .ok (.aload_n 3, 1) := by decide +kernel
theorem dL_ofLine_1 : decode cL_ofLine 1 = .ok (.iconst 0, 1) := by decide +kernel
theorem dL_ofLine_2 : decode cL_ofLine 2 = .ok (.aload_n 0, 1) := by decide +kernel
theorem dL_ofLine_3 : decode cL_ofLine 3 = .ok (.iload_n 1, 1) := by decide +kernel
theorem dL_ofLine_4 : decode cL_ofLine 4 = .ok (.iload_n 2, 1) := by decide +kernel
theorem dL_ofLine_5 : decode cL_ofLine 5 = .ok (.invokevirtual 65, 3) := by decide +kernel
theorem dL_ofLine_8 : decode cL_ofLine 8 = .ok (.i2l, 1) := by decide +kernel
theorem dL_ofLine_9 : decode cL_ofLine 9 = .ok (.lastore, 1) := by decide +kernel
theorem dL_ofLine_10 : decode cL_ofLine 10 = .ok (.goto 11, 3) := by decide +kernel
theorem dL_ofLine_13 : decode cL_ofLine 13 = .ok (.astore 4, 2) := by decide +kernel
theorem dL_ofLine_15 : decode cL_ofLine 15 = .ok (.iconst 1, 1) := by decide +kernel
theorem dL_ofLine_16 : decode cL_ofLine 16 = .ok (.ireturn, 1) := by decide +kernel
theorem dL_ofLine_17 : decode cL_ofLine 17 = .ok (.astore 4, 2) := by decide +kernel
theorem dL_ofLine_19 : decode cL_ofLine 19 = .ok (.iconst 2, 1) := by decide +kernel
theorem dL_ofLine_20 : decode cL_ofLine 20 = .ok (.ireturn, 1) := by decide +kernel
theorem dL_ofLine_21 : decode cL_ofLine 21 = .ok (.iconst 0, 1) := by decide +kernel
theorem dL_ofLine_22 : decode cL_ofLine 22 = .ok (.ireturn, 1) := by decide +kernel
theorem dL_standsAnew_0 : decode cL_standsAnew 0 = .ok (.aload_n 2, 1) := by decide +kernel
theorem dL_standsAnew_1 : decode cL_standsAnew 1 = .ok (.iconst 0, 1) := by decide +kernel
theorem dL_standsAnew_2 : decode cL_standsAnew 2 = .ok (.aload_n 0, 1) := by decide +kernel
theorem dL_standsAnew_3 : decode cL_standsAnew 3 = .ok (.iload_n 1, 1) := by decide +kernel
theorem dL_standsAnew_4 : decode cL_standsAnew 4 = .ok (.invokevirtual 68, 3) := by decide +kernel
theorem dL_standsAnew_7 : decode cL_standsAnew 7 = .ok (.i2l, 1) := by decide +kernel
theorem dL_standsAnew_8 : decode cL_standsAnew 8 = .ok (.lastore, 1) := by decide +kernel
theorem dL_standsAnew_9 : decode cL_standsAnew 9 = .ok (.goto 6, 3) := by decide +kernel
theorem dL_standsAnew_12 : decode cL_standsAnew 12 = .ok (.astore_n 3, 1) := by decide +kernel
theorem dL_standsAnew_13 : decode cL_standsAnew 13 = .ok (.iconst 1, 1) := by decide +kernel
theorem dL_standsAnew_14 : decode cL_standsAnew 14 = .ok (.ireturn, 1) := by decide +kernel
theorem dL_standsAnew_15 : decode cL_standsAnew 15 = .ok (.iconst 0, 1) := by decide +kernel
theorem dL_standsAnew_16 : decode cL_standsAnew 16 = .ok (.ireturn, 1) := by decide +kernel
theorem dL_ofAmendment_0 : decode cL_ofAmendment 0 = .ok (.aload_n 3, 1) := by decide +kernel
theorem dL_ofAmendment_1 : decode cL_ofAmendment 1 = .ok (.iconst 0, 1) := by decide +kernel
theorem dL_ofAmendment_2 : decode cL_ofAmendment 2 = .ok (.aload_n 0, 1) := by decide +kernel
theorem dL_ofAmendment_3 : decode cL_ofAmendment 3 = .ok (.iload_n 1, 1) := by decide +kernel
theorem dL_ofAmendment_4 : decode cL_ofAmendment 4 = .ok (.iload_n 2, 1) := by decide +kernel
theorem dL_ofAmendment_5 : decode cL_ofAmendment 5 = .ok (.invokevirtual 71, 3) := by decide +kernel
theorem dL_ofAmendment_8 : decode cL_ofAmendment 8 = .ok (.i2l, 1) := by decide +kernel
theorem dL_ofAmendment_9 : decode cL_ofAmendment 9 = .ok (.lastore, 1) := by decide +kernel
theorem dL_ofAmendment_10 : decode cL_ofAmendment 10 = .ok (.goto 11, 3) := by decide +kernel
theorem dL_ofAmendment_13 : decode cL_ofAmendment 13 = .ok (.astore 4, 2) := by decide +kernel
theorem dL_ofAmendment_15 : decode cL_ofAmendment 15 = .ok (.iconst 1, 1) := by decide +kernel
theorem dL_ofAmendment_16 : decode cL_ofAmendment 16 = .ok (.ireturn, 1) := by decide +kernel
theorem dL_ofAmendment_17 : decode cL_ofAmendment 17 = .ok (.astore 4, 2) := by decide +kernel
theorem dL_ofAmendment_19 : decode cL_ofAmendment 19 = .ok (.iconst 2, 1) := by decide +kernel
theorem dL_ofAmendment_20 : decode cL_ofAmendment 20 = .ok (.ireturn, 1) := by decide +kernel
theorem dL_ofAmendment_21 : decode cL_ofAmendment 21 = .ok (.iconst 0, 1) := by decide +kernel
theorem dL_ofAmendment_22 : decode cL_ofAmendment 22 = .ok (.ireturn, 1) := by decide +kernel
theorem dL_ofGrant_0 : decode cL_ofGrant 0 = .ok (.aload_n 3, 1) := by decide +kernel
theorem dL_ofGrant_1 : decode cL_ofGrant 1 = .ok (.iconst 0, 1) := by decide +kernel
theorem dL_ofGrant_2 : decode cL_ofGrant 2 = .ok (.aload_n 0, 1) := by decide +kernel
theorem dL_ofGrant_3 : decode cL_ofGrant 3 = .ok (.iload_n 1, 1) := by decide +kernel
theorem dL_ofGrant_4 : decode cL_ofGrant 4 = .ok (.iload_n 2, 1) := by decide +kernel
theorem dL_ofGrant_5 : decode cL_ofGrant 5 = .ok (.invokevirtual 74, 3) := by decide +kernel
theorem dL_ofGrant_8 : decode cL_ofGrant 8 = .ok (.i2l, 1) := by decide +kernel
theorem dL_ofGrant_9 : decode cL_ofGrant 9 = .ok (.lastore, 1) := by decide +kernel
theorem dL_ofGrant_10 : decode cL_ofGrant 10 = .ok (.goto 11, 3) := by decide +kernel
theorem dL_ofGrant_13 : decode cL_ofGrant 13 = .ok (.astore 4, 2) := by decide +kernel
theorem dL_ofGrant_15 : decode cL_ofGrant 15 = .ok (.iconst 1, 1) := by decide +kernel
theorem dL_ofGrant_16 : decode cL_ofGrant 16 = .ok (.ireturn, 1) := by decide +kernel
theorem dL_ofGrant_17 : decode cL_ofGrant 17 = .ok (.astore 4, 2) := by decide +kernel
theorem dL_ofGrant_19 : decode cL_ofGrant 19 = .ok (.iconst 2, 1) := by decide +kernel
theorem dL_ofGrant_20 : decode cL_ofGrant 20 = .ok (.ireturn, 1) := by decide +kernel
theorem dL_ofGrant_21 : decode cL_ofGrant 21 = .ok (.iconst 0, 1) := by decide +kernel
theorem dL_ofGrant_22 : decode cL_ofGrant 22 = .ok (.ireturn, 1) := by decide +kernel
theorem dL_owes_0 : decode cL_owes 0 = .ok (.aload_n 2, 1) := by decide +kernel
theorem dL_owes_1 : decode cL_owes 1 = .ok (.iconst 0, 1) := by decide +kernel
theorem dL_owes_2 : decode cL_owes 2 = .ok (.aload_n 0, 1) := by decide +kernel
theorem dL_owes_3 : decode cL_owes 3 = .ok (.iload_n 1, 1) := by decide +kernel
theorem dL_owes_4 : decode cL_owes 4 = .ok (.invokevirtual 77, 3) := by decide +kernel
theorem dL_owes_7 : decode cL_owes 7 = .ok (.i2l, 1) := by decide +kernel
theorem dL_owes_8 : decode cL_owes 8 = .ok (.lastore, 1) := by decide +kernel
theorem dL_owes_9 : decode cL_owes 9 = .ok (.goto 6, 3) := by decide +kernel
theorem dL_owes_12 : decode cL_owes 12 = .ok (.astore_n 3, 1) := by decide +kernel
theorem dL_owes_13 : decode cL_owes 13 = .ok (.iconst 1, 1) := by decide +kernel
theorem dL_owes_14 : decode cL_owes 14 = .ok (.ireturn, 1) := by decide +kernel
theorem dL_owes_15 : decode cL_owes 15 = .ok (.iconst 0, 1) := by decide +kernel
theorem dL_owes_16 : decode cL_owes 16 = .ok (.ireturn, 1) := by decide +kernel
theorem dL_ofSource_0 : decode cL_ofSource 0 = .ok (.aload_n 3, 1) := by decide +kernel
theorem dL_ofSource_1 : decode cL_ofSource 1 = .ok (.iconst 0, 1) := by decide +kernel
theorem dL_ofSource_2 : decode cL_ofSource 2 = .ok (.aload_n 0, 1) := by decide +kernel
theorem dL_ofSource_3 : decode cL_ofSource 3 = .ok (.iload_n 1, 1) := by decide +kernel
theorem dL_ofSource_4 : decode cL_ofSource 4 = .ok (.iload_n 2, 1) := by decide +kernel
theorem dL_ofSource_5 : decode cL_ofSource 5 = .ok (.invokevirtual 80, 3) := by decide +kernel
theorem dL_ofSource_8 : decode cL_ofSource 8 = .ok (.i2l, 1) := by decide +kernel
theorem dL_ofSource_9 : decode cL_ofSource 9 = .ok (.lastore, 1) := by decide +kernel
theorem dL_ofSource_10 : decode cL_ofSource 10 = .ok (.goto 7, 3) := by decide +kernel
theorem dL_ofSource_13 : decode cL_ofSource 13 = .ok (.astore 4, 2) := by decide +kernel
theorem dL_ofSource_15 : decode cL_ofSource 15 = .ok (.iconst 1, 1) := by decide +kernel
theorem dL_ofSource_16 : decode cL_ofSource 16 = .ok (.ireturn, 1) := by decide +kernel
theorem dL_ofSource_17 : decode cL_ofSource 17 = .ok (.iconst 0, 1) := by decide +kernel
theorem dL_ofSource_18 : decode cL_ofSource 18 = .ok (.ireturn, 1) := by decide +kernel
theorem dL_law_0 : decode cL_law 0 = .ok (.new 8, 3) := by decide +kernel
theorem dL_law_3 : decode cL_law 3 = .ok (.dup, 1) := by decide +kernel
theorem dL_law_4 : decode cL_law 4 = .ok (.invokespecial 83, 3) := by decide +kernel
theorem dL_law_7 : decode cL_law 7 = .ok (.astore_n 1, 1) := by decide +kernel
theorem dL_law_8 : decode cL_law 8 = .ok (.new 84, 3) := by decide +kernel
theorem dL_law_11 : decode cL_law 11 = .ok (.dup, 1) := by decide +kernel
theorem dL_law_12 : decode cL_law 12 = .ok (.invokespecial 86, 3) := by decide +kernel
theorem dL_law_15 : decode cL_law 15 = .ok (.astore_n 2, 1) := by decide +kernel
theorem dL_law_16 : decode cL_law 16 = .ok (.iconst 1, 1) := by decide +kernel
theorem dL_law_17 : decode cL_law 17 = .ok (.newarray .long, 2) := by decide +kernel
theorem dL_law_19 : decode cL_law 19 = .ok (.astore_n 3, 1) := by decide +kernel
theorem dL_law_20 : decode cL_law 20 = .ok (.iconst 0, 1) := by decide +kernel
theorem dL_law_21 : decode cL_law 21 = .ok (.istore 4, 2) := by decide +kernel
theorem dL_law_23 : decode cL_law 23 = .ok (.iload 4, 2) := by decide +kernel
theorem dL_law_25 : decode cL_law 25 = .ok (.aload_n 0, 1) := by decide +kernel
theorem dL_law_26 : decode cL_law 26 = .ok (.arraylength, 1) := by decide +kernel
theorem dL_law_27 : decode cL_law 27 = .ok (.bipush 6, 2) := by decide +kernel
theorem dL_law_29 : decode cL_law 29 = .ok (.isub, 1) := by decide +kernel
theorem dL_law_30 : decode cL_law 30 = .ok (.if_icmp .gt 1548, 3) := by decide +kernel
theorem dL_law_33 : decode cL_law 33 = .ok (.aload_n 0, 1) := by decide +kernel
theorem dL_law_34 : decode cL_law 34 = .ok (.iload 4, 2) := by decide +kernel
theorem dL_law_36 : decode cL_law 36 = .ok (.iaload, 1) := by decide +kernel
theorem dL_law_37 : decode cL_law 37 = .ok (.bipush 31, 2) := by decide +kernel
theorem dL_law_39 : decode cL_law 39 = .ok (.iand, 1) := by decide +kernel
theorem dL_law_40 : decode cL_law 40 = .ok (.tableswitch 1532 0 21 #[104, 172, 240, 308, 376, 472, 528, 584, 688, 756, 819, 887, 955, 1023, 1079, 1135, 1203, 1259, 1327, 1395, 1451, 1464], 104) := by decide +kernel
theorem dL_law_144 : decode cL_law 144 = .ok (.aload_n 1, 1) := by decide +kernel
theorem dL_law_145 : decode cL_law 145 = .ok (.aload_n 0, 1) := by decide +kernel
theorem dL_law_146 : decode cL_law 146 = .ok (.iload 4, 2) := by decide +kernel
theorem dL_law_148 : decode cL_law 148 = .ok (.iconst 1, 1) := by decide +kernel
theorem dL_law_149 : decode cL_law 149 = .ok (.iadd, 1) := by decide +kernel
theorem dL_law_150 : decode cL_law 150 = .ok (.iaload, 1) := by decide +kernel
theorem dL_law_151 : decode cL_law 151 = .ok (.aload_n 0, 1) := by decide +kernel
theorem dL_law_152 : decode cL_law 152 = .ok (.iload 4, 2) := by decide +kernel
theorem dL_law_154 : decode cL_law 154 = .ok (.iconst 2, 1) := by decide +kernel
theorem dL_law_155 : decode cL_law 155 = .ok (.iadd, 1) := by decide +kernel
theorem dL_law_156 : decode cL_law 156 = .ok (.iaload, 1) := by decide +kernel
theorem dL_law_157 : decode cL_law 157 = .ok (.aload_n 3, 1) := by decide +kernel
theorem dL_law_158 : decode cL_law 158 = .ok (.invokestatic 87, 3) := by decide +kernel
theorem dL_law_161 : decode cL_law 161 = .ok (.istore 5, 2) := by decide +kernel
theorem dL_law_163 : decode cL_law 163 = .ok (.aload_n 2, 1) := by decide +kernel
theorem dL_law_164 : decode cL_law 164 = .ok (.aload_n 0, 1) := by decide +kernel
theorem dL_law_165 : decode cL_law 165 = .ok (.iload 4, 2) := by decide +kernel
theorem dL_law_167 : decode cL_law 167 = .ok (.iconst 1, 1) := by decide +kernel
theorem dL_law_168 : decode cL_law 168 = .ok (.iadd, 1) := by decide +kernel
theorem dL_law_169 : decode cL_law 169 = .ok (.iaload, 1) := by decide +kernel
theorem dL_law_170 : decode cL_law 170 = .ok (.aload_n 0, 1) := by decide +kernel
theorem dL_law_171 : decode cL_law 171 = .ok (.iload 4, 2) := by decide +kernel
theorem dL_law_173 : decode cL_law 173 = .ok (.iconst 2, 1) := by decide +kernel
theorem dL_law_174 : decode cL_law 174 = .ok (.iadd, 1) := by decide +kernel
theorem dL_law_175 : decode cL_law 175 = .ok (.iaload, 1) := by decide +kernel
theorem dL_law_176 : decode cL_law 176 = .ok (.invokevirtual 92, 3) := by decide +kernel
theorem dL_law_179 : decode cL_law 179 = .ok (.istore 6, 2) := by decide +kernel
theorem dL_law_181 : decode cL_law 181 = .ok (.aload_n 2, 1) := by decide +kernel
theorem dL_law_182 : decode cL_law 182 = .ok (.invokevirtual 93, 3) := by decide +kernel
theorem dL_law_185 : decode cL_law 185 = .ok (.iload 5, 2) := by decide +kernel
theorem dL_law_187 : decode cL_law 187 = .ok (.if_icmp .eq 5, 3) := by decide +kernel
theorem dL_law_190 : decode cL_law 190 = .ok (.iconst 0, 1) := by decide +kernel
theorem dL_law_191 : decode cL_law 191 = .ok (.ireturn, 1) := by decide +kernel
theorem dL_law_192 : decode cL_law 192 = .ok (.iload 5, 2) := by decide +kernel
theorem dL_law_194 : decode cL_law 194 = .ok (.ifCond .ne 15, 3) := by decide +kernel
theorem dL_law_197 : decode cL_law 197 = .ok (.aload_n 3, 1) := by decide +kernel
theorem dL_law_198 : decode cL_law 198 = .ok (.iconst 0, 1) := by decide +kernel
theorem dL_law_199 : decode cL_law 199 = .ok (.laload, 1) := by decide +kernel
theorem dL_law_200 : decode cL_law 200 = .ok (.iload 6, 2) := by decide +kernel
theorem dL_law_202 : decode cL_law 202 = .ok (.i2l, 1) := by decide +kernel
theorem dL_law_203 : decode cL_law 203 = .ok (.lcmp, 1) := by decide +kernel
theorem dL_law_204 : decode cL_law 204 = .ok (.ifCond .eq 5, 3) := by decide +kernel
theorem dL_law_207 : decode cL_law 207 = .ok (.iconst 0, 1) := by decide +kernel
theorem dL_law_208 : decode cL_law 208 = .ok (.ireturn, 1) := by decide +kernel
theorem dL_law_209 : decode cL_law 209 = .ok (.goto 1363, 3) := by decide +kernel
theorem dL_law_212 : decode cL_law 212 = .ok (.aload_n 1, 1) := by decide +kernel
theorem dL_law_213 : decode cL_law 213 = .ok (.aload_n 0, 1) := by decide +kernel
theorem dL_law_214 : decode cL_law 214 = .ok (.iload 4, 2) := by decide +kernel
theorem dL_law_216 : decode cL_law 216 = .ok (.iconst 1, 1) := by decide +kernel
theorem dL_law_217 : decode cL_law 217 = .ok (.iadd, 1) := by decide +kernel
theorem dL_law_218 : decode cL_law 218 = .ok (.iaload, 1) := by decide +kernel
theorem dL_law_219 : decode cL_law 219 = .ok (.aload_n 0, 1) := by decide +kernel
theorem dL_law_220 : decode cL_law 220 = .ok (.iload 4, 2) := by decide +kernel
theorem dL_law_222 : decode cL_law 222 = .ok (.iconst 2, 1) := by decide +kernel
theorem dL_law_223 : decode cL_law 223 = .ok (.iadd, 1) := by decide +kernel
theorem dL_law_224 : decode cL_law 224 = .ok (.iaload, 1) := by decide +kernel
theorem dL_law_225 : decode cL_law 225 = .ok (.aload_n 3, 1) := by decide +kernel
theorem dL_law_226 : decode cL_law 226 = .ok (.invokestatic 97, 3) := by decide +kernel
theorem dL_law_229 : decode cL_law 229 = .ok (.istore 5, 2) := by decide +kernel
theorem dL_law_231 : decode cL_law 231 = .ok (.aload_n 2, 1) := by decide +kernel
theorem dL_law_232 : decode cL_law 232 = .ok (.aload_n 0, 1) := by decide +kernel
theorem dL_law_233 : decode cL_law 233 = .ok (.iload 4, 2) := by decide +kernel
theorem dL_law_235 : decode cL_law 235 = .ok (.iconst 1, 1) := by decide +kernel
theorem dL_law_236 : decode cL_law 236 = .ok (.iadd, 1) := by decide +kernel
theorem dL_law_237 : decode cL_law 237 = .ok (.iaload, 1) := by decide +kernel
theorem dL_law_238 : decode cL_law 238 = .ok (.aload_n 0, 1) := by decide +kernel
theorem dL_law_239 : decode cL_law 239 = .ok (.iload 4, 2) := by decide +kernel
theorem dL_law_241 : decode cL_law 241 = .ok (.iconst 2, 1) := by decide +kernel
theorem dL_law_242 : decode cL_law 242 = .ok (.iadd, 1) := by decide +kernel
theorem dL_law_243 : decode cL_law 243 = .ok (.iaload, 1) := by decide +kernel
theorem dL_law_244 : decode cL_law 244 = .ok (.invokevirtual 99, 3) := by decide +kernel
theorem dL_law_247 : decode cL_law 247 = .ok (.istore 6, 2) := by decide +kernel
theorem dL_law_249 : decode cL_law 249 = .ok (.aload_n 2, 1) := by decide +kernel
theorem dL_law_250 : decode cL_law 250 = .ok (.invokevirtual 93, 3) := by decide +kernel
theorem dL_law_253 : decode cL_law 253 = .ok (.iload 5, 2) := by decide +kernel
theorem dL_law_255 : decode cL_law 255 = .ok (.if_icmp .eq 5, 3) := by decide +kernel
theorem dL_law_258 : decode cL_law 258 = .ok (.iconst 0, 1) := by decide +kernel
theorem dL_law_259 : decode cL_law 259 = .ok (.ireturn, 1) := by decide +kernel
theorem dL_law_260 : decode cL_law 260 = .ok (.iload 5, 2) := by decide +kernel
theorem dL_law_262 : decode cL_law 262 = .ok (.ifCond .ne 15, 3) := by decide +kernel
theorem dL_law_265 : decode cL_law 265 = .ok (.aload_n 3, 1) := by decide +kernel
theorem dL_law_266 : decode cL_law 266 = .ok (.iconst 0, 1) := by decide +kernel
theorem dL_law_267 : decode cL_law 267 = .ok (.laload, 1) := by decide +kernel
theorem dL_law_268 : decode cL_law 268 = .ok (.iload 6, 2) := by decide +kernel
theorem dL_law_270 : decode cL_law 270 = .ok (.i2l, 1) := by decide +kernel
theorem dL_law_271 : decode cL_law 271 = .ok (.lcmp, 1) := by decide +kernel
theorem dL_law_272 : decode cL_law 272 = .ok (.ifCond .eq 5, 3) := by decide +kernel
theorem dL_law_275 : decode cL_law 275 = .ok (.iconst 0, 1) := by decide +kernel
theorem dL_law_276 : decode cL_law 276 = .ok (.ireturn, 1) := by decide +kernel
theorem dL_law_277 : decode cL_law 277 = .ok (.goto 1295, 3) := by decide +kernel
theorem dL_law_280 : decode cL_law 280 = .ok (.aload_n 1, 1) := by decide +kernel
theorem dL_law_281 : decode cL_law 281 = .ok (.aload_n 0, 1) := by decide +kernel
theorem dL_law_282 : decode cL_law 282 = .ok (.iload 4, 2) := by decide +kernel
theorem dL_law_284 : decode cL_law 284 = .ok (.iconst 1, 1) := by decide +kernel
theorem dL_law_285 : decode cL_law 285 = .ok (.iadd, 1) := by decide +kernel
theorem dL_law_286 : decode cL_law 286 = .ok (.iaload, 1) := by decide +kernel
theorem dL_law_287 : decode cL_law 287 = .ok (.aload_n 0, 1) := by decide +kernel
theorem dL_law_288 : decode cL_law 288 = .ok (.iload 4, 2) := by decide +kernel
theorem dL_law_290 : decode cL_law 290 = .ok (.iconst 2, 1) := by decide +kernel
theorem dL_law_291 : decode cL_law 291 = .ok (.iadd, 1) := by decide +kernel
theorem dL_law_292 : decode cL_law 292 = .ok (.iaload, 1) := by decide +kernel
theorem dL_law_293 : decode cL_law 293 = .ok (.aload_n 3, 1) := by decide +kernel
theorem dL_law_294 : decode cL_law 294 = .ok (.invokestatic 100, 3) := by decide +kernel
theorem dL_law_297 : decode cL_law 297 = .ok (.istore 5, 2) := by decide +kernel
theorem dL_law_299 : decode cL_law 299 = .ok (.aload_n 2, 1) := by decide +kernel
theorem dL_law_300 : decode cL_law 300 = .ok (.aload_n 0, 1) := by decide +kernel
theorem dL_law_301 : decode cL_law 301 = .ok (.iload 4, 2) := by decide +kernel
theorem dL_law_303 : decode cL_law 303 = .ok (.iconst 1, 1) := by decide +kernel
theorem dL_law_304 : decode cL_law 304 = .ok (.iadd, 1) := by decide +kernel
theorem dL_law_305 : decode cL_law 305 = .ok (.iaload, 1) := by decide +kernel
theorem dL_law_306 : decode cL_law 306 = .ok (.aload_n 0, 1) := by decide +kernel
theorem dL_law_307 : decode cL_law 307 = .ok (.iload 4, 2) := by decide +kernel
theorem dL_law_309 : decode cL_law 309 = .ok (.iconst 2, 1) := by decide +kernel
theorem dL_law_310 : decode cL_law 310 = .ok (.iadd, 1) := by decide +kernel
theorem dL_law_311 : decode cL_law 311 = .ok (.iaload, 1) := by decide +kernel
theorem dL_law_312 : decode cL_law 312 = .ok (.invokevirtual 102, 3) := by decide +kernel
theorem dL_law_315 : decode cL_law 315 = .ok (.istore 6, 2) := by decide +kernel
theorem dL_law_317 : decode cL_law 317 = .ok (.aload_n 2, 1) := by decide +kernel
theorem dL_law_318 : decode cL_law 318 = .ok (.invokevirtual 93, 3) := by decide +kernel
theorem dL_law_321 : decode cL_law 321 = .ok (.iload 5, 2) := by decide +kernel
theorem dL_law_323 : decode cL_law 323 = .ok (.if_icmp .eq 5, 3) := by decide +kernel
theorem dL_law_326 : decode cL_law 326 = .ok (.iconst 0, 1) := by decide +kernel
theorem dL_law_327 : decode cL_law 327 = .ok (.ireturn, 1) := by decide +kernel
theorem dL_law_328 : decode cL_law 328 = .ok (.iload 5, 2) := by decide +kernel
theorem dL_law_330 : decode cL_law 330 = .ok (.ifCond .ne 15, 3) := by decide +kernel
theorem dL_law_333 : decode cL_law 333 = .ok (.aload_n 3, 1) := by decide +kernel
theorem dL_law_334 : decode cL_law 334 = .ok (.iconst 0, 1) := by decide +kernel
theorem dL_law_335 : decode cL_law 335 = .ok (.laload, 1) := by decide +kernel
theorem dL_law_336 : decode cL_law 336 = .ok (.iload 6, 2) := by decide +kernel
theorem dL_law_338 : decode cL_law 338 = .ok (.i2l, 1) := by decide +kernel
theorem dL_law_339 : decode cL_law 339 = .ok (.lcmp, 1) := by decide +kernel
theorem dL_law_340 : decode cL_law 340 = .ok (.ifCond .eq 5, 3) := by decide +kernel
theorem dL_law_343 : decode cL_law 343 = .ok (.iconst 0, 1) := by decide +kernel
theorem dL_law_344 : decode cL_law 344 = .ok (.ireturn, 1) := by decide +kernel
theorem dL_law_345 : decode cL_law 345 = .ok (.goto 1227, 3) := by decide +kernel
theorem dL_law_348 : decode cL_law 348 = .ok (.aload_n 1, 1) := by decide +kernel
theorem dL_law_349 : decode cL_law 349 = .ok (.aload_n 0, 1) := by decide +kernel
theorem dL_law_350 : decode cL_law 350 = .ok (.iload 4, 2) := by decide +kernel
theorem dL_law_352 : decode cL_law 352 = .ok (.iconst 1, 1) := by decide +kernel
theorem dL_law_353 : decode cL_law 353 = .ok (.iadd, 1) := by decide +kernel
theorem dL_law_354 : decode cL_law 354 = .ok (.iaload, 1) := by decide +kernel
theorem dL_law_355 : decode cL_law 355 = .ok (.aload_n 0, 1) := by decide +kernel
theorem dL_law_356 : decode cL_law 356 = .ok (.iload 4, 2) := by decide +kernel
theorem dL_law_358 : decode cL_law 358 = .ok (.iconst 2, 1) := by decide +kernel
theorem dL_law_359 : decode cL_law 359 = .ok (.iadd, 1) := by decide +kernel
theorem dL_law_360 : decode cL_law 360 = .ok (.iaload, 1) := by decide +kernel
theorem dL_law_361 : decode cL_law 361 = .ok (.aload_n 3, 1) := by decide +kernel
theorem dL_law_362 : decode cL_law 362 = .ok (.invokestatic 103, 3) := by decide +kernel
theorem dL_law_365 : decode cL_law 365 = .ok (.istore 5, 2) := by decide +kernel
theorem dL_law_367 : decode cL_law 367 = .ok (.aload_n 2, 1) := by decide +kernel
theorem dL_law_368 : decode cL_law 368 = .ok (.aload_n 0, 1) := by decide +kernel
theorem dL_law_369 : decode cL_law 369 = .ok (.iload 4, 2) := by decide +kernel
theorem dL_law_371 : decode cL_law 371 = .ok (.iconst 1, 1) := by decide +kernel
theorem dL_law_372 : decode cL_law 372 = .ok (.iadd, 1) := by decide +kernel
theorem dL_law_373 : decode cL_law 373 = .ok (.iaload, 1) := by decide +kernel
theorem dL_law_374 : decode cL_law 374 = .ok (.aload_n 0, 1) := by decide +kernel
theorem dL_law_375 : decode cL_law 375 = .ok (.iload 4, 2) := by decide +kernel
theorem dL_law_377 : decode cL_law 377 = .ok (.iconst 2, 1) := by decide +kernel
theorem dL_law_378 : decode cL_law 378 = .ok (.iadd, 1) := by decide +kernel
theorem dL_law_379 : decode cL_law 379 = .ok (.iaload, 1) := by decide +kernel
theorem dL_law_380 : decode cL_law 380 = .ok (.invokevirtual 105, 3) := by decide +kernel
theorem dL_law_383 : decode cL_law 383 = .ok (.istore 6, 2) := by decide +kernel
theorem dL_law_385 : decode cL_law 385 = .ok (.aload_n 2, 1) := by decide +kernel
theorem dL_law_386 : decode cL_law 386 = .ok (.invokevirtual 93, 3) := by decide +kernel
theorem dL_law_389 : decode cL_law 389 = .ok (.iload 5, 2) := by decide +kernel
theorem dL_law_391 : decode cL_law 391 = .ok (.if_icmp .eq 5, 3) := by decide +kernel
theorem dL_law_394 : decode cL_law 394 = .ok (.iconst 0, 1) := by decide +kernel
theorem dL_law_395 : decode cL_law 395 = .ok (.ireturn, 1) := by decide +kernel
theorem dL_law_396 : decode cL_law 396 = .ok (.iload 5, 2) := by decide +kernel
theorem dL_law_398 : decode cL_law 398 = .ok (.ifCond .ne 15, 3) := by decide +kernel
theorem dL_law_401 : decode cL_law 401 = .ok (.aload_n 3, 1) := by decide +kernel
theorem dL_law_402 : decode cL_law 402 = .ok (.iconst 0, 1) := by decide +kernel
theorem dL_law_403 : decode cL_law 403 = .ok (.laload, 1) := by decide +kernel
theorem dL_law_404 : decode cL_law 404 = .ok (.iload 6, 2) := by decide +kernel
theorem dL_law_406 : decode cL_law 406 = .ok (.i2l, 1) := by decide +kernel
theorem dL_law_407 : decode cL_law 407 = .ok (.lcmp, 1) := by decide +kernel
theorem dL_law_408 : decode cL_law 408 = .ok (.ifCond .eq 5, 3) := by decide +kernel
theorem dL_law_411 : decode cL_law 411 = .ok (.iconst 0, 1) := by decide +kernel
theorem dL_law_412 : decode cL_law 412 = .ok (.ireturn, 1) := by decide +kernel
theorem dL_law_413 : decode cL_law 413 = .ok (.goto 1159, 3) := by decide +kernel
theorem dL_law_416 : decode cL_law 416 = .ok (.aload_n 1, 1) := by decide +kernel
theorem dL_law_417 : decode cL_law 417 = .ok (.aload_n 0, 1) := by decide +kernel
theorem dL_law_418 : decode cL_law 418 = .ok (.iload 4, 2) := by decide +kernel
theorem dL_law_420 : decode cL_law 420 = .ok (.iconst 1, 1) := by decide +kernel
theorem dL_law_421 : decode cL_law 421 = .ok (.iadd, 1) := by decide +kernel
theorem dL_law_422 : decode cL_law 422 = .ok (.iaload, 1) := by decide +kernel
theorem dL_law_423 : decode cL_law 423 = .ok (.aload_n 0, 1) := by decide +kernel
theorem dL_law_424 : decode cL_law 424 = .ok (.iload 4, 2) := by decide +kernel
theorem dL_law_426 : decode cL_law 426 = .ok (.iconst 2, 1) := by decide +kernel
theorem dL_law_427 : decode cL_law 427 = .ok (.iadd, 1) := by decide +kernel
theorem dL_law_428 : decode cL_law 428 = .ok (.iaload, 1) := by decide +kernel
theorem dL_law_429 : decode cL_law 429 = .ok (.aload_n 0, 1) := by decide +kernel
theorem dL_law_430 : decode cL_law 430 = .ok (.iload 4, 2) := by decide +kernel
theorem dL_law_432 : decode cL_law 432 = .ok (.iconst 3, 1) := by decide +kernel
theorem dL_law_433 : decode cL_law 433 = .ok (.iadd, 1) := by decide +kernel
theorem dL_law_434 : decode cL_law 434 = .ok (.iaload, 1) := by decide +kernel
theorem dL_law_435 : decode cL_law 435 = .ok (.ifCond .eq 7, 3) := by decide +kernel
theorem dL_law_438 : decode cL_law 438 = .ok (.iconst 1, 1) := by decide +kernel
theorem dL_law_439 : decode cL_law 439 = .ok (.goto 4, 3) := by decide +kernel
theorem dL_law_442 : decode cL_law 442 = .ok (.iconst 0, 1) := by decide +kernel
theorem dL_law_443 : decode cL_law 443 = .ok (.aload_n 3, 1) := by decide +kernel
theorem dL_law_444 : decode cL_law 444 = .ok (.invokestatic 106, 3) := by decide +kernel
theorem dL_law_447 : decode cL_law 447 = .ok (.istore 5, 2) := by decide +kernel
theorem dL_law_449 : decode cL_law 449 = .ok (.aload_n 2, 1) := by decide +kernel
theorem dL_law_450 : decode cL_law 450 = .ok (.aload_n 0, 1) := by decide +kernel
theorem dL_law_451 : decode cL_law 451 = .ok (.iload 4, 2) := by decide +kernel
theorem dL_law_453 : decode cL_law 453 = .ok (.iconst 1, 1) := by decide +kernel
theorem dL_law_454 : decode cL_law 454 = .ok (.iadd, 1) := by decide +kernel
theorem dL_law_455 : decode cL_law 455 = .ok (.iaload, 1) := by decide +kernel
theorem dL_law_456 : decode cL_law 456 = .ok (.aload_n 0, 1) := by decide +kernel
theorem dL_law_457 : decode cL_law 457 = .ok (.iload 4, 2) := by decide +kernel
theorem dL_law_459 : decode cL_law 459 = .ok (.iconst 2, 1) := by decide +kernel
theorem dL_law_460 : decode cL_law 460 = .ok (.iadd, 1) := by decide +kernel
theorem dL_law_461 : decode cL_law 461 = .ok (.iaload, 1) := by decide +kernel
theorem dL_law_462 : decode cL_law 462 = .ok (.aload_n 0, 1) := by decide +kernel
theorem dL_law_463 : decode cL_law 463 = .ok (.iload 4, 2) := by decide +kernel
theorem dL_law_465 : decode cL_law 465 = .ok (.iconst 3, 1) := by decide +kernel
theorem dL_law_466 : decode cL_law 466 = .ok (.iadd, 1) := by decide +kernel
theorem dL_law_467 : decode cL_law 467 = .ok (.iaload, 1) := by decide +kernel
theorem dL_law_468 : decode cL_law 468 = .ok (.ifCond .eq 7, 3) := by decide +kernel
theorem dL_law_471 : decode cL_law 471 = .ok (.iconst 1, 1) := by decide +kernel
theorem dL_law_472 : decode cL_law 472 = .ok (.goto 4, 3) := by decide +kernel
theorem dL_law_475 : decode cL_law 475 = .ok (.iconst 0, 1) := by decide +kernel
theorem dL_law_476 : decode cL_law 476 = .ok (.invokevirtual 109, 3) := by decide +kernel
theorem dL_law_479 : decode cL_law 479 = .ok (.istore 6, 2) := by decide +kernel
theorem dL_law_481 : decode cL_law 481 = .ok (.aload_n 2, 1) := by decide +kernel
theorem dL_law_482 : decode cL_law 482 = .ok (.invokevirtual 93, 3) := by decide +kernel
theorem dL_law_485 : decode cL_law 485 = .ok (.iload 5, 2) := by decide +kernel
theorem dL_law_487 : decode cL_law 487 = .ok (.if_icmp .eq 5, 3) := by decide +kernel
theorem dL_law_490 : decode cL_law 490 = .ok (.iconst 0, 1) := by decide +kernel
theorem dL_law_491 : decode cL_law 491 = .ok (.ireturn, 1) := by decide +kernel
theorem dL_law_492 : decode cL_law 492 = .ok (.iload 5, 2) := by decide +kernel
theorem dL_law_494 : decode cL_law 494 = .ok (.ifCond .ne 15, 3) := by decide +kernel
theorem dL_law_497 : decode cL_law 497 = .ok (.aload_n 3, 1) := by decide +kernel
theorem dL_law_498 : decode cL_law 498 = .ok (.iconst 0, 1) := by decide +kernel
theorem dL_law_499 : decode cL_law 499 = .ok (.laload, 1) := by decide +kernel
theorem dL_law_500 : decode cL_law 500 = .ok (.iload 6, 2) := by decide +kernel
theorem dL_law_502 : decode cL_law 502 = .ok (.i2l, 1) := by decide +kernel
theorem dL_law_503 : decode cL_law 503 = .ok (.lcmp, 1) := by decide +kernel
theorem dL_law_504 : decode cL_law 504 = .ok (.ifCond .eq 5, 3) := by decide +kernel
theorem dL_law_507 : decode cL_law 507 = .ok (.iconst 0, 1) := by decide +kernel
theorem dL_law_508 : decode cL_law 508 = .ok (.ireturn, 1) := by decide +kernel
theorem dL_law_509 : decode cL_law 509 = .ok (.goto 1063, 3) := by decide +kernel
theorem dL_law_512 : decode cL_law 512 = .ok (.aload_n 1, 1) := by decide +kernel
theorem dL_law_513 : decode cL_law 513 = .ok (.aload_n 0, 1) := by decide +kernel
theorem dL_law_514 : decode cL_law 514 = .ok (.iload 4, 2) := by decide +kernel
theorem dL_law_516 : decode cL_law 516 = .ok (.iconst 1, 1) := by decide +kernel
theorem dL_law_517 : decode cL_law 517 = .ok (.iadd, 1) := by decide +kernel
theorem dL_law_518 : decode cL_law 518 = .ok (.iaload, 1) := by decide +kernel
theorem dL_law_519 : decode cL_law 519 = .ok (.aload_n 3, 1) := by decide +kernel
theorem dL_law_520 : decode cL_law 520 = .ok (.invokestatic 110, 3) := by decide +kernel
theorem dL_law_523 : decode cL_law 523 = .ok (.istore 5, 2) := by decide +kernel
theorem dL_law_525 : decode cL_law 525 = .ok (.aload_n 2, 1) := by decide +kernel
theorem dL_law_526 : decode cL_law 526 = .ok (.aload_n 0, 1) := by decide +kernel
theorem dL_law_527 : decode cL_law 527 = .ok (.iload 4, 2) := by decide +kernel
theorem dL_law_529 : decode cL_law 529 = .ok (.iconst 1, 1) := by decide +kernel
theorem dL_law_530 : decode cL_law 530 = .ok (.iadd, 1) := by decide +kernel
theorem dL_law_531 : decode cL_law 531 = .ok (.iaload, 1) := by decide +kernel
theorem dL_law_532 : decode cL_law 532 = .ok (.invokevirtual 113, 3) := by decide +kernel
theorem dL_law_535 : decode cL_law 535 = .ok (.istore 6, 2) := by decide +kernel
theorem dL_law_537 : decode cL_law 537 = .ok (.aload_n 2, 1) := by decide +kernel
theorem dL_law_538 : decode cL_law 538 = .ok (.invokevirtual 93, 3) := by decide +kernel
theorem dL_law_541 : decode cL_law 541 = .ok (.iload 5, 2) := by decide +kernel
theorem dL_law_543 : decode cL_law 543 = .ok (.if_icmp .eq 5, 3) := by decide +kernel
theorem dL_law_546 : decode cL_law 546 = .ok (.iconst 0, 1) := by decide +kernel
theorem dL_law_547 : decode cL_law 547 = .ok (.ireturn, 1) := by decide +kernel
theorem dL_law_548 : decode cL_law 548 = .ok (.iload 5, 2) := by decide +kernel
theorem dL_law_550 : decode cL_law 550 = .ok (.ifCond .ne 15, 3) := by decide +kernel
theorem dL_law_553 : decode cL_law 553 = .ok (.aload_n 3, 1) := by decide +kernel
theorem dL_law_554 : decode cL_law 554 = .ok (.iconst 0, 1) := by decide +kernel
theorem dL_law_555 : decode cL_law 555 = .ok (.laload, 1) := by decide +kernel
theorem dL_law_556 : decode cL_law 556 = .ok (.iload 6, 2) := by decide +kernel
theorem dL_law_558 : decode cL_law 558 = .ok (.i2l, 1) := by decide +kernel
theorem dL_law_559 : decode cL_law 559 = .ok (.lcmp, 1) := by decide +kernel
theorem dL_law_560 : decode cL_law 560 = .ok (.ifCond .eq 5, 3) := by decide +kernel
theorem dL_law_563 : decode cL_law 563 = .ok (.iconst 0, 1) := by decide +kernel
theorem dL_law_564 : decode cL_law 564 = .ok (.ireturn, 1) := by decide +kernel
theorem dL_law_565 : decode cL_law 565 = .ok (.goto 1007, 3) := by decide +kernel
theorem dL_law_568 : decode cL_law 568 = .ok (.aload_n 1, 1) := by decide +kernel
theorem dL_law_569 : decode cL_law 569 = .ok (.aload_n 0, 1) := by decide +kernel
theorem dL_law_570 : decode cL_law 570 = .ok (.iload 4, 2) := by decide +kernel
theorem dL_law_572 : decode cL_law 572 = .ok (.iconst 1, 1) := by decide +kernel
theorem dL_law_573 : decode cL_law 573 = .ok (.iadd, 1) := by decide +kernel
theorem dL_law_574 : decode cL_law 574 = .ok (.iaload, 1) := by decide +kernel
theorem dL_law_575 : decode cL_law 575 = .ok (.aload_n 3, 1) := by decide +kernel
theorem dL_law_576 : decode cL_law 576 = .ok (.invokestatic 114, 3) := by decide +kernel
theorem dL_law_579 : decode cL_law 579 = .ok (.istore 5, 2) := by decide +kernel
theorem dL_law_581 : decode cL_law 581 = .ok (.aload_n 2, 1) := by decide +kernel
theorem dL_law_582 : decode cL_law 582 = .ok (.aload_n 0, 1) := by decide +kernel
theorem dL_law_583 : decode cL_law 583 = .ok (.iload 4, 2) := by decide +kernel
theorem dL_law_585 : decode cL_law 585 = .ok (.iconst 1, 1) := by decide +kernel
theorem dL_law_586 : decode cL_law 586 = .ok (.iadd, 1) := by decide +kernel
theorem dL_law_587 : decode cL_law 587 = .ok (.iaload, 1) := by decide +kernel
theorem dL_law_588 : decode cL_law 588 = .ok (.invokevirtual 116, 3) := by decide +kernel
theorem dL_law_591 : decode cL_law 591 = .ok (.istore 6, 2) := by decide +kernel
theorem dL_law_593 : decode cL_law 593 = .ok (.aload_n 2, 1) := by decide +kernel
theorem dL_law_594 : decode cL_law 594 = .ok (.invokevirtual 93, 3) := by decide +kernel
theorem dL_law_597 : decode cL_law 597 = .ok (.iload 5, 2) := by decide +kernel
theorem dL_law_599 : decode cL_law 599 = .ok (.if_icmp .eq 5, 3) := by decide +kernel
theorem dL_law_602 : decode cL_law 602 = .ok (.iconst 0, 1) := by decide +kernel
theorem dL_law_603 : decode cL_law 603 = .ok (.ireturn, 1) := by decide +kernel
theorem dL_law_604 : decode cL_law 604 = .ok (.iload 5, 2) := by decide +kernel
theorem dL_law_606 : decode cL_law 606 = .ok (.ifCond .ne 15, 3) := by decide +kernel
theorem dL_law_609 : decode cL_law 609 = .ok (.aload_n 3, 1) := by decide +kernel
theorem dL_law_610 : decode cL_law 610 = .ok (.iconst 0, 1) := by decide +kernel
theorem dL_law_611 : decode cL_law 611 = .ok (.laload, 1) := by decide +kernel
theorem dL_law_612 : decode cL_law 612 = .ok (.iload 6, 2) := by decide +kernel
theorem dL_law_614 : decode cL_law 614 = .ok (.i2l, 1) := by decide +kernel
theorem dL_law_615 : decode cL_law 615 = .ok (.lcmp, 1) := by decide +kernel
theorem dL_law_616 : decode cL_law 616 = .ok (.ifCond .eq 5, 3) := by decide +kernel
theorem dL_law_619 : decode cL_law 619 = .ok (.iconst 0, 1) := by decide +kernel
theorem dL_law_620 : decode cL_law 620 = .ok (.ireturn, 1) := by decide +kernel
theorem dL_law_621 : decode cL_law 621 = .ok (.goto 951, 3) := by decide +kernel
theorem dL_law_624 : decode cL_law 624 = .ok (.aload_n 1, 1) := by decide +kernel
theorem dL_law_625 : decode cL_law 625 = .ok (.aload_n 0, 1) := by decide +kernel
theorem dL_law_626 : decode cL_law 626 = .ok (.iload 4, 2) := by decide +kernel
theorem dL_law_628 : decode cL_law 628 = .ok (.iconst 1, 1) := by decide +kernel
theorem dL_law_629 : decode cL_law 629 = .ok (.iadd, 1) := by decide +kernel
theorem dL_law_630 : decode cL_law 630 = .ok (.iaload, 1) := by decide +kernel
theorem dL_law_631 : decode cL_law 631 = .ok (.aload_n 0, 1) := by decide +kernel
theorem dL_law_632 : decode cL_law 632 = .ok (.iload 4, 2) := by decide +kernel
theorem dL_law_634 : decode cL_law 634 = .ok (.iconst 2, 1) := by decide +kernel
theorem dL_law_635 : decode cL_law 635 = .ok (.iadd, 1) := by decide +kernel
theorem dL_law_636 : decode cL_law 636 = .ok (.iaload, 1) := by decide +kernel
theorem dL_law_637 : decode cL_law 637 = .ok (.aload_n 0, 1) := by decide +kernel
theorem dL_law_638 : decode cL_law 638 = .ok (.iload 4, 2) := by decide +kernel
theorem dL_law_640 : decode cL_law 640 = .ok (.iconst 3, 1) := by decide +kernel
theorem dL_law_641 : decode cL_law 641 = .ok (.iadd, 1) := by decide +kernel
theorem dL_law_642 : decode cL_law 642 = .ok (.iaload, 1) := by decide +kernel
theorem dL_law_643 : decode cL_law 643 = .ok (.aload_n 0, 1) := by decide +kernel
theorem dL_law_644 : decode cL_law 644 = .ok (.iload 4, 2) := by decide +kernel
theorem dL_law_646 : decode cL_law 646 = .ok (.iconst 4, 1) := by decide +kernel
theorem dL_law_647 : decode cL_law 647 = .ok (.iadd, 1) := by decide +kernel
theorem dL_law_648 : decode cL_law 648 = .ok (.iaload, 1) := by decide +kernel
theorem dL_law_649 : decode cL_law 649 = .ok (.aload_n 0, 1) := by decide +kernel
theorem dL_law_650 : decode cL_law 650 = .ok (.iload 4, 2) := by decide +kernel
theorem dL_law_652 : decode cL_law 652 = .ok (.iconst 5, 1) := by decide +kernel
theorem dL_law_653 : decode cL_law 653 = .ok (.iadd, 1) := by decide +kernel
theorem dL_law_654 : decode cL_law 654 = .ok (.iaload, 1) := by decide +kernel
theorem dL_law_655 : decode cL_law 655 = .ok (.aload_n 3, 1) := by decide +kernel
theorem dL_law_656 : decode cL_law 656 = .ok (.invokestatic 117, 3) := by decide +kernel
theorem dL_law_659 : decode cL_law 659 = .ok (.istore 5, 2) := by decide +kernel
theorem dL_law_661 : decode cL_law 661 = .ok (.aload_n 2, 1) := by decide +kernel
theorem dL_law_662 : decode cL_law 662 = .ok (.aload_n 0, 1) := by decide +kernel
theorem dL_law_663 : decode cL_law 663 = .ok (.iload 4, 2) := by decide +kernel
theorem dL_law_665 : decode cL_law 665 = .ok (.iconst 1, 1) := by decide +kernel
theorem dL_law_666 : decode cL_law 666 = .ok (.iadd, 1) := by decide +kernel
theorem dL_law_667 : decode cL_law 667 = .ok (.iaload, 1) := by decide +kernel
theorem dL_law_668 : decode cL_law 668 = .ok (.aload_n 0, 1) := by decide +kernel
theorem dL_law_669 : decode cL_law 669 = .ok (.iload 4, 2) := by decide +kernel
theorem dL_law_671 : decode cL_law 671 = .ok (.iconst 2, 1) := by decide +kernel
theorem dL_law_672 : decode cL_law 672 = .ok (.iadd, 1) := by decide +kernel
theorem dL_law_673 : decode cL_law 673 = .ok (.iaload, 1) := by decide +kernel
theorem dL_law_674 : decode cL_law 674 = .ok (.aload_n 0, 1) := by decide +kernel
theorem dL_law_675 : decode cL_law 675 = .ok (.iload 4, 2) := by decide +kernel
theorem dL_law_677 : decode cL_law 677 = .ok (.iconst 3, 1) := by decide +kernel
theorem dL_law_678 : decode cL_law 678 = .ok (.iadd, 1) := by decide +kernel
theorem dL_law_679 : decode cL_law 679 = .ok (.iaload, 1) := by decide +kernel
theorem dL_law_680 : decode cL_law 680 = .ok (.aload_n 0, 1) := by decide +kernel
theorem dL_law_681 : decode cL_law 681 = .ok (.iload 4, 2) := by decide +kernel
theorem dL_law_683 : decode cL_law 683 = .ok (.iconst 4, 1) := by decide +kernel
theorem dL_law_684 : decode cL_law 684 = .ok (.iadd, 1) := by decide +kernel
theorem dL_law_685 : decode cL_law 685 = .ok (.iaload, 1) := by decide +kernel
theorem dL_law_686 : decode cL_law 686 = .ok (.aload_n 0, 1) := by decide +kernel
theorem dL_law_687 : decode cL_law 687 = .ok (.iload 4, 2) := by decide +kernel
theorem dL_law_689 : decode cL_law 689 = .ok (.iconst 5, 1) := by decide +kernel
theorem dL_law_690 : decode cL_law 690 = .ok (.iadd, 1) := by decide +kernel
theorem dL_law_691 : decode cL_law 691 = .ok (.iaload, 1) := by decide +kernel
theorem dL_law_692 : decode cL_law 692 = .ok (.invokevirtual 120, 3) := by decide +kernel
theorem dL_law_695 : decode cL_law 695 = .ok (.istore 6, 2) := by decide +kernel
theorem dL_law_697 : decode cL_law 697 = .ok (.aload_n 2, 1) := by decide +kernel
theorem dL_law_698 : decode cL_law 698 = .ok (.invokevirtual 93, 3) := by decide +kernel
theorem dL_law_701 : decode cL_law 701 = .ok (.iload 5, 2) := by decide +kernel
theorem dL_law_703 : decode cL_law 703 = .ok (.if_icmp .eq 5, 3) := by decide +kernel
theorem dL_law_706 : decode cL_law 706 = .ok (.iconst 0, 1) := by decide +kernel
theorem dL_law_707 : decode cL_law 707 = .ok (.ireturn, 1) := by decide +kernel
theorem dL_law_708 : decode cL_law 708 = .ok (.iload 5, 2) := by decide +kernel
theorem dL_law_710 : decode cL_law 710 = .ok (.ifCond .ne 15, 3) := by decide +kernel
theorem dL_law_713 : decode cL_law 713 = .ok (.aload_n 3, 1) := by decide +kernel
theorem dL_law_714 : decode cL_law 714 = .ok (.iconst 0, 1) := by decide +kernel
theorem dL_law_715 : decode cL_law 715 = .ok (.laload, 1) := by decide +kernel
theorem dL_law_716 : decode cL_law 716 = .ok (.iload 6, 2) := by decide +kernel
theorem dL_law_718 : decode cL_law 718 = .ok (.i2l, 1) := by decide +kernel
theorem dL_law_719 : decode cL_law 719 = .ok (.lcmp, 1) := by decide +kernel
theorem dL_law_720 : decode cL_law 720 = .ok (.ifCond .eq 5, 3) := by decide +kernel
theorem dL_law_723 : decode cL_law 723 = .ok (.iconst 0, 1) := by decide +kernel
theorem dL_law_724 : decode cL_law 724 = .ok (.ireturn, 1) := by decide +kernel
theorem dL_law_725 : decode cL_law 725 = .ok (.goto 847, 3) := by decide +kernel
theorem dL_law_728 : decode cL_law 728 = .ok (.aload_n 1, 1) := by decide +kernel
theorem dL_law_729 : decode cL_law 729 = .ok (.aload_n 0, 1) := by decide +kernel
theorem dL_law_730 : decode cL_law 730 = .ok (.iload 4, 2) := by decide +kernel
theorem dL_law_732 : decode cL_law 732 = .ok (.iconst 1, 1) := by decide +kernel
theorem dL_law_733 : decode cL_law 733 = .ok (.iadd, 1) := by decide +kernel
theorem dL_law_734 : decode cL_law 734 = .ok (.iaload, 1) := by decide +kernel
theorem dL_law_735 : decode cL_law 735 = .ok (.aload_n 0, 1) := by decide +kernel
theorem dL_law_736 : decode cL_law 736 = .ok (.iload 4, 2) := by decide +kernel
theorem dL_law_738 : decode cL_law 738 = .ok (.iconst 2, 1) := by decide +kernel
theorem dL_law_739 : decode cL_law 739 = .ok (.iadd, 1) := by decide +kernel
theorem dL_law_740 : decode cL_law 740 = .ok (.iaload, 1) := by decide +kernel
theorem dL_law_741 : decode cL_law 741 = .ok (.aload_n 3, 1) := by decide +kernel
theorem dL_law_742 : decode cL_law 742 = .ok (.invokestatic 121, 3) := by decide +kernel
theorem dL_law_745 : decode cL_law 745 = .ok (.istore 5, 2) := by decide +kernel
theorem dL_law_747 : decode cL_law 747 = .ok (.aload_n 2, 1) := by decide +kernel
theorem dL_law_748 : decode cL_law 748 = .ok (.aload_n 0, 1) := by decide +kernel
theorem dL_law_749 : decode cL_law 749 = .ok (.iload 4, 2) := by decide +kernel
theorem dL_law_751 : decode cL_law 751 = .ok (.iconst 1, 1) := by decide +kernel
theorem dL_law_752 : decode cL_law 752 = .ok (.iadd, 1) := by decide +kernel
theorem dL_law_753 : decode cL_law 753 = .ok (.iaload, 1) := by decide +kernel
theorem dL_law_754 : decode cL_law 754 = .ok (.aload_n 0, 1) := by decide +kernel
theorem dL_law_755 : decode cL_law 755 = .ok (.iload 4, 2) := by decide +kernel
theorem dL_law_757 : decode cL_law 757 = .ok (.iconst 2, 1) := by decide +kernel
theorem dL_law_758 : decode cL_law 758 = .ok (.iadd, 1) := by decide +kernel
theorem dL_law_759 : decode cL_law 759 = .ok (.iaload, 1) := by decide +kernel
theorem dL_law_760 : decode cL_law 760 = .ok (.invokevirtual 123, 3) := by decide +kernel
theorem dL_law_763 : decode cL_law 763 = .ok (.istore 6, 2) := by decide +kernel
theorem dL_law_765 : decode cL_law 765 = .ok (.aload_n 2, 1) := by decide +kernel
theorem dL_law_766 : decode cL_law 766 = .ok (.invokevirtual 93, 3) := by decide +kernel
theorem dL_law_769 : decode cL_law 769 = .ok (.iload 5, 2) := by decide +kernel
theorem dL_law_771 : decode cL_law 771 = .ok (.if_icmp .eq 5, 3) := by decide +kernel
theorem dL_law_774 : decode cL_law 774 = .ok (.iconst 0, 1) := by decide +kernel
theorem dL_law_775 : decode cL_law 775 = .ok (.ireturn, 1) := by decide +kernel
theorem dL_law_776 : decode cL_law 776 = .ok (.iload 5, 2) := by decide +kernel
theorem dL_law_778 : decode cL_law 778 = .ok (.ifCond .ne 15, 3) := by decide +kernel
theorem dL_law_781 : decode cL_law 781 = .ok (.aload_n 3, 1) := by decide +kernel
theorem dL_law_782 : decode cL_law 782 = .ok (.iconst 0, 1) := by decide +kernel
theorem dL_law_783 : decode cL_law 783 = .ok (.laload, 1) := by decide +kernel
theorem dL_law_784 : decode cL_law 784 = .ok (.iload 6, 2) := by decide +kernel
theorem dL_law_786 : decode cL_law 786 = .ok (.i2l, 1) := by decide +kernel
theorem dL_law_787 : decode cL_law 787 = .ok (.lcmp, 1) := by decide +kernel
theorem dL_law_788 : decode cL_law 788 = .ok (.ifCond .eq 5, 3) := by decide +kernel
theorem dL_law_791 : decode cL_law 791 = .ok (.iconst 0, 1) := by decide +kernel
theorem dL_law_792 : decode cL_law 792 = .ok (.ireturn, 1) := by decide +kernel
theorem dL_law_793 : decode cL_law 793 = .ok (.goto 779, 3) := by decide +kernel
theorem dL_law_796 : decode cL_law 796 = .ok (.aload_n 1, 1) := by decide +kernel
theorem dL_law_797 : decode cL_law 797 = .ok (.aload_n 0, 1) := by decide +kernel
theorem dL_law_798 : decode cL_law 798 = .ok (.iload 4, 2) := by decide +kernel
theorem dL_law_800 : decode cL_law 800 = .ok (.iconst 1, 1) := by decide +kernel
theorem dL_law_801 : decode cL_law 801 = .ok (.iadd, 1) := by decide +kernel
theorem dL_law_802 : decode cL_law 802 = .ok (.iaload, 1) := by decide +kernel
theorem dL_law_803 : decode cL_law 803 = .ok (.aload_n 3, 1) := by decide +kernel
theorem dL_law_804 : decode cL_law 804 = .ok (.invokestatic 124, 3) := by decide +kernel
theorem dL_law_807 : decode cL_law 807 = .ok (.istore 5, 2) := by decide +kernel
theorem dL_law_809 : decode cL_law 809 = .ok (.aload_n 2, 1) := by decide +kernel
theorem dL_law_810 : decode cL_law 810 = .ok (.aload_n 0, 1) := by decide +kernel
theorem dL_law_811 : decode cL_law 811 = .ok (.iload 4, 2) := by decide +kernel
theorem dL_law_813 : decode cL_law 813 = .ok (.iconst 1, 1) := by decide +kernel
theorem dL_law_814 : decode cL_law 814 = .ok (.iadd, 1) := by decide +kernel
theorem dL_law_815 : decode cL_law 815 = .ok (.iaload, 1) := by decide +kernel
theorem dL_law_816 : decode cL_law 816 = .ok (.invokevirtual 126, 3) := by decide +kernel
theorem dL_law_819 : decode cL_law 819 = .ok (.istore 6, 2) := by decide +kernel
theorem dL_law_821 : decode cL_law 821 = .ok (.aload_n 2, 1) := by decide +kernel
theorem dL_law_822 : decode cL_law 822 = .ok (.invokevirtual 93, 3) := by decide +kernel
theorem dL_law_825 : decode cL_law 825 = .ok (.iload 5, 2) := by decide +kernel
theorem dL_law_827 : decode cL_law 827 = .ok (.if_icmp .eq 5, 3) := by decide +kernel
theorem dL_law_830 : decode cL_law 830 = .ok (.iconst 0, 1) := by decide +kernel
theorem dL_law_831 : decode cL_law 831 = .ok (.ireturn, 1) := by decide +kernel
theorem dL_law_832 : decode cL_law 832 = .ok (.iload 5, 2) := by decide +kernel
theorem dL_law_834 : decode cL_law 834 = .ok (.ifCond .ne 22, 3) := by decide +kernel
theorem dL_law_837 : decode cL_law 837 = .ok (.aload_n 3, 1) := by decide +kernel
theorem dL_law_838 : decode cL_law 838 = .ok (.iconst 0, 1) := by decide +kernel
theorem dL_law_839 : decode cL_law 839 = .ok (.laload, 1) := by decide +kernel
theorem dL_law_840 : decode cL_law 840 = .ok (.iload 6, 2) := by decide +kernel
theorem dL_law_842 : decode cL_law 842 = .ok (.ifCond .eq 7, 3) := by decide +kernel
theorem dL_law_845 : decode cL_law 845 = .ok (.lconst 1, 1) := by decide +kernel
theorem dL_law_846 : decode cL_law 846 = .ok (.goto 4, 3) := by decide +kernel
theorem dL_law_849 : decode cL_law 849 = .ok (.lconst 0, 1) := by decide +kernel
theorem dL_law_850 : decode cL_law 850 = .ok (.lcmp, 1) := by decide +kernel
theorem dL_law_851 : decode cL_law 851 = .ok (.ifCond .eq 5, 3) := by decide +kernel
theorem dL_law_854 : decode cL_law 854 = .ok (.iconst 0, 1) := by decide +kernel
theorem dL_law_855 : decode cL_law 855 = .ok (.ireturn, 1) := by decide +kernel
theorem dL_law_856 : decode cL_law 856 = .ok (.goto 716, 3) := by decide +kernel
theorem dL_law_859 : decode cL_law 859 = .ok (.aload_n 1, 1) := by decide +kernel
theorem dL_law_860 : decode cL_law 860 = .ok (.aload_n 0, 1) := by decide +kernel
theorem dL_law_861 : decode cL_law 861 = .ok (.iload 4, 2) := by decide +kernel
theorem dL_law_863 : decode cL_law 863 = .ok (.iconst 1, 1) := by decide +kernel
theorem dL_law_864 : decode cL_law 864 = .ok (.iadd, 1) := by decide +kernel
theorem dL_law_865 : decode cL_law 865 = .ok (.iaload, 1) := by decide +kernel
theorem dL_law_866 : decode cL_law 866 = .ok (.aload_n 0, 1) := by decide +kernel
theorem dL_law_867 : decode cL_law 867 = .ok (.iload 4, 2) := by decide +kernel
theorem dL_law_869 : decode cL_law 869 = .ok (.iconst 2, 1) := by decide +kernel
theorem dL_law_870 : decode cL_law 870 = .ok (.iadd, 1) := by decide +kernel
theorem dL_law_871 : decode cL_law 871 = .ok (.iaload, 1) := by decide +kernel
theorem dL_law_872 : decode cL_law 872 = .ok (.aload_n 3, 1) := by decide +kernel
theorem dL_law_873 : decode cL_law 873 = .ok (.invokestatic 127, 3) := by decide +kernel
theorem dL_law_876 : decode cL_law 876 = .ok (.istore 5, 2) := by decide +kernel
theorem dL_law_878 : decode cL_law 878 = .ok (.aload_n 2, 1) := by decide +kernel
theorem dL_law_879 : decode cL_law 879 = .ok (.aload_n 0, 1) := by decide +kernel
theorem dL_law_880 : decode cL_law 880 = .ok (.iload 4, 2) := by decide +kernel
theorem dL_law_882 : decode cL_law 882 = .ok (.iconst 1, 1) := by decide +kernel
theorem dL_law_883 : decode cL_law 883 = .ok (.iadd, 1) := by decide +kernel
theorem dL_law_884 : decode cL_law 884 = .ok (.iaload, 1) := by decide +kernel
theorem dL_law_885 : decode cL_law 885 = .ok (.aload_n 0, 1) := by decide +kernel
theorem dL_law_886 : decode cL_law 886 = .ok (.iload 4, 2) := by decide +kernel
theorem dL_law_888 : decode cL_law 888 = .ok (.iconst 2, 1) := by decide +kernel
theorem dL_law_889 : decode cL_law 889 = .ok (.iadd, 1) := by decide +kernel
theorem dL_law_890 : decode cL_law 890 = .ok (.iaload, 1) := by decide +kernel
theorem dL_law_891 : decode cL_law 891 = .ok (.invokevirtual 129, 3) := by decide +kernel
theorem dL_law_894 : decode cL_law 894 = .ok (.istore 6, 2) := by decide +kernel
theorem dL_law_896 : decode cL_law 896 = .ok (.aload_n 2, 1) := by decide +kernel
theorem dL_law_897 : decode cL_law 897 = .ok (.invokevirtual 93, 3) := by decide +kernel
theorem dL_law_900 : decode cL_law 900 = .ok (.iload 5, 2) := by decide +kernel
theorem dL_law_902 : decode cL_law 902 = .ok (.if_icmp .eq 5, 3) := by decide +kernel
theorem dL_law_905 : decode cL_law 905 = .ok (.iconst 0, 1) := by decide +kernel
theorem dL_law_906 : decode cL_law 906 = .ok (.ireturn, 1) := by decide +kernel
theorem dL_law_907 : decode cL_law 907 = .ok (.iload 5, 2) := by decide +kernel
theorem dL_law_909 : decode cL_law 909 = .ok (.ifCond .ne 15, 3) := by decide +kernel
theorem dL_law_912 : decode cL_law 912 = .ok (.aload_n 3, 1) := by decide +kernel
theorem dL_law_913 : decode cL_law 913 = .ok (.iconst 0, 1) := by decide +kernel
theorem dL_law_914 : decode cL_law 914 = .ok (.laload, 1) := by decide +kernel
theorem dL_law_915 : decode cL_law 915 = .ok (.iload 6, 2) := by decide +kernel
theorem dL_law_917 : decode cL_law 917 = .ok (.i2l, 1) := by decide +kernel
theorem dL_law_918 : decode cL_law 918 = .ok (.lcmp, 1) := by decide +kernel
theorem dL_law_919 : decode cL_law 919 = .ok (.ifCond .eq 5, 3) := by decide +kernel
theorem dL_law_922 : decode cL_law 922 = .ok (.iconst 0, 1) := by decide +kernel
theorem dL_law_923 : decode cL_law 923 = .ok (.ireturn, 1) := by decide +kernel
theorem dL_law_924 : decode cL_law 924 = .ok (.goto 648, 3) := by decide +kernel
theorem dL_law_927 : decode cL_law 927 = .ok (.aload_n 1, 1) := by decide +kernel
theorem dL_law_928 : decode cL_law 928 = .ok (.aload_n 0, 1) := by decide +kernel
theorem dL_law_929 : decode cL_law 929 = .ok (.iload 4, 2) := by decide +kernel
theorem dL_law_931 : decode cL_law 931 = .ok (.iconst 1, 1) := by decide +kernel
theorem dL_law_932 : decode cL_law 932 = .ok (.iadd, 1) := by decide +kernel
theorem dL_law_933 : decode cL_law 933 = .ok (.iaload, 1) := by decide +kernel
theorem dL_law_934 : decode cL_law 934 = .ok (.aload_n 0, 1) := by decide +kernel
theorem dL_law_935 : decode cL_law 935 = .ok (.iload 4, 2) := by decide +kernel
theorem dL_law_937 : decode cL_law 937 = .ok (.iconst 2, 1) := by decide +kernel
theorem dL_law_938 : decode cL_law 938 = .ok (.iadd, 1) := by decide +kernel
theorem dL_law_939 : decode cL_law 939 = .ok (.iaload, 1) := by decide +kernel
theorem dL_law_940 : decode cL_law 940 = .ok (.aload_n 3, 1) := by decide +kernel
theorem dL_law_941 : decode cL_law 941 = .ok (.invokestatic 130, 3) := by decide +kernel
theorem dL_law_944 : decode cL_law 944 = .ok (.istore 5, 2) := by decide +kernel
theorem dL_law_946 : decode cL_law 946 = .ok (.aload_n 2, 1) := by decide +kernel
theorem dL_law_947 : decode cL_law 947 = .ok (.aload_n 0, 1) := by decide +kernel
theorem dL_law_948 : decode cL_law 948 = .ok (.iload 4, 2) := by decide +kernel
theorem dL_law_950 : decode cL_law 950 = .ok (.iconst 1, 1) := by decide +kernel
theorem dL_law_951 : decode cL_law 951 = .ok (.iadd, 1) := by decide +kernel
theorem dL_law_952 : decode cL_law 952 = .ok (.iaload, 1) := by decide +kernel
theorem dL_law_953 : decode cL_law 953 = .ok (.aload_n 0, 1) := by decide +kernel
theorem dL_law_954 : decode cL_law 954 = .ok (.iload 4, 2) := by decide +kernel
theorem dL_law_956 : decode cL_law 956 = .ok (.iconst 2, 1) := by decide +kernel
theorem dL_law_957 : decode cL_law 957 = .ok (.iadd, 1) := by decide +kernel
theorem dL_law_958 : decode cL_law 958 = .ok (.iaload, 1) := by decide +kernel
theorem dL_law_959 : decode cL_law 959 = .ok (.invokevirtual 132, 3) := by decide +kernel
theorem dL_law_962 : decode cL_law 962 = .ok (.istore 6, 2) := by decide +kernel
theorem dL_law_964 : decode cL_law 964 = .ok (.aload_n 2, 1) := by decide +kernel
theorem dL_law_965 : decode cL_law 965 = .ok (.invokevirtual 93, 3) := by decide +kernel
theorem dL_law_968 : decode cL_law 968 = .ok (.iload 5, 2) := by decide +kernel
theorem dL_law_970 : decode cL_law 970 = .ok (.if_icmp .eq 5, 3) := by decide +kernel
theorem dL_law_973 : decode cL_law 973 = .ok (.iconst 0, 1) := by decide +kernel
theorem dL_law_974 : decode cL_law 974 = .ok (.ireturn, 1) := by decide +kernel
theorem dL_law_975 : decode cL_law 975 = .ok (.iload 5, 2) := by decide +kernel
theorem dL_law_977 : decode cL_law 977 = .ok (.ifCond .ne 15, 3) := by decide +kernel
theorem dL_law_980 : decode cL_law 980 = .ok (.aload_n 3, 1) := by decide +kernel
theorem dL_law_981 : decode cL_law 981 = .ok (.iconst 0, 1) := by decide +kernel
theorem dL_law_982 : decode cL_law 982 = .ok (.laload, 1) := by decide +kernel
theorem dL_law_983 : decode cL_law 983 = .ok (.iload 6, 2) := by decide +kernel
theorem dL_law_985 : decode cL_law 985 = .ok (.i2l, 1) := by decide +kernel
theorem dL_law_986 : decode cL_law 986 = .ok (.lcmp, 1) := by decide +kernel
theorem dL_law_987 : decode cL_law 987 = .ok (.ifCond .eq 5, 3) := by decide +kernel
theorem dL_law_990 : decode cL_law 990 = .ok (.iconst 0, 1) := by decide +kernel
theorem dL_law_991 : decode cL_law 991 = .ok (.ireturn, 1) := by decide +kernel
theorem dL_law_992 : decode cL_law 992 = .ok (.goto 580, 3) := by decide +kernel
theorem dL_law_995 : decode cL_law 995 = .ok (.aload_n 1, 1) := by decide +kernel
theorem dL_law_996 : decode cL_law 996 = .ok (.aload_n 0, 1) := by decide +kernel
theorem dL_law_997 : decode cL_law 997 = .ok (.iload 4, 2) := by decide +kernel
theorem dL_law_999 : decode cL_law 999 = .ok (.iconst 1, 1) := by decide +kernel
theorem dL_law_1000 : decode cL_law 1000 = .ok (.iadd, 1) := by decide +kernel
theorem dL_law_1001 : decode cL_law 1001 = .ok (.iaload, 1) := by decide +kernel
theorem dL_law_1002 : decode cL_law 1002 = .ok (.aload_n 0, 1) := by decide +kernel
theorem dL_law_1003 : decode cL_law 1003 = .ok (.iload 4, 2) := by decide +kernel
theorem dL_law_1005 : decode cL_law 1005 = .ok (.iconst 2, 1) := by decide +kernel
theorem dL_law_1006 : decode cL_law 1006 = .ok (.iadd, 1) := by decide +kernel
theorem dL_law_1007 : decode cL_law 1007 = .ok (.iaload, 1) := by decide +kernel
theorem dL_law_1008 : decode cL_law 1008 = .ok (.aload_n 3, 1) := by decide +kernel
theorem dL_law_1009 : decode cL_law 1009 = .ok (.invokestatic 133, 3) := by decide +kernel
theorem dL_law_1012 : decode cL_law 1012 = .ok (.istore 5, 2) := by decide +kernel
theorem dL_law_1014 : decode cL_law 1014 = .ok (.aload_n 2, 1) := by decide +kernel
theorem dL_law_1015 : decode cL_law 1015 = .ok (.aload_n 0, 1) := by decide +kernel
theorem dL_law_1016 : decode cL_law 1016 = .ok (.iload 4, 2) := by decide +kernel
theorem dL_law_1018 : decode cL_law 1018 = .ok (.iconst 1, 1) := by decide +kernel
theorem dL_law_1019 : decode cL_law 1019 = .ok (.iadd, 1) := by decide +kernel
theorem dL_law_1020 : decode cL_law 1020 = .ok (.iaload, 1) := by decide +kernel
theorem dL_law_1021 : decode cL_law 1021 = .ok (.aload_n 0, 1) := by decide +kernel
theorem dL_law_1022 : decode cL_law 1022 = .ok (.iload 4, 2) := by decide +kernel
theorem dL_law_1024 : decode cL_law 1024 = .ok (.iconst 2, 1) := by decide +kernel
theorem dL_law_1025 : decode cL_law 1025 = .ok (.iadd, 1) := by decide +kernel
theorem dL_law_1026 : decode cL_law 1026 = .ok (.iaload, 1) := by decide +kernel
theorem dL_law_1027 : decode cL_law 1027 = .ok (.invokevirtual 135, 3) := by decide +kernel
theorem dL_law_1030 : decode cL_law 1030 = .ok (.istore 6, 2) := by decide +kernel
theorem dL_law_1032 : decode cL_law 1032 = .ok (.aload_n 2, 1) := by decide +kernel
theorem dL_law_1033 : decode cL_law 1033 = .ok (.invokevirtual 93, 3) := by decide +kernel
theorem dL_law_1036 : decode cL_law 1036 = .ok (.iload 5, 2) := by decide +kernel
theorem dL_law_1038 : decode cL_law 1038 = .ok (.if_icmp .eq 5, 3) := by decide +kernel
theorem dL_law_1041 : decode cL_law 1041 = .ok (.iconst 0, 1) := by decide +kernel
theorem dL_law_1042 : decode cL_law 1042 = .ok (.ireturn, 1) := by decide +kernel
theorem dL_law_1043 : decode cL_law 1043 = .ok (.iload 5, 2) := by decide +kernel
theorem dL_law_1045 : decode cL_law 1045 = .ok (.ifCond .ne 15, 3) := by decide +kernel
theorem dL_law_1048 : decode cL_law 1048 = .ok (.aload_n 3, 1) := by decide +kernel
theorem dL_law_1049 : decode cL_law 1049 = .ok (.iconst 0, 1) := by decide +kernel
theorem dL_law_1050 : decode cL_law 1050 = .ok (.laload, 1) := by decide +kernel
theorem dL_law_1051 : decode cL_law 1051 = .ok (.iload 6, 2) := by decide +kernel
theorem dL_law_1053 : decode cL_law 1053 = .ok (.i2l, 1) := by decide +kernel
theorem dL_law_1054 : decode cL_law 1054 = .ok (.lcmp, 1) := by decide +kernel
theorem dL_law_1055 : decode cL_law 1055 = .ok (.ifCond .eq 5, 3) := by decide +kernel
theorem dL_law_1058 : decode cL_law 1058 = .ok (.iconst 0, 1) := by decide +kernel
theorem dL_law_1059 : decode cL_law 1059 = .ok (.ireturn, 1) := by decide +kernel
theorem dL_law_1060 : decode cL_law 1060 = .ok (.goto 512, 3) := by decide +kernel
theorem dL_law_1063 : decode cL_law 1063 = .ok (.aload_n 1, 1) := by decide +kernel
theorem dL_law_1064 : decode cL_law 1064 = .ok (.aload_n 0, 1) := by decide +kernel
theorem dL_law_1065 : decode cL_law 1065 = .ok (.iload 4, 2) := by decide +kernel
theorem dL_law_1067 : decode cL_law 1067 = .ok (.iconst 1, 1) := by decide +kernel
theorem dL_law_1068 : decode cL_law 1068 = .ok (.iadd, 1) := by decide +kernel
theorem dL_law_1069 : decode cL_law 1069 = .ok (.iaload, 1) := by decide +kernel
theorem dL_law_1070 : decode cL_law 1070 = .ok (.aload_n 3, 1) := by decide +kernel
theorem dL_law_1071 : decode cL_law 1071 = .ok (.invokestatic 136, 3) := by decide +kernel
theorem dL_law_1074 : decode cL_law 1074 = .ok (.istore 5, 2) := by decide +kernel
theorem dL_law_1076 : decode cL_law 1076 = .ok (.aload_n 2, 1) := by decide +kernel
theorem dL_law_1077 : decode cL_law 1077 = .ok (.aload_n 0, 1) := by decide +kernel
theorem dL_law_1078 : decode cL_law 1078 = .ok (.iload 4, 2) := by decide +kernel
theorem dL_law_1080 : decode cL_law 1080 = .ok (.iconst 1, 1) := by decide +kernel
theorem dL_law_1081 : decode cL_law 1081 = .ok (.iadd, 1) := by decide +kernel
theorem dL_law_1082 : decode cL_law 1082 = .ok (.iaload, 1) := by decide +kernel
theorem dL_law_1083 : decode cL_law 1083 = .ok (.invokevirtual 138, 3) := by decide +kernel
theorem dL_law_1086 : decode cL_law 1086 = .ok (.istore 6, 2) := by decide +kernel
theorem dL_law_1088 : decode cL_law 1088 = .ok (.aload_n 2, 1) := by decide +kernel
theorem dL_law_1089 : decode cL_law 1089 = .ok (.invokevirtual 93, 3) := by decide +kernel
theorem dL_law_1092 : decode cL_law 1092 = .ok (.iload 5, 2) := by decide +kernel
theorem dL_law_1094 : decode cL_law 1094 = .ok (.if_icmp .eq 5, 3) := by decide +kernel
theorem dL_law_1097 : decode cL_law 1097 = .ok (.iconst 0, 1) := by decide +kernel
theorem dL_law_1098 : decode cL_law 1098 = .ok (.ireturn, 1) := by decide +kernel
theorem dL_law_1099 : decode cL_law 1099 = .ok (.iload 5, 2) := by decide +kernel
theorem dL_law_1101 : decode cL_law 1101 = .ok (.ifCond .ne 15, 3) := by decide +kernel
theorem dL_law_1104 : decode cL_law 1104 = .ok (.aload_n 3, 1) := by decide +kernel
theorem dL_law_1105 : decode cL_law 1105 = .ok (.iconst 0, 1) := by decide +kernel
theorem dL_law_1106 : decode cL_law 1106 = .ok (.laload, 1) := by decide +kernel
theorem dL_law_1107 : decode cL_law 1107 = .ok (.iload 6, 2) := by decide +kernel
theorem dL_law_1109 : decode cL_law 1109 = .ok (.i2l, 1) := by decide +kernel
theorem dL_law_1110 : decode cL_law 1110 = .ok (.lcmp, 1) := by decide +kernel
theorem dL_law_1111 : decode cL_law 1111 = .ok (.ifCond .eq 5, 3) := by decide +kernel
theorem dL_law_1114 : decode cL_law 1114 = .ok (.iconst 0, 1) := by decide +kernel
theorem dL_law_1115 : decode cL_law 1115 = .ok (.ireturn, 1) := by decide +kernel
theorem dL_law_1116 : decode cL_law 1116 = .ok (.goto 456, 3) := by decide +kernel
theorem dL_law_1119 : decode cL_law 1119 = .ok (.aload_n 1, 1) := by decide +kernel
theorem dL_law_1120 : decode cL_law 1120 = .ok (.aload_n 0, 1) := by decide +kernel
theorem dL_law_1121 : decode cL_law 1121 = .ok (.iload 4, 2) := by decide +kernel
theorem dL_law_1123 : decode cL_law 1123 = .ok (.iconst 1, 1) := by decide +kernel
theorem dL_law_1124 : decode cL_law 1124 = .ok (.iadd, 1) := by decide +kernel
theorem dL_law_1125 : decode cL_law 1125 = .ok (.iaload, 1) := by decide +kernel
theorem dL_law_1126 : decode cL_law 1126 = .ok (.aload_n 3, 1) := by decide +kernel
theorem dL_law_1127 : decode cL_law 1127 = .ok (.invokestatic 139, 3) := by decide +kernel
theorem dL_law_1130 : decode cL_law 1130 = .ok (.istore 5, 2) := by decide +kernel
theorem dL_law_1132 : decode cL_law 1132 = .ok (.aload_n 2, 1) := by decide +kernel
theorem dL_law_1133 : decode cL_law 1133 = .ok (.aload_n 0, 1) := by decide +kernel
theorem dL_law_1134 : decode cL_law 1134 = .ok (.iload 4, 2) := by decide +kernel
theorem dL_law_1136 : decode cL_law 1136 = .ok (.iconst 1, 1) := by decide +kernel
theorem dL_law_1137 : decode cL_law 1137 = .ok (.iadd, 1) := by decide +kernel
theorem dL_law_1138 : decode cL_law 1138 = .ok (.iaload, 1) := by decide +kernel
theorem dL_law_1139 : decode cL_law 1139 = .ok (.invokevirtual 141, 3) := by decide +kernel
theorem dL_law_1142 : decode cL_law 1142 = .ok (.istore 6, 2) := by decide +kernel
theorem dL_law_1144 : decode cL_law 1144 = .ok (.aload_n 2, 1) := by decide +kernel
theorem dL_law_1145 : decode cL_law 1145 = .ok (.invokevirtual 93, 3) := by decide +kernel
theorem dL_law_1148 : decode cL_law 1148 = .ok (.iload 5, 2) := by decide +kernel
theorem dL_law_1150 : decode cL_law 1150 = .ok (.if_icmp .eq 5, 3) := by decide +kernel
theorem dL_law_1153 : decode cL_law 1153 = .ok (.iconst 0, 1) := by decide +kernel
theorem dL_law_1154 : decode cL_law 1154 = .ok (.ireturn, 1) := by decide +kernel
theorem dL_law_1155 : decode cL_law 1155 = .ok (.iload 5, 2) := by decide +kernel
theorem dL_law_1157 : decode cL_law 1157 = .ok (.ifCond .ne 15, 3) := by decide +kernel
theorem dL_law_1160 : decode cL_law 1160 = .ok (.aload_n 3, 1) := by decide +kernel
theorem dL_law_1161 : decode cL_law 1161 = .ok (.iconst 0, 1) := by decide +kernel
theorem dL_law_1162 : decode cL_law 1162 = .ok (.laload, 1) := by decide +kernel
theorem dL_law_1163 : decode cL_law 1163 = .ok (.iload 6, 2) := by decide +kernel
theorem dL_law_1165 : decode cL_law 1165 = .ok (.i2l, 1) := by decide +kernel
theorem dL_law_1166 : decode cL_law 1166 = .ok (.lcmp, 1) := by decide +kernel
theorem dL_law_1167 : decode cL_law 1167 = .ok (.ifCond .eq 5, 3) := by decide +kernel
theorem dL_law_1170 : decode cL_law 1170 = .ok (.iconst 0, 1) := by decide +kernel
theorem dL_law_1171 : decode cL_law 1171 = .ok (.ireturn, 1) := by decide +kernel
theorem dL_law_1172 : decode cL_law 1172 = .ok (.goto 400, 3) := by decide +kernel
theorem dL_law_1175 : decode cL_law 1175 = .ok (.aload_n 1, 1) := by decide +kernel
theorem dL_law_1176 : decode cL_law 1176 = .ok (.aload_n 0, 1) := by decide +kernel
theorem dL_law_1177 : decode cL_law 1177 = .ok (.iload 4, 2) := by decide +kernel
theorem dL_law_1179 : decode cL_law 1179 = .ok (.iconst 1, 1) := by decide +kernel
theorem dL_law_1180 : decode cL_law 1180 = .ok (.iadd, 1) := by decide +kernel
theorem dL_law_1181 : decode cL_law 1181 = .ok (.iaload, 1) := by decide +kernel
theorem dL_law_1182 : decode cL_law 1182 = .ok (.aload_n 0, 1) := by decide +kernel
theorem dL_law_1183 : decode cL_law 1183 = .ok (.iload 4, 2) := by decide +kernel
theorem dL_law_1185 : decode cL_law 1185 = .ok (.iconst 2, 1) := by decide +kernel
theorem dL_law_1186 : decode cL_law 1186 = .ok (.iadd, 1) := by decide +kernel
theorem dL_law_1187 : decode cL_law 1187 = .ok (.iaload, 1) := by decide +kernel
theorem dL_law_1188 : decode cL_law 1188 = .ok (.aload_n 3, 1) := by decide +kernel
theorem dL_law_1189 : decode cL_law 1189 = .ok (.invokestatic 142, 3) := by decide +kernel
theorem dL_law_1192 : decode cL_law 1192 = .ok (.istore 5, 2) := by decide +kernel
theorem dL_law_1194 : decode cL_law 1194 = .ok (.aload_n 2, 1) := by decide +kernel
theorem dL_law_1195 : decode cL_law 1195 = .ok (.aload_n 0, 1) := by decide +kernel
theorem dL_law_1196 : decode cL_law 1196 = .ok (.iload 4, 2) := by decide +kernel
theorem dL_law_1198 : decode cL_law 1198 = .ok (.iconst 1, 1) := by decide +kernel
theorem dL_law_1199 : decode cL_law 1199 = .ok (.iadd, 1) := by decide +kernel
theorem dL_law_1200 : decode cL_law 1200 = .ok (.iaload, 1) := by decide +kernel
theorem dL_law_1201 : decode cL_law 1201 = .ok (.aload_n 0, 1) := by decide +kernel
theorem dL_law_1202 : decode cL_law 1202 = .ok (.iload 4, 2) := by decide +kernel
theorem dL_law_1204 : decode cL_law 1204 = .ok (.iconst 2, 1) := by decide +kernel
theorem dL_law_1205 : decode cL_law 1205 = .ok (.iadd, 1) := by decide +kernel
theorem dL_law_1206 : decode cL_law 1206 = .ok (.iaload, 1) := by decide +kernel
theorem dL_law_1207 : decode cL_law 1207 = .ok (.invokevirtual 144, 3) := by decide +kernel
theorem dL_law_1210 : decode cL_law 1210 = .ok (.istore 6, 2) := by decide +kernel
theorem dL_law_1212 : decode cL_law 1212 = .ok (.aload_n 2, 1) := by decide +kernel
theorem dL_law_1213 : decode cL_law 1213 = .ok (.invokevirtual 93, 3) := by decide +kernel
theorem dL_law_1216 : decode cL_law 1216 = .ok (.iload 5, 2) := by decide +kernel
theorem dL_law_1218 : decode cL_law 1218 = .ok (.if_icmp .eq 5, 3) := by decide +kernel
theorem dL_law_1221 : decode cL_law 1221 = .ok (.iconst 0, 1) := by decide +kernel
theorem dL_law_1222 : decode cL_law 1222 = .ok (.ireturn, 1) := by decide +kernel
theorem dL_law_1223 : decode cL_law 1223 = .ok (.iload 5, 2) := by decide +kernel
theorem dL_law_1225 : decode cL_law 1225 = .ok (.ifCond .ne 15, 3) := by decide +kernel
theorem dL_law_1228 : decode cL_law 1228 = .ok (.aload_n 3, 1) := by decide +kernel
theorem dL_law_1229 : decode cL_law 1229 = .ok (.iconst 0, 1) := by decide +kernel
theorem dL_law_1230 : decode cL_law 1230 = .ok (.laload, 1) := by decide +kernel
theorem dL_law_1231 : decode cL_law 1231 = .ok (.iload 6, 2) := by decide +kernel
theorem dL_law_1233 : decode cL_law 1233 = .ok (.i2l, 1) := by decide +kernel
theorem dL_law_1234 : decode cL_law 1234 = .ok (.lcmp, 1) := by decide +kernel
theorem dL_law_1235 : decode cL_law 1235 = .ok (.ifCond .eq 5, 3) := by decide +kernel
theorem dL_law_1238 : decode cL_law 1238 = .ok (.iconst 0, 1) := by decide +kernel
theorem dL_law_1239 : decode cL_law 1239 = .ok (.ireturn, 1) := by decide +kernel
theorem dL_law_1240 : decode cL_law 1240 = .ok (.goto 332, 3) := by decide +kernel
theorem dL_law_1243 : decode cL_law 1243 = .ok (.aload_n 1, 1) := by decide +kernel
theorem dL_law_1244 : decode cL_law 1244 = .ok (.aload_n 0, 1) := by decide +kernel
theorem dL_law_1245 : decode cL_law 1245 = .ok (.iload 4, 2) := by decide +kernel
theorem dL_law_1247 : decode cL_law 1247 = .ok (.iconst 1, 1) := by decide +kernel
theorem dL_law_1248 : decode cL_law 1248 = .ok (.iadd, 1) := by decide +kernel
theorem dL_law_1249 : decode cL_law 1249 = .ok (.iaload, 1) := by decide +kernel
theorem dL_law_1250 : decode cL_law 1250 = .ok (.aload_n 3, 1) := by decide +kernel
theorem dL_law_1251 : decode cL_law 1251 = .ok (.invokestatic 145, 3) := by decide +kernel
theorem dL_law_1254 : decode cL_law 1254 = .ok (.istore 5, 2) := by decide +kernel
theorem dL_law_1256 : decode cL_law 1256 = .ok (.aload_n 2, 1) := by decide +kernel
theorem dL_law_1257 : decode cL_law 1257 = .ok (.aload_n 0, 1) := by decide +kernel
theorem dL_law_1258 : decode cL_law 1258 = .ok (.iload 4, 2) := by decide +kernel
theorem dL_law_1260 : decode cL_law 1260 = .ok (.iconst 1, 1) := by decide +kernel
theorem dL_law_1261 : decode cL_law 1261 = .ok (.iadd, 1) := by decide +kernel
theorem dL_law_1262 : decode cL_law 1262 = .ok (.iaload, 1) := by decide +kernel
theorem dL_law_1263 : decode cL_law 1263 = .ok (.invokevirtual 147, 3) := by decide +kernel
theorem dL_law_1266 : decode cL_law 1266 = .ok (.istore 6, 2) := by decide +kernel
theorem dL_law_1268 : decode cL_law 1268 = .ok (.aload_n 2, 1) := by decide +kernel
theorem dL_law_1269 : decode cL_law 1269 = .ok (.invokevirtual 93, 3) := by decide +kernel
theorem dL_law_1272 : decode cL_law 1272 = .ok (.iload 5, 2) := by decide +kernel
theorem dL_law_1274 : decode cL_law 1274 = .ok (.if_icmp .eq 5, 3) := by decide +kernel
theorem dL_law_1277 : decode cL_law 1277 = .ok (.iconst 0, 1) := by decide +kernel
theorem dL_law_1278 : decode cL_law 1278 = .ok (.ireturn, 1) := by decide +kernel
theorem dL_law_1279 : decode cL_law 1279 = .ok (.iload 5, 2) := by decide +kernel
theorem dL_law_1281 : decode cL_law 1281 = .ok (.ifCond .ne 15, 3) := by decide +kernel
theorem dL_law_1284 : decode cL_law 1284 = .ok (.aload_n 3, 1) := by decide +kernel
theorem dL_law_1285 : decode cL_law 1285 = .ok (.iconst 0, 1) := by decide +kernel
theorem dL_law_1286 : decode cL_law 1286 = .ok (.laload, 1) := by decide +kernel
theorem dL_law_1287 : decode cL_law 1287 = .ok (.iload 6, 2) := by decide +kernel
theorem dL_law_1289 : decode cL_law 1289 = .ok (.i2l, 1) := by decide +kernel
theorem dL_law_1290 : decode cL_law 1290 = .ok (.lcmp, 1) := by decide +kernel
theorem dL_law_1291 : decode cL_law 1291 = .ok (.ifCond .eq 5, 3) := by decide +kernel
theorem dL_law_1294 : decode cL_law 1294 = .ok (.iconst 0, 1) := by decide +kernel
theorem dL_law_1295 : decode cL_law 1295 = .ok (.ireturn, 1) := by decide +kernel
theorem dL_law_1296 : decode cL_law 1296 = .ok (.goto 276, 3) := by decide +kernel
theorem dL_law_1299 : decode cL_law 1299 = .ok (.aload_n 1, 1) := by decide +kernel
theorem dL_law_1300 : decode cL_law 1300 = .ok (.aload_n 0, 1) := by decide +kernel
theorem dL_law_1301 : decode cL_law 1301 = .ok (.iload 4, 2) := by decide +kernel
theorem dL_law_1303 : decode cL_law 1303 = .ok (.iconst 1, 1) := by decide +kernel
theorem dL_law_1304 : decode cL_law 1304 = .ok (.iadd, 1) := by decide +kernel
theorem dL_law_1305 : decode cL_law 1305 = .ok (.iaload, 1) := by decide +kernel
theorem dL_law_1306 : decode cL_law 1306 = .ok (.aload_n 0, 1) := by decide +kernel
theorem dL_law_1307 : decode cL_law 1307 = .ok (.iload 4, 2) := by decide +kernel
theorem dL_law_1309 : decode cL_law 1309 = .ok (.iconst 2, 1) := by decide +kernel
theorem dL_law_1310 : decode cL_law 1310 = .ok (.iadd, 1) := by decide +kernel
theorem dL_law_1311 : decode cL_law 1311 = .ok (.iaload, 1) := by decide +kernel
theorem dL_law_1312 : decode cL_law 1312 = .ok (.aload_n 3, 1) := by decide +kernel
theorem dL_law_1313 : decode cL_law 1313 = .ok (.invokestatic 148, 3) := by decide +kernel
theorem dL_law_1316 : decode cL_law 1316 = .ok (.istore 5, 2) := by decide +kernel
theorem dL_law_1318 : decode cL_law 1318 = .ok (.aload_n 2, 1) := by decide +kernel
theorem dL_law_1319 : decode cL_law 1319 = .ok (.aload_n 0, 1) := by decide +kernel
theorem dL_law_1320 : decode cL_law 1320 = .ok (.iload 4, 2) := by decide +kernel
theorem dL_law_1322 : decode cL_law 1322 = .ok (.iconst 1, 1) := by decide +kernel
theorem dL_law_1323 : decode cL_law 1323 = .ok (.iadd, 1) := by decide +kernel
theorem dL_law_1324 : decode cL_law 1324 = .ok (.iaload, 1) := by decide +kernel
theorem dL_law_1325 : decode cL_law 1325 = .ok (.aload_n 0, 1) := by decide +kernel
theorem dL_law_1326 : decode cL_law 1326 = .ok (.iload 4, 2) := by decide +kernel
theorem dL_law_1328 : decode cL_law 1328 = .ok (.iconst 2, 1) := by decide +kernel
theorem dL_law_1329 : decode cL_law 1329 = .ok (.iadd, 1) := by decide +kernel
theorem dL_law_1330 : decode cL_law 1330 = .ok (.iaload, 1) := by decide +kernel
theorem dL_law_1331 : decode cL_law 1331 = .ok (.invokevirtual 150, 3) := by decide +kernel
theorem dL_law_1334 : decode cL_law 1334 = .ok (.istore 6, 2) := by decide +kernel
theorem dL_law_1336 : decode cL_law 1336 = .ok (.aload_n 2, 1) := by decide +kernel
theorem dL_law_1337 : decode cL_law 1337 = .ok (.invokevirtual 93, 3) := by decide +kernel
theorem dL_law_1340 : decode cL_law 1340 = .ok (.iload 5, 2) := by decide +kernel
theorem dL_law_1342 : decode cL_law 1342 = .ok (.if_icmp .eq 5, 3) := by decide +kernel
theorem dL_law_1345 : decode cL_law 1345 = .ok (.iconst 0, 1) := by decide +kernel
theorem dL_law_1346 : decode cL_law 1346 = .ok (.ireturn, 1) := by decide +kernel
theorem dL_law_1347 : decode cL_law 1347 = .ok (.iload 5, 2) := by decide +kernel
theorem dL_law_1349 : decode cL_law 1349 = .ok (.ifCond .ne 15, 3) := by decide +kernel
theorem dL_law_1352 : decode cL_law 1352 = .ok (.aload_n 3, 1) := by decide +kernel
theorem dL_law_1353 : decode cL_law 1353 = .ok (.iconst 0, 1) := by decide +kernel
theorem dL_law_1354 : decode cL_law 1354 = .ok (.laload, 1) := by decide +kernel
theorem dL_law_1355 : decode cL_law 1355 = .ok (.iload 6, 2) := by decide +kernel
theorem dL_law_1357 : decode cL_law 1357 = .ok (.i2l, 1) := by decide +kernel
theorem dL_law_1358 : decode cL_law 1358 = .ok (.lcmp, 1) := by decide +kernel
theorem dL_law_1359 : decode cL_law 1359 = .ok (.ifCond .eq 5, 3) := by decide +kernel
theorem dL_law_1362 : decode cL_law 1362 = .ok (.iconst 0, 1) := by decide +kernel
theorem dL_law_1363 : decode cL_law 1363 = .ok (.ireturn, 1) := by decide +kernel
theorem dL_law_1364 : decode cL_law 1364 = .ok (.goto 208, 3) := by decide +kernel
theorem dL_law_1367 : decode cL_law 1367 = .ok (.aload_n 1, 1) := by decide +kernel
theorem dL_law_1368 : decode cL_law 1368 = .ok (.aload_n 0, 1) := by decide +kernel
theorem dL_law_1369 : decode cL_law 1369 = .ok (.iload 4, 2) := by decide +kernel
theorem dL_law_1371 : decode cL_law 1371 = .ok (.iconst 1, 1) := by decide +kernel
theorem dL_law_1372 : decode cL_law 1372 = .ok (.iadd, 1) := by decide +kernel
theorem dL_law_1373 : decode cL_law 1373 = .ok (.iaload, 1) := by decide +kernel
theorem dL_law_1374 : decode cL_law 1374 = .ok (.aload_n 0, 1) := by decide +kernel
theorem dL_law_1375 : decode cL_law 1375 = .ok (.iload 4, 2) := by decide +kernel
theorem dL_law_1377 : decode cL_law 1377 = .ok (.iconst 2, 1) := by decide +kernel
theorem dL_law_1378 : decode cL_law 1378 = .ok (.iadd, 1) := by decide +kernel
theorem dL_law_1379 : decode cL_law 1379 = .ok (.iaload, 1) := by decide +kernel
theorem dL_law_1380 : decode cL_law 1380 = .ok (.aload_n 3, 1) := by decide +kernel
theorem dL_law_1381 : decode cL_law 1381 = .ok (.invokestatic 151, 3) := by decide +kernel
theorem dL_law_1384 : decode cL_law 1384 = .ok (.istore 5, 2) := by decide +kernel
theorem dL_law_1386 : decode cL_law 1386 = .ok (.aload_n 2, 1) := by decide +kernel
theorem dL_law_1387 : decode cL_law 1387 = .ok (.aload_n 0, 1) := by decide +kernel
theorem dL_law_1388 : decode cL_law 1388 = .ok (.iload 4, 2) := by decide +kernel
theorem dL_law_1390 : decode cL_law 1390 = .ok (.iconst 1, 1) := by decide +kernel
theorem dL_law_1391 : decode cL_law 1391 = .ok (.iadd, 1) := by decide +kernel
theorem dL_law_1392 : decode cL_law 1392 = .ok (.iaload, 1) := by decide +kernel
theorem dL_law_1393 : decode cL_law 1393 = .ok (.aload_n 0, 1) := by decide +kernel
theorem dL_law_1394 : decode cL_law 1394 = .ok (.iload 4, 2) := by decide +kernel
theorem dL_law_1396 : decode cL_law 1396 = .ok (.iconst 2, 1) := by decide +kernel
theorem dL_law_1397 : decode cL_law 1397 = .ok (.iadd, 1) := by decide +kernel
theorem dL_law_1398 : decode cL_law 1398 = .ok (.iaload, 1) := by decide +kernel
theorem dL_law_1399 : decode cL_law 1399 = .ok (.invokevirtual 153, 3) := by decide +kernel
theorem dL_law_1402 : decode cL_law 1402 = .ok (.istore 6, 2) := by decide +kernel
theorem dL_law_1404 : decode cL_law 1404 = .ok (.aload_n 2, 1) := by decide +kernel
theorem dL_law_1405 : decode cL_law 1405 = .ok (.invokevirtual 93, 3) := by decide +kernel
theorem dL_law_1408 : decode cL_law 1408 = .ok (.iload 5, 2) := by decide +kernel
theorem dL_law_1410 : decode cL_law 1410 = .ok (.if_icmp .eq 5, 3) := by decide +kernel
theorem dL_law_1413 : decode cL_law 1413 = .ok (.iconst 0, 1) := by decide +kernel
theorem dL_law_1414 : decode cL_law 1414 = .ok (.ireturn, 1) := by decide +kernel
theorem dL_law_1415 : decode cL_law 1415 = .ok (.iload 5, 2) := by decide +kernel
theorem dL_law_1417 : decode cL_law 1417 = .ok (.ifCond .ne 15, 3) := by decide +kernel
theorem dL_law_1420 : decode cL_law 1420 = .ok (.aload_n 3, 1) := by decide +kernel
theorem dL_law_1421 : decode cL_law 1421 = .ok (.iconst 0, 1) := by decide +kernel
theorem dL_law_1422 : decode cL_law 1422 = .ok (.laload, 1) := by decide +kernel
theorem dL_law_1423 : decode cL_law 1423 = .ok (.iload 6, 2) := by decide +kernel
theorem dL_law_1425 : decode cL_law 1425 = .ok (.i2l, 1) := by decide +kernel
theorem dL_law_1426 : decode cL_law 1426 = .ok (.lcmp, 1) := by decide +kernel
theorem dL_law_1427 : decode cL_law 1427 = .ok (.ifCond .eq 5, 3) := by decide +kernel
theorem dL_law_1430 : decode cL_law 1430 = .ok (.iconst 0, 1) := by decide +kernel
theorem dL_law_1431 : decode cL_law 1431 = .ok (.ireturn, 1) := by decide +kernel
theorem dL_law_1432 : decode cL_law 1432 = .ok (.goto 140, 3) := by decide +kernel
theorem dL_law_1435 : decode cL_law 1435 = .ok (.aload_n 1, 1) := by decide +kernel
theorem dL_law_1436 : decode cL_law 1436 = .ok (.aload_n 0, 1) := by decide +kernel
theorem dL_law_1437 : decode cL_law 1437 = .ok (.iload 4, 2) := by decide +kernel
theorem dL_law_1439 : decode cL_law 1439 = .ok (.iconst 1, 1) := by decide +kernel
theorem dL_law_1440 : decode cL_law 1440 = .ok (.iadd, 1) := by decide +kernel
theorem dL_law_1441 : decode cL_law 1441 = .ok (.iaload, 1) := by decide +kernel
theorem dL_law_1442 : decode cL_law 1442 = .ok (.aload_n 3, 1) := by decide +kernel
theorem dL_law_1443 : decode cL_law 1443 = .ok (.invokestatic 154, 3) := by decide +kernel
theorem dL_law_1446 : decode cL_law 1446 = .ok (.istore 5, 2) := by decide +kernel
theorem dL_law_1448 : decode cL_law 1448 = .ok (.aload_n 2, 1) := by decide +kernel
theorem dL_law_1449 : decode cL_law 1449 = .ok (.aload_n 0, 1) := by decide +kernel
theorem dL_law_1450 : decode cL_law 1450 = .ok (.iload 4, 2) := by decide +kernel
theorem dL_law_1452 : decode cL_law 1452 = .ok (.iconst 1, 1) := by decide +kernel
theorem dL_law_1453 : decode cL_law 1453 = .ok (.iadd, 1) := by decide +kernel
theorem dL_law_1454 : decode cL_law 1454 = .ok (.iaload, 1) := by decide +kernel
theorem dL_law_1455 : decode cL_law 1455 = .ok (.invokevirtual 156, 3) := by decide +kernel
theorem dL_law_1458 : decode cL_law 1458 = .ok (.istore 6, 2) := by decide +kernel
theorem dL_law_1460 : decode cL_law 1460 = .ok (.aload_n 2, 1) := by decide +kernel
theorem dL_law_1461 : decode cL_law 1461 = .ok (.invokevirtual 93, 3) := by decide +kernel
theorem dL_law_1464 : decode cL_law 1464 = .ok (.iload 5, 2) := by decide +kernel
theorem dL_law_1466 : decode cL_law 1466 = .ok (.if_icmp .eq 5, 3) := by decide +kernel
theorem dL_law_1469 : decode cL_law 1469 = .ok (.iconst 0, 1) := by decide +kernel
theorem dL_law_1470 : decode cL_law 1470 = .ok (.ireturn, 1) := by decide +kernel
theorem dL_law_1471 : decode cL_law 1471 = .ok (.iload 5, 2) := by decide +kernel
theorem dL_law_1473 : decode cL_law 1473 = .ok (.ifCond .ne 15, 3) := by decide +kernel
theorem dL_law_1476 : decode cL_law 1476 = .ok (.aload_n 3, 1) := by decide +kernel
theorem dL_law_1477 : decode cL_law 1477 = .ok (.iconst 0, 1) := by decide +kernel
theorem dL_law_1478 : decode cL_law 1478 = .ok (.laload, 1) := by decide +kernel
theorem dL_law_1479 : decode cL_law 1479 = .ok (.iload 6, 2) := by decide +kernel
theorem dL_law_1481 : decode cL_law 1481 = .ok (.i2l, 1) := by decide +kernel
theorem dL_law_1482 : decode cL_law 1482 = .ok (.lcmp, 1) := by decide +kernel
theorem dL_law_1483 : decode cL_law 1483 = .ok (.ifCond .eq 5, 3) := by decide +kernel
theorem dL_law_1486 : decode cL_law 1486 = .ok (.iconst 0, 1) := by decide +kernel
theorem dL_law_1487 : decode cL_law 1487 = .ok (.ireturn, 1) := by decide +kernel
theorem dL_law_1488 : decode cL_law 1488 = .ok (.goto 84, 3) := by decide +kernel
theorem dL_law_1491 : decode cL_law 1491 = .ok (.aload_n 1, 1) := by decide +kernel
theorem dL_law_1492 : decode cL_law 1492 = .ok (.invokevirtual 157, 3) := by decide +kernel
theorem dL_law_1495 : decode cL_law 1495 = .ok (.aload_n 2, 1) := by decide +kernel
theorem dL_law_1496 : decode cL_law 1496 = .ok (.invokevirtual 160, 3) := by decide +kernel
theorem dL_law_1499 : decode cL_law 1499 = .ok (.if_icmp .eq 73, 3) := by decide +kernel
theorem dL_law_1502 : decode cL_law 1502 = .ok (.iconst 0, 1) := by decide +kernel
theorem dL_law_1503 : decode cL_law 1503 = .ok (.ireturn, 1) := by decide +kernel
theorem dL_law_1504 : decode cL_law 1504 = .ok (.aload_n 1, 1) := by decide +kernel
theorem dL_law_1505 : decode cL_law 1505 = .ok (.aload_n 0, 1) := by decide +kernel
theorem dL_law_1506 : decode cL_law 1506 = .ok (.iload 4, 2) := by decide +kernel
theorem dL_law_1508 : decode cL_law 1508 = .ok (.iconst 1, 1) := by decide +kernel
theorem dL_law_1509 : decode cL_law 1509 = .ok (.iadd, 1) := by decide +kernel
theorem dL_law_1510 : decode cL_law 1510 = .ok (.iaload, 1) := by decide +kernel
theorem dL_law_1511 : decode cL_law 1511 = .ok (.aload_n 0, 1) := by decide +kernel
theorem dL_law_1512 : decode cL_law 1512 = .ok (.iload 4, 2) := by decide +kernel
theorem dL_law_1514 : decode cL_law 1514 = .ok (.iconst 2, 1) := by decide +kernel
theorem dL_law_1515 : decode cL_law 1515 = .ok (.iadd, 1) := by decide +kernel
theorem dL_law_1516 : decode cL_law 1516 = .ok (.iaload, 1) := by decide +kernel
theorem dL_law_1517 : decode cL_law 1517 = .ok (.aload_n 3, 1) := by decide +kernel
theorem dL_law_1518 : decode cL_law 1518 = .ok (.invokestatic 161, 3) := by decide +kernel
theorem dL_law_1521 : decode cL_law 1521 = .ok (.istore 5, 2) := by decide +kernel
theorem dL_law_1523 : decode cL_law 1523 = .ok (.aload_n 2, 1) := by decide +kernel
theorem dL_law_1524 : decode cL_law 1524 = .ok (.aload_n 0, 1) := by decide +kernel
theorem dL_law_1525 : decode cL_law 1525 = .ok (.iload 4, 2) := by decide +kernel
theorem dL_law_1527 : decode cL_law 1527 = .ok (.iconst 1, 1) := by decide +kernel
theorem dL_law_1528 : decode cL_law 1528 = .ok (.iadd, 1) := by decide +kernel
theorem dL_law_1529 : decode cL_law 1529 = .ok (.iaload, 1) := by decide +kernel
theorem dL_law_1530 : decode cL_law 1530 = .ok (.aload_n 0, 1) := by decide +kernel
theorem dL_law_1531 : decode cL_law 1531 = .ok (.iload 4, 2) := by decide +kernel
theorem dL_law_1533 : decode cL_law 1533 = .ok (.iconst 2, 1) := by decide +kernel
theorem dL_law_1534 : decode cL_law 1534 = .ok (.iadd, 1) := by decide +kernel
theorem dL_law_1535 : decode cL_law 1535 = .ok (.iaload, 1) := by decide +kernel
theorem dL_law_1536 : decode cL_law 1536 = .ok (.invokevirtual 163, 3) := by decide +kernel
theorem dL_law_1539 : decode cL_law 1539 = .ok (.istore 6, 2) := by decide +kernel
theorem dL_law_1541 : decode cL_law 1541 = .ok (.aload_n 2, 1) := by decide +kernel
theorem dL_law_1542 : decode cL_law 1542 = .ok (.invokevirtual 93, 3) := by decide +kernel
theorem dL_law_1545 : decode cL_law 1545 = .ok (.iload 5, 2) := by decide +kernel
theorem dL_law_1547 : decode cL_law 1547 = .ok (.if_icmp .eq 5, 3) := by decide +kernel
theorem dL_law_1550 : decode cL_law 1550 = .ok (.iconst 0, 1) := by decide +kernel
theorem dL_law_1551 : decode cL_law 1551 = .ok (.ireturn, 1) := by decide +kernel
theorem dL_law_1552 : decode cL_law 1552 = .ok (.iload 5, 2) := by decide +kernel
theorem dL_law_1554 : decode cL_law 1554 = .ok (.ifCond .ne 15, 3) := by decide +kernel
theorem dL_law_1557 : decode cL_law 1557 = .ok (.aload_n 3, 1) := by decide +kernel
theorem dL_law_1558 : decode cL_law 1558 = .ok (.iconst 0, 1) := by decide +kernel
theorem dL_law_1559 : decode cL_law 1559 = .ok (.laload, 1) := by decide +kernel
theorem dL_law_1560 : decode cL_law 1560 = .ok (.iload 6, 2) := by decide +kernel
theorem dL_law_1562 : decode cL_law 1562 = .ok (.i2l, 1) := by decide +kernel
theorem dL_law_1563 : decode cL_law 1563 = .ok (.lcmp, 1) := by decide +kernel
theorem dL_law_1564 : decode cL_law 1564 = .ok (.ifCond .eq 5, 3) := by decide +kernel
theorem dL_law_1567 : decode cL_law 1567 = .ok (.iconst 0, 1) := by decide +kernel
theorem dL_law_1568 : decode cL_law 1568 = .ok (.ireturn, 1) := by decide +kernel
theorem dL_law_1569 : decode cL_law 1569 = .ok (.goto 3, 3) := by decide +kernel
theorem dL_law_1572 : decode cL_law 1572 = .ok (.iinc 4 6, 3) := by decide +kernel
theorem dL_law_1575 : decode cL_law 1575 = .ok (.goto (-1552), 3) := by decide +kernel
theorem dL_law_1578 : decode cL_law 1578 = .ok (.iconst 1, 1) := by decide +kernel
theorem dL_law_1579 : decode cL_law 1579 = .ok (.ireturn, 1) := by decide +kernel
end
section
/-! ===== the words: all good words of the tables ===== -/
def ag_tbl : List Cond := lw_tbl.filter goodWord
theorem ag_q {w : Cond} (i : Nat) (h : tables_1[i]? = some w) (g : goodWord w = true) : w ∈ ag_tbl := List.mem_filter.mpr ⟨List.mem_append_right _ (List.mem_of_getElem? h), g⟩
theorem ag_qs {w : Cond} (i : Nat) (h : (k2_sels lw_privs)[i]? = some w) (g : goodWord w = true) : w ∈ ag_tbl := List.mem_filter.mpr ⟨List.mem_append_left _ (List.mem_of_getElem? h), g⟩
theorem ag_in {ws : List Cond} (ps : List Nat) (hp : ps.filterMap (fun i => tables_1[i]?) = ws) (h : ws.all goodWord = true) : ∀ w ∈ ws, w ∈ ag_tbl := by
  intro w hw
  have h1 := List.all_eq_true.mp h w hw
  rw [← hp] at hw
  obtain ⟨i, -, hi⟩ := List.mem_filterMap.mp hw
  exact ag_q i hi h1
theorem ag_good {w : Cond} (h : w ∈ ag_tbl) : goodWord w = true := (List.mem_filter.mp h).2
theorem ag_goodIn {ws : List Cond} (h : ∀ w ∈ ws, w ∈ ag_tbl) : GoodIn ag_tbl ws := fun w hw => ⟨h w hw, good_of_word (ag_good (h w hw))⟩
abbrev ag_ws (y : MethodName) (c : ByteArray) (maxL : Nat) (ret : Option FieldType) : List Cond := Cond.code y c maxL ret :: ag_tbl
abbrev ag_wsH (y : MethodName) (c : ByteArray) (maxL : Nat) (ret : Option FieldType) (hh : List (Nat × Nat × Nat × Nat)) : List Cond := Cond.codeWith y c maxL ret hh :: ag_tbl
theorem ag_gV {own C : String} {idx maxL : Nat} {y : MethodName} {bytes : ByteArray} {ret : Option FieldType} (h1 : Cond.methodLink own idx y ∈ ag_tbl) (h2 : Cond.instanceMethod y ∈ ag_tbl) (h3 : Cond.selects C y y ∈ ag_tbl) (h4 : Cond.initialized C ∈ ag_tbl) (h5 : Cond.code y bytes maxL ret ∈ ag_tbl) : GoodIn ag_tbl (wsV own idx C y (ag_ws y bytes maxL ret)) := by
  refine ag_goodIn fun w hw => ?_
  simp only [wsV, ag_ws, List.cons_append, List.nil_append, List.mem_cons] at hw
  rcases hw with rfl | rfl | rfl | rfl | rfl | hw
  · exact h1
  · exact h2
  · exact h3
  · exact h4
  · exact h5
  · exact hw
theorem ag_gS {own : String} {idx maxL : Nat} {y : MethodName} {bytes : ByteArray} {ret : Option FieldType} (h1 : Cond.methodLink own idx y ∈ ag_tbl) (h2 : Cond.static y ∈ ag_tbl) (h4 : Cond.initialized y.cls ∈ ag_tbl) (h5 : Cond.code y bytes maxL ret ∈ ag_tbl) : GoodIn ag_tbl (va_wsS own idx y (ag_ws y bytes maxL ret)) := by
  refine ag_goodIn fun w hw => ?_
  simp only [va_wsS, ag_ws, List.cons_append, List.nil_append, List.mem_cons] at hw
  rcases hw with rfl | rfl | rfl | rfl | hw
  · exact h1
  · exact h2
  · exact h4
  · exact h5
  · exact hw
theorem ag_gI {maxL : Nat} {y : MethodName} {bytes : ByteArray} {ret : Option FieldType} (h5 : Cond.code y bytes maxL ret ∈ ag_tbl) : GoodIn ag_tbl (ag_ws y bytes maxL ret) := by
  refine ag_goodIn fun w hw => ?_
  rcases List.mem_cons.mp hw with rfl | hw
  · exact h5
  · exact hw
/-! ===== the state, and what a cell holds =====
kinds: 0 Source, 1 Receiver, 2 Line, 3 Amendment, 4 Grant, 5 Amendgrant, 6 AmendgrantModel, 8 the law's long[1],
10..14 the lists, 15 an Amendgrant that is being made, 16 an AmendgrantModel that is being made, 20..24 the lists' arrays, 30 + f: the array in the reference's field f; 80..84: the lengths of the lists' arrays
A field's sort: (0, _) an int, (1, t) a reference to an object of kind t, by its code, (2, t) always the object 0 of kind t. -/
abbrev ag_Z : Type := va_G × (Nat → ClassId) × Nat × Nat
abbrev ag_S : Type := Nat → Nat → Int32 → Int32
abbrev ag_N : Type := Nat → Nat
abbrev ag_P : Type := Nat → Int32 → Nat
def ag_up (s : ag_S) (k f : Nat) (i v : Int32) : ag_S := fun k' f' i' => if k' = k ∧ f' = f ∧ i' = i then v else s k' f' i'
def ag_od (k : Nat) : Option (Nat × List (Nat × Nat)) := match k with
  | 0 => some (5, [(0, 0), (0, 0), (0, 0)])
  | 1 => some (4, [(0, 0), (0, 0)])
  | 2 => some (3, [(0, 0), (1, 0), (0, 0), (0, 0), (0, 0), (0, 0), (0, 0)])
  | 3 => some (1, [(0, 0), (1, 3), (1, 2), (0, 0), (0, 0), (0, 0), (0, 0), (0, 0), (0, 0), (0, 0)])
  | 4 => some (2, [(1, 2), (1, 1), (1, 3), (0, 0), (0, 0), (0, 0), (0, 0), (0, 0)])
  | 5 => some (6, [(2, 10), (2, 11), (2, 12), (2, 13), (2, 14), (0, 0), (0, 0), (0, 0)])
  | 6 => some (7, [(0, 0), (0, 0), (0, 0), (0, 0), (2, 34), (2, 35), (2, 36), (0, 0), (2, 38), (2, 39), (2, 40), (2, 41), (2, 42), (0, 0), (2, 44), (2, 45), (2, 46), (2, 47), (2, 48), (2, 49), (0, 0), (2, 51), (2, 52), (2, 53), (2, 54), (2, 55), (2, 56), (2, 57), (2, 58), (2, 59), (2, 60)])
  | 10 => some (0, [(0, 0), (1, 20), (0, 0)])
  | 11 => some (0, [(0, 0), (1, 21), (0, 0)])
  | 12 => some (0, [(0, 0), (1, 22), (0, 0)])
  | 13 => some (0, [(0, 0), (1, 23), (0, 0)])
  | 14 => some (0, [(0, 0), (1, 24), (0, 0)])
  | 15 => some (6, [(1, 10), (1, 11), (1, 12), (1, 13), (1, 14), (0, 0), (0, 0), (0, 0)])
  | 16 => some (7, [(0, 0), (0, 0), (0, 0), (0, 0), (1, 34), (1, 35), (1, 36), (0, 0), (1, 38), (1, 39), (1, 40), (1, 41), (1, 42), (0, 0), (1, 44), (1, 45), (1, 46), (1, 47), (1, 48), (1, 49), (0, 0), (1, 51), (1, 52), (1, 53), (1, 54), (1, 55), (1, 56), (1, 57), (1, 58), (1, 59), (1, 60)])
  | _ => none
/-- an array's sort (0 int, 1 boolean, 2 long, 3 references) and its length -/
def ag_ad (k : Nat) : Nat × Nat := match k with
  | 8 => (2, 1)
  | 20 => (3, 0)
  | 21 => (3, 0)
  | 22 => (3, 0)
  | 23 => (3, 0)
  | 24 => (3, 0)
  | 34 => (0, 4)
  | 35 => (0, 4)
  | 36 => (0, 8)
  | 38 => (0, 10)
  | 39 => (0, 10)
  | 40 => (0, 10)
  | 41 => (0, 10)
  | 42 => (0, 10)
  | 44 => (0, 40)
  | 45 => (0, 40)
  | 46 => (0, 40)
  | 47 => (0, 40)
  | 48 => (0, 40)
  | 49 => (0, 360)
  | 51 => (0, 40)
  | 52 => (0, 40)
  | 53 => (0, 40)
  | 54 => (0, 40)
  | 55 => (0, 40)
  | 56 => (0, 40)
  | 57 => (0, 40)
  | 58 => (1, 40)
  | 59 => (0, 40)
  | 60 => (1, 40)
  | _ => (0, 0)
def ag_ro (z : ag_Z) (p : ag_P) (t : Nat) (v : Int32) : Option Nat := if v = -1 then none else if v = -2 then some z.2.2.2 else some (p t v)
def ag_val (z : ag_Z) (p : ag_P) (t : Nat × Nat) (v : Int32) : Value := match t with
  | (0, _) => .int v
  | (1, t) => va_rf (ag_ro z p t v)
  | (_, t) => .ref (p t 0)
def ag_fl (g : Nat → Nat × Nat → Value) : Nat → List (Nat × Nat) → List Value
  | _, [] => []
  | f, t :: r => g f t :: ag_fl g (f + 1) r
def ag_arr (z : ag_Z) (p : ag_P) (s : ag_S) (k : Nat) (i : Int32) : ClassId × vp_A := match ag_ad k with
  | (0, n) => (z.2.1 0, n, .inl (fun q => s k i.toNatClampNeg (nI q)))
  | (1, n) => (z.2.1 1, n, .inl (fun q => s k i.toNatClampNeg (nI q)))
  | (2, n) => (z.2.1 2, n, .inr (.inl (fun q => (s k i.toNatClampNeg (nI q)).toInt64)))
  | (_, _) => (z.2.1 3, (s (k + 60) 0 i).toNatClampNeg, .inr (.inr (.inr (.inr (fun q => ag_ro z p (k - 20) (s k i.toNatClampNeg (nI q)))))))
def ag_cell (z : ag_Z) (p : ag_P) (s : ag_S) (k : Nat) (i : Int32) : va_E := match ag_od k with
  | some (ci, ts) => .inr (ci, ag_fl (fun f t => ag_val z p t (s k f i)) 0 ts)
  | none => .inl (ag_arr z p s k i)
def ag_ok (n : ag_N) (t : Nat) (v : Int32) : Prop := v = -1 ∨ vp_in v (n t)
def ag_wf (n : ag_N) (s : ag_S) : Prop := (∀ (k ci : Nat) (ts : List (Nat × Nat)) (f t : Nat), ag_od k = some (ci, ts) → ts[f]? = some (1, t) → ∀ i : Int32, ag_ok n t (s k f i) ∨ (20 ≤ t ∧ s k f i = -2)) ∧ (∀ j : Nat, j < 5 → ∀ (f : Nat) (i : Int32), ag_ok n j (s (20 + j) f i)) ∧ (∀ (k ci : Nat) (ts : List (Nat × Nat)) (f t : Nat), ag_od k = some (ci, ts) → ts[f]? = some (2, t) → 0 < n k → 0 < n t)
/-- THE WORLD: where the objects lie, what they hold -/
def ag_W (z : ag_Z) (n : ag_N) (p : ag_P) (s : ag_S) (H : Heap) : Prop := (∀ (k : Nat) (i : Int32), vp_in i (n k) → va_at z.1 vwCl (p k i, ag_cell z p s k i) H ∧ z.2.2.1 ≤ p k i) ∧ (∀ (k : Nat) (i : Int32) (k' : Nat) (i' : Int32), vp_in i (n k) → vp_in i' (n k') → p k i = p k' i' → k = k' ∧ i = i') ∧ ag_wf n s ∧ ∀ k : Nat, n k ≤ 1000
def ag_A (z : ag_Z) : Nat → Prop := fun q => z.2.2.1 ≤ q
def ag_xw : List Cond := lw_tbl.filter (fun w => match w with | .castable _ _ => true | .declares _ => true | _ => false)
def ag_tys (z : ag_Z) : List (ClassId × FieldType) := [(z.2.1 0, .int), (z.2.1 1, .boolean), (z.2.1 2, .long), (z.2.1 3, .object "java/lang/Object")]
/-- what stays as it is through the whole run -/
def ag_G (z : ag_Z) (U : State) (H : Heap) : Prop := va_K z.1 vwCl (ag_tys z) U ∧ (∀ w ∈ ag_xw, va_Nw w U) ∧ (∀ (a : String) (b : Nat) (tx : String), Cond.stringRef a b tx ∈ lw_tbl → ∃ q, vk_R a b tx q U) ∧ vx_Zq Bundle.tN "UNASSIGNED_STACK" Bundle.steD (ag_A z) U H ∧ vx_Zq Bundle.tN "SUPPRESSED_SENTINEL" Bundle.listD (ag_A z) U H
  ∧ va_Z RJx4a65c "DEFAULTCAPACITY_EMPTY_ELEMENTDATA" "[Ljava/lang/Object;" (.ref z.2.2.2) (ag_A z) U H ∧ va_T (.object "java/lang/Object") z.2.2.2 0 (fun _ => .null) (ag_A z) U H
def ag_Pre (z : ag_Z) (n : ag_N) (p : ag_P) (s : ag_S) (U : State) : Prop := z.2.2.1 ≤ U.heap.size ∧ ag_G z U U.heap ∧ ag_W z n p s U.heap

theorem ag_xw_sort {w : Cond} (h : w ∈ ag_xw) : (∃ C T, w = .castable C T) ∨ ∃ x, w = .declares x := by
  have h2 := (List.mem_filter.mp h).2
  cases w <;> first | exact Or.inl ⟨_, _, rfl⟩ | exact Or.inr ⟨_, rfl⟩ | (simp at h2)
theorem ag_G.warm {z : ag_Z} {s U : State} {H : Heap} (hW : s.WarmedH U.vm) (h : ag_G z s H) : ag_G z U H := by
  obtain ⟨h1, h2, h3, h4, h5, h6, h7⟩ := h
  refine ⟨va_K.moved hW.alike h1, fun w hw => ?_, fun a b tx hm => ?_, vx_Zq.moved hW.alike h4, vx_Zq.moved hW.alike h5, va_Z.moved hW.alike h6, va_T.moved hW.alike h7⟩
  · rcases ag_xw_sort hw with ⟨C, T, rfl⟩ | ⟨x, rfl⟩
    · exact va_Nw.warmC hW (h2 _ hw)
    · exact va_Nw.warmD hW (h2 _ hw)
  · obtain ⟨q, hq⟩ := h3 a b tx hm
    exact ⟨q, vk_R.warm hW hq⟩
theorem ag_G.kept {z : ag_Z} {U : State} {H H1 : Heap} (hq : ∀ a : Nat, a < H.size → ¬ ag_A z a → H1[a]? = H[a]?) (h : ag_G z U H) : ag_G z U H1 := by
  obtain ⟨h1, h2, h3, h4, h5, h6, h7⟩ := h
  exact ⟨h1, h2, h3, vx_Zq.kept h4 hq, vx_Zq.kept h5 hq, va_Z.kept h6 hq, va_T.kept h7 hq⟩
theorem ag_Pre.blind {z : ag_Z} {n : ag_N} {p : ag_P} {s : ag_S} {av : List Value} : FrameBlind (va_Pc av (ag_Pre z n p s)) := by
  intro a U g mk h
  obtain ⟨h0, h1, h2, h3⟩ := h
  exact ⟨h0, h1, ag_G.warm (s := U) (U := U.calling g mk a) (State.WarmedH.refl U) h2, h3⟩
theorem ag_Pre.to {z : ag_Z} {n : ag_N} {p : ag_P} {s0 s : ag_S} {st : State} {H : Heap} {locs : List Loc} (h0 : z.2.2.1 ≤ st.heap.size) (hG : ag_G z st st.heap) (hS : va_S (ag_A z) st.heap H locs) (hW : ag_W z n p s H) (U : State) (hU : U.heap = H) (hV : st.WarmedH U.vm) : ag_Pre z n p s U := by
  refine ⟨?_, ?_, ?_⟩
  · rw [hU]
    exact Nat.le_trans h0 hS.1
  · rw [hU]
    exact ag_G.warm hV (ag_G.kept hS.2.1 hG)
  · rw [hU]
    exact hW
/-! ===== pure rows of the world ===== -/
theorem ag_nI {i : Int32} {N : Nat} (h : vp_in i N) : nI i.toNatClampNeg = i := by
  have h0 : ¬ i < 0 := fun q => h (Or.inl q)
  obtain ⟨j, hj, rfl⟩ := nI_of h0
  rw [nI_clamp hj]
theorem ag_31 {a n : Nat} (h : a < n) (hn : n ≤ 1000) : a < 2 ^ 31 := Nat.lt_of_lt_of_le h (Nat.le_trans hn (Nat.le_of_ble_eq_true rfl))

theorem ag_up_eq {s : ag_S} {k f : Nat} {i v : Int32} : ag_up s k f i v k f i = v := by simp [ag_up]
theorem ag_up_ne {s : ag_S} {k f : Nat} {i v : Int32} {k' f' : Nat} {i' : Int32} (h : ¬ (k' = k ∧ f' = f ∧ i' = i)) : ag_up s k f i v k' f' i' = s k' f' i' := by simp only [ag_up]; rw [if_neg h]
theorem ag_fl_get (g : Nat → Nat × Nat → Value) : ∀ (ts : List (Nat × Nat)) (b f : Nat) (t : Nat × Nat), ts[f]? = some t → (ag_fl g b ts)[f]? = some (g (b + f) t)
  | [], _, _, _, h => by simp at h
  | u :: r, b, 0, t, h => by
    simp only [List.getElem?_cons_zero, Option.some.injEq] at h
    simp [ag_fl, h]
  | u :: r, b, f + 1, t, h => by
    rw [List.getElem?_cons_succ] at h
    have := ag_fl_get g r (b + 1) f t h
    simp only [ag_fl, List.getElem?_cons_succ, this]
    rw [Nat.add_assoc, Nat.add_comm 1 f]
theorem ag_fl_len (g : Nat → Nat × Nat → Value) : ∀ (ts : List (Nat × Nat)) (b : Nat), (ag_fl g b ts).length = ts.length
  | [], _ => rfl
  | u :: r, b => by simp [ag_fl, ag_fl_len g r (b + 1)]
theorem ag_fl_ext (g g' : Nat → Nat × Nat → Value) (ts : List (Nat × Nat)) (b : Nat) (h : ∀ f t, ts[f]? = some t → g (b + f) t = g' (b + f) t) : ag_fl g b ts = ag_fl g' b ts := by
  apply List.ext_getElem?
  intro f
  cases ht : ts[f]? with
  | some t => rw [ag_fl_get g ts b f t ht, ag_fl_get g' ts b f t ht, h f t ht]
  | none =>
    have hl := List.getElem?_eq_none_iff.mp ht
    rw [List.getElem?_eq_none (by rw [ag_fl_len]; exact hl), List.getElem?_eq_none (by rw [ag_fl_len]; exact hl)]
theorem ag_fl_set (g g' : Nat → Nat × Nat → Value) (ts : List (Nat × Nat)) (f : Nat) (t : Nat × Nat) (v : Value) (hf : ts[f]? = some t) (hv : g' f t = v) (h : ∀ f' t', f' ≠ f → g' f' t' = g f' t') : ag_fl g' 0 ts = (ag_fl g 0 ts).set f v := by
  apply List.ext_getElem?
  intro j
  have hlf : f < ts.length := (List.getElem?_eq_some_iff.mp hf).1
  by_cases hj : j = f
  · subst hj
    rw [List.getElem?_set_self (by rw [ag_fl_len]; exact hlf), ag_fl_get g' ts 0 j t hf, Nat.zero_add, hv]
  · rw [List.getElem?_set_ne (Ne.symm hj)]
    cases ht : ts[j]? with
    | some t' => rw [ag_fl_get g ts 0 j t' ht, ag_fl_get g' ts 0 j t' ht, Nat.zero_add, h j t' hj]
    | none =>
      have hl := List.getElem?_eq_none_iff.mp ht
      rw [List.getElem?_eq_none (by rw [ag_fl_len]; exact hl), List.getElem?_eq_none (by rw [ag_fl_len]; exact hl)]
theorem ag_od_lt {k : Nat} {q : Nat × List (Nat × Nat)} (h : ag_od k = some q) : k < 20 := by
  by_cases hk : k < 20
  · exact hk
  · unfold ag_od at h
    split at h <;> first | omega | cases h
theorem ag_cell_od {z : ag_Z} {p : ag_P} {s : ag_S} {k ci : Nat} {i : Int32} {ts : List (Nat × Nat)} (h : ag_od k = some (ci, ts)) : ag_cell z p s k i = .inr (ci, ag_fl (fun f t => ag_val z p t (s k f i)) 0 ts) := by
  unfold ag_cell
  rw [h]
theorem ag_cell_ad {z : ag_Z} {p : ag_P} {s : ag_S} {k : Nat} {i : Int32} (h : ag_od k = none) : ag_cell z p s k i = .inl (ag_arr z p s k i) := by
  unfold ag_cell
  rw [h]
theorem ag_W.kept {z : ag_Z} {n : ag_N} {p : ag_P} {s : ag_S} {H H1 : Heap} (h : ag_W z n p s H) (hk : ∀ q : Nat, q < H.size → H1[q]? = H[q]?) : ag_W z n p s H1 := by
  obtain ⟨h1, h2⟩ := h
  exact ⟨fun k i hi => ⟨(h1 k i hi).1.kept (hk _ (h1 k i hi).1.lt), (h1 k i hi).2⟩, h2⟩
/-- a field of an object is written -/
theorem ag_W_put {z : ag_Z} {n : ag_N} {p : ag_P} {s : ag_S} {H H1 : Heap} {k f ci : Nat} {t : Nat × Nat} {i x : Int32} {ts : List (Nat × Nat)} (hW : ag_W z n p s H) (hi : vp_in i (n k)) (hod : ag_od k = some (ci, ts)) (hf : ts[f]? = some t) (ht : t.1 = 1 → ag_ok n t.2 x ∨ (20 ≤ t.2 ∧ x = -2))
    (hc : va_at z.1 vwCl (p k i, .inr (ci, (ag_fl (fun f t => ag_val z p t (s k f i)) 0 ts).set f (ag_val z p t x))) H1) (oq : ∀ q : Nat, q ≠ p k i → H1[q]? = H[q]?) : ag_W z n p (ag_up s k f i x) H1 := by
  obtain ⟨h1, h2, h3, h4⟩ := hW
  have hk20 := ag_od_lt hod
  refine ⟨fun k' i' hi' => ?_, h2, ⟨fun k' ci' ts' f' t' e1 e2 i' => ?_, fun j hj f' i' => ?_, h3.2.2⟩, h4⟩
  · by_cases e : k' = k ∧ i' = i
    · obtain ⟨rfl, rfl⟩ := e
      refine ⟨?_, (h1 _ _ hi').2⟩
      rw [ag_cell_od hod]
      rw [ag_fl_set (fun f t => ag_val z p t (s k' f i')) (fun f' t => ag_val z p t (ag_up s k' f i' x k' f' i')) ts f t (ag_val z p t x) hf (by rw [ag_up_eq]) (fun f' t' hne => by rw [ag_up_ne (by omega)])]
      exact hc
    · have hne : p k' i' ≠ p k i := fun q => e (h2 _ _ _ _ hi' hi q)
      obtain ⟨g1, g2⟩ := h1 k' i' hi'
      refine ⟨?_, g2⟩
      have hcell : ag_cell z p (ag_up s k f i x) k' i' = ag_cell z p s k' i' := by
        have hk : ∀ f', ag_up s k f i x k' f' i' = s k' f' i' := fun f' => ag_up_ne (fun q => e ⟨q.1, q.2.2⟩)
        cases ho : ag_od k' with
        | some q =>
          obtain ⟨ci', ts'⟩ := q
          rw [ag_cell_od ho, ag_cell_od ho]
          simp only [hk]
        | none =>
          have hkk : k' ≠ k := fun q => by rw [q, hod] at ho; cases ho
          have hz : ∀ f' i2, ag_up s k f i x k' f' i2 = s k' f' i2 := fun f' i2 => ag_up_ne (fun q => hkk q.1)
          have hz2 : ∀ f' i2, ag_up s k f i x (k' + 60) f' i2 = s (k' + 60) f' i2 := fun f' i2 => ag_up_ne (by omega)
          rw [ag_cell_ad ho, ag_cell_ad ho]
          unfold ag_arr
          simp only [hz, hz2]
      rw [hcell]
      exact g1.kept (oq _ hne)
  · have g := h3.1 k' ci' ts' f' t' e1 e2 i'
    by_cases e : k' = k ∧ f' = f ∧ i' = i
    · obtain ⟨rfl, rfl, rfl⟩ := e
      rw [hod] at e1
      cases e1
      rw [hf] at e2
      cases e2
      rw [ag_up_eq]
      exact ht rfl
    · rw [ag_up_ne e]
      exact g
  · rw [ag_up_ne (by omega)]
    exact h3.2.1 j hj f' i'
theorem ag_ad3 {k : Nat} (h : (ag_ad k).1 = 3) : 20 ≤ k ∧ k < 25 := by
  unfold ag_ad at h
  split at h <;> first | omega | (simp at h)
theorem ag_ad2 {k a b : Nat} (h : ag_ad k = (a, b)) (h3 : ¬ a = 3) : a = 0 ∨ a = 1 ∨ a = 2 := by
  unfold ag_ad at h
  split at h <;> (simp only [Prod.mk.injEq] at h; omega)
theorem ag_adj {j k ty len : Nat} (had : ag_ad k = (ty, len)) (hty : ty ≤ 2) (hj : j < 5) : ¬ 20 + j = k := by
  intro q
  rw [← q] at had
  have : j = 0 ∨ j = 1 ∨ j = 2 ∨ j = 3 ∨ j = 4 := by omega
  rcases this with rfl | rfl | rfl | rfl | rfl <;> (simp [ag_ad] at had; omega)
/-- a place of an array of numbers is written -/
theorem ag_W_ast {z : ag_Z} {n : ag_N} {p : ag_P} {s : ag_S} {H H1 : Heap} {k ty len : Nat} {c i x : Int32} (hW : ag_W z n p s H) (hi : vp_in c (n k)) (hod : ag_od k = none) (had : ag_ad k = (ty, len)) (hty : ty ≤ 2) (hk80 : ¬ (80 ≤ k ∧ k < 85)) (hv : vp_in i len)
    (hc : va_at z.1 vwCl (p k c, .inl (ag_arr z p (ag_up s k c.toNatClampNeg i x) k c)) H1) (oq : ∀ q : Nat, q ≠ p k c → H1[q]? = H[q]?) : ag_W z n p (ag_up s k c.toNatClampNeg i x) H1 := by
  obtain ⟨h1, h2, h3, h4⟩ := hW
  refine ⟨fun k' i' hi' => ?_, h2, ⟨fun k' ci' ts' f' t' e1 e2 i' => ?_, fun j hj f' i' => ?_, h3.2.2⟩, h4⟩
  · by_cases e : k' = k ∧ i' = c
    · obtain ⟨rfl, rfl⟩ := e
      refine ⟨?_, (h1 _ _ hi').2⟩
      rw [ag_cell_ad hod]
      exact hc
    · have hne : p k' i' ≠ p k c := fun q => e (h2 _ _ _ _ hi' hi q)
      obtain ⟨g1, g2⟩ := h1 k' i' hi'
      refine ⟨?_, g2⟩
      have hcell : ag_cell z p (ag_up s k c.toNatClampNeg i x) k' i' = ag_cell z p s k' i' := by
        cases ho : ag_od k' with
        | some q =>
          obtain ⟨ci', ts'⟩ := q
          have hkk : k' ≠ k := fun q => by rw [q, hod] at ho; cases ho
          have hz : ∀ f' i2, ag_up s k c.toNatClampNeg i x k' f' i2 = s k' f' i2 := fun f' i2 => ag_up_ne (fun q => hkk q.1)
          rw [ag_cell_od ho, ag_cell_od ho]
          simp only [hz]
        | none =>
          rw [ag_cell_ad ho, ag_cell_ad ho]
          by_cases hkk : k' = k
          · subst hkk
            have hic : i' ≠ c := fun q => e ⟨rfl, q⟩
            have hf : i'.toNatClampNeg ≠ c.toNatClampNeg := by
              intro q
              have e1 := ag_nI hi'
              rw [q, ag_nI hi] at e1
              exact hic e1.symm
            have hz : ∀ i2, ag_up s k' c.toNatClampNeg i x k' i'.toNatClampNeg i2 = s k' i'.toNatClampNeg i2 := fun i2 => ag_up_ne (fun q => hf q.2.1)
            have hz2 : ∀ f' i2, ag_up s k' c.toNatClampNeg i x (k' + 60) f' i2 = s (k' + 60) f' i2 := fun f' i2 => ag_up_ne (by omega)
            unfold ag_arr
            simp only [hz, hz2]
          · have hz : ∀ f' i2, ag_up s k c.toNatClampNeg i x k' f' i2 = s k' f' i2 := fun f' i2 => ag_up_ne (fun q => hkk q.1)
            unfold ag_arr
            simp only [hz]
            cases hq : ag_ad k' with
            | mk a b =>
              by_cases hk3 : a = 3
              · have hk2 := ag_ad3 (k := k') (by rw [hq]; exact hk3)
                have hz2 : ∀ f' i2, ag_up s k c.toNatClampNeg i x (k' + 60) f' i2 = s (k' + 60) f' i2 := fun f' i2 => ag_up_ne (by omega)
                simp only [hz2]
              · rcases ag_ad2 hq hk3 with rfl | rfl | rfl <;> simp
      rw [hcell]
      exact g1.kept (oq _ hne)
  · have g := h3.1 k' ci' ts' f' t' e1 e2 i'
    have hkk : k' ≠ k := fun q => by rw [q, hod] at e1; cases e1
    rw [ag_up_ne (fun q => hkk q.1)]
    exact g
  · have hkk := ag_adj had hty hj
    rw [ag_up_ne (fun q => hkk q.1)]
    exact h3.2.1 j hj f' i'
theorem ag_ref {z : ag_Z} {n : ag_N} {p : ag_P} {t : Nat} {v : Int32} (h : ag_ok n t v) (hn : ¬ v = -1) : ag_ro z p t v = some (p t v) ∧ vp_in v (n t) := by
  rcases h with h | h
  · exact absurd h hn
  · refine ⟨?_, h⟩
    have h2 : ¬ v = -2 := fun q => h (Or.inl (by rw [q]; decide))
    simp [ag_ro, hn, h2]
theorem ag_null {z : ag_Z} {p : ag_P} {t : Nat} {v : Int32} (h : v = -1) : ag_ro z p t v = none := by simp [ag_ro, h]
/-- a field's code, of an object that isn't a list -/
theorem ag_W.okf {z : ag_Z} {n : ag_N} {p : ag_P} {s : ag_S} {H : Heap} (hW : ag_W z n p s H) {k ci f t : Nat} {ts : List (Nat × Nat)} (hod : ag_od k = some (ci, ts)) (hf : ts[f]? = some (1, t)) (ht : t < 20) (i : Int32) : ag_ok n t (s k f i) := by
  rcases hW.2.2.1.1 k ci ts f t hod hf i with h | ⟨h, -⟩
  · exact h
  · omega

/-! ===== rows over the world: fields and arrays ===== -/
theorem ag_one {z : ag_Z} {n : ag_N} {p : ag_P} {s : ag_S} {H : Heap} {k : Nat} {i : Int32} (hW : ag_W z n p s H) (hi : vp_in i (n k)) : va_P z.1 vwCl [(p k i, ag_cell z p s k i)] H := by
  intro j q hq
  cases j with
  | zero =>
    simp only [List.getElem?_cons_zero, Option.some.injEq] at hq
    subst hq
    exact (hW.1 k i hi).1
  | succ j => simp at hq
theorem ag_arrV {cI : ClassId} {N : Nat} {f g : Nat → Value} (h : ∀ q, q < N → f q = g q) : arrV cI N f = arrV cI N g := by
  unfold arrV
  have e : (Array.ofFn (n := N) fun j => f j.val) = Array.ofFn (n := N) fun j => g j.val := by
    congr 1
    funext j
    exact h j.val j.isLt
  rw [e]
theorem ag_ad_len {k ty len : Nat} (had : ag_ad k = (ty, len)) : len ≤ 360 := by
  unfold ag_ad at had
  split at had <;> (simp only [Prod.mk.injEq] at had; omega)
theorem ag_arrU {s : ag_S} {k q len : Nat} {i x : Int32} (hv : vp_in i len) (hql : q < len) (hlen : len ≤ 360) : updV (fun j => Value.int (s k 0 (nI j))) i.toNatClampNeg (.int x) q = .int (ag_up s k 0 i x k 0 (nI q)) := by
  by_cases hq : q = i.toNatClampNeg
  · subst hq
    simp [updV, ag_up, ag_nI hv]
  · have hne : ¬ nI q = i := fun h => hq (by rw [← h, nI_clamp (by omega)])
    simp [updV, ag_up, hq, hne]
section AGR
variable {p0 : Program} {l : Launch} {e : Env} {R : Room} {st : State} {m : MethodId} {args : Array Value} {below : List Frame} {meth : Method} {c : Code} {H H0 : Heap} {locs : List Loc} {cells slots : Nat} {Q : State → Prop}
variable {cc : ByteArray} {pc : Nat} {ls : Array Slot} {rest : List Value} {z : ag_Z} {n : ag_N} {p : ag_P} {s : ag_S}
theorem ag_get (hx : p0.tables.exec = Jvm.exec) (hb : c.code = cc) (hT : ∀ w ∈ ag_tbl, w.before args st = true) {own : String} (hown : st.vm.findClass own = some m.cls) (hG : ag_G z st st.heap) (hW : ag_W z n p s H) {k ci f N index : Nat} {i : Int32} {ts : List (Nat × Nat)} {t : Nat × Nat} {ref C : String} {T : u_T} (hi : vp_in i (n k)) (hod : ag_od k = some (ci, ts)) (hft : ts[f]? = some t) (hcl : vwCl[ci]? = some (C, T, N)) (hin : ∀ w ∈ u_ws C T N, w ∈ ag_tbl) (hf : f < N)
    (hlink : Cond.fieldLink own index ref (T f).2.1 (T f).2.2.1 ∈ ag_tbl) (hsame : ∀ x, st.fieldFound? (T f).1 (T f).2.1 (T f).2.2.1 = some x → st.fieldFound? ref (T f).2.1 (T f).2.2.1 = some x) (hdg : decode cc pc = .ok (.getfield index, 3))
    (kk : W p0 l e R st m args below meth c H locs cells slots Q (F0 m (pc + 3) ls (ag_val z p t (s k f i) :: rest))) : W p0 l e R st m args below meth c H locs cells slots Q (F0 m pc ls (.ref (p k i) :: rest)) := by
  have hP := ag_one hW hi
  rw [ag_cell_od hod] at hP
  refine va_get (D := z.1) (ci := ci) hx hb (Ts := ag_tbl) hT hin hown hG.1 hP 0 rfl hcl f hf (hT _ hlink) hsame (v := ag_val z p t (s k f i)) ?_ hdg kk
  have := ag_fl_get (fun f t => ag_val z p t (s k f i)) ts 0 f t hft
  simpa using this
theorem ag_put (hx : p0.tables.exec = Jvm.exec) (hb : c.code = cc) (hT : ∀ w ∈ ag_tbl, w.before args st = true) {own : String} (hown : st.vm.findClass own = some m.cls) (hG : ag_G z st st.heap) (hW : ag_W z n p s H) (hS : va_S (ag_A z) H0 H locs) {k ci f N index : Nat} {i x : Int32} {ts : List (Nat × Nat)} {t : Nat × Nat} {ref C : String} {T : u_T} (hi : vp_in i (n k)) (hod : ag_od k = some (ci, ts)) (hft : ts[f]? = some t) (ht : t.1 = 1 → ag_ok n t.2 x ∨ (20 ≤ t.2 ∧ x = -2)) (hcl : vwCl[ci]? = some (C, T, N)) (hin : ∀ w ∈ u_ws C T N, w ∈ ag_tbl) (hf : f < N)
    (ty0 : Nat → FieldType) (hty : ∀ k, k < N → parseFieldDescriptor (T k).2.2.1 = some (ty0 k)) (hnm : ∀ a, a < N → ∀ b, b < N → a ≠ b → (T a).2.1 ≠ (T b).2.1)
    (hlink : Cond.fieldLink own index ref (T f).2.1 (T f).2.2.1 ∈ ag_tbl) (hsame : ∀ x, st.fieldFound? (T f).1 (T f).2.1 (T f).2.2.1 = some x → st.fieldFound? ref (T f).2.1 (T f).2.2.1 = some x)
    (hfin : (T f).2.2.2 = false ∨ ((T f).2.2.2 = true ∧ meth.name = "<init>" ∧ (T f).1 = own)) (hn : narrow (ty0 f) (ag_val z p t x) = ag_val z p t x) (hfit : fits (ty0 f) (ag_val z p t x) = true) (hlen : N = ts.length) (hdg : decode cc pc = .ok (.putfield index, 3))
    (kk : ∀ (H1 : Heap) (locs1 : List Loc), ag_W z n p (ag_up s k f i x) H1 → va_S (ag_A z) H0 H1 locs1 → W p0 l e R st m args below meth c H1 locs1 cells slots Q (F0 m (pc + 3) ls rest)) : W p0 l e R st m args below meth c H locs cells slots Q (F0 m pc ls (ag_val z p t x :: .ref (p k i) :: rest)) := by
  have hK := hG.1
  have hap := va_apart (own := own) hT hin ty0 hty hnm hK hcl
  have hP := ag_one hW hi
  rw [ag_cell_od hod] at hP
  obtain ⟨r, h1, cell, q1, q2, q3, q4⟩ := hP 0 _ rfl
  have hr : r = (C, T, N) := Option.some.inj (h1.symm.trans hcl)
  subst hr
  obtain ⟨hSl, hfc, kC, hkC, hkind⟩ := hK.1 ci _ hcl
  obtain ⟨cf, kf, fi, fd, hfi, hsl⟩ := hSl f hf
  have hst := (u_facts hfc hkC (u_lays hT hin hf) hfi).1
  have hlay := hT _ (hin _ (u_in_lay hf))
  unfold u_lay at hlay
  have hl : f < (ag_fl (fun f t => ag_val z p t (s k f i)) 0 ts).length := by rw [ag_fl_len, ← hlen]; exact hf
  rcases hfin with hfin | ⟨hfin, hin2, hdecl⟩
  · rw [if_neg (by rw [hfin]; decide)] at hlay
    have h6 := u_store hfc hkC hkind hlay hfi (hty f hf) hn hfit
    refine W.putK hx hb (f := fd) ⟨hown, hT _ hlink, ⟨_, _, _, hsame _ hfi⟩, hst⟩ (by rw [q2]; exact h6) q1 q3 (by rw [hsl]; exact k2_hasslot (q4 f hf)) rfl rfl hdg fun H' e1 e2 e3 => ?_
    rw [hsl] at e1 ⊢
    exact kk H' _ (ag_W_put hW hi hod hft ht ⟨_, hcl, t_OB.to (V := updV (vp_V _) f (ag_val z p t x)) ⟨_, e1, q2, q3, t_set q4 hap hf _⟩ (fun j _ => vp_updV_set hl _ j)⟩ e3) (hS.put e2 e3 (hW.1 k i hi).2)
  · rw [if_pos hfin] at hlay
    have hcf : m.cls = cf := by
      obtain ⟨_, _, c', _, _, _, -, -, hf', -, -, -, hown2, -⟩ := Cond.laysFinal_spec hlay
      have e1 : c' = cf := by have := hfi.symm.trans hf'; simp at this; exact this.1.symm
      rw [hdecl] at hown2
      rw [← e1]; exact Option.some.inj (hown.symm.trans hown2)
    have h6 := u_fits hfc hkC hkind (Or.inr hlay) hfi (hty f hf) hn hfit
    refine W.putFinK hx hb hown (hT _ hlink) (hsame _ hfi) hst hcf hin2 (by rw [q2]; exact h6) q1 q3 (by rw [hsl]; exact k2_hasslot (q4 f hf)) rfl rfl hdg fun H' e1 e2 e3 => ?_
    rw [hsl] at e1 ⊢
    exact kk H' _ (ag_W_put hW hi hod hft ht ⟨_, hcl, t_OB.to (V := updV (vp_V _) f (ag_val z p t x)) ⟨_, e1, q2, q3, t_set q4 hap hf _⟩ (fun j _ => vp_updV_set hl _ j)⟩ e3) (hS.put e2 e3 (hW.1 k i hi).2)
theorem ag_iald (hx : p0.tables.exec = Jvm.exec) (hb : c.code = cc) (hG : ag_G z st st.heap) (hW : ag_W z n p s H) {k len : Nat} {i : Int32} (h0 : vp_in 0 (n k)) (hod : ag_od k = none) (had : ag_ad k = (0, len)) (hv : vp_in i len) (hdg : decode cc pc = .ok (.iaload, 1))
    (kk : W p0 l e R st m args below meth c H locs cells slots Q (F0 m (pc + 1) ls (.int (s k 0 i) :: rest))) : W p0 l e R st m args below meth c H locs cells slots Q (F0 m pc ls (.int i :: .ref (p k 0) :: rest)) := by
  have hP := ag_one hW h0
  rw [ag_cell_ad hod] at hP
  have ha : ag_arr z p s k 0 = (z.2.1 0, len, .inl (fun q => s k 0 (nI q))) := by unfold ag_arr; rw [had]; rfl
  rw [ha] at hP
  refine va_iald hx hb hG.1 hP 0 0 rfl rfl hv hdg ?_
  rw [ag_nI hv]
  exact kk
theorem ag_zald (hx : p0.tables.exec = Jvm.exec) (hb : c.code = cc) (hG : ag_G z st st.heap) (hW : ag_W z n p s H) {k len : Nat} {i : Int32} (h0 : vp_in 0 (n k)) (hod : ag_od k = none) (had : ag_ad k = (1, len)) (hv : vp_in i len) (hdg : decode cc pc = .ok (.baload, 1))
    (kk : W p0 l e R st m args below meth c H locs cells slots Q (F0 m (pc + 1) ls (.int (s k 0 i) :: rest))) : W p0 l e R st m args below meth c H locs cells slots Q (F0 m pc ls (.int i :: .ref (p k 0) :: rest)) := by
  have hP := ag_one hW h0
  rw [ag_cell_ad hod] at hP
  have ha : ag_arr z p s k 0 = (z.2.1 1, len, .inl (fun q => s k 0 (nI q))) := by unfold ag_arr; rw [had]; rfl
  rw [ha] at hP
  refine va_zald hx hb hG.1 hP 0 1 rfl rfl hv hdg ?_
  rw [ag_nI hv]
  exact kk
theorem ag_iast (hx : p0.tables.exec = Jvm.exec) (hb : c.code = cc) (hG : ag_G z st st.heap) (hW : ag_W z n p s H) (hS : va_S (ag_A z) H0 H locs) {k len : Nat} {i x : Int32} (h0 : vp_in 0 (n k)) (hod : ag_od k = none) (had : ag_ad k = (0, len)) (hk80 : k < 80) (hv : vp_in i len) (hdg : decode cc pc = .ok (.iastore, 1))
    (kk : ∀ (H1 : Heap) (locs1 : List Loc), ag_W z n p (ag_up s k 0 i x) H1 → va_S (ag_A z) H0 H1 locs1 → W p0 l e R st m args below meth c H1 locs1 cells slots Q (F0 m (pc + 1) ls rest)) : W p0 l e R st m args below meth c H locs cells slots Q (F0 m pc ls (.int x :: .int i :: .ref (p k 0) :: rest)) := by
  have hP := ag_one hW h0
  rw [ag_cell_ad hod] at hP
  have ha : ∀ s : ag_S, ag_arr z p s k 0 = (z.2.1 0, len, .inl (fun q => s k 0 (nI q))) := by intro s; unfold ag_arr; rw [had]; rfl
  rw [ha] at hP
  refine W.iast hx hb (hP 0 _ rfl) ((hG.1.2 0 _ rfl).1 len (fun j => .int (s k 0 (nI j)))) (fun q => by cases q) (by show ¬ (i < 0 ∨ (arrV _ _ _).slots.size ≤ _); rw [arrV_size]; exact hv) rfl rfl hdg fun H1 e1 e2 oq => ?_
  refine kk H1 _ (ag_W_ast (c := 0) hW h0 hod had (by decide) (by omega) hv ?_ oq) (hS.put e2 oq (hW.1 k 0 h0).2)
  show H1[_]? = some (vp_cell _ _)
  rw [e1]
  rw [ha]
  rw [vp_cell_i, vp_cell_i, arrV_store]
  exact congrArg some (ag_arrV fun q hql => ag_arrU hv hql (ag_ad_len had))
theorem ag_zast (hx : p0.tables.exec = Jvm.exec) (hb : c.code = cc) (hG : ag_G z st st.heap) (hW : ag_W z n p s H) (hS : va_S (ag_A z) H0 H locs) {k len : Nat} {i x : Int32} (h0 : vp_in 0 (n k)) (hod : ag_od k = none) (had : ag_ad k = (1, len)) (hk80 : k < 80) (hv : vp_in i len) (hxb : narrow .boolean (.int x) = .int x) (hdg : decode cc pc = .ok (.bastore, 1))
    (kk : ∀ (H1 : Heap) (locs1 : List Loc), ag_W z n p (ag_up s k 0 i x) H1 → va_S (ag_A z) H0 H1 locs1 → W p0 l e R st m args below meth c H1 locs1 cells slots Q (F0 m (pc + 1) ls rest)) : W p0 l e R st m args below meth c H locs cells slots Q (F0 m pc ls (.int x :: .int i :: .ref (p k 0) :: rest)) := by
  have hP := ag_one hW h0
  rw [ag_cell_ad hod] at hP
  have ha : ∀ s : ag_S, ag_arr z p s k 0 = (z.2.1 1, len, .inl (fun q => s k 0 (nI q))) := by intro s; unfold ag_arr; rw [had]; rfl
  rw [ha] at hP
  refine W.zast hx hb (hP 0 _ rfl) ((hG.1.2 1 _ rfl).1 len (fun j => .int (s k 0 (nI j)))) (fun q => by cases q) (by show ¬ (i < 0 ∨ (arrV _ _ _).slots.size ≤ _); rw [arrV_size]; exact hv) rfl rfl hdg fun H1 e1 e2 oq => ?_
  refine kk H1 _ (ag_W_ast (c := 0) hW h0 hod had (by decide) (by omega) hv ?_ oq) (hS.put e2 oq (hW.1 k 0 h0).2)
  show H1[_]? = some (vp_cell _ _)
  rw [e1]
  rw [ha]
  rw [vp_cell_i, vp_cell_i, arrV_store, hxb]
  exact congrArg some (ag_arrV fun q hql => ag_arrU hv hql (ag_ad_len had))
theorem ag_last (hx : p0.tables.exec = Jvm.exec) (hb : c.code = cc) (hG : ag_G z st st.heap) (hW : ag_W z n p s H) (hS : va_S (ag_A z) H0 H locs) {k len : Nat} {i x : Int32} (h0 : vp_in 0 (n k)) (hod : ag_od k = none) (had : ag_ad k = (2, len)) (hk80 : k < 80) (hv : vp_in i len) (hdg : decode cc pc = .ok (.lastore, 1))
    (kk : ∀ (H1 : Heap) (locs1 : List Loc), ag_W z n p (ag_up s k 0 i x) H1 → va_S (ag_A z) H0 H1 locs1 → W p0 l e R st m args below meth c H1 locs1 cells slots Q (F0 m (pc + 1) ls rest)) : W p0 l e R st m args below meth c H locs cells slots Q (F0 m pc ls (.long x.toInt64 :: .int i :: .ref (p k 0) :: rest)) := by
  have hP := ag_one hW h0
  rw [ag_cell_ad hod] at hP
  have ha : ∀ s : ag_S, ag_arr z p s k 0 = (z.2.1 2, len, .inr (.inl (fun q => (s k 0 (nI q)).toInt64))) := by intro s; unfold ag_arr; rw [had]; rfl
  rw [ha] at hP
  refine W.last hx hb (hP 0 _ rfl) ((hG.1.2 2 _ rfl).1 len (fun j => .long (s k 0 (nI j)).toInt64)) (fun q => by cases q) (by show ¬ (i < 0 ∨ (arrV _ _ _).slots.size ≤ _); rw [arrV_size]; exact hv) rfl rfl hdg fun H1 e1 e2 oq => ?_
  refine kk H1 _ (ag_W_ast (c := 0) hW h0 hod had (by decide) (by omega) hv ?_ oq) (hS.put e2 oq (hW.1 k 0 h0).2)
  show H1[_]? = some (vp_cell _ _)
  rw [e1]
  rw [ha]
  rw [vp_cell_l, vp_cell_l, arrV_store]
  refine congrArg some (ag_arrV fun q hql => ?_)
  have hlen := ag_ad_len had
  by_cases hq : q = i.toNatClampNeg
  · subst hq
    simp [updV, ag_up, ag_nI hv]
  · have hne : ¬ nI q = i := fun h => hq (by rw [← h, nI_clamp (by omega)])
    simp [updV, ag_up, hq, hne]
theorem ag_lald (hx : p0.tables.exec = Jvm.exec) (hb : c.code = cc) (hG : ag_G z st st.heap) (hW : ag_W z n p s H) {k len : Nat} {i : Int32} (h0 : vp_in 0 (n k)) (hod : ag_od k = none) (had : ag_ad k = (2, len)) (hv : vp_in i len) (hdg : decode cc pc = .ok (.laload, 1))
    (kk : W p0 l e R st m args below meth c H locs cells slots Q (F0 m (pc + 1) ls (.long (s k 0 i).toInt64 :: rest))) : W p0 l e R st m args below meth c H locs cells slots Q (F0 m pc ls (.int i :: .ref (p k 0) :: rest)) := by
  have hP := ag_one hW h0
  rw [ag_cell_ad hod] at hP
  have ha : ag_arr z p s k 0 = (z.2.1 2, len, .inr (.inl (fun q => (s k 0 (nI q)).toInt64))) := by unfold ag_arr; rw [had]; rfl
  rw [ha] at hP
  refine va_lald hx hb hG.1 hP 0 2 rfl rfl hv hdg ?_
  rw [ag_nI hv]
  exact kk
end AGR

/-! ===== calls over the world ===== -/
def ag_bt {α : Type} (x : Option ((Int32 ⊕ Int32) × ag_S)) (k : Int32 → ag_S → Option ((Int32 ⊕ Int32) × α)) (g : ag_S → α) : Option ((Int32 ⊕ Int32) × α) := match x with
  | none => none
  | some (.inl r, s) => k r s
  | some (.inr e, s) => some (.inr e, g s)
def ag_bd {α β : Type} (x : Option α) (k : α → Option β) : Option β := match x with
  | none => none
  | some r => k r
theorem ag_bs {α β : Type} {x : Option α} {k : α → Option β} {o : β} (h : ag_bd x k = some o) : ∃ r, x = some r ∧ k r = some o := by
  cases x with
  | none => cases h
  | some r => exact ⟨r, rfl, h⟩
theorem ag_t {α : Type} {c : Prop} [Decidable c] {a b : Option α} {o : α} (hc : c) (h : (if c then a else b) = some o) : a = some o := by rw [if_pos hc] at h; exact h
theorem ag_f {α : Type} {c : Prop} [Decidable c] {a b : Option α} {o : α} (hc : ¬ c) (h : (if c then a else b) = some o) : b = some o := by rw [if_neg hc] at h; exact h
/-- a test that must hold, or the function is stuck -/
theorem ag_m {α : Type} {c : Prop} [Decidable c] {b : Option α} {o : α} (h : (if c then b else none) = some o) : c ∧ b = some o := by
  by_cases hc : c
  · exact ⟨hc, ag_t hc h⟩
  · rw [if_neg hc] at h; cases h
theorem ag_n {α : Type} {c : Prop} [Decidable c] {b : Option α} {o : α} (h : (if c then none else b) = some o) : ¬ c ∧ b = some o := by
  by_cases hc : c
  · rw [if_pos hc] at h; cases h
  · exact ⟨hc, ag_f hc h⟩
end
section
theorem q0 : Cond.initialized RL ∈ ag_tbl := ag_q 0 (by decide +kernel) (by decide +kernel)
theorem q1 : Cond.initialized RX5 ∈ ag_tbl := ag_q 1 (by decide +kernel) (by decide +kernel)
theorem q2 : Cond.initialized RJxa1e45 ∈ ag_tbl := ag_q 2 (by decide +kernel) (by decide +kernel)
theorem q3 : Cond.initialized RJxc12de ∈ ag_tbl := ag_q 3 (by decide +kernel) (by decide +kernel)
theorem q4 : Cond.initialized RJx4a65c ∈ ag_tbl := ag_q 4 (by decide +kernel) (by decide +kernel)
theorem q5 : Cond.initialized RX4 ∈ ag_tbl := ag_q 5 (by decide +kernel) (by decide +kernel)
theorem q6 : Cond.initialized RJ8 ∈ ag_tbl := ag_q 6 (by decide +kernel) (by decide +kernel)
theorem q7 : Cond.initialized RJ9 ∈ ag_tbl := ag_q 7 (by decide +kernel) (by decide +kernel)
theorem q8 : Cond.initialized RJ7 ∈ ag_tbl := ag_q 8 (by decide +kernel) (by decide +kernel)
theorem q9 : Cond.initialized RJ10 ∈ ag_tbl := ag_q 9 (by decide +kernel) (by decide +kernel)
theorem q10 : Cond.initialized RX3 ∈ ag_tbl := ag_q 10 (by decide +kernel) (by decide +kernel)
theorem q11 : Cond.initialized RX6 ∈ ag_tbl := ag_q 11 (by decide +kernel) (by decide +kernel)
theorem q12 : Cond.initialized "java/lang/Throwable" ∈ ag_tbl := ag_q 12 (by decide +kernel) (by decide +kernel)
theorem q13 : Cond.initialized "java/lang/Exception" ∈ ag_tbl := ag_q 13 (by decide +kernel) (by decide +kernel)
theorem q14 : Cond.initialized "java/lang/RuntimeException" ∈ ag_tbl := ag_q 14 (by decide +kernel) (by decide +kernel)
theorem q15 : Cond.initialized "java/lang/IllegalArgumentException" ∈ ag_tbl := ag_q 15 (by decide +kernel) (by decide +kernel)
theorem q16 : Cond.initialized RJ15 ∈ ag_tbl := ag_q 16 (by decide +kernel) (by decide +kernel)
theorem q17 : Cond.initialized RJ3 ∈ ag_tbl := ag_q 17 (by decide +kernel) (by decide +kernel)
theorem q18 : Cond.initialized "java/lang/IllegalStateException" ∈ ag_tbl := ag_q 18 (by decide +kernel) (by decide +kernel)
theorem q19 : Cond.initialized RX2 ∈ ag_tbl := ag_q 19 (by decide +kernel) (by decide +kernel)
theorem q20 : Cond.initialized "java/lang/IndexOutOfBoundsException" ∈ ag_tbl := ag_q 20 (by decide +kernel) (by decide +kernel)
theorem q21 : Cond.initialized RX0 ∈ ag_tbl := ag_q 21 (by decide +kernel) (by decide +kernel)
theorem q22 : Cond.initialized RJ6 ∈ ag_tbl := ag_q 22 (by decide +kernel) (by decide +kernel)
theorem q23 : Cond.initialized RX1 ∈ ag_tbl := ag_q 23 (by decide +kernel) (by decide +kernel)
theorem q24 : Cond.classLink RL 8 "Amendgrant" ∈ ag_tbl := ag_q 24 (by decide +kernel) (by decide +kernel)
theorem q25 : Cond.instantiable RX5 8 ∈ ag_tbl := ag_q 25 (by decide +kernel) (by decide +kernel)
theorem q26 : Cond.methodLink RL 83 yX5_init ∈ ag_tbl := ag_q 26 (by decide +kernel) (by decide +kernel)
theorem q27 : Cond.instanceMethod yX5_init ∈ ag_tbl := ag_q 27 (by decide +kernel) (by decide +kernel)
theorem q28 : Cond.code yX5_init cX5_init 2 (none) ∈ ag_tbl := ag_q 28 (by decide +kernel) (by decide +kernel)
theorem q29 : Cond.methodLink RX5 1 objectInit ∈ ag_tbl := ag_q 29 (by decide +kernel) (by decide +kernel)
theorem q30 : Cond.instanceMethod objectInit ∈ ag_tbl := ag_q 30 (by decide +kernel) (by decide +kernel)
theorem q31 : Cond.code objectInit object_method_1_code 1 (none) ∈ ag_tbl := ag_q 31 (by decide +kernel) (by decide +kernel)
theorem q32 : Cond.classLink RX5 7 "java/util/ArrayList" ∈ ag_tbl := ag_q 32 (by decide +kernel) (by decide +kernel)
theorem q33 : Cond.instantiable RJx4a65c 3 ∈ ag_tbl := ag_q 33 (by decide +kernel) (by decide +kernel)
theorem q34 : Cond.methodLink RX5 9 yJx4a65c_init_da8c8 ∈ ag_tbl := ag_q 34 (by decide +kernel) (by decide +kernel)
theorem q35 : Cond.instanceMethod yJx4a65c_init_da8c8 ∈ ag_tbl := ag_q 35 (by decide +kernel) (by decide +kernel)
theorem q36 : Cond.code yJx4a65c_init_da8c8 cJx4a65c_init_da8c8 1 (none) ∈ ag_tbl := ag_q 36 (by decide +kernel) (by decide +kernel)
theorem q37 : Cond.methodLink RJx4a65c 1 yJxc12de_init_da8c8 ∈ ag_tbl := ag_q 37 (by decide +kernel) (by decide +kernel)
theorem q38 : Cond.instanceMethod yJxc12de_init_da8c8 ∈ ag_tbl := ag_q 38 (by decide +kernel) (by decide +kernel)
theorem q39 : Cond.code yJxc12de_init_da8c8 cJxc12de_init_da8c8 1 (none) ∈ ag_tbl := ag_q 39 (by decide +kernel) (by decide +kernel)
theorem q40 : Cond.methodLink RJxc12de 1 yJxa1e45_init_da8c8 ∈ ag_tbl := ag_q 40 (by decide +kernel) (by decide +kernel)
theorem q41 : Cond.instanceMethod yJxa1e45_init_da8c8 ∈ ag_tbl := ag_q 41 (by decide +kernel) (by decide +kernel)
theorem q42 : Cond.code yJxa1e45_init_da8c8 cJxa1e45_init_da8c8 1 (none) ∈ ag_tbl := ag_q 42 (by decide +kernel) (by decide +kernel)
theorem q43 : Cond.methodLink RJxa1e45 1 objectInit ∈ ag_tbl := ag_q 43 (by decide +kernel) (by decide +kernel)
theorem q44 : Cond.fieldLink RJx4a65c 39 "java/util/ArrayList" "DEFAULTCAPACITY_EMPTY_ELEMENTDATA" "[Ljava/lang/Object;" ∈ ag_tbl := ag_q 44 (by decide +kernel) (by decide +kernel)
theorem q46 : Cond.fieldLink RJx4a65c 9 "java/util/ArrayList" "elementData" "[Ljava/lang/Object;" ∈ ag_tbl := ag_q 46 (by decide +kernel) (by decide +kernel)
theorem q47 : Cond.fieldLink RJx4a65c 48 "java/util/ArrayList" "size" "I" ∈ ag_tbl := ag_q 47 (by decide +kernel) (by decide +kernel)
theorem q48 : Cond.fieldLink RJxc12de 7 "java/util/AbstractList" "modCount" "I" ∈ ag_tbl := ag_q 48 (by decide +kernel) (by decide +kernel)
theorem q49 : Cond.fieldLink RJx4a65c 63 "java/util/ArrayList" "modCount" "I" ∈ ag_tbl := ag_q 49 (by decide +kernel) (by decide +kernel)
theorem q57 : Cond.superclass "java/util/ArrayList" "java/util/AbstractList" ∈ ag_tbl := ag_q 57 (by decide +kernel) (by decide +kernel)
theorem q58 : Cond.classLink RX5 38 "Amendgrant$Source" ∈ ag_tbl := ag_q 58 (by decide +kernel) (by decide +kernel)
theorem q59 : Cond.instantiable RX4 3 ∈ ag_tbl := ag_q 59 (by decide +kernel) (by decide +kernel)
theorem q60 : Cond.methodLink RX5 40 yX4_init ∈ ag_tbl := ag_q 60 (by decide +kernel) (by decide +kernel)
theorem q61 : Cond.instanceMethod yX4_init ∈ ag_tbl := ag_q 61 (by decide +kernel) (by decide +kernel)
theorem q62 : Cond.code yX4_init cX4_init 2 (none) ∈ ag_tbl := ag_q 62 (by decide +kernel) (by decide +kernel)
theorem q63 : Cond.methodLink RX4 1 objectInit ∈ ag_tbl := ag_q 63 (by decide +kernel) (by decide +kernel)
theorem q64 : Cond.fieldLink RX4 16 "Amendgrant$Source" "number" "I" ∈ ag_tbl := ag_q 64 (by decide +kernel) (by decide +kernel)
theorem q65 : Cond.fieldLink RX5 233 "Amendgrant$Source" "number" "I" ∈ ag_tbl := ag_q 65 (by decide +kernel) (by decide +kernel)
theorem q66 : Cond.fieldLink RX4 7 "Amendgrant$Source" "income" "I" ∈ ag_tbl := ag_q 66 (by decide +kernel) (by decide +kernel)
theorem q67 : Cond.fieldLink RX5 75 "Amendgrant$Source" "income" "I" ∈ ag_tbl := ag_q 67 (by decide +kernel) (by decide +kernel)
theorem q68 : Cond.fieldLink RX4 13 "Amendgrant$Source" "paid" "I" ∈ ag_tbl := ag_q 68 (by decide +kernel) (by decide +kernel)
theorem q69 : Cond.fieldLink RX5 286 "Amendgrant$Source" "paid" "I" ∈ ag_tbl := ag_q 69 (by decide +kernel) (by decide +kernel)
theorem q76 : Cond.superclass "Amendgrant$Source" "java/lang/Object" ∈ ag_tbl := ag_q 76 (by decide +kernel) (by decide +kernel)
theorem q77 : Cond.methodLink RX5 43 yJx4a65c_add_9ea2d ∈ ag_tbl := ag_q 77 (by decide +kernel) (by decide +kernel)
theorem q78 : Cond.instanceMethod yJx4a65c_add_9ea2d ∈ ag_tbl := ag_q 78 (by decide +kernel) (by decide +kernel)
theorem q79 : Cond.selects RJx4a65c yJx4a65c_add_9ea2d yJx4a65c_add_9ea2d ∈ ag_tbl := ag_q 79 (by decide +kernel) (by decide +kernel)
theorem q80 : Cond.code yJx4a65c_add_9ea2d cJx4a65c_add_9ea2d 2 (some FieldType.boolean) ∈ ag_tbl := ag_q 80 (by decide +kernel) (by decide +kernel)
theorem q81 : Cond.methodLink RJx4a65c 131 yJx4a65c_add_72be8 ∈ ag_tbl := ag_q 81 (by decide +kernel) (by decide +kernel)
theorem q83 : Cond.instanceMethod yJx4a65c_add_72be8 ∈ ag_tbl := ag_q 83 (by decide +kernel) (by decide +kernel)
theorem q84 : Cond.code yJx4a65c_add_72be8 cJx4a65c_add_72be8 4 (none) ∈ ag_tbl := ag_q 84 (by decide +kernel) (by decide +kernel)
theorem q85 : Cond.methodLink RJx4a65c 129 yJx4a65c_grow_d5877 ∈ ag_tbl := ag_q 85 (by decide +kernel) (by decide +kernel)
theorem q87 : Cond.instanceMethod yJx4a65c_grow_d5877 ∈ ag_tbl := ag_q 87 (by decide +kernel) (by decide +kernel)
theorem q88 : Cond.code yJx4a65c_grow_d5877 cJx4a65c_grow_d5877 1 (some (FieldType.array (FieldType.object "java/lang/Object"))) ∈ ag_tbl := ag_q 88 (by decide +kernel) (by decide +kernel)
theorem q89 : Cond.methodLink RJx4a65c 69 yJx4a65c_grow_92f84 ∈ ag_tbl := ag_q 89 (by decide +kernel) (by decide +kernel)
theorem q91 : Cond.instanceMethod yJx4a65c_grow_92f84 ∈ ag_tbl := ag_q 91 (by decide +kernel) (by decide +kernel)
theorem q92 : Cond.code yJx4a65c_grow_92f84 cJx4a65c_grow_92f84 4 (some (FieldType.array (FieldType.object "java/lang/Object"))) ∈ ag_tbl := ag_q 92 (by decide +kernel) (by decide +kernel)
theorem q93 : Cond.methodLink RJx4a65c 73 yJ8_newLength_cabcc ∈ ag_tbl := ag_q 93 (by decide +kernel) (by decide +kernel)
theorem q94 : Cond.static yJ8_newLength_cabcc ∈ ag_tbl := ag_q 94 (by decide +kernel) (by decide +kernel)
theorem q95 : Cond.code yJ8_newLength_cabcc cJ8_newLength_cabcc 4 (some FieldType.int) ∈ ag_tbl := ag_q 95 (by decide +kernel) (by decide +kernel)
theorem q96 : Cond.methodLink RJ8 194 yJ9_max_7cf53 ∈ ag_tbl := ag_q 96 (by decide +kernel) (by decide +kernel)
theorem q97 : Cond.static yJ9_max_7cf53 ∈ ag_tbl := ag_q 97 (by decide +kernel) (by decide +kernel)
theorem q98 : Cond.code yJ9_max_7cf53 cJ9_max_7cf53 2 (some FieldType.int) ∈ ag_tbl := ag_q 98 (by decide +kernel) (by decide +kernel)
theorem q99 : Cond.constant RJ8 200 (2147483639 : Int32) ∈ ag_tbl := ag_q 99 (by decide +kernel) (by decide +kernel)
theorem q100 : Cond.methodLink RJ8 201 yJ8_hugeLength_7cf53 ∈ ag_tbl := ag_q 100 (by decide +kernel) (by decide +kernel)
theorem q101 : Cond.static yJ8_hugeLength_7cf53 ∈ ag_tbl := ag_q 101 (by decide +kernel) (by decide +kernel)
theorem q102 : Cond.code yJ8_hugeLength_7cf53 cJ8_hugeLength_7cf53 3 (some FieldType.int) ∈ ag_tbl := ag_q 102 (by decide +kernel) (by decide +kernel)
theorem q103 : Cond.methodLink RJx4a65c 66 yJ7_copyOf_1904c ∈ ag_tbl := ag_q 103 (by decide +kernel) (by decide +kernel)
theorem q104 : Cond.static yJ7_copyOf_1904c ∈ ag_tbl := ag_q 104 (by decide +kernel) (by decide +kernel)
theorem q105 : Cond.code yJ7_copyOf_1904c cJ7_copyOf_1904c 2 (some (FieldType.array (FieldType.object "java/lang/Object"))) ∈ ag_tbl := ag_q 105 (by decide +kernel) (by decide +kernel)
theorem q106 : Cond.methodLink RJ7 86 ⟨"java/lang/Object", "getClass", "()Ljava/lang/Class;"⟩ ∈ ag_tbl := ag_q 106 (by decide +kernel) (by decide +kernel)
theorem q107 : Cond.instanceMethod ⟨"java/lang/Object", "getClass", "()Ljava/lang/Class;"⟩ ∈ ag_tbl := ag_q 107 (by decide +kernel) (by decide +kernel)
theorem q109 : Cond.selects RX5 ⟨"java/lang/Object", "getClass", "()Ljava/lang/Class;"⟩ ⟨"java/lang/Object", "getClass", "()Ljava/lang/Class;"⟩ ∈ ag_tbl := ag_q 109 (by decide +kernel) (by decide +kernel)
theorem q110 : Cond.selects RX0 ⟨"java/lang/Object", "getClass", "()Ljava/lang/Class;"⟩ ⟨"java/lang/Object", "getClass", "()Ljava/lang/Class;"⟩ ∈ ag_tbl := ag_q 110 (by decide +kernel) (by decide +kernel)
theorem q111 : Cond.selects RX1 ⟨"java/lang/Object", "getClass", "()Ljava/lang/Class;"⟩ ⟨"java/lang/Object", "getClass", "()Ljava/lang/Class;"⟩ ∈ ag_tbl := ag_q 111 (by decide +kernel) (by decide +kernel)
theorem q112 : Cond.selects RX2 ⟨"java/lang/Object", "getClass", "()Ljava/lang/Class;"⟩ ⟨"java/lang/Object", "getClass", "()Ljava/lang/Class;"⟩ ∈ ag_tbl := ag_q 112 (by decide +kernel) (by decide +kernel)
theorem q113 : Cond.selects RX3 ⟨"java/lang/Object", "getClass", "()Ljava/lang/Class;"⟩ ⟨"java/lang/Object", "getClass", "()Ljava/lang/Class;"⟩ ∈ ag_tbl := ag_q 113 (by decide +kernel) (by decide +kernel)
theorem q114 : Cond.selects RX4 ⟨"java/lang/Object", "getClass", "()Ljava/lang/Class;"⟩ ⟨"java/lang/Object", "getClass", "()Ljava/lang/Class;"⟩ ∈ ag_tbl := ag_q 114 (by decide +kernel) (by decide +kernel)
theorem q115 : Cond.selects RX6 ⟨"java/lang/Object", "getClass", "()Ljava/lang/Class;"⟩ ⟨"java/lang/Object", "getClass", "()Ljava/lang/Class;"⟩ ∈ ag_tbl := ag_q 115 (by decide +kernel) (by decide +kernel)
theorem q116 : Cond.selects "java/lang/IllegalArgumentException" ⟨"java/lang/Object", "getClass", "()Ljava/lang/Class;"⟩ ⟨"java/lang/Object", "getClass", "()Ljava/lang/Class;"⟩ ∈ ag_tbl := ag_q 116 (by decide +kernel) (by decide +kernel)
theorem q117 : Cond.selects "java/lang/IllegalStateException" ⟨"java/lang/Object", "getClass", "()Ljava/lang/Class;"⟩ ⟨"java/lang/Object", "getClass", "()Ljava/lang/Class;"⟩ ∈ ag_tbl := ag_q 117 (by decide +kernel) (by decide +kernel)
theorem q118 : Cond.selects "java/lang/IndexOutOfBoundsException" ⟨"java/lang/Object", "getClass", "()Ljava/lang/Class;"⟩ ⟨"java/lang/Object", "getClass", "()Ljava/lang/Class;"⟩ ∈ ag_tbl := ag_q 118 (by decide +kernel) (by decide +kernel)
theorem q119 : Cond.selects RJx4a65c ⟨"java/lang/Object", "getClass", "()Ljava/lang/Class;"⟩ ⟨"java/lang/Object", "getClass", "()Ljava/lang/Class;"⟩ ∈ ag_tbl := ag_q 119 (by decide +kernel) (by decide +kernel)
theorem q121 : Cond.methodLink RJ7 300 yJ7_copyOf_6403c ∈ ag_tbl := ag_q 121 (by decide +kernel) (by decide +kernel)
theorem q122 : Cond.static yJ7_copyOf_6403c ∈ ag_tbl := ag_q 122 (by decide +kernel) (by decide +kernel)
theorem q123 : Cond.code yJ7_copyOf_6403c cJ7_copyOf_6403c 4 (some (FieldType.array (FieldType.object "java/lang/Object"))) ∈ ag_tbl := ag_q 123 (by decide +kernel) (by decide +kernel)
theorem q124 : Cond.classLink RJ7 110 "[Ljava/lang/Object;" ∈ ag_tbl := ag_q 124 (by decide +kernel) (by decide +kernel)
theorem q126 : Cond.classLink RJ7 2 "java/lang/Object" ∈ ag_tbl := ag_q 126 (by decide +kernel) (by decide +kernel)
theorem q127 : Cond.methodLink RJ7 304 yJ9_min_7cf53 ∈ ag_tbl := ag_q 127 (by decide +kernel) (by decide +kernel)
theorem q128 : Cond.static yJ9_min_7cf53 ∈ ag_tbl := ag_q 128 (by decide +kernel) (by decide +kernel)
theorem q129 : Cond.code yJ9_min_7cf53 cJ9_min_7cf53 2 (some FieldType.int) ∈ ag_tbl := ag_q 129 (by decide +kernel) (by decide +kernel)
theorem q130 : Cond.methodLink RJ7 150 ⟨"java/lang/System", "arraycopy", "(Ljava/lang/Object;ILjava/lang/Object;II)V"⟩ ∈ ag_tbl := ag_q 130 (by decide +kernel) (by decide +kernel)
theorem q131 : Cond.static ⟨"java/lang/System", "arraycopy", "(Ljava/lang/Object;ILjava/lang/Object;II)V"⟩ ∈ ag_tbl := ag_q 131 (by decide +kernel) (by decide +kernel)
theorem q133 : Cond.methodLink RJx4a65c 79 yJ9_max_7cf53 ∈ ag_tbl := ag_q 133 (by decide +kernel) (by decide +kernel)
theorem q134 : Cond.classLink RJx4a65c 7 "java/lang/Object" ∈ ag_tbl := ag_q 134 (by decide +kernel) (by decide +kernel)
theorem q135 : Cond.classLink RX5 47 "Amendgrant$Receiver" ∈ ag_tbl := ag_q 135 (by decide +kernel) (by decide +kernel)
theorem q136 : Cond.instantiable RX3 2 ∈ ag_tbl := ag_q 136 (by decide +kernel) (by decide +kernel)
theorem q137 : Cond.methodLink RX5 49 yX3_init ∈ ag_tbl := ag_q 137 (by decide +kernel) (by decide +kernel)
theorem q138 : Cond.instanceMethod yX3_init ∈ ag_tbl := ag_q 138 (by decide +kernel) (by decide +kernel)
theorem q139 : Cond.code yX3_init cX3_init 2 (none) ∈ ag_tbl := ag_q 139 (by decide +kernel) (by decide +kernel)
theorem q140 : Cond.methodLink RX3 1 objectInit ∈ ag_tbl := ag_q 140 (by decide +kernel) (by decide +kernel)
theorem q141 : Cond.fieldLink RX3 13 "Amendgrant$Receiver" "number" "I" ∈ ag_tbl := ag_q 141 (by decide +kernel) (by decide +kernel)
theorem q142 : Cond.fieldLink RX5 279 "Amendgrant$Receiver" "number" "I" ∈ ag_tbl := ag_q 142 (by decide +kernel) (by decide +kernel)
theorem q143 : Cond.fieldLink RX3 7 "Amendgrant$Receiver" "debt" "I" ∈ ag_tbl := ag_q 143 (by decide +kernel) (by decide +kernel)
theorem q144 : Cond.fieldLink RX1 43 "Amendgrant$Receiver" "debt" "I" ∈ ag_tbl := ag_q 144 (by decide +kernel) (by decide +kernel)
theorem q145 : Cond.fieldLink RX5 210 "Amendgrant$Receiver" "debt" "I" ∈ ag_tbl := ag_q 145 (by decide +kernel) (by decide +kernel)
theorem q150 : Cond.superclass "Amendgrant$Receiver" "java/lang/Object" ∈ ag_tbl := ag_q 150 (by decide +kernel) (by decide +kernel)
theorem q151 : Cond.fieldLink RX5 10 "Amendgrant" "sources" "Ljava/util/ArrayList;" ∈ ag_tbl := ag_q 151 (by decide +kernel) (by decide +kernel)
theorem q152 : Cond.fieldLink RX5 16 "Amendgrant" "receivers" "Ljava/util/ArrayList;" ∈ ag_tbl := ag_q 152 (by decide +kernel) (by decide +kernel)
theorem q153 : Cond.fieldLink RX5 19 "Amendgrant" "lines" "Ljava/util/ArrayList;" ∈ ag_tbl := ag_q 153 (by decide +kernel) (by decide +kernel)
theorem q154 : Cond.fieldLink RX5 22 "Amendgrant" "amendments" "Ljava/util/ArrayList;" ∈ ag_tbl := ag_q 154 (by decide +kernel) (by decide +kernel)
theorem q155 : Cond.fieldLink RX5 25 "Amendgrant" "grants" "Ljava/util/ArrayList;" ∈ ag_tbl := ag_q 155 (by decide +kernel) (by decide +kernel)
theorem q156 : Cond.fieldLink RX5 28 "Amendgrant" "inReserve" "I" ∈ ag_tbl := ag_q 156 (by decide +kernel) (by decide +kernel)
theorem q157 : Cond.fieldLink RX5 32 "Amendgrant" "percentOfTarget" "I" ∈ ag_tbl := ag_q 157 (by decide +kernel) (by decide +kernel)
theorem q158 : Cond.fieldLink RX5 35 "Amendgrant" "thisMonth" "I" ∈ ag_tbl := ag_q 158 (by decide +kernel) (by decide +kernel)
theorem q175 : Cond.superclass "Amendgrant" "java/lang/Object" ∈ ag_tbl := ag_q 175 (by decide +kernel) (by decide +kernel)
theorem q176 : Cond.methodLink RL 157 yX5_reserve ∈ ag_tbl := ag_q 176 (by decide +kernel) (by decide +kernel)
theorem q177 : Cond.instanceMethod yX5_reserve ∈ ag_tbl := ag_q 177 (by decide +kernel) (by decide +kernel)
theorem q178 : Cond.selects RX5 yX5_reserve yX5_reserve ∈ ag_tbl := ag_q 178 (by decide +kernel) (by decide +kernel)
theorem q179 : Cond.code yX5_reserve cX5_reserve 1 (some FieldType.int) ∈ ag_tbl := ag_q 179 (by decide +kernel) (by decide +kernel)
theorem q180 : Cond.methodLink RL 87 yL_line ∈ ag_tbl := ag_q 180 (by decide +kernel) (by decide +kernel)
theorem q181 : Cond.static yL_line ∈ ag_tbl := ag_q 181 (by decide +kernel) (by decide +kernel)
theorem q182 : Cond.codeWith yL_line cL_line 5 (some FieldType.int) [(0, 10, 13, 13), (0, 10, 17, 15)] ∈ ag_tbl := ag_q 182 (by decide +kernel) (by decide +kernel)
theorem q183 : Cond.classLink RL 13 "java/lang/IllegalArgumentException" ∈ ag_tbl := ag_q 183 (by decide +kernel) (by decide +kernel)
theorem q184 : Cond.classLink RL 15 "java/lang/IllegalStateException" ∈ ag_tbl := ag_q 184 (by decide +kernel) (by decide +kernel)
theorem q185 : Cond.methodLink RL 7 yX5_line ∈ ag_tbl := ag_q 185 (by decide +kernel) (by decide +kernel)
theorem q186 : Cond.instanceMethod yX5_line ∈ ag_tbl := ag_q 186 (by decide +kernel) (by decide +kernel)
theorem q187 : Cond.selects RX5 yX5_line yX5_line ∈ ag_tbl := ag_q 187 (by decide +kernel) (by decide +kernel)
theorem q188 : Cond.code yX5_line cX5_line 5 (some FieldType.int) ∈ ag_tbl := ag_q 188 (by decide +kernel) (by decide +kernel)
theorem q189 : Cond.methodLink RX5 50 yX5_sourceAt ∈ ag_tbl := ag_q 189 (by decide +kernel) (by decide +kernel)
theorem q191 : Cond.instanceMethod yX5_sourceAt ∈ ag_tbl := ag_q 191 (by decide +kernel) (by decide +kernel)
theorem q192 : Cond.code yX5_sourceAt cX5_sourceAt 2 (some (FieldType.object "Amendgrant$Source")) ∈ ag_tbl := ag_q 192 (by decide +kernel) (by decide +kernel)
theorem q193 : Cond.methodLink RX5 59 yJx4a65c_size_8abf5 ∈ ag_tbl := ag_q 193 (by decide +kernel) (by decide +kernel)
theorem q194 : Cond.instanceMethod yJx4a65c_size_8abf5 ∈ ag_tbl := ag_q 194 (by decide +kernel) (by decide +kernel)
theorem q195 : Cond.selects RJx4a65c yJx4a65c_size_8abf5 yJx4a65c_size_8abf5 ∈ ag_tbl := ag_q 195 (by decide +kernel) (by decide +kernel)
theorem q196 : Cond.code yJx4a65c_size_8abf5 cJx4a65c_size_8abf5 1 (some FieldType.int) ∈ ag_tbl := ag_q 196 (by decide +kernel) (by decide +kernel)
theorem q197 : Cond.classLink RX5 236 "java/lang/IllegalArgumentException" ∈ ag_tbl := ag_q 197 (by decide +kernel) (by decide +kernel)
theorem q198 : Cond.instantiable "java/lang/IllegalArgumentException" 6 ∈ ag_tbl := ag_q 198 (by decide +kernel) (by decide +kernel)
theorem q206 : Cond.selects "java/lang/IllegalArgumentException" ⟨"java/lang/Throwable", "fillInStackTrace", "(I)Ljava/lang/Throwable;"⟩ ⟨"java/lang/Throwable", "fillInStackTrace", "(I)Ljava/lang/Throwable;"⟩ ∈ ag_tbl := ag_q 206 (by decide +kernel) (by decide +kernel)
theorem q207 : Cond.selects "java/lang/IllegalArgumentException" ⟨"java/lang/Throwable", "fillInStackTrace", "()Ljava/lang/Throwable;"⟩ ⟨"java/lang/Throwable", "fillInStackTrace", "()Ljava/lang/Throwable;"⟩ ∈ ag_tbl := ag_q 207 (by decide +kernel) (by decide +kernel)
theorem q218 : Cond.fieldLink "java/lang/Throwable" 198 "java/lang/Throwable" "backtrace" "Ljava/lang/Object;" ∈ ag_tbl := ag_q 218 (by decide +kernel) (by decide +kernel)
theorem q219 : Cond.superclass "java/lang/Throwable" "java/lang/Object" ∈ ag_tbl := ag_q 219 (by decide +kernel) (by decide +kernel)
theorem q220 : Cond.instanceMethod ⟨"java/lang/Throwable", "<init>", "()V"⟩ ∈ ag_tbl := ag_q 220 (by decide +kernel) (by decide +kernel)
theorem q221 : Cond.code ⟨"java/lang/Throwable", "<init>", "()V"⟩ prog_21_method_1_code 1 (none) ∈ ag_tbl := ag_q 221 (by decide +kernel) (by decide +kernel)
theorem q222 : Cond.methodLink "java/lang/Throwable" 1 objectInit ∈ ag_tbl := ag_q 222 (by decide +kernel) (by decide +kernel)
theorem q223 : Cond.fieldLink "java/lang/Throwable" 13 "java/lang/Throwable" "UNASSIGNED_STACK" "[Ljava/lang/StackTraceElement;" ∈ ag_tbl := ag_q 223 (by decide +kernel) (by decide +kernel)
theorem q225 : Cond.fieldLink "java/lang/Throwable" 20 "java/lang/Throwable" "SUPPRESSED_SENTINEL" "Ljava/util/List;" ∈ ag_tbl := ag_q 225 (by decide +kernel) (by decide +kernel)
theorem q227 : Cond.methodLink "java/lang/Throwable" 27 ⟨"java/lang/Throwable", "fillInStackTrace", "()Ljava/lang/Throwable;"⟩ ∈ ag_tbl := ag_q 227 (by decide +kernel) (by decide +kernel)
theorem q228 : Cond.instanceMethod ⟨"java/lang/Throwable", "fillInStackTrace", "()Ljava/lang/Throwable;"⟩ ∈ ag_tbl := ag_q 228 (by decide +kernel) (by decide +kernel)
theorem q230 : Cond.selects "java/lang/IllegalStateException" ⟨"java/lang/Throwable", "fillInStackTrace", "()Ljava/lang/Throwable;"⟩ ⟨"java/lang/Throwable", "fillInStackTrace", "()Ljava/lang/Throwable;"⟩ ∈ ag_tbl := ag_q 230 (by decide +kernel) (by decide +kernel)
theorem q231 : Cond.selects "java/lang/IndexOutOfBoundsException" ⟨"java/lang/Throwable", "fillInStackTrace", "()Ljava/lang/Throwable;"⟩ ⟨"java/lang/Throwable", "fillInStackTrace", "()Ljava/lang/Throwable;"⟩ ∈ ag_tbl := ag_q 231 (by decide +kernel) (by decide +kernel)
theorem q233 : Cond.methodLink "java/lang/Throwable" 202 ⟨"java/lang/Throwable", "fillInStackTrace", "(I)Ljava/lang/Throwable;"⟩ ∈ ag_tbl := ag_q 233 (by decide +kernel) (by decide +kernel)
theorem q235 : Cond.instanceMethod ⟨"java/lang/Throwable", "fillInStackTrace", "(I)Ljava/lang/Throwable;"⟩ ∈ ag_tbl := ag_q 235 (by decide +kernel) (by decide +kernel)
theorem q236 : Cond.instantiable "java/lang/Throwable" 6 ∈ ag_tbl := ag_q 236 (by decide +kernel) (by decide +kernel)
theorem q239 : Cond.methodLink RX5 240 ⟨"java/lang/IllegalArgumentException", "<init>", "(Ljava/lang/String;)V"⟩ ∈ ag_tbl := ag_q 239 (by decide +kernel) (by decide +kernel)
theorem q240 : Cond.instanceMethod ⟨"java/lang/IllegalArgumentException", "<init>", "(Ljava/lang/String;)V"⟩ ∈ ag_tbl := ag_q 240 (by decide +kernel) (by decide +kernel)
theorem q241 : Cond.code ⟨"java/lang/IllegalArgumentException", "<init>", "(Ljava/lang/String;)V"⟩ prog_12_method_2_code 2 (none) ∈ ag_tbl := ag_q 241 (by decide +kernel) (by decide +kernel)
theorem q242 : Cond.methodLink "java/lang/IllegalArgumentException" 7 ⟨"java/lang/RuntimeException", "<init>", "(Ljava/lang/String;)V"⟩ ∈ ag_tbl := ag_q 242 (by decide +kernel) (by decide +kernel)
theorem q243 : Cond.instanceMethod ⟨"java/lang/RuntimeException", "<init>", "(Ljava/lang/String;)V"⟩ ∈ ag_tbl := ag_q 243 (by decide +kernel) (by decide +kernel)
theorem q244 : Cond.code ⟨"java/lang/RuntimeException", "<init>", "(Ljava/lang/String;)V"⟩ prog_18_method_2_code 2 (none) ∈ ag_tbl := ag_q 244 (by decide +kernel) (by decide +kernel)
theorem q245 : Cond.methodLink "java/lang/RuntimeException" 7 ⟨"java/lang/Exception", "<init>", "(Ljava/lang/String;)V"⟩ ∈ ag_tbl := ag_q 245 (by decide +kernel) (by decide +kernel)
theorem q246 : Cond.instanceMethod ⟨"java/lang/Exception", "<init>", "(Ljava/lang/String;)V"⟩ ∈ ag_tbl := ag_q 246 (by decide +kernel) (by decide +kernel)
theorem q247 : Cond.code ⟨"java/lang/Exception", "<init>", "(Ljava/lang/String;)V"⟩ prog_11_method_2_code 2 (none) ∈ ag_tbl := ag_q 247 (by decide +kernel) (by decide +kernel)
theorem q248 : Cond.methodLink "java/lang/Exception" 7 ⟨"java/lang/Throwable", "<init>", "(Ljava/lang/String;)V"⟩ ∈ ag_tbl := ag_q 248 (by decide +kernel) (by decide +kernel)
theorem q249 : Cond.instanceMethod ⟨"java/lang/Throwable", "<init>", "(Ljava/lang/String;)V"⟩ ∈ ag_tbl := ag_q 249 (by decide +kernel) (by decide +kernel)
theorem q250 : Cond.code ⟨"java/lang/Throwable", "<init>", "(Ljava/lang/String;)V"⟩ prog_21_method_2_code 2 (none) ∈ ag_tbl := ag_q 250 (by decide +kernel) (by decide +kernel)
theorem q251 : Cond.fieldLink "java/lang/Throwable" 198 "java/lang/Throwable" "backtrace" "Ljava/lang/Object;" ∈ ag_tbl := ag_q 251 (by decide +kernel) (by decide +kernel)
theorem q252 : Cond.fieldLink "java/lang/Throwable" 31 "java/lang/Throwable" "detailMessage" "Ljava/lang/String;" ∈ ag_tbl := ag_q 252 (by decide +kernel) (by decide +kernel)
theorem q253 : Cond.fieldLink "java/lang/Throwable" 7 "java/lang/Throwable" "cause" "Ljava/lang/Throwable;" ∈ ag_tbl := ag_q 253 (by decide +kernel) (by decide +kernel)
theorem q254 : Cond.fieldLink "java/lang/Throwable" 17 "java/lang/Throwable" "stackTrace" "[Ljava/lang/StackTraceElement;" ∈ ag_tbl := ag_q 254 (by decide +kernel) (by decide +kernel)
theorem q255 : Cond.fieldLink "java/lang/Throwable" 24 "java/lang/Throwable" "suppressedExceptions" "Ljava/util/List;" ∈ ag_tbl := ag_q 255 (by decide +kernel) (by decide +kernel)
theorem q263 : Cond.superclass "java/lang/IllegalArgumentException" "java/lang/RuntimeException" ∈ ag_tbl := ag_q 263 (by decide +kernel) (by decide +kernel)
theorem q264 : Cond.arrayClass FieldType.byte ∈ ag_tbl := ag_q 264 (by decide +kernel) (by decide +kernel)
theorem q265 : Cond.methodLink RX5 241 yJx4a65c_get_915e3 ∈ ag_tbl := ag_q 265 (by decide +kernel) (by decide +kernel)
theorem q266 : Cond.instanceMethod yJx4a65c_get_915e3 ∈ ag_tbl := ag_q 266 (by decide +kernel) (by decide +kernel)
theorem q267 : Cond.selects RJx4a65c yJx4a65c_get_915e3 yJx4a65c_get_915e3 ∈ ag_tbl := ag_q 267 (by decide +kernel) (by decide +kernel)
theorem q268 : Cond.code yJx4a65c_get_915e3 cJx4a65c_get_915e3 2 (some (FieldType.object "java/lang/Object")) ∈ ag_tbl := ag_q 268 (by decide +kernel) (by decide +kernel)
theorem q269 : Cond.methodLink RJx4a65c 118 yJ15_checkIndex_7cf53 ∈ ag_tbl := ag_q 269 (by decide +kernel) (by decide +kernel)
theorem q270 : Cond.static yJ15_checkIndex_7cf53 ∈ ag_tbl := ag_q 270 (by decide +kernel) (by decide +kernel)
theorem q271 : Cond.code yJ15_checkIndex_7cf53 cJ15_checkIndex_7cf53 2 (some FieldType.int) ∈ ag_tbl := ag_q 271 (by decide +kernel) (by decide +kernel)
theorem q272 : Cond.methodLink RJ15 105 yJ3_checkIndex_8e157 ∈ ag_tbl := ag_q 272 (by decide +kernel) (by decide +kernel)
theorem q273 : Cond.static yJ3_checkIndex_8e157 ∈ ag_tbl := ag_q 273 (by decide +kernel) (by decide +kernel)
theorem q274 : Cond.code yJ3_checkIndex_8e157 cJ3_checkIndex_8e157 3 (some FieldType.int) ∈ ag_tbl := ag_q 274 (by decide +kernel) (by decide +kernel)
theorem q275 : Cond.methodLink RJx4a65c 123 yJx4a65c_elementData_915e3 ∈ ag_tbl := ag_q 275 (by decide +kernel) (by decide +kernel)
theorem q276 : Cond.instanceMethod yJx4a65c_elementData_915e3 ∈ ag_tbl := ag_q 276 (by decide +kernel) (by decide +kernel)
theorem q277 : Cond.selects RJx4a65c yJx4a65c_elementData_915e3 yJx4a65c_elementData_915e3 ∈ ag_tbl := ag_q 277 (by decide +kernel) (by decide +kernel)
theorem q278 : Cond.code yJx4a65c_elementData_915e3 cJx4a65c_elementData_915e3 2 (some (FieldType.object "java/lang/Object")) ∈ ag_tbl := ag_q 278 (by decide +kernel) (by decide +kernel)
theorem q279 : Cond.constant RX5 54 (100000 : Int32) ∈ ag_tbl := ag_q 279 (by decide +kernel) (by decide +kernel)
theorem q280 : Cond.methodLink RX5 55 yX5_needRange ∈ ag_tbl := ag_q 280 (by decide +kernel) (by decide +kernel)
theorem q281 : Cond.static yX5_needRange ∈ ag_tbl := ag_q 281 (by decide +kernel) (by decide +kernel)
theorem q282 : Cond.code yX5_needRange cX5_needRange 3 (none) ∈ ag_tbl := ag_q 282 (by decide +kernel) (by decide +kernel)
theorem q284 : Cond.classLink RX5 63 "java/lang/IllegalStateException" ∈ ag_tbl := ag_q 284 (by decide +kernel) (by decide +kernel)
theorem q285 : Cond.instantiable "java/lang/IllegalStateException" 6 ∈ ag_tbl := ag_q 285 (by decide +kernel) (by decide +kernel)
theorem q287 : Cond.selects "java/lang/IllegalStateException" ⟨"java/lang/Throwable", "fillInStackTrace", "(I)Ljava/lang/Throwable;"⟩ ⟨"java/lang/Throwable", "fillInStackTrace", "(I)Ljava/lang/Throwable;"⟩ ∈ ag_tbl := ag_q 287 (by decide +kernel) (by decide +kernel)
theorem q294 : Cond.methodLink RX5 67 ⟨"java/lang/IllegalStateException", "<init>", "(Ljava/lang/String;)V"⟩ ∈ ag_tbl := ag_q 294 (by decide +kernel) (by decide +kernel)
theorem q295 : Cond.instanceMethod ⟨"java/lang/IllegalStateException", "<init>", "(Ljava/lang/String;)V"⟩ ∈ ag_tbl := ag_q 295 (by decide +kernel) (by decide +kernel)
theorem q296 : Cond.code ⟨"java/lang/IllegalStateException", "<init>", "(Ljava/lang/String;)V"⟩ prog_13_method_2_code 2 (none) ∈ ag_tbl := ag_q 296 (by decide +kernel) (by decide +kernel)
theorem q297 : Cond.methodLink "java/lang/IllegalStateException" 7 ⟨"java/lang/RuntimeException", "<init>", "(Ljava/lang/String;)V"⟩ ∈ ag_tbl := ag_q 297 (by decide +kernel) (by decide +kernel)
theorem q299 : Cond.superclass "java/lang/IllegalStateException" "java/lang/RuntimeException" ∈ ag_tbl := ag_q 299 (by decide +kernel) (by decide +kernel)
theorem q300 : Cond.classLink RX5 70 "Amendgrant$Line" ∈ ag_tbl := ag_q 300 (by decide +kernel) (by decide +kernel)
theorem q301 : Cond.instantiable RX2 7 ∈ ag_tbl := ag_q 301 (by decide +kernel) (by decide +kernel)
theorem q302 : Cond.methodLink RX5 72 yX2_init ∈ ag_tbl := ag_q 302 (by decide +kernel) (by decide +kernel)
theorem q303 : Cond.instanceMethod yX2_init ∈ ag_tbl := ag_q 303 (by decide +kernel) (by decide +kernel)
theorem q304 : Cond.code yX2_init cX2_init 4 (none) ∈ ag_tbl := ag_q 304 (by decide +kernel) (by decide +kernel)
theorem q305 : Cond.methodLink RX2 1 objectInit ∈ ag_tbl := ag_q 305 (by decide +kernel) (by decide +kernel)
theorem q306 : Cond.fieldLink RX2 22 "Amendgrant$Line" "number" "I" ∈ ag_tbl := ag_q 306 (by decide +kernel) (by decide +kernel)
theorem q307 : Cond.fieldLink RX5 271 "Amendgrant$Line" "number" "I" ∈ ag_tbl := ag_q 307 (by decide +kernel) (by decide +kernel)
theorem q308 : Cond.fieldLink RX2 25 "Amendgrant$Line" "source" "LAmendgrant$Source;" ∈ ag_tbl := ag_q 308 (by decide +kernel) (by decide +kernel)
theorem q309 : Cond.fieldLink RX5 183 "Amendgrant$Line" "source" "LAmendgrant$Source;" ∈ ag_tbl := ag_q 309 (by decide +kernel) (by decide +kernel)
theorem q310 : Cond.fieldLink RX2 29 "Amendgrant$Line" "atFirst" "I" ∈ ag_tbl := ag_q 310 (by decide +kernel) (by decide +kernel)
theorem q311 : Cond.fieldLink RX2 7 "Amendgrant$Line" "brought" "I" ∈ ag_tbl := ag_q 311 (by decide +kernel) (by decide +kernel)
theorem q312 : Cond.fieldLink RX5 337 "Amendgrant$Line" "brought" "I" ∈ ag_tbl := ag_q 312 (by decide +kernel) (by decide +kernel)
theorem q313 : Cond.fieldLink RX2 13 "Amendgrant$Line" "spent" "I" ∈ ag_tbl := ag_q 313 (by decide +kernel) (by decide +kernel)
theorem q314 : Cond.fieldLink RX1 51 "Amendgrant$Line" "spent" "I" ∈ ag_tbl := ag_q 314 (by decide +kernel) (by decide +kernel)
theorem q315 : Cond.fieldLink RX5 198 "Amendgrant$Line" "spent" "I" ∈ ag_tbl := ag_q 315 (by decide +kernel) (by decide +kernel)
theorem q316 : Cond.fieldLink RX2 16 "Amendgrant$Line" "taken" "I" ∈ ag_tbl := ag_q 316 (by decide +kernel) (by decide +kernel)
theorem q317 : Cond.fieldLink RX5 227 "Amendgrant$Line" "taken" "I" ∈ ag_tbl := ag_q 317 (by decide +kernel) (by decide +kernel)
theorem q318 : Cond.fieldLink RX2 19 "Amendgrant$Line" "covered" "I" ∈ ag_tbl := ag_q 318 (by decide +kernel) (by decide +kernel)
theorem q319 : Cond.fieldLink RX5 230 "Amendgrant$Line" "covered" "I" ∈ ag_tbl := ag_q 319 (by decide +kernel) (by decide +kernel)
theorem q334 : Cond.superclass "Amendgrant$Line" "java/lang/Object" ∈ ag_tbl := ag_q 334 (by decide +kernel) (by decide +kernel)
theorem q335 : Cond.methodLink RL 97 yL_income ∈ ag_tbl := ag_q 335 (by decide +kernel) (by decide +kernel)
theorem q336 : Cond.static yL_income ∈ ag_tbl := ag_q 336 (by decide +kernel) (by decide +kernel)
theorem q337 : Cond.codeWith yL_income cL_income 5 (some FieldType.int) [(0, 10, 13, 13)] ∈ ag_tbl := ag_q 337 (by decide +kernel) (by decide +kernel)
theorem q338 : Cond.methodLink RL 17 yX5_income ∈ ag_tbl := ag_q 338 (by decide +kernel) (by decide +kernel)
theorem q339 : Cond.instanceMethod yX5_income ∈ ag_tbl := ag_q 339 (by decide +kernel) (by decide +kernel)
theorem q340 : Cond.selects RX5 yX5_income yX5_income ∈ ag_tbl := ag_q 340 (by decide +kernel) (by decide +kernel)
theorem q341 : Cond.code yX5_income cX5_income 4 (some FieldType.int) ∈ ag_tbl := ag_q 341 (by decide +kernel) (by decide +kernel)
theorem q342 : Cond.methodLink RL 100 yL_amend ∈ ag_tbl := ag_q 342 (by decide +kernel) (by decide +kernel)
theorem q343 : Cond.static yL_amend ∈ ag_tbl := ag_q 343 (by decide +kernel) (by decide +kernel)
theorem q344 : Cond.codeWith yL_amend cL_amend 5 (some FieldType.int) [(0, 10, 13, 23), (0, 10, 17, 13), (0, 10, 21, 15)] ∈ ag_tbl := ag_q 344 (by decide +kernel) (by decide +kernel)
theorem q345 : Cond.classLink RL 23 "java/lang/IndexOutOfBoundsException" ∈ ag_tbl := ag_q 345 (by decide +kernel) (by decide +kernel)
theorem q346 : Cond.methodLink RL 20 yX5_amend ∈ ag_tbl := ag_q 346 (by decide +kernel) (by decide +kernel)
theorem q347 : Cond.instanceMethod yX5_amend ∈ ag_tbl := ag_q 347 (by decide +kernel) (by decide +kernel)
theorem q348 : Cond.selects RX5 yX5_amend yX5_amend ∈ ag_tbl := ag_q 348 (by decide +kernel) (by decide +kernel)
theorem q349 : Cond.code yX5_amend cX5_amend 4 (some FieldType.int) ∈ ag_tbl := ag_q 349 (by decide +kernel) (by decide +kernel)
theorem q350 : Cond.methodLink RX5 78 yX5_lineAt ∈ ag_tbl := ag_q 350 (by decide +kernel) (by decide +kernel)
theorem q352 : Cond.instanceMethod yX5_lineAt ∈ ag_tbl := ag_q 352 (by decide +kernel) (by decide +kernel)
theorem q353 : Cond.code yX5_lineAt cX5_lineAt 2 (some (FieldType.object "Amendgrant$Line")) ∈ ag_tbl := ag_q 353 (by decide +kernel) (by decide +kernel)
theorem q354 : Cond.classLink RX5 106 "java/lang/IndexOutOfBoundsException" ∈ ag_tbl := ag_q 354 (by decide +kernel) (by decide +kernel)
theorem q355 : Cond.instantiable "java/lang/IndexOutOfBoundsException" 6 ∈ ag_tbl := ag_q 355 (by decide +kernel) (by decide +kernel)
theorem q357 : Cond.selects "java/lang/IndexOutOfBoundsException" ⟨"java/lang/Throwable", "fillInStackTrace", "(I)Ljava/lang/Throwable;"⟩ ⟨"java/lang/Throwable", "fillInStackTrace", "(I)Ljava/lang/Throwable;"⟩ ∈ ag_tbl := ag_q 357 (by decide +kernel) (by decide +kernel)
theorem q364 : Cond.methodLink RX5 110 ⟨"java/lang/IndexOutOfBoundsException", "<init>", "(Ljava/lang/String;)V"⟩ ∈ ag_tbl := ag_q 364 (by decide +kernel) (by decide +kernel)
theorem q365 : Cond.instanceMethod ⟨"java/lang/IndexOutOfBoundsException", "<init>", "(Ljava/lang/String;)V"⟩ ∈ ag_tbl := ag_q 365 (by decide +kernel) (by decide +kernel)
theorem q366 : Cond.code ⟨"java/lang/IndexOutOfBoundsException", "<init>", "(Ljava/lang/String;)V"⟩ prog_14_method_2_code 2 (none) ∈ ag_tbl := ag_q 366 (by decide +kernel) (by decide +kernel)
theorem q367 : Cond.methodLink "java/lang/IndexOutOfBoundsException" 7 ⟨"java/lang/RuntimeException", "<init>", "(Ljava/lang/String;)V"⟩ ∈ ag_tbl := ag_q 367 (by decide +kernel) (by decide +kernel)
theorem q369 : Cond.superclass "java/lang/IndexOutOfBoundsException" "java/lang/RuntimeException" ∈ ag_tbl := ag_q 369 (by decide +kernel) (by decide +kernel)
theorem q370 : Cond.methodLink RX5 82 yX5_needMore ∈ ag_tbl := ag_q 370 (by decide +kernel) (by decide +kernel)
theorem q371 : Cond.static yX5_needMore ∈ ag_tbl := ag_q 371 (by decide +kernel) (by decide +kernel)
theorem q372 : Cond.code yX5_needMore cX5_needMore 1 (none) ∈ ag_tbl := ag_q 372 (by decide +kernel) (by decide +kernel)
theorem q373 : Cond.constant RX5 304 (-50000 : Int32) ∈ ag_tbl := ag_q 373 (by decide +kernel) (by decide +kernel)
theorem q374 : Cond.constant RX5 155 (50000 : Int32) ∈ ag_tbl := ag_q 374 (by decide +kernel) (by decide +kernel)
theorem q376 : Cond.methodLink RX5 85 yX5_needRoomForAmendment ∈ ag_tbl := ag_q 376 (by decide +kernel) (by decide +kernel)
theorem q378 : Cond.instanceMethod yX5_needRoomForAmendment ∈ ag_tbl := ag_q 378 (by decide +kernel) (by decide +kernel)
theorem q379 : Cond.code yX5_needRoomForAmendment cX5_needRoomForAmendment 1 (none) ∈ ag_tbl := ag_q 379 (by decide +kernel) (by decide +kernel)
theorem q381 : Cond.methodLink RX5 88 yX5_addAmendment ∈ ag_tbl := ag_q 381 (by decide +kernel) (by decide +kernel)
theorem q383 : Cond.instanceMethod yX5_addAmendment ∈ ag_tbl := ag_q 383 (by decide +kernel) (by decide +kernel)
theorem q384 : Cond.code yX5_addAmendment cX5_addAmendment 5 (some FieldType.int) ∈ ag_tbl := ag_q 384 (by decide +kernel) (by decide +kernel)
theorem q385 : Cond.classLink RX5 101 "Amendgrant$Amendment" ∈ ag_tbl := ag_q 385 (by decide +kernel) (by decide +kernel)
theorem q386 : Cond.instantiable RX0 10 ∈ ag_tbl := ag_q 386 (by decide +kernel) (by decide +kernel)
theorem q387 : Cond.methodLink RX5 322 yX0_init ∈ ag_tbl := ag_q 387 (by decide +kernel) (by decide +kernel)
theorem q388 : Cond.instanceMethod yX0_init ∈ ag_tbl := ag_q 388 (by decide +kernel) (by decide +kernel)
theorem q389 : Cond.code yX0_init cX0_init 5 (none) ∈ ag_tbl := ag_q 389 (by decide +kernel) (by decide +kernel)
theorem q390 : Cond.methodLink RX0 3 objectInit ∈ ag_tbl := ag_q 390 (by decide +kernel) (by decide +kernel)
theorem q391 : Cond.fieldLink RX0 28 "Amendgrant$Amendment" "number" "I" ∈ ag_tbl := ag_q 391 (by decide +kernel) (by decide +kernel)
theorem q392 : Cond.fieldLink RX5 301 "Amendgrant$Amendment" "number" "I" ∈ ag_tbl := ag_q 392 (by decide +kernel) (by decide +kernel)
theorem q393 : Cond.fieldLink RX0 31 "Amendgrant$Amendment" "above" "LAmendgrant$Amendment;" ∈ ag_tbl := ag_q 393 (by decide +kernel) (by decide +kernel)
theorem q394 : Cond.fieldLink RX5 264 "Amendgrant$Amendment" "above" "LAmendgrant$Amendment;" ∈ ag_tbl := ag_q 394 (by decide +kernel) (by decide +kernel)
theorem q395 : Cond.fieldLink RX0 35 "Amendgrant$Amendment" "line" "LAmendgrant$Line;" ∈ ag_tbl := ag_q 395 (by decide +kernel) (by decide +kernel)
theorem q396 : Cond.fieldLink RX5 100 "Amendgrant$Amendment" "line" "LAmendgrant$Line;" ∈ ag_tbl := ag_q 396 (by decide +kernel) (by decide +kernel)
theorem q397 : Cond.fieldLink RX0 39 "Amendgrant$Amendment" "more" "I" ∈ ag_tbl := ag_q 397 (by decide +kernel) (by decide +kernel)
theorem q398 : Cond.fieldLink RX5 248 "Amendgrant$Amendment" "more" "I" ∈ ag_tbl := ag_q 398 (by decide +kernel) (by decide +kernel)
theorem q399 : Cond.fieldLink RX0 42 "Amendgrant$Amendment" "brings" "I" ∈ ag_tbl := ag_q 399 (by decide +kernel) (by decide +kernel)
theorem q400 : Cond.fieldLink RX5 255 "Amendgrant$Amendment" "brings" "I" ∈ ag_tbl := ag_q 400 (by decide +kernel) (by decide +kernel)
theorem q401 : Cond.fieldLink RX0 9 "Amendgrant$Amendment" "state" "I" ∈ ag_tbl := ag_q 401 (by decide +kernel) (by decide +kernel)
theorem q402 : Cond.fieldLink RX1 40 "Amendgrant$Amendment" "state" "I" ∈ ag_tbl := ag_q 402 (by decide +kernel) (by decide +kernel)
theorem q403 : Cond.fieldLink RX5 141 "Amendgrant$Amendment" "state" "I" ∈ ag_tbl := ag_q 403 (by decide +kernel) (by decide +kernel)
theorem q404 : Cond.fieldLink RX0 15 "Amendgrant$Amendment" "round" "I" ∈ ag_tbl := ag_q 404 (by decide +kernel) (by decide +kernel)
theorem q405 : Cond.fieldLink RX5 258 "Amendgrant$Amendment" "round" "I" ∈ ag_tbl := ag_q 405 (by decide +kernel) (by decide +kernel)
theorem q406 : Cond.fieldLink RX0 18 "Amendgrant$Amendment" "struck" "Z" ∈ ag_tbl := ag_q 406 (by decide +kernel) (by decide +kernel)
theorem q407 : Cond.fieldLink RX5 147 "Amendgrant$Amendment" "struck" "Z" ∈ ag_tbl := ag_q 407 (by decide +kernel) (by decide +kernel)
theorem q408 : Cond.fieldLink RX0 22 "Amendgrant$Amendment" "membersFor" "I" ∈ ag_tbl := ag_q 408 (by decide +kernel) (by decide +kernel)
theorem q409 : Cond.fieldLink RX0 25 "Amendgrant$Amendment" "membersAgainst" "I" ∈ ag_tbl := ag_q 409 (by decide +kernel) (by decide +kernel)
theorem q430 : Cond.superclass "Amendgrant$Amendment" "java/lang/Object" ∈ ag_tbl := ag_q 430 (by decide +kernel) (by decide +kernel)
theorem q431 : Cond.methodLink RL 103 yL_amendOn ∈ ag_tbl := ag_q 431 (by decide +kernel) (by decide +kernel)
theorem q432 : Cond.static yL_amendOn ∈ ag_tbl := ag_q 432 (by decide +kernel) (by decide +kernel)
theorem q433 : Cond.codeWith yL_amendOn cL_amendOn 5 (some FieldType.int) [(0, 10, 13, 23), (0, 10, 17, 13), (0, 10, 21, 15)] ∈ ag_tbl := ag_q 433 (by decide +kernel) (by decide +kernel)
theorem q434 : Cond.methodLink RL 25 yX5_amendOn ∈ ag_tbl := ag_q 434 (by decide +kernel) (by decide +kernel)
theorem q435 : Cond.instanceMethod yX5_amendOn ∈ ag_tbl := ag_q 435 (by decide +kernel) (by decide +kernel)
theorem q436 : Cond.selects RX5 yX5_amendOn yX5_amendOn ∈ ag_tbl := ag_q 436 (by decide +kernel) (by decide +kernel)
theorem q437 : Cond.code yX5_amendOn cX5_amendOn 4 (some FieldType.int) ∈ ag_tbl := ag_q 437 (by decide +kernel) (by decide +kernel)
theorem q438 : Cond.methodLink RX5 92 yX5_amendmentAt ∈ ag_tbl := ag_q 438 (by decide +kernel) (by decide +kernel)
theorem q440 : Cond.instanceMethod yX5_amendmentAt ∈ ag_tbl := ag_q 440 (by decide +kernel) (by decide +kernel)
theorem q441 : Cond.code yX5_amendmentAt cX5_amendmentAt 2 (some (FieldType.object "Amendgrant$Amendment")) ∈ ag_tbl := ag_q 441 (by decide +kernel) (by decide +kernel)
theorem q443 : Cond.methodLink RX5 96 yX5_needOpen ∈ ag_tbl := ag_q 443 (by decide +kernel) (by decide +kernel)
theorem q444 : Cond.static yX5_needOpen ∈ ag_tbl := ag_q 444 (by decide +kernel) (by decide +kernel)
theorem q445 : Cond.code yX5_needOpen cX5_needOpen 1 (none) ∈ ag_tbl := ag_q 445 (by decide +kernel) (by decide +kernel)
theorem q447 : Cond.methodLink RL 106 yL_vote ∈ ag_tbl := ag_q 447 (by decide +kernel) (by decide +kernel)
theorem q448 : Cond.static yL_vote ∈ ag_tbl := ag_q 448 (by decide +kernel) (by decide +kernel)
theorem q449 : Cond.codeWith yL_vote cL_vote 6 (some FieldType.int) [(0, 12, 15, 23), (0, 12, 19, 15)] ∈ ag_tbl := ag_q 449 (by decide +kernel) (by decide +kernel)
theorem q450 : Cond.methodLink RL 28 yX5_vote ∈ ag_tbl := ag_q 450 (by decide +kernel) (by decide +kernel)
theorem q451 : Cond.instanceMethod yX5_vote ∈ ag_tbl := ag_q 451 (by decide +kernel) (by decide +kernel)
theorem q452 : Cond.selects RX5 yX5_vote yX5_vote ∈ ag_tbl := ag_q 452 (by decide +kernel) (by decide +kernel)
theorem q453 : Cond.code yX5_vote cX5_vote 5 (some FieldType.int) ∈ ag_tbl := ag_q 453 (by decide +kernel) (by decide +kernel)
theorem q455 : Cond.methodLink RX5 111 yX0_takeVote ∈ ag_tbl := ag_q 455 (by decide +kernel) (by decide +kernel)
theorem q456 : Cond.instanceMethod yX0_takeVote ∈ ag_tbl := ag_q 456 (by decide +kernel) (by decide +kernel)
theorem q457 : Cond.selects RX0 yX0_takeVote yX0_takeVote ∈ ag_tbl := ag_q 457 (by decide +kernel) (by decide +kernel)
theorem q458 : Cond.code yX0_takeVote cX0_takeVote 4 (none) ∈ ag_tbl := ag_q 458 (by decide +kernel) (by decide +kernel)
theorem q459 : Cond.methodLink RX5 115 yX0_votesFor ∈ ag_tbl := ag_q 459 (by decide +kernel) (by decide +kernel)
theorem q460 : Cond.instanceMethod yX0_votesFor ∈ ag_tbl := ag_q 460 (by decide +kernel) (by decide +kernel)
theorem q461 : Cond.selects RX0 yX0_votesFor yX0_votesFor ∈ ag_tbl := ag_q 461 (by decide +kernel) (by decide +kernel)
theorem q462 : Cond.code yX0_votesFor cX0_votesFor 1 (some FieldType.int) ∈ ag_tbl := ag_q 462 (by decide +kernel) (by decide +kernel)
theorem q463 : Cond.methodLink RX0 45 yJ6_bitCount_0f7a4 ∈ ag_tbl := ag_q 463 (by decide +kernel) (by decide +kernel)
theorem q464 : Cond.static yJ6_bitCount_0f7a4 ∈ ag_tbl := ag_q 464 (by decide +kernel) (by decide +kernel)
theorem q465 : Cond.code yJ6_bitCount_0f7a4 cJ6_bitCount_0f7a4 1 (some FieldType.int) ∈ ag_tbl := ag_q 465 (by decide +kernel) (by decide +kernel)
theorem q466 : Cond.constant RJ6 265 (1431655765 : Int32) ∈ ag_tbl := ag_q 466 (by decide +kernel) (by decide +kernel)
theorem q467 : Cond.constant RJ6 266 (858993459 : Int32) ∈ ag_tbl := ag_q 467 (by decide +kernel) (by decide +kernel)
theorem q468 : Cond.constant RJ6 267 (252645135 : Int32) ∈ ag_tbl := ag_q 468 (by decide +kernel) (by decide +kernel)
theorem q469 : Cond.methodLink RL 110 yL_decide ∈ ag_tbl := ag_q 469 (by decide +kernel) (by decide +kernel)
theorem q470 : Cond.static yL_decide ∈ ag_tbl := ag_q 470 (by decide +kernel) (by decide +kernel)
theorem q471 : Cond.codeWith yL_decide cL_decide 4 (some FieldType.int) [(0, 9, 12, 23), (0, 9, 15, 15)] ∈ ag_tbl := ag_q 471 (by decide +kernel) (by decide +kernel)
theorem q472 : Cond.methodLink RL 32 yX5_decide ∈ ag_tbl := ag_q 472 (by decide +kernel) (by decide +kernel)
theorem q473 : Cond.instanceMethod yX5_decide ∈ ag_tbl := ag_q 473 (by decide +kernel) (by decide +kernel)
theorem q474 : Cond.selects RX5 yX5_decide yX5_decide ∈ ag_tbl := ag_q 474 (by decide +kernel) (by decide +kernel)
theorem q475 : Cond.code yX5_decide cX5_decide 3 (some FieldType.int) ∈ ag_tbl := ag_q 475 (by decide +kernel) (by decide +kernel)
theorem q476 : Cond.methodLink RX5 118 yX5_isOneOpenOn ∈ ag_tbl := ag_q 476 (by decide +kernel) (by decide +kernel)
theorem q478 : Cond.instanceMethod yX5_isOneOpenOn ∈ ag_tbl := ag_q 478 (by decide +kernel) (by decide +kernel)
theorem q479 : Cond.code yX5_isOneOpenOn cX5_isOneOpenOn 4 (some FieldType.boolean) ∈ ag_tbl := ag_q 479 (by decide +kernel) (by decide +kernel)
theorem q481 : Cond.methodLink RX5 124 yX0_isWon ∈ ag_tbl := ag_q 481 (by decide +kernel) (by decide +kernel)
theorem q482 : Cond.instanceMethod yX0_isWon ∈ ag_tbl := ag_q 482 (by decide +kernel) (by decide +kernel)
theorem q483 : Cond.selects RX0 yX0_isWon yX0_isWon ∈ ag_tbl := ag_q 483 (by decide +kernel) (by decide +kernel)
theorem q484 : Cond.code yX0_isWon cX0_isWon 1 (some FieldType.boolean) ∈ ag_tbl := ag_q 484 (by decide +kernel) (by decide +kernel)
theorem q485 : Cond.methodLink RX0 51 yX0_votesFor ∈ ag_tbl := ag_q 485 (by decide +kernel) (by decide +kernel)
theorem q486 : Cond.methodLink RX0 55 yX0_votesAgainst ∈ ag_tbl := ag_q 486 (by decide +kernel) (by decide +kernel)
theorem q487 : Cond.instanceMethod yX0_votesAgainst ∈ ag_tbl := ag_q 487 (by decide +kernel) (by decide +kernel)
theorem q488 : Cond.selects RX0 yX0_votesAgainst yX0_votesAgainst ∈ ag_tbl := ag_q 488 (by decide +kernel) (by decide +kernel)
theorem q489 : Cond.code yX0_votesAgainst cX0_votesAgainst 1 (some FieldType.int) ∈ ag_tbl := ag_q 489 (by decide +kernel) (by decide +kernel)
theorem q490 : Cond.methodLink RX5 128 yX5_makePassed ∈ ag_tbl := ag_q 490 (by decide +kernel) (by decide +kernel)
theorem q492 : Cond.instanceMethod yX5_makePassed ∈ ag_tbl := ag_q 492 (by decide +kernel) (by decide +kernel)
theorem q493 : Cond.code yX5_makePassed cX5_makePassed 2 (none) ∈ ag_tbl := ag_q 493 (by decide +kernel) (by decide +kernel)
theorem q494 : Cond.methodLink RX5 325 yX5_reckonWhatIsBrought ∈ ag_tbl := ag_q 494 (by decide +kernel) (by decide +kernel)
theorem q496 : Cond.instanceMethod yX5_reckonWhatIsBrought ∈ ag_tbl := ag_q 496 (by decide +kernel) (by decide +kernel)
theorem q497 : Cond.code yX5_reckonWhatIsBrought cX5_reckonWhatIsBrought 3 (none) ∈ ag_tbl := ag_q 497 (by decide +kernel) (by decide +kernel)
theorem q498 : Cond.methodLink RX5 340 yX5_passOn ∈ ag_tbl := ag_q 498 (by decide +kernel) (by decide +kernel)
theorem q499 : Cond.static yX5_passOn ∈ ag_tbl := ag_q 499 (by decide +kernel) (by decide +kernel)
theorem q500 : Cond.code yX5_passOn cX5_passOn 1 (none) ∈ ag_tbl := ag_q 500 (by decide +kernel) (by decide +kernel)
theorem q501 : Cond.methodLink RX5 328 yX5_balance ∈ ag_tbl := ag_q 501 (by decide +kernel) (by decide +kernel)
theorem q503 : Cond.instanceMethod yX5_balance ∈ ag_tbl := ag_q 503 (by decide +kernel) (by decide +kernel)
theorem q504 : Cond.code yX5_balance cX5_balance 5 (some FieldType.int) ∈ ag_tbl := ag_q 504 (by decide +kernel) (by decide +kernel)
theorem q505 : Cond.methodLink RX5 201 yX5_freeOf ∈ ag_tbl := ag_q 505 (by decide +kernel) (by decide +kernel)
theorem q507 : Cond.instanceMethod yX5_freeOf ∈ ag_tbl := ag_q 507 (by decide +kernel) (by decide +kernel)
theorem q508 : Cond.code yX5_freeOf cX5_freeOf 2 (some FieldType.int) ∈ ag_tbl := ag_q 508 (by decide +kernel) (by decide +kernel)
theorem q509 : Cond.methodLink RX5 221 yX2_stands ∈ ag_tbl := ag_q 509 (by decide +kernel) (by decide +kernel)
theorem q510 : Cond.instanceMethod yX2_stands ∈ ag_tbl := ag_q 510 (by decide +kernel) (by decide +kernel)
theorem q511 : Cond.selects RX2 yX2_stands yX2_stands ∈ ag_tbl := ag_q 511 (by decide +kernel) (by decide +kernel)
theorem q512 : Cond.code yX2_stands cX2_stands 1 (some FieldType.int) ∈ ag_tbl := ag_q 512 (by decide +kernel) (by decide +kernel)
theorem q513 : Cond.methodLink RX2 32 yX2_standsWith ∈ ag_tbl := ag_q 513 (by decide +kernel) (by decide +kernel)
theorem q514 : Cond.instanceMethod yX2_standsWith ∈ ag_tbl := ag_q 514 (by decide +kernel) (by decide +kernel)
theorem q515 : Cond.selects RX2 yX2_standsWith yX2_standsWith ∈ ag_tbl := ag_q 515 (by decide +kernel) (by decide +kernel)
theorem q516 : Cond.code yX2_standsWith cX2_standsWith 2 (some FieldType.int) ∈ ag_tbl := ag_q 516 (by decide +kernel) (by decide +kernel)
theorem q517 : Cond.methodLink RX5 224 yX5_boundOf ∈ ag_tbl := ag_q 517 (by decide +kernel) (by decide +kernel)
theorem q519 : Cond.instanceMethod yX5_boundOf ∈ ag_tbl := ag_q 519 (by decide +kernel) (by decide +kernel)
theorem q520 : Cond.code yX5_boundOf cX5_boundOf 5 (some FieldType.int) ∈ ag_tbl := ag_q 520 (by decide +kernel) (by decide +kernel)
theorem q521 : Cond.classLink RX5 162 "Amendgrant$Grant" ∈ ag_tbl := ag_q 521 (by decide +kernel) (by decide +kernel)
theorem q522 : Cond.methodLink RX5 343 yX1_binds ∈ ag_tbl := ag_q 522 (by decide +kernel) (by decide +kernel)
theorem q523 : Cond.instanceMethod yX1_binds ∈ ag_tbl := ag_q 523 (by decide +kernel) (by decide +kernel)
theorem q524 : Cond.selects RX1 yX1_binds yX1_binds ∈ ag_tbl := ag_q 524 (by decide +kernel) (by decide +kernel)
theorem q525 : Cond.code yX1_binds cX1_binds 1 (some FieldType.int) ∈ ag_tbl := ag_q 525 (by decide +kernel) (by decide +kernel)
theorem q526 : Cond.methodLink RX5 356 yX1_cut ∈ ag_tbl := ag_q 526 (by decide +kernel) (by decide +kernel)
theorem q527 : Cond.instanceMethod yX1_cut ∈ ag_tbl := ag_q 527 (by decide +kernel) (by decide +kernel)
theorem q528 : Cond.selects RX1 yX1_cut yX1_cut ∈ ag_tbl := ag_q 528 (by decide +kernel) (by decide +kernel)
theorem q529 : Cond.code yX1_cut cX1_cut 1 (none) ∈ ag_tbl := ag_q 529 (by decide +kernel) (by decide +kernel)
theorem q530 : Cond.methodLink RX5 131 yX0_isLost ∈ ag_tbl := ag_q 530 (by decide +kernel) (by decide +kernel)
theorem q531 : Cond.instanceMethod yX0_isLost ∈ ag_tbl := ag_q 531 (by decide +kernel) (by decide +kernel)
theorem q532 : Cond.selects RX0 yX0_isLost yX0_isLost ∈ ag_tbl := ag_q 532 (by decide +kernel) (by decide +kernel)
theorem q533 : Cond.code yX0_isLost cX0_isLost 1 (some FieldType.boolean) ∈ ag_tbl := ag_q 533 (by decide +kernel) (by decide +kernel)
theorem q534 : Cond.methodLink RX0 58 yX0_isWon ∈ ag_tbl := ag_q 534 (by decide +kernel) (by decide +kernel)
theorem q535 : Cond.methodLink RX5 134 yX5_makeFallen ∈ ag_tbl := ag_q 535 (by decide +kernel) (by decide +kernel)
theorem q537 : Cond.instanceMethod yX5_makeFallen ∈ ag_tbl := ag_q 537 (by decide +kernel) (by decide +kernel)
theorem q538 : Cond.code yX5_makeFallen cX5_makeFallen 3 (some FieldType.int) ∈ ag_tbl := ag_q 538 (by decide +kernel) (by decide +kernel)
theorem q539 : Cond.methodLink RX5 331 yX5_fellAllOnFallen ∈ ag_tbl := ag_q 539 (by decide +kernel) (by decide +kernel)
theorem q541 : Cond.instanceMethod yX5_fellAllOnFallen ∈ ag_tbl := ag_q 541 (by decide +kernel) (by decide +kernel)
theorem q542 : Cond.code yX5_fellAllOnFallen cX5_fellAllOnFallen 3 (none) ∈ ag_tbl := ag_q 542 (by decide +kernel) (by decide +kernel)
theorem q543 : Cond.methodLink RX5 334 yX5_withdrawThoseOnFallen ∈ ag_tbl := ag_q 543 (by decide +kernel) (by decide +kernel)
theorem q545 : Cond.instanceMethod yX5_withdrawThoseOnFallen ∈ ag_tbl := ag_q 545 (by decide +kernel) (by decide +kernel)
theorem q546 : Cond.code yX5_withdrawThoseOnFallen cX5_withdrawThoseOnFallen 4 (some FieldType.int) ∈ ag_tbl := ag_q 546 (by decide +kernel) (by decide +kernel)
theorem q547 : Cond.methodLink RX5 346 yX1_hangsOnFallen ∈ ag_tbl := ag_q 547 (by decide +kernel) (by decide +kernel)
theorem q548 : Cond.instanceMethod yX1_hangsOnFallen ∈ ag_tbl := ag_q 548 (by decide +kernel) (by decide +kernel)
theorem q549 : Cond.selects RX1 yX1_hangsOnFallen yX1_hangsOnFallen ∈ ag_tbl := ag_q 549 (by decide +kernel) (by decide +kernel)
theorem q550 : Cond.code yX1_hangsOnFallen cX1_hangsOnFallen 1 (some FieldType.boolean) ∈ ag_tbl := ag_q 550 (by decide +kernel) (by decide +kernel)
theorem q551 : Cond.methodLink RX5 349 yX1_withdraw ∈ ag_tbl := ag_q 551 (by decide +kernel) (by decide +kernel)
theorem q552 : Cond.instanceMethod yX1_withdraw ∈ ag_tbl := ag_q 552 (by decide +kernel) (by decide +kernel)
theorem q553 : Cond.selects RX1 yX1_withdraw yX1_withdraw ∈ ag_tbl := ag_q 553 (by decide +kernel) (by decide +kernel)
theorem q554 : Cond.code yX1_withdraw cX1_withdraw 1 (none) ∈ ag_tbl := ag_q 554 (by decide +kernel) (by decide +kernel)
theorem q555 : Cond.methodLink RX5 138 yX0_beginRoundTwo ∈ ag_tbl := ag_q 555 (by decide +kernel) (by decide +kernel)
theorem q556 : Cond.instanceMethod yX0_beginRoundTwo ∈ ag_tbl := ag_q 556 (by decide +kernel) (by decide +kernel)
theorem q557 : Cond.selects RX0 yX0_beginRoundTwo yX0_beginRoundTwo ∈ ag_tbl := ag_q 557 (by decide +kernel) (by decide +kernel)
theorem q558 : Cond.code yX0_beginRoundTwo cX0_beginRoundTwo 1 (none) ∈ ag_tbl := ag_q 558 (by decide +kernel) (by decide +kernel)
theorem q559 : Cond.methodLink RL 114 yL_strike ∈ ag_tbl := ag_q 559 (by decide +kernel) (by decide +kernel)
theorem q560 : Cond.static yL_strike ∈ ag_tbl := ag_q 560 (by decide +kernel) (by decide +kernel)
theorem q561 : Cond.codeWith yL_strike cL_strike 4 (some FieldType.int) [(0, 9, 12, 23), (0, 9, 15, 15)] ∈ ag_tbl := ag_q 561 (by decide +kernel) (by decide +kernel)
theorem q562 : Cond.methodLink RL 36 yX5_strike ∈ ag_tbl := ag_q 562 (by decide +kernel) (by decide +kernel)
theorem q563 : Cond.instanceMethod yX5_strike ∈ ag_tbl := ag_q 563 (by decide +kernel) (by decide +kernel)
theorem q564 : Cond.selects RX5 yX5_strike yX5_strike ∈ ag_tbl := ag_q 564 (by decide +kernel) (by decide +kernel)
theorem q565 : Cond.code yX5_strike cX5_strike 3 (some FieldType.int) ∈ ag_tbl := ag_q 565 (by decide +kernel) (by decide +kernel)
theorem q566 : Cond.methodLink RX5 144 yX5_needPassed ∈ ag_tbl := ag_q 566 (by decide +kernel) (by decide +kernel)
theorem q567 : Cond.static yX5_needPassed ∈ ag_tbl := ag_q 567 (by decide +kernel) (by decide +kernel)
theorem q568 : Cond.code yX5_needPassed cX5_needPassed 1 (none) ∈ ag_tbl := ag_q 568 (by decide +kernel) (by decide +kernel)
theorem q570 : Cond.methodLink RL 117 yL_grant ∈ ag_tbl := ag_q 570 (by decide +kernel) (by decide +kernel)
theorem q571 : Cond.static yL_grant ∈ ag_tbl := ag_q 571 (by decide +kernel) (by decide +kernel)
theorem q572 : Cond.codeWith yL_grant cL_grant 8 (some FieldType.int) [(0, 16, 19, 23), (0, 16, 23, 13), (0, 16, 27, 15)] ∈ ag_tbl := ag_q 572 (by decide +kernel) (by decide +kernel)
theorem q573 : Cond.methodLink RL 39 yX5_grant ∈ ag_tbl := ag_q 573 (by decide +kernel) (by decide +kernel)
theorem q574 : Cond.instanceMethod yX5_grant ∈ ag_tbl := ag_q 574 (by decide +kernel) (by decide +kernel)
theorem q575 : Cond.selects RX5 yX5_grant yX5_grant ∈ ag_tbl := ag_q 575 (by decide +kernel) (by decide +kernel)
theorem q576 : Cond.code yX5_grant cX5_grant 10 (some FieldType.int) ∈ ag_tbl := ag_q 576 (by decide +kernel) (by decide +kernel)
theorem q577 : Cond.methodLink RX5 151 yX5_receiverAt ∈ ag_tbl := ag_q 577 (by decide +kernel) (by decide +kernel)
theorem q579 : Cond.instanceMethod yX5_receiverAt ∈ ag_tbl := ag_q 579 (by decide +kernel) (by decide +kernel)
theorem q580 : Cond.code yX5_receiverAt cX5_receiverAt 2 (some (FieldType.object "Amendgrant$Receiver")) ∈ ag_tbl := ag_q 580 (by decide +kernel) (by decide +kernel)
theorem q583 : Cond.methodLink RX5 158 yX5_needFree ∈ ag_tbl := ag_q 583 (by decide +kernel) (by decide +kernel)
theorem q585 : Cond.instanceMethod yX5_needFree ∈ ag_tbl := ag_q 585 (by decide +kernel) (by decide +kernel)
theorem q586 : Cond.code yX5_needFree cX5_needFree 3 (none) ∈ ag_tbl := ag_q 586 (by decide +kernel) (by decide +kernel)
theorem q588 : Cond.instantiable RX1 8 ∈ ag_tbl := ag_q 588 (by decide +kernel) (by decide +kernel)
theorem q589 : Cond.methodLink RX5 164 yX1_init ∈ ag_tbl := ag_q 589 (by decide +kernel) (by decide +kernel)
theorem q590 : Cond.instanceMethod yX1_init ∈ ag_tbl := ag_q 590 (by decide +kernel) (by decide +kernel)
theorem q591 : Cond.code yX1_init cX1_init 6 (none) ∈ ag_tbl := ag_q 591 (by decide +kernel) (by decide +kernel)
theorem q592 : Cond.methodLink RX1 3 objectInit ∈ ag_tbl := ag_q 592 (by decide +kernel) (by decide +kernel)
theorem q593 : Cond.fieldLink RX1 22 "Amendgrant$Grant" "line" "LAmendgrant$Line;" ∈ ag_tbl := ag_q 593 (by decide +kernel) (by decide +kernel)
theorem q594 : Cond.fieldLink RX5 182 "Amendgrant$Grant" "line" "LAmendgrant$Line;" ∈ ag_tbl := ag_q 594 (by decide +kernel) (by decide +kernel)
theorem q595 : Cond.fieldLink RX1 26 "Amendgrant$Grant" "receiver" "LAmendgrant$Receiver;" ∈ ag_tbl := ag_q 595 (by decide +kernel) (by decide +kernel)
theorem q596 : Cond.fieldLink RX5 275 "Amendgrant$Grant" "receiver" "LAmendgrant$Receiver;" ∈ ag_tbl := ag_q 596 (by decide +kernel) (by decide +kernel)
theorem q597 : Cond.fieldLink RX1 33 "Amendgrant$Grant" "hangsOn" "LAmendgrant$Amendment;" ∈ ag_tbl := ag_q 597 (by decide +kernel) (by decide +kernel)
theorem q598 : Cond.fieldLink RX5 280 "Amendgrant$Grant" "hangsOn" "LAmendgrant$Amendment;" ∈ ag_tbl := ag_q 598 (by decide +kernel) (by decide +kernel)
theorem q599 : Cond.fieldLink RX1 37 "Amendgrant$Grant" "lastMonth" "I" ∈ ag_tbl := ag_q 599 (by decide +kernel) (by decide +kernel)
theorem q600 : Cond.fieldLink RX5 283 "Amendgrant$Grant" "lastMonth" "I" ∈ ag_tbl := ag_q 600 (by decide +kernel) (by decide +kernel)
theorem q601 : Cond.fieldLink RX1 30 "Amendgrant$Grant" "sum" "I" ∈ ag_tbl := ag_q 601 (by decide +kernel) (by decide +kernel)
theorem q602 : Cond.fieldLink RX5 174 "Amendgrant$Grant" "sum" "I" ∈ ag_tbl := ag_q 602 (by decide +kernel) (by decide +kernel)
theorem q603 : Cond.fieldLink RX1 9 "Amendgrant$Grant" "paid" "I" ∈ ag_tbl := ag_q 603 (by decide +kernel) (by decide +kernel)
theorem q604 : Cond.fieldLink RX5 177 "Amendgrant$Grant" "paid" "I" ∈ ag_tbl := ag_q 604 (by decide +kernel) (by decide +kernel)
theorem q605 : Cond.fieldLink RX1 15 "Amendgrant$Grant" "state" "I" ∈ ag_tbl := ag_q 605 (by decide +kernel) (by decide +kernel)
theorem q606 : Cond.fieldLink RX5 171 "Amendgrant$Grant" "state" "I" ∈ ag_tbl := ag_q 606 (by decide +kernel) (by decide +kernel)
theorem q607 : Cond.fieldLink RX1 18 "Amendgrant$Grant" "reported" "Z" ∈ ag_tbl := ag_q 607 (by decide +kernel) (by decide +kernel)
theorem q608 : Cond.fieldLink RX5 195 "Amendgrant$Grant" "reported" "Z" ∈ ag_tbl := ag_q 608 (by decide +kernel) (by decide +kernel)
theorem q625 : Cond.superclass "Amendgrant$Grant" "java/lang/Object" ∈ ag_tbl := ag_q 625 (by decide +kernel) (by decide +kernel)
theorem q626 : Cond.methodLink RL 121 yL_pay ∈ ag_tbl := ag_q 626 (by decide +kernel) (by decide +kernel)
theorem q627 : Cond.static yL_pay ∈ ag_tbl := ag_q 627 (by decide +kernel) (by decide +kernel)
theorem q628 : Cond.codeWith yL_pay cL_pay 5 (some FieldType.int) [(0, 10, 13, 23), (0, 10, 17, 13), (0, 10, 21, 15)] ∈ ag_tbl := ag_q 628 (by decide +kernel) (by decide +kernel)
theorem q629 : Cond.methodLink RL 43 yX5_pay ∈ ag_tbl := ag_q 629 (by decide +kernel) (by decide +kernel)
theorem q630 : Cond.instanceMethod yX5_pay ∈ ag_tbl := ag_q 630 (by decide +kernel) (by decide +kernel)
theorem q631 : Cond.selects RX5 yX5_pay yX5_pay ∈ ag_tbl := ag_q 631 (by decide +kernel) (by decide +kernel)
theorem q632 : Cond.code yX5_pay cX5_pay 4 (some FieldType.int) ∈ ag_tbl := ag_q 632 (by decide +kernel) (by decide +kernel)
theorem q633 : Cond.methodLink RX5 167 yX5_grantAt ∈ ag_tbl := ag_q 633 (by decide +kernel) (by decide +kernel)
theorem q635 : Cond.instanceMethod yX5_grantAt ∈ ag_tbl := ag_q 635 (by decide +kernel) (by decide +kernel)
theorem q636 : Cond.code yX5_grantAt cX5_grantAt 2 (some (FieldType.object "Amendgrant$Grant")) ∈ ag_tbl := ag_q 636 (by decide +kernel) (by decide +kernel)
theorem q640 : Cond.methodLink RX5 187 yX5_payFrom ∈ ag_tbl := ag_q 640 (by decide +kernel) (by decide +kernel)
theorem q641 : Cond.static yX5_payFrom ∈ ag_tbl := ag_q 641 (by decide +kernel) (by decide +kernel)
theorem q642 : Cond.code yX5_payFrom cX5_payFrom 2 (none) ∈ ag_tbl := ag_q 642 (by decide +kernel) (by decide +kernel)
theorem q643 : Cond.methodLink RX5 317 yX4_unpaid ∈ ag_tbl := ag_q 643 (by decide +kernel) (by decide +kernel)
theorem q644 : Cond.instanceMethod yX4_unpaid ∈ ag_tbl := ag_q 644 (by decide +kernel) (by decide +kernel)
theorem q645 : Cond.selects RX4 yX4_unpaid yX4_unpaid ∈ ag_tbl := ag_q 645 (by decide +kernel) (by decide +kernel)
theorem q646 : Cond.code yX4_unpaid cX4_unpaid 1 (some FieldType.int) ∈ ag_tbl := ag_q 646 (by decide +kernel) (by decide +kernel)
theorem q648 : Cond.methodLink RL 124 yL_report ∈ ag_tbl := ag_q 648 (by decide +kernel) (by decide +kernel)
theorem q649 : Cond.static yL_report ∈ ag_tbl := ag_q 649 (by decide +kernel) (by decide +kernel)
theorem q650 : Cond.codeWith yL_report cL_report 4 (some FieldType.int) [(0, 16, 19, 23), (0, 16, 22, 15)] ∈ ag_tbl := ag_q 650 (by decide +kernel) (by decide +kernel)
theorem q651 : Cond.methodLink RL 46 yX5_report ∈ ag_tbl := ag_q 651 (by decide +kernel) (by decide +kernel)
theorem q652 : Cond.instanceMethod yX5_report ∈ ag_tbl := ag_q 652 (by decide +kernel) (by decide +kernel)
theorem q653 : Cond.selects RX5 yX5_report yX5_report ∈ ag_tbl := ag_q 653 (by decide +kernel) (by decide +kernel)
theorem q654 : Cond.code yX5_report cX5_report 4 (some FieldType.boolean) ∈ ag_tbl := ag_q 654 (by decide +kernel) (by decide +kernel)
theorem q655 : Cond.methodLink RX5 191 yX5_needNotWithdrawn ∈ ag_tbl := ag_q 655 (by decide +kernel) (by decide +kernel)
theorem q656 : Cond.static yX5_needNotWithdrawn ∈ ag_tbl := ag_q 656 (by decide +kernel) (by decide +kernel)
theorem q657 : Cond.code yX5_needNotWithdrawn cX5_needNotWithdrawn 1 (none) ∈ ag_tbl := ag_q 657 (by decide +kernel) (by decide +kernel)
theorem q659 : Cond.methodLink RL 127 yL_spend ∈ ag_tbl := ag_q 659 (by decide +kernel) (by decide +kernel)
theorem q660 : Cond.static yL_spend ∈ ag_tbl := ag_q 660 (by decide +kernel) (by decide +kernel)
theorem q661 : Cond.codeWith yL_spend cL_spend 5 (some FieldType.int) [(0, 10, 13, 23), (0, 10, 17, 13), (0, 10, 21, 15)] ∈ ag_tbl := ag_q 661 (by decide +kernel) (by decide +kernel)
theorem q662 : Cond.methodLink RL 50 yX5_spend ∈ ag_tbl := ag_q 662 (by decide +kernel) (by decide +kernel)
theorem q663 : Cond.instanceMethod yX5_spend ∈ ag_tbl := ag_q 663 (by decide +kernel) (by decide +kernel)
theorem q664 : Cond.selects RX5 yX5_spend yX5_spend ∈ ag_tbl := ag_q 664 (by decide +kernel) (by decide +kernel)
theorem q665 : Cond.code yX5_spend cX5_spend 4 (some FieldType.int) ∈ ag_tbl := ag_q 665 (by decide +kernel) (by decide +kernel)
theorem q666 : Cond.methodLink RL 130 yL_audit ∈ ag_tbl := ag_q 666 (by decide +kernel) (by decide +kernel)
theorem q667 : Cond.static yL_audit ∈ ag_tbl := ag_q 667 (by decide +kernel) (by decide +kernel)
theorem q668 : Cond.codeWith yL_audit cL_audit 5 (some FieldType.int) [(0, 10, 13, 23), (0, 10, 17, 13), (0, 10, 21, 15)] ∈ ag_tbl := ag_q 668 (by decide +kernel) (by decide +kernel)
theorem q669 : Cond.methodLink RL 53 yX5_audit ∈ ag_tbl := ag_q 669 (by decide +kernel) (by decide +kernel)
theorem q670 : Cond.instanceMethod yX5_audit ∈ ag_tbl := ag_q 670 (by decide +kernel) (by decide +kernel)
theorem q671 : Cond.selects RX5 yX5_audit yX5_audit ∈ ag_tbl := ag_q 671 (by decide +kernel) (by decide +kernel)
theorem q672 : Cond.code yX5_audit cX5_audit 4 (some FieldType.int) ∈ ag_tbl := ag_q 672 (by decide +kernel) (by decide +kernel)
theorem q674 : Cond.methodLink RX5 207 yX1_clawBack ∈ ag_tbl := ag_q 674 (by decide +kernel) (by decide +kernel)
theorem q675 : Cond.instanceMethod yX1_clawBack ∈ ag_tbl := ag_q 675 (by decide +kernel) (by decide +kernel)
theorem q676 : Cond.selects RX1 yX1_clawBack yX1_clawBack ∈ ag_tbl := ag_q 676 (by decide +kernel) (by decide +kernel)
theorem q677 : Cond.code yX1_clawBack cX1_clawBack 2 (none) ∈ ag_tbl := ag_q 677 (by decide +kernel) (by decide +kernel)
theorem q678 : Cond.methodLink RX1 48 yX1_cut ∈ ag_tbl := ag_q 678 (by decide +kernel) (by decide +kernel)
theorem q679 : Cond.methodLink RL 133 yL_repay ∈ ag_tbl := ag_q 679 (by decide +kernel) (by decide +kernel)
theorem q680 : Cond.static yL_repay ∈ ag_tbl := ag_q 680 (by decide +kernel) (by decide +kernel)
theorem q681 : Cond.codeWith yL_repay cL_repay 5 (some FieldType.int) [(0, 10, 13, 23), (0, 10, 17, 13), (0, 10, 21, 15)] ∈ ag_tbl := ag_q 681 (by decide +kernel) (by decide +kernel)
theorem q682 : Cond.methodLink RL 56 yX5_repay ∈ ag_tbl := ag_q 682 (by decide +kernel) (by decide +kernel)
theorem q683 : Cond.instanceMethod yX5_repay ∈ ag_tbl := ag_q 683 (by decide +kernel) (by decide +kernel)
theorem q684 : Cond.selects RX5 yX5_repay yX5_repay ∈ ag_tbl := ag_q 684 (by decide +kernel) (by decide +kernel)
theorem q685 : Cond.code yX5_repay cX5_repay 4 (some FieldType.int) ∈ ag_tbl := ag_q 685 (by decide +kernel) (by decide +kernel)
theorem q687 : Cond.methodLink RL 136 yL_target ∈ ag_tbl := ag_q 687 (by decide +kernel) (by decide +kernel)
theorem q688 : Cond.static yL_target ∈ ag_tbl := ag_q 688 (by decide +kernel) (by decide +kernel)
theorem q689 : Cond.codeWith yL_target cL_target 4 (some FieldType.int) [(0, 9, 12, 13)] ∈ ag_tbl := ag_q 689 (by decide +kernel) (by decide +kernel)
theorem q690 : Cond.methodLink RL 59 yX5_target ∈ ag_tbl := ag_q 690 (by decide +kernel) (by decide +kernel)
theorem q691 : Cond.instanceMethod yX5_target ∈ ag_tbl := ag_q 691 (by decide +kernel) (by decide +kernel)
theorem q692 : Cond.selects RX5 yX5_target yX5_target ∈ ag_tbl := ag_q 692 (by decide +kernel) (by decide +kernel)
theorem q693 : Cond.code yX5_target cX5_target 3 (some FieldType.int) ∈ ag_tbl := ag_q 693 (by decide +kernel) (by decide +kernel)
theorem q694 : Cond.methodLink RL 139 yL_month ∈ ag_tbl := ag_q 694 (by decide +kernel) (by decide +kernel)
theorem q695 : Cond.static yL_month ∈ ag_tbl := ag_q 695 (by decide +kernel) (by decide +kernel)
theorem q696 : Cond.codeWith yL_month cL_month 4 (some FieldType.int) [(0, 9, 12, 13)] ∈ ag_tbl := ag_q 696 (by decide +kernel) (by decide +kernel)
theorem q697 : Cond.methodLink RL 62 yX5_month ∈ ag_tbl := ag_q 697 (by decide +kernel) (by decide +kernel)
theorem q698 : Cond.instanceMethod yX5_month ∈ ag_tbl := ag_q 698 (by decide +kernel) (by decide +kernel)
theorem q699 : Cond.selects RX5 yX5_month yX5_month ∈ ag_tbl := ag_q 699 (by decide +kernel) (by decide +kernel)
theorem q700 : Cond.code yX5_month cX5_month 3 (some FieldType.int) ∈ ag_tbl := ag_q 700 (by decide +kernel) (by decide +kernel)
theorem q701 : Cond.methodLink RX5 215 yX5_withdrawOverdue ∈ ag_tbl := ag_q 701 (by decide +kernel) (by decide +kernel)
theorem q703 : Cond.instanceMethod yX5_withdrawOverdue ∈ ag_tbl := ag_q 703 (by decide +kernel) (by decide +kernel)
theorem q704 : Cond.code yX5_withdrawOverdue cX5_withdrawOverdue 3 (none) ∈ ag_tbl := ag_q 704 (by decide +kernel) (by decide +kernel)
theorem q705 : Cond.methodLink RX5 352 yX1_isOverdue ∈ ag_tbl := ag_q 705 (by decide +kernel) (by decide +kernel)
theorem q706 : Cond.instanceMethod yX1_isOverdue ∈ ag_tbl := ag_q 706 (by decide +kernel) (by decide +kernel)
theorem q707 : Cond.selects RX1 yX1_isOverdue yX1_isOverdue ∈ ag_tbl := ag_q 707 (by decide +kernel) (by decide +kernel)
theorem q708 : Cond.code yX1_isOverdue cX1_isOverdue 2 (some FieldType.boolean) ∈ ag_tbl := ag_q 708 (by decide +kernel) (by decide +kernel)
theorem q709 : Cond.methodLink RX5 218 yX5_fillReserve ∈ ag_tbl := ag_q 709 (by decide +kernel) (by decide +kernel)
theorem q711 : Cond.instanceMethod yX5_fillReserve ∈ ag_tbl := ag_q 711 (by decide +kernel) (by decide +kernel)
theorem q712 : Cond.code yX5_fillReserve cX5_fillReserve 3 (none) ∈ ag_tbl := ag_q 712 (by decide +kernel) (by decide +kernel)
theorem q713 : Cond.methodLink RX5 359 yX5_targetNow ∈ ag_tbl := ag_q 713 (by decide +kernel) (by decide +kernel)
theorem q715 : Cond.instanceMethod yX5_targetNow ∈ ag_tbl := ag_q 715 (by decide +kernel) (by decide +kernel)
theorem q716 : Cond.code yX5_targetNow cX5_targetNow 4 (some FieldType.int) ∈ ag_tbl := ag_q 716 (by decide +kernel) (by decide +kernel)
theorem q717 : Cond.constantLong RX5 371 (100 : Int64) ∈ ag_tbl := ag_q 717 (by decide +kernel) (by decide +kernel)
theorem q718 : Cond.methodLink RX5 362 yX5_takeFrom ∈ ag_tbl := ag_q 718 (by decide +kernel) (by decide +kernel)
theorem q720 : Cond.instanceMethod yX5_takeFrom ∈ ag_tbl := ag_q 720 (by decide +kernel) (by decide +kernel)
theorem q721 : Cond.code yX5_takeFrom cX5_takeFrom 5 (none) ∈ ag_tbl := ag_q 721 (by decide +kernel) (by decide +kernel)
theorem q722 : Cond.methodLink RX5 365 yJ9_min_7cf53 ∈ ag_tbl := ag_q 722 (by decide +kernel) (by decide +kernel)
theorem q723 : Cond.methodLink RL 142 yL_ofLine ∈ ag_tbl := ag_q 723 (by decide +kernel) (by decide +kernel)
theorem q724 : Cond.static yL_ofLine ∈ ag_tbl := ag_q 724 (by decide +kernel) (by decide +kernel)
theorem q725 : Cond.codeWith yL_ofLine cL_ofLine 5 (some FieldType.int) [(0, 10, 13, 23), (0, 10, 17, 13)] ∈ ag_tbl := ag_q 725 (by decide +kernel) (by decide +kernel)
theorem q726 : Cond.methodLink RL 65 yX5_ofLine ∈ ag_tbl := ag_q 726 (by decide +kernel) (by decide +kernel)
theorem q727 : Cond.instanceMethod yX5_ofLine ∈ ag_tbl := ag_q 727 (by decide +kernel) (by decide +kernel)
theorem q728 : Cond.selects RX5 yX5_ofLine yX5_ofLine ∈ ag_tbl := ag_q 728 (by decide +kernel) (by decide +kernel)
theorem q729 : Cond.code yX5_ofLine cX5_ofLine 4 (some FieldType.int) ∈ ag_tbl := ag_q 729 (by decide +kernel) (by decide +kernel)
theorem q731 : Cond.methodLink RL 145 yL_standsAnew ∈ ag_tbl := ag_q 731 (by decide +kernel) (by decide +kernel)
theorem q732 : Cond.static yL_standsAnew ∈ ag_tbl := ag_q 732 (by decide +kernel) (by decide +kernel)
theorem q733 : Cond.codeWith yL_standsAnew cL_standsAnew 4 (some FieldType.int) [(0, 9, 12, 23)] ∈ ag_tbl := ag_q 733 (by decide +kernel) (by decide +kernel)
theorem q734 : Cond.methodLink RL 68 yX5_standsAnew ∈ ag_tbl := ag_q 734 (by decide +kernel) (by decide +kernel)
theorem q735 : Cond.instanceMethod yX5_standsAnew ∈ ag_tbl := ag_q 735 (by decide +kernel) (by decide +kernel)
theorem q736 : Cond.selects RX5 yX5_standsAnew yX5_standsAnew ∈ ag_tbl := ag_q 736 (by decide +kernel) (by decide +kernel)
theorem q737 : Cond.code yX5_standsAnew cX5_standsAnew 6 (some FieldType.int) ∈ ag_tbl := ag_q 737 (by decide +kernel) (by decide +kernel)
theorem q738 : Cond.methodLink RX5 245 yX5_countsByVotes ∈ ag_tbl := ag_q 738 (by decide +kernel) (by decide +kernel)
theorem q739 : Cond.static yX5_countsByVotes ∈ ag_tbl := ag_q 739 (by decide +kernel) (by decide +kernel)
theorem q740 : Cond.code yX5_countsByVotes cX5_countsByVotes 2 (some FieldType.boolean) ∈ ag_tbl := ag_q 740 (by decide +kernel) (by decide +kernel)
theorem q741 : Cond.methodLink RX5 251 yX2_standsWith ∈ ag_tbl := ag_q 741 (by decide +kernel) (by decide +kernel)
theorem q742 : Cond.methodLink RL 148 yL_ofAmendment ∈ ag_tbl := ag_q 742 (by decide +kernel) (by decide +kernel)
theorem q743 : Cond.static yL_ofAmendment ∈ ag_tbl := ag_q 743 (by decide +kernel) (by decide +kernel)
theorem q744 : Cond.codeWith yL_ofAmendment cL_ofAmendment 5 (some FieldType.int) [(0, 10, 13, 23), (0, 10, 17, 13)] ∈ ag_tbl := ag_q 744 (by decide +kernel) (by decide +kernel)
theorem q745 : Cond.methodLink RL 71 yX5_ofAmendment ∈ ag_tbl := ag_q 745 (by decide +kernel) (by decide +kernel)
theorem q746 : Cond.instanceMethod yX5_ofAmendment ∈ ag_tbl := ag_q 746 (by decide +kernel) (by decide +kernel)
theorem q747 : Cond.selects RX5 yX5_ofAmendment yX5_ofAmendment ∈ ag_tbl := ag_q 747 (by decide +kernel) (by decide +kernel)
theorem q748 : Cond.code yX5_ofAmendment cX5_ofAmendment 4 (some FieldType.int) ∈ ag_tbl := ag_q 748 (by decide +kernel) (by decide +kernel)
theorem q749 : Cond.methodLink RX5 261 yX0_votesAgainst ∈ ag_tbl := ag_q 749 (by decide +kernel) (by decide +kernel)
theorem q750 : Cond.methodLink RX5 268 yX5_numberOf ∈ ag_tbl := ag_q 750 (by decide +kernel) (by decide +kernel)
theorem q751 : Cond.static yX5_numberOf ∈ ag_tbl := ag_q 751 (by decide +kernel) (by decide +kernel)
theorem q752 : Cond.code yX5_numberOf cX5_numberOf 1 (some FieldType.int) ∈ ag_tbl := ag_q 752 (by decide +kernel) (by decide +kernel)
theorem q753 : Cond.methodLink RX5 272 yX5_countOn ∈ ag_tbl := ag_q 753 (by decide +kernel) (by decide +kernel)
theorem q755 : Cond.instanceMethod yX5_countOn ∈ ag_tbl := ag_q 755 (by decide +kernel) (by decide +kernel)
theorem q756 : Cond.code yX5_countOn cX5_countOn 4 (some FieldType.int) ∈ ag_tbl := ag_q 756 (by decide +kernel) (by decide +kernel)
theorem q757 : Cond.methodLink RL 151 yL_ofGrant ∈ ag_tbl := ag_q 757 (by decide +kernel) (by decide +kernel)
theorem q758 : Cond.static yL_ofGrant ∈ ag_tbl := ag_q 758 (by decide +kernel) (by decide +kernel)
theorem q759 : Cond.codeWith yL_ofGrant cL_ofGrant 5 (some FieldType.int) [(0, 10, 13, 23), (0, 10, 17, 13)] ∈ ag_tbl := ag_q 759 (by decide +kernel) (by decide +kernel)
theorem q760 : Cond.methodLink RL 74 yX5_ofGrant ∈ ag_tbl := ag_q 760 (by decide +kernel) (by decide +kernel)
theorem q761 : Cond.instanceMethod yX5_ofGrant ∈ ag_tbl := ag_q 761 (by decide +kernel) (by decide +kernel)
theorem q762 : Cond.selects RX5 yX5_ofGrant yX5_ofGrant ∈ ag_tbl := ag_q 762 (by decide +kernel) (by decide +kernel)
theorem q763 : Cond.code yX5_ofGrant cX5_ofGrant 4 (some FieldType.int) ∈ ag_tbl := ag_q 763 (by decide +kernel) (by decide +kernel)
theorem q764 : Cond.methodLink RL 154 yL_owes ∈ ag_tbl := ag_q 764 (by decide +kernel) (by decide +kernel)
theorem q765 : Cond.static yL_owes ∈ ag_tbl := ag_q 765 (by decide +kernel) (by decide +kernel)
theorem q766 : Cond.codeWith yL_owes cL_owes 4 (some FieldType.int) [(0, 9, 12, 23)] ∈ ag_tbl := ag_q 766 (by decide +kernel) (by decide +kernel)
theorem q767 : Cond.methodLink RL 77 yX5_owes ∈ ag_tbl := ag_q 767 (by decide +kernel) (by decide +kernel)
theorem q768 : Cond.instanceMethod yX5_owes ∈ ag_tbl := ag_q 768 (by decide +kernel) (by decide +kernel)
theorem q769 : Cond.selects RX5 yX5_owes yX5_owes ∈ ag_tbl := ag_q 769 (by decide +kernel) (by decide +kernel)
theorem q770 : Cond.code yX5_owes cX5_owes 2 (some FieldType.int) ∈ ag_tbl := ag_q 770 (by decide +kernel) (by decide +kernel)
theorem q771 : Cond.methodLink RL 161 yL_ofSource ∈ ag_tbl := ag_q 771 (by decide +kernel) (by decide +kernel)
theorem q772 : Cond.static yL_ofSource ∈ ag_tbl := ag_q 772 (by decide +kernel) (by decide +kernel)
theorem q773 : Cond.codeWith yL_ofSource cL_ofSource 5 (some FieldType.int) [(0, 10, 13, 13)] ∈ ag_tbl := ag_q 773 (by decide +kernel) (by decide +kernel)
theorem q774 : Cond.methodLink RL 80 yX5_ofSource ∈ ag_tbl := ag_q 774 (by decide +kernel) (by decide +kernel)
theorem q775 : Cond.instanceMethod yX5_ofSource ∈ ag_tbl := ag_q 775 (by decide +kernel) (by decide +kernel)
theorem q776 : Cond.selects RX5 yX5_ofSource yX5_ofSource ∈ ag_tbl := ag_q 776 (by decide +kernel) (by decide +kernel)
theorem q777 : Cond.code yX5_ofSource cX5_ofSource 4 (some FieldType.int) ∈ ag_tbl := ag_q 777 (by decide +kernel) (by decide +kernel)
theorem q778 : Cond.methodLink RX5 287 yX5_standsOfLinesFrom ∈ ag_tbl := ag_q 778 (by decide +kernel) (by decide +kernel)
theorem q780 : Cond.instanceMethod yX5_standsOfLinesFrom ∈ ag_tbl := ag_q 780 (by decide +kernel) (by decide +kernel)
theorem q781 : Cond.code yX5_standsOfLinesFrom cX5_standsOfLinesFrom 5 (some FieldType.int) ∈ ag_tbl := ag_q 781 (by decide +kernel) (by decide +kernel)
theorem q782 : Cond.classLink RL 84 "AmendgrantModel" ∈ ag_tbl := ag_q 782 (by decide +kernel) (by decide +kernel)
theorem q783 : Cond.instantiable RX6 31 ∈ ag_tbl := ag_q 783 (by decide +kernel) (by decide +kernel)
theorem q784 : Cond.methodLink RL 86 yX6_init ∈ ag_tbl := ag_q 784 (by decide +kernel) (by decide +kernel)
theorem q785 : Cond.instanceMethod yX6_init ∈ ag_tbl := ag_q 785 (by decide +kernel) (by decide +kernel)
theorem q786 : Cond.code yX6_init cX6_init 1 (none) ∈ ag_tbl := ag_q 786 (by decide +kernel) (by decide +kernel)
theorem q787 : Cond.methodLink RX6 1 objectInit ∈ ag_tbl := ag_q 787 (by decide +kernel) (by decide +kernel)
theorem q788 : Cond.fieldLink RX6 87 "AmendgrantModel" "thrown" "I" ∈ ag_tbl := ag_q 788 (by decide +kernel) (by decide +kernel)
theorem q789 : Cond.fieldLink RX6 156 "AmendgrantModel" "now" "I" ∈ ag_tbl := ag_q 789 (by decide +kernel) (by decide +kernel)
theorem q790 : Cond.fieldLink RX6 140 "AmendgrantModel" "reserve" "I" ∈ ag_tbl := ag_q 790 (by decide +kernel) (by decide +kernel)
theorem q791 : Cond.fieldLink RX6 7 "AmendgrantModel" "percent" "I" ∈ ag_tbl := ag_q 791 (by decide +kernel) (by decide +kernel)
theorem q792 : Cond.fieldLink RX6 13 "AmendgrantModel" "income" "[I" ∈ ag_tbl := ag_q 792 (by decide +kernel) (by decide +kernel)
theorem q793 : Cond.fieldLink RX6 17 "AmendgrantModel" "paidFrom" "[I" ∈ ag_tbl := ag_q 793 (by decide +kernel) (by decide +kernel)
theorem q794 : Cond.fieldLink RX6 20 "AmendgrantModel" "owes" "[I" ∈ ag_tbl := ag_q 794 (by decide +kernel) (by decide +kernel)
theorem q795 : Cond.fieldLink RX6 90 "AmendgrantModel" "lines" "I" ∈ ag_tbl := ag_q 795 (by decide +kernel) (by decide +kernel)
theorem q796 : Cond.fieldLink RX6 23 "AmendgrantModel" "sourceOf" "[I" ∈ ag_tbl := ag_q 796 (by decide +kernel) (by decide +kernel)
theorem q797 : Cond.fieldLink RX6 26 "AmendgrantModel" "first" "[I" ∈ ag_tbl := ag_q 797 (by decide +kernel) (by decide +kernel)
theorem q798 : Cond.fieldLink RX6 29 "AmendgrantModel" "took" "[I" ∈ ag_tbl := ag_q 798 (by decide +kernel) (by decide +kernel)
theorem q799 : Cond.fieldLink RX6 32 "AmendgrantModel" "covered" "[I" ∈ ag_tbl := ag_q 799 (by decide +kernel) (by decide +kernel)
theorem q800 : Cond.fieldLink RX6 35 "AmendgrantModel" "spent" "[I" ∈ ag_tbl := ag_q 800 (by decide +kernel) (by decide +kernel)
theorem q801 : Cond.fieldLink RX6 97 "AmendgrantModel" "amendments" "I" ∈ ag_tbl := ag_q 801 (by decide +kernel) (by decide +kernel)
theorem q802 : Cond.fieldLink RX6 38 "AmendgrantModel" "on" "[I" ∈ ag_tbl := ag_q 802 (by decide +kernel) (by decide +kernel)
theorem q803 : Cond.fieldLink RX6 41 "AmendgrantModel" "lineOf" "[I" ∈ ag_tbl := ag_q 803 (by decide +kernel) (by decide +kernel)
theorem q804 : Cond.fieldLink RX6 44 "AmendgrantModel" "more" "[I" ∈ ag_tbl := ag_q 804 (by decide +kernel) (by decide +kernel)
theorem q805 : Cond.fieldLink RX6 47 "AmendgrantModel" "state" "[I" ∈ ag_tbl := ag_q 805 (by decide +kernel) (by decide +kernel)
theorem q806 : Cond.fieldLink RX6 50 "AmendgrantModel" "round" "[I" ∈ ag_tbl := ag_q 806 (by decide +kernel) (by decide +kernel)
theorem q807 : Cond.fieldLink RX6 53 "AmendgrantModel" "votes" "[I" ∈ ag_tbl := ag_q 807 (by decide +kernel) (by decide +kernel)
theorem q808 : Cond.fieldLink RX6 100 "AmendgrantModel" "grants" "I" ∈ ag_tbl := ag_q 808 (by decide +kernel) (by decide +kernel)
theorem q809 : Cond.fieldLink RX6 56 "AmendgrantModel" "grantLine" "[I" ∈ ag_tbl := ag_q 809 (by decide +kernel) (by decide +kernel)
theorem q810 : Cond.fieldLink RX6 59 "AmendgrantModel" "receiver" "[I" ∈ ag_tbl := ag_q 810 (by decide +kernel) (by decide +kernel)
theorem q811 : Cond.fieldLink RX6 62 "AmendgrantModel" "sum" "[I" ∈ ag_tbl := ag_q 811 (by decide +kernel) (by decide +kernel)
theorem q812 : Cond.fieldLink RX6 65 "AmendgrantModel" "paid" "[I" ∈ ag_tbl := ag_q 812 (by decide +kernel) (by decide +kernel)
theorem q813 : Cond.fieldLink RX6 68 "AmendgrantModel" "hangsOn" "[I" ∈ ag_tbl := ag_q 813 (by decide +kernel) (by decide +kernel)
theorem q814 : Cond.fieldLink RX6 71 "AmendgrantModel" "until" "[I" ∈ ag_tbl := ag_q 814 (by decide +kernel) (by decide +kernel)
theorem q815 : Cond.fieldLink RX6 74 "AmendgrantModel" "becomes" "[I" ∈ ag_tbl := ag_q 815 (by decide +kernel) (by decide +kernel)
theorem q816 : Cond.fieldLink RX6 77 "AmendgrantModel" "isReported" "[Z" ∈ ag_tbl := ag_q 816 (by decide +kernel) (by decide +kernel)
theorem q817 : Cond.fieldLink RX6 81 "AmendgrantModel" "sums" "[I" ∈ ag_tbl := ag_q 817 (by decide +kernel) (by decide +kernel)
theorem q818 : Cond.fieldLink RX6 84 "AmendgrantModel" "isFalling" "[Z" ∈ ag_tbl := ag_q 818 (by decide +kernel) (by decide +kernel)
theorem q881 : Cond.superclass "AmendgrantModel" "java/lang/Object" ∈ ag_tbl := ag_q 881 (by decide +kernel) (by decide +kernel)
theorem q882 : Cond.arrayClass FieldType.int ∈ ag_tbl := ag_q 882 (by decide +kernel) (by decide +kernel)
theorem q883 : Cond.arrayClass FieldType.boolean ∈ ag_tbl := ag_q 883 (by decide +kernel) (by decide +kernel)
theorem q884 : Cond.methodLink RL 93 yX6_thrown ∈ ag_tbl := ag_q 884 (by decide +kernel) (by decide +kernel)
theorem q885 : Cond.instanceMethod yX6_thrown ∈ ag_tbl := ag_q 885 (by decide +kernel) (by decide +kernel)
theorem q886 : Cond.selects RX6 yX6_thrown yX6_thrown ∈ ag_tbl := ag_q 886 (by decide +kernel) (by decide +kernel)
theorem q887 : Cond.code yX6_thrown cX6_thrown 1 (some FieldType.int) ∈ ag_tbl := ag_q 887 (by decide +kernel) (by decide +kernel)
theorem q888 : Cond.methodLink RL 92 yX6_line ∈ ag_tbl := ag_q 888 (by decide +kernel) (by decide +kernel)
theorem q889 : Cond.instanceMethod yX6_line ∈ ag_tbl := ag_q 889 (by decide +kernel) (by decide +kernel)
theorem q890 : Cond.selects RX6 yX6_line yX6_line ∈ ag_tbl := ag_q 890 (by decide +kernel) (by decide +kernel)
theorem q891 : Cond.code yX6_line cX6_line 4 (some FieldType.int) ∈ ag_tbl := ag_q 891 (by decide +kernel) (by decide +kernel)
theorem q892 : Cond.methodLink RX6 93 yX6_in ∈ ag_tbl := ag_q 892 (by decide +kernel) (by decide +kernel)
theorem q893 : Cond.static yX6_in ∈ ag_tbl := ag_q 893 (by decide +kernel) (by decide +kernel)
theorem q894 : Cond.code yX6_in cX6_in 3 (some FieldType.boolean) ∈ ag_tbl := ag_q 894 (by decide +kernel) (by decide +kernel)
theorem q895 : Cond.constant RX6 113 (100000 : Int32) ∈ ag_tbl := ag_q 895 (by decide +kernel) (by decide +kernel)
theorem q896 : Cond.methodLink RX6 114 yX6_goesWell ∈ ag_tbl := ag_q 896 (by decide +kernel) (by decide +kernel)
theorem q898 : Cond.instanceMethod yX6_goesWell ∈ ag_tbl := ag_q 898 (by decide +kernel) (by decide +kernel)
theorem q899 : Cond.code yX6_goesWell cX6_goesWell 2 (some FieldType.boolean) ∈ ag_tbl := ag_q 899 (by decide +kernel) (by decide +kernel)
theorem q900 : Cond.methodLink RL 99 yX6_income ∈ ag_tbl := ag_q 900 (by decide +kernel) (by decide +kernel)
theorem q901 : Cond.instanceMethod yX6_income ∈ ag_tbl := ag_q 901 (by decide +kernel) (by decide +kernel)
theorem q902 : Cond.selects RX6 yX6_income yX6_income ∈ ag_tbl := ag_q 902 (by decide +kernel) (by decide +kernel)
theorem q903 : Cond.code yX6_income cX6_income 3 (some FieldType.int) ∈ ag_tbl := ag_q 903 (by decide +kernel) (by decide +kernel)
theorem q904 : Cond.methodLink RL 102 yX6_amend ∈ ag_tbl := ag_q 904 (by decide +kernel) (by decide +kernel)
theorem q905 : Cond.instanceMethod yX6_amend ∈ ag_tbl := ag_q 905 (by decide +kernel) (by decide +kernel)
theorem q906 : Cond.selects RX6 yX6_amend yX6_amend ∈ ag_tbl := ag_q 906 (by decide +kernel) (by decide +kernel)
theorem q907 : Cond.code yX6_amend cX6_amend 4 (some FieldType.int) ∈ ag_tbl := ag_q 907 (by decide +kernel) (by decide +kernel)
theorem q908 : Cond.methodLink RX6 120 yX6_isLine ∈ ag_tbl := ag_q 908 (by decide +kernel) (by decide +kernel)
theorem q910 : Cond.instanceMethod yX6_isLine ∈ ag_tbl := ag_q 910 (by decide +kernel) (by decide +kernel)
theorem q911 : Cond.code yX6_isLine cX6_isLine 2 (some FieldType.boolean) ∈ ag_tbl := ag_q 911 (by decide +kernel) (by decide +kernel)
theorem q912 : Cond.methodLink RX6 123 yX6_isMore ∈ ag_tbl := ag_q 912 (by decide +kernel) (by decide +kernel)
theorem q913 : Cond.static yX6_isMore ∈ ag_tbl := ag_q 913 (by decide +kernel) (by decide +kernel)
theorem q914 : Cond.code yX6_isMore cX6_isMore 1 (some FieldType.boolean) ∈ ag_tbl := ag_q 914 (by decide +kernel) (by decide +kernel)
theorem q915 : Cond.constant RX6 118 (-50000 : Int32) ∈ ag_tbl := ag_q 915 (by decide +kernel) (by decide +kernel)
theorem q916 : Cond.constant RX6 119 (50000 : Int32) ∈ ag_tbl := ag_q 916 (by decide +kernel) (by decide +kernel)
theorem q917 : Cond.methodLink RX6 126 yX6_make ∈ ag_tbl := ag_q 917 (by decide +kernel) (by decide +kernel)
theorem q919 : Cond.instanceMethod yX6_make ∈ ag_tbl := ag_q 919 (by decide +kernel) (by decide +kernel)
theorem q920 : Cond.code yX6_make cX6_make 4 (some FieldType.int) ∈ ag_tbl := ag_q 920 (by decide +kernel) (by decide +kernel)
theorem q921 : Cond.methodLink RL 105 yX6_amendOn ∈ ag_tbl := ag_q 921 (by decide +kernel) (by decide +kernel)
theorem q922 : Cond.instanceMethod yX6_amendOn ∈ ag_tbl := ag_q 922 (by decide +kernel) (by decide +kernel)
theorem q923 : Cond.selects RX6 yX6_amendOn yX6_amendOn ∈ ag_tbl := ag_q 923 (by decide +kernel) (by decide +kernel)
theorem q924 : Cond.code yX6_amendOn cX6_amendOn 4 (some FieldType.int) ∈ ag_tbl := ag_q 924 (by decide +kernel) (by decide +kernel)
theorem q925 : Cond.methodLink RX6 130 yX6_isAmendment ∈ ag_tbl := ag_q 925 (by decide +kernel) (by decide +kernel)
theorem q927 : Cond.instanceMethod yX6_isAmendment ∈ ag_tbl := ag_q 927 (by decide +kernel) (by decide +kernel)
theorem q928 : Cond.code yX6_isAmendment cX6_isAmendment 2 (some FieldType.boolean) ∈ ag_tbl := ag_q 928 (by decide +kernel) (by decide +kernel)
theorem q929 : Cond.methodLink RL 109 yX6_vote ∈ ag_tbl := ag_q 929 (by decide +kernel) (by decide +kernel)
theorem q930 : Cond.instanceMethod yX6_vote ∈ ag_tbl := ag_q 930 (by decide +kernel) (by decide +kernel)
theorem q931 : Cond.selects RX6 yX6_vote yX6_vote ∈ ag_tbl := ag_q 931 (by decide +kernel) (by decide +kernel)
theorem q932 : Cond.code yX6_vote cX6_vote 5 (some FieldType.int) ∈ ag_tbl := ag_q 932 (by decide +kernel) (by decide +kernel)
theorem q933 : Cond.methodLink RX6 133 yX6_votesOf ∈ ag_tbl := ag_q 933 (by decide +kernel) (by decide +kernel)
theorem q935 : Cond.instanceMethod yX6_votesOf ∈ ag_tbl := ag_q 935 (by decide +kernel) (by decide +kernel)
theorem q936 : Cond.code yX6_votesOf cX6_votesOf 5 (some FieldType.int) ∈ ag_tbl := ag_q 936 (by decide +kernel) (by decide +kernel)
theorem q937 : Cond.methodLink RL 113 yX6_decide ∈ ag_tbl := ag_q 937 (by decide +kernel) (by decide +kernel)
theorem q938 : Cond.instanceMethod yX6_decide ∈ ag_tbl := ag_q 938 (by decide +kernel) (by decide +kernel)
theorem q939 : Cond.selects RX6 yX6_decide yX6_decide ∈ ag_tbl := ag_q 939 (by decide +kernel) (by decide +kernel)
theorem q940 : Cond.code yX6_decide cX6_decide 6 (some FieldType.int) ∈ ag_tbl := ag_q 940 (by decide +kernel) (by decide +kernel)
theorem q941 : Cond.methodLink RX6 150 yX6_isFree ∈ ag_tbl := ag_q 941 (by decide +kernel) (by decide +kernel)
theorem q943 : Cond.instanceMethod yX6_isFree ∈ ag_tbl := ag_q 943 (by decide +kernel) (by decide +kernel)
theorem q944 : Cond.code yX6_isFree cX6_isFree 4 (some FieldType.boolean) ∈ ag_tbl := ag_q 944 (by decide +kernel) (by decide +kernel)
theorem q945 : Cond.methodLink RX6 147 yX6_look ∈ ag_tbl := ag_q 945 (by decide +kernel) (by decide +kernel)
theorem q947 : Cond.instanceMethod yX6_look ∈ ag_tbl := ag_q 947 (by decide +kernel) (by decide +kernel)
theorem q948 : Cond.code yX6_look cX6_look 4 (some FieldType.int) ∈ ag_tbl := ag_q 948 (by decide +kernel) (by decide +kernel)
theorem q949 : Cond.methodLink RX6 137 yX6_free ∈ ag_tbl := ag_q 949 (by decide +kernel) (by decide +kernel)
theorem q951 : Cond.instanceMethod yX6_free ∈ ag_tbl := ag_q 951 (by decide +kernel) (by decide +kernel)
theorem q952 : Cond.code yX6_free cX6_free 2 (some FieldType.int) ∈ ag_tbl := ag_q 952 (by decide +kernel) (by decide +kernel)
theorem q953 : Cond.methodLink RX6 106 yX6_stands ∈ ag_tbl := ag_q 953 (by decide +kernel) (by decide +kernel)
theorem q955 : Cond.instanceMethod yX6_stands ∈ ag_tbl := ag_q 955 (by decide +kernel) (by decide +kernel)
theorem q956 : Cond.code yX6_stands cX6_stands 4 (some FieldType.int) ∈ ag_tbl := ag_q 956 (by decide +kernel) (by decide +kernel)
theorem q957 : Cond.methodLink RX6 103 yX6_bring ∈ ag_tbl := ag_q 957 (by decide +kernel) (by decide +kernel)
theorem q959 : Cond.instanceMethod yX6_bring ∈ ag_tbl := ag_q 959 (by decide +kernel) (by decide +kernel)
theorem q960 : Cond.code yX6_bring cX6_bring 3 (none) ∈ ag_tbl := ag_q 960 (by decide +kernel) (by decide +kernel)
theorem q961 : Cond.methodLink RX6 110 yX6_bound ∈ ag_tbl := ag_q 961 (by decide +kernel) (by decide +kernel)
theorem q963 : Cond.instanceMethod yX6_bound ∈ ag_tbl := ag_q 963 (by decide +kernel) (by decide +kernel)
theorem q964 : Cond.code yX6_bound cX6_bound 4 (some FieldType.int) ∈ ag_tbl := ag_q 964 (by decide +kernel) (by decide +kernel)
theorem q965 : Cond.methodLink RX6 153 yX6_fall ∈ ag_tbl := ag_q 965 (by decide +kernel) (by decide +kernel)
theorem q967 : Cond.instanceMethod yX6_fall ∈ ag_tbl := ag_q 967 (by decide +kernel) (by decide +kernel)
theorem q968 : Cond.code yX6_fall cX6_fall 7 (some FieldType.int) ∈ ag_tbl := ag_q 968 (by decide +kernel) (by decide +kernel)
theorem q969 : Cond.methodLink RX6 143 yX6_withdraw ∈ ag_tbl := ag_q 969 (by decide +kernel) (by decide +kernel)
theorem q971 : Cond.instanceMethod yX6_withdraw ∈ ag_tbl := ag_q 971 (by decide +kernel) (by decide +kernel)
theorem q972 : Cond.code yX6_withdraw cX6_withdraw 2 (none) ∈ ag_tbl := ag_q 972 (by decide +kernel) (by decide +kernel)
theorem q973 : Cond.methodLink RL 116 yX6_strike ∈ ag_tbl := ag_q 973 (by decide +kernel) (by decide +kernel)
theorem q974 : Cond.instanceMethod yX6_strike ∈ ag_tbl := ag_q 974 (by decide +kernel) (by decide +kernel)
theorem q975 : Cond.selects RX6 yX6_strike yX6_strike ∈ ag_tbl := ag_q 975 (by decide +kernel) (by decide +kernel)
theorem q976 : Cond.code yX6_strike cX6_strike 3 (some FieldType.int) ∈ ag_tbl := ag_q 976 (by decide +kernel) (by decide +kernel)
theorem q977 : Cond.methodLink RL 120 yX6_grant ∈ ag_tbl := ag_q 977 (by decide +kernel) (by decide +kernel)
theorem q978 : Cond.instanceMethod yX6_grant ∈ ag_tbl := ag_q 978 (by decide +kernel) (by decide +kernel)
theorem q979 : Cond.selects RX6 yX6_grant yX6_grant ∈ ag_tbl := ag_q 979 (by decide +kernel) (by decide +kernel)
theorem q980 : Cond.code yX6_grant cX6_grant 9 (some FieldType.int) ∈ ag_tbl := ag_q 980 (by decide +kernel) (by decide +kernel)
theorem q981 : Cond.methodLink RL 123 yX6_pay ∈ ag_tbl := ag_q 981 (by decide +kernel) (by decide +kernel)
theorem q982 : Cond.instanceMethod yX6_pay ∈ ag_tbl := ag_q 982 (by decide +kernel) (by decide +kernel)
theorem q983 : Cond.selects RX6 yX6_pay yX6_pay ∈ ag_tbl := ag_q 983 (by decide +kernel) (by decide +kernel)
theorem q984 : Cond.code yX6_pay cX6_pay 6 (some FieldType.int) ∈ ag_tbl := ag_q 984 (by decide +kernel) (by decide +kernel)
theorem q985 : Cond.methodLink RX6 159 yX6_isGrant ∈ ag_tbl := ag_q 985 (by decide +kernel) (by decide +kernel)
theorem q987 : Cond.instanceMethod yX6_isGrant ∈ ag_tbl := ag_q 987 (by decide +kernel) (by decide +kernel)
theorem q988 : Cond.code yX6_isGrant cX6_isGrant 2 (some FieldType.boolean) ∈ ag_tbl := ag_q 988 (by decide +kernel) (by decide +kernel)
theorem q989 : Cond.methodLink RX6 162 yX6_canPay ∈ ag_tbl := ag_q 989 (by decide +kernel) (by decide +kernel)
theorem q991 : Cond.instanceMethod yX6_canPay ∈ ag_tbl := ag_q 991 (by decide +kernel) (by decide +kernel)
theorem q992 : Cond.code yX6_canPay cX6_canPay 3 (some FieldType.boolean) ∈ ag_tbl := ag_q 992 (by decide +kernel) (by decide +kernel)
theorem q993 : Cond.methodLink RL 126 yX6_report ∈ ag_tbl := ag_q 993 (by decide +kernel) (by decide +kernel)
theorem q994 : Cond.instanceMethod yX6_report ∈ ag_tbl := ag_q 994 (by decide +kernel) (by decide +kernel)
theorem q995 : Cond.selects RX6 yX6_report yX6_report ∈ ag_tbl := ag_q 995 (by decide +kernel) (by decide +kernel)
theorem q996 : Cond.code yX6_report cX6_report 4 (some FieldType.boolean) ∈ ag_tbl := ag_q 996 (by decide +kernel) (by decide +kernel)
theorem q997 : Cond.methodLink RL 129 yX6_spend ∈ ag_tbl := ag_q 997 (by decide +kernel) (by decide +kernel)
theorem q998 : Cond.instanceMethod yX6_spend ∈ ag_tbl := ag_q 998 (by decide +kernel) (by decide +kernel)
theorem q999 : Cond.selects RX6 yX6_spend yX6_spend ∈ ag_tbl := ag_q 999 (by decide +kernel) (by decide +kernel)
theorem q1000 : Cond.code yX6_spend cX6_spend 6 (some FieldType.int) ∈ ag_tbl := ag_q 1000 (by decide +kernel) (by decide +kernel)
theorem q1001 : Cond.methodLink RL 132 yX6_audit ∈ ag_tbl := ag_q 1001 (by decide +kernel) (by decide +kernel)
theorem q1002 : Cond.instanceMethod yX6_audit ∈ ag_tbl := ag_q 1002 (by decide +kernel) (by decide +kernel)
theorem q1003 : Cond.selects RX6 yX6_audit yX6_audit ∈ ag_tbl := ag_q 1003 (by decide +kernel) (by decide +kernel)
theorem q1004 : Cond.code yX6_audit cX6_audit 6 (some FieldType.int) ∈ ag_tbl := ag_q 1004 (by decide +kernel) (by decide +kernel)
theorem q1005 : Cond.methodLink RL 135 yX6_repay ∈ ag_tbl := ag_q 1005 (by decide +kernel) (by decide +kernel)
theorem q1006 : Cond.instanceMethod yX6_repay ∈ ag_tbl := ag_q 1006 (by decide +kernel) (by decide +kernel)
theorem q1007 : Cond.selects RX6 yX6_repay yX6_repay ∈ ag_tbl := ag_q 1007 (by decide +kernel) (by decide +kernel)
theorem q1008 : Cond.code yX6_repay cX6_repay 5 (some FieldType.int) ∈ ag_tbl := ag_q 1008 (by decide +kernel) (by decide +kernel)
theorem q1009 : Cond.methodLink RL 138 yX6_target ∈ ag_tbl := ag_q 1009 (by decide +kernel) (by decide +kernel)
theorem q1010 : Cond.instanceMethod yX6_target ∈ ag_tbl := ag_q 1010 (by decide +kernel) (by decide +kernel)
theorem q1011 : Cond.selects RX6 yX6_target yX6_target ∈ ag_tbl := ag_q 1011 (by decide +kernel) (by decide +kernel)
theorem q1012 : Cond.code yX6_target cX6_target 3 (some FieldType.int) ∈ ag_tbl := ag_q 1012 (by decide +kernel) (by decide +kernel)
theorem q1013 : Cond.methodLink RL 141 yX6_month ∈ ag_tbl := ag_q 1013 (by decide +kernel) (by decide +kernel)
theorem q1014 : Cond.instanceMethod yX6_month ∈ ag_tbl := ag_q 1014 (by decide +kernel) (by decide +kernel)
theorem q1015 : Cond.selects RX6 yX6_month yX6_month ∈ ag_tbl := ag_q 1015 (by decide +kernel) (by decide +kernel)
theorem q1016 : Cond.code yX6_month cX6_month 4 (some FieldType.int) ∈ ag_tbl := ag_q 1016 (by decide +kernel) (by decide +kernel)
theorem q1017 : Cond.methodLink RX6 168 yX6_fill ∈ ag_tbl := ag_q 1017 (by decide +kernel) (by decide +kernel)
theorem q1019 : Cond.instanceMethod yX6_fill ∈ ag_tbl := ag_q 1019 (by decide +kernel) (by decide +kernel)
theorem q1020 : Cond.code yX6_fill cX6_fill 10 (none) ∈ ag_tbl := ag_q 1020 (by decide +kernel) (by decide +kernel)
theorem q1021 : Cond.constantLong RX6 166 (100 : Int64) ∈ ag_tbl := ag_q 1021 (by decide +kernel) (by decide +kernel)
theorem q1022 : Cond.methodLink RL 144 yX6_ofLine ∈ ag_tbl := ag_q 1022 (by decide +kernel) (by decide +kernel)
theorem q1023 : Cond.instanceMethod yX6_ofLine ∈ ag_tbl := ag_q 1023 (by decide +kernel) (by decide +kernel)
theorem q1024 : Cond.selects RX6 yX6_ofLine yX6_ofLine ∈ ag_tbl := ag_q 1024 (by decide +kernel) (by decide +kernel)
theorem q1025 : Cond.code yX6_ofLine cX6_ofLine 4 (some FieldType.int) ∈ ag_tbl := ag_q 1025 (by decide +kernel) (by decide +kernel)
theorem q1026 : Cond.methodLink RL 147 yX6_standsAnew ∈ ag_tbl := ag_q 1026 (by decide +kernel) (by decide +kernel)
theorem q1027 : Cond.instanceMethod yX6_standsAnew ∈ ag_tbl := ag_q 1027 (by decide +kernel) (by decide +kernel)
theorem q1028 : Cond.selects RX6 yX6_standsAnew yX6_standsAnew ∈ ag_tbl := ag_q 1028 (by decide +kernel) (by decide +kernel)
theorem q1029 : Cond.code yX6_standsAnew cX6_standsAnew 2 (some FieldType.int) ∈ ag_tbl := ag_q 1029 (by decide +kernel) (by decide +kernel)
theorem q1030 : Cond.methodLink RL 150 yX6_ofAmendment ∈ ag_tbl := ag_q 1030 (by decide +kernel) (by decide +kernel)
theorem q1031 : Cond.instanceMethod yX6_ofAmendment ∈ ag_tbl := ag_q 1031 (by decide +kernel) (by decide +kernel)
theorem q1032 : Cond.selects RX6 yX6_ofAmendment yX6_ofAmendment ∈ ag_tbl := ag_q 1032 (by decide +kernel) (by decide +kernel)
theorem q1033 : Cond.code yX6_ofAmendment cX6_ofAmendment 4 (some FieldType.int) ∈ ag_tbl := ag_q 1033 (by decide +kernel) (by decide +kernel)
theorem q1034 : Cond.methodLink RX6 171 yX6_manyOn ∈ ag_tbl := ag_q 1034 (by decide +kernel) (by decide +kernel)
theorem q1036 : Cond.instanceMethod yX6_manyOn ∈ ag_tbl := ag_q 1036 (by decide +kernel) (by decide +kernel)
theorem q1037 : Cond.code yX6_manyOn cX6_manyOn 4 (some FieldType.int) ∈ ag_tbl := ag_q 1037 (by decide +kernel) (by decide +kernel)
theorem q1038 : Cond.methodLink RL 153 yX6_ofGrant ∈ ag_tbl := ag_q 1038 (by decide +kernel) (by decide +kernel)
theorem q1039 : Cond.instanceMethod yX6_ofGrant ∈ ag_tbl := ag_q 1039 (by decide +kernel) (by decide +kernel)
theorem q1040 : Cond.selects RX6 yX6_ofGrant yX6_ofGrant ∈ ag_tbl := ag_q 1040 (by decide +kernel) (by decide +kernel)
theorem q1041 : Cond.code yX6_ofGrant cX6_ofGrant 4 (some FieldType.int) ∈ ag_tbl := ag_q 1041 (by decide +kernel) (by decide +kernel)
theorem q1042 : Cond.methodLink RL 156 yX6_owes ∈ ag_tbl := ag_q 1042 (by decide +kernel) (by decide +kernel)
theorem q1043 : Cond.instanceMethod yX6_owes ∈ ag_tbl := ag_q 1043 (by decide +kernel) (by decide +kernel)
theorem q1044 : Cond.selects RX6 yX6_owes yX6_owes ∈ ag_tbl := ag_q 1044 (by decide +kernel) (by decide +kernel)
theorem q1045 : Cond.code yX6_owes cX6_owes 2 (some FieldType.int) ∈ ag_tbl := ag_q 1045 (by decide +kernel) (by decide +kernel)
theorem q1046 : Cond.methodLink RL 160 yX6_reserve ∈ ag_tbl := ag_q 1046 (by decide +kernel) (by decide +kernel)
theorem q1047 : Cond.instanceMethod yX6_reserve ∈ ag_tbl := ag_q 1047 (by decide +kernel) (by decide +kernel)
theorem q1048 : Cond.selects RX6 yX6_reserve yX6_reserve ∈ ag_tbl := ag_q 1048 (by decide +kernel) (by decide +kernel)
theorem q1049 : Cond.code yX6_reserve cX6_reserve 1 (some FieldType.int) ∈ ag_tbl := ag_q 1049 (by decide +kernel) (by decide +kernel)
theorem q1050 : Cond.methodLink RL 163 yX6_ofSource ∈ ag_tbl := ag_q 1050 (by decide +kernel) (by decide +kernel)
theorem q1051 : Cond.instanceMethod yX6_ofSource ∈ ag_tbl := ag_q 1051 (by decide +kernel) (by decide +kernel)
theorem q1052 : Cond.selects RX6 yX6_ofSource yX6_ofSource ∈ ag_tbl := ag_q 1052 (by decide +kernel) (by decide +kernel)
theorem q1053 : Cond.code yX6_ofSource cX6_ofSource 5 (some FieldType.int) ∈ ag_tbl := ag_q 1053 (by decide +kernel) (by decide +kernel)
theorem q1054 : Cond.arrayClass FieldType.long ∈ ag_tbl := ag_q 1054 (by decide +kernel) (by decide +kernel)
theorem q1070 : Cond.selects "[Ljava/lang/Object;" ⟨"java/lang/Object", "getClass", "()Ljava/lang/Class;"⟩ ⟨"java/lang/Object", "getClass", "()Ljava/lang/Class;"⟩ ∈ ag_tbl := ag_q 1070 (by decide +kernel) (by decide +kernel)
theorem qs0 : Cond.selects RJx4a65c yJx4a65c_add_72be8 yJx4a65c_add_72be8 ∈ ag_tbl := ag_qs 0 (by decide +kernel) (by decide +kernel)
theorem qs1 : Cond.selects RJx4a65c yJx4a65c_grow_d5877 yJx4a65c_grow_d5877 ∈ ag_tbl := ag_qs 1 (by decide +kernel) (by decide +kernel)
theorem qs2 : Cond.selects RJx4a65c yJx4a65c_grow_92f84 yJx4a65c_grow_92f84 ∈ ag_tbl := ag_qs 2 (by decide +kernel) (by decide +kernel)
theorem qs3 : Cond.selects RX5 yX5_sourceAt yX5_sourceAt ∈ ag_tbl := ag_qs 3 (by decide +kernel) (by decide +kernel)
theorem qs5 : Cond.selects RX5 yX5_lineAt yX5_lineAt ∈ ag_tbl := ag_qs 5 (by decide +kernel) (by decide +kernel)
theorem qs6 : Cond.selects RX5 yX5_needRoomForAmendment yX5_needRoomForAmendment ∈ ag_tbl := ag_qs 6 (by decide +kernel) (by decide +kernel)
theorem qs7 : Cond.selects RX5 yX5_addAmendment yX5_addAmendment ∈ ag_tbl := ag_qs 7 (by decide +kernel) (by decide +kernel)
theorem qs8 : Cond.selects RX5 yX5_amendmentAt yX5_amendmentAt ∈ ag_tbl := ag_qs 8 (by decide +kernel) (by decide +kernel)
theorem qs9 : Cond.selects RX5 yX5_isOneOpenOn yX5_isOneOpenOn ∈ ag_tbl := ag_qs 9 (by decide +kernel) (by decide +kernel)
theorem qs10 : Cond.selects RX5 yX5_makePassed yX5_makePassed ∈ ag_tbl := ag_qs 10 (by decide +kernel) (by decide +kernel)
theorem qs11 : Cond.selects RX5 yX5_reckonWhatIsBrought yX5_reckonWhatIsBrought ∈ ag_tbl := ag_qs 11 (by decide +kernel) (by decide +kernel)
theorem qs12 : Cond.selects RX5 yX5_balance yX5_balance ∈ ag_tbl := ag_qs 12 (by decide +kernel) (by decide +kernel)
theorem qs13 : Cond.selects RX5 yX5_freeOf yX5_freeOf ∈ ag_tbl := ag_qs 13 (by decide +kernel) (by decide +kernel)
theorem qs14 : Cond.selects RX5 yX5_boundOf yX5_boundOf ∈ ag_tbl := ag_qs 14 (by decide +kernel) (by decide +kernel)
theorem qs15 : Cond.selects RX5 yX5_makeFallen yX5_makeFallen ∈ ag_tbl := ag_qs 15 (by decide +kernel) (by decide +kernel)
theorem qs16 : Cond.selects RX5 yX5_fellAllOnFallen yX5_fellAllOnFallen ∈ ag_tbl := ag_qs 16 (by decide +kernel) (by decide +kernel)
theorem qs17 : Cond.selects RX5 yX5_withdrawThoseOnFallen yX5_withdrawThoseOnFallen ∈ ag_tbl := ag_qs 17 (by decide +kernel) (by decide +kernel)
theorem qs18 : Cond.selects RX5 yX5_receiverAt yX5_receiverAt ∈ ag_tbl := ag_qs 18 (by decide +kernel) (by decide +kernel)
theorem qs19 : Cond.selects RX5 yX5_needFree yX5_needFree ∈ ag_tbl := ag_qs 19 (by decide +kernel) (by decide +kernel)
theorem qs20 : Cond.selects RX5 yX5_grantAt yX5_grantAt ∈ ag_tbl := ag_qs 20 (by decide +kernel) (by decide +kernel)
theorem qs21 : Cond.selects RX5 yX5_withdrawOverdue yX5_withdrawOverdue ∈ ag_tbl := ag_qs 21 (by decide +kernel) (by decide +kernel)
theorem qs22 : Cond.selects RX5 yX5_fillReserve yX5_fillReserve ∈ ag_tbl := ag_qs 22 (by decide +kernel) (by decide +kernel)
theorem qs23 : Cond.selects RX5 yX5_targetNow yX5_targetNow ∈ ag_tbl := ag_qs 23 (by decide +kernel) (by decide +kernel)
theorem qs24 : Cond.selects RX5 yX5_takeFrom yX5_takeFrom ∈ ag_tbl := ag_qs 24 (by decide +kernel) (by decide +kernel)
theorem qs25 : Cond.selects RX5 yX5_countOn yX5_countOn ∈ ag_tbl := ag_qs 25 (by decide +kernel) (by decide +kernel)
theorem qs26 : Cond.selects RX5 yX5_standsOfLinesFrom yX5_standsOfLinesFrom ∈ ag_tbl := ag_qs 26 (by decide +kernel) (by decide +kernel)
theorem qs27 : Cond.selects RX6 yX6_goesWell yX6_goesWell ∈ ag_tbl := ag_qs 27 (by decide +kernel) (by decide +kernel)
theorem qs28 : Cond.selects RX6 yX6_isLine yX6_isLine ∈ ag_tbl := ag_qs 28 (by decide +kernel) (by decide +kernel)
theorem qs29 : Cond.selects RX6 yX6_make yX6_make ∈ ag_tbl := ag_qs 29 (by decide +kernel) (by decide +kernel)
theorem qs30 : Cond.selects RX6 yX6_isAmendment yX6_isAmendment ∈ ag_tbl := ag_qs 30 (by decide +kernel) (by decide +kernel)
theorem qs31 : Cond.selects RX6 yX6_votesOf yX6_votesOf ∈ ag_tbl := ag_qs 31 (by decide +kernel) (by decide +kernel)
theorem qs32 : Cond.selects RX6 yX6_isFree yX6_isFree ∈ ag_tbl := ag_qs 32 (by decide +kernel) (by decide +kernel)
theorem qs33 : Cond.selects RX6 yX6_look yX6_look ∈ ag_tbl := ag_qs 33 (by decide +kernel) (by decide +kernel)
theorem qs34 : Cond.selects RX6 yX6_free yX6_free ∈ ag_tbl := ag_qs 34 (by decide +kernel) (by decide +kernel)
theorem qs35 : Cond.selects RX6 yX6_stands yX6_stands ∈ ag_tbl := ag_qs 35 (by decide +kernel) (by decide +kernel)
theorem qs36 : Cond.selects RX6 yX6_bring yX6_bring ∈ ag_tbl := ag_qs 36 (by decide +kernel) (by decide +kernel)
theorem qs37 : Cond.selects RX6 yX6_bound yX6_bound ∈ ag_tbl := ag_qs 37 (by decide +kernel) (by decide +kernel)
theorem qs38 : Cond.selects RX6 yX6_fall yX6_fall ∈ ag_tbl := ag_qs 38 (by decide +kernel) (by decide +kernel)
theorem qs39 : Cond.selects RX6 yX6_withdraw yX6_withdraw ∈ ag_tbl := ag_qs 39 (by decide +kernel) (by decide +kernel)
theorem qs40 : Cond.selects RX6 yX6_isGrant yX6_isGrant ∈ ag_tbl := ag_qs 40 (by decide +kernel) (by decide +kernel)
theorem qs41 : Cond.selects RX6 yX6_canPay yX6_canPay ∈ ag_tbl := ag_qs 41 (by decide +kernel) (by decide +kernel)
theorem qs42 : Cond.selects RX6 yX6_fill yX6_fill ∈ ag_tbl := ag_qs 42 (by decide +kernel) (by decide +kernel)
theorem qs43 : Cond.selects RX6 yX6_manyOn yX6_manyOn ∈ ag_tbl := ag_qs 43 (by decide +kernel) (by decide +kernel)
theorem inX0 : ∀ w ∈ u_ws RX0 TX0 10, w ∈ ag_tbl := ag_in [410, 412, 414, 416, 418, 420, 422, 424, 426, 428] (by decide +kernel) (by decide +kernel)
theorem inX1 : ∀ w ∈ u_ws RX1 TX1 8, w ∈ ag_tbl := ag_in [609, 611, 613, 615, 617, 619, 621, 623] (by decide +kernel) (by decide +kernel)
theorem inX2 : ∀ w ∈ u_ws RX2 TX2 7, w ∈ ag_tbl := ag_in [320, 322, 324, 326, 328, 330, 332] (by decide +kernel) (by decide +kernel)
theorem inX3 : ∀ w ∈ u_ws RX3 TX3 2, w ∈ ag_tbl := ag_in [146, 148] (by decide +kernel) (by decide +kernel)
theorem inX4 : ∀ w ∈ u_ws RX4 TX4 3, w ∈ ag_tbl := ag_in [70, 72, 74] (by decide +kernel) (by decide +kernel)
theorem inX5 : ∀ w ∈ u_ws RX5 TX5 8, w ∈ ag_tbl := ag_in [159, 161, 163, 165, 167, 169, 171, 173] (by decide +kernel) (by decide +kernel)
theorem inX6 : ∀ w ∈ u_ws RX6 TX6 31, w ∈ ag_tbl := ag_in [819, 821, 823, 825, 827, 829, 831, 833, 835, 837, 839, 841, 843, 845, 847, 849, 851, 853, 855, 857, 859, 861, 863, 865, 867, 869, 871, 873, 875, 877, 879] (by decide +kernel) (by decide +kernel)
theorem inJx4a65c : ∀ w ∈ u_ws RJx4a65c TJx4a65c 3, w ∈ ag_tbl := ag_in [55, 51, 53] (by decide +kernel) (by decide +kernel)
end
section
theorem ag_xs {α : Type} {x : Option ((Int32 ⊕ Int32) × ag_S)} {k : Int32 → ag_S → Option ((Int32 ⊕ Int32) × α)} {g : ag_S → α} {out : (Int32 ⊕ Int32) × α} (h : ag_bt x k g = some out) : ∃ o, x = some o ∧ ((∃ r, o.1 = .inl r ∧ k r o.2 = some out) ∨ ∃ e, o.1 = .inr e ∧ (.inr e, g o.2) = out) := by
  match x, h with
  | none, h => cases h
  | some (.inl r, s), h => exact ⟨_, rfl, Or.inl ⟨r, rfl, h⟩⟩
  | some (.inr e, s), h => exact ⟨_, rfl, Or.inr ⟨e, rfl, Option.some.inj h⟩⟩
def ag_ex (E : String) (o : Int32 ⊕ Int32) : Prop := (E = "java/lang/IndexOutOfBoundsException" ∧ o = .inr 1) ∨ (E = "java/lang/IllegalArgumentException" ∧ o = .inr 2) ∨ (E = "java/lang/IllegalStateException" ∧ o = .inr 3)
theorem ag_ex.is {E : String} {o : Int32 ⊕ Int32} (h : ag_ex E o) : ∃ e, o = .inr e := by
  rcases h with h | h | h <;> exact ⟨_, h.2⟩
abbrev ag_Ri (z : ag_Z) (n : ag_N) (p : ag_P) (r0 : Int32) (s1 : ag_S) : Array Value → State → Outcome → State → Prop := va_Qi (fun r (_ : Unit) => r = r0) (fun _ t => ag_W z n p s1 t.heap) (ag_A z)
abbrev ag_Rv (z : ag_Z) (n : ag_N) (p : ag_P) (s1 : ag_S) : Array Value → State → Outcome → State → Prop := va_Qv (fun (_ : Unit) => True) (fun _ t => ag_W z n p s1 t.heap) (ag_A z)
abbrev ag_Rr (z : ag_Z) (n : ag_N) (p : ag_P) (k : Nat) (r0 : Int32) (s1 : ag_S) : Array Value → State → Outcome → State → Prop := va_Qr (fun (_ : Unit) => True) (fun _ ra t => (ra = p k r0 ∧ vp_in r0 (n k)) ∧ ag_W z n p s1 t.heap) (ag_A z)
abbrev ag_Xi (z : ag_Z) (n : ag_N) (p : ag_P) (o : (Int32 ⊕ Int32) × ag_S) : Array Value → State → Outcome → State → Prop := va_Qi (fun r (_ : Unit) => o.1 = .inl r) (fun _ t => ag_W z n p o.2 t.heap) (ag_A z)
abbrev ag_Xv (z : ag_Z) (n : ag_N) (p : ag_P) (o : (Int32 ⊕ Int32) × ag_S) : Array Value → State → Outcome → State → Prop := va_Qv (fun (_ : Unit) => o.1 = .inl 0) (fun _ t => ag_W z n p o.2 t.heap) (ag_A z)
abbrev ag_Xr (z : ag_Z) (n : ag_N) (p : ag_P) (k : Nat) (o : (Int32 ⊕ Int32) × ag_S) : Array Value → State → Outcome → State → Prop := va_Qr (fun (_ : Unit) => True) (fun _ ra t => (∃ r, o.1 = .inl r ∧ ra = p k r ∧ vp_in r (n k)) ∧ ag_W z n p o.2 t.heap) (ag_A z)
abbrev ag_XX (z : ag_Z) (n : ag_N) (p : ag_P) (o : (Int32 ⊕ Int32) × ag_S) : String → State → State → Prop := vx_X (fun (_ : Unit) => True) (fun E _ t => ag_ex E o.1 ∧ ag_W z n p o.2 t.heap) (ag_A z)
theorem ag_recv {z : ag_Z} {n : ag_N} {p : ag_P} {s : ag_S} {st : State} {H : Heap} {k ci N : Nat} {i : Int32} {ts : List (Nat × Nat)} {C : String} {T : u_T} (hG : ag_G z st st.heap) (hW : ag_W z n p s H) (hi : vp_in i (n k)) (hod : ag_od k = some (ci, ts)) (hcl : vwCl[ci]? = some (C, T, N)) : ∃ cell : Cell, H[p k i]? = some cell ∧ cell.vm.isStatics = false ∧ st.vm.findClass C = some cell.cls := by
  have hP := ag_one hW hi
  rw [ag_cell_od hod] at hP
  exact va_recv hG.1 hP (q0 := 0) (ci := ci) hcl rfl
section AGC
variable {p0 : Program} {l : Launch} {e : Env} {R : Room} {st : State} {m : MethodId} {args : Array Value} {below : List Frame} {meth : Method} {c : Code} {H : Heap} {locs : List Loc} {cells slots : Nat} {Q : State → Prop}
variable {cc : ByteArray} {pc nL : Nat} {ls : Array Slot} {rest stk As : List Value} {z : ag_Z} {n : ag_N} {p : ag_P} {s s1 : ag_S} {r0 : Int32} {o : (Int32 ⊕ Int32) × ag_S}
variable {own C : String} {index maxL k ci N k1 mc ms C1 S1 : Nat} {y : MethodName} {bytes : ByteArray} {ret : Option FieldType} {rm : Room} {i : Int32} {ts : List (Nat × Nat)} {T : u_T}

theorem ag_callr {a : Array Value} {A0 A1 : Nat → Prop} {H0 : Heap} {free : Addr → Prop} {st0 : List Value} {S SX : Type} {post : S → Prop} {px : SX → Prop} {B : S → Nat → State → Prop} {BX : String → SX → State → Prop} {AX : Nat → Prop} (hr : vx_Run p0 l e R st m args below meth c H locs cells slots mc ms (F0 m pc ls st0) rest (va_Qr post B A1 a) (vx_X px BX AX) free) (hS : va_S A0 H0 H locs) (hA : ∀ q, q < H.size → A1 q → A0 q) (hf : ∀ q, free q → A0 q) (hAX : ∀ q, q < H.size → AX q → A0 q)
    (kx : ∀ (E : String) (ce : Cell) (q9 : Addr) (u : SX) (t : State) (H1 : Heap) (locs1 : List Loc), t.heap = H1 → st.vm.Alike t.vm → px u → BX E u t → H.size ≤ H1.size → (∀ q : Nat, q < H.size → ¬ AX q → H1[q]? = H[q]?) → va_S A0 H0 H1 locs1 → H1[q9]? = some ce → ce.vm = .none → st.vm.findClass E = some ce.cls → vx_W p0 l e R st m args below meth c H1 locs1 (cells + mc) (slots + ms) Q (F0 m pc ls rest) q9)
    (kk : ∀ (u : S) (ra : Nat) (t : State) (H1 : Heap) (locs1 : List Loc), t.heap = H1 → st.vm.Alike t.vm → post u → B u ra t → H.size ≤ H1.size → (∀ q : Nat, q < H.size → ¬ A1 q → H1[q]? = H[q]?) → va_S A0 H0 H1 locs1 → W p0 l e R st m args below meth c H1 locs1 (cells + mc) (slots + ms) Q (F0 m (pc + 3) ls (.ref ra :: rest))) : W p0 l e R st m args below meth c H locs cells slots Q (F0 m pc ls st0) := by
  intro T hT X
  rcases hr T hT X with ⟨v, st₀, t, T', L, h0, X', hL, e1, e2, ⟨⟨u, ra, hv, hp, hb⟩, hF⟩, sp⟩ | ⟨q, st₀, t, T', L, E, ce, h0, X', hL, e1, e2, ⟨u, hp, hb, hF⟩, hce, hcv, hcl, sp⟩
  · cases hv
    obtain ⟨k1, k2, k3⟩ := vx_keep h0 e1 hS hA hf hL hF
    obtain ⟨t2, a1, b1⟩ := kk u ra t T'.heap (locs ++ L) e1.symm (by rw [← e2]; exact X'.warmed.alike) hp hb k1 k2 k3 T' rfl X'
    exact ⟨t2, sp t2 a1, b1⟩
  · obtain ⟨k1, k2, k3⟩ := vx_keep h0 e1 hS hAX hf hL hF
    obtain ⟨t2, a1, b1⟩ := kx E ce q u t T'.heap (locs ++ L) e1.symm (by rw [← e2]; exact X'.warmed.alike) hp hb k1 k2 k3 (by rw [e1]; exact hce) hcv hcl T' rfl X'
    exact ⟨t2, sp.trans a1, b1⟩
theorem ag_cVi (hx : p0.tables.exec = Jvm.exec) (hb : c.code = cc) (hml : c.maxLocals = nL) (hT : ∀ w ∈ ag_tbl, w.before args st = true) (hown : st.vm.findClass own = some m.cls) (hG : ag_G z st st.heap) (h0 : z.2.2.1 ≤ st.heap.size) (hS : va_S (ag_A z) st.heap H locs) (hW : ag_W z n p s H)
    (hM : Met l y (ag_ws y bytes maxL ret) rm (va_Pc (.ref (p k i) :: As) (ag_Pre z n p s)) (ag_Ri z n p r0 s1) 0 0 (ag_A z)) (hr0 : rm.cells = 0 ∧ rm.slots = 0)
    (q1 : Cond.methodLink own index y ∈ ag_tbl) (q2 : Cond.instanceMethod y ∈ ag_tbl) (q3 : Cond.selects C y y ∈ ag_tbl) (q4 : Cond.initialized C ∈ ag_tbl) (q5 : Cond.code y bytes maxL ret ∈ ag_tbl) (hd : y.cls = C ∧ y.cls ≠ "java/lang/invoke/MethodHandle" ∧ y.cls ≠ "java/lang/invoke/VarHandle" ∧ (parseMethodDescriptor y.desc).map (fun d => d.parameters.length) = some As.length)
    (hR : rm.frames + 1 ≤ R.frames ∧ 8 + (maxL + 11) + rm.locals ≤ R.locals)
    (hi : vp_in i (n k)) (hod : ag_od k = some (ci, ts)) (hcl : vwCl[ci]? = some (C, T, N))
    (hls : ls.size = nL) (hstk : stk = As.reverse ++ .ref (p k i) :: rest) (h8 : (rest.map fun v => v.category).sum ≤ 8) (hcs : cells + 0 ≤ R.cells ∧ slots + 0 ≤ R.slots) (hdg : decode cc pc = .ok (.invokevirtual index, 3))
    (kk : ∀ (H1 : Heap) (locs1 : List Loc), ag_W z n p s1 H1 → va_S (ag_A z) st.heap H1 locs1 → W p0 l e R st m args below meth c H1 locs1 cells slots Q (F0 m (pc + 3) ls (.int r0 :: rest))) : W p0 l e R st m args below meth c H locs cells slots Q (F0 m pc ls stk) := by
  subst hstk
  refine va_calli (va_runV (As := As) (rest := rest) ⟨hx, hb, hml, hown, hT⟩ hM (cwV As.length hT (ag_gV q1 q2 q3 q4 q5) rfl hr0.1 hr0.2 hd hR) ⟨ag_Pre.blind, ag_recv hG hW hi hod hcl, fun U hU hV => ⟨rfl, ag_Pre.to (s0 := s) h0 hG hS hW U hU hV⟩⟩ rfl rfl hls rfl (lv_room h8) hdg hcs) hS (fun _ _ h => h) (fun _ h => h) (fun r u t H1 locs1 ht hvm hw hB hz hk hS1 => ?_)
  subst hw
  rw [ht] at hB
  exact kk H1 locs1 hB hS1
theorem ag_cVv (hx : p0.tables.exec = Jvm.exec) (hb : c.code = cc) (hml : c.maxLocals = nL) (hT : ∀ w ∈ ag_tbl, w.before args st = true) (hown : st.vm.findClass own = some m.cls) (hG : ag_G z st st.heap) (h0 : z.2.2.1 ≤ st.heap.size) (hS : va_S (ag_A z) st.heap H locs) (hW : ag_W z n p s H)
    (hM : Met l y (ag_ws y bytes maxL ret) rm (va_Pc (.ref (p k i) :: As) (ag_Pre z n p s)) (ag_Rv z n p s1) 0 0 (ag_A z)) (hr0 : rm.cells = 0 ∧ rm.slots = 0)
    (q1 : Cond.methodLink own index y ∈ ag_tbl) (q2 : Cond.instanceMethod y ∈ ag_tbl) (q3 : Cond.selects C y y ∈ ag_tbl) (q4 : Cond.initialized C ∈ ag_tbl) (q5 : Cond.code y bytes maxL ret ∈ ag_tbl) (hd : y.cls = C ∧ y.cls ≠ "java/lang/invoke/MethodHandle" ∧ y.cls ≠ "java/lang/invoke/VarHandle" ∧ (parseMethodDescriptor y.desc).map (fun d => d.parameters.length) = some As.length)
    (hR : rm.frames + 1 ≤ R.frames ∧ 8 + (maxL + 11) + rm.locals ≤ R.locals)
    (hi : vp_in i (n k)) (hod : ag_od k = some (ci, ts)) (hcl : vwCl[ci]? = some (C, T, N))
    (hls : ls.size = nL) (hstk : stk = As.reverse ++ .ref (p k i) :: rest) (h8 : (rest.map fun v => v.category).sum ≤ 8) (hcs : cells + 0 ≤ R.cells ∧ slots + 0 ≤ R.slots) (hdg : decode cc pc = .ok (.invokevirtual index, 3))
    (kk : ∀ (H1 : Heap) (locs1 : List Loc), ag_W z n p s1 H1 → va_S (ag_A z) st.heap H1 locs1 → W p0 l e R st m args below meth c H1 locs1 cells slots Q (F0 m (pc + 3) ls rest)) : W p0 l e R st m args below meth c H locs cells slots Q (F0 m pc ls stk) := by
  subst hstk
  refine va_callv (va_runV (As := As) (rest := rest) ⟨hx, hb, hml, hown, hT⟩ hM (cwV As.length hT (ag_gV q1 q2 q3 q4 q5) rfl hr0.1 hr0.2 hd hR) ⟨ag_Pre.blind, ag_recv hG hW hi hod hcl, fun U hU hV => ⟨rfl, ag_Pre.to (s0 := s) h0 hG hS hW U hU hV⟩⟩ rfl rfl hls rfl (lv_room h8) hdg hcs) hS (fun _ _ h => h) (fun _ h => h) (fun u t H1 locs1 ht hvm hw hB hz hk hS1 => ?_)
  rw [ht] at hB
  exact kk H1 locs1 hB hS1
theorem ag_cVr (hx : p0.tables.exec = Jvm.exec) (hb : c.code = cc) (hml : c.maxLocals = nL) (hT : ∀ w ∈ ag_tbl, w.before args st = true) (hown : st.vm.findClass own = some m.cls) (hG : ag_G z st st.heap) (h0 : z.2.2.1 ≤ st.heap.size) (hS : va_S (ag_A z) st.heap H locs) (hW : ag_W z n p s H)
    (hM : Met l y (ag_ws y bytes maxL ret) rm (va_Pc (.ref (p k i) :: As) (ag_Pre z n p s)) (ag_Rr z n p k1 r0 s1) 0 0 (ag_A z)) (hr0 : rm.cells = 0 ∧ rm.slots = 0)
    (q1 : Cond.methodLink own index y ∈ ag_tbl) (q2 : Cond.instanceMethod y ∈ ag_tbl) (q3 : Cond.selects C y y ∈ ag_tbl) (q4 : Cond.initialized C ∈ ag_tbl) (q5 : Cond.code y bytes maxL ret ∈ ag_tbl) (hd : y.cls = C ∧ y.cls ≠ "java/lang/invoke/MethodHandle" ∧ y.cls ≠ "java/lang/invoke/VarHandle" ∧ (parseMethodDescriptor y.desc).map (fun d => d.parameters.length) = some As.length)
    (hR : rm.frames + 1 ≤ R.frames ∧ 8 + (maxL + 11) + rm.locals ≤ R.locals)
    (hi : vp_in i (n k)) (hod : ag_od k = some (ci, ts)) (hcl : vwCl[ci]? = some (C, T, N))
    (hls : ls.size = nL) (hstk : stk = As.reverse ++ .ref (p k i) :: rest) (h8 : (rest.map fun v => v.category).sum ≤ 8) (hcs : cells + 0 ≤ R.cells ∧ slots + 0 ≤ R.slots) (hdg : decode cc pc = .ok (.invokevirtual index, 3))
    (kk : ∀ (H1 : Heap) (locs1 : List Loc), ag_W z n p s1 H1 → va_S (ag_A z) st.heap H1 locs1 → vp_in r0 (n k1) → W p0 l e R st m args below meth c H1 locs1 cells slots Q (F0 m (pc + 3) ls (.ref (p k1 r0) :: rest))) : W p0 l e R st m args below meth c H locs cells slots Q (F0 m pc ls stk) := by
  subst hstk
  refine va_callr (va_runV (As := As) (rest := rest) ⟨hx, hb, hml, hown, hT⟩ hM (cwV As.length hT (ag_gV q1 q2 q3 q4 q5) rfl hr0.1 hr0.2 hd hR) ⟨ag_Pre.blind, ag_recv hG hW hi hod hcl, fun U hU hV => ⟨rfl, ag_Pre.to (s0 := s) h0 hG hS hW U hU hV⟩⟩ rfl rfl hls rfl (lv_room h8) hdg hcs) hS (fun _ _ h => h) (fun _ h => h) (fun u ra t H1 locs1 ht hvm hw hB hz hk hS1 => ?_)
  obtain ⟨⟨rfl, hv⟩, hB⟩ := hB
  rw [ht] at hB
  exact kk H1 locs1 hB hS1 hv
theorem ag_cSi (hx : p0.tables.exec = Jvm.exec) (hb : c.code = cc) (hml : c.maxLocals = nL) (hT : ∀ w ∈ ag_tbl, w.before args st = true) (hown : st.vm.findClass own = some m.cls) (hG : ag_G z st st.heap) (h0 : z.2.2.1 ≤ st.heap.size) (hS : va_S (ag_A z) st.heap H locs) (hW : ag_W z n p s H)
    (hM : Met l y (ag_ws y bytes maxL ret) rm (va_Pc As (ag_Pre z n p s)) (ag_Ri z n p r0 s1) 0 0 (ag_A z)) (hr0 : rm.cells = 0 ∧ rm.slots = 0)
    (q1 : Cond.methodLink own index y ∈ ag_tbl) (q2 : Cond.static y ∈ ag_tbl) (q4 : Cond.initialized y.cls ∈ ag_tbl) (q5 : Cond.code y bytes maxL ret ∈ ag_tbl) (hd : y.cls ≠ "java/lang/invoke/MethodHandle" ∧ y.cls ≠ "java/lang/invoke/VarHandle" ∧ (parseMethodDescriptor y.desc).map (fun d => d.parameters.length) = some As.length)
    (hR : rm.frames + 1 ≤ R.frames ∧ 8 + (maxL + 11) + rm.locals ≤ R.locals)
    (hls : ls.size = nL) (hstk : stk = As.reverse ++ rest) (h8 : (rest.map fun v => v.category).sum ≤ 8) (hcs : cells + 0 ≤ R.cells ∧ slots + 0 ≤ R.slots) (hdg : decode cc pc = .ok (.invokestatic index, 3))
    (kk : ∀ (H1 : Heap) (locs1 : List Loc), ag_W z n p s1 H1 → va_S (ag_A z) st.heap H1 locs1 → W p0 l e R st m args below meth c H1 locs1 cells slots Q (F0 m (pc + 3) ls (.int r0 :: rest))) : W p0 l e R st m args below meth c H locs cells slots Q (F0 m pc ls stk) := by
  subst hstk
  refine va_calli (va_runS (As := As) (rest := rest) ⟨hx, hb, hml, hown, hT⟩ hM (va_cwS As.length hT (ag_gS q1 q2 q4 q5) rfl hr0.1 hr0.2 hd hR) ⟨ag_Pre.blind, fun U hU hV => ⟨rfl, ag_Pre.to (s0 := s) h0 hG hS hW U hU hV⟩⟩ rfl rfl hls rfl (lv_room h8) hdg hcs) hS (fun _ _ h => h) (fun _ h => h) (fun r u t H1 locs1 ht hvm hw hB hz hk hS1 => ?_)
  subst hw
  rw [ht] at hB
  exact kk H1 locs1 hB hS1
theorem ag_cSv (hx : p0.tables.exec = Jvm.exec) (hb : c.code = cc) (hml : c.maxLocals = nL) (hT : ∀ w ∈ ag_tbl, w.before args st = true) (hown : st.vm.findClass own = some m.cls) (hG : ag_G z st st.heap) (h0 : z.2.2.1 ≤ st.heap.size) (hS : va_S (ag_A z) st.heap H locs) (hW : ag_W z n p s H)
    (hM : Met l y (ag_ws y bytes maxL ret) rm (va_Pc As (ag_Pre z n p s)) (ag_Rv z n p s1) 0 0 (ag_A z)) (hr0 : rm.cells = 0 ∧ rm.slots = 0)
    (q1 : Cond.methodLink own index y ∈ ag_tbl) (q2 : Cond.static y ∈ ag_tbl) (q4 : Cond.initialized y.cls ∈ ag_tbl) (q5 : Cond.code y bytes maxL ret ∈ ag_tbl) (hd : y.cls ≠ "java/lang/invoke/MethodHandle" ∧ y.cls ≠ "java/lang/invoke/VarHandle" ∧ (parseMethodDescriptor y.desc).map (fun d => d.parameters.length) = some As.length)
    (hR : rm.frames + 1 ≤ R.frames ∧ 8 + (maxL + 11) + rm.locals ≤ R.locals)
    (hls : ls.size = nL) (hstk : stk = As.reverse ++ rest) (h8 : (rest.map fun v => v.category).sum ≤ 8) (hcs : cells + 0 ≤ R.cells ∧ slots + 0 ≤ R.slots) (hdg : decode cc pc = .ok (.invokestatic index, 3))
    (kk : ∀ (H1 : Heap) (locs1 : List Loc), ag_W z n p s1 H1 → va_S (ag_A z) st.heap H1 locs1 → W p0 l e R st m args below meth c H1 locs1 cells slots Q (F0 m (pc + 3) ls rest)) : W p0 l e R st m args below meth c H locs cells slots Q (F0 m pc ls stk) := by
  subst hstk
  refine va_callv (va_runS (As := As) (rest := rest) ⟨hx, hb, hml, hown, hT⟩ hM (va_cwS As.length hT (ag_gS q1 q2 q4 q5) rfl hr0.1 hr0.2 hd hR) ⟨ag_Pre.blind, fun U hU hV => ⟨rfl, ag_Pre.to (s0 := s) h0 hG hS hW U hU hV⟩⟩ rfl rfl hls rfl (lv_room h8) hdg hcs) hS (fun _ _ h => h) (fun _ h => h) (fun u t H1 locs1 ht hvm hw hB hz hk hS1 => ?_)
  rw [ht] at hB
  exact kk H1 locs1 hB hS1
theorem ag_cIv (hx : p0.tables.exec = Jvm.exec) (hb : c.code = cc) (hml : c.maxLocals = nL) (hT : ∀ w ∈ ag_tbl, w.before args st = true) (hown : st.vm.findClass own = some m.cls) (hG : ag_G z st st.heap) (h0 : z.2.2.1 ≤ st.heap.size) (hS : va_S (ag_A z) st.heap H locs) (hW : ag_W z n p s H)
    (hM : Met l y (ag_ws y bytes maxL none) rm (va_Pc (.ref (p k i) :: As) (ag_Pre z n p s)) (ag_Rv z n p s1) 0 0 (ag_A z)) (hr0 : rm.cells = 0 ∧ rm.slots = 0)
    (q1 : Cond.methodLink own index y ∈ ag_tbl) (q2 : Cond.instanceMethod y ∈ ag_tbl) (q4 : Cond.initialized y.cls ∈ ag_tbl) (q5 : Cond.code y bytes maxL none ∈ ag_tbl) (hy1 : y.name = "<init>") (hd : y.cls ≠ "java/lang/invoke/MethodHandle" ∧ y.cls ≠ "java/lang/invoke/VarHandle" ∧ (parseMethodDescriptor y.desc).map (fun d => d.parameters.length) = some As.length)
    (hR : rm.frames + 1 ≤ R.frames ∧ 8 + (maxL + 11) + rm.locals ≤ R.locals)
    (hls : ls.size = nL) (hstk : stk = As.reverse ++ .ref (p k i) :: rest) (h8 : (rest.map fun v => v.category).sum ≤ 8) (hcs : cells + 0 ≤ R.cells ∧ slots + 0 ≤ R.slots) (hdg : decode cc pc = .ok (.invokespecial index, 3))
    (kk : ∀ (H1 : Heap) (locs1 : List Loc), ag_W z n p s1 H1 → va_S (ag_A z) st.heap H1 locs1 → W p0 l e R st m args below meth c H1 locs1 cells slots Q (F0 m (pc + 3) ls rest)) : W p0 l e R st m args below meth c H locs cells slots Q (F0 m pc ls stk) := by
  subst hstk
  refine va_callv (va_runI (As := As) (rest := rest) ⟨hx, hb, hml, hown, hT⟩ hM (cwI As.length hT (ag_gI q5) rfl hr0.1 hr0.2 (hT _ q4) (hT _ q1) (hT _ q2) hy1 hd hR) ⟨ag_Pre.blind, fun U hU hV => ⟨rfl, ag_Pre.to (s0 := s) h0 hG hS hW U hU hV⟩⟩ rfl rfl hls rfl (lv_room h8) hdg hcs) hS (fun _ _ h => h) (fun _ h => h) (fun u t H1 locs1 ht hvm hw hB hz hk hS1 => ?_)
  rw [ht] at hB
  exact kk H1 locs1 hB hS1
theorem ag_xVi (hx : p0.tables.exec = Jvm.exec) (hb : c.code = cc) (hml : c.maxLocals = nL) (hT : ∀ w ∈ ag_tbl, w.before args st = true) (hown : st.vm.findClass own = some m.cls) (hG : ag_G z st st.heap) (h0 : z.2.2.1 ≤ st.heap.size) (hS : va_S (ag_A z) st.heap H locs) (hW : ag_W z n p s H)
    (hM : vx_Met l y (ag_ws y bytes maxL ret) rm (va_Pc (.ref (p k i) :: As) (ag_Pre z n p s)) (ag_Xi z n p o) (ag_XX z n p o) mc ms (ag_A z)) (hr0 : rm.cells = mc ∧ rm.slots = ms)
    (q1 : Cond.methodLink own index y ∈ ag_tbl) (q2 : Cond.instanceMethod y ∈ ag_tbl) (q3 : Cond.selects C y y ∈ ag_tbl) (q4 : Cond.initialized C ∈ ag_tbl) (q5 : Cond.code y bytes maxL ret ∈ ag_tbl) (hd : y.cls = C ∧ y.cls ≠ "java/lang/invoke/MethodHandle" ∧ y.cls ≠ "java/lang/invoke/VarHandle" ∧ (parseMethodDescriptor y.desc).map (fun d => d.parameters.length) = some As.length)
    (hR : rm.frames + 1 ≤ R.frames ∧ 8 + (maxL + 11) + rm.locals ≤ R.locals)
    (hi : vp_in i (n k)) (hod : ag_od k = some (ci, ts)) (hcl : vwCl[ci]? = some (C, T, N))
    (hls : ls.size = nL) (hstk : stk = As.reverse ++ .ref (p k i) :: rest) (h8 : (rest.map fun v => v.category).sum ≤ 8) (hcs : cells + mc ≤ R.cells ∧ slots + ms ≤ R.slots) (hdg : decode cc pc = .ok (.invokevirtual index, 3))
    (kx : ∀ (E : String) (ce : Cell) (q9 : Addr) (H1 : Heap) (locs1 : List Loc), ag_ex E o.1 → ag_W z n p o.2 H1 → va_S (ag_A z) st.heap H1 locs1 → H1[q9]? = some ce → ce.vm = .none → st.vm.findClass E = some ce.cls → vx_W p0 l e R st m args below meth c H1 locs1 C1 S1 Q (F0 m pc ls rest) q9)
    (gC : cells + mc ≤ C1) (gS : slots + ms ≤ S1) (kk : ∀ (r : Int32) (H1 : Heap) (locs1 : List Loc), o.1 = .inl r → ag_W z n p o.2 H1 → va_S (ag_A z) st.heap H1 locs1 → W p0 l e R st m args below meth c H1 locs1 C1 S1 Q (F0 m (pc + 3) ls (.int r :: rest))) : W p0 l e R st m args below meth c H locs cells slots Q (F0 m pc ls stk) := by
  subst hstk
  refine vx_calli (vx_runV (As := As) (rest := rest) ⟨hx, hb, hml, hown, hT⟩ hM (cwV As.length hT (ag_gV q1 q2 q3 q4 q5) rfl hr0.1 hr0.2 hd hR) ⟨ag_Pre.blind, ag_recv hG hW hi hod hcl, fun U hU hV => ⟨rfl, ag_Pre.to (s0 := s) h0 hG hS hW U hU hV⟩⟩ rfl rfl hls rfl (lv_room h8) hdg hcs) hS (fun _ _ h => h) (fun _ h => h) (fun _ _ h => h) (fun E ce q9 u t H1 locs1 ht hvm hw hB hz hk hS1 g1 g2 g3 => ?_) (fun r u t H1 locs1 ht hvm hw hB hz hk hS1 => ?_)
  · obtain ⟨hE, hB⟩ := hB
    rw [ht] at hB
    exact vx_widen gC gS (kx E ce q9 H1 locs1 hE hB hS1 g1 g2 g3)
  · rw [ht] at hB
    exact W.widen gC gS (kk r H1 locs1 hw hB hS1)
theorem ag_xVv (hx : p0.tables.exec = Jvm.exec) (hb : c.code = cc) (hml : c.maxLocals = nL) (hT : ∀ w ∈ ag_tbl, w.before args st = true) (hown : st.vm.findClass own = some m.cls) (hG : ag_G z st st.heap) (h0 : z.2.2.1 ≤ st.heap.size) (hS : va_S (ag_A z) st.heap H locs) (hW : ag_W z n p s H)
    (hM : vx_Met l y (ag_ws y bytes maxL ret) rm (va_Pc (.ref (p k i) :: As) (ag_Pre z n p s)) (ag_Xv z n p o) (ag_XX z n p o) mc ms (ag_A z)) (hr0 : rm.cells = mc ∧ rm.slots = ms)
    (q1 : Cond.methodLink own index y ∈ ag_tbl) (q2 : Cond.instanceMethod y ∈ ag_tbl) (q3 : Cond.selects C y y ∈ ag_tbl) (q4 : Cond.initialized C ∈ ag_tbl) (q5 : Cond.code y bytes maxL ret ∈ ag_tbl) (hd : y.cls = C ∧ y.cls ≠ "java/lang/invoke/MethodHandle" ∧ y.cls ≠ "java/lang/invoke/VarHandle" ∧ (parseMethodDescriptor y.desc).map (fun d => d.parameters.length) = some As.length)
    (hR : rm.frames + 1 ≤ R.frames ∧ 8 + (maxL + 11) + rm.locals ≤ R.locals)
    (hi : vp_in i (n k)) (hod : ag_od k = some (ci, ts)) (hcl : vwCl[ci]? = some (C, T, N))
    (hls : ls.size = nL) (hstk : stk = As.reverse ++ .ref (p k i) :: rest) (h8 : (rest.map fun v => v.category).sum ≤ 8) (hcs : cells + mc ≤ R.cells ∧ slots + ms ≤ R.slots) (hdg : decode cc pc = .ok (.invokevirtual index, 3))
    (kx : ∀ (E : String) (ce : Cell) (q9 : Addr) (H1 : Heap) (locs1 : List Loc), ag_ex E o.1 → ag_W z n p o.2 H1 → va_S (ag_A z) st.heap H1 locs1 → H1[q9]? = some ce → ce.vm = .none → st.vm.findClass E = some ce.cls → vx_W p0 l e R st m args below meth c H1 locs1 C1 S1 Q (F0 m pc ls rest) q9)
    (gC : cells + mc ≤ C1) (gS : slots + ms ≤ S1) (kk : ∀ (H1 : Heap) (locs1 : List Loc), o.1 = .inl 0 → ag_W z n p o.2 H1 → va_S (ag_A z) st.heap H1 locs1 → W p0 l e R st m args below meth c H1 locs1 C1 S1 Q (F0 m (pc + 3) ls rest)) : W p0 l e R st m args below meth c H locs cells slots Q (F0 m pc ls stk) := by
  subst hstk
  refine vx_callv (vx_runV (As := As) (rest := rest) ⟨hx, hb, hml, hown, hT⟩ hM (cwV As.length hT (ag_gV q1 q2 q3 q4 q5) rfl hr0.1 hr0.2 hd hR) ⟨ag_Pre.blind, ag_recv hG hW hi hod hcl, fun U hU hV => ⟨rfl, ag_Pre.to (s0 := s) h0 hG hS hW U hU hV⟩⟩ rfl rfl hls rfl (lv_room h8) hdg hcs) hS (fun _ _ h => h) (fun _ h => h) (fun _ _ h => h) (fun E ce q9 u t H1 locs1 ht hvm hw hB hz hk hS1 g1 g2 g3 => ?_) (fun u t H1 locs1 ht hvm hw hB hz hk hS1 => ?_)
  · obtain ⟨hE, hB⟩ := hB
    rw [ht] at hB
    exact vx_widen gC gS (kx E ce q9 H1 locs1 hE hB hS1 g1 g2 g3)
  · rw [ht] at hB
    exact W.widen gC gS (kk H1 locs1 hw hB hS1)
theorem ag_xVr (hx : p0.tables.exec = Jvm.exec) (hb : c.code = cc) (hml : c.maxLocals = nL) (hT : ∀ w ∈ ag_tbl, w.before args st = true) (hown : st.vm.findClass own = some m.cls) (hG : ag_G z st st.heap) (h0 : z.2.2.1 ≤ st.heap.size) (hS : va_S (ag_A z) st.heap H locs) (hW : ag_W z n p s H)
    (hM : vx_Met l y (ag_ws y bytes maxL ret) rm (va_Pc (.ref (p k i) :: As) (ag_Pre z n p s)) (ag_Xr z n p k1 o) (ag_XX z n p o) mc ms (ag_A z)) (hr0 : rm.cells = mc ∧ rm.slots = ms)
    (q1 : Cond.methodLink own index y ∈ ag_tbl) (q2 : Cond.instanceMethod y ∈ ag_tbl) (q3 : Cond.selects C y y ∈ ag_tbl) (q4 : Cond.initialized C ∈ ag_tbl) (q5 : Cond.code y bytes maxL ret ∈ ag_tbl) (hd : y.cls = C ∧ y.cls ≠ "java/lang/invoke/MethodHandle" ∧ y.cls ≠ "java/lang/invoke/VarHandle" ∧ (parseMethodDescriptor y.desc).map (fun d => d.parameters.length) = some As.length)
    (hR : rm.frames + 1 ≤ R.frames ∧ 8 + (maxL + 11) + rm.locals ≤ R.locals)
    (hi : vp_in i (n k)) (hod : ag_od k = some (ci, ts)) (hcl : vwCl[ci]? = some (C, T, N))
    (hls : ls.size = nL) (hstk : stk = As.reverse ++ .ref (p k i) :: rest) (h8 : (rest.map fun v => v.category).sum ≤ 8) (hcs : cells + mc ≤ R.cells ∧ slots + ms ≤ R.slots) (hdg : decode cc pc = .ok (.invokevirtual index, 3))
    (kx : ∀ (E : String) (ce : Cell) (q9 : Addr) (H1 : Heap) (locs1 : List Loc), ag_ex E o.1 → ag_W z n p o.2 H1 → va_S (ag_A z) st.heap H1 locs1 → H1[q9]? = some ce → ce.vm = .none → st.vm.findClass E = some ce.cls → vx_W p0 l e R st m args below meth c H1 locs1 C1 S1 Q (F0 m pc ls rest) q9)
    (gC : cells + mc ≤ C1) (gS : slots + ms ≤ S1) (kk : ∀ (r : Int32) (H1 : Heap) (locs1 : List Loc), o.1 = .inl r → vp_in r (n k1) → ag_W z n p o.2 H1 → va_S (ag_A z) st.heap H1 locs1 → W p0 l e R st m args below meth c H1 locs1 C1 S1 Q (F0 m (pc + 3) ls (.ref (p k1 r) :: rest))) : W p0 l e R st m args below meth c H locs cells slots Q (F0 m pc ls stk) := by
  subst hstk
  refine ag_callr (vx_runV (As := As) (rest := rest) ⟨hx, hb, hml, hown, hT⟩ hM (cwV As.length hT (ag_gV q1 q2 q3 q4 q5) rfl hr0.1 hr0.2 hd hR) ⟨ag_Pre.blind, ag_recv hG hW hi hod hcl, fun U hU hV => ⟨rfl, ag_Pre.to (s0 := s) h0 hG hS hW U hU hV⟩⟩ rfl rfl hls rfl (lv_room h8) hdg hcs) hS (fun _ _ h => h) (fun _ h => h) (fun _ _ h => h) (fun E ce q9 u t H1 locs1 ht hvm hw hB hz hk hS1 g1 g2 g3 => ?_) (fun u ra t H1 locs1 ht hvm hw hB hz hk hS1 => ?_)
  · obtain ⟨hE, hB⟩ := hB
    rw [ht] at hB
    exact vx_widen gC gS (kx E ce q9 H1 locs1 hE hB hS1 g1 g2 g3)
  · obtain ⟨⟨r, e1, rfl, hv⟩, hB⟩ := hB
    rw [ht] at hB
    exact W.widen gC gS (kk r H1 locs1 e1 hv hB hS1)
theorem ag_xSi (hx : p0.tables.exec = Jvm.exec) (hb : c.code = cc) (hml : c.maxLocals = nL) (hT : ∀ w ∈ ag_tbl, w.before args st = true) (hown : st.vm.findClass own = some m.cls) (hG : ag_G z st st.heap) (h0 : z.2.2.1 ≤ st.heap.size) (hS : va_S (ag_A z) st.heap H locs) (hW : ag_W z n p s H)
    (hM : vx_Met l y (ag_ws y bytes maxL ret) rm (va_Pc As (ag_Pre z n p s)) (ag_Xi z n p o) (ag_XX z n p o) mc ms (ag_A z)) (hr0 : rm.cells = mc ∧ rm.slots = ms)
    (q1 : Cond.methodLink own index y ∈ ag_tbl) (q2 : Cond.static y ∈ ag_tbl) (q4 : Cond.initialized y.cls ∈ ag_tbl) (q5 : Cond.code y bytes maxL ret ∈ ag_tbl) (hd : y.cls ≠ "java/lang/invoke/MethodHandle" ∧ y.cls ≠ "java/lang/invoke/VarHandle" ∧ (parseMethodDescriptor y.desc).map (fun d => d.parameters.length) = some As.length)
    (hR : rm.frames + 1 ≤ R.frames ∧ 8 + (maxL + 11) + rm.locals ≤ R.locals)
    (hls : ls.size = nL) (hstk : stk = As.reverse ++ rest) (h8 : (rest.map fun v => v.category).sum ≤ 8) (hcs : cells + mc ≤ R.cells ∧ slots + ms ≤ R.slots) (hdg : decode cc pc = .ok (.invokestatic index, 3))
    (kx : ∀ (E : String) (ce : Cell) (q9 : Addr) (H1 : Heap) (locs1 : List Loc), ag_ex E o.1 → ag_W z n p o.2 H1 → va_S (ag_A z) st.heap H1 locs1 → H1[q9]? = some ce → ce.vm = .none → st.vm.findClass E = some ce.cls → vx_W p0 l e R st m args below meth c H1 locs1 C1 S1 Q (F0 m pc ls rest) q9)
    (gC : cells + mc ≤ C1) (gS : slots + ms ≤ S1) (kk : ∀ (r : Int32) (H1 : Heap) (locs1 : List Loc), o.1 = .inl r → ag_W z n p o.2 H1 → va_S (ag_A z) st.heap H1 locs1 → W p0 l e R st m args below meth c H1 locs1 C1 S1 Q (F0 m (pc + 3) ls (.int r :: rest))) : W p0 l e R st m args below meth c H locs cells slots Q (F0 m pc ls stk) := by
  subst hstk
  refine vx_calli (vx_runS (As := As) (rest := rest) ⟨hx, hb, hml, hown, hT⟩ hM (va_cwS As.length hT (ag_gS q1 q2 q4 q5) rfl hr0.1 hr0.2 hd hR) ⟨ag_Pre.blind, fun U hU hV => ⟨rfl, ag_Pre.to (s0 := s) h0 hG hS hW U hU hV⟩⟩ rfl rfl hls rfl (lv_room h8) hdg hcs) hS (fun _ _ h => h) (fun _ h => h) (fun _ _ h => h) (fun E ce q9 u t H1 locs1 ht hvm hw hB hz hk hS1 g1 g2 g3 => ?_) (fun r u t H1 locs1 ht hvm hw hB hz hk hS1 => ?_)
  · obtain ⟨hE, hB⟩ := hB
    rw [ht] at hB
    exact vx_widen gC gS (kx E ce q9 H1 locs1 hE hB hS1 g1 g2 g3)
  · rw [ht] at hB
    exact W.widen gC gS (kk r H1 locs1 hw hB hS1)
theorem ag_xSv (hx : p0.tables.exec = Jvm.exec) (hb : c.code = cc) (hml : c.maxLocals = nL) (hT : ∀ w ∈ ag_tbl, w.before args st = true) (hown : st.vm.findClass own = some m.cls) (hG : ag_G z st st.heap) (h0 : z.2.2.1 ≤ st.heap.size) (hS : va_S (ag_A z) st.heap H locs) (hW : ag_W z n p s H)
    (hM : vx_Met l y (ag_ws y bytes maxL ret) rm (va_Pc As (ag_Pre z n p s)) (ag_Xv z n p o) (ag_XX z n p o) mc ms (ag_A z)) (hr0 : rm.cells = mc ∧ rm.slots = ms)
    (q1 : Cond.methodLink own index y ∈ ag_tbl) (q2 : Cond.static y ∈ ag_tbl) (q4 : Cond.initialized y.cls ∈ ag_tbl) (q5 : Cond.code y bytes maxL ret ∈ ag_tbl) (hd : y.cls ≠ "java/lang/invoke/MethodHandle" ∧ y.cls ≠ "java/lang/invoke/VarHandle" ∧ (parseMethodDescriptor y.desc).map (fun d => d.parameters.length) = some As.length)
    (hR : rm.frames + 1 ≤ R.frames ∧ 8 + (maxL + 11) + rm.locals ≤ R.locals)
    (hls : ls.size = nL) (hstk : stk = As.reverse ++ rest) (h8 : (rest.map fun v => v.category).sum ≤ 8) (hcs : cells + mc ≤ R.cells ∧ slots + ms ≤ R.slots) (hdg : decode cc pc = .ok (.invokestatic index, 3))
    (kx : ∀ (E : String) (ce : Cell) (q9 : Addr) (H1 : Heap) (locs1 : List Loc), ag_ex E o.1 → ag_W z n p o.2 H1 → va_S (ag_A z) st.heap H1 locs1 → H1[q9]? = some ce → ce.vm = .none → st.vm.findClass E = some ce.cls → vx_W p0 l e R st m args below meth c H1 locs1 C1 S1 Q (F0 m pc ls rest) q9)
    (gC : cells + mc ≤ C1) (gS : slots + ms ≤ S1) (kk : ∀ (H1 : Heap) (locs1 : List Loc), o.1 = .inl 0 → ag_W z n p o.2 H1 → va_S (ag_A z) st.heap H1 locs1 → W p0 l e R st m args below meth c H1 locs1 C1 S1 Q (F0 m (pc + 3) ls rest)) : W p0 l e R st m args below meth c H locs cells slots Q (F0 m pc ls stk) := by
  subst hstk
  refine vx_callv (vx_runS (As := As) (rest := rest) ⟨hx, hb, hml, hown, hT⟩ hM (va_cwS As.length hT (ag_gS q1 q2 q4 q5) rfl hr0.1 hr0.2 hd hR) ⟨ag_Pre.blind, fun U hU hV => ⟨rfl, ag_Pre.to (s0 := s) h0 hG hS hW U hU hV⟩⟩ rfl rfl hls rfl (lv_room h8) hdg hcs) hS (fun _ _ h => h) (fun _ h => h) (fun _ _ h => h) (fun E ce q9 u t H1 locs1 ht hvm hw hB hz hk hS1 g1 g2 g3 => ?_) (fun u t H1 locs1 ht hvm hw hB hz hk hS1 => ?_)
  · obtain ⟨hE, hB⟩ := hB
    rw [ht] at hB
    exact vx_widen gC gS (kx E ce q9 H1 locs1 hE hB hS1 g1 g2 g3)
  · rw [ht] at hB
    exact W.widen gC gS (kk H1 locs1 hw hB hS1)
/-- what a callee threw goes on to the caller -/
theorem ag_prop {Qc : Array Value → State → Outcome → State → Prop} {E : String} {ce : Cell} {q9 : Addr} {out : (Int32 ⊕ Int32) × ag_S} (hout : ∀ x ∈ c.exceptionTable.toList, False) (hlocks : meth.locks = false) (hE : ag_ex E out.1) (hW : ag_W z n p out.2 H) (hS : va_S (ag_A z) st.heap H locs) (g1 : H[q9]? = some ce) (g2 : ce.vm = .none) (g3 : st.vm.findClass E = some ce.cls) (hC : cells ≤ mc) (hD : slots ≤ ms) :
    vx_W p0 l e R st m args below meth c H locs cells slots (vx_MQ below Qc (ag_XX z n p out) args st mc ms (ag_A z)) (F0 m pc ls rest) q9 := by
  refine vx_out (fun x hx => (hout x hx).elim) hlocks g1 g2 g3 (fun t ht hvm => ⟨(), trivial, ⟨hE, by show ag_W _ _ _ _ t.heap; rw [ht]; exact hW⟩, hS.F ht⟩) hS.2.2 hC hD
theorem ag_propO {Qc : Array Value → State → Outcome → State → Prop} {E : String} {ce : Cell} {q9 : Addr} {kf : Int32 → ag_S → Option ((Int32 ⊕ Int32) × ag_S)} {out : (Int32 ⊕ Int32) × ag_S} (hf : (∃ r, o.1 = .inl r ∧ kf r o.2 = some out) ∨ ∃ e, o.1 = .inr e ∧ (.inr e, id o.2) = out) (hout : ∀ x ∈ c.exceptionTable.toList, False) (hlocks : meth.locks = false) (hC : cells ≤ mc) (hD : slots ≤ ms) (hE : ag_ex E o.1) (hW : ag_W z n p o.2 H) (hS : va_S (ag_A z) st.heap H locs) (g1 : H[q9]? = some ce) (g2 : ce.vm = .none) (g3 : st.vm.findClass E = some ce.cls) :
    vx_W p0 l e R st m args below meth c H locs cells slots (vx_MQ below Qc (ag_XX z n p out) args st mc ms (ag_A z)) (F0 m pc ls rest) q9 := by
  rcases hf with ⟨r, e1, -⟩ | ⟨e9, e1, rfl⟩
  · obtain ⟨e2, h2⟩ := hE.is
    rw [e1] at h2
    cases h2
  · exact ag_prop (out := (.inr e9, id o.2)) hout hlocks (by rw [← e1]; exact hE) hW hS g1 g2 g3 hC hD
theorem ag_inl {r : Int32} {α : Type} {g : ag_S → α} {kf : Int32 → ag_S → Option ((Int32 ⊕ Int32) × α)} {out : (Int32 ⊕ Int32) × α} (hf : (∃ r, o.1 = .inl r ∧ kf r o.2 = some out) ∨ ∃ e, o.1 = .inr e ∧ (.inr e, g o.2) = out) (h : o.1 = .inl r) : kf r o.2 = some out := by
  rcases hf with ⟨r9, e1, h2⟩ | ⟨e9, e1, -⟩
  · rw [h] at e1
    cases e1
    exact h2
  · rw [h] at e1
    cases e1
/-! ends -/
theorem ag_iret {v : Int32} {ty : FieldType} (hx : p0.tables.exec = Jvm.exec) (hb : c.code = cc) (hr : meth.sig.returnType = some ty) (hn : narrow ty (.int v) = .int v) (hlocks : meth.locks = false) (hS : va_S (ag_A z) st.heap H locs) (h1 : v = r0) (hW : ag_W z n p s1 H) (hdg : decode cc pc = .ok (.ireturn, 1)) : W p0 l e R st m args below meth c H locs cells slots (MQ below (ag_Ri z n p r0 s1) args st cells slots (ag_A z)) (F0 m pc ls [.int v]) :=
  W.zret hx hb hr hn (fun t ht _ => ⟨⟨v, (), rfl, h1, by show ag_W _ _ _ _ t.heap; rw [ht]; exact hW⟩, hS.F ht⟩) hS.2.2 hdg hlocks
theorem ag_vret (hx : p0.tables.exec = Jvm.exec) (hb : c.code = cc) (hr : meth.sig.returnType = none) (hlocks : meth.locks = false) (hS : va_S (ag_A z) st.heap H locs) (hW : ag_W z n p s1 H) (hdg : decode cc pc = .ok (.return_, 1)) : W p0 l e R st m args below meth c H locs cells slots (MQ below (ag_Rv z n p s1) args st cells slots (ag_A z)) (F0 m pc ls []) :=
  W.vret hx hb hr (fun t ht _ => ⟨⟨(), rfl, trivial, by show ag_W _ _ _ _ t.heap; rw [ht]; exact hW⟩, hS.F ht⟩) hS.2.2 hdg hlocks
theorem ag_aret {v : Int32} {ty : FieldType} (hx : p0.tables.exec = Jvm.exec) (hb : c.code = cc) (hr : meth.sig.returnType = some ty) (hrt : (∃ n, ty = .object n) ∨ ∃ t, ty = .array t) (hlocks : meth.locks = false) (hS : va_S (ag_A z) st.heap H locs) (h1 : v = r0) (hv : vp_in v (n k1)) (hW : ag_W z n p s1 H) (hdg : decode cc pc = .ok (.areturn, 1)) : W p0 l e R st m args below meth c H locs cells slots (MQ below (ag_Rr z n p k1 r0 s1) args st cells slots (ag_A z)) (F0 m pc ls [.ref (p k1 v)]) :=
  W.aret hx hb hr hrt (Or.inr ⟨_, rfl⟩) (fun t ht _ => ⟨⟨(), _, rfl, trivial, ⟨by rw [h1], by rw [← h1]; exact hv⟩, by show ag_W _ _ _ _ t.heap; rw [ht]; exact hW⟩, hS.F ht⟩) hS.2.2 hdg hlocks
theorem ag_xiret {v : Int32} {ty : FieldType} {XC : String → State → State → Prop} (hx : p0.tables.exec = Jvm.exec) (hb : c.code = cc) (hr : meth.sig.returnType = some ty) (hn : narrow ty (.int v) = .int v) (hlocks : meth.locks = false) (hS : va_S (ag_A z) st.heap H locs) (hf : some ((.inl v : Int32 ⊕ Int32), s) = some o) (hW : ag_W z n p s H) (hdg : decode cc pc = .ok (.ireturn, 1)) : W p0 l e R st m args below meth c H locs cells slots (vx_MQ below (ag_Xi z n p o) XC args st cells slots (ag_A z)) (F0 m pc ls [.int v]) := by
  have h1 := Option.some.inj hf
  subst h1
  exact vx_ret (W.zret hx hb hr hn (fun t ht _ => ⟨⟨v, (), rfl, rfl, by show ag_W _ _ _ _ t.heap; rw [ht]; exact hW⟩, hS.F ht⟩) hS.2.2 hdg hlocks)
theorem ag_xvret {XC : String → State → State → Prop} (hx : p0.tables.exec = Jvm.exec) (hb : c.code = cc) (hr : meth.sig.returnType = none) (hlocks : meth.locks = false) (hS : va_S (ag_A z) st.heap H locs) (hf : some ((.inl 0 : Int32 ⊕ Int32), s) = some o) (hW : ag_W z n p s H) (hdg : decode cc pc = .ok (.return_, 1)) : W p0 l e R st m args below meth c H locs cells slots (vx_MQ below (ag_Xv z n p o) XC args st cells slots (ag_A z)) (F0 m pc ls []) := by
  have h1 := Option.some.inj hf
  subst h1
  exact vx_ret (W.vret hx hb hr (fun t ht _ => ⟨⟨(), rfl, rfl, by show ag_W _ _ _ _ t.heap; rw [ht]; exact hW⟩, hS.F ht⟩) hS.2.2 hdg hlocks)
theorem ag_xaret {v : Int32} {ty : FieldType} {XC : String → State → State → Prop} (hx : p0.tables.exec = Jvm.exec) (hb : c.code = cc) (hr : meth.sig.returnType = some ty) (hrt : (∃ n, ty = .object n) ∨ ∃ t, ty = .array t) (hlocks : meth.locks = false) (hS : va_S (ag_A z) st.heap H locs) (hf : some ((.inl v : Int32 ⊕ Int32), s) = some o) (hv : vp_in v (n k1)) (hW : ag_W z n p s H) (hdg : decode cc pc = .ok (.areturn, 1)) : W p0 l e R st m args below meth c H locs cells slots (vx_MQ below (ag_Xr z n p k1 o) XC args st cells slots (ag_A z)) (F0 m pc ls [.ref (p k1 v)]) := by
  have h1 := Option.some.inj hf
  subst h1
  exact vx_ret (W.aret hx hb hr hrt (Or.inr ⟨_, rfl⟩) (fun t ht _ => ⟨⟨(), _, rfl, trivial, ⟨v, rfl, rfl, hv⟩, by show ag_W _ _ _ _ t.heap; rw [ht]; exact hW⟩, hS.F ht⟩) hS.2.2 hdg hlocks)
/-! nullable references in locals, null tests, comparisons -/
theorem ag_aloadq {k9 : Fin 4} {i9 : Nat} {r : Option Nat} (hx : p0.tables.exec = Jvm.exec) (hb : c.code = cc) (hdg : decode cc pc = .ok (.aload_n k9, 1)) (hi : (k9 : Nat) = i9) (hl : ls[i9]? = some (.val (va_rf r)))
    (kk : W p0 l e R st m args below meth c H locs cells slots Q (F0 m (pc + 1) ls (va_rf r :: rest))) : W p0 l e R st m args below meth c H locs cells slots Q (F0 m pc ls rest) := by
  cases r with
  | none => exact lv_aload_nN hx hb hdg hi hl kk
  | some a => exact lv_aload_n hx hb hdg hi hl kk
theorem ag_aloadQ {i9 : Nat} {r : Option Nat} (hx : p0.tables.exec = Jvm.exec) (hb : c.code = cc) (hdg : decode cc pc = .ok (.aload i9, 2)) (hl : ls[i9]? = some (.val (va_rf r)))
    (kk : W p0 l e R st m args below meth c H locs cells slots Q (F0 m (pc + 2) ls (va_rf r :: rest))) : W p0 l e R st m args below meth c H locs cells slots Q (F0 m pc ls rest) := by
  cases r with
  | none => exact lv_aloadN hx hb hdg hl kk
  | some a => exact lv_aload hx hb hdg hl kk
theorem ag_astoreq {k9 : Fin 4} {i9 nL9 : Nat} {r : Option Nat} {lv lv' : List (Nat × Value)} (hx : p0.tables.exec = Jvm.exec) (hb : c.code = cc) (hdg : decode cc pc = .ok (.astore_n k9, 1)) (hi : (k9 : Nat) = i9) (h : lv_has ls nL9 lv) (hn : i9 < nL9) (hl : (i9, va_rf r) :: lv.filter (fun q => !(q.1 == i9) && !(q.1 + 1 == i9 && q.2.category == 2)) = lv')
    (kk : ∀ ls' : Array Slot, lv_has ls' nL9 lv' → W p0 l e R st m args below meth c H locs cells slots Q (F0 m (pc + 1) ls' rest)) : W p0 l e R st m args below meth c H locs cells slots Q (F0 m pc ls (va_rf r :: rest)) := by
  cases r with
  | none => exact lv_astore_nN hx hb hdg hi h hn hl kk
  | some a => exact lv_astore_n hx hb hdg hi h hn hl kk
theorem ag_astoreQ {i9 nL9 : Nat} {r : Option Nat} {lv lv' : List (Nat × Value)} (hx : p0.tables.exec = Jvm.exec) (hb : c.code = cc) (hdg : decode cc pc = .ok (.astore i9, 2)) (h : lv_has ls nL9 lv) (hn : i9 < nL9) (hl : (i9, va_rf r) :: lv.filter (fun q => !(q.1 == i9) && !(q.1 + 1 == i9 && q.2.category == 2)) = lv')
    (kk : ∀ ls' : Array Slot, lv_has ls' nL9 lv' → W p0 l e R st m args below meth c H locs cells slots Q (F0 m (pc + 2) ls' rest)) : W p0 l e R st m args below meth c H locs cells slots Q (F0 m pc ls (va_rf r :: rest)) := by
  cases r with
  | none => exact lv_astoreN hx hb hdg h hn hl kk
  | some a => exact lv_astore hx hb hdg h hn hl kk
theorem ag_ifnull {t : Nat} {v : Int32} {off : Int} {tgt : Nat} (hx : p0.tables.exec = Jvm.exec) (hb : c.code = cc) (hok : ag_ok n t v) (hdg : decode cc pc = .ok (.ifnull off, 3)) (ht : (pc : Int) + off = (tgt : Int))
    (kt : v = -1 → W p0 l e R st m args below meth c H locs cells slots Q (F0 m tgt ls rest)) (kf : ¬ v = -1 → W p0 l e R st m args below meth c H locs cells slots Q (F0 m (pc + 3) ls rest)) : W p0 l e R st m args below meth c H locs cells slots Q (F0 m pc ls (va_rf (ag_ro z p t v) :: rest)) := by
  by_cases hv : v = -1
  · rw [ag_null hv]
    exact lv_ifnullN hx hb hdg ht (kt hv)
  · rw [(ag_ref (z := z) (p := p) hok hv).1]
    exact lv_ifnull hx hb hdg (kf hv)
theorem ag_ifnonnull {t : Nat} {v : Int32} {off : Int} {tgt : Nat} (hx : p0.tables.exec = Jvm.exec) (hb : c.code = cc) (hok : ag_ok n t v) (hdg : decode cc pc = .ok (.ifnonnull off, 3)) (ht : (pc : Int) + off = (tgt : Int))
    (kt : ¬ v = -1 → W p0 l e R st m args below meth c H locs cells slots Q (F0 m tgt ls rest)) (kf : v = -1 → W p0 l e R st m args below meth c H locs cells slots Q (F0 m (pc + 3) ls rest)) : W p0 l e R st m args below meth c H locs cells slots Q (F0 m pc ls (va_rf (ag_ro z p t v) :: rest)) := by
  by_cases hv : v = -1
  · rw [ag_null hv]
    exact lv_ifnonnullN hx hb hdg (kf hv)
  · rw [(ag_ref (z := z) (p := p) hok hv).1]
    exact lv_ifnonnull hx hb hdg ht (kt hv)
theorem ag_eqr {t : Nat} {v w : Int32} (hW : ag_W z n p s H) (hok : ag_ok n t v) (hw : vp_in w (n t)) : ag_ro z p t v = some (p t w) ↔ v = w := by
  by_cases hv : v = -1
  · rw [ag_null hv]
    refine ⟨fun h => (nomatch h), fun h => ?_⟩
    rw [hv] at h
    rw [← h] at hw
    exact absurd (Or.inl (by decide)) hw
  · obtain ⟨e1, h1⟩ := ag_ref (z := z) (p := p) hok hv
    rw [e1]
    refine ⟨fun h => (hW.2.1 t v t w h1 hw (Option.some.inj h)).2, fun h => by rw [h]⟩
/-- a reference that may be null (below) against one that is none -/
theorem ag_acmp_eq {t : Nat} {v w : Int32} {off : Int} {tgt : Nat} (hx : p0.tables.exec = Jvm.exec) (hb : c.code = cc) (hW : ag_W z n p s H) (hok : ag_ok n t v) (hw : vp_in w (n t)) (hdg : decode cc pc = .ok (.if_acmp .eq off, 3)) (ht : (pc : Int) + off = (tgt : Int))
    (kt : v = w → W p0 l e R st m args below meth c H locs cells slots Q (F0 m tgt ls rest)) (kf : ¬ v = w → W p0 l e R st m args below meth c H locs cells slots Q (F0 m (pc + 3) ls rest)) : W p0 l e R st m args below meth c H locs cells slots Q (F0 m pc ls (.ref (p t w) :: va_rf (ag_ro z p t v) :: rest)) :=
  lv_acmp_eq (ry := some (p t w)) hx hb hdg ht (fun h => kt ((ag_eqr hW hok hw).mp h)) (fun h => kf (fun q => h ((ag_eqr hW hok hw).mpr q)))
theorem ag_acmp_ne {t : Nat} {v w : Int32} {off : Int} {tgt : Nat} (hx : p0.tables.exec = Jvm.exec) (hb : c.code = cc) (hW : ag_W z n p s H) (hok : ag_ok n t v) (hw : vp_in w (n t)) (hdg : decode cc pc = .ok (.if_acmp .ne off, 3)) (ht : (pc : Int) + off = (tgt : Int))
    (kt : ¬ v = w → W p0 l e R st m args below meth c H locs cells slots Q (F0 m tgt ls rest)) (kf : v = w → W p0 l e R st m args below meth c H locs cells slots Q (F0 m (pc + 3) ls rest)) : W p0 l e R st m args below meth c H locs cells slots Q (F0 m pc ls (.ref (p t w) :: va_rf (ag_ro z p t v) :: rest)) :=
  lv_acmp_ne (ry := some (p t w)) hx hb hdg ht (fun h => kt (fun q => h ((ag_eqr hW hok hw).mpr q))) (fun h => kf ((ag_eqr hW hok hw).mp h))

theorem g0_0 {i : Int32} (hx : p0.tables.exec = Jvm.exec) (hb : c.code = cc) (hT : ∀ w ∈ ag_tbl, w.before args st = true) (hown : st.vm.findClass own = some m.cls) (hG : ag_G z st st.heap) (hW : ag_W z n p s H) (hi : vp_in i (n 0)) (hlink : Cond.fieldLink own index "Amendgrant$Source" "number" "I" ∈ ag_tbl) (hdg : decode cc pc = .ok (.getfield index, 3)) (kk : W p0 l e R st m args below meth c H locs cells slots Q (F0 m (pc + 3) ls (.int (s 0 0 i) :: rest))) : W p0 l e R st m args below meth c H locs cells slots Q (F0 m pc ls (.ref (p 0 i) :: rest)) :=
  ag_get (k := 0) (f := 0) (ref := "Amendgrant$Source") hx hb hT hown hG hW hi rfl rfl rfl inX4 (by decide) hlink (fun _ h => h) hdg kk
theorem u0_0 {i x : Int32} (hx : p0.tables.exec = Jvm.exec) (hb : c.code = cc) (hT : ∀ w ∈ ag_tbl, w.before args st = true) (hown : st.vm.findClass own = some m.cls) (hG : ag_G z st st.heap) (hW : ag_W z n p s H) (hS : va_S (ag_A z) st.heap H locs) (hi : vp_in i (n 0)) (hin : meth.name = "<init>") (hdecl : "Amendgrant$Source" = own) (hlink : Cond.fieldLink own index "Amendgrant$Source" "number" "I" ∈ ag_tbl) (hdg : decode cc pc = .ok (.putfield index, 3)) (kk : ∀ (H1 : Heap) (locs1 : List Loc), ag_W z n p (ag_up s 0 0 i x) H1 → va_S (ag_A z) st.heap H1 locs1 → W p0 l e R st m args below meth c H1 locs1 cells slots Q (F0 m (pc + 3) ls rest)) : W p0 l e R st m args below meth c H locs cells slots Q (F0 m pc ls (.int x :: .ref (p 0 i) :: rest)) :=
  ag_put (k := 0) (f := 0) (t := (0, 0)) (ref := "Amendgrant$Source") hx hb hT hown hG hW hS hi rfl rfl (fun h => nomatch h) rfl inX4 (by decide) tyX4 tyX4_ok nmX4 hlink (fun _ h => h) (Or.inr ⟨rfl, hin, hdecl⟩) rfl rfl rfl hdg kk
theorem g0_1 {i : Int32} (hx : p0.tables.exec = Jvm.exec) (hb : c.code = cc) (hT : ∀ w ∈ ag_tbl, w.before args st = true) (hown : st.vm.findClass own = some m.cls) (hG : ag_G z st st.heap) (hW : ag_W z n p s H) (hi : vp_in i (n 0)) (hlink : Cond.fieldLink own index "Amendgrant$Source" "income" "I" ∈ ag_tbl) (hdg : decode cc pc = .ok (.getfield index, 3)) (kk : W p0 l e R st m args below meth c H locs cells slots Q (F0 m (pc + 3) ls (.int (s 0 1 i) :: rest))) : W p0 l e R st m args below meth c H locs cells slots Q (F0 m pc ls (.ref (p 0 i) :: rest)) :=
  ag_get (k := 0) (f := 1) (ref := "Amendgrant$Source") hx hb hT hown hG hW hi rfl rfl rfl inX4 (by decide) hlink (fun _ h => h) hdg kk
theorem u0_1 {i x : Int32} (hx : p0.tables.exec = Jvm.exec) (hb : c.code = cc) (hT : ∀ w ∈ ag_tbl, w.before args st = true) (hown : st.vm.findClass own = some m.cls) (hG : ag_G z st st.heap) (hW : ag_W z n p s H) (hS : va_S (ag_A z) st.heap H locs) (hi : vp_in i (n 0)) (hlink : Cond.fieldLink own index "Amendgrant$Source" "income" "I" ∈ ag_tbl) (hdg : decode cc pc = .ok (.putfield index, 3)) (kk : ∀ (H1 : Heap) (locs1 : List Loc), ag_W z n p (ag_up s 0 1 i x) H1 → va_S (ag_A z) st.heap H1 locs1 → W p0 l e R st m args below meth c H1 locs1 cells slots Q (F0 m (pc + 3) ls rest)) : W p0 l e R st m args below meth c H locs cells slots Q (F0 m pc ls (.int x :: .ref (p 0 i) :: rest)) :=
  ag_put (k := 0) (f := 1) (t := (0, 0)) (ref := "Amendgrant$Source") hx hb hT hown hG hW hS hi rfl rfl (fun h => nomatch h) rfl inX4 (by decide) tyX4 tyX4_ok nmX4 hlink (fun _ h => h) (Or.inl rfl) rfl rfl rfl hdg kk
theorem g0_2 {i : Int32} (hx : p0.tables.exec = Jvm.exec) (hb : c.code = cc) (hT : ∀ w ∈ ag_tbl, w.before args st = true) (hown : st.vm.findClass own = some m.cls) (hG : ag_G z st st.heap) (hW : ag_W z n p s H) (hi : vp_in i (n 0)) (hlink : Cond.fieldLink own index "Amendgrant$Source" "paid" "I" ∈ ag_tbl) (hdg : decode cc pc = .ok (.getfield index, 3)) (kk : W p0 l e R st m args below meth c H locs cells slots Q (F0 m (pc + 3) ls (.int (s 0 2 i) :: rest))) : W p0 l e R st m args below meth c H locs cells slots Q (F0 m pc ls (.ref (p 0 i) :: rest)) :=
  ag_get (k := 0) (f := 2) (ref := "Amendgrant$Source") hx hb hT hown hG hW hi rfl rfl rfl inX4 (by decide) hlink (fun _ h => h) hdg kk
theorem u0_2 {i x : Int32} (hx : p0.tables.exec = Jvm.exec) (hb : c.code = cc) (hT : ∀ w ∈ ag_tbl, w.before args st = true) (hown : st.vm.findClass own = some m.cls) (hG : ag_G z st st.heap) (hW : ag_W z n p s H) (hS : va_S (ag_A z) st.heap H locs) (hi : vp_in i (n 0)) (hlink : Cond.fieldLink own index "Amendgrant$Source" "paid" "I" ∈ ag_tbl) (hdg : decode cc pc = .ok (.putfield index, 3)) (kk : ∀ (H1 : Heap) (locs1 : List Loc), ag_W z n p (ag_up s 0 2 i x) H1 → va_S (ag_A z) st.heap H1 locs1 → W p0 l e R st m args below meth c H1 locs1 cells slots Q (F0 m (pc + 3) ls rest)) : W p0 l e R st m args below meth c H locs cells slots Q (F0 m pc ls (.int x :: .ref (p 0 i) :: rest)) :=
  ag_put (k := 0) (f := 2) (t := (0, 0)) (ref := "Amendgrant$Source") hx hb hT hown hG hW hS hi rfl rfl (fun h => nomatch h) rfl inX4 (by decide) tyX4 tyX4_ok nmX4 hlink (fun _ h => h) (Or.inl rfl) rfl rfl rfl hdg kk
theorem g1_0 {i : Int32} (hx : p0.tables.exec = Jvm.exec) (hb : c.code = cc) (hT : ∀ w ∈ ag_tbl, w.before args st = true) (hown : st.vm.findClass own = some m.cls) (hG : ag_G z st st.heap) (hW : ag_W z n p s H) (hi : vp_in i (n 1)) (hlink : Cond.fieldLink own index "Amendgrant$Receiver" "number" "I" ∈ ag_tbl) (hdg : decode cc pc = .ok (.getfield index, 3)) (kk : W p0 l e R st m args below meth c H locs cells slots Q (F0 m (pc + 3) ls (.int (s 1 0 i) :: rest))) : W p0 l e R st m args below meth c H locs cells slots Q (F0 m pc ls (.ref (p 1 i) :: rest)) :=
  ag_get (k := 1) (f := 0) (ref := "Amendgrant$Receiver") hx hb hT hown hG hW hi rfl rfl rfl inX3 (by decide) hlink (fun _ h => h) hdg kk
theorem u1_0 {i x : Int32} (hx : p0.tables.exec = Jvm.exec) (hb : c.code = cc) (hT : ∀ w ∈ ag_tbl, w.before args st = true) (hown : st.vm.findClass own = some m.cls) (hG : ag_G z st st.heap) (hW : ag_W z n p s H) (hS : va_S (ag_A z) st.heap H locs) (hi : vp_in i (n 1)) (hin : meth.name = "<init>") (hdecl : "Amendgrant$Receiver" = own) (hlink : Cond.fieldLink own index "Amendgrant$Receiver" "number" "I" ∈ ag_tbl) (hdg : decode cc pc = .ok (.putfield index, 3)) (kk : ∀ (H1 : Heap) (locs1 : List Loc), ag_W z n p (ag_up s 1 0 i x) H1 → va_S (ag_A z) st.heap H1 locs1 → W p0 l e R st m args below meth c H1 locs1 cells slots Q (F0 m (pc + 3) ls rest)) : W p0 l e R st m args below meth c H locs cells slots Q (F0 m pc ls (.int x :: .ref (p 1 i) :: rest)) :=
  ag_put (k := 1) (f := 0) (t := (0, 0)) (ref := "Amendgrant$Receiver") hx hb hT hown hG hW hS hi rfl rfl (fun h => nomatch h) rfl inX3 (by decide) tyX3 tyX3_ok nmX3 hlink (fun _ h => h) (Or.inr ⟨rfl, hin, hdecl⟩) rfl rfl rfl hdg kk
theorem g1_1 {i : Int32} (hx : p0.tables.exec = Jvm.exec) (hb : c.code = cc) (hT : ∀ w ∈ ag_tbl, w.before args st = true) (hown : st.vm.findClass own = some m.cls) (hG : ag_G z st st.heap) (hW : ag_W z n p s H) (hi : vp_in i (n 1)) (hlink : Cond.fieldLink own index "Amendgrant$Receiver" "debt" "I" ∈ ag_tbl) (hdg : decode cc pc = .ok (.getfield index, 3)) (kk : W p0 l e R st m args below meth c H locs cells slots Q (F0 m (pc + 3) ls (.int (s 1 1 i) :: rest))) : W p0 l e R st m args below meth c H locs cells slots Q (F0 m pc ls (.ref (p 1 i) :: rest)) :=
  ag_get (k := 1) (f := 1) (ref := "Amendgrant$Receiver") hx hb hT hown hG hW hi rfl rfl rfl inX3 (by decide) hlink (fun _ h => h) hdg kk
theorem u1_1 {i x : Int32} (hx : p0.tables.exec = Jvm.exec) (hb : c.code = cc) (hT : ∀ w ∈ ag_tbl, w.before args st = true) (hown : st.vm.findClass own = some m.cls) (hG : ag_G z st st.heap) (hW : ag_W z n p s H) (hS : va_S (ag_A z) st.heap H locs) (hi : vp_in i (n 1)) (hlink : Cond.fieldLink own index "Amendgrant$Receiver" "debt" "I" ∈ ag_tbl) (hdg : decode cc pc = .ok (.putfield index, 3)) (kk : ∀ (H1 : Heap) (locs1 : List Loc), ag_W z n p (ag_up s 1 1 i x) H1 → va_S (ag_A z) st.heap H1 locs1 → W p0 l e R st m args below meth c H1 locs1 cells slots Q (F0 m (pc + 3) ls rest)) : W p0 l e R st m args below meth c H locs cells slots Q (F0 m pc ls (.int x :: .ref (p 1 i) :: rest)) :=
  ag_put (k := 1) (f := 1) (t := (0, 0)) (ref := "Amendgrant$Receiver") hx hb hT hown hG hW hS hi rfl rfl (fun h => nomatch h) rfl inX3 (by decide) tyX3 tyX3_ok nmX3 hlink (fun _ h => h) (Or.inl rfl) rfl rfl rfl hdg kk
theorem g2_0 {i : Int32} (hx : p0.tables.exec = Jvm.exec) (hb : c.code = cc) (hT : ∀ w ∈ ag_tbl, w.before args st = true) (hown : st.vm.findClass own = some m.cls) (hG : ag_G z st st.heap) (hW : ag_W z n p s H) (hi : vp_in i (n 2)) (hlink : Cond.fieldLink own index "Amendgrant$Line" "number" "I" ∈ ag_tbl) (hdg : decode cc pc = .ok (.getfield index, 3)) (kk : W p0 l e R st m args below meth c H locs cells slots Q (F0 m (pc + 3) ls (.int (s 2 0 i) :: rest))) : W p0 l e R st m args below meth c H locs cells slots Q (F0 m pc ls (.ref (p 2 i) :: rest)) :=
  ag_get (k := 2) (f := 0) (ref := "Amendgrant$Line") hx hb hT hown hG hW hi rfl rfl rfl inX2 (by decide) hlink (fun _ h => h) hdg kk
theorem u2_0 {i x : Int32} (hx : p0.tables.exec = Jvm.exec) (hb : c.code = cc) (hT : ∀ w ∈ ag_tbl, w.before args st = true) (hown : st.vm.findClass own = some m.cls) (hG : ag_G z st st.heap) (hW : ag_W z n p s H) (hS : va_S (ag_A z) st.heap H locs) (hi : vp_in i (n 2)) (hin : meth.name = "<init>") (hdecl : "Amendgrant$Line" = own) (hlink : Cond.fieldLink own index "Amendgrant$Line" "number" "I" ∈ ag_tbl) (hdg : decode cc pc = .ok (.putfield index, 3)) (kk : ∀ (H1 : Heap) (locs1 : List Loc), ag_W z n p (ag_up s 2 0 i x) H1 → va_S (ag_A z) st.heap H1 locs1 → W p0 l e R st m args below meth c H1 locs1 cells slots Q (F0 m (pc + 3) ls rest)) : W p0 l e R st m args below meth c H locs cells slots Q (F0 m pc ls (.int x :: .ref (p 2 i) :: rest)) :=
  ag_put (k := 2) (f := 0) (t := (0, 0)) (ref := "Amendgrant$Line") hx hb hT hown hG hW hS hi rfl rfl (fun h => nomatch h) rfl inX2 (by decide) tyX2 tyX2_ok nmX2 hlink (fun _ h => h) (Or.inr ⟨rfl, hin, hdecl⟩) rfl rfl rfl hdg kk
theorem g2_1 {i : Int32} (hx : p0.tables.exec = Jvm.exec) (hb : c.code = cc) (hT : ∀ w ∈ ag_tbl, w.before args st = true) (hown : st.vm.findClass own = some m.cls) (hG : ag_G z st st.heap) (hW : ag_W z n p s H) (hi : vp_in i (n 2)) (hlink : Cond.fieldLink own index "Amendgrant$Line" "source" "LAmendgrant$Source;" ∈ ag_tbl) (hdg : decode cc pc = .ok (.getfield index, 3)) (kk : W p0 l e R st m args below meth c H locs cells slots Q (F0 m (pc + 3) ls (va_rf (ag_ro z p 0 (s 2 1 i)) :: rest))) : W p0 l e R st m args below meth c H locs cells slots Q (F0 m pc ls (.ref (p 2 i) :: rest)) :=
  ag_get (k := 2) (f := 1) (ref := "Amendgrant$Line") hx hb hT hown hG hW hi rfl rfl rfl inX2 (by decide) hlink (fun _ h => h) hdg kk
theorem g2_2 {i : Int32} (hx : p0.tables.exec = Jvm.exec) (hb : c.code = cc) (hT : ∀ w ∈ ag_tbl, w.before args st = true) (hown : st.vm.findClass own = some m.cls) (hG : ag_G z st st.heap) (hW : ag_W z n p s H) (hi : vp_in i (n 2)) (hlink : Cond.fieldLink own index "Amendgrant$Line" "atFirst" "I" ∈ ag_tbl) (hdg : decode cc pc = .ok (.getfield index, 3)) (kk : W p0 l e R st m args below meth c H locs cells slots Q (F0 m (pc + 3) ls (.int (s 2 2 i) :: rest))) : W p0 l e R st m args below meth c H locs cells slots Q (F0 m pc ls (.ref (p 2 i) :: rest)) :=
  ag_get (k := 2) (f := 2) (ref := "Amendgrant$Line") hx hb hT hown hG hW hi rfl rfl rfl inX2 (by decide) hlink (fun _ h => h) hdg kk
theorem u2_2 {i x : Int32} (hx : p0.tables.exec = Jvm.exec) (hb : c.code = cc) (hT : ∀ w ∈ ag_tbl, w.before args st = true) (hown : st.vm.findClass own = some m.cls) (hG : ag_G z st st.heap) (hW : ag_W z n p s H) (hS : va_S (ag_A z) st.heap H locs) (hi : vp_in i (n 2)) (hin : meth.name = "<init>") (hdecl : "Amendgrant$Line" = own) (hlink : Cond.fieldLink own index "Amendgrant$Line" "atFirst" "I" ∈ ag_tbl) (hdg : decode cc pc = .ok (.putfield index, 3)) (kk : ∀ (H1 : Heap) (locs1 : List Loc), ag_W z n p (ag_up s 2 2 i x) H1 → va_S (ag_A z) st.heap H1 locs1 → W p0 l e R st m args below meth c H1 locs1 cells slots Q (F0 m (pc + 3) ls rest)) : W p0 l e R st m args below meth c H locs cells slots Q (F0 m pc ls (.int x :: .ref (p 2 i) :: rest)) :=
  ag_put (k := 2) (f := 2) (t := (0, 0)) (ref := "Amendgrant$Line") hx hb hT hown hG hW hS hi rfl rfl (fun h => nomatch h) rfl inX2 (by decide) tyX2 tyX2_ok nmX2 hlink (fun _ h => h) (Or.inr ⟨rfl, hin, hdecl⟩) rfl rfl rfl hdg kk
theorem g2_3 {i : Int32} (hx : p0.tables.exec = Jvm.exec) (hb : c.code = cc) (hT : ∀ w ∈ ag_tbl, w.before args st = true) (hown : st.vm.findClass own = some m.cls) (hG : ag_G z st st.heap) (hW : ag_W z n p s H) (hi : vp_in i (n 2)) (hlink : Cond.fieldLink own index "Amendgrant$Line" "brought" "I" ∈ ag_tbl) (hdg : decode cc pc = .ok (.getfield index, 3)) (kk : W p0 l e R st m args below meth c H locs cells slots Q (F0 m (pc + 3) ls (.int (s 2 3 i) :: rest))) : W p0 l e R st m args below meth c H locs cells slots Q (F0 m pc ls (.ref (p 2 i) :: rest)) :=
  ag_get (k := 2) (f := 3) (ref := "Amendgrant$Line") hx hb hT hown hG hW hi rfl rfl rfl inX2 (by decide) hlink (fun _ h => h) hdg kk
theorem u2_3 {i x : Int32} (hx : p0.tables.exec = Jvm.exec) (hb : c.code = cc) (hT : ∀ w ∈ ag_tbl, w.before args st = true) (hown : st.vm.findClass own = some m.cls) (hG : ag_G z st st.heap) (hW : ag_W z n p s H) (hS : va_S (ag_A z) st.heap H locs) (hi : vp_in i (n 2)) (hlink : Cond.fieldLink own index "Amendgrant$Line" "brought" "I" ∈ ag_tbl) (hdg : decode cc pc = .ok (.putfield index, 3)) (kk : ∀ (H1 : Heap) (locs1 : List Loc), ag_W z n p (ag_up s 2 3 i x) H1 → va_S (ag_A z) st.heap H1 locs1 → W p0 l e R st m args below meth c H1 locs1 cells slots Q (F0 m (pc + 3) ls rest)) : W p0 l e R st m args below meth c H locs cells slots Q (F0 m pc ls (.int x :: .ref (p 2 i) :: rest)) :=
  ag_put (k := 2) (f := 3) (t := (0, 0)) (ref := "Amendgrant$Line") hx hb hT hown hG hW hS hi rfl rfl (fun h => nomatch h) rfl inX2 (by decide) tyX2 tyX2_ok nmX2 hlink (fun _ h => h) (Or.inl rfl) rfl rfl rfl hdg kk
theorem g2_4 {i : Int32} (hx : p0.tables.exec = Jvm.exec) (hb : c.code = cc) (hT : ∀ w ∈ ag_tbl, w.before args st = true) (hown : st.vm.findClass own = some m.cls) (hG : ag_G z st st.heap) (hW : ag_W z n p s H) (hi : vp_in i (n 2)) (hlink : Cond.fieldLink own index "Amendgrant$Line" "spent" "I" ∈ ag_tbl) (hdg : decode cc pc = .ok (.getfield index, 3)) (kk : W p0 l e R st m args below meth c H locs cells slots Q (F0 m (pc + 3) ls (.int (s 2 4 i) :: rest))) : W p0 l e R st m args below meth c H locs cells slots Q (F0 m pc ls (.ref (p 2 i) :: rest)) :=
  ag_get (k := 2) (f := 4) (ref := "Amendgrant$Line") hx hb hT hown hG hW hi rfl rfl rfl inX2 (by decide) hlink (fun _ h => h) hdg kk
theorem u2_4 {i x : Int32} (hx : p0.tables.exec = Jvm.exec) (hb : c.code = cc) (hT : ∀ w ∈ ag_tbl, w.before args st = true) (hown : st.vm.findClass own = some m.cls) (hG : ag_G z st st.heap) (hW : ag_W z n p s H) (hS : va_S (ag_A z) st.heap H locs) (hi : vp_in i (n 2)) (hlink : Cond.fieldLink own index "Amendgrant$Line" "spent" "I" ∈ ag_tbl) (hdg : decode cc pc = .ok (.putfield index, 3)) (kk : ∀ (H1 : Heap) (locs1 : List Loc), ag_W z n p (ag_up s 2 4 i x) H1 → va_S (ag_A z) st.heap H1 locs1 → W p0 l e R st m args below meth c H1 locs1 cells slots Q (F0 m (pc + 3) ls rest)) : W p0 l e R st m args below meth c H locs cells slots Q (F0 m pc ls (.int x :: .ref (p 2 i) :: rest)) :=
  ag_put (k := 2) (f := 4) (t := (0, 0)) (ref := "Amendgrant$Line") hx hb hT hown hG hW hS hi rfl rfl (fun h => nomatch h) rfl inX2 (by decide) tyX2 tyX2_ok nmX2 hlink (fun _ h => h) (Or.inl rfl) rfl rfl rfl hdg kk
theorem g2_5 {i : Int32} (hx : p0.tables.exec = Jvm.exec) (hb : c.code = cc) (hT : ∀ w ∈ ag_tbl, w.before args st = true) (hown : st.vm.findClass own = some m.cls) (hG : ag_G z st st.heap) (hW : ag_W z n p s H) (hi : vp_in i (n 2)) (hlink : Cond.fieldLink own index "Amendgrant$Line" "taken" "I" ∈ ag_tbl) (hdg : decode cc pc = .ok (.getfield index, 3)) (kk : W p0 l e R st m args below meth c H locs cells slots Q (F0 m (pc + 3) ls (.int (s 2 5 i) :: rest))) : W p0 l e R st m args below meth c H locs cells slots Q (F0 m pc ls (.ref (p 2 i) :: rest)) :=
  ag_get (k := 2) (f := 5) (ref := "Amendgrant$Line") hx hb hT hown hG hW hi rfl rfl rfl inX2 (by decide) hlink (fun _ h => h) hdg kk
theorem u2_5 {i x : Int32} (hx : p0.tables.exec = Jvm.exec) (hb : c.code = cc) (hT : ∀ w ∈ ag_tbl, w.before args st = true) (hown : st.vm.findClass own = some m.cls) (hG : ag_G z st st.heap) (hW : ag_W z n p s H) (hS : va_S (ag_A z) st.heap H locs) (hi : vp_in i (n 2)) (hlink : Cond.fieldLink own index "Amendgrant$Line" "taken" "I" ∈ ag_tbl) (hdg : decode cc pc = .ok (.putfield index, 3)) (kk : ∀ (H1 : Heap) (locs1 : List Loc), ag_W z n p (ag_up s 2 5 i x) H1 → va_S (ag_A z) st.heap H1 locs1 → W p0 l e R st m args below meth c H1 locs1 cells slots Q (F0 m (pc + 3) ls rest)) : W p0 l e R st m args below meth c H locs cells slots Q (F0 m pc ls (.int x :: .ref (p 2 i) :: rest)) :=
  ag_put (k := 2) (f := 5) (t := (0, 0)) (ref := "Amendgrant$Line") hx hb hT hown hG hW hS hi rfl rfl (fun h => nomatch h) rfl inX2 (by decide) tyX2 tyX2_ok nmX2 hlink (fun _ h => h) (Or.inl rfl) rfl rfl rfl hdg kk
theorem g2_6 {i : Int32} (hx : p0.tables.exec = Jvm.exec) (hb : c.code = cc) (hT : ∀ w ∈ ag_tbl, w.before args st = true) (hown : st.vm.findClass own = some m.cls) (hG : ag_G z st st.heap) (hW : ag_W z n p s H) (hi : vp_in i (n 2)) (hlink : Cond.fieldLink own index "Amendgrant$Line" "covered" "I" ∈ ag_tbl) (hdg : decode cc pc = .ok (.getfield index, 3)) (kk : W p0 l e R st m args below meth c H locs cells slots Q (F0 m (pc + 3) ls (.int (s 2 6 i) :: rest))) : W p0 l e R st m args below meth c H locs cells slots Q (F0 m pc ls (.ref (p 2 i) :: rest)) :=
  ag_get (k := 2) (f := 6) (ref := "Amendgrant$Line") hx hb hT hown hG hW hi rfl rfl rfl inX2 (by decide) hlink (fun _ h => h) hdg kk
theorem u2_6 {i x : Int32} (hx : p0.tables.exec = Jvm.exec) (hb : c.code = cc) (hT : ∀ w ∈ ag_tbl, w.before args st = true) (hown : st.vm.findClass own = some m.cls) (hG : ag_G z st st.heap) (hW : ag_W z n p s H) (hS : va_S (ag_A z) st.heap H locs) (hi : vp_in i (n 2)) (hlink : Cond.fieldLink own index "Amendgrant$Line" "covered" "I" ∈ ag_tbl) (hdg : decode cc pc = .ok (.putfield index, 3)) (kk : ∀ (H1 : Heap) (locs1 : List Loc), ag_W z n p (ag_up s 2 6 i x) H1 → va_S (ag_A z) st.heap H1 locs1 → W p0 l e R st m args below meth c H1 locs1 cells slots Q (F0 m (pc + 3) ls rest)) : W p0 l e R st m args below meth c H locs cells slots Q (F0 m pc ls (.int x :: .ref (p 2 i) :: rest)) :=
  ag_put (k := 2) (f := 6) (t := (0, 0)) (ref := "Amendgrant$Line") hx hb hT hown hG hW hS hi rfl rfl (fun h => nomatch h) rfl inX2 (by decide) tyX2 tyX2_ok nmX2 hlink (fun _ h => h) (Or.inl rfl) rfl rfl rfl hdg kk
theorem g3_0 {i : Int32} (hx : p0.tables.exec = Jvm.exec) (hb : c.code = cc) (hT : ∀ w ∈ ag_tbl, w.before args st = true) (hown : st.vm.findClass own = some m.cls) (hG : ag_G z st st.heap) (hW : ag_W z n p s H) (hi : vp_in i (n 3)) (hlink : Cond.fieldLink own index "Amendgrant$Amendment" "number" "I" ∈ ag_tbl) (hdg : decode cc pc = .ok (.getfield index, 3)) (kk : W p0 l e R st m args below meth c H locs cells slots Q (F0 m (pc + 3) ls (.int (s 3 0 i) :: rest))) : W p0 l e R st m args below meth c H locs cells slots Q (F0 m pc ls (.ref (p 3 i) :: rest)) :=
  ag_get (k := 3) (f := 0) (ref := "Amendgrant$Amendment") hx hb hT hown hG hW hi rfl rfl rfl inX0 (by decide) hlink (fun _ h => h) hdg kk
theorem u3_0 {i x : Int32} (hx : p0.tables.exec = Jvm.exec) (hb : c.code = cc) (hT : ∀ w ∈ ag_tbl, w.before args st = true) (hown : st.vm.findClass own = some m.cls) (hG : ag_G z st st.heap) (hW : ag_W z n p s H) (hS : va_S (ag_A z) st.heap H locs) (hi : vp_in i (n 3)) (hin : meth.name = "<init>") (hdecl : "Amendgrant$Amendment" = own) (hlink : Cond.fieldLink own index "Amendgrant$Amendment" "number" "I" ∈ ag_tbl) (hdg : decode cc pc = .ok (.putfield index, 3)) (kk : ∀ (H1 : Heap) (locs1 : List Loc), ag_W z n p (ag_up s 3 0 i x) H1 → va_S (ag_A z) st.heap H1 locs1 → W p0 l e R st m args below meth c H1 locs1 cells slots Q (F0 m (pc + 3) ls rest)) : W p0 l e R st m args below meth c H locs cells slots Q (F0 m pc ls (.int x :: .ref (p 3 i) :: rest)) :=
  ag_put (k := 3) (f := 0) (t := (0, 0)) (ref := "Amendgrant$Amendment") hx hb hT hown hG hW hS hi rfl rfl (fun h => nomatch h) rfl inX0 (by decide) tyX0 tyX0_ok nmX0 hlink (fun _ h => h) (Or.inr ⟨rfl, hin, hdecl⟩) rfl rfl rfl hdg kk
theorem g3_1 {i : Int32} (hx : p0.tables.exec = Jvm.exec) (hb : c.code = cc) (hT : ∀ w ∈ ag_tbl, w.before args st = true) (hown : st.vm.findClass own = some m.cls) (hG : ag_G z st st.heap) (hW : ag_W z n p s H) (hi : vp_in i (n 3)) (hlink : Cond.fieldLink own index "Amendgrant$Amendment" "above" "LAmendgrant$Amendment;" ∈ ag_tbl) (hdg : decode cc pc = .ok (.getfield index, 3)) (kk : W p0 l e R st m args below meth c H locs cells slots Q (F0 m (pc + 3) ls (va_rf (ag_ro z p 3 (s 3 1 i)) :: rest))) : W p0 l e R st m args below meth c H locs cells slots Q (F0 m pc ls (.ref (p 3 i) :: rest)) :=
  ag_get (k := 3) (f := 1) (ref := "Amendgrant$Amendment") hx hb hT hown hG hW hi rfl rfl rfl inX0 (by decide) hlink (fun _ h => h) hdg kk
theorem g3_2 {i : Int32} (hx : p0.tables.exec = Jvm.exec) (hb : c.code = cc) (hT : ∀ w ∈ ag_tbl, w.before args st = true) (hown : st.vm.findClass own = some m.cls) (hG : ag_G z st st.heap) (hW : ag_W z n p s H) (hi : vp_in i (n 3)) (hlink : Cond.fieldLink own index "Amendgrant$Amendment" "line" "LAmendgrant$Line;" ∈ ag_tbl) (hdg : decode cc pc = .ok (.getfield index, 3)) (kk : W p0 l e R st m args below meth c H locs cells slots Q (F0 m (pc + 3) ls (va_rf (ag_ro z p 2 (s 3 2 i)) :: rest))) : W p0 l e R st m args below meth c H locs cells slots Q (F0 m pc ls (.ref (p 3 i) :: rest)) :=
  ag_get (k := 3) (f := 2) (ref := "Amendgrant$Amendment") hx hb hT hown hG hW hi rfl rfl rfl inX0 (by decide) hlink (fun _ h => h) hdg kk
theorem g3_3 {i : Int32} (hx : p0.tables.exec = Jvm.exec) (hb : c.code = cc) (hT : ∀ w ∈ ag_tbl, w.before args st = true) (hown : st.vm.findClass own = some m.cls) (hG : ag_G z st st.heap) (hW : ag_W z n p s H) (hi : vp_in i (n 3)) (hlink : Cond.fieldLink own index "Amendgrant$Amendment" "more" "I" ∈ ag_tbl) (hdg : decode cc pc = .ok (.getfield index, 3)) (kk : W p0 l e R st m args below meth c H locs cells slots Q (F0 m (pc + 3) ls (.int (s 3 3 i) :: rest))) : W p0 l e R st m args below meth c H locs cells slots Q (F0 m pc ls (.ref (p 3 i) :: rest)) :=
  ag_get (k := 3) (f := 3) (ref := "Amendgrant$Amendment") hx hb hT hown hG hW hi rfl rfl rfl inX0 (by decide) hlink (fun _ h => h) hdg kk
theorem u3_3 {i x : Int32} (hx : p0.tables.exec = Jvm.exec) (hb : c.code = cc) (hT : ∀ w ∈ ag_tbl, w.before args st = true) (hown : st.vm.findClass own = some m.cls) (hG : ag_G z st st.heap) (hW : ag_W z n p s H) (hS : va_S (ag_A z) st.heap H locs) (hi : vp_in i (n 3)) (hin : meth.name = "<init>") (hdecl : "Amendgrant$Amendment" = own) (hlink : Cond.fieldLink own index "Amendgrant$Amendment" "more" "I" ∈ ag_tbl) (hdg : decode cc pc = .ok (.putfield index, 3)) (kk : ∀ (H1 : Heap) (locs1 : List Loc), ag_W z n p (ag_up s 3 3 i x) H1 → va_S (ag_A z) st.heap H1 locs1 → W p0 l e R st m args below meth c H1 locs1 cells slots Q (F0 m (pc + 3) ls rest)) : W p0 l e R st m args below meth c H locs cells slots Q (F0 m pc ls (.int x :: .ref (p 3 i) :: rest)) :=
  ag_put (k := 3) (f := 3) (t := (0, 0)) (ref := "Amendgrant$Amendment") hx hb hT hown hG hW hS hi rfl rfl (fun h => nomatch h) rfl inX0 (by decide) tyX0 tyX0_ok nmX0 hlink (fun _ h => h) (Or.inr ⟨rfl, hin, hdecl⟩) rfl rfl rfl hdg kk
theorem g3_4 {i : Int32} (hx : p0.tables.exec = Jvm.exec) (hb : c.code = cc) (hT : ∀ w ∈ ag_tbl, w.before args st = true) (hown : st.vm.findClass own = some m.cls) (hG : ag_G z st st.heap) (hW : ag_W z n p s H) (hi : vp_in i (n 3)) (hlink : Cond.fieldLink own index "Amendgrant$Amendment" "brings" "I" ∈ ag_tbl) (hdg : decode cc pc = .ok (.getfield index, 3)) (kk : W p0 l e R st m args below meth c H locs cells slots Q (F0 m (pc + 3) ls (.int (s 3 4 i) :: rest))) : W p0 l e R st m args below meth c H locs cells slots Q (F0 m pc ls (.ref (p 3 i) :: rest)) :=
  ag_get (k := 3) (f := 4) (ref := "Amendgrant$Amendment") hx hb hT hown hG hW hi rfl rfl rfl inX0 (by decide) hlink (fun _ h => h) hdg kk
theorem u3_4 {i x : Int32} (hx : p0.tables.exec = Jvm.exec) (hb : c.code = cc) (hT : ∀ w ∈ ag_tbl, w.before args st = true) (hown : st.vm.findClass own = some m.cls) (hG : ag_G z st st.heap) (hW : ag_W z n p s H) (hS : va_S (ag_A z) st.heap H locs) (hi : vp_in i (n 3)) (hlink : Cond.fieldLink own index "Amendgrant$Amendment" "brings" "I" ∈ ag_tbl) (hdg : decode cc pc = .ok (.putfield index, 3)) (kk : ∀ (H1 : Heap) (locs1 : List Loc), ag_W z n p (ag_up s 3 4 i x) H1 → va_S (ag_A z) st.heap H1 locs1 → W p0 l e R st m args below meth c H1 locs1 cells slots Q (F0 m (pc + 3) ls rest)) : W p0 l e R st m args below meth c H locs cells slots Q (F0 m pc ls (.int x :: .ref (p 3 i) :: rest)) :=
  ag_put (k := 3) (f := 4) (t := (0, 0)) (ref := "Amendgrant$Amendment") hx hb hT hown hG hW hS hi rfl rfl (fun h => nomatch h) rfl inX0 (by decide) tyX0 tyX0_ok nmX0 hlink (fun _ h => h) (Or.inl rfl) rfl rfl rfl hdg kk
theorem g3_5 {i : Int32} (hx : p0.tables.exec = Jvm.exec) (hb : c.code = cc) (hT : ∀ w ∈ ag_tbl, w.before args st = true) (hown : st.vm.findClass own = some m.cls) (hG : ag_G z st st.heap) (hW : ag_W z n p s H) (hi : vp_in i (n 3)) (hlink : Cond.fieldLink own index "Amendgrant$Amendment" "state" "I" ∈ ag_tbl) (hdg : decode cc pc = .ok (.getfield index, 3)) (kk : W p0 l e R st m args below meth c H locs cells slots Q (F0 m (pc + 3) ls (.int (s 3 5 i) :: rest))) : W p0 l e R st m args below meth c H locs cells slots Q (F0 m pc ls (.ref (p 3 i) :: rest)) :=
  ag_get (k := 3) (f := 5) (ref := "Amendgrant$Amendment") hx hb hT hown hG hW hi rfl rfl rfl inX0 (by decide) hlink (fun _ h => h) hdg kk
theorem u3_5 {i x : Int32} (hx : p0.tables.exec = Jvm.exec) (hb : c.code = cc) (hT : ∀ w ∈ ag_tbl, w.before args st = true) (hown : st.vm.findClass own = some m.cls) (hG : ag_G z st st.heap) (hW : ag_W z n p s H) (hS : va_S (ag_A z) st.heap H locs) (hi : vp_in i (n 3)) (hlink : Cond.fieldLink own index "Amendgrant$Amendment" "state" "I" ∈ ag_tbl) (hdg : decode cc pc = .ok (.putfield index, 3)) (kk : ∀ (H1 : Heap) (locs1 : List Loc), ag_W z n p (ag_up s 3 5 i x) H1 → va_S (ag_A z) st.heap H1 locs1 → W p0 l e R st m args below meth c H1 locs1 cells slots Q (F0 m (pc + 3) ls rest)) : W p0 l e R st m args below meth c H locs cells slots Q (F0 m pc ls (.int x :: .ref (p 3 i) :: rest)) :=
  ag_put (k := 3) (f := 5) (t := (0, 0)) (ref := "Amendgrant$Amendment") hx hb hT hown hG hW hS hi rfl rfl (fun h => nomatch h) rfl inX0 (by decide) tyX0 tyX0_ok nmX0 hlink (fun _ h => h) (Or.inl rfl) rfl rfl rfl hdg kk
theorem g3_6 {i : Int32} (hx : p0.tables.exec = Jvm.exec) (hb : c.code = cc) (hT : ∀ w ∈ ag_tbl, w.before args st = true) (hown : st.vm.findClass own = some m.cls) (hG : ag_G z st st.heap) (hW : ag_W z n p s H) (hi : vp_in i (n 3)) (hlink : Cond.fieldLink own index "Amendgrant$Amendment" "round" "I" ∈ ag_tbl) (hdg : decode cc pc = .ok (.getfield index, 3)) (kk : W p0 l e R st m args below meth c H locs cells slots Q (F0 m (pc + 3) ls (.int (s 3 6 i) :: rest))) : W p0 l e R st m args below meth c H locs cells slots Q (F0 m pc ls (.ref (p 3 i) :: rest)) :=
  ag_get (k := 3) (f := 6) (ref := "Amendgrant$Amendment") hx hb hT hown hG hW hi rfl rfl rfl inX0 (by decide) hlink (fun _ h => h) hdg kk
theorem u3_6 {i x : Int32} (hx : p0.tables.exec = Jvm.exec) (hb : c.code = cc) (hT : ∀ w ∈ ag_tbl, w.before args st = true) (hown : st.vm.findClass own = some m.cls) (hG : ag_G z st st.heap) (hW : ag_W z n p s H) (hS : va_S (ag_A z) st.heap H locs) (hi : vp_in i (n 3)) (hlink : Cond.fieldLink own index "Amendgrant$Amendment" "round" "I" ∈ ag_tbl) (hdg : decode cc pc = .ok (.putfield index, 3)) (kk : ∀ (H1 : Heap) (locs1 : List Loc), ag_W z n p (ag_up s 3 6 i x) H1 → va_S (ag_A z) st.heap H1 locs1 → W p0 l e R st m args below meth c H1 locs1 cells slots Q (F0 m (pc + 3) ls rest)) : W p0 l e R st m args below meth c H locs cells slots Q (F0 m pc ls (.int x :: .ref (p 3 i) :: rest)) :=
  ag_put (k := 3) (f := 6) (t := (0, 0)) (ref := "Amendgrant$Amendment") hx hb hT hown hG hW hS hi rfl rfl (fun h => nomatch h) rfl inX0 (by decide) tyX0 tyX0_ok nmX0 hlink (fun _ h => h) (Or.inl rfl) rfl rfl rfl hdg kk
theorem g3_7 {i : Int32} (hx : p0.tables.exec = Jvm.exec) (hb : c.code = cc) (hT : ∀ w ∈ ag_tbl, w.before args st = true) (hown : st.vm.findClass own = some m.cls) (hG : ag_G z st st.heap) (hW : ag_W z n p s H) (hi : vp_in i (n 3)) (hlink : Cond.fieldLink own index "Amendgrant$Amendment" "struck" "Z" ∈ ag_tbl) (hdg : decode cc pc = .ok (.getfield index, 3)) (kk : W p0 l e R st m args below meth c H locs cells slots Q (F0 m (pc + 3) ls (.int (s 3 7 i) :: rest))) : W p0 l e R st m args below meth c H locs cells slots Q (F0 m pc ls (.ref (p 3 i) :: rest)) :=
  ag_get (k := 3) (f := 7) (ref := "Amendgrant$Amendment") hx hb hT hown hG hW hi rfl rfl rfl inX0 (by decide) hlink (fun _ h => h) hdg kk
theorem u3_7 {i x : Int32} (hx : p0.tables.exec = Jvm.exec) (hb : c.code = cc) (hT : ∀ w ∈ ag_tbl, w.before args st = true) (hown : st.vm.findClass own = some m.cls) (hG : ag_G z st st.heap) (hW : ag_W z n p s H) (hS : va_S (ag_A z) st.heap H locs) (hi : vp_in i (n 3)) (hz : narrow .boolean (.int x) = .int x) (hz2 : fits .boolean (.int x) = true) (hlink : Cond.fieldLink own index "Amendgrant$Amendment" "struck" "Z" ∈ ag_tbl) (hdg : decode cc pc = .ok (.putfield index, 3)) (kk : ∀ (H1 : Heap) (locs1 : List Loc), ag_W z n p (ag_up s 3 7 i x) H1 → va_S (ag_A z) st.heap H1 locs1 → W p0 l e R st m args below meth c H1 locs1 cells slots Q (F0 m (pc + 3) ls rest)) : W p0 l e R st m args below meth c H locs cells slots Q (F0 m pc ls (.int x :: .ref (p 3 i) :: rest)) :=
  ag_put (k := 3) (f := 7) (t := (0, 0)) (ref := "Amendgrant$Amendment") hx hb hT hown hG hW hS hi rfl rfl (fun h => nomatch h) rfl inX0 (by decide) tyX0 tyX0_ok nmX0 hlink (fun _ h => h) (Or.inl rfl) hz hz2 rfl hdg kk
theorem g3_8 {i : Int32} (hx : p0.tables.exec = Jvm.exec) (hb : c.code = cc) (hT : ∀ w ∈ ag_tbl, w.before args st = true) (hown : st.vm.findClass own = some m.cls) (hG : ag_G z st st.heap) (hW : ag_W z n p s H) (hi : vp_in i (n 3)) (hlink : Cond.fieldLink own index "Amendgrant$Amendment" "membersFor" "I" ∈ ag_tbl) (hdg : decode cc pc = .ok (.getfield index, 3)) (kk : W p0 l e R st m args below meth c H locs cells slots Q (F0 m (pc + 3) ls (.int (s 3 8 i) :: rest))) : W p0 l e R st m args below meth c H locs cells slots Q (F0 m pc ls (.ref (p 3 i) :: rest)) :=
  ag_get (k := 3) (f := 8) (ref := "Amendgrant$Amendment") hx hb hT hown hG hW hi rfl rfl rfl inX0 (by decide) hlink (fun _ h => h) hdg kk
theorem u3_8 {i x : Int32} (hx : p0.tables.exec = Jvm.exec) (hb : c.code = cc) (hT : ∀ w ∈ ag_tbl, w.before args st = true) (hown : st.vm.findClass own = some m.cls) (hG : ag_G z st st.heap) (hW : ag_W z n p s H) (hS : va_S (ag_A z) st.heap H locs) (hi : vp_in i (n 3)) (hlink : Cond.fieldLink own index "Amendgrant$Amendment" "membersFor" "I" ∈ ag_tbl) (hdg : decode cc pc = .ok (.putfield index, 3)) (kk : ∀ (H1 : Heap) (locs1 : List Loc), ag_W z n p (ag_up s 3 8 i x) H1 → va_S (ag_A z) st.heap H1 locs1 → W p0 l e R st m args below meth c H1 locs1 cells slots Q (F0 m (pc + 3) ls rest)) : W p0 l e R st m args below meth c H locs cells slots Q (F0 m pc ls (.int x :: .ref (p 3 i) :: rest)) :=
  ag_put (k := 3) (f := 8) (t := (0, 0)) (ref := "Amendgrant$Amendment") hx hb hT hown hG hW hS hi rfl rfl (fun h => nomatch h) rfl inX0 (by decide) tyX0 tyX0_ok nmX0 hlink (fun _ h => h) (Or.inl rfl) rfl rfl rfl hdg kk
theorem g3_9 {i : Int32} (hx : p0.tables.exec = Jvm.exec) (hb : c.code = cc) (hT : ∀ w ∈ ag_tbl, w.before args st = true) (hown : st.vm.findClass own = some m.cls) (hG : ag_G z st st.heap) (hW : ag_W z n p s H) (hi : vp_in i (n 3)) (hlink : Cond.fieldLink own index "Amendgrant$Amendment" "membersAgainst" "I" ∈ ag_tbl) (hdg : decode cc pc = .ok (.getfield index, 3)) (kk : W p0 l e R st m args below meth c H locs cells slots Q (F0 m (pc + 3) ls (.int (s 3 9 i) :: rest))) : W p0 l e R st m args below meth c H locs cells slots Q (F0 m pc ls (.ref (p 3 i) :: rest)) :=
  ag_get (k := 3) (f := 9) (ref := "Amendgrant$Amendment") hx hb hT hown hG hW hi rfl rfl rfl inX0 (by decide) hlink (fun _ h => h) hdg kk
theorem u3_9 {i x : Int32} (hx : p0.tables.exec = Jvm.exec) (hb : c.code = cc) (hT : ∀ w ∈ ag_tbl, w.before args st = true) (hown : st.vm.findClass own = some m.cls) (hG : ag_G z st st.heap) (hW : ag_W z n p s H) (hS : va_S (ag_A z) st.heap H locs) (hi : vp_in i (n 3)) (hlink : Cond.fieldLink own index "Amendgrant$Amendment" "membersAgainst" "I" ∈ ag_tbl) (hdg : decode cc pc = .ok (.putfield index, 3)) (kk : ∀ (H1 : Heap) (locs1 : List Loc), ag_W z n p (ag_up s 3 9 i x) H1 → va_S (ag_A z) st.heap H1 locs1 → W p0 l e R st m args below meth c H1 locs1 cells slots Q (F0 m (pc + 3) ls rest)) : W p0 l e R st m args below meth c H locs cells slots Q (F0 m pc ls (.int x :: .ref (p 3 i) :: rest)) :=
  ag_put (k := 3) (f := 9) (t := (0, 0)) (ref := "Amendgrant$Amendment") hx hb hT hown hG hW hS hi rfl rfl (fun h => nomatch h) rfl inX0 (by decide) tyX0 tyX0_ok nmX0 hlink (fun _ h => h) (Or.inl rfl) rfl rfl rfl hdg kk
theorem g4_0 {i : Int32} (hx : p0.tables.exec = Jvm.exec) (hb : c.code = cc) (hT : ∀ w ∈ ag_tbl, w.before args st = true) (hown : st.vm.findClass own = some m.cls) (hG : ag_G z st st.heap) (hW : ag_W z n p s H) (hi : vp_in i (n 4)) (hlink : Cond.fieldLink own index "Amendgrant$Grant" "line" "LAmendgrant$Line;" ∈ ag_tbl) (hdg : decode cc pc = .ok (.getfield index, 3)) (kk : W p0 l e R st m args below meth c H locs cells slots Q (F0 m (pc + 3) ls (va_rf (ag_ro z p 2 (s 4 0 i)) :: rest))) : W p0 l e R st m args below meth c H locs cells slots Q (F0 m pc ls (.ref (p 4 i) :: rest)) :=
  ag_get (k := 4) (f := 0) (ref := "Amendgrant$Grant") hx hb hT hown hG hW hi rfl rfl rfl inX1 (by decide) hlink (fun _ h => h) hdg kk
theorem g4_1 {i : Int32} (hx : p0.tables.exec = Jvm.exec) (hb : c.code = cc) (hT : ∀ w ∈ ag_tbl, w.before args st = true) (hown : st.vm.findClass own = some m.cls) (hG : ag_G z st st.heap) (hW : ag_W z n p s H) (hi : vp_in i (n 4)) (hlink : Cond.fieldLink own index "Amendgrant$Grant" "receiver" "LAmendgrant$Receiver;" ∈ ag_tbl) (hdg : decode cc pc = .ok (.getfield index, 3)) (kk : W p0 l e R st m args below meth c H locs cells slots Q (F0 m (pc + 3) ls (va_rf (ag_ro z p 1 (s 4 1 i)) :: rest))) : W p0 l e R st m args below meth c H locs cells slots Q (F0 m pc ls (.ref (p 4 i) :: rest)) :=
  ag_get (k := 4) (f := 1) (ref := "Amendgrant$Grant") hx hb hT hown hG hW hi rfl rfl rfl inX1 (by decide) hlink (fun _ h => h) hdg kk
theorem g4_2 {i : Int32} (hx : p0.tables.exec = Jvm.exec) (hb : c.code = cc) (hT : ∀ w ∈ ag_tbl, w.before args st = true) (hown : st.vm.findClass own = some m.cls) (hG : ag_G z st st.heap) (hW : ag_W z n p s H) (hi : vp_in i (n 4)) (hlink : Cond.fieldLink own index "Amendgrant$Grant" "hangsOn" "LAmendgrant$Amendment;" ∈ ag_tbl) (hdg : decode cc pc = .ok (.getfield index, 3)) (kk : W p0 l e R st m args below meth c H locs cells slots Q (F0 m (pc + 3) ls (va_rf (ag_ro z p 3 (s 4 2 i)) :: rest))) : W p0 l e R st m args below meth c H locs cells slots Q (F0 m pc ls (.ref (p 4 i) :: rest)) :=
  ag_get (k := 4) (f := 2) (ref := "Amendgrant$Grant") hx hb hT hown hG hW hi rfl rfl rfl inX1 (by decide) hlink (fun _ h => h) hdg kk
theorem g4_3 {i : Int32} (hx : p0.tables.exec = Jvm.exec) (hb : c.code = cc) (hT : ∀ w ∈ ag_tbl, w.before args st = true) (hown : st.vm.findClass own = some m.cls) (hG : ag_G z st st.heap) (hW : ag_W z n p s H) (hi : vp_in i (n 4)) (hlink : Cond.fieldLink own index "Amendgrant$Grant" "lastMonth" "I" ∈ ag_tbl) (hdg : decode cc pc = .ok (.getfield index, 3)) (kk : W p0 l e R st m args below meth c H locs cells slots Q (F0 m (pc + 3) ls (.int (s 4 3 i) :: rest))) : W p0 l e R st m args below meth c H locs cells slots Q (F0 m pc ls (.ref (p 4 i) :: rest)) :=
  ag_get (k := 4) (f := 3) (ref := "Amendgrant$Grant") hx hb hT hown hG hW hi rfl rfl rfl inX1 (by decide) hlink (fun _ h => h) hdg kk
theorem u4_3 {i x : Int32} (hx : p0.tables.exec = Jvm.exec) (hb : c.code = cc) (hT : ∀ w ∈ ag_tbl, w.before args st = true) (hown : st.vm.findClass own = some m.cls) (hG : ag_G z st st.heap) (hW : ag_W z n p s H) (hS : va_S (ag_A z) st.heap H locs) (hi : vp_in i (n 4)) (hin : meth.name = "<init>") (hdecl : "Amendgrant$Grant" = own) (hlink : Cond.fieldLink own index "Amendgrant$Grant" "lastMonth" "I" ∈ ag_tbl) (hdg : decode cc pc = .ok (.putfield index, 3)) (kk : ∀ (H1 : Heap) (locs1 : List Loc), ag_W z n p (ag_up s 4 3 i x) H1 → va_S (ag_A z) st.heap H1 locs1 → W p0 l e R st m args below meth c H1 locs1 cells slots Q (F0 m (pc + 3) ls rest)) : W p0 l e R st m args below meth c H locs cells slots Q (F0 m pc ls (.int x :: .ref (p 4 i) :: rest)) :=
  ag_put (k := 4) (f := 3) (t := (0, 0)) (ref := "Amendgrant$Grant") hx hb hT hown hG hW hS hi rfl rfl (fun h => nomatch h) rfl inX1 (by decide) tyX1 tyX1_ok nmX1 hlink (fun _ h => h) (Or.inr ⟨rfl, hin, hdecl⟩) rfl rfl rfl hdg kk
theorem g4_4 {i : Int32} (hx : p0.tables.exec = Jvm.exec) (hb : c.code = cc) (hT : ∀ w ∈ ag_tbl, w.before args st = true) (hown : st.vm.findClass own = some m.cls) (hG : ag_G z st st.heap) (hW : ag_W z n p s H) (hi : vp_in i (n 4)) (hlink : Cond.fieldLink own index "Amendgrant$Grant" "sum" "I" ∈ ag_tbl) (hdg : decode cc pc = .ok (.getfield index, 3)) (kk : W p0 l e R st m args below meth c H locs cells slots Q (F0 m (pc + 3) ls (.int (s 4 4 i) :: rest))) : W p0 l e R st m args below meth c H locs cells slots Q (F0 m pc ls (.ref (p 4 i) :: rest)) :=
  ag_get (k := 4) (f := 4) (ref := "Amendgrant$Grant") hx hb hT hown hG hW hi rfl rfl rfl inX1 (by decide) hlink (fun _ h => h) hdg kk
theorem u4_4 {i x : Int32} (hx : p0.tables.exec = Jvm.exec) (hb : c.code = cc) (hT : ∀ w ∈ ag_tbl, w.before args st = true) (hown : st.vm.findClass own = some m.cls) (hG : ag_G z st st.heap) (hW : ag_W z n p s H) (hS : va_S (ag_A z) st.heap H locs) (hi : vp_in i (n 4)) (hlink : Cond.fieldLink own index "Amendgrant$Grant" "sum" "I" ∈ ag_tbl) (hdg : decode cc pc = .ok (.putfield index, 3)) (kk : ∀ (H1 : Heap) (locs1 : List Loc), ag_W z n p (ag_up s 4 4 i x) H1 → va_S (ag_A z) st.heap H1 locs1 → W p0 l e R st m args below meth c H1 locs1 cells slots Q (F0 m (pc + 3) ls rest)) : W p0 l e R st m args below meth c H locs cells slots Q (F0 m pc ls (.int x :: .ref (p 4 i) :: rest)) :=
  ag_put (k := 4) (f := 4) (t := (0, 0)) (ref := "Amendgrant$Grant") hx hb hT hown hG hW hS hi rfl rfl (fun h => nomatch h) rfl inX1 (by decide) tyX1 tyX1_ok nmX1 hlink (fun _ h => h) (Or.inl rfl) rfl rfl rfl hdg kk
theorem g4_5 {i : Int32} (hx : p0.tables.exec = Jvm.exec) (hb : c.code = cc) (hT : ∀ w ∈ ag_tbl, w.before args st = true) (hown : st.vm.findClass own = some m.cls) (hG : ag_G z st st.heap) (hW : ag_W z n p s H) (hi : vp_in i (n 4)) (hlink : Cond.fieldLink own index "Amendgrant$Grant" "paid" "I" ∈ ag_tbl) (hdg : decode cc pc = .ok (.getfield index, 3)) (kk : W p0 l e R st m args below meth c H locs cells slots Q (F0 m (pc + 3) ls (.int (s 4 5 i) :: rest))) : W p0 l e R st m args below meth c H locs cells slots Q (F0 m pc ls (.ref (p 4 i) :: rest)) :=
  ag_get (k := 4) (f := 5) (ref := "Amendgrant$Grant") hx hb hT hown hG hW hi rfl rfl rfl inX1 (by decide) hlink (fun _ h => h) hdg kk
theorem u4_5 {i x : Int32} (hx : p0.tables.exec = Jvm.exec) (hb : c.code = cc) (hT : ∀ w ∈ ag_tbl, w.before args st = true) (hown : st.vm.findClass own = some m.cls) (hG : ag_G z st st.heap) (hW : ag_W z n p s H) (hS : va_S (ag_A z) st.heap H locs) (hi : vp_in i (n 4)) (hlink : Cond.fieldLink own index "Amendgrant$Grant" "paid" "I" ∈ ag_tbl) (hdg : decode cc pc = .ok (.putfield index, 3)) (kk : ∀ (H1 : Heap) (locs1 : List Loc), ag_W z n p (ag_up s 4 5 i x) H1 → va_S (ag_A z) st.heap H1 locs1 → W p0 l e R st m args below meth c H1 locs1 cells slots Q (F0 m (pc + 3) ls rest)) : W p0 l e R st m args below meth c H locs cells slots Q (F0 m pc ls (.int x :: .ref (p 4 i) :: rest)) :=
  ag_put (k := 4) (f := 5) (t := (0, 0)) (ref := "Amendgrant$Grant") hx hb hT hown hG hW hS hi rfl rfl (fun h => nomatch h) rfl inX1 (by decide) tyX1 tyX1_ok nmX1 hlink (fun _ h => h) (Or.inl rfl) rfl rfl rfl hdg kk
theorem g4_6 {i : Int32} (hx : p0.tables.exec = Jvm.exec) (hb : c.code = cc) (hT : ∀ w ∈ ag_tbl, w.before args st = true) (hown : st.vm.findClass own = some m.cls) (hG : ag_G z st st.heap) (hW : ag_W z n p s H) (hi : vp_in i (n 4)) (hlink : Cond.fieldLink own index "Amendgrant$Grant" "state" "I" ∈ ag_tbl) (hdg : decode cc pc = .ok (.getfield index, 3)) (kk : W p0 l e R st m args below meth c H locs cells slots Q (F0 m (pc + 3) ls (.int (s 4 6 i) :: rest))) : W p0 l e R st m args below meth c H locs cells slots Q (F0 m pc ls (.ref (p 4 i) :: rest)) :=
  ag_get (k := 4) (f := 6) (ref := "Amendgrant$Grant") hx hb hT hown hG hW hi rfl rfl rfl inX1 (by decide) hlink (fun _ h => h) hdg kk
theorem u4_6 {i x : Int32} (hx : p0.tables.exec = Jvm.exec) (hb : c.code = cc) (hT : ∀ w ∈ ag_tbl, w.before args st = true) (hown : st.vm.findClass own = some m.cls) (hG : ag_G z st st.heap) (hW : ag_W z n p s H) (hS : va_S (ag_A z) st.heap H locs) (hi : vp_in i (n 4)) (hlink : Cond.fieldLink own index "Amendgrant$Grant" "state" "I" ∈ ag_tbl) (hdg : decode cc pc = .ok (.putfield index, 3)) (kk : ∀ (H1 : Heap) (locs1 : List Loc), ag_W z n p (ag_up s 4 6 i x) H1 → va_S (ag_A z) st.heap H1 locs1 → W p0 l e R st m args below meth c H1 locs1 cells slots Q (F0 m (pc + 3) ls rest)) : W p0 l e R st m args below meth c H locs cells slots Q (F0 m pc ls (.int x :: .ref (p 4 i) :: rest)) :=
  ag_put (k := 4) (f := 6) (t := (0, 0)) (ref := "Amendgrant$Grant") hx hb hT hown hG hW hS hi rfl rfl (fun h => nomatch h) rfl inX1 (by decide) tyX1 tyX1_ok nmX1 hlink (fun _ h => h) (Or.inl rfl) rfl rfl rfl hdg kk
theorem g4_7 {i : Int32} (hx : p0.tables.exec = Jvm.exec) (hb : c.code = cc) (hT : ∀ w ∈ ag_tbl, w.before args st = true) (hown : st.vm.findClass own = some m.cls) (hG : ag_G z st st.heap) (hW : ag_W z n p s H) (hi : vp_in i (n 4)) (hlink : Cond.fieldLink own index "Amendgrant$Grant" "reported" "Z" ∈ ag_tbl) (hdg : decode cc pc = .ok (.getfield index, 3)) (kk : W p0 l e R st m args below meth c H locs cells slots Q (F0 m (pc + 3) ls (.int (s 4 7 i) :: rest))) : W p0 l e R st m args below meth c H locs cells slots Q (F0 m pc ls (.ref (p 4 i) :: rest)) :=
  ag_get (k := 4) (f := 7) (ref := "Amendgrant$Grant") hx hb hT hown hG hW hi rfl rfl rfl inX1 (by decide) hlink (fun _ h => h) hdg kk
theorem u4_7 {i x : Int32} (hx : p0.tables.exec = Jvm.exec) (hb : c.code = cc) (hT : ∀ w ∈ ag_tbl, w.before args st = true) (hown : st.vm.findClass own = some m.cls) (hG : ag_G z st st.heap) (hW : ag_W z n p s H) (hS : va_S (ag_A z) st.heap H locs) (hi : vp_in i (n 4)) (hz : narrow .boolean (.int x) = .int x) (hz2 : fits .boolean (.int x) = true) (hlink : Cond.fieldLink own index "Amendgrant$Grant" "reported" "Z" ∈ ag_tbl) (hdg : decode cc pc = .ok (.putfield index, 3)) (kk : ∀ (H1 : Heap) (locs1 : List Loc), ag_W z n p (ag_up s 4 7 i x) H1 → va_S (ag_A z) st.heap H1 locs1 → W p0 l e R st m args below meth c H1 locs1 cells slots Q (F0 m (pc + 3) ls rest)) : W p0 l e R st m args below meth c H locs cells slots Q (F0 m pc ls (.int x :: .ref (p 4 i) :: rest)) :=
  ag_put (k := 4) (f := 7) (t := (0, 0)) (ref := "Amendgrant$Grant") hx hb hT hown hG hW hS hi rfl rfl (fun h => nomatch h) rfl inX1 (by decide) tyX1 tyX1_ok nmX1 hlink (fun _ h => h) (Or.inl rfl) hz hz2 rfl hdg kk
theorem g5_0 {i : Int32} (hx : p0.tables.exec = Jvm.exec) (hb : c.code = cc) (hT : ∀ w ∈ ag_tbl, w.before args st = true) (hown : st.vm.findClass own = some m.cls) (hG : ag_G z st st.heap) (hW : ag_W z n p s H) (hi : vp_in i (n 5)) (hlink : Cond.fieldLink own index "Amendgrant" "sources" "Ljava/util/ArrayList;" ∈ ag_tbl) (hdg : decode cc pc = .ok (.getfield index, 3)) (kk : W p0 l e R st m args below meth c H locs cells slots Q (F0 m (pc + 3) ls (.ref (p 10 0) :: rest))) : W p0 l e R st m args below meth c H locs cells slots Q (F0 m pc ls (.ref (p 5 i) :: rest)) :=
  ag_get (k := 5) (f := 0) (ref := "Amendgrant") hx hb hT hown hG hW hi rfl rfl rfl inX5 (by decide) hlink (fun _ h => h) hdg kk
theorem g5_1 {i : Int32} (hx : p0.tables.exec = Jvm.exec) (hb : c.code = cc) (hT : ∀ w ∈ ag_tbl, w.before args st = true) (hown : st.vm.findClass own = some m.cls) (hG : ag_G z st st.heap) (hW : ag_W z n p s H) (hi : vp_in i (n 5)) (hlink : Cond.fieldLink own index "Amendgrant" "receivers" "Ljava/util/ArrayList;" ∈ ag_tbl) (hdg : decode cc pc = .ok (.getfield index, 3)) (kk : W p0 l e R st m args below meth c H locs cells slots Q (F0 m (pc + 3) ls (.ref (p 11 0) :: rest))) : W p0 l e R st m args below meth c H locs cells slots Q (F0 m pc ls (.ref (p 5 i) :: rest)) :=
  ag_get (k := 5) (f := 1) (ref := "Amendgrant") hx hb hT hown hG hW hi rfl rfl rfl inX5 (by decide) hlink (fun _ h => h) hdg kk
theorem g5_2 {i : Int32} (hx : p0.tables.exec = Jvm.exec) (hb : c.code = cc) (hT : ∀ w ∈ ag_tbl, w.before args st = true) (hown : st.vm.findClass own = some m.cls) (hG : ag_G z st st.heap) (hW : ag_W z n p s H) (hi : vp_in i (n 5)) (hlink : Cond.fieldLink own index "Amendgrant" "lines" "Ljava/util/ArrayList;" ∈ ag_tbl) (hdg : decode cc pc = .ok (.getfield index, 3)) (kk : W p0 l e R st m args below meth c H locs cells slots Q (F0 m (pc + 3) ls (.ref (p 12 0) :: rest))) : W p0 l e R st m args below meth c H locs cells slots Q (F0 m pc ls (.ref (p 5 i) :: rest)) :=
  ag_get (k := 5) (f := 2) (ref := "Amendgrant") hx hb hT hown hG hW hi rfl rfl rfl inX5 (by decide) hlink (fun _ h => h) hdg kk
theorem g5_3 {i : Int32} (hx : p0.tables.exec = Jvm.exec) (hb : c.code = cc) (hT : ∀ w ∈ ag_tbl, w.before args st = true) (hown : st.vm.findClass own = some m.cls) (hG : ag_G z st st.heap) (hW : ag_W z n p s H) (hi : vp_in i (n 5)) (hlink : Cond.fieldLink own index "Amendgrant" "amendments" "Ljava/util/ArrayList;" ∈ ag_tbl) (hdg : decode cc pc = .ok (.getfield index, 3)) (kk : W p0 l e R st m args below meth c H locs cells slots Q (F0 m (pc + 3) ls (.ref (p 13 0) :: rest))) : W p0 l e R st m args below meth c H locs cells slots Q (F0 m pc ls (.ref (p 5 i) :: rest)) :=
  ag_get (k := 5) (f := 3) (ref := "Amendgrant") hx hb hT hown hG hW hi rfl rfl rfl inX5 (by decide) hlink (fun _ h => h) hdg kk
theorem g5_4 {i : Int32} (hx : p0.tables.exec = Jvm.exec) (hb : c.code = cc) (hT : ∀ w ∈ ag_tbl, w.before args st = true) (hown : st.vm.findClass own = some m.cls) (hG : ag_G z st st.heap) (hW : ag_W z n p s H) (hi : vp_in i (n 5)) (hlink : Cond.fieldLink own index "Amendgrant" "grants" "Ljava/util/ArrayList;" ∈ ag_tbl) (hdg : decode cc pc = .ok (.getfield index, 3)) (kk : W p0 l e R st m args below meth c H locs cells slots Q (F0 m (pc + 3) ls (.ref (p 14 0) :: rest))) : W p0 l e R st m args below meth c H locs cells slots Q (F0 m pc ls (.ref (p 5 i) :: rest)) :=
  ag_get (k := 5) (f := 4) (ref := "Amendgrant") hx hb hT hown hG hW hi rfl rfl rfl inX5 (by decide) hlink (fun _ h => h) hdg kk
theorem g5_5 {i : Int32} (hx : p0.tables.exec = Jvm.exec) (hb : c.code = cc) (hT : ∀ w ∈ ag_tbl, w.before args st = true) (hown : st.vm.findClass own = some m.cls) (hG : ag_G z st st.heap) (hW : ag_W z n p s H) (hi : vp_in i (n 5)) (hlink : Cond.fieldLink own index "Amendgrant" "inReserve" "I" ∈ ag_tbl) (hdg : decode cc pc = .ok (.getfield index, 3)) (kk : W p0 l e R st m args below meth c H locs cells slots Q (F0 m (pc + 3) ls (.int (s 5 5 i) :: rest))) : W p0 l e R st m args below meth c H locs cells slots Q (F0 m pc ls (.ref (p 5 i) :: rest)) :=
  ag_get (k := 5) (f := 5) (ref := "Amendgrant") hx hb hT hown hG hW hi rfl rfl rfl inX5 (by decide) hlink (fun _ h => h) hdg kk
theorem u5_5 {i x : Int32} (hx : p0.tables.exec = Jvm.exec) (hb : c.code = cc) (hT : ∀ w ∈ ag_tbl, w.before args st = true) (hown : st.vm.findClass own = some m.cls) (hG : ag_G z st st.heap) (hW : ag_W z n p s H) (hS : va_S (ag_A z) st.heap H locs) (hi : vp_in i (n 5)) (hlink : Cond.fieldLink own index "Amendgrant" "inReserve" "I" ∈ ag_tbl) (hdg : decode cc pc = .ok (.putfield index, 3)) (kk : ∀ (H1 : Heap) (locs1 : List Loc), ag_W z n p (ag_up s 5 5 i x) H1 → va_S (ag_A z) st.heap H1 locs1 → W p0 l e R st m args below meth c H1 locs1 cells slots Q (F0 m (pc + 3) ls rest)) : W p0 l e R st m args below meth c H locs cells slots Q (F0 m pc ls (.int x :: .ref (p 5 i) :: rest)) :=
  ag_put (k := 5) (f := 5) (t := (0, 0)) (ref := "Amendgrant") hx hb hT hown hG hW hS hi rfl rfl (fun h => nomatch h) rfl inX5 (by decide) tyX5 tyX5_ok nmX5 hlink (fun _ h => h) (Or.inl rfl) rfl rfl rfl hdg kk
theorem g5_6 {i : Int32} (hx : p0.tables.exec = Jvm.exec) (hb : c.code = cc) (hT : ∀ w ∈ ag_tbl, w.before args st = true) (hown : st.vm.findClass own = some m.cls) (hG : ag_G z st st.heap) (hW : ag_W z n p s H) (hi : vp_in i (n 5)) (hlink : Cond.fieldLink own index "Amendgrant" "percentOfTarget" "I" ∈ ag_tbl) (hdg : decode cc pc = .ok (.getfield index, 3)) (kk : W p0 l e R st m args below meth c H locs cells slots Q (F0 m (pc + 3) ls (.int (s 5 6 i) :: rest))) : W p0 l e R st m args below meth c H locs cells slots Q (F0 m pc ls (.ref (p 5 i) :: rest)) :=
  ag_get (k := 5) (f := 6) (ref := "Amendgrant") hx hb hT hown hG hW hi rfl rfl rfl inX5 (by decide) hlink (fun _ h => h) hdg kk
theorem u5_6 {i x : Int32} (hx : p0.tables.exec = Jvm.exec) (hb : c.code = cc) (hT : ∀ w ∈ ag_tbl, w.before args st = true) (hown : st.vm.findClass own = some m.cls) (hG : ag_G z st st.heap) (hW : ag_W z n p s H) (hS : va_S (ag_A z) st.heap H locs) (hi : vp_in i (n 5)) (hlink : Cond.fieldLink own index "Amendgrant" "percentOfTarget" "I" ∈ ag_tbl) (hdg : decode cc pc = .ok (.putfield index, 3)) (kk : ∀ (H1 : Heap) (locs1 : List Loc), ag_W z n p (ag_up s 5 6 i x) H1 → va_S (ag_A z) st.heap H1 locs1 → W p0 l e R st m args below meth c H1 locs1 cells slots Q (F0 m (pc + 3) ls rest)) : W p0 l e R st m args below meth c H locs cells slots Q (F0 m pc ls (.int x :: .ref (p 5 i) :: rest)) :=
  ag_put (k := 5) (f := 6) (t := (0, 0)) (ref := "Amendgrant") hx hb hT hown hG hW hS hi rfl rfl (fun h => nomatch h) rfl inX5 (by decide) tyX5 tyX5_ok nmX5 hlink (fun _ h => h) (Or.inl rfl) rfl rfl rfl hdg kk
theorem g5_7 {i : Int32} (hx : p0.tables.exec = Jvm.exec) (hb : c.code = cc) (hT : ∀ w ∈ ag_tbl, w.before args st = true) (hown : st.vm.findClass own = some m.cls) (hG : ag_G z st st.heap) (hW : ag_W z n p s H) (hi : vp_in i (n 5)) (hlink : Cond.fieldLink own index "Amendgrant" "thisMonth" "I" ∈ ag_tbl) (hdg : decode cc pc = .ok (.getfield index, 3)) (kk : W p0 l e R st m args below meth c H locs cells slots Q (F0 m (pc + 3) ls (.int (s 5 7 i) :: rest))) : W p0 l e R st m args below meth c H locs cells slots Q (F0 m pc ls (.ref (p 5 i) :: rest)) :=
  ag_get (k := 5) (f := 7) (ref := "Amendgrant") hx hb hT hown hG hW hi rfl rfl rfl inX5 (by decide) hlink (fun _ h => h) hdg kk
theorem u5_7 {i x : Int32} (hx : p0.tables.exec = Jvm.exec) (hb : c.code = cc) (hT : ∀ w ∈ ag_tbl, w.before args st = true) (hown : st.vm.findClass own = some m.cls) (hG : ag_G z st st.heap) (hW : ag_W z n p s H) (hS : va_S (ag_A z) st.heap H locs) (hi : vp_in i (n 5)) (hlink : Cond.fieldLink own index "Amendgrant" "thisMonth" "I" ∈ ag_tbl) (hdg : decode cc pc = .ok (.putfield index, 3)) (kk : ∀ (H1 : Heap) (locs1 : List Loc), ag_W z n p (ag_up s 5 7 i x) H1 → va_S (ag_A z) st.heap H1 locs1 → W p0 l e R st m args below meth c H1 locs1 cells slots Q (F0 m (pc + 3) ls rest)) : W p0 l e R st m args below meth c H locs cells slots Q (F0 m pc ls (.int x :: .ref (p 5 i) :: rest)) :=
  ag_put (k := 5) (f := 7) (t := (0, 0)) (ref := "Amendgrant") hx hb hT hown hG hW hS hi rfl rfl (fun h => nomatch h) rfl inX5 (by decide) tyX5 tyX5_ok nmX5 hlink (fun _ h => h) (Or.inl rfl) rfl rfl rfl hdg kk
theorem g6_0 {i : Int32} (hx : p0.tables.exec = Jvm.exec) (hb : c.code = cc) (hT : ∀ w ∈ ag_tbl, w.before args st = true) (hown : st.vm.findClass own = some m.cls) (hG : ag_G z st st.heap) (hW : ag_W z n p s H) (hi : vp_in i (n 6)) (hlink : Cond.fieldLink own index "AmendgrantModel" "thrown" "I" ∈ ag_tbl) (hdg : decode cc pc = .ok (.getfield index, 3)) (kk : W p0 l e R st m args below meth c H locs cells slots Q (F0 m (pc + 3) ls (.int (s 6 0 i) :: rest))) : W p0 l e R st m args below meth c H locs cells slots Q (F0 m pc ls (.ref (p 6 i) :: rest)) :=
  ag_get (k := 6) (f := 0) (ref := "AmendgrantModel") hx hb hT hown hG hW hi rfl rfl rfl inX6 (by decide) hlink (fun _ h => h) hdg kk
theorem u6_0 {i x : Int32} (hx : p0.tables.exec = Jvm.exec) (hb : c.code = cc) (hT : ∀ w ∈ ag_tbl, w.before args st = true) (hown : st.vm.findClass own = some m.cls) (hG : ag_G z st st.heap) (hW : ag_W z n p s H) (hS : va_S (ag_A z) st.heap H locs) (hi : vp_in i (n 6)) (hlink : Cond.fieldLink own index "AmendgrantModel" "thrown" "I" ∈ ag_tbl) (hdg : decode cc pc = .ok (.putfield index, 3)) (kk : ∀ (H1 : Heap) (locs1 : List Loc), ag_W z n p (ag_up s 6 0 i x) H1 → va_S (ag_A z) st.heap H1 locs1 → W p0 l e R st m args below meth c H1 locs1 cells slots Q (F0 m (pc + 3) ls rest)) : W p0 l e R st m args below meth c H locs cells slots Q (F0 m pc ls (.int x :: .ref (p 6 i) :: rest)) :=
  ag_put (k := 6) (f := 0) (t := (0, 0)) (ref := "AmendgrantModel") hx hb hT hown hG hW hS hi rfl rfl (fun h => nomatch h) rfl inX6 (by decide) tyX6 tyX6_ok nmX6 hlink (fun _ h => h) (Or.inl rfl) rfl rfl rfl hdg kk
theorem g6_1 {i : Int32} (hx : p0.tables.exec = Jvm.exec) (hb : c.code = cc) (hT : ∀ w ∈ ag_tbl, w.before args st = true) (hown : st.vm.findClass own = some m.cls) (hG : ag_G z st st.heap) (hW : ag_W z n p s H) (hi : vp_in i (n 6)) (hlink : Cond.fieldLink own index "AmendgrantModel" "now" "I" ∈ ag_tbl) (hdg : decode cc pc = .ok (.getfield index, 3)) (kk : W p0 l e R st m args below meth c H locs cells slots Q (F0 m (pc + 3) ls (.int (s 6 1 i) :: rest))) : W p0 l e R st m args below meth c H locs cells slots Q (F0 m pc ls (.ref (p 6 i) :: rest)) :=
  ag_get (k := 6) (f := 1) (ref := "AmendgrantModel") hx hb hT hown hG hW hi rfl rfl rfl inX6 (by decide) hlink (fun _ h => h) hdg kk
theorem u6_1 {i x : Int32} (hx : p0.tables.exec = Jvm.exec) (hb : c.code = cc) (hT : ∀ w ∈ ag_tbl, w.before args st = true) (hown : st.vm.findClass own = some m.cls) (hG : ag_G z st st.heap) (hW : ag_W z n p s H) (hS : va_S (ag_A z) st.heap H locs) (hi : vp_in i (n 6)) (hlink : Cond.fieldLink own index "AmendgrantModel" "now" "I" ∈ ag_tbl) (hdg : decode cc pc = .ok (.putfield index, 3)) (kk : ∀ (H1 : Heap) (locs1 : List Loc), ag_W z n p (ag_up s 6 1 i x) H1 → va_S (ag_A z) st.heap H1 locs1 → W p0 l e R st m args below meth c H1 locs1 cells slots Q (F0 m (pc + 3) ls rest)) : W p0 l e R st m args below meth c H locs cells slots Q (F0 m pc ls (.int x :: .ref (p 6 i) :: rest)) :=
  ag_put (k := 6) (f := 1) (t := (0, 0)) (ref := "AmendgrantModel") hx hb hT hown hG hW hS hi rfl rfl (fun h => nomatch h) rfl inX6 (by decide) tyX6 tyX6_ok nmX6 hlink (fun _ h => h) (Or.inl rfl) rfl rfl rfl hdg kk
theorem g6_2 {i : Int32} (hx : p0.tables.exec = Jvm.exec) (hb : c.code = cc) (hT : ∀ w ∈ ag_tbl, w.before args st = true) (hown : st.vm.findClass own = some m.cls) (hG : ag_G z st st.heap) (hW : ag_W z n p s H) (hi : vp_in i (n 6)) (hlink : Cond.fieldLink own index "AmendgrantModel" "reserve" "I" ∈ ag_tbl) (hdg : decode cc pc = .ok (.getfield index, 3)) (kk : W p0 l e R st m args below meth c H locs cells slots Q (F0 m (pc + 3) ls (.int (s 6 2 i) :: rest))) : W p0 l e R st m args below meth c H locs cells slots Q (F0 m pc ls (.ref (p 6 i) :: rest)) :=
  ag_get (k := 6) (f := 2) (ref := "AmendgrantModel") hx hb hT hown hG hW hi rfl rfl rfl inX6 (by decide) hlink (fun _ h => h) hdg kk
theorem u6_2 {i x : Int32} (hx : p0.tables.exec = Jvm.exec) (hb : c.code = cc) (hT : ∀ w ∈ ag_tbl, w.before args st = true) (hown : st.vm.findClass own = some m.cls) (hG : ag_G z st st.heap) (hW : ag_W z n p s H) (hS : va_S (ag_A z) st.heap H locs) (hi : vp_in i (n 6)) (hlink : Cond.fieldLink own index "AmendgrantModel" "reserve" "I" ∈ ag_tbl) (hdg : decode cc pc = .ok (.putfield index, 3)) (kk : ∀ (H1 : Heap) (locs1 : List Loc), ag_W z n p (ag_up s 6 2 i x) H1 → va_S (ag_A z) st.heap H1 locs1 → W p0 l e R st m args below meth c H1 locs1 cells slots Q (F0 m (pc + 3) ls rest)) : W p0 l e R st m args below meth c H locs cells slots Q (F0 m pc ls (.int x :: .ref (p 6 i) :: rest)) :=
  ag_put (k := 6) (f := 2) (t := (0, 0)) (ref := "AmendgrantModel") hx hb hT hown hG hW hS hi rfl rfl (fun h => nomatch h) rfl inX6 (by decide) tyX6 tyX6_ok nmX6 hlink (fun _ h => h) (Or.inl rfl) rfl rfl rfl hdg kk
theorem g6_3 {i : Int32} (hx : p0.tables.exec = Jvm.exec) (hb : c.code = cc) (hT : ∀ w ∈ ag_tbl, w.before args st = true) (hown : st.vm.findClass own = some m.cls) (hG : ag_G z st st.heap) (hW : ag_W z n p s H) (hi : vp_in i (n 6)) (hlink : Cond.fieldLink own index "AmendgrantModel" "percent" "I" ∈ ag_tbl) (hdg : decode cc pc = .ok (.getfield index, 3)) (kk : W p0 l e R st m args below meth c H locs cells slots Q (F0 m (pc + 3) ls (.int (s 6 3 i) :: rest))) : W p0 l e R st m args below meth c H locs cells slots Q (F0 m pc ls (.ref (p 6 i) :: rest)) :=
  ag_get (k := 6) (f := 3) (ref := "AmendgrantModel") hx hb hT hown hG hW hi rfl rfl rfl inX6 (by decide) hlink (fun _ h => h) hdg kk
theorem u6_3 {i x : Int32} (hx : p0.tables.exec = Jvm.exec) (hb : c.code = cc) (hT : ∀ w ∈ ag_tbl, w.before args st = true) (hown : st.vm.findClass own = some m.cls) (hG : ag_G z st st.heap) (hW : ag_W z n p s H) (hS : va_S (ag_A z) st.heap H locs) (hi : vp_in i (n 6)) (hlink : Cond.fieldLink own index "AmendgrantModel" "percent" "I" ∈ ag_tbl) (hdg : decode cc pc = .ok (.putfield index, 3)) (kk : ∀ (H1 : Heap) (locs1 : List Loc), ag_W z n p (ag_up s 6 3 i x) H1 → va_S (ag_A z) st.heap H1 locs1 → W p0 l e R st m args below meth c H1 locs1 cells slots Q (F0 m (pc + 3) ls rest)) : W p0 l e R st m args below meth c H locs cells slots Q (F0 m pc ls (.int x :: .ref (p 6 i) :: rest)) :=
  ag_put (k := 6) (f := 3) (t := (0, 0)) (ref := "AmendgrantModel") hx hb hT hown hG hW hS hi rfl rfl (fun h => nomatch h) rfl inX6 (by decide) tyX6 tyX6_ok nmX6 hlink (fun _ h => h) (Or.inl rfl) rfl rfl rfl hdg kk
theorem g6_4 {i : Int32} (hx : p0.tables.exec = Jvm.exec) (hb : c.code = cc) (hT : ∀ w ∈ ag_tbl, w.before args st = true) (hown : st.vm.findClass own = some m.cls) (hG : ag_G z st st.heap) (hW : ag_W z n p s H) (hi : vp_in i (n 6)) (hlink : Cond.fieldLink own index "AmendgrantModel" "income" "[I" ∈ ag_tbl) (hdg : decode cc pc = .ok (.getfield index, 3)) (kk : W p0 l e R st m args below meth c H locs cells slots Q (F0 m (pc + 3) ls (.ref (p 34 0) :: rest))) : W p0 l e R st m args below meth c H locs cells slots Q (F0 m pc ls (.ref (p 6 i) :: rest)) :=
  ag_get (k := 6) (f := 4) (ref := "AmendgrantModel") hx hb hT hown hG hW hi rfl rfl rfl inX6 (by decide) hlink (fun _ h => h) hdg kk
theorem g6_5 {i : Int32} (hx : p0.tables.exec = Jvm.exec) (hb : c.code = cc) (hT : ∀ w ∈ ag_tbl, w.before args st = true) (hown : st.vm.findClass own = some m.cls) (hG : ag_G z st st.heap) (hW : ag_W z n p s H) (hi : vp_in i (n 6)) (hlink : Cond.fieldLink own index "AmendgrantModel" "paidFrom" "[I" ∈ ag_tbl) (hdg : decode cc pc = .ok (.getfield index, 3)) (kk : W p0 l e R st m args below meth c H locs cells slots Q (F0 m (pc + 3) ls (.ref (p 35 0) :: rest))) : W p0 l e R st m args below meth c H locs cells slots Q (F0 m pc ls (.ref (p 6 i) :: rest)) :=
  ag_get (k := 6) (f := 5) (ref := "AmendgrantModel") hx hb hT hown hG hW hi rfl rfl rfl inX6 (by decide) hlink (fun _ h => h) hdg kk
theorem g6_6 {i : Int32} (hx : p0.tables.exec = Jvm.exec) (hb : c.code = cc) (hT : ∀ w ∈ ag_tbl, w.before args st = true) (hown : st.vm.findClass own = some m.cls) (hG : ag_G z st st.heap) (hW : ag_W z n p s H) (hi : vp_in i (n 6)) (hlink : Cond.fieldLink own index "AmendgrantModel" "owes" "[I" ∈ ag_tbl) (hdg : decode cc pc = .ok (.getfield index, 3)) (kk : W p0 l e R st m args below meth c H locs cells slots Q (F0 m (pc + 3) ls (.ref (p 36 0) :: rest))) : W p0 l e R st m args below meth c H locs cells slots Q (F0 m pc ls (.ref (p 6 i) :: rest)) :=
  ag_get (k := 6) (f := 6) (ref := "AmendgrantModel") hx hb hT hown hG hW hi rfl rfl rfl inX6 (by decide) hlink (fun _ h => h) hdg kk
theorem g6_7 {i : Int32} (hx : p0.tables.exec = Jvm.exec) (hb : c.code = cc) (hT : ∀ w ∈ ag_tbl, w.before args st = true) (hown : st.vm.findClass own = some m.cls) (hG : ag_G z st st.heap) (hW : ag_W z n p s H) (hi : vp_in i (n 6)) (hlink : Cond.fieldLink own index "AmendgrantModel" "lines" "I" ∈ ag_tbl) (hdg : decode cc pc = .ok (.getfield index, 3)) (kk : W p0 l e R st m args below meth c H locs cells slots Q (F0 m (pc + 3) ls (.int (s 6 7 i) :: rest))) : W p0 l e R st m args below meth c H locs cells slots Q (F0 m pc ls (.ref (p 6 i) :: rest)) :=
  ag_get (k := 6) (f := 7) (ref := "AmendgrantModel") hx hb hT hown hG hW hi rfl rfl rfl inX6 (by decide) hlink (fun _ h => h) hdg kk
theorem u6_7 {i x : Int32} (hx : p0.tables.exec = Jvm.exec) (hb : c.code = cc) (hT : ∀ w ∈ ag_tbl, w.before args st = true) (hown : st.vm.findClass own = some m.cls) (hG : ag_G z st st.heap) (hW : ag_W z n p s H) (hS : va_S (ag_A z) st.heap H locs) (hi : vp_in i (n 6)) (hlink : Cond.fieldLink own index "AmendgrantModel" "lines" "I" ∈ ag_tbl) (hdg : decode cc pc = .ok (.putfield index, 3)) (kk : ∀ (H1 : Heap) (locs1 : List Loc), ag_W z n p (ag_up s 6 7 i x) H1 → va_S (ag_A z) st.heap H1 locs1 → W p0 l e R st m args below meth c H1 locs1 cells slots Q (F0 m (pc + 3) ls rest)) : W p0 l e R st m args below meth c H locs cells slots Q (F0 m pc ls (.int x :: .ref (p 6 i) :: rest)) :=
  ag_put (k := 6) (f := 7) (t := (0, 0)) (ref := "AmendgrantModel") hx hb hT hown hG hW hS hi rfl rfl (fun h => nomatch h) rfl inX6 (by decide) tyX6 tyX6_ok nmX6 hlink (fun _ h => h) (Or.inl rfl) rfl rfl rfl hdg kk
theorem g6_8 {i : Int32} (hx : p0.tables.exec = Jvm.exec) (hb : c.code = cc) (hT : ∀ w ∈ ag_tbl, w.before args st = true) (hown : st.vm.findClass own = some m.cls) (hG : ag_G z st st.heap) (hW : ag_W z n p s H) (hi : vp_in i (n 6)) (hlink : Cond.fieldLink own index "AmendgrantModel" "sourceOf" "[I" ∈ ag_tbl) (hdg : decode cc pc = .ok (.getfield index, 3)) (kk : W p0 l e R st m args below meth c H locs cells slots Q (F0 m (pc + 3) ls (.ref (p 38 0) :: rest))) : W p0 l e R st m args below meth c H locs cells slots Q (F0 m pc ls (.ref (p 6 i) :: rest)) :=
  ag_get (k := 6) (f := 8) (ref := "AmendgrantModel") hx hb hT hown hG hW hi rfl rfl rfl inX6 (by decide) hlink (fun _ h => h) hdg kk
theorem g6_9 {i : Int32} (hx : p0.tables.exec = Jvm.exec) (hb : c.code = cc) (hT : ∀ w ∈ ag_tbl, w.before args st = true) (hown : st.vm.findClass own = some m.cls) (hG : ag_G z st st.heap) (hW : ag_W z n p s H) (hi : vp_in i (n 6)) (hlink : Cond.fieldLink own index "AmendgrantModel" "first" "[I" ∈ ag_tbl) (hdg : decode cc pc = .ok (.getfield index, 3)) (kk : W p0 l e R st m args below meth c H locs cells slots Q (F0 m (pc + 3) ls (.ref (p 39 0) :: rest))) : W p0 l e R st m args below meth c H locs cells slots Q (F0 m pc ls (.ref (p 6 i) :: rest)) :=
  ag_get (k := 6) (f := 9) (ref := "AmendgrantModel") hx hb hT hown hG hW hi rfl rfl rfl inX6 (by decide) hlink (fun _ h => h) hdg kk
theorem g6_10 {i : Int32} (hx : p0.tables.exec = Jvm.exec) (hb : c.code = cc) (hT : ∀ w ∈ ag_tbl, w.before args st = true) (hown : st.vm.findClass own = some m.cls) (hG : ag_G z st st.heap) (hW : ag_W z n p s H) (hi : vp_in i (n 6)) (hlink : Cond.fieldLink own index "AmendgrantModel" "took" "[I" ∈ ag_tbl) (hdg : decode cc pc = .ok (.getfield index, 3)) (kk : W p0 l e R st m args below meth c H locs cells slots Q (F0 m (pc + 3) ls (.ref (p 40 0) :: rest))) : W p0 l e R st m args below meth c H locs cells slots Q (F0 m pc ls (.ref (p 6 i) :: rest)) :=
  ag_get (k := 6) (f := 10) (ref := "AmendgrantModel") hx hb hT hown hG hW hi rfl rfl rfl inX6 (by decide) hlink (fun _ h => h) hdg kk
theorem g6_11 {i : Int32} (hx : p0.tables.exec = Jvm.exec) (hb : c.code = cc) (hT : ∀ w ∈ ag_tbl, w.before args st = true) (hown : st.vm.findClass own = some m.cls) (hG : ag_G z st st.heap) (hW : ag_W z n p s H) (hi : vp_in i (n 6)) (hlink : Cond.fieldLink own index "AmendgrantModel" "covered" "[I" ∈ ag_tbl) (hdg : decode cc pc = .ok (.getfield index, 3)) (kk : W p0 l e R st m args below meth c H locs cells slots Q (F0 m (pc + 3) ls (.ref (p 41 0) :: rest))) : W p0 l e R st m args below meth c H locs cells slots Q (F0 m pc ls (.ref (p 6 i) :: rest)) :=
  ag_get (k := 6) (f := 11) (ref := "AmendgrantModel") hx hb hT hown hG hW hi rfl rfl rfl inX6 (by decide) hlink (fun _ h => h) hdg kk
theorem g6_12 {i : Int32} (hx : p0.tables.exec = Jvm.exec) (hb : c.code = cc) (hT : ∀ w ∈ ag_tbl, w.before args st = true) (hown : st.vm.findClass own = some m.cls) (hG : ag_G z st st.heap) (hW : ag_W z n p s H) (hi : vp_in i (n 6)) (hlink : Cond.fieldLink own index "AmendgrantModel" "spent" "[I" ∈ ag_tbl) (hdg : decode cc pc = .ok (.getfield index, 3)) (kk : W p0 l e R st m args below meth c H locs cells slots Q (F0 m (pc + 3) ls (.ref (p 42 0) :: rest))) : W p0 l e R st m args below meth c H locs cells slots Q (F0 m pc ls (.ref (p 6 i) :: rest)) :=
  ag_get (k := 6) (f := 12) (ref := "AmendgrantModel") hx hb hT hown hG hW hi rfl rfl rfl inX6 (by decide) hlink (fun _ h => h) hdg kk
theorem g6_13 {i : Int32} (hx : p0.tables.exec = Jvm.exec) (hb : c.code = cc) (hT : ∀ w ∈ ag_tbl, w.before args st = true) (hown : st.vm.findClass own = some m.cls) (hG : ag_G z st st.heap) (hW : ag_W z n p s H) (hi : vp_in i (n 6)) (hlink : Cond.fieldLink own index "AmendgrantModel" "amendments" "I" ∈ ag_tbl) (hdg : decode cc pc = .ok (.getfield index, 3)) (kk : W p0 l e R st m args below meth c H locs cells slots Q (F0 m (pc + 3) ls (.int (s 6 13 i) :: rest))) : W p0 l e R st m args below meth c H locs cells slots Q (F0 m pc ls (.ref (p 6 i) :: rest)) :=
  ag_get (k := 6) (f := 13) (ref := "AmendgrantModel") hx hb hT hown hG hW hi rfl rfl rfl inX6 (by decide) hlink (fun _ h => h) hdg kk
theorem u6_13 {i x : Int32} (hx : p0.tables.exec = Jvm.exec) (hb : c.code = cc) (hT : ∀ w ∈ ag_tbl, w.before args st = true) (hown : st.vm.findClass own = some m.cls) (hG : ag_G z st st.heap) (hW : ag_W z n p s H) (hS : va_S (ag_A z) st.heap H locs) (hi : vp_in i (n 6)) (hlink : Cond.fieldLink own index "AmendgrantModel" "amendments" "I" ∈ ag_tbl) (hdg : decode cc pc = .ok (.putfield index, 3)) (kk : ∀ (H1 : Heap) (locs1 : List Loc), ag_W z n p (ag_up s 6 13 i x) H1 → va_S (ag_A z) st.heap H1 locs1 → W p0 l e R st m args below meth c H1 locs1 cells slots Q (F0 m (pc + 3) ls rest)) : W p0 l e R st m args below meth c H locs cells slots Q (F0 m pc ls (.int x :: .ref (p 6 i) :: rest)) :=
  ag_put (k := 6) (f := 13) (t := (0, 0)) (ref := "AmendgrantModel") hx hb hT hown hG hW hS hi rfl rfl (fun h => nomatch h) rfl inX6 (by decide) tyX6 tyX6_ok nmX6 hlink (fun _ h => h) (Or.inl rfl) rfl rfl rfl hdg kk
theorem g6_14 {i : Int32} (hx : p0.tables.exec = Jvm.exec) (hb : c.code = cc) (hT : ∀ w ∈ ag_tbl, w.before args st = true) (hown : st.vm.findClass own = some m.cls) (hG : ag_G z st st.heap) (hW : ag_W z n p s H) (hi : vp_in i (n 6)) (hlink : Cond.fieldLink own index "AmendgrantModel" "on" "[I" ∈ ag_tbl) (hdg : decode cc pc = .ok (.getfield index, 3)) (kk : W p0 l e R st m args below meth c H locs cells slots Q (F0 m (pc + 3) ls (.ref (p 44 0) :: rest))) : W p0 l e R st m args below meth c H locs cells slots Q (F0 m pc ls (.ref (p 6 i) :: rest)) :=
  ag_get (k := 6) (f := 14) (ref := "AmendgrantModel") hx hb hT hown hG hW hi rfl rfl rfl inX6 (by decide) hlink (fun _ h => h) hdg kk
theorem g6_15 {i : Int32} (hx : p0.tables.exec = Jvm.exec) (hb : c.code = cc) (hT : ∀ w ∈ ag_tbl, w.before args st = true) (hown : st.vm.findClass own = some m.cls) (hG : ag_G z st st.heap) (hW : ag_W z n p s H) (hi : vp_in i (n 6)) (hlink : Cond.fieldLink own index "AmendgrantModel" "lineOf" "[I" ∈ ag_tbl) (hdg : decode cc pc = .ok (.getfield index, 3)) (kk : W p0 l e R st m args below meth c H locs cells slots Q (F0 m (pc + 3) ls (.ref (p 45 0) :: rest))) : W p0 l e R st m args below meth c H locs cells slots Q (F0 m pc ls (.ref (p 6 i) :: rest)) :=
  ag_get (k := 6) (f := 15) (ref := "AmendgrantModel") hx hb hT hown hG hW hi rfl rfl rfl inX6 (by decide) hlink (fun _ h => h) hdg kk
theorem g6_16 {i : Int32} (hx : p0.tables.exec = Jvm.exec) (hb : c.code = cc) (hT : ∀ w ∈ ag_tbl, w.before args st = true) (hown : st.vm.findClass own = some m.cls) (hG : ag_G z st st.heap) (hW : ag_W z n p s H) (hi : vp_in i (n 6)) (hlink : Cond.fieldLink own index "AmendgrantModel" "more" "[I" ∈ ag_tbl) (hdg : decode cc pc = .ok (.getfield index, 3)) (kk : W p0 l e R st m args below meth c H locs cells slots Q (F0 m (pc + 3) ls (.ref (p 46 0) :: rest))) : W p0 l e R st m args below meth c H locs cells slots Q (F0 m pc ls (.ref (p 6 i) :: rest)) :=
  ag_get (k := 6) (f := 16) (ref := "AmendgrantModel") hx hb hT hown hG hW hi rfl rfl rfl inX6 (by decide) hlink (fun _ h => h) hdg kk
theorem g6_17 {i : Int32} (hx : p0.tables.exec = Jvm.exec) (hb : c.code = cc) (hT : ∀ w ∈ ag_tbl, w.before args st = true) (hown : st.vm.findClass own = some m.cls) (hG : ag_G z st st.heap) (hW : ag_W z n p s H) (hi : vp_in i (n 6)) (hlink : Cond.fieldLink own index "AmendgrantModel" "state" "[I" ∈ ag_tbl) (hdg : decode cc pc = .ok (.getfield index, 3)) (kk : W p0 l e R st m args below meth c H locs cells slots Q (F0 m (pc + 3) ls (.ref (p 47 0) :: rest))) : W p0 l e R st m args below meth c H locs cells slots Q (F0 m pc ls (.ref (p 6 i) :: rest)) :=
  ag_get (k := 6) (f := 17) (ref := "AmendgrantModel") hx hb hT hown hG hW hi rfl rfl rfl inX6 (by decide) hlink (fun _ h => h) hdg kk
theorem g6_18 {i : Int32} (hx : p0.tables.exec = Jvm.exec) (hb : c.code = cc) (hT : ∀ w ∈ ag_tbl, w.before args st = true) (hown : st.vm.findClass own = some m.cls) (hG : ag_G z st st.heap) (hW : ag_W z n p s H) (hi : vp_in i (n 6)) (hlink : Cond.fieldLink own index "AmendgrantModel" "round" "[I" ∈ ag_tbl) (hdg : decode cc pc = .ok (.getfield index, 3)) (kk : W p0 l e R st m args below meth c H locs cells slots Q (F0 m (pc + 3) ls (.ref (p 48 0) :: rest))) : W p0 l e R st m args below meth c H locs cells slots Q (F0 m pc ls (.ref (p 6 i) :: rest)) :=
  ag_get (k := 6) (f := 18) (ref := "AmendgrantModel") hx hb hT hown hG hW hi rfl rfl rfl inX6 (by decide) hlink (fun _ h => h) hdg kk
theorem g6_19 {i : Int32} (hx : p0.tables.exec = Jvm.exec) (hb : c.code = cc) (hT : ∀ w ∈ ag_tbl, w.before args st = true) (hown : st.vm.findClass own = some m.cls) (hG : ag_G z st st.heap) (hW : ag_W z n p s H) (hi : vp_in i (n 6)) (hlink : Cond.fieldLink own index "AmendgrantModel" "votes" "[I" ∈ ag_tbl) (hdg : decode cc pc = .ok (.getfield index, 3)) (kk : W p0 l e R st m args below meth c H locs cells slots Q (F0 m (pc + 3) ls (.ref (p 49 0) :: rest))) : W p0 l e R st m args below meth c H locs cells slots Q (F0 m pc ls (.ref (p 6 i) :: rest)) :=
  ag_get (k := 6) (f := 19) (ref := "AmendgrantModel") hx hb hT hown hG hW hi rfl rfl rfl inX6 (by decide) hlink (fun _ h => h) hdg kk
theorem g6_20 {i : Int32} (hx : p0.tables.exec = Jvm.exec) (hb : c.code = cc) (hT : ∀ w ∈ ag_tbl, w.before args st = true) (hown : st.vm.findClass own = some m.cls) (hG : ag_G z st st.heap) (hW : ag_W z n p s H) (hi : vp_in i (n 6)) (hlink : Cond.fieldLink own index "AmendgrantModel" "grants" "I" ∈ ag_tbl) (hdg : decode cc pc = .ok (.getfield index, 3)) (kk : W p0 l e R st m args below meth c H locs cells slots Q (F0 m (pc + 3) ls (.int (s 6 20 i) :: rest))) : W p0 l e R st m args below meth c H locs cells slots Q (F0 m pc ls (.ref (p 6 i) :: rest)) :=
  ag_get (k := 6) (f := 20) (ref := "AmendgrantModel") hx hb hT hown hG hW hi rfl rfl rfl inX6 (by decide) hlink (fun _ h => h) hdg kk
theorem u6_20 {i x : Int32} (hx : p0.tables.exec = Jvm.exec) (hb : c.code = cc) (hT : ∀ w ∈ ag_tbl, w.before args st = true) (hown : st.vm.findClass own = some m.cls) (hG : ag_G z st st.heap) (hW : ag_W z n p s H) (hS : va_S (ag_A z) st.heap H locs) (hi : vp_in i (n 6)) (hlink : Cond.fieldLink own index "AmendgrantModel" "grants" "I" ∈ ag_tbl) (hdg : decode cc pc = .ok (.putfield index, 3)) (kk : ∀ (H1 : Heap) (locs1 : List Loc), ag_W z n p (ag_up s 6 20 i x) H1 → va_S (ag_A z) st.heap H1 locs1 → W p0 l e R st m args below meth c H1 locs1 cells slots Q (F0 m (pc + 3) ls rest)) : W p0 l e R st m args below meth c H locs cells slots Q (F0 m pc ls (.int x :: .ref (p 6 i) :: rest)) :=
  ag_put (k := 6) (f := 20) (t := (0, 0)) (ref := "AmendgrantModel") hx hb hT hown hG hW hS hi rfl rfl (fun h => nomatch h) rfl inX6 (by decide) tyX6 tyX6_ok nmX6 hlink (fun _ h => h) (Or.inl rfl) rfl rfl rfl hdg kk
theorem g6_21 {i : Int32} (hx : p0.tables.exec = Jvm.exec) (hb : c.code = cc) (hT : ∀ w ∈ ag_tbl, w.before args st = true) (hown : st.vm.findClass own = some m.cls) (hG : ag_G z st st.heap) (hW : ag_W z n p s H) (hi : vp_in i (n 6)) (hlink : Cond.fieldLink own index "AmendgrantModel" "grantLine" "[I" ∈ ag_tbl) (hdg : decode cc pc = .ok (.getfield index, 3)) (kk : W p0 l e R st m args below meth c H locs cells slots Q (F0 m (pc + 3) ls (.ref (p 51 0) :: rest))) : W p0 l e R st m args below meth c H locs cells slots Q (F0 m pc ls (.ref (p 6 i) :: rest)) :=
  ag_get (k := 6) (f := 21) (ref := "AmendgrantModel") hx hb hT hown hG hW hi rfl rfl rfl inX6 (by decide) hlink (fun _ h => h) hdg kk
theorem g6_22 {i : Int32} (hx : p0.tables.exec = Jvm.exec) (hb : c.code = cc) (hT : ∀ w ∈ ag_tbl, w.before args st = true) (hown : st.vm.findClass own = some m.cls) (hG : ag_G z st st.heap) (hW : ag_W z n p s H) (hi : vp_in i (n 6)) (hlink : Cond.fieldLink own index "AmendgrantModel" "receiver" "[I" ∈ ag_tbl) (hdg : decode cc pc = .ok (.getfield index, 3)) (kk : W p0 l e R st m args below meth c H locs cells slots Q (F0 m (pc + 3) ls (.ref (p 52 0) :: rest))) : W p0 l e R st m args below meth c H locs cells slots Q (F0 m pc ls (.ref (p 6 i) :: rest)) :=
  ag_get (k := 6) (f := 22) (ref := "AmendgrantModel") hx hb hT hown hG hW hi rfl rfl rfl inX6 (by decide) hlink (fun _ h => h) hdg kk
theorem g6_23 {i : Int32} (hx : p0.tables.exec = Jvm.exec) (hb : c.code = cc) (hT : ∀ w ∈ ag_tbl, w.before args st = true) (hown : st.vm.findClass own = some m.cls) (hG : ag_G z st st.heap) (hW : ag_W z n p s H) (hi : vp_in i (n 6)) (hlink : Cond.fieldLink own index "AmendgrantModel" "sum" "[I" ∈ ag_tbl) (hdg : decode cc pc = .ok (.getfield index, 3)) (kk : W p0 l e R st m args below meth c H locs cells slots Q (F0 m (pc + 3) ls (.ref (p 53 0) :: rest))) : W p0 l e R st m args below meth c H locs cells slots Q (F0 m pc ls (.ref (p 6 i) :: rest)) :=
  ag_get (k := 6) (f := 23) (ref := "AmendgrantModel") hx hb hT hown hG hW hi rfl rfl rfl inX6 (by decide) hlink (fun _ h => h) hdg kk
theorem g6_24 {i : Int32} (hx : p0.tables.exec = Jvm.exec) (hb : c.code = cc) (hT : ∀ w ∈ ag_tbl, w.before args st = true) (hown : st.vm.findClass own = some m.cls) (hG : ag_G z st st.heap) (hW : ag_W z n p s H) (hi : vp_in i (n 6)) (hlink : Cond.fieldLink own index "AmendgrantModel" "paid" "[I" ∈ ag_tbl) (hdg : decode cc pc = .ok (.getfield index, 3)) (kk : W p0 l e R st m args below meth c H locs cells slots Q (F0 m (pc + 3) ls (.ref (p 54 0) :: rest))) : W p0 l e R st m args below meth c H locs cells slots Q (F0 m pc ls (.ref (p 6 i) :: rest)) :=
  ag_get (k := 6) (f := 24) (ref := "AmendgrantModel") hx hb hT hown hG hW hi rfl rfl rfl inX6 (by decide) hlink (fun _ h => h) hdg kk
theorem g6_25 {i : Int32} (hx : p0.tables.exec = Jvm.exec) (hb : c.code = cc) (hT : ∀ w ∈ ag_tbl, w.before args st = true) (hown : st.vm.findClass own = some m.cls) (hG : ag_G z st st.heap) (hW : ag_W z n p s H) (hi : vp_in i (n 6)) (hlink : Cond.fieldLink own index "AmendgrantModel" "hangsOn" "[I" ∈ ag_tbl) (hdg : decode cc pc = .ok (.getfield index, 3)) (kk : W p0 l e R st m args below meth c H locs cells slots Q (F0 m (pc + 3) ls (.ref (p 55 0) :: rest))) : W p0 l e R st m args below meth c H locs cells slots Q (F0 m pc ls (.ref (p 6 i) :: rest)) :=
  ag_get (k := 6) (f := 25) (ref := "AmendgrantModel") hx hb hT hown hG hW hi rfl rfl rfl inX6 (by decide) hlink (fun _ h => h) hdg kk
theorem g6_26 {i : Int32} (hx : p0.tables.exec = Jvm.exec) (hb : c.code = cc) (hT : ∀ w ∈ ag_tbl, w.before args st = true) (hown : st.vm.findClass own = some m.cls) (hG : ag_G z st st.heap) (hW : ag_W z n p s H) (hi : vp_in i (n 6)) (hlink : Cond.fieldLink own index "AmendgrantModel" "until" "[I" ∈ ag_tbl) (hdg : decode cc pc = .ok (.getfield index, 3)) (kk : W p0 l e R st m args below meth c H locs cells slots Q (F0 m (pc + 3) ls (.ref (p 56 0) :: rest))) : W p0 l e R st m args below meth c H locs cells slots Q (F0 m pc ls (.ref (p 6 i) :: rest)) :=
  ag_get (k := 6) (f := 26) (ref := "AmendgrantModel") hx hb hT hown hG hW hi rfl rfl rfl inX6 (by decide) hlink (fun _ h => h) hdg kk
theorem g6_27 {i : Int32} (hx : p0.tables.exec = Jvm.exec) (hb : c.code = cc) (hT : ∀ w ∈ ag_tbl, w.before args st = true) (hown : st.vm.findClass own = some m.cls) (hG : ag_G z st st.heap) (hW : ag_W z n p s H) (hi : vp_in i (n 6)) (hlink : Cond.fieldLink own index "AmendgrantModel" "becomes" "[I" ∈ ag_tbl) (hdg : decode cc pc = .ok (.getfield index, 3)) (kk : W p0 l e R st m args below meth c H locs cells slots Q (F0 m (pc + 3) ls (.ref (p 57 0) :: rest))) : W p0 l e R st m args below meth c H locs cells slots Q (F0 m pc ls (.ref (p 6 i) :: rest)) :=
  ag_get (k := 6) (f := 27) (ref := "AmendgrantModel") hx hb hT hown hG hW hi rfl rfl rfl inX6 (by decide) hlink (fun _ h => h) hdg kk
theorem g6_28 {i : Int32} (hx : p0.tables.exec = Jvm.exec) (hb : c.code = cc) (hT : ∀ w ∈ ag_tbl, w.before args st = true) (hown : st.vm.findClass own = some m.cls) (hG : ag_G z st st.heap) (hW : ag_W z n p s H) (hi : vp_in i (n 6)) (hlink : Cond.fieldLink own index "AmendgrantModel" "isReported" "[Z" ∈ ag_tbl) (hdg : decode cc pc = .ok (.getfield index, 3)) (kk : W p0 l e R st m args below meth c H locs cells slots Q (F0 m (pc + 3) ls (.ref (p 58 0) :: rest))) : W p0 l e R st m args below meth c H locs cells slots Q (F0 m pc ls (.ref (p 6 i) :: rest)) :=
  ag_get (k := 6) (f := 28) (ref := "AmendgrantModel") hx hb hT hown hG hW hi rfl rfl rfl inX6 (by decide) hlink (fun _ h => h) hdg kk
theorem g6_29 {i : Int32} (hx : p0.tables.exec = Jvm.exec) (hb : c.code = cc) (hT : ∀ w ∈ ag_tbl, w.before args st = true) (hown : st.vm.findClass own = some m.cls) (hG : ag_G z st st.heap) (hW : ag_W z n p s H) (hi : vp_in i (n 6)) (hlink : Cond.fieldLink own index "AmendgrantModel" "sums" "[I" ∈ ag_tbl) (hdg : decode cc pc = .ok (.getfield index, 3)) (kk : W p0 l e R st m args below meth c H locs cells slots Q (F0 m (pc + 3) ls (.ref (p 59 0) :: rest))) : W p0 l e R st m args below meth c H locs cells slots Q (F0 m pc ls (.ref (p 6 i) :: rest)) :=
  ag_get (k := 6) (f := 29) (ref := "AmendgrantModel") hx hb hT hown hG hW hi rfl rfl rfl inX6 (by decide) hlink (fun _ h => h) hdg kk
theorem g6_30 {i : Int32} (hx : p0.tables.exec = Jvm.exec) (hb : c.code = cc) (hT : ∀ w ∈ ag_tbl, w.before args st = true) (hown : st.vm.findClass own = some m.cls) (hG : ag_G z st st.heap) (hW : ag_W z n p s H) (hi : vp_in i (n 6)) (hlink : Cond.fieldLink own index "AmendgrantModel" "isFalling" "[Z" ∈ ag_tbl) (hdg : decode cc pc = .ok (.getfield index, 3)) (kk : W p0 l e R st m args below meth c H locs cells slots Q (F0 m (pc + 3) ls (.ref (p 60 0) :: rest))) : W p0 l e R st m args below meth c H locs cells slots Q (F0 m pc ls (.ref (p 6 i) :: rest)) :=
  ag_get (k := 6) (f := 30) (ref := "AmendgrantModel") hx hb hT hown hG hW hi rfl rfl rfl inX6 (by decide) hlink (fun _ h => h) hdg kk
theorem g10_1 {i : Int32} (hx : p0.tables.exec = Jvm.exec) (hb : c.code = cc) (hT : ∀ w ∈ ag_tbl, w.before args st = true) (hown : st.vm.findClass own = some m.cls) (hG : ag_G z st st.heap) (hW : ag_W z n p s H) (hi : vp_in i (n 10)) (hlink : Cond.fieldLink own index "java/util/ArrayList" "elementData" "[Ljava/lang/Object;" ∈ ag_tbl) (hdg : decode cc pc = .ok (.getfield index, 3)) (kk : W p0 l e R st m args below meth c H locs cells slots Q (F0 m (pc + 3) ls (va_rf (ag_ro z p 20 (s 10 1 i)) :: rest))) : W p0 l e R st m args below meth c H locs cells slots Q (F0 m pc ls (.ref (p 10 i) :: rest)) :=
  ag_get (k := 10) (f := 1) (ref := "java/util/ArrayList") hx hb hT hown hG hW hi rfl rfl rfl inJx4a65c (by decide) hlink (fun _ h => h) hdg kk
theorem g10_2 {i : Int32} (hx : p0.tables.exec = Jvm.exec) (hb : c.code = cc) (hT : ∀ w ∈ ag_tbl, w.before args st = true) (hown : st.vm.findClass own = some m.cls) (hG : ag_G z st st.heap) (hW : ag_W z n p s H) (hi : vp_in i (n 10)) (hlink : Cond.fieldLink own index "java/util/ArrayList" "size" "I" ∈ ag_tbl) (hdg : decode cc pc = .ok (.getfield index, 3)) (kk : W p0 l e R st m args below meth c H locs cells slots Q (F0 m (pc + 3) ls (.int (s 10 2 i) :: rest))) : W p0 l e R st m args below meth c H locs cells slots Q (F0 m pc ls (.ref (p 10 i) :: rest)) :=
  ag_get (k := 10) (f := 2) (ref := "java/util/ArrayList") hx hb hT hown hG hW hi rfl rfl rfl inJx4a65c (by decide) hlink (fun _ h => h) hdg kk
theorem u10_2 {i x : Int32} (hx : p0.tables.exec = Jvm.exec) (hb : c.code = cc) (hT : ∀ w ∈ ag_tbl, w.before args st = true) (hown : st.vm.findClass own = some m.cls) (hG : ag_G z st st.heap) (hW : ag_W z n p s H) (hS : va_S (ag_A z) st.heap H locs) (hi : vp_in i (n 10)) (hlink : Cond.fieldLink own index "java/util/ArrayList" "size" "I" ∈ ag_tbl) (hdg : decode cc pc = .ok (.putfield index, 3)) (kk : ∀ (H1 : Heap) (locs1 : List Loc), ag_W z n p (ag_up s 10 2 i x) H1 → va_S (ag_A z) st.heap H1 locs1 → W p0 l e R st m args below meth c H1 locs1 cells slots Q (F0 m (pc + 3) ls rest)) : W p0 l e R st m args below meth c H locs cells slots Q (F0 m pc ls (.int x :: .ref (p 10 i) :: rest)) :=
  ag_put (k := 10) (f := 2) (t := (0, 0)) (ref := "java/util/ArrayList") hx hb hT hown hG hW hS hi rfl rfl (fun h => nomatch h) rfl inJx4a65c (by decide) tyJx4a65c tyJx4a65c_ok nmJx4a65c hlink (fun _ h => h) (Or.inl rfl) rfl rfl rfl hdg kk
theorem g11_1 {i : Int32} (hx : p0.tables.exec = Jvm.exec) (hb : c.code = cc) (hT : ∀ w ∈ ag_tbl, w.before args st = true) (hown : st.vm.findClass own = some m.cls) (hG : ag_G z st st.heap) (hW : ag_W z n p s H) (hi : vp_in i (n 11)) (hlink : Cond.fieldLink own index "java/util/ArrayList" "elementData" "[Ljava/lang/Object;" ∈ ag_tbl) (hdg : decode cc pc = .ok (.getfield index, 3)) (kk : W p0 l e R st m args below meth c H locs cells slots Q (F0 m (pc + 3) ls (va_rf (ag_ro z p 21 (s 11 1 i)) :: rest))) : W p0 l e R st m args below meth c H locs cells slots Q (F0 m pc ls (.ref (p 11 i) :: rest)) :=
  ag_get (k := 11) (f := 1) (ref := "java/util/ArrayList") hx hb hT hown hG hW hi rfl rfl rfl inJx4a65c (by decide) hlink (fun _ h => h) hdg kk
theorem g11_2 {i : Int32} (hx : p0.tables.exec = Jvm.exec) (hb : c.code = cc) (hT : ∀ w ∈ ag_tbl, w.before args st = true) (hown : st.vm.findClass own = some m.cls) (hG : ag_G z st st.heap) (hW : ag_W z n p s H) (hi : vp_in i (n 11)) (hlink : Cond.fieldLink own index "java/util/ArrayList" "size" "I" ∈ ag_tbl) (hdg : decode cc pc = .ok (.getfield index, 3)) (kk : W p0 l e R st m args below meth c H locs cells slots Q (F0 m (pc + 3) ls (.int (s 11 2 i) :: rest))) : W p0 l e R st m args below meth c H locs cells slots Q (F0 m pc ls (.ref (p 11 i) :: rest)) :=
  ag_get (k := 11) (f := 2) (ref := "java/util/ArrayList") hx hb hT hown hG hW hi rfl rfl rfl inJx4a65c (by decide) hlink (fun _ h => h) hdg kk
theorem u11_2 {i x : Int32} (hx : p0.tables.exec = Jvm.exec) (hb : c.code = cc) (hT : ∀ w ∈ ag_tbl, w.before args st = true) (hown : st.vm.findClass own = some m.cls) (hG : ag_G z st st.heap) (hW : ag_W z n p s H) (hS : va_S (ag_A z) st.heap H locs) (hi : vp_in i (n 11)) (hlink : Cond.fieldLink own index "java/util/ArrayList" "size" "I" ∈ ag_tbl) (hdg : decode cc pc = .ok (.putfield index, 3)) (kk : ∀ (H1 : Heap) (locs1 : List Loc), ag_W z n p (ag_up s 11 2 i x) H1 → va_S (ag_A z) st.heap H1 locs1 → W p0 l e R st m args below meth c H1 locs1 cells slots Q (F0 m (pc + 3) ls rest)) : W p0 l e R st m args below meth c H locs cells slots Q (F0 m pc ls (.int x :: .ref (p 11 i) :: rest)) :=
  ag_put (k := 11) (f := 2) (t := (0, 0)) (ref := "java/util/ArrayList") hx hb hT hown hG hW hS hi rfl rfl (fun h => nomatch h) rfl inJx4a65c (by decide) tyJx4a65c tyJx4a65c_ok nmJx4a65c hlink (fun _ h => h) (Or.inl rfl) rfl rfl rfl hdg kk
theorem g12_1 {i : Int32} (hx : p0.tables.exec = Jvm.exec) (hb : c.code = cc) (hT : ∀ w ∈ ag_tbl, w.before args st = true) (hown : st.vm.findClass own = some m.cls) (hG : ag_G z st st.heap) (hW : ag_W z n p s H) (hi : vp_in i (n 12)) (hlink : Cond.fieldLink own index "java/util/ArrayList" "elementData" "[Ljava/lang/Object;" ∈ ag_tbl) (hdg : decode cc pc = .ok (.getfield index, 3)) (kk : W p0 l e R st m args below meth c H locs cells slots Q (F0 m (pc + 3) ls (va_rf (ag_ro z p 22 (s 12 1 i)) :: rest))) : W p0 l e R st m args below meth c H locs cells slots Q (F0 m pc ls (.ref (p 12 i) :: rest)) :=
  ag_get (k := 12) (f := 1) (ref := "java/util/ArrayList") hx hb hT hown hG hW hi rfl rfl rfl inJx4a65c (by decide) hlink (fun _ h => h) hdg kk
theorem g12_2 {i : Int32} (hx : p0.tables.exec = Jvm.exec) (hb : c.code = cc) (hT : ∀ w ∈ ag_tbl, w.before args st = true) (hown : st.vm.findClass own = some m.cls) (hG : ag_G z st st.heap) (hW : ag_W z n p s H) (hi : vp_in i (n 12)) (hlink : Cond.fieldLink own index "java/util/ArrayList" "size" "I" ∈ ag_tbl) (hdg : decode cc pc = .ok (.getfield index, 3)) (kk : W p0 l e R st m args below meth c H locs cells slots Q (F0 m (pc + 3) ls (.int (s 12 2 i) :: rest))) : W p0 l e R st m args below meth c H locs cells slots Q (F0 m pc ls (.ref (p 12 i) :: rest)) :=
  ag_get (k := 12) (f := 2) (ref := "java/util/ArrayList") hx hb hT hown hG hW hi rfl rfl rfl inJx4a65c (by decide) hlink (fun _ h => h) hdg kk
theorem u12_2 {i x : Int32} (hx : p0.tables.exec = Jvm.exec) (hb : c.code = cc) (hT : ∀ w ∈ ag_tbl, w.before args st = true) (hown : st.vm.findClass own = some m.cls) (hG : ag_G z st st.heap) (hW : ag_W z n p s H) (hS : va_S (ag_A z) st.heap H locs) (hi : vp_in i (n 12)) (hlink : Cond.fieldLink own index "java/util/ArrayList" "size" "I" ∈ ag_tbl) (hdg : decode cc pc = .ok (.putfield index, 3)) (kk : ∀ (H1 : Heap) (locs1 : List Loc), ag_W z n p (ag_up s 12 2 i x) H1 → va_S (ag_A z) st.heap H1 locs1 → W p0 l e R st m args below meth c H1 locs1 cells slots Q (F0 m (pc + 3) ls rest)) : W p0 l e R st m args below meth c H locs cells slots Q (F0 m pc ls (.int x :: .ref (p 12 i) :: rest)) :=
  ag_put (k := 12) (f := 2) (t := (0, 0)) (ref := "java/util/ArrayList") hx hb hT hown hG hW hS hi rfl rfl (fun h => nomatch h) rfl inJx4a65c (by decide) tyJx4a65c tyJx4a65c_ok nmJx4a65c hlink (fun _ h => h) (Or.inl rfl) rfl rfl rfl hdg kk
theorem g13_1 {i : Int32} (hx : p0.tables.exec = Jvm.exec) (hb : c.code = cc) (hT : ∀ w ∈ ag_tbl, w.before args st = true) (hown : st.vm.findClass own = some m.cls) (hG : ag_G z st st.heap) (hW : ag_W z n p s H) (hi : vp_in i (n 13)) (hlink : Cond.fieldLink own index "java/util/ArrayList" "elementData" "[Ljava/lang/Object;" ∈ ag_tbl) (hdg : decode cc pc = .ok (.getfield index, 3)) (kk : W p0 l e R st m args below meth c H locs cells slots Q (F0 m (pc + 3) ls (va_rf (ag_ro z p 23 (s 13 1 i)) :: rest))) : W p0 l e R st m args below meth c H locs cells slots Q (F0 m pc ls (.ref (p 13 i) :: rest)) :=
  ag_get (k := 13) (f := 1) (ref := "java/util/ArrayList") hx hb hT hown hG hW hi rfl rfl rfl inJx4a65c (by decide) hlink (fun _ h => h) hdg kk
theorem g13_2 {i : Int32} (hx : p0.tables.exec = Jvm.exec) (hb : c.code = cc) (hT : ∀ w ∈ ag_tbl, w.before args st = true) (hown : st.vm.findClass own = some m.cls) (hG : ag_G z st st.heap) (hW : ag_W z n p s H) (hi : vp_in i (n 13)) (hlink : Cond.fieldLink own index "java/util/ArrayList" "size" "I" ∈ ag_tbl) (hdg : decode cc pc = .ok (.getfield index, 3)) (kk : W p0 l e R st m args below meth c H locs cells slots Q (F0 m (pc + 3) ls (.int (s 13 2 i) :: rest))) : W p0 l e R st m args below meth c H locs cells slots Q (F0 m pc ls (.ref (p 13 i) :: rest)) :=
  ag_get (k := 13) (f := 2) (ref := "java/util/ArrayList") hx hb hT hown hG hW hi rfl rfl rfl inJx4a65c (by decide) hlink (fun _ h => h) hdg kk
theorem u13_2 {i x : Int32} (hx : p0.tables.exec = Jvm.exec) (hb : c.code = cc) (hT : ∀ w ∈ ag_tbl, w.before args st = true) (hown : st.vm.findClass own = some m.cls) (hG : ag_G z st st.heap) (hW : ag_W z n p s H) (hS : va_S (ag_A z) st.heap H locs) (hi : vp_in i (n 13)) (hlink : Cond.fieldLink own index "java/util/ArrayList" "size" "I" ∈ ag_tbl) (hdg : decode cc pc = .ok (.putfield index, 3)) (kk : ∀ (H1 : Heap) (locs1 : List Loc), ag_W z n p (ag_up s 13 2 i x) H1 → va_S (ag_A z) st.heap H1 locs1 → W p0 l e R st m args below meth c H1 locs1 cells slots Q (F0 m (pc + 3) ls rest)) : W p0 l e R st m args below meth c H locs cells slots Q (F0 m pc ls (.int x :: .ref (p 13 i) :: rest)) :=
  ag_put (k := 13) (f := 2) (t := (0, 0)) (ref := "java/util/ArrayList") hx hb hT hown hG hW hS hi rfl rfl (fun h => nomatch h) rfl inJx4a65c (by decide) tyJx4a65c tyJx4a65c_ok nmJx4a65c hlink (fun _ h => h) (Or.inl rfl) rfl rfl rfl hdg kk
theorem g14_1 {i : Int32} (hx : p0.tables.exec = Jvm.exec) (hb : c.code = cc) (hT : ∀ w ∈ ag_tbl, w.before args st = true) (hown : st.vm.findClass own = some m.cls) (hG : ag_G z st st.heap) (hW : ag_W z n p s H) (hi : vp_in i (n 14)) (hlink : Cond.fieldLink own index "java/util/ArrayList" "elementData" "[Ljava/lang/Object;" ∈ ag_tbl) (hdg : decode cc pc = .ok (.getfield index, 3)) (kk : W p0 l e R st m args below meth c H locs cells slots Q (F0 m (pc + 3) ls (va_rf (ag_ro z p 24 (s 14 1 i)) :: rest))) : W p0 l e R st m args below meth c H locs cells slots Q (F0 m pc ls (.ref (p 14 i) :: rest)) :=
  ag_get (k := 14) (f := 1) (ref := "java/util/ArrayList") hx hb hT hown hG hW hi rfl rfl rfl inJx4a65c (by decide) hlink (fun _ h => h) hdg kk
theorem g14_2 {i : Int32} (hx : p0.tables.exec = Jvm.exec) (hb : c.code = cc) (hT : ∀ w ∈ ag_tbl, w.before args st = true) (hown : st.vm.findClass own = some m.cls) (hG : ag_G z st st.heap) (hW : ag_W z n p s H) (hi : vp_in i (n 14)) (hlink : Cond.fieldLink own index "java/util/ArrayList" "size" "I" ∈ ag_tbl) (hdg : decode cc pc = .ok (.getfield index, 3)) (kk : W p0 l e R st m args below meth c H locs cells slots Q (F0 m (pc + 3) ls (.int (s 14 2 i) :: rest))) : W p0 l e R st m args below meth c H locs cells slots Q (F0 m pc ls (.ref (p 14 i) :: rest)) :=
  ag_get (k := 14) (f := 2) (ref := "java/util/ArrayList") hx hb hT hown hG hW hi rfl rfl rfl inJx4a65c (by decide) hlink (fun _ h => h) hdg kk
theorem u14_2 {i x : Int32} (hx : p0.tables.exec = Jvm.exec) (hb : c.code = cc) (hT : ∀ w ∈ ag_tbl, w.before args st = true) (hown : st.vm.findClass own = some m.cls) (hG : ag_G z st st.heap) (hW : ag_W z n p s H) (hS : va_S (ag_A z) st.heap H locs) (hi : vp_in i (n 14)) (hlink : Cond.fieldLink own index "java/util/ArrayList" "size" "I" ∈ ag_tbl) (hdg : decode cc pc = .ok (.putfield index, 3)) (kk : ∀ (H1 : Heap) (locs1 : List Loc), ag_W z n p (ag_up s 14 2 i x) H1 → va_S (ag_A z) st.heap H1 locs1 → W p0 l e R st m args below meth c H1 locs1 cells slots Q (F0 m (pc + 3) ls rest)) : W p0 l e R st m args below meth c H locs cells slots Q (F0 m pc ls (.int x :: .ref (p 14 i) :: rest)) :=
  ag_put (k := 14) (f := 2) (t := (0, 0)) (ref := "java/util/ArrayList") hx hb hT hown hG hW hS hi rfl rfl (fun h => nomatch h) rfl inJx4a65c (by decide) tyJx4a65c tyJx4a65c_ok nmJx4a65c hlink (fun _ h => h) (Or.inl rfl) rfl rfl rfl hdg kk
end AGC
end
section
theorem ag_xwu {w : Cond} {z : ag_Z} {U : State} {H : Heap} {args : Array Value} (hG : ag_G z U H) (hT : ∀ w ∈ ag_tbl, w.before args U = true) (h : w ∈ ag_tbl ∨ w ∈ ag_xw) : w.before args U = true := by
  rcases h with h | h
  · exact hT w h
  · have h2 := hG.2.1 w h
    rcases ag_xw_sort h with ⟨C, T, rfl⟩ | ⟨x, rfl⟩
    · exact va_Nw.use rfl h2
    · exact va_Nw.use rfl h2
theorem ag_fit : ∀ n ∈ ["java/lang/RuntimeException", "java/lang/Exception"], Bundle.fit n = true := by decide +kernel
theorem ag_hat1 : ∀ w ∈ vx_atS RX5 110 "java/lang/IndexOutOfBoundsException" ["java/lang/RuntimeException", "java/lang/Exception"], w ∈ ag_tbl ∨ w ∈ ag_xw := by decide +kernel
theorem ag_hgd1 : ∀ w ∈ Cond.classLink RX5 106 "java/lang/IndexOutOfBoundsException" :: Cond.initialized "java/lang/IndexOutOfBoundsException" :: vx_atS RX5 110 "java/lang/IndexOutOfBoundsException" ["java/lang/RuntimeException", "java/lang/Exception"], vx_ot w = true := by decide +kernel
theorem ag_hat2 : ∀ w ∈ vx_atS RX5 240 "java/lang/IllegalArgumentException" ["java/lang/RuntimeException", "java/lang/Exception"], w ∈ ag_tbl ∨ w ∈ ag_xw := by decide +kernel
theorem ag_hgd2 : ∀ w ∈ Cond.classLink RX5 236 "java/lang/IllegalArgumentException" :: Cond.initialized "java/lang/IllegalArgumentException" :: vx_atS RX5 240 "java/lang/IllegalArgumentException" ["java/lang/RuntimeException", "java/lang/Exception"], vx_ot w = true := by decide +kernel
theorem ag_hat3 : ∀ w ∈ vx_atS RX5 67 "java/lang/IllegalStateException" ["java/lang/RuntimeException", "java/lang/Exception"], w ∈ ag_tbl ∨ w ∈ ag_xw := by decide +kernel
theorem ag_hgd3 : ∀ w ∈ Cond.classLink RX5 63 "java/lang/IllegalStateException" :: Cond.initialized "java/lang/IllegalStateException" :: vx_atS RX5 67 "java/lang/IllegalStateException" ["java/lang/RuntimeException", "java/lang/Exception"], vx_ot w = true := by decide +kernel
section AGT
variable {p0 : Program} {l : Launch} {e : Env} {R : Room} {st : State} {m : MethodId} {args : Array Value} {below : List Frame} {meth : Method} {c : Code} {H : Heap} {locs : List Loc} {cells slots mc ms : Nat}
variable {cc : ByteArray} {pc : Nat} {ls : Array Slot} {rest : List Value} {z : ag_Z} {n : ag_N} {p : ag_P} {s : ag_S} {o : (Int32 ⊕ Int32) × ag_S} {Qc : Array Value → State → Outcome → State → Prop}
theorem ag_thr1 {text : String} {is : Nat} (hx : p0.tables.exec = Jvm.exec) (hb : c.code = cc) (hl : l.stackTraces = false) (hml : c.maxLocals = ls.size) (hT : ∀ w ∈ ag_tbl, w.before args st = true) (hown : st.vm.findClass RX5 = some m.cls) (hG : ag_G z st st.heap) (hS : va_S (ag_A z) st.heap H locs) (hW : ag_W z n p s H) (hout : ∀ x ∈ c.exceptionTable.toList, False) (hlocks : meth.locks = false) (hf : some ((.inr 1 : Int32 ⊕ Int32), s) = some o) (hstr : Cond.stringRef RX5 is text ∈ lw_tbl) (d0 : decode cc pc = .ok (.new 106, 3)) (d3 : decode cc (pc + 3) = .ok (.dup, 1)) (d4 : decode cc (pc + 4) = .ok (.ldc is, 2)) (d6 : decode cc (pc + 6) = .ok (.invokespecial 110, 3)) (d9 : decode cc (pc + 9) = .ok (.athrow, 1)) (hRf : 5 < R.frames) (hRl : (rest.map fun v => v.category).sum + 82 ≤ R.locals) (hRc : cells + 1 ≤ R.cells) (hRs : slots + 6 ≤ R.slots) (hc : cells + 1 ≤ mc) (hs : slots + 6 ≤ ms) : W p0 l e R st m args below meth c H locs cells slots (vx_MQ below Qc (ag_XX z n p o) args st mc ms (ag_A z)) (F0 m pc ls rest) := by
  have h1 := Option.some.inj hf
  subst h1
  obtain ⟨q, hq⟩ := hG.2.2.1 _ _ _ hstr
  refine vx_throwS hx hb hl (own := RX5) (cls := "java/lang/IndexOutOfBoundsException") (text := text) (names := ["java/lang/RuntimeException", "java/lang/Exception"]) hown (by decide +kernel) ag_fit (hT _ q354) (hT _ q20) hq (fun w hw => ag_xwu hG hT (ag_hat1 w hw)) ag_hgd1 hG.2.2.2.1 hG.2.2.2.2.1 hS hml.symm d0 d3 d4 d6 d9 (fun x hx => (hout x hx).elim) hRf hRl hRc hRs hlocks (fun t hA hz hk => ?_) hS.2.2 hc hs
  exact ⟨(), trivial, ⟨Or.inl ⟨rfl, rfl⟩, hW.kept hk⟩, Nat.le_trans hS.1 hz, fun q h1 h2 => (hk q (Nat.lt_of_lt_of_le h1 hS.1)).trans (hS.2.1 q h1 h2)⟩
theorem ag_thr2 {text : String} {is : Nat} (hx : p0.tables.exec = Jvm.exec) (hb : c.code = cc) (hl : l.stackTraces = false) (hml : c.maxLocals = ls.size) (hT : ∀ w ∈ ag_tbl, w.before args st = true) (hown : st.vm.findClass RX5 = some m.cls) (hG : ag_G z st st.heap) (hS : va_S (ag_A z) st.heap H locs) (hW : ag_W z n p s H) (hout : ∀ x ∈ c.exceptionTable.toList, False) (hlocks : meth.locks = false) (hf : some ((.inr 2 : Int32 ⊕ Int32), s) = some o) (hstr : Cond.stringRef RX5 is text ∈ lw_tbl) (d0 : decode cc pc = .ok (.new 236, 3)) (d3 : decode cc (pc + 3) = .ok (.dup, 1)) (d4 : decode cc (pc + 4) = .ok (.ldc is, 2)) (d6 : decode cc (pc + 6) = .ok (.invokespecial 240, 3)) (d9 : decode cc (pc + 9) = .ok (.athrow, 1)) (hRf : 5 < R.frames) (hRl : (rest.map fun v => v.category).sum + 82 ≤ R.locals) (hRc : cells + 1 ≤ R.cells) (hRs : slots + 6 ≤ R.slots) (hc : cells + 1 ≤ mc) (hs : slots + 6 ≤ ms) : W p0 l e R st m args below meth c H locs cells slots (vx_MQ below Qc (ag_XX z n p o) args st mc ms (ag_A z)) (F0 m pc ls rest) := by
  have h1 := Option.some.inj hf
  subst h1
  obtain ⟨q, hq⟩ := hG.2.2.1 _ _ _ hstr
  refine vx_throwS hx hb hl (own := RX5) (cls := "java/lang/IllegalArgumentException") (text := text) (names := ["java/lang/RuntimeException", "java/lang/Exception"]) hown (by decide +kernel) ag_fit (hT _ q197) (hT _ q15) hq (fun w hw => ag_xwu hG hT (ag_hat2 w hw)) ag_hgd2 hG.2.2.2.1 hG.2.2.2.2.1 hS hml.symm d0 d3 d4 d6 d9 (fun x hx => (hout x hx).elim) hRf hRl hRc hRs hlocks (fun t hA hz hk => ?_) hS.2.2 hc hs
  exact ⟨(), trivial, ⟨Or.inr (Or.inl ⟨rfl, rfl⟩), hW.kept hk⟩, Nat.le_trans hS.1 hz, fun q h1 h2 => (hk q (Nat.lt_of_lt_of_le h1 hS.1)).trans (hS.2.1 q h1 h2)⟩
theorem ag_thr3 {text : String} {is : Nat} (hx : p0.tables.exec = Jvm.exec) (hb : c.code = cc) (hl : l.stackTraces = false) (hml : c.maxLocals = ls.size) (hT : ∀ w ∈ ag_tbl, w.before args st = true) (hown : st.vm.findClass RX5 = some m.cls) (hG : ag_G z st st.heap) (hS : va_S (ag_A z) st.heap H locs) (hW : ag_W z n p s H) (hout : ∀ x ∈ c.exceptionTable.toList, False) (hlocks : meth.locks = false) (hf : some ((.inr 3 : Int32 ⊕ Int32), s) = some o) (hstr : Cond.stringRef RX5 is text ∈ lw_tbl) (d0 : decode cc pc = .ok (.new 63, 3)) (d3 : decode cc (pc + 3) = .ok (.dup, 1)) (d4 : decode cc (pc + 4) = .ok (.ldc is, 2)) (d6 : decode cc (pc + 6) = .ok (.invokespecial 67, 3)) (d9 : decode cc (pc + 9) = .ok (.athrow, 1)) (hRf : 5 < R.frames) (hRl : (rest.map fun v => v.category).sum + 82 ≤ R.locals) (hRc : cells + 1 ≤ R.cells) (hRs : slots + 6 ≤ R.slots) (hc : cells + 1 ≤ mc) (hs : slots + 6 ≤ ms) : W p0 l e R st m args below meth c H locs cells slots (vx_MQ below Qc (ag_XX z n p o) args st mc ms (ag_A z)) (F0 m pc ls rest) := by
  have h1 := Option.some.inj hf
  subst h1
  obtain ⟨q, hq⟩ := hG.2.2.1 _ _ _ hstr
  refine vx_throwS hx hb hl (own := RX5) (cls := "java/lang/IllegalStateException") (text := text) (names := ["java/lang/RuntimeException", "java/lang/Exception"]) hown (by decide +kernel) ag_fit (hT _ q284) (hT _ q18) hq (fun w hw => ag_xwu hG hT (ag_hat3 w hw)) ag_hgd3 hG.2.2.2.1 hG.2.2.2.2.1 hS hml.symm d0 d3 d4 d6 d9 (fun x hx => (hout x hx).elim) hRf hRl hRc hRs hlocks (fun t hA hz hk => ?_) hS.2.2 hc hs
  exact ⟨(), trivial, ⟨Or.inr (Or.inr ⟨rfl, rfl⟩), hW.kept hk⟩, Nat.le_trans hS.1 hz, fun q h1 h2 => (hk q (Nat.lt_of_lt_of_le h1 hS.1)).trans (hS.2.1 q h1 h2)⟩
theorem ag_thrw1 {text : String} {is : Nat} (hx : p0.tables.exec = Jvm.exec) (hb : c.code = cc) (hl : l.stackTraces = false) (hml : c.maxLocals = ls.size) (hT : ∀ w ∈ ag_tbl, w.before args st = true) (hown : st.vm.findClass RX5 = some m.cls) (hG : ag_G z st st.heap) (hS : va_S (ag_A z) st.heap H locs) (hW : ag_W z n p s H) (hout : ∀ x ∈ c.exceptionTable.toList, False) (hlocks : meth.locks = false) (hf : some ((.inr 1 : Int32 ⊕ Int32), s) = some o) (hstr : Cond.stringRef RX5 is text ∈ lw_tbl) (d0 : decode cc pc = .ok (.new 106, 3)) (d3 : decode cc (pc + 3) = .ok (.dup, 1)) (d4 : decode cc (pc + 4) = .ok (.ldc_w is, 3)) (d6 : decode cc (pc + 7) = .ok (.invokespecial 110, 3)) (d9 : decode cc (pc + 10) = .ok (.athrow, 1)) (hRf : 5 < R.frames) (hRl : (rest.map fun v => v.category).sum + 82 ≤ R.locals) (hRc : cells + 1 ≤ R.cells) (hRs : slots + 6 ≤ R.slots) (hc : cells + 1 ≤ mc) (hs : slots + 6 ≤ ms) : W p0 l e R st m args below meth c H locs cells slots (vx_MQ below Qc (ag_XX z n p o) args st mc ms (ag_A z)) (F0 m pc ls rest) := by
  have h1 := Option.some.inj hf
  subst h1
  obtain ⟨q, hq⟩ := hG.2.2.1 _ _ _ hstr
  refine vx_throwSW hx hb hl (own := RX5) (cls := "java/lang/IndexOutOfBoundsException") (text := text) (names := ["java/lang/RuntimeException", "java/lang/Exception"]) hown (by decide +kernel) ag_fit (hT _ q354) (hT _ q20) hq (fun w hw => ag_xwu hG hT (ag_hat1 w hw)) ag_hgd1 hG.2.2.2.1 hG.2.2.2.2.1 hS hml.symm d0 d3 d4 d6 d9 (fun x hx => (hout x hx).elim) hRf hRl hRc hRs hlocks (fun t hA hz hk => ?_) hS.2.2 hc hs
  exact ⟨(), trivial, ⟨Or.inl ⟨rfl, rfl⟩, hW.kept hk⟩, Nat.le_trans hS.1 hz, fun q h1 h2 => (hk q (Nat.lt_of_lt_of_le h1 hS.1)).trans (hS.2.1 q h1 h2)⟩
theorem ag_thrw2 {text : String} {is : Nat} (hx : p0.tables.exec = Jvm.exec) (hb : c.code = cc) (hl : l.stackTraces = false) (hml : c.maxLocals = ls.size) (hT : ∀ w ∈ ag_tbl, w.before args st = true) (hown : st.vm.findClass RX5 = some m.cls) (hG : ag_G z st st.heap) (hS : va_S (ag_A z) st.heap H locs) (hW : ag_W z n p s H) (hout : ∀ x ∈ c.exceptionTable.toList, False) (hlocks : meth.locks = false) (hf : some ((.inr 2 : Int32 ⊕ Int32), s) = some o) (hstr : Cond.stringRef RX5 is text ∈ lw_tbl) (d0 : decode cc pc = .ok (.new 236, 3)) (d3 : decode cc (pc + 3) = .ok (.dup, 1)) (d4 : decode cc (pc + 4) = .ok (.ldc_w is, 3)) (d6 : decode cc (pc + 7) = .ok (.invokespecial 240, 3)) (d9 : decode cc (pc + 10) = .ok (.athrow, 1)) (hRf : 5 < R.frames) (hRl : (rest.map fun v => v.category).sum + 82 ≤ R.locals) (hRc : cells + 1 ≤ R.cells) (hRs : slots + 6 ≤ R.slots) (hc : cells + 1 ≤ mc) (hs : slots + 6 ≤ ms) : W p0 l e R st m args below meth c H locs cells slots (vx_MQ below Qc (ag_XX z n p o) args st mc ms (ag_A z)) (F0 m pc ls rest) := by
  have h1 := Option.some.inj hf
  subst h1
  obtain ⟨q, hq⟩ := hG.2.2.1 _ _ _ hstr
  refine vx_throwSW hx hb hl (own := RX5) (cls := "java/lang/IllegalArgumentException") (text := text) (names := ["java/lang/RuntimeException", "java/lang/Exception"]) hown (by decide +kernel) ag_fit (hT _ q197) (hT _ q15) hq (fun w hw => ag_xwu hG hT (ag_hat2 w hw)) ag_hgd2 hG.2.2.2.1 hG.2.2.2.2.1 hS hml.symm d0 d3 d4 d6 d9 (fun x hx => (hout x hx).elim) hRf hRl hRc hRs hlocks (fun t hA hz hk => ?_) hS.2.2 hc hs
  exact ⟨(), trivial, ⟨Or.inr (Or.inl ⟨rfl, rfl⟩), hW.kept hk⟩, Nat.le_trans hS.1 hz, fun q h1 h2 => (hk q (Nat.lt_of_lt_of_le h1 hS.1)).trans (hS.2.1 q h1 h2)⟩
theorem ag_thrw3 {text : String} {is : Nat} (hx : p0.tables.exec = Jvm.exec) (hb : c.code = cc) (hl : l.stackTraces = false) (hml : c.maxLocals = ls.size) (hT : ∀ w ∈ ag_tbl, w.before args st = true) (hown : st.vm.findClass RX5 = some m.cls) (hG : ag_G z st st.heap) (hS : va_S (ag_A z) st.heap H locs) (hW : ag_W z n p s H) (hout : ∀ x ∈ c.exceptionTable.toList, False) (hlocks : meth.locks = false) (hf : some ((.inr 3 : Int32 ⊕ Int32), s) = some o) (hstr : Cond.stringRef RX5 is text ∈ lw_tbl) (d0 : decode cc pc = .ok (.new 63, 3)) (d3 : decode cc (pc + 3) = .ok (.dup, 1)) (d4 : decode cc (pc + 4) = .ok (.ldc_w is, 3)) (d6 : decode cc (pc + 7) = .ok (.invokespecial 67, 3)) (d9 : decode cc (pc + 10) = .ok (.athrow, 1)) (hRf : 5 < R.frames) (hRl : (rest.map fun v => v.category).sum + 82 ≤ R.locals) (hRc : cells + 1 ≤ R.cells) (hRs : slots + 6 ≤ R.slots) (hc : cells + 1 ≤ mc) (hs : slots + 6 ≤ ms) : W p0 l e R st m args below meth c H locs cells slots (vx_MQ below Qc (ag_XX z n p o) args st mc ms (ag_A z)) (F0 m pc ls rest) := by
  have h1 := Option.some.inj hf
  subst h1
  obtain ⟨q, hq⟩ := hG.2.2.1 _ _ _ hstr
  refine vx_throwSW hx hb hl (own := RX5) (cls := "java/lang/IllegalStateException") (text := text) (names := ["java/lang/RuntimeException", "java/lang/Exception"]) hown (by decide +kernel) ag_fit (hT _ q284) (hT _ q18) hq (fun w hw => ag_xwu hG hT (ag_hat3 w hw)) ag_hgd3 hG.2.2.2.1 hG.2.2.2.2.1 hS hml.symm d0 d3 d4 d6 d9 (fun x hx => (hout x hx).elim) hRf hRl hRc hRs hlocks (fun t hA hz hk => ?_) hS.2.2 hc hs
  exact ⟨(), trivial, ⟨Or.inr (Or.inr ⟨rfl, rfl⟩), hW.kept hk⟩, Nat.le_trans hS.1 hz, fun q h1 h2 => (hk q (Nat.lt_of_lt_of_le h1 hS.1)).trans (hS.2.1 q h1 h2)⟩
end AGT
end
section
theorem ag_cat (r : Option Nat) : (va_rf r).category = 1 := by cases r <;> rfl
theorem ag_entry (m : MethodId) (vs : List Value) {k : Nat} (h : (lg_sl vs).length ≤ k) : ∃ ls, entryFrame m vs.toArray k = F0 m 0 ls [] ∧ lv_has ls k (lv_args 0 vs) := ⟨_, lg_entry_eq m vs k, lv_entry vs h⟩
theorem ag_refq {z : ag_Z} {n : ag_N} {p : ag_P} {t : Nat} {v : Int32} (h : ag_ok n t v) (hn : ¬ v = -1) : va_rf (ag_ro z p t v) = .ref (p t v) := by rw [(ag_ref (z := z) (p := p) h hn).1]; rfl
theorem ag_refv {z : ag_Z} {n : ag_N} {p : ag_P} {s : ag_S} {H : Heap} {t : Nat} {v : Int32} (h : vp_in v (n t)) (_ : ag_W z n p s H) : va_rf (ag_ro z p t v) = .ref (p t v) := ag_refq (Or.inr h) (fun q => h (Or.inl (by rw [q]; decide)))
theorem ag_0in {N : Nat} (h : 0 < N) : vp_in 0 N := by
  intro q
  rcases q with q | q
  · exact absurd q (by decide)
  · have : (0 : Int32).toNatClampNeg = 0 := by decide
    omega
theorem ag_in0 {i : Int32} {N : Nat} (h : vp_in i N) : 0 < N := by
  rcases Nat.eq_zero_or_pos N with q | q
  · exact absurd (Or.inr (by omega)) h
  · exact q
theorem ag_fix {z : ag_Z} {n : ag_N} {p : ag_P} {s : ag_S} {H : Heap} (hW : ag_W z n p s H) {k f t ci : Nat} {i : Int32} {ts : List (Nat × Nat)} (h : vp_in i (n k)) (hod : ag_od k = some (ci, ts)) (hf : ts[f]? = some (2, t)) : vp_in 0 (n t) := ag_0in (hW.2.2.1.2.2 k ci ts f t hod hf (ag_in0 h))
theorem ag_nb {x : Int32} (h : x = 0 ∨ x = 1) : narrow .boolean (.int x) = .int x ∧ fits .boolean (.int x) = true := by
  rcases h with rfl | rfl <;> exact ⟨rfl, rfl⟩
theorem ag_tab (hi : Nat) {x : Int32} (h : ∀ j : Nat, j ≤ hi → ¬ x = nI j) : x.toInt < ((0 : Nat) : Int) ∨ ((hi : Nat) : Int) < x.toInt := by
  rcases Int.lt_or_le x.toInt 0 with q | q
  · exact Or.inl q
  · refine Or.inr (Int.not_le.mp fun q2 => ?_)
    have h0 : ¬ x < 0 := fun q3 => by
      have := Int32.lt_iff_toInt_lt.mp q3
      have e0 : (0 : Int32).toInt = 0 := by decide
      omega
    obtain ⟨j, hj, e⟩ := nI_of h0
    have e2 := nI_toInt hj
    rw [← e] at e2
    exact h j (by omega) e
section AG2
variable {p0 : Program} {l : Launch} {e : Env} {R : Room} {st : State} {m : MethodId} {args : Array Value} {below : List Frame} {meth : Method} {c : Code} {H : Heap} {locs : List Loc} {cells slots : Nat} {Q : State → Prop}
variable {cc : ByteArray} {pc : Nat} {ls : Array Slot} {rest : List Value} {z : ag_Z} {n : ag_N} {p : ag_P} {s : ag_S}
theorem ag_cast {own C : String} {k ci N index : Nat} {i : Int32} {ts : List (Nat × Nat)} {T : u_T} (hx : p0.tables.exec = Jvm.exec) (hb : c.code = cc) (hown : st.vm.findClass own = some m.cls) (hG : ag_G z st st.heap) (hW : ag_W z n p s H) (hi : vp_in i (n k)) (hod : ag_od k = some (ci, ts)) (hcl : vwCl[ci]? = some (C, T, N)) (hlink : (Cond.classLink own index C).before args st = true) (hdg : decode cc pc = .ok (.checkcast index, 3))
    (kk : W p0 l e R st m args below meth c H locs cells slots Q (F0 m (pc + 3) ls (.ref (p k i) :: rest))) : W p0 l e R st m args below meth c H locs cells slots Q (F0 m pc ls (.ref (p k i) :: rest)) :=
  va_castS hx hb hown hlink (hG.1.1 ci _ hcl).2 (ag_recv hG hW hi hod hcl) hdg kk
theorem ag_eqrr {t : Nat} {v w : Int32} (hW : ag_W z n p s H) (hv : vp_in v (n t)) (hw : vp_in w (n t)) : p t v = p t w ↔ v = w := ⟨fun h => (hW.2.1 t v t w hv hw h).2, fun h => by rw [h]⟩
theorem ag_acmr_eq {t : Nat} {v w : Int32} {off : Int} {tgt : Nat} (hx : p0.tables.exec = Jvm.exec) (hb : c.code = cc) (hW : ag_W z n p s H) (hv : vp_in v (n t)) (hw : vp_in w (n t)) (hdg : decode cc pc = .ok (.if_acmp .eq off, 3)) (ht : (pc : Int) + off = (tgt : Int))
    (kt : v = w → W p0 l e R st m args below meth c H locs cells slots Q (F0 m tgt ls rest)) (kf : ¬ v = w → W p0 l e R st m args below meth c H locs cells slots Q (F0 m (pc + 3) ls rest)) : W p0 l e R st m args below meth c H locs cells slots Q (F0 m pc ls (.ref (p t w) :: .ref (p t v) :: rest)) :=
  lv_acmp_eq (rx := some (p t v)) (ry := some (p t w)) hx hb hdg ht (fun h => kt ((ag_eqrr hW hv hw).mp (Option.some.inj h))) (fun h => kf (fun q => h (congrArg some ((ag_eqrr hW hv hw).mpr q))))
theorem ag_acmr_ne {t : Nat} {v w : Int32} {off : Int} {tgt : Nat} (hx : p0.tables.exec = Jvm.exec) (hb : c.code = cc) (hW : ag_W z n p s H) (hv : vp_in v (n t)) (hw : vp_in w (n t)) (hdg : decode cc pc = .ok (.if_acmp .ne off, 3)) (ht : (pc : Int) + off = (tgt : Int))
    (kt : ¬ v = w → W p0 l e R st m args below meth c H locs cells slots Q (F0 m tgt ls rest)) (kf : v = w → W p0 l e R st m args below meth c H locs cells slots Q (F0 m (pc + 3) ls rest)) : W p0 l e R st m args below meth c H locs cells slots Q (F0 m pc ls (.ref (p t w) :: .ref (p t v) :: rest)) :=
  lv_acmp_ne (rx := some (p t v)) (ry := some (p t w)) hx hb hdg ht (fun h => kt (fun q => h (congrArg some ((ag_eqrr hW hv hw).mpr q)))) (fun h => kf ((ag_eqrr hW hv hw).mp (Option.some.inj h)))
end AG2
end
section
def f_X2_standsWith (fu : Nat) (x0 : Int32) (x1 : Int32) (s : ag_S) : Option Int32 := some ((((s 2 2 x0) + x1) + (s 2 6 x0)) - (s 2 5 x0))
abbrev rm_X2_standsWith : Room := { frames := 0, cells := 0, slots := 0, locals := 0 }
theorem dd_yX2_standsWith : yX2_standsWith.cls = RX2 ∧ yX2_standsWith.cls ≠ "java/lang/invoke/MethodHandle" ∧ yX2_standsWith.cls ≠ "java/lang/invoke/VarHandle" ∧ (parseMethodDescriptor yX2_standsWith.desc).map (fun d => d.parameters.length) = some 1 := by decide +kernel
set_option maxHeartbeats 4000000 in
set_option maxRecDepth 100000 in
theorem c_X2_standsWith {z : ag_Z} {l : Launch} {n : ag_N} {p : ag_P} {s : ag_S} {fu : Nat} {x0 : Int32} {x1 : Int32} {out : Int32} (v0 : vp_in x0 (n 2)) (hf : f_X2_standsWith fu x0 x1 s = some out) : Met l yX2_standsWith (ag_ws yX2_standsWith cX2_standsWith 2 ((some FieldType.int))) rm_X2_standsWith (va_Pc [.ref (p 2 x0), .int x1] (ag_Pre z n p s)) (ag_Ri z n p out s) 0 0 (ag_A z) := by
  refine Met.ofW (cc := cX2_standsWith) (maxL := 2) (ret := (some FieldType.int)) (by decide) rfl ?_
  intro p0 e st m args below meth c s9 B hml hv
  obtain ⟨ha, h0, hG, hW⟩ := hv
  have hx := B.exec
  have hb := B.bytes
  have hr := B.returns
  have hts := atoms_spec (ws := ag_ws yX2_standsWith cX2_standsWith 2 ((some FieldType.int))) B.pre
  have hT : ∀ w ∈ ag_tbl, w.before args st = true := fun w h => hts w (List.mem_cons_of_mem _ h)
  have hown : st.vm.findClass RX2 = some m.cls := findClass_of_methodNamed B.named
  have hlocks := B.notSynchronized
  have hS : va_S (ag_A z) st.heap st.heap [] := va_S.rf
  obtain ⟨ls, hls, hl⟩ : ∃ ls, entryFrame m args 2 = F0 m 0 ls [] ∧ lv_has ls 2 [(0, .ref (p 2 x0)), (1, .int x1)] := by rw [ha]; exact ag_entry m [.ref (p 2 x0), .int x1] (Nat.le_of_ble_eq_true rfl)
  rw [hls]
  unfold f_X2_standsWith at hf
  refine lv_aload_n hx hb dX2_standsWith_0 rfl (lv_at hl 0 rfl) ?_
  refine g2_2 hx hb hT hown hG hW v0 q310 dX2_standsWith_1 ?_
  refine lv_iload_n hx hb dX2_standsWith_4 rfl (lv_at hl 1 rfl) ?_
  refine lv_iadd hx hb dX2_standsWith_5 ?_
  refine lv_aload_n hx hb dX2_standsWith_6 rfl (lv_at hl 0 rfl) ?_
  refine g2_6 hx hb hT hown hG hW v0 q318 dX2_standsWith_7 ?_
  refine lv_iadd hx hb dX2_standsWith_10 ?_
  refine lv_aload_n hx hb dX2_standsWith_11 rfl (lv_at hl 0 rfl) ?_
  refine g2_5 hx hb hT hown hG hW v0 q316 dX2_standsWith_12 ?_
  refine lv_isub hx hb dX2_standsWith_15 ?_
  exact ag_iret hx hb hr rfl hlocks hS (Option.some.inj hf) hW dX2_standsWith_16
def f_X2_stands (fu : Nat) (x0 : Int32) (s : ag_S) : Option Int32 := ag_bd (f_X2_standsWith fu x0 (s 2 3 x0) s) fun r5 => some r5
abbrev rm_X2_stands : Room := { frames := 1, cells := 0, slots := 0, locals := 21 }
theorem dd_yX2_stands : yX2_stands.cls = RX2 ∧ yX2_stands.cls ≠ "java/lang/invoke/MethodHandle" ∧ yX2_stands.cls ≠ "java/lang/invoke/VarHandle" ∧ (parseMethodDescriptor yX2_stands.desc).map (fun d => d.parameters.length) = some 0 := by decide +kernel
set_option maxHeartbeats 4000000 in
set_option maxRecDepth 100000 in
theorem c_X2_stands {z : ag_Z} {l : Launch} {n : ag_N} {p : ag_P} {s : ag_S} {fu : Nat} {x0 : Int32} {out : Int32} (v0 : vp_in x0 (n 2)) (hf : f_X2_stands fu x0 s = some out) : Met l yX2_stands (ag_ws yX2_stands cX2_stands 1 ((some FieldType.int))) rm_X2_stands (va_Pc [.ref (p 2 x0)] (ag_Pre z n p s)) (ag_Ri z n p out s) 0 0 (ag_A z) := by
  refine Met.ofW (cc := cX2_stands) (maxL := 1) (ret := (some FieldType.int)) (by decide) rfl ?_
  intro p0 e st m args below meth c s9 B hml hv
  obtain ⟨ha, h0, hG, hW⟩ := hv
  have hx := B.exec
  have hb := B.bytes
  have hr := B.returns
  have hts := atoms_spec (ws := ag_ws yX2_stands cX2_stands 1 ((some FieldType.int))) B.pre
  have hT : ∀ w ∈ ag_tbl, w.before args st = true := fun w h => hts w (List.mem_cons_of_mem _ h)
  have hown : st.vm.findClass RX2 = some m.cls := findClass_of_methodNamed B.named
  have hlocks := B.notSynchronized
  have hS : va_S (ag_A z) st.heap st.heap [] := va_S.rf
  obtain ⟨ls, hls, hl⟩ : ∃ ls, entryFrame m args 1 = F0 m 0 ls [] ∧ lv_has ls 1 [(0, .ref (p 2 x0))] := by rw [ha]; exact ag_entry m [.ref (p 2 x0)] (Nat.le_of_ble_eq_true rfl)
  rw [hls]
  unfold f_X2_stands at hf
  refine lv_aload_n hx hb dX2_stands_0 rfl (lv_at hl 0 rfl) ?_
  refine lv_aload_n hx hb dX2_stands_1 rfl (lv_at hl 0 rfl) ?_
  refine g2_3 hx hb hT hown hG hW v0 q311 dX2_stands_2 ?_
  obtain ⟨r5, hg5, hf⟩ := ag_bs hf
  refine ag_cVi hx hb hml hT hown hG h0 hS hW (c_X2_standsWith v0 hg5) ⟨rfl, rfl⟩ q513 q514 q515 q19 q516 dd_yX2_standsWith ⟨Nat.le_of_ble_eq_true rfl, Nat.le_of_ble_eq_true rfl⟩ v0 rfl rfl hl.1 rfl (Nat.le_of_ble_eq_true rfl) ⟨Nat.le_of_ble_eq_true rfl, Nat.le_of_ble_eq_true rfl⟩ dX2_stands_5 (fun H locs hW hS => ?_)
  exact ag_iret hx hb hr rfl hlocks hS (Option.some.inj hf) hW dX2_stands_8
def f_X4_unpaid (fu : Nat) (x0 : Int32) (s : ag_S) : Option Int32 := some ((s 0 1 x0) - (s 0 2 x0))
abbrev rm_X4_unpaid : Room := { frames := 0, cells := 0, slots := 0, locals := 0 }
theorem dd_yX4_unpaid : yX4_unpaid.cls = RX4 ∧ yX4_unpaid.cls ≠ "java/lang/invoke/MethodHandle" ∧ yX4_unpaid.cls ≠ "java/lang/invoke/VarHandle" ∧ (parseMethodDescriptor yX4_unpaid.desc).map (fun d => d.parameters.length) = some 0 := by decide +kernel
set_option maxHeartbeats 4000000 in
set_option maxRecDepth 100000 in
theorem c_X4_unpaid {z : ag_Z} {l : Launch} {n : ag_N} {p : ag_P} {s : ag_S} {fu : Nat} {x0 : Int32} {out : Int32} (v0 : vp_in x0 (n 0)) (hf : f_X4_unpaid fu x0 s = some out) : Met l yX4_unpaid (ag_ws yX4_unpaid cX4_unpaid 1 ((some FieldType.int))) rm_X4_unpaid (va_Pc [.ref (p 0 x0)] (ag_Pre z n p s)) (ag_Ri z n p out s) 0 0 (ag_A z) := by
  refine Met.ofW (cc := cX4_unpaid) (maxL := 1) (ret := (some FieldType.int)) (by decide) rfl ?_
  intro p0 e st m args below meth c s9 B hml hv
  obtain ⟨ha, h0, hG, hW⟩ := hv
  have hx := B.exec
  have hb := B.bytes
  have hr := B.returns
  have hts := atoms_spec (ws := ag_ws yX4_unpaid cX4_unpaid 1 ((some FieldType.int))) B.pre
  have hT : ∀ w ∈ ag_tbl, w.before args st = true := fun w h => hts w (List.mem_cons_of_mem _ h)
  have hown : st.vm.findClass RX4 = some m.cls := findClass_of_methodNamed B.named
  have hlocks := B.notSynchronized
  have hS : va_S (ag_A z) st.heap st.heap [] := va_S.rf
  obtain ⟨ls, hls, hl⟩ : ∃ ls, entryFrame m args 1 = F0 m 0 ls [] ∧ lv_has ls 1 [(0, .ref (p 0 x0))] := by rw [ha]; exact ag_entry m [.ref (p 0 x0)] (Nat.le_of_ble_eq_true rfl)
  rw [hls]
  unfold f_X4_unpaid at hf
  refine lv_aload_n hx hb dX4_unpaid_0 rfl (lv_at hl 0 rfl) ?_
  refine g0_1 hx hb hT hown hG hW v0 q66 dX4_unpaid_1 ?_
  refine lv_aload_n hx hb dX4_unpaid_4 rfl (lv_at hl 0 rfl) ?_
  refine g0_2 hx hb hT hown hG hW v0 q68 dX4_unpaid_5 ?_
  refine lv_isub hx hb dX4_unpaid_8 ?_
  exact ag_iret hx hb hr rfl hlocks hS (Option.some.inj hf) hW dX4_unpaid_9
def f_J6_bitCount_0f7a4 (fu : Nat) (x0 : Int32) (s : ag_S) : Option Int32 := some ((((((((x0 - (((x0.toUInt32 >>> ((1 : Int32).toUInt32 &&& Int32.toUInt32 31)).toInt32) &&& 1431655765)) &&& 858993459) + ((((x0 - (((x0.toUInt32 >>> ((1 : Int32).toUInt32 &&& Int32.toUInt32 31)).toInt32) &&& 1431655765)).toUInt32 >>> ((2 : Int32).toUInt32 &&& Int32.toUInt32 31)).toInt32) &&& 858993459)) + (((((x0 - (((x0.toUInt32 >>> ((1 : Int32).toUInt32 &&& Int32.toUInt32 31)).toInt32) &&& 1431655765)) &&& 858993459) + ((((x0 - (((x0.toUInt32 >>> ((1 : Int32).toUInt32 &&& Int32.toUInt32 31)).toInt32) &&& 1431655765)).toUInt32 >>> ((2 : Int32).toUInt32 &&& Int32.toUInt32 31)).toInt32) &&& 858993459)).toUInt32 >>> ((4 : Int32).toUInt32 &&& Int32.toUInt32 31)).toInt32)) &&& 252645135) + (((((((x0 - (((x0.toUInt32 >>> ((1 : Int32).toUInt32 &&& Int32.toUInt32 31)).toInt32) &&& 1431655765)) &&& 858993459) + ((((x0 - (((x0.toUInt32 >>> ((1 : Int32).toUInt32 &&& Int32.toUInt32 31)).toInt32) &&& 1431655765)).toUInt32 >>> ((2 : Int32).toUInt32 &&& Int32.toUInt32 31)).toInt32) &&& 858993459)) + (((((x0 - (((x0.toUInt32 >>> ((1 : Int32).toUInt32 &&& Int32.toUInt32 31)).toInt32) &&& 1431655765)) &&& 858993459) + ((((x0 - (((x0.toUInt32 >>> ((1 : Int32).toUInt32 &&& Int32.toUInt32 31)).toInt32) &&& 1431655765)).toUInt32 >>> ((2 : Int32).toUInt32 &&& Int32.toUInt32 31)).toInt32) &&& 858993459)).toUInt32 >>> ((4 : Int32).toUInt32 &&& Int32.toUInt32 31)).toInt32)) &&& 252645135).toUInt32 >>> ((8 : Int32).toUInt32 &&& Int32.toUInt32 31)).toInt32)) + ((((((((x0 - (((x0.toUInt32 >>> ((1 : Int32).toUInt32 &&& Int32.toUInt32 31)).toInt32) &&& 1431655765)) &&& 858993459) + ((((x0 - (((x0.toUInt32 >>> ((1 : Int32).toUInt32 &&& Int32.toUInt32 31)).toInt32) &&& 1431655765)).toUInt32 >>> ((2 : Int32).toUInt32 &&& Int32.toUInt32 31)).toInt32) &&& 858993459)) + (((((x0 - (((x0.toUInt32 >>> ((1 : Int32).toUInt32 &&& Int32.toUInt32 31)).toInt32) &&& 1431655765)) &&& 858993459) + ((((x0 - (((x0.toUInt32 >>> ((1 : Int32).toUInt32 &&& Int32.toUInt32 31)).toInt32) &&& 1431655765)).toUInt32 >>> ((2 : Int32).toUInt32 &&& Int32.toUInt32 31)).toInt32) &&& 858993459)).toUInt32 >>> ((4 : Int32).toUInt32 &&& Int32.toUInt32 31)).toInt32)) &&& 252645135) + (((((((x0 - (((x0.toUInt32 >>> ((1 : Int32).toUInt32 &&& Int32.toUInt32 31)).toInt32) &&& 1431655765)) &&& 858993459) + ((((x0 - (((x0.toUInt32 >>> ((1 : Int32).toUInt32 &&& Int32.toUInt32 31)).toInt32) &&& 1431655765)).toUInt32 >>> ((2 : Int32).toUInt32 &&& Int32.toUInt32 31)).toInt32) &&& 858993459)) + (((((x0 - (((x0.toUInt32 >>> ((1 : Int32).toUInt32 &&& Int32.toUInt32 31)).toInt32) &&& 1431655765)) &&& 858993459) + ((((x0 - (((x0.toUInt32 >>> ((1 : Int32).toUInt32 &&& Int32.toUInt32 31)).toInt32) &&& 1431655765)).toUInt32 >>> ((2 : Int32).toUInt32 &&& Int32.toUInt32 31)).toInt32) &&& 858993459)).toUInt32 >>> ((4 : Int32).toUInt32 &&& Int32.toUInt32 31)).toInt32)) &&& 252645135).toUInt32 >>> ((8 : Int32).toUInt32 &&& Int32.toUInt32 31)).toInt32)).toUInt32 >>> ((16 : Int32).toUInt32 &&& Int32.toUInt32 31)).toInt32)) &&& 63)
abbrev rm_J6_bitCount_0f7a4 : Room := { frames := 0, cells := 0, slots := 0, locals := 0 }
theorem dd_yJ6_bitCount_0f7a4 : yJ6_bitCount_0f7a4.cls ≠ "java/lang/invoke/MethodHandle" ∧ yJ6_bitCount_0f7a4.cls ≠ "java/lang/invoke/VarHandle" ∧ (parseMethodDescriptor yJ6_bitCount_0f7a4.desc).map (fun d => d.parameters.length) = some 1 := by decide +kernel
set_option maxHeartbeats 4000000 in
set_option maxRecDepth 100000 in
theorem c_J6_bitCount_0f7a4 {z : ag_Z} {l : Launch} {n : ag_N} {p : ag_P} {s : ag_S} {fu : Nat} {x0 : Int32} {out : Int32}  (hf : f_J6_bitCount_0f7a4 fu x0 s = some out) : Met l yJ6_bitCount_0f7a4 (ag_ws yJ6_bitCount_0f7a4 cJ6_bitCount_0f7a4 1 ((some FieldType.int))) rm_J6_bitCount_0f7a4 (va_Pc [.int x0] (ag_Pre z n p s)) (ag_Ri z n p out s) 0 0 (ag_A z) := by
  refine Met.ofW (cc := cJ6_bitCount_0f7a4) (maxL := 1) (ret := (some FieldType.int)) (by decide) rfl ?_
  intro p0 e st m args below meth c s9 B hml hv
  obtain ⟨ha, h0, hG, hW⟩ := hv
  have hx := B.exec
  have hb := B.bytes
  have hr := B.returns
  have hts := atoms_spec (ws := ag_ws yJ6_bitCount_0f7a4 cJ6_bitCount_0f7a4 1 ((some FieldType.int))) B.pre
  have hT : ∀ w ∈ ag_tbl, w.before args st = true := fun w h => hts w (List.mem_cons_of_mem _ h)
  have hown : st.vm.findClass RJ6 = some m.cls := findClass_of_methodNamed B.named
  have hlocks := B.notSynchronized
  have hS : va_S (ag_A z) st.heap st.heap [] := va_S.rf
  obtain ⟨ls, hls, hl⟩ : ∃ ls, entryFrame m args 1 = F0 m 0 ls [] ∧ lv_has ls 1 [(0, .int x0)] := by rw [ha]; exact ag_entry m [.int x0] (Nat.le_of_ble_eq_true rfl)
  rw [hls]
  unfold f_J6_bitCount_0f7a4 at hf
  refine lv_iload_n hx hb dJ6_bitCount_0f7a4_0 rfl (lv_at hl 0 rfl) ?_
  refine lv_iload_n hx hb dJ6_bitCount_0f7a4_1 rfl (lv_at hl 0 rfl) ?_
  refine lv_iconst (v := 1) hx hb dJ6_bitCount_0f7a4_2 (by decide) ?_
  refine lv_iushr (v := (x0.toUInt32 >>> ((1 : Int32).toUInt32 &&& Int32.toUInt32 31)).toInt32) hx hb dJ6_bitCount_0f7a4_3 rfl ?_
  refine lv_ldcw (v := 1431655765) hx hb hown (hT _ q466) dJ6_bitCount_0f7a4_4 ?_
  refine lv_iand hx hb dJ6_bitCount_0f7a4_7 ?_
  refine lv_isub hx hb dJ6_bitCount_0f7a4_8 ?_
  refine lv_istore_n (lv' := [(0, .int (x0 - (((x0.toUInt32 >>> ((1 : Int32).toUInt32 &&& Int32.toUInt32 31)).toInt32) &&& 1431655765)))]) hx hb dJ6_bitCount_0f7a4_9 rfl hl (by decide) rfl (fun ls hl => ?_)
  refine lv_iload_n hx hb dJ6_bitCount_0f7a4_10 rfl (lv_at hl 0 rfl) ?_
  refine lv_ldcw (v := 858993459) hx hb hown (hT _ q467) dJ6_bitCount_0f7a4_11 ?_
  refine lv_iand hx hb dJ6_bitCount_0f7a4_14 ?_
  refine lv_iload_n hx hb dJ6_bitCount_0f7a4_15 rfl (lv_at hl 0 rfl) ?_
  refine lv_iconst (v := 2) hx hb dJ6_bitCount_0f7a4_16 (by decide) ?_
  refine lv_iushr (v := ((x0 - (((x0.toUInt32 >>> ((1 : Int32).toUInt32 &&& Int32.toUInt32 31)).toInt32) &&& 1431655765)).toUInt32 >>> ((2 : Int32).toUInt32 &&& Int32.toUInt32 31)).toInt32) hx hb dJ6_bitCount_0f7a4_17 rfl ?_
  refine lv_ldcw (v := 858993459) hx hb hown (hT _ q467) dJ6_bitCount_0f7a4_18 ?_
  refine lv_iand hx hb dJ6_bitCount_0f7a4_21 ?_
  refine lv_iadd hx hb dJ6_bitCount_0f7a4_22 ?_
  refine lv_istore_n (lv' := [(0, .int (((x0 - (((x0.toUInt32 >>> ((1 : Int32).toUInt32 &&& Int32.toUInt32 31)).toInt32) &&& 1431655765)) &&& 858993459) + ((((x0 - (((x0.toUInt32 >>> ((1 : Int32).toUInt32 &&& Int32.toUInt32 31)).toInt32) &&& 1431655765)).toUInt32 >>> ((2 : Int32).toUInt32 &&& Int32.toUInt32 31)).toInt32) &&& 858993459)))]) hx hb dJ6_bitCount_0f7a4_23 rfl hl (by decide) rfl (fun ls hl => ?_)
  refine lv_iload_n hx hb dJ6_bitCount_0f7a4_24 rfl (lv_at hl 0 rfl) ?_
  refine lv_iload_n hx hb dJ6_bitCount_0f7a4_25 rfl (lv_at hl 0 rfl) ?_
  refine lv_iconst (v := 4) hx hb dJ6_bitCount_0f7a4_26 (by decide) ?_
  refine lv_iushr (v := ((((x0 - (((x0.toUInt32 >>> ((1 : Int32).toUInt32 &&& Int32.toUInt32 31)).toInt32) &&& 1431655765)) &&& 858993459) + ((((x0 - (((x0.toUInt32 >>> ((1 : Int32).toUInt32 &&& Int32.toUInt32 31)).toInt32) &&& 1431655765)).toUInt32 >>> ((2 : Int32).toUInt32 &&& Int32.toUInt32 31)).toInt32) &&& 858993459)).toUInt32 >>> ((4 : Int32).toUInt32 &&& Int32.toUInt32 31)).toInt32) hx hb dJ6_bitCount_0f7a4_27 rfl ?_
  refine lv_iadd hx hb dJ6_bitCount_0f7a4_28 ?_
  refine lv_ldcw (v := 252645135) hx hb hown (hT _ q468) dJ6_bitCount_0f7a4_29 ?_
  refine lv_iand hx hb dJ6_bitCount_0f7a4_32 ?_
  refine lv_istore_n (lv' := [(0, .int (((((x0 - (((x0.toUInt32 >>> ((1 : Int32).toUInt32 &&& Int32.toUInt32 31)).toInt32) &&& 1431655765)) &&& 858993459) + ((((x0 - (((x0.toUInt32 >>> ((1 : Int32).toUInt32 &&& Int32.toUInt32 31)).toInt32) &&& 1431655765)).toUInt32 >>> ((2 : Int32).toUInt32 &&& Int32.toUInt32 31)).toInt32) &&& 858993459)) + (((((x0 - (((x0.toUInt32 >>> ((1 : Int32).toUInt32 &&& Int32.toUInt32 31)).toInt32) &&& 1431655765)) &&& 858993459) + ((((x0 - (((x0.toUInt32 >>> ((1 : Int32).toUInt32 &&& Int32.toUInt32 31)).toInt32) &&& 1431655765)).toUInt32 >>> ((2 : Int32).toUInt32 &&& Int32.toUInt32 31)).toInt32) &&& 858993459)).toUInt32 >>> ((4 : Int32).toUInt32 &&& Int32.toUInt32 31)).toInt32)) &&& 252645135))]) hx hb dJ6_bitCount_0f7a4_33 rfl hl (by decide) rfl (fun ls hl => ?_)
  refine lv_iload_n hx hb dJ6_bitCount_0f7a4_34 rfl (lv_at hl 0 rfl) ?_
  refine lv_iload_n hx hb dJ6_bitCount_0f7a4_35 rfl (lv_at hl 0 rfl) ?_
  refine lv_bipush (v := 8) hx hb dJ6_bitCount_0f7a4_36 (by decide) ?_
  refine lv_iushr (v := ((((((x0 - (((x0.toUInt32 >>> ((1 : Int32).toUInt32 &&& Int32.toUInt32 31)).toInt32) &&& 1431655765)) &&& 858993459) + ((((x0 - (((x0.toUInt32 >>> ((1 : Int32).toUInt32 &&& Int32.toUInt32 31)).toInt32) &&& 1431655765)).toUInt32 >>> ((2 : Int32).toUInt32 &&& Int32.toUInt32 31)).toInt32) &&& 858993459)) + (((((x0 - (((x0.toUInt32 >>> ((1 : Int32).toUInt32 &&& Int32.toUInt32 31)).toInt32) &&& 1431655765)) &&& 858993459) + ((((x0 - (((x0.toUInt32 >>> ((1 : Int32).toUInt32 &&& Int32.toUInt32 31)).toInt32) &&& 1431655765)).toUInt32 >>> ((2 : Int32).toUInt32 &&& Int32.toUInt32 31)).toInt32) &&& 858993459)).toUInt32 >>> ((4 : Int32).toUInt32 &&& Int32.toUInt32 31)).toInt32)) &&& 252645135).toUInt32 >>> ((8 : Int32).toUInt32 &&& Int32.toUInt32 31)).toInt32) hx hb dJ6_bitCount_0f7a4_38 rfl ?_
  refine lv_iadd hx hb dJ6_bitCount_0f7a4_39 ?_
  refine lv_istore_n (lv' := [(0, .int ((((((x0 - (((x0.toUInt32 >>> ((1 : Int32).toUInt32 &&& Int32.toUInt32 31)).toInt32) &&& 1431655765)) &&& 858993459) + ((((x0 - (((x0.toUInt32 >>> ((1 : Int32).toUInt32 &&& Int32.toUInt32 31)).toInt32) &&& 1431655765)).toUInt32 >>> ((2 : Int32).toUInt32 &&& Int32.toUInt32 31)).toInt32) &&& 858993459)) + (((((x0 - (((x0.toUInt32 >>> ((1 : Int32).toUInt32 &&& Int32.toUInt32 31)).toInt32) &&& 1431655765)) &&& 858993459) + ((((x0 - (((x0.toUInt32 >>> ((1 : Int32).toUInt32 &&& Int32.toUInt32 31)).toInt32) &&& 1431655765)).toUInt32 >>> ((2 : Int32).toUInt32 &&& Int32.toUInt32 31)).toInt32) &&& 858993459)).toUInt32 >>> ((4 : Int32).toUInt32 &&& Int32.toUInt32 31)).toInt32)) &&& 252645135) + (((((((x0 - (((x0.toUInt32 >>> ((1 : Int32).toUInt32 &&& Int32.toUInt32 31)).toInt32) &&& 1431655765)) &&& 858993459) + ((((x0 - (((x0.toUInt32 >>> ((1 : Int32).toUInt32 &&& Int32.toUInt32 31)).toInt32) &&& 1431655765)).toUInt32 >>> ((2 : Int32).toUInt32 &&& Int32.toUInt32 31)).toInt32) &&& 858993459)) + (((((x0 - (((x0.toUInt32 >>> ((1 : Int32).toUInt32 &&& Int32.toUInt32 31)).toInt32) &&& 1431655765)) &&& 858993459) + ((((x0 - (((x0.toUInt32 >>> ((1 : Int32).toUInt32 &&& Int32.toUInt32 31)).toInt32) &&& 1431655765)).toUInt32 >>> ((2 : Int32).toUInt32 &&& Int32.toUInt32 31)).toInt32) &&& 858993459)).toUInt32 >>> ((4 : Int32).toUInt32 &&& Int32.toUInt32 31)).toInt32)) &&& 252645135).toUInt32 >>> ((8 : Int32).toUInt32 &&& Int32.toUInt32 31)).toInt32)))]) hx hb dJ6_bitCount_0f7a4_40 rfl hl (by decide) rfl (fun ls hl => ?_)
  refine lv_iload_n hx hb dJ6_bitCount_0f7a4_41 rfl (lv_at hl 0 rfl) ?_
  refine lv_iload_n hx hb dJ6_bitCount_0f7a4_42 rfl (lv_at hl 0 rfl) ?_
  refine lv_bipush (v := 16) hx hb dJ6_bitCount_0f7a4_43 (by decide) ?_
  refine lv_iushr (v := (((((((x0 - (((x0.toUInt32 >>> ((1 : Int32).toUInt32 &&& Int32.toUInt32 31)).toInt32) &&& 1431655765)) &&& 858993459) + ((((x0 - (((x0.toUInt32 >>> ((1 : Int32).toUInt32 &&& Int32.toUInt32 31)).toInt32) &&& 1431655765)).toUInt32 >>> ((2 : Int32).toUInt32 &&& Int32.toUInt32 31)).toInt32) &&& 858993459)) + (((((x0 - (((x0.toUInt32 >>> ((1 : Int32).toUInt32 &&& Int32.toUInt32 31)).toInt32) &&& 1431655765)) &&& 858993459) + ((((x0 - (((x0.toUInt32 >>> ((1 : Int32).toUInt32 &&& Int32.toUInt32 31)).toInt32) &&& 1431655765)).toUInt32 >>> ((2 : Int32).toUInt32 &&& Int32.toUInt32 31)).toInt32) &&& 858993459)).toUInt32 >>> ((4 : Int32).toUInt32 &&& Int32.toUInt32 31)).toInt32)) &&& 252645135) + (((((((x0 - (((x0.toUInt32 >>> ((1 : Int32).toUInt32 &&& Int32.toUInt32 31)).toInt32) &&& 1431655765)) &&& 858993459) + ((((x0 - (((x0.toUInt32 >>> ((1 : Int32).toUInt32 &&& Int32.toUInt32 31)).toInt32) &&& 1431655765)).toUInt32 >>> ((2 : Int32).toUInt32 &&& Int32.toUInt32 31)).toInt32) &&& 858993459)) + (((((x0 - (((x0.toUInt32 >>> ((1 : Int32).toUInt32 &&& Int32.toUInt32 31)).toInt32) &&& 1431655765)) &&& 858993459) + ((((x0 - (((x0.toUInt32 >>> ((1 : Int32).toUInt32 &&& Int32.toUInt32 31)).toInt32) &&& 1431655765)).toUInt32 >>> ((2 : Int32).toUInt32 &&& Int32.toUInt32 31)).toInt32) &&& 858993459)).toUInt32 >>> ((4 : Int32).toUInt32 &&& Int32.toUInt32 31)).toInt32)) &&& 252645135).toUInt32 >>> ((8 : Int32).toUInt32 &&& Int32.toUInt32 31)).toInt32)).toUInt32 >>> ((16 : Int32).toUInt32 &&& Int32.toUInt32 31)).toInt32) hx hb dJ6_bitCount_0f7a4_45 rfl ?_
  refine lv_iadd hx hb dJ6_bitCount_0f7a4_46 ?_
  refine lv_istore_n (lv' := [(0, .int (((((((x0 - (((x0.toUInt32 >>> ((1 : Int32).toUInt32 &&& Int32.toUInt32 31)).toInt32) &&& 1431655765)) &&& 858993459) + ((((x0 - (((x0.toUInt32 >>> ((1 : Int32).toUInt32 &&& Int32.toUInt32 31)).toInt32) &&& 1431655765)).toUInt32 >>> ((2 : Int32).toUInt32 &&& Int32.toUInt32 31)).toInt32) &&& 858993459)) + (((((x0 - (((x0.toUInt32 >>> ((1 : Int32).toUInt32 &&& Int32.toUInt32 31)).toInt32) &&& 1431655765)) &&& 858993459) + ((((x0 - (((x0.toUInt32 >>> ((1 : Int32).toUInt32 &&& Int32.toUInt32 31)).toInt32) &&& 1431655765)).toUInt32 >>> ((2 : Int32).toUInt32 &&& Int32.toUInt32 31)).toInt32) &&& 858993459)).toUInt32 >>> ((4 : Int32).toUInt32 &&& Int32.toUInt32 31)).toInt32)) &&& 252645135) + (((((((x0 - (((x0.toUInt32 >>> ((1 : Int32).toUInt32 &&& Int32.toUInt32 31)).toInt32) &&& 1431655765)) &&& 858993459) + ((((x0 - (((x0.toUInt32 >>> ((1 : Int32).toUInt32 &&& Int32.toUInt32 31)).toInt32) &&& 1431655765)).toUInt32 >>> ((2 : Int32).toUInt32 &&& Int32.toUInt32 31)).toInt32) &&& 858993459)) + (((((x0 - (((x0.toUInt32 >>> ((1 : Int32).toUInt32 &&& Int32.toUInt32 31)).toInt32) &&& 1431655765)) &&& 858993459) + ((((x0 - (((x0.toUInt32 >>> ((1 : Int32).toUInt32 &&& Int32.toUInt32 31)).toInt32) &&& 1431655765)).toUInt32 >>> ((2 : Int32).toUInt32 &&& Int32.toUInt32 31)).toInt32) &&& 858993459)).toUInt32 >>> ((4 : Int32).toUInt32 &&& Int32.toUInt32 31)).toInt32)) &&& 252645135).toUInt32 >>> ((8 : Int32).toUInt32 &&& Int32.toUInt32 31)).toInt32)) + ((((((((x0 - (((x0.toUInt32 >>> ((1 : Int32).toUInt32 &&& Int32.toUInt32 31)).toInt32) &&& 1431655765)) &&& 858993459) + ((((x0 - (((x0.toUInt32 >>> ((1 : Int32).toUInt32 &&& Int32.toUInt32 31)).toInt32) &&& 1431655765)).toUInt32 >>> ((2 : Int32).toUInt32 &&& Int32.toUInt32 31)).toInt32) &&& 858993459)) + (((((x0 - (((x0.toUInt32 >>> ((1 : Int32).toUInt32 &&& Int32.toUInt32 31)).toInt32) &&& 1431655765)) &&& 858993459) + ((((x0 - (((x0.toUInt32 >>> ((1 : Int32).toUInt32 &&& Int32.toUInt32 31)).toInt32) &&& 1431655765)).toUInt32 >>> ((2 : Int32).toUInt32 &&& Int32.toUInt32 31)).toInt32) &&& 858993459)).toUInt32 >>> ((4 : Int32).toUInt32 &&& Int32.toUInt32 31)).toInt32)) &&& 252645135) + (((((((x0 - (((x0.toUInt32 >>> ((1 : Int32).toUInt32 &&& Int32.toUInt32 31)).toInt32) &&& 1431655765)) &&& 858993459) + ((((x0 - (((x0.toUInt32 >>> ((1 : Int32).toUInt32 &&& Int32.toUInt32 31)).toInt32) &&& 1431655765)).toUInt32 >>> ((2 : Int32).toUInt32 &&& Int32.toUInt32 31)).toInt32) &&& 858993459)) + (((((x0 - (((x0.toUInt32 >>> ((1 : Int32).toUInt32 &&& Int32.toUInt32 31)).toInt32) &&& 1431655765)) &&& 858993459) + ((((x0 - (((x0.toUInt32 >>> ((1 : Int32).toUInt32 &&& Int32.toUInt32 31)).toInt32) &&& 1431655765)).toUInt32 >>> ((2 : Int32).toUInt32 &&& Int32.toUInt32 31)).toInt32) &&& 858993459)).toUInt32 >>> ((4 : Int32).toUInt32 &&& Int32.toUInt32 31)).toInt32)) &&& 252645135).toUInt32 >>> ((8 : Int32).toUInt32 &&& Int32.toUInt32 31)).toInt32)).toUInt32 >>> ((16 : Int32).toUInt32 &&& Int32.toUInt32 31)).toInt32)))]) hx hb dJ6_bitCount_0f7a4_47 rfl hl (by decide) rfl (fun ls hl => ?_)
  refine lv_iload_n hx hb dJ6_bitCount_0f7a4_48 rfl (lv_at hl 0 rfl) ?_
  refine lv_bipush (v := 63) hx hb dJ6_bitCount_0f7a4_49 (by decide) ?_
  refine lv_iand hx hb dJ6_bitCount_0f7a4_51 ?_
  exact ag_iret hx hb hr rfl hlocks hS (Option.some.inj hf) hW dJ6_bitCount_0f7a4_52
def f_X0_votesFor (fu : Nat) (x0 : Int32) (s : ag_S) : Option Int32 := ag_bd (f_J6_bitCount_0f7a4 fu (s 3 8 x0) s) fun r4 => some r4
abbrev rm_X0_votesFor : Room := { frames := 1, cells := 0, slots := 0, locals := 20 }
theorem dd_yX0_votesFor : yX0_votesFor.cls = RX0 ∧ yX0_votesFor.cls ≠ "java/lang/invoke/MethodHandle" ∧ yX0_votesFor.cls ≠ "java/lang/invoke/VarHandle" ∧ (parseMethodDescriptor yX0_votesFor.desc).map (fun d => d.parameters.length) = some 0 := by decide +kernel
set_option maxHeartbeats 4000000 in
set_option maxRecDepth 100000 in
theorem c_X0_votesFor {z : ag_Z} {l : Launch} {n : ag_N} {p : ag_P} {s : ag_S} {fu : Nat} {x0 : Int32} {out : Int32} (v0 : vp_in x0 (n 3)) (hf : f_X0_votesFor fu x0 s = some out) : Met l yX0_votesFor (ag_ws yX0_votesFor cX0_votesFor 1 ((some FieldType.int))) rm_X0_votesFor (va_Pc [.ref (p 3 x0)] (ag_Pre z n p s)) (ag_Ri z n p out s) 0 0 (ag_A z) := by
  refine Met.ofW (cc := cX0_votesFor) (maxL := 1) (ret := (some FieldType.int)) (by decide) rfl ?_
  intro p0 e st m args below meth c s9 B hml hv
  obtain ⟨ha, h0, hG, hW⟩ := hv
  have hx := B.exec
  have hb := B.bytes
  have hr := B.returns
  have hts := atoms_spec (ws := ag_ws yX0_votesFor cX0_votesFor 1 ((some FieldType.int))) B.pre
  have hT : ∀ w ∈ ag_tbl, w.before args st = true := fun w h => hts w (List.mem_cons_of_mem _ h)
  have hown : st.vm.findClass RX0 = some m.cls := findClass_of_methodNamed B.named
  have hlocks := B.notSynchronized
  have hS : va_S (ag_A z) st.heap st.heap [] := va_S.rf
  obtain ⟨ls, hls, hl⟩ : ∃ ls, entryFrame m args 1 = F0 m 0 ls [] ∧ lv_has ls 1 [(0, .ref (p 3 x0))] := by rw [ha]; exact ag_entry m [.ref (p 3 x0)] (Nat.le_of_ble_eq_true rfl)
  rw [hls]
  unfold f_X0_votesFor at hf
  refine lv_aload_n hx hb dX0_votesFor_0 rfl (lv_at hl 0 rfl) ?_
  refine g3_8 hx hb hT hown hG hW v0 q408 dX0_votesFor_1 ?_
  obtain ⟨r4, hg4, hf⟩ := ag_bs hf
  refine ag_cSi hx hb hml hT hown hG h0 hS hW (c_J6_bitCount_0f7a4 hg4) ⟨rfl, rfl⟩ q463 q464 q22 q465 dd_yJ6_bitCount_0f7a4 ⟨Nat.le_of_ble_eq_true rfl, Nat.le_of_ble_eq_true rfl⟩ hl.1 rfl (Nat.le_of_ble_eq_true rfl) ⟨Nat.le_of_ble_eq_true rfl, Nat.le_of_ble_eq_true rfl⟩ dX0_votesFor_4 (fun H locs hW hS => ?_)
  exact ag_iret hx hb hr rfl hlocks hS (Option.some.inj hf) hW dX0_votesFor_7
def f_X0_votesAgainst (fu : Nat) (x0 : Int32) (s : ag_S) : Option Int32 := ag_bd (f_J6_bitCount_0f7a4 fu (s 3 9 x0) s) fun r4 => some r4
abbrev rm_X0_votesAgainst : Room := { frames := 1, cells := 0, slots := 0, locals := 20 }
theorem dd_yX0_votesAgainst : yX0_votesAgainst.cls = RX0 ∧ yX0_votesAgainst.cls ≠ "java/lang/invoke/MethodHandle" ∧ yX0_votesAgainst.cls ≠ "java/lang/invoke/VarHandle" ∧ (parseMethodDescriptor yX0_votesAgainst.desc).map (fun d => d.parameters.length) = some 0 := by decide +kernel
set_option maxHeartbeats 4000000 in
set_option maxRecDepth 100000 in
theorem c_X0_votesAgainst {z : ag_Z} {l : Launch} {n : ag_N} {p : ag_P} {s : ag_S} {fu : Nat} {x0 : Int32} {out : Int32} (v0 : vp_in x0 (n 3)) (hf : f_X0_votesAgainst fu x0 s = some out) : Met l yX0_votesAgainst (ag_ws yX0_votesAgainst cX0_votesAgainst 1 ((some FieldType.int))) rm_X0_votesAgainst (va_Pc [.ref (p 3 x0)] (ag_Pre z n p s)) (ag_Ri z n p out s) 0 0 (ag_A z) := by
  refine Met.ofW (cc := cX0_votesAgainst) (maxL := 1) (ret := (some FieldType.int)) (by decide) rfl ?_
  intro p0 e st m args below meth c s9 B hml hv
  obtain ⟨ha, h0, hG, hW⟩ := hv
  have hx := B.exec
  have hb := B.bytes
  have hr := B.returns
  have hts := atoms_spec (ws := ag_ws yX0_votesAgainst cX0_votesAgainst 1 ((some FieldType.int))) B.pre
  have hT : ∀ w ∈ ag_tbl, w.before args st = true := fun w h => hts w (List.mem_cons_of_mem _ h)
  have hown : st.vm.findClass RX0 = some m.cls := findClass_of_methodNamed B.named
  have hlocks := B.notSynchronized
  have hS : va_S (ag_A z) st.heap st.heap [] := va_S.rf
  obtain ⟨ls, hls, hl⟩ : ∃ ls, entryFrame m args 1 = F0 m 0 ls [] ∧ lv_has ls 1 [(0, .ref (p 3 x0))] := by rw [ha]; exact ag_entry m [.ref (p 3 x0)] (Nat.le_of_ble_eq_true rfl)
  rw [hls]
  unfold f_X0_votesAgainst at hf
  refine lv_aload_n hx hb dX0_votesAgainst_0 rfl (lv_at hl 0 rfl) ?_
  refine g3_9 hx hb hT hown hG hW v0 q409 dX0_votesAgainst_1 ?_
  obtain ⟨r4, hg4, hf⟩ := ag_bs hf
  refine ag_cSi hx hb hml hT hown hG h0 hS hW (c_J6_bitCount_0f7a4 hg4) ⟨rfl, rfl⟩ q463 q464 q22 q465 dd_yJ6_bitCount_0f7a4 ⟨Nat.le_of_ble_eq_true rfl, Nat.le_of_ble_eq_true rfl⟩ hl.1 rfl (Nat.le_of_ble_eq_true rfl) ⟨Nat.le_of_ble_eq_true rfl, Nat.le_of_ble_eq_true rfl⟩ dX0_votesAgainst_4 (fun H locs hW hS => ?_)
  exact ag_iret hx hb hr rfl hlocks hS (Option.some.inj hf) hW dX0_votesAgainst_7
def f_X0_isWon (fu : Nat) (x0 : Int32) (s : ag_S) : Option Int32 := if s 3 6 x0 = 1 then (ag_bd (f_X0_votesFor fu x0 s) fun r9 => if r9 < 5 then (some 0) else (some 1)) else (ag_bd (f_X0_votesFor fu x0 s) fun r25 => ag_bd (f_X0_votesAgainst fu x0 s) fun r29 => if r25 ≤ r29 then (some 0) else (some 1))
abbrev rm_X0_isWon : Room := { frames := 2, cells := 0, slots := 0, locals := 40 }
theorem dd_yX0_isWon : yX0_isWon.cls = RX0 ∧ yX0_isWon.cls ≠ "java/lang/invoke/MethodHandle" ∧ yX0_isWon.cls ≠ "java/lang/invoke/VarHandle" ∧ (parseMethodDescriptor yX0_isWon.desc).map (fun d => d.parameters.length) = some 0 := by decide +kernel
set_option maxHeartbeats 4000000 in
set_option maxRecDepth 100000 in
theorem c_X0_isWon {z : ag_Z} {l : Launch} {n : ag_N} {p : ag_P} {s : ag_S} {fu : Nat} {x0 : Int32} {out : Int32} (v0 : vp_in x0 (n 3)) (hf : f_X0_isWon fu x0 s = some out) : Met l yX0_isWon (ag_ws yX0_isWon cX0_isWon 1 ((some FieldType.boolean))) rm_X0_isWon (va_Pc [.ref (p 3 x0)] (ag_Pre z n p s)) (ag_Ri z n p out s) 0 0 (ag_A z) := by
  refine Met.ofW (cc := cX0_isWon) (maxL := 1) (ret := (some FieldType.boolean)) (by decide) rfl ?_
  intro p0 e st m args below meth c s9 B hml hv
  obtain ⟨ha, h0, hG, hW⟩ := hv
  have hx := B.exec
  have hb := B.bytes
  have hr := B.returns
  have hts := atoms_spec (ws := ag_ws yX0_isWon cX0_isWon 1 ((some FieldType.boolean))) B.pre
  have hT : ∀ w ∈ ag_tbl, w.before args st = true := fun w h => hts w (List.mem_cons_of_mem _ h)
  have hown : st.vm.findClass RX0 = some m.cls := findClass_of_methodNamed B.named
  have hlocks := B.notSynchronized
  have hS : va_S (ag_A z) st.heap st.heap [] := va_S.rf
  obtain ⟨ls, hls, hl⟩ : ∃ ls, entryFrame m args 1 = F0 m 0 ls [] ∧ lv_has ls 1 [(0, .ref (p 3 x0))] := by rw [ha]; exact ag_entry m [.ref (p 3 x0)] (Nat.le_of_ble_eq_true rfl)
  rw [hls]
  unfold f_X0_isWon at hf
  refine lv_aload_n hx hb dX0_isWon_0 rfl (lv_at hl 0 rfl) ?_
  refine g3_6 hx hb hT hown hG hW v0 q404 dX0_isWon_1 ?_
  refine lv_iconst (v := 1) hx hb dX0_isWon_4 (by decide) ?_
  refine lv_icmp_ne (tgt := 24) hx hb dX0_isWon_5 (by decide) (fun c5 => ?_) (fun c5 => ?_)
  · have hf := ag_f c5 hf
    refine lv_aload_n hx hb dX0_isWon_24 rfl (lv_at hl 0 rfl) ?_
    obtain ⟨r25, hg25, hf⟩ := ag_bs hf
    refine ag_cVi hx hb hml hT hown hG h0 hS hW (c_X0_votesFor v0 hg25) ⟨rfl, rfl⟩ q485 q460 q461 q21 q462 dd_yX0_votesFor ⟨Nat.le_of_ble_eq_true rfl, Nat.le_of_ble_eq_true rfl⟩ v0 rfl rfl hl.1 rfl (Nat.le_of_ble_eq_true rfl) ⟨Nat.le_of_ble_eq_true rfl, Nat.le_of_ble_eq_true rfl⟩ dX0_isWon_25 (fun H locs hW hS => ?_)
    refine lv_aload_n hx hb dX0_isWon_28 rfl (lv_at hl 0 rfl) ?_
    obtain ⟨r29, hg29, hf⟩ := ag_bs hf
    refine ag_cVi hx hb hml hT hown hG h0 hS hW (c_X0_votesAgainst v0 hg29) ⟨rfl, rfl⟩ q486 q487 q488 q21 q489 dd_yX0_votesAgainst ⟨Nat.le_of_ble_eq_true rfl, Nat.le_of_ble_eq_true rfl⟩ v0 rfl rfl hl.1 rfl (Nat.le_of_ble_eq_true rfl) ⟨Nat.le_of_ble_eq_true rfl, Nat.le_of_ble_eq_true rfl⟩ dX0_isWon_29 (fun H locs hW hS => ?_)
    refine lv_icmp_le (tgt := 39) hx hb dX0_isWon_32 (by decide) (fun c32 => ?_) (fun c32 => ?_)
    · have hf := ag_t c32 hf
      refine lv_iconst (v := 0) hx hb dX0_isWon_39 (by decide) ?_
      exact ag_iret hx hb hr rfl hlocks hS (Option.some.inj hf) hW dX0_isWon_40
    · have hf := ag_f c32 hf
      refine lv_iconst (v := 1) hx hb dX0_isWon_35 (by decide) ?_
      refine lv_goto (tgt := 40) hx hb dX0_isWon_36 (by decide) ?_
      exact ag_iret hx hb hr rfl hlocks hS (Option.some.inj hf) hW dX0_isWon_40
  · have hf := ag_t c5 hf
    refine lv_aload_n hx hb dX0_isWon_8 rfl (lv_at hl 0 rfl) ?_
    obtain ⟨r9, hg9, hf⟩ := ag_bs hf
    refine ag_cVi hx hb hml hT hown hG h0 hS hW (c_X0_votesFor v0 hg9) ⟨rfl, rfl⟩ q485 q460 q461 q21 q462 dd_yX0_votesFor ⟨Nat.le_of_ble_eq_true rfl, Nat.le_of_ble_eq_true rfl⟩ v0 rfl rfl hl.1 rfl (Nat.le_of_ble_eq_true rfl) ⟨Nat.le_of_ble_eq_true rfl, Nat.le_of_ble_eq_true rfl⟩ dX0_isWon_9 (fun H locs hW hS => ?_)
    refine lv_iconst (v := 5) hx hb dX0_isWon_12 (by decide) ?_
    refine lv_icmp_lt (tgt := 20) hx hb dX0_isWon_13 (by decide) (fun c13 => ?_) (fun c13 => ?_)
    · have hf := ag_t c13 hf
      refine lv_iconst (v := 0) hx hb dX0_isWon_20 (by decide) ?_
      refine lv_goto (tgt := 40) hx hb dX0_isWon_21 (by decide) ?_
      exact ag_iret hx hb hr rfl hlocks hS (Option.some.inj hf) hW dX0_isWon_40
    · have hf := ag_f c13 hf
      refine lv_iconst (v := 1) hx hb dX0_isWon_16 (by decide) ?_
      refine lv_goto (tgt := 40) hx hb dX0_isWon_17 (by decide) ?_
      exact ag_iret hx hb hr rfl hlocks hS (Option.some.inj hf) hW dX0_isWon_40
def f_X0_isLost (fu : Nat) (x0 : Int32) (s : ag_S) : Option Int32 := if s 3 6 x0 = 1 then (ag_bd (f_X0_votesAgainst fu x0 s) fun r9 => if r9 < 5 then (some 0) else (some 1)) else (ag_bd (f_X0_isWon fu x0 s) fun r25 => if r25 = 0 then (some 1) else (some 0))
abbrev rm_X0_isLost : Room := { frames := 3, cells := 0, slots := 0, locals := 60 }
theorem dd_yX0_isLost : yX0_isLost.cls = RX0 ∧ yX0_isLost.cls ≠ "java/lang/invoke/MethodHandle" ∧ yX0_isLost.cls ≠ "java/lang/invoke/VarHandle" ∧ (parseMethodDescriptor yX0_isLost.desc).map (fun d => d.parameters.length) = some 0 := by decide +kernel
set_option maxHeartbeats 4000000 in
set_option maxRecDepth 100000 in
theorem c_X0_isLost {z : ag_Z} {l : Launch} {n : ag_N} {p : ag_P} {s : ag_S} {fu : Nat} {x0 : Int32} {out : Int32} (v0 : vp_in x0 (n 3)) (hf : f_X0_isLost fu x0 s = some out) : Met l yX0_isLost (ag_ws yX0_isLost cX0_isLost 1 ((some FieldType.boolean))) rm_X0_isLost (va_Pc [.ref (p 3 x0)] (ag_Pre z n p s)) (ag_Ri z n p out s) 0 0 (ag_A z) := by
  refine Met.ofW (cc := cX0_isLost) (maxL := 1) (ret := (some FieldType.boolean)) (by decide) rfl ?_
  intro p0 e st m args below meth c s9 B hml hv
  obtain ⟨ha, h0, hG, hW⟩ := hv
  have hx := B.exec
  have hb := B.bytes
  have hr := B.returns
  have hts := atoms_spec (ws := ag_ws yX0_isLost cX0_isLost 1 ((some FieldType.boolean))) B.pre
  have hT : ∀ w ∈ ag_tbl, w.before args st = true := fun w h => hts w (List.mem_cons_of_mem _ h)
  have hown : st.vm.findClass RX0 = some m.cls := findClass_of_methodNamed B.named
  have hlocks := B.notSynchronized
  have hS : va_S (ag_A z) st.heap st.heap [] := va_S.rf
  obtain ⟨ls, hls, hl⟩ : ∃ ls, entryFrame m args 1 = F0 m 0 ls [] ∧ lv_has ls 1 [(0, .ref (p 3 x0))] := by rw [ha]; exact ag_entry m [.ref (p 3 x0)] (Nat.le_of_ble_eq_true rfl)
  rw [hls]
  unfold f_X0_isLost at hf
  refine lv_aload_n hx hb dX0_isLost_0 rfl (lv_at hl 0 rfl) ?_
  refine g3_6 hx hb hT hown hG hW v0 q404 dX0_isLost_1 ?_
  refine lv_iconst (v := 1) hx hb dX0_isLost_4 (by decide) ?_
  refine lv_icmp_ne (tgt := 24) hx hb dX0_isLost_5 (by decide) (fun c5 => ?_) (fun c5 => ?_)
  · have hf := ag_f c5 hf
    refine lv_aload_n hx hb dX0_isLost_24 rfl (lv_at hl 0 rfl) ?_
    obtain ⟨r25, hg25, hf⟩ := ag_bs hf
    refine ag_cVi hx hb hml hT hown hG h0 hS hW (c_X0_isWon v0 hg25) ⟨rfl, rfl⟩ q534 q482 q483 q21 q484 dd_yX0_isWon ⟨Nat.le_of_ble_eq_true rfl, Nat.le_of_ble_eq_true rfl⟩ v0 rfl rfl hl.1 rfl (Nat.le_of_ble_eq_true rfl) ⟨Nat.le_of_ble_eq_true rfl, Nat.le_of_ble_eq_true rfl⟩ dX0_isLost_25 (fun H locs hW hS => ?_)
    refine lv_if_ne (tgt := 35) hx hb dX0_isLost_28 (by decide) (fun c28 => ?_) (fun c28 => ?_)
    · have hf := ag_f c28 hf
      refine lv_iconst (v := 0) hx hb dX0_isLost_35 (by decide) ?_
      exact ag_iret hx hb hr rfl hlocks hS (Option.some.inj hf) hW dX0_isLost_36
    · have hf := ag_t c28 hf
      refine lv_iconst (v := 1) hx hb dX0_isLost_31 (by decide) ?_
      refine lv_goto (tgt := 36) hx hb dX0_isLost_32 (by decide) ?_
      exact ag_iret hx hb hr rfl hlocks hS (Option.some.inj hf) hW dX0_isLost_36
  · have hf := ag_t c5 hf
    refine lv_aload_n hx hb dX0_isLost_8 rfl (lv_at hl 0 rfl) ?_
    obtain ⟨r9, hg9, hf⟩ := ag_bs hf
    refine ag_cVi hx hb hml hT hown hG h0 hS hW (c_X0_votesAgainst v0 hg9) ⟨rfl, rfl⟩ q486 q487 q488 q21 q489 dd_yX0_votesAgainst ⟨Nat.le_of_ble_eq_true rfl, Nat.le_of_ble_eq_true rfl⟩ v0 rfl rfl hl.1 rfl (Nat.le_of_ble_eq_true rfl) ⟨Nat.le_of_ble_eq_true rfl, Nat.le_of_ble_eq_true rfl⟩ dX0_isLost_9 (fun H locs hW hS => ?_)
    refine lv_iconst (v := 5) hx hb dX0_isLost_12 (by decide) ?_
    refine lv_icmp_lt (tgt := 20) hx hb dX0_isLost_13 (by decide) (fun c13 => ?_) (fun c13 => ?_)
    · have hf := ag_t c13 hf
      refine lv_iconst (v := 0) hx hb dX0_isLost_20 (by decide) ?_
      refine lv_goto (tgt := 36) hx hb dX0_isLost_21 (by decide) ?_
      exact ag_iret hx hb hr rfl hlocks hS (Option.some.inj hf) hW dX0_isLost_36
    · have hf := ag_f c13 hf
      refine lv_iconst (v := 1) hx hb dX0_isLost_16 (by decide) ?_
      refine lv_goto (tgt := 36) hx hb dX0_isLost_17 (by decide) ?_
      exact ag_iret hx hb hr rfl hlocks hS (Option.some.inj hf) hW dX0_isLost_36
def f_X0_takeVote_b26 (fu : Nat) (x0 : Int32) (x2 : Int32) (x3 : Int32) (y0 : Int32) (y1 : Int32) (s : ag_S) : Option ag_S := if x2 = 0 then (some (ag_up (ag_up s 3 8 y0 y1) 3 9 x0 (((ag_up s 3 8 y0 y1) 3 9 x0) ||| x3))) else (some (ag_up (ag_up s 3 8 y0 y1) 3 9 x0 (((ag_up s 3 8 y0 y1) 3 9 x0) &&& (x3 ^^^ ((-1))))))
def f_X0_takeVote (fu : Nat) (x0 : Int32) (x1 : Int32) (x2 : Int32) (s : ag_S) : Option ag_S := if x2 = 0 then (f_X0_takeVote_b26 fu x0 x2 (1 <<< (x1 &&& 31)) x0 ((s 3 8 x0) &&& ((1 <<< (x1 &&& 31)) ^^^ ((-1)))) s) else (f_X0_takeVote_b26 fu x0 x2 (1 <<< (x1 &&& 31)) x0 ((s 3 8 x0) ||| (1 <<< (x1 &&& 31))) s)
abbrev rm_X0_takeVote : Room := { frames := 0, cells := 0, slots := 0, locals := 0 }
theorem dd_yX0_takeVote : yX0_takeVote.cls = RX0 ∧ yX0_takeVote.cls ≠ "java/lang/invoke/MethodHandle" ∧ yX0_takeVote.cls ≠ "java/lang/invoke/VarHandle" ∧ (parseMethodDescriptor yX0_takeVote.desc).map (fun d => d.parameters.length) = some 2 := by decide +kernel
set_option maxHeartbeats 4000000 in
set_option maxRecDepth 100000 in
theorem c_X0_takeVote {z : ag_Z} {l : Launch} {n : ag_N} {p : ag_P} {s : ag_S} {fu : Nat} {x0 : Int32} {x1 : Int32} {x2 : Int32} {out : ag_S} (v0 : vp_in x0 (n 3)) (hf : f_X0_takeVote fu x0 x1 x2 s = some out) : Met l yX0_takeVote (ag_ws yX0_takeVote cX0_takeVote 4 ((none))) rm_X0_takeVote (va_Pc [.ref (p 3 x0), .int x1, .int x2] (ag_Pre z n p s)) (ag_Rv z n p out) 0 0 (ag_A z) := by
  refine Met.ofW (cc := cX0_takeVote) (maxL := 4) (ret := (none)) (by decide) rfl ?_
  intro p0 e st m args below meth c s9 B hml hv
  obtain ⟨ha, h0, hG, hW⟩ := hv
  have hx := B.exec
  have hb := B.bytes
  have hr := B.returns
  have hts := atoms_spec (ws := ag_ws yX0_takeVote cX0_takeVote 4 ((none))) B.pre
  have hT : ∀ w ∈ ag_tbl, w.before args st = true := fun w h => hts w (List.mem_cons_of_mem _ h)
  have hown : st.vm.findClass RX0 = some m.cls := findClass_of_methodNamed B.named
  have hlocks := B.notSynchronized
  have hS : va_S (ag_A z) st.heap st.heap [] := va_S.rf
  obtain ⟨ls, hls, hl⟩ : ∃ ls, entryFrame m args 4 = F0 m 0 ls [] ∧ lv_has ls 4 [(0, .ref (p 3 x0)), (1, .int x1), (2, .int x2)] := by rw [ha]; exact ag_entry m [.ref (p 3 x0), .int x1, .int x2] (Nat.le_of_ble_eq_true rfl)
  rw [hls]
  have k26 : ∀ (x0 : Int32) (x2 : Int32) (x3 : Int32) (y0 : Int32) (y1 : Int32) (s : ag_S) (H : Heap) (locs : List Loc) (ls : Array Slot) (vx0 : vp_in x0 (n 3)) (vy0 : vp_in y0 (n 3)), ag_W z n p s H → va_S (ag_A z) st.heap H locs → lv_has ls 4 [(0, .ref (p 3 x0)), (2, .int x2), (3, .int x3)] → f_X0_takeVote_b26 fu x0 x2 x3 y0 y1 s = some out → W p0 l e (headSpec (ag_ws yX0_takeVote cX0_takeVote 4 ((none))) rm_X0_takeVote).room st m args below meth c H locs 0 0 (MQ below (ag_Rv z n p out) args st 0 0 (ag_A z)) (F0 m 26 ls [.int y1, .ref (p 3 y0)]) := by
    intro x0 x2 x3 y0 y1 s H locs ls vx0 vy0 hW hS hl hf
    unfold f_X0_takeVote_b26 at hf
    refine u3_8 hx hb hT hown hG hW hS vy0 q408 dX0_takeVote_26 (fun H locs hW hS => ?_)
    refine lv_aload_n hx hb dX0_takeVote_29 rfl (lv_at hl 0 rfl) ?_
    refine lv_iload_n hx hb dX0_takeVote_30 rfl (lv_at hl 1 rfl) ?_
    refine lv_if_eq (tgt := 45) hx hb dX0_takeVote_31 (by decide) (fun c31 => ?_) (fun c31 => ?_)
    · have hf := ag_t c31 hf
      refine lv_aload_n hx hb dX0_takeVote_45 rfl (lv_at hl 0 rfl) ?_
      refine g3_9 hx hb hT hown hG hW vx0 q409 dX0_takeVote_46 ?_
      refine lv_iload_n hx hb dX0_takeVote_49 rfl (lv_at hl 2 rfl) ?_
      refine lv_ior hx hb dX0_takeVote_50 ?_
      refine u3_9 hx hb hT hown hG hW hS vx0 q409 dX0_takeVote_51 (fun H locs hW hS => ?_)
      exact ag_vret hx hb hr hlocks hS (Option.some.inj hf ▸ hW) dX0_takeVote_54
    · have hf := ag_f c31 hf
      refine lv_aload_n hx hb dX0_takeVote_34 rfl (lv_at hl 0 rfl) ?_
      refine g3_9 hx hb hT hown hG hW vx0 q409 dX0_takeVote_35 ?_
      refine lv_iload_n hx hb dX0_takeVote_38 rfl (lv_at hl 2 rfl) ?_
      refine lv_iconst (v := (-1)) hx hb dX0_takeVote_39 (by decide) ?_
      refine lv_ixor hx hb dX0_takeVote_40 ?_
      refine lv_iand hx hb dX0_takeVote_41 ?_
      refine lv_goto (tgt := 51) hx hb dX0_takeVote_42 (by decide) ?_
      refine u3_9 hx hb hT hown hG hW hS vx0 q409 dX0_takeVote_51 (fun H locs hW hS => ?_)
      exact ag_vret hx hb hr hlocks hS (Option.some.inj hf ▸ hW) dX0_takeVote_54
  unfold f_X0_takeVote at hf
  refine lv_iconst (v := 1) hx hb dX0_takeVote_0 (by decide) ?_
  refine lv_iload_n hx hb dX0_takeVote_1 rfl (lv_at hl 1 rfl) ?_
  refine lv_ishl hx hb dX0_takeVote_2 ?_
  refine lv_istore_n (lv' := [(3, .int (1 <<< (x1 &&& 31))), (0, .ref (p 3 x0)), (1, .int x1), (2, .int x2)]) hx hb dX0_takeVote_3 rfl hl (by decide) rfl (fun ls hl => ?_)
  refine lv_aload_n hx hb dX0_takeVote_4 rfl (lv_at hl 1 rfl) ?_
  refine lv_iload_n hx hb dX0_takeVote_5 rfl (lv_at hl 3 rfl) ?_
  refine lv_if_eq (tgt := 18) hx hb dX0_takeVote_6 (by decide) (fun c6 => ?_) (fun c6 => ?_)
  · have hf := ag_t c6 hf
    refine lv_aload_n hx hb dX0_takeVote_18 rfl (lv_at hl 1 rfl) ?_
    refine g3_8 hx hb hT hown hG hW v0 q408 dX0_takeVote_19 ?_
    refine lv_iload_n hx hb dX0_takeVote_22 rfl (lv_at hl 0 rfl) ?_
    refine lv_iconst (v := (-1)) hx hb dX0_takeVote_23 (by decide) ?_
    refine lv_ixor hx hb dX0_takeVote_24 ?_
    refine lv_iand hx hb dX0_takeVote_25 ?_
    exact k26 _ _ _ _ _ _ _ _ _ v0 v0 hW hS (lv_sub hl [1, 3, 0] rfl) hf
  · have hf := ag_f c6 hf
    refine lv_aload_n hx hb dX0_takeVote_9 rfl (lv_at hl 1 rfl) ?_
    refine g3_8 hx hb hT hown hG hW v0 q408 dX0_takeVote_10 ?_
    refine lv_iload_n hx hb dX0_takeVote_13 rfl (lv_at hl 0 rfl) ?_
    refine lv_ior hx hb dX0_takeVote_14 ?_
    refine lv_goto (tgt := 26) hx hb dX0_takeVote_15 (by decide) ?_
    exact k26 _ _ _ _ _ _ _ _ _ v0 v0 hW hS (lv_sub hl [1, 3, 0] rfl) hf
def f_X0_beginRoundTwo (fu : Nat) (x0 : Int32) (s : ag_S) : Option ag_S := some (ag_up (ag_up (ag_up s 3 6 x0 2) 3 8 x0 0) 3 9 x0 0)
abbrev rm_X0_beginRoundTwo : Room := { frames := 0, cells := 0, slots := 0, locals := 0 }
theorem dd_yX0_beginRoundTwo : yX0_beginRoundTwo.cls = RX0 ∧ yX0_beginRoundTwo.cls ≠ "java/lang/invoke/MethodHandle" ∧ yX0_beginRoundTwo.cls ≠ "java/lang/invoke/VarHandle" ∧ (parseMethodDescriptor yX0_beginRoundTwo.desc).map (fun d => d.parameters.length) = some 0 := by decide +kernel
set_option maxHeartbeats 4000000 in
set_option maxRecDepth 100000 in
theorem c_X0_beginRoundTwo {z : ag_Z} {l : Launch} {n : ag_N} {p : ag_P} {s : ag_S} {fu : Nat} {x0 : Int32} {out : ag_S} (v0 : vp_in x0 (n 3)) (hf : f_X0_beginRoundTwo fu x0 s = some out) : Met l yX0_beginRoundTwo (ag_ws yX0_beginRoundTwo cX0_beginRoundTwo 1 ((none))) rm_X0_beginRoundTwo (va_Pc [.ref (p 3 x0)] (ag_Pre z n p s)) (ag_Rv z n p out) 0 0 (ag_A z) := by
  refine Met.ofW (cc := cX0_beginRoundTwo) (maxL := 1) (ret := (none)) (by decide) rfl ?_
  intro p0 e st m args below meth c s9 B hml hv
  obtain ⟨ha, h0, hG, hW⟩ := hv
  have hx := B.exec
  have hb := B.bytes
  have hr := B.returns
  have hts := atoms_spec (ws := ag_ws yX0_beginRoundTwo cX0_beginRoundTwo 1 ((none))) B.pre
  have hT : ∀ w ∈ ag_tbl, w.before args st = true := fun w h => hts w (List.mem_cons_of_mem _ h)
  have hown : st.vm.findClass RX0 = some m.cls := findClass_of_methodNamed B.named
  have hlocks := B.notSynchronized
  have hS : va_S (ag_A z) st.heap st.heap [] := va_S.rf
  obtain ⟨ls, hls, hl⟩ : ∃ ls, entryFrame m args 1 = F0 m 0 ls [] ∧ lv_has ls 1 [(0, .ref (p 3 x0))] := by rw [ha]; exact ag_entry m [.ref (p 3 x0)] (Nat.le_of_ble_eq_true rfl)
  rw [hls]
  unfold f_X0_beginRoundTwo at hf
  refine lv_aload_n hx hb dX0_beginRoundTwo_0 rfl (lv_at hl 0 rfl) ?_
  refine lv_iconst (v := 2) hx hb dX0_beginRoundTwo_1 (by decide) ?_
  refine u3_6 hx hb hT hown hG hW hS v0 q404 dX0_beginRoundTwo_2 (fun H locs hW hS => ?_)
  refine lv_aload_n hx hb dX0_beginRoundTwo_5 rfl (lv_at hl 0 rfl) ?_
  refine lv_iconst (v := 0) hx hb dX0_beginRoundTwo_6 (by decide) ?_
  refine u3_8 hx hb hT hown hG hW hS v0 q408 dX0_beginRoundTwo_7 (fun H locs hW hS => ?_)
  refine lv_aload_n hx hb dX0_beginRoundTwo_10 rfl (lv_at hl 0 rfl) ?_
  refine lv_iconst (v := 0) hx hb dX0_beginRoundTwo_11 (by decide) ?_
  refine u3_9 hx hb hT hown hG hW hS v0 q409 dX0_beginRoundTwo_12 (fun H locs hW hS => ?_)
  exact ag_vret hx hb hr hlocks hS (Option.some.inj hf ▸ hW) dX0_beginRoundTwo_15
def f_X1_binds (fu : Nat) (x0 : Int32) (s : ag_S) : Option Int32 := if s 4 6 x0 = 2 then (some (s 4 5 x0)) else (some (s 4 4 x0))
abbrev rm_X1_binds : Room := { frames := 0, cells := 0, slots := 0, locals := 0 }
theorem dd_yX1_binds : yX1_binds.cls = RX1 ∧ yX1_binds.cls ≠ "java/lang/invoke/MethodHandle" ∧ yX1_binds.cls ≠ "java/lang/invoke/VarHandle" ∧ (parseMethodDescriptor yX1_binds.desc).map (fun d => d.parameters.length) = some 0 := by decide +kernel
set_option maxHeartbeats 4000000 in
set_option maxRecDepth 100000 in
theorem c_X1_binds {z : ag_Z} {l : Launch} {n : ag_N} {p : ag_P} {s : ag_S} {fu : Nat} {x0 : Int32} {out : Int32} (v0 : vp_in x0 (n 4)) (hf : f_X1_binds fu x0 s = some out) : Met l yX1_binds (ag_ws yX1_binds cX1_binds 1 ((some FieldType.int))) rm_X1_binds (va_Pc [.ref (p 4 x0)] (ag_Pre z n p s)) (ag_Ri z n p out s) 0 0 (ag_A z) := by
  refine Met.ofW (cc := cX1_binds) (maxL := 1) (ret := (some FieldType.int)) (by decide) rfl ?_
  intro p0 e st m args below meth c s9 B hml hv
  obtain ⟨ha, h0, hG, hW⟩ := hv
  have hx := B.exec
  have hb := B.bytes
  have hr := B.returns
  have hts := atoms_spec (ws := ag_ws yX1_binds cX1_binds 1 ((some FieldType.int))) B.pre
  have hT : ∀ w ∈ ag_tbl, w.before args st = true := fun w h => hts w (List.mem_cons_of_mem _ h)
  have hown : st.vm.findClass RX1 = some m.cls := findClass_of_methodNamed B.named
  have hlocks := B.notSynchronized
  have hS : va_S (ag_A z) st.heap st.heap [] := va_S.rf
  obtain ⟨ls, hls, hl⟩ : ∃ ls, entryFrame m args 1 = F0 m 0 ls [] ∧ lv_has ls 1 [(0, .ref (p 4 x0))] := by rw [ha]; exact ag_entry m [.ref (p 4 x0)] (Nat.le_of_ble_eq_true rfl)
  rw [hls]
  unfold f_X1_binds at hf
  refine lv_aload_n hx hb dX1_binds_0 rfl (lv_at hl 0 rfl) ?_
  refine g4_6 hx hb hT hown hG hW v0 q605 dX1_binds_1 ?_
  refine lv_iconst (v := 2) hx hb dX1_binds_4 (by decide) ?_
  refine lv_icmp_ne (tgt := 15) hx hb dX1_binds_5 (by decide) (fun c5 => ?_) (fun c5 => ?_)
  · have hf := ag_f c5 hf
    refine lv_aload_n hx hb dX1_binds_15 rfl (lv_at hl 0 rfl) ?_
    refine g4_4 hx hb hT hown hG hW v0 q601 dX1_binds_16 ?_
    exact ag_iret hx hb hr rfl hlocks hS (Option.some.inj hf) hW dX1_binds_19
  · have hf := ag_t c5 hf
    refine lv_aload_n hx hb dX1_binds_8 rfl (lv_at hl 0 rfl) ?_
    refine g4_5 hx hb hT hown hG hW v0 q603 dX1_binds_9 ?_
    refine lv_goto (tgt := 19) hx hb dX1_binds_12 (by decide) ?_
    exact ag_iret hx hb hr rfl hlocks hS (Option.some.inj hf) hW dX1_binds_19
def f_X1_isOverdue (fu : Nat) (x0 : Int32) (x1 : Int32) (s : ag_S) : Option Int32 := if s 4 6 x0 = 0 then (if s 4 7 x0 = 0 then (if x1 ≤ s 4 3 x0 then (some 0) else (some 1)) else (some 0)) else (some 0)
abbrev rm_X1_isOverdue : Room := { frames := 0, cells := 0, slots := 0, locals := 0 }
theorem dd_yX1_isOverdue : yX1_isOverdue.cls = RX1 ∧ yX1_isOverdue.cls ≠ "java/lang/invoke/MethodHandle" ∧ yX1_isOverdue.cls ≠ "java/lang/invoke/VarHandle" ∧ (parseMethodDescriptor yX1_isOverdue.desc).map (fun d => d.parameters.length) = some 1 := by decide +kernel
set_option maxHeartbeats 4000000 in
set_option maxRecDepth 100000 in
theorem c_X1_isOverdue {z : ag_Z} {l : Launch} {n : ag_N} {p : ag_P} {s : ag_S} {fu : Nat} {x0 : Int32} {x1 : Int32} {out : Int32} (v0 : vp_in x0 (n 4)) (hf : f_X1_isOverdue fu x0 x1 s = some out) : Met l yX1_isOverdue (ag_ws yX1_isOverdue cX1_isOverdue 2 ((some FieldType.boolean))) rm_X1_isOverdue (va_Pc [.ref (p 4 x0), .int x1] (ag_Pre z n p s)) (ag_Ri z n p out s) 0 0 (ag_A z) := by
  refine Met.ofW (cc := cX1_isOverdue) (maxL := 2) (ret := (some FieldType.boolean)) (by decide) rfl ?_
  intro p0 e st m args below meth c s9 B hml hv
  obtain ⟨ha, h0, hG, hW⟩ := hv
  have hx := B.exec
  have hb := B.bytes
  have hr := B.returns
  have hts := atoms_spec (ws := ag_ws yX1_isOverdue cX1_isOverdue 2 ((some FieldType.boolean))) B.pre
  have hT : ∀ w ∈ ag_tbl, w.before args st = true := fun w h => hts w (List.mem_cons_of_mem _ h)
  have hown : st.vm.findClass RX1 = some m.cls := findClass_of_methodNamed B.named
  have hlocks := B.notSynchronized
  have hS : va_S (ag_A z) st.heap st.heap [] := va_S.rf
  obtain ⟨ls, hls, hl⟩ : ∃ ls, entryFrame m args 2 = F0 m 0 ls [] ∧ lv_has ls 2 [(0, .ref (p 4 x0)), (1, .int x1)] := by rw [ha]; exact ag_entry m [.ref (p 4 x0), .int x1] (Nat.le_of_ble_eq_true rfl)
  rw [hls]
  unfold f_X1_isOverdue at hf
  refine lv_aload_n hx hb dX1_isOverdue_0 rfl (lv_at hl 0 rfl) ?_
  refine g4_6 hx hb hT hown hG hW v0 q605 dX1_isOverdue_1 ?_
  refine lv_if_ne (tgt := 26) hx hb dX1_isOverdue_4 (by decide) (fun c4 => ?_) (fun c4 => ?_)
  · have hf := ag_f c4 hf
    refine lv_iconst (v := 0) hx hb dX1_isOverdue_26 (by decide) ?_
    exact ag_iret hx hb hr rfl hlocks hS (Option.some.inj hf) hW dX1_isOverdue_27
  · have hf := ag_t c4 hf
    refine lv_aload_n hx hb dX1_isOverdue_7 rfl (lv_at hl 0 rfl) ?_
    refine g4_7 hx hb hT hown hG hW v0 q607 dX1_isOverdue_8 ?_
    refine lv_if_ne (tgt := 26) hx hb dX1_isOverdue_11 (by decide) (fun c11 => ?_) (fun c11 => ?_)
    · have hf := ag_f c11 hf
      refine lv_iconst (v := 0) hx hb dX1_isOverdue_26 (by decide) ?_
      exact ag_iret hx hb hr rfl hlocks hS (Option.some.inj hf) hW dX1_isOverdue_27
    · have hf := ag_t c11 hf
      refine lv_aload_n hx hb dX1_isOverdue_14 rfl (lv_at hl 0 rfl) ?_
      refine g4_3 hx hb hT hown hG hW v0 q599 dX1_isOverdue_15 ?_
      refine lv_iload_n hx hb dX1_isOverdue_18 rfl (lv_at hl 1 rfl) ?_
      refine lv_icmp_ge (tgt := 26) hx hb dX1_isOverdue_19 (by decide) (fun c19 => ?_) (fun c19 => ?_)
      · have hf := ag_t c19 hf
        refine lv_iconst (v := 0) hx hb dX1_isOverdue_26 (by decide) ?_
        exact ag_iret hx hb hr rfl hlocks hS (Option.some.inj hf) hW dX1_isOverdue_27
      · have hf := ag_f c19 hf
        refine lv_iconst (v := 1) hx hb dX1_isOverdue_22 (by decide) ?_
        refine lv_goto (tgt := 27) hx hb dX1_isOverdue_23 (by decide) ?_
        exact ag_iret hx hb hr rfl hlocks hS (Option.some.inj hf) hW dX1_isOverdue_27
def f_X1_hangsOnFallen (fu : Nat) (x0 : Int32) (s : ag_S) : Option Int32 := if s 4 2 x0 = -1 then (some 0) else (if s 4 2 x0 = -1 then none else if s 3 5 (s 4 2 x0) = 2 then (some 1) else (some 0))
abbrev rm_X1_hangsOnFallen : Room := { frames := 0, cells := 0, slots := 0, locals := 0 }
theorem dd_yX1_hangsOnFallen : yX1_hangsOnFallen.cls = RX1 ∧ yX1_hangsOnFallen.cls ≠ "java/lang/invoke/MethodHandle" ∧ yX1_hangsOnFallen.cls ≠ "java/lang/invoke/VarHandle" ∧ (parseMethodDescriptor yX1_hangsOnFallen.desc).map (fun d => d.parameters.length) = some 0 := by decide +kernel
set_option maxHeartbeats 4000000 in
set_option maxRecDepth 100000 in
theorem c_X1_hangsOnFallen {z : ag_Z} {l : Launch} {n : ag_N} {p : ag_P} {s : ag_S} {fu : Nat} {x0 : Int32} {out : Int32} (v0 : vp_in x0 (n 4)) (hf : f_X1_hangsOnFallen fu x0 s = some out) : Met l yX1_hangsOnFallen (ag_ws yX1_hangsOnFallen cX1_hangsOnFallen 1 ((some FieldType.boolean))) rm_X1_hangsOnFallen (va_Pc [.ref (p 4 x0)] (ag_Pre z n p s)) (ag_Ri z n p out s) 0 0 (ag_A z) := by
  refine Met.ofW (cc := cX1_hangsOnFallen) (maxL := 1) (ret := (some FieldType.boolean)) (by decide) rfl ?_
  intro p0 e st m args below meth c s9 B hml hv
  obtain ⟨ha, h0, hG, hW⟩ := hv
  have hx := B.exec
  have hb := B.bytes
  have hr := B.returns
  have hts := atoms_spec (ws := ag_ws yX1_hangsOnFallen cX1_hangsOnFallen 1 ((some FieldType.boolean))) B.pre
  have hT : ∀ w ∈ ag_tbl, w.before args st = true := fun w h => hts w (List.mem_cons_of_mem _ h)
  have hown : st.vm.findClass RX1 = some m.cls := findClass_of_methodNamed B.named
  have hlocks := B.notSynchronized
  have hS : va_S (ag_A z) st.heap st.heap [] := va_S.rf
  obtain ⟨ls, hls, hl⟩ : ∃ ls, entryFrame m args 1 = F0 m 0 ls [] ∧ lv_has ls 1 [(0, .ref (p 4 x0))] := by rw [ha]; exact ag_entry m [.ref (p 4 x0)] (Nat.le_of_ble_eq_true rfl)
  rw [hls]
  unfold f_X1_hangsOnFallen at hf
  refine lv_aload_n hx hb dX1_hangsOnFallen_0 rfl (lv_at hl 0 rfl) ?_
  refine g4_2 hx hb hT hown hG hW v0 q597 dX1_hangsOnFallen_1 ?_
  have o1 := ag_W.okf hW (k := 4) (f := 2) (t := 3) rfl rfl (by decide) x0
  refine ag_ifnull (tgt := 22) hx hb o1 dX1_hangsOnFallen_4 (by decide) (fun c4 => ?_) (fun c4 => ?_)
  · have hf := ag_t c4 hf
    refine lv_iconst (v := 0) hx hb dX1_hangsOnFallen_22 (by decide) ?_
    exact ag_iret hx hb hr rfl hlocks hS (Option.some.inj hf) hW dX1_hangsOnFallen_23
  · have hf := ag_f c4 hf
    have e4 := (ag_refq (z := z) (p := p) o1 c4)
    have v4 := (ag_ref (z := z) (p := p) o1 c4).2
    refine lv_aload_n hx hb dX1_hangsOnFallen_7 rfl (lv_at hl 0 rfl) ?_
    refine g4_2 hx hb hT hown hG hW v0 q597 dX1_hangsOnFallen_8 ?_
    have o8 := ag_W.okf hW (k := 4) (f := 2) (t := 3) rfl rfl (by decide) x0
    obtain ⟨m11, hf⟩ := ag_n hf
    have e11 := (ag_refq (z := z) (p := p) o8 m11)
    have v11 := (ag_ref (z := z) (p := p) o8 m11).2
    rw [e11]
    refine g3_5 hx hb hT hown hG hW v11 q402 dX1_hangsOnFallen_11 ?_
    refine lv_iconst (v := 2) hx hb dX1_hangsOnFallen_14 (by decide) ?_
    refine lv_icmp_ne (tgt := 22) hx hb dX1_hangsOnFallen_15 (by decide) (fun c15 => ?_) (fun c15 => ?_)
    · have hf := ag_f c15 hf
      refine lv_iconst (v := 0) hx hb dX1_hangsOnFallen_22 (by decide) ?_
      exact ag_iret hx hb hr rfl hlocks hS (Option.some.inj hf) hW dX1_hangsOnFallen_23
    · have hf := ag_t c15 hf
      refine lv_iconst (v := 1) hx hb dX1_hangsOnFallen_18 (by decide) ?_
      refine lv_goto (tgt := 23) hx hb dX1_hangsOnFallen_19 (by decide) ?_
      exact ag_iret hx hb hr rfl hlocks hS (Option.some.inj hf) hW dX1_hangsOnFallen_23
def f_X1_withdraw (fu : Nat) (x0 : Int32) (s : ag_S) : Option ag_S := if (ag_up s 4 6 x0 2) 4 1 x0 = -1 then none else some (ag_up (ag_up s 4 6 x0 2) 1 1 ((ag_up s 4 6 x0 2) 4 1 x0) (((ag_up s 4 6 x0 2) 1 1 ((ag_up s 4 6 x0 2) 4 1 x0)) + ((ag_up s 4 6 x0 2) 4 5 x0)))
abbrev rm_X1_withdraw : Room := { frames := 0, cells := 0, slots := 0, locals := 0 }
theorem dd_yX1_withdraw : yX1_withdraw.cls = RX1 ∧ yX1_withdraw.cls ≠ "java/lang/invoke/MethodHandle" ∧ yX1_withdraw.cls ≠ "java/lang/invoke/VarHandle" ∧ (parseMethodDescriptor yX1_withdraw.desc).map (fun d => d.parameters.length) = some 0 := by decide +kernel
set_option maxHeartbeats 4000000 in
set_option maxRecDepth 100000 in
theorem c_X1_withdraw {z : ag_Z} {l : Launch} {n : ag_N} {p : ag_P} {s : ag_S} {fu : Nat} {x0 : Int32} {out : ag_S} (v0 : vp_in x0 (n 4)) (hf : f_X1_withdraw fu x0 s = some out) : Met l yX1_withdraw (ag_ws yX1_withdraw cX1_withdraw 1 ((none))) rm_X1_withdraw (va_Pc [.ref (p 4 x0)] (ag_Pre z n p s)) (ag_Rv z n p out) 0 0 (ag_A z) := by
  refine Met.ofW (cc := cX1_withdraw) (maxL := 1) (ret := (none)) (by decide) rfl ?_
  intro p0 e st m args below meth c s9 B hml hv
  obtain ⟨ha, h0, hG, hW⟩ := hv
  have hx := B.exec
  have hb := B.bytes
  have hr := B.returns
  have hts := atoms_spec (ws := ag_ws yX1_withdraw cX1_withdraw 1 ((none))) B.pre
  have hT : ∀ w ∈ ag_tbl, w.before args st = true := fun w h => hts w (List.mem_cons_of_mem _ h)
  have hown : st.vm.findClass RX1 = some m.cls := findClass_of_methodNamed B.named
  have hlocks := B.notSynchronized
  have hS : va_S (ag_A z) st.heap st.heap [] := va_S.rf
  obtain ⟨ls, hls, hl⟩ : ∃ ls, entryFrame m args 1 = F0 m 0 ls [] ∧ lv_has ls 1 [(0, .ref (p 4 x0))] := by rw [ha]; exact ag_entry m [.ref (p 4 x0)] (Nat.le_of_ble_eq_true rfl)
  rw [hls]
  unfold f_X1_withdraw at hf
  refine lv_aload_n hx hb dX1_withdraw_0 rfl (lv_at hl 0 rfl) ?_
  refine lv_iconst (v := 2) hx hb dX1_withdraw_1 (by decide) ?_
  refine u4_6 hx hb hT hown hG hW hS v0 q605 dX1_withdraw_2 (fun H locs hW hS => ?_)
  refine lv_aload_n hx hb dX1_withdraw_5 rfl (lv_at hl 0 rfl) ?_
  refine g4_1 hx hb hT hown hG hW v0 q595 dX1_withdraw_6 ?_
  have o6 := ag_W.okf hW (k := 4) (f := 1) (t := 1) rfl rfl (by decide) x0
  refine lv_dup hx hb dX1_withdraw_9 (ag_cat _) ?_
  obtain ⟨m10, hf⟩ := ag_n hf
  have e10 := (ag_refq (z := z) (p := p) o6 m10)
  have v10 := (ag_ref (z := z) (p := p) o6 m10).2
  rw [e10]
  refine g1_1 hx hb hT hown hG hW v10 q144 dX1_withdraw_10 ?_
  refine lv_aload_n hx hb dX1_withdraw_13 rfl (lv_at hl 0 rfl) ?_
  refine g4_5 hx hb hT hown hG hW v0 q603 dX1_withdraw_14 ?_
  refine lv_iadd hx hb dX1_withdraw_17 ?_
  refine u1_1 hx hb hT hown hG hW hS v10 q144 dX1_withdraw_18 (fun H locs hW hS => ?_)
  exact ag_vret hx hb hr hlocks hS (Option.some.inj hf ▸ hW) dX1_withdraw_21
def f_X1_cut (fu : Nat) (x0 : Int32) (s : ag_S) : Option ag_S := some (ag_up (ag_up s 4 6 x0 1) 4 4 x0 ((ag_up s 4 6 x0 1) 4 5 x0))
abbrev rm_X1_cut : Room := { frames := 0, cells := 0, slots := 0, locals := 0 }
theorem dd_yX1_cut : yX1_cut.cls = RX1 ∧ yX1_cut.cls ≠ "java/lang/invoke/MethodHandle" ∧ yX1_cut.cls ≠ "java/lang/invoke/VarHandle" ∧ (parseMethodDescriptor yX1_cut.desc).map (fun d => d.parameters.length) = some 0 := by decide +kernel
set_option maxHeartbeats 4000000 in
set_option maxRecDepth 100000 in
theorem c_X1_cut {z : ag_Z} {l : Launch} {n : ag_N} {p : ag_P} {s : ag_S} {fu : Nat} {x0 : Int32} {out : ag_S} (v0 : vp_in x0 (n 4)) (hf : f_X1_cut fu x0 s = some out) : Met l yX1_cut (ag_ws yX1_cut cX1_cut 1 ((none))) rm_X1_cut (va_Pc [.ref (p 4 x0)] (ag_Pre z n p s)) (ag_Rv z n p out) 0 0 (ag_A z) := by
  refine Met.ofW (cc := cX1_cut) (maxL := 1) (ret := (none)) (by decide) rfl ?_
  intro p0 e st m args below meth c s9 B hml hv
  obtain ⟨ha, h0, hG, hW⟩ := hv
  have hx := B.exec
  have hb := B.bytes
  have hr := B.returns
  have hts := atoms_spec (ws := ag_ws yX1_cut cX1_cut 1 ((none))) B.pre
  have hT : ∀ w ∈ ag_tbl, w.before args st = true := fun w h => hts w (List.mem_cons_of_mem _ h)
  have hown : st.vm.findClass RX1 = some m.cls := findClass_of_methodNamed B.named
  have hlocks := B.notSynchronized
  have hS : va_S (ag_A z) st.heap st.heap [] := va_S.rf
  obtain ⟨ls, hls, hl⟩ : ∃ ls, entryFrame m args 1 = F0 m 0 ls [] ∧ lv_has ls 1 [(0, .ref (p 4 x0))] := by rw [ha]; exact ag_entry m [.ref (p 4 x0)] (Nat.le_of_ble_eq_true rfl)
  rw [hls]
  unfold f_X1_cut at hf
  refine lv_aload_n hx hb dX1_cut_0 rfl (lv_at hl 0 rfl) ?_
  refine lv_iconst (v := 1) hx hb dX1_cut_1 (by decide) ?_
  refine u4_6 hx hb hT hown hG hW hS v0 q605 dX1_cut_2 (fun H locs hW hS => ?_)
  refine lv_aload_n hx hb dX1_cut_5 rfl (lv_at hl 0 rfl) ?_
  refine lv_aload_n hx hb dX1_cut_6 rfl (lv_at hl 0 rfl) ?_
  refine g4_5 hx hb hT hown hG hW v0 q603 dX1_cut_7 ?_
  refine u4_4 hx hb hT hown hG hW hS v0 q601 dX1_cut_10 (fun H locs hW hS => ?_)
  exact ag_vret hx hb hr hlocks hS (Option.some.inj hf ▸ hW) dX1_cut_13
def f_X1_clawBack (fu : Nat) (x0 : Int32) (x1 : Int32) (s : ag_S) : Option ag_S := ag_bd (f_X1_cut fu x0 (ag_up s 4 5 x0 ((s 4 5 x0) - x1))) fun r11 => if r11 4 1 x0 = -1 then none else if (ag_up r11 1 1 (r11 4 1 x0) ((r11 1 1 (r11 4 1 x0)) + x1)) 4 0 x0 = -1 then none else some (ag_up (ag_up r11 1 1 (r11 4 1 x0) ((r11 1 1 (r11 4 1 x0)) + x1)) 2 4 ((ag_up r11 1 1 (r11 4 1 x0) ((r11 1 1 (r11 4 1 x0)) + x1)) 4 0 x0) (((ag_up r11 1 1 (r11 4 1 x0) ((r11 1 1 (r11 4 1 x0)) + x1)) 2 4 ((ag_up r11 1 1 (r11 4 1 x0) ((r11 1 1 (r11 4 1 x0)) + x1)) 4 0 x0)) + x1))
abbrev rm_X1_clawBack : Room := { frames := 1, cells := 0, slots := 0, locals := 20 }
theorem dd_yX1_clawBack : yX1_clawBack.cls = RX1 ∧ yX1_clawBack.cls ≠ "java/lang/invoke/MethodHandle" ∧ yX1_clawBack.cls ≠ "java/lang/invoke/VarHandle" ∧ (parseMethodDescriptor yX1_clawBack.desc).map (fun d => d.parameters.length) = some 1 := by decide +kernel
set_option maxHeartbeats 4000000 in
set_option maxRecDepth 100000 in
theorem c_X1_clawBack {z : ag_Z} {l : Launch} {n : ag_N} {p : ag_P} {s : ag_S} {fu : Nat} {x0 : Int32} {x1 : Int32} {out : ag_S} (v0 : vp_in x0 (n 4)) (hf : f_X1_clawBack fu x0 x1 s = some out) : Met l yX1_clawBack (ag_ws yX1_clawBack cX1_clawBack 2 ((none))) rm_X1_clawBack (va_Pc [.ref (p 4 x0), .int x1] (ag_Pre z n p s)) (ag_Rv z n p out) 0 0 (ag_A z) := by
  refine Met.ofW (cc := cX1_clawBack) (maxL := 2) (ret := (none)) (by decide) rfl ?_
  intro p0 e st m args below meth c s9 B hml hv
  obtain ⟨ha, h0, hG, hW⟩ := hv
  have hx := B.exec
  have hb := B.bytes
  have hr := B.returns
  have hts := atoms_spec (ws := ag_ws yX1_clawBack cX1_clawBack 2 ((none))) B.pre
  have hT : ∀ w ∈ ag_tbl, w.before args st = true := fun w h => hts w (List.mem_cons_of_mem _ h)
  have hown : st.vm.findClass RX1 = some m.cls := findClass_of_methodNamed B.named
  have hlocks := B.notSynchronized
  have hS : va_S (ag_A z) st.heap st.heap [] := va_S.rf
  obtain ⟨ls, hls, hl⟩ : ∃ ls, entryFrame m args 2 = F0 m 0 ls [] ∧ lv_has ls 2 [(0, .ref (p 4 x0)), (1, .int x1)] := by rw [ha]; exact ag_entry m [.ref (p 4 x0), .int x1] (Nat.le_of_ble_eq_true rfl)
  rw [hls]
  unfold f_X1_clawBack at hf
  refine lv_aload_n hx hb dX1_clawBack_0 rfl (lv_at hl 0 rfl) ?_
  refine lv_dup hx hb dX1_clawBack_1 rfl ?_
  refine g4_5 hx hb hT hown hG hW v0 q603 dX1_clawBack_2 ?_
  refine lv_iload_n hx hb dX1_clawBack_5 rfl (lv_at hl 1 rfl) ?_
  refine lv_isub hx hb dX1_clawBack_6 ?_
  refine u4_5 hx hb hT hown hG hW hS v0 q603 dX1_clawBack_7 (fun H locs hW hS => ?_)
  refine lv_aload_n hx hb dX1_clawBack_10 rfl (lv_at hl 0 rfl) ?_
  obtain ⟨r11, hg11, hf⟩ := ag_bs hf
  refine ag_cVv hx hb hml hT hown hG h0 hS hW (c_X1_cut v0 hg11) ⟨rfl, rfl⟩ q678 q527 q528 q23 q529 dd_yX1_cut ⟨Nat.le_of_ble_eq_true rfl, Nat.le_of_ble_eq_true rfl⟩ v0 rfl rfl hl.1 rfl (Nat.le_of_ble_eq_true rfl) ⟨Nat.le_of_ble_eq_true rfl, Nat.le_of_ble_eq_true rfl⟩ dX1_clawBack_11 (fun H locs hW hS => ?_)
  refine lv_aload_n hx hb dX1_clawBack_14 rfl (lv_at hl 0 rfl) ?_
  refine g4_1 hx hb hT hown hG hW v0 q595 dX1_clawBack_15 ?_
  have o15 := ag_W.okf hW (k := 4) (f := 1) (t := 1) rfl rfl (by decide) x0
  refine lv_dup hx hb dX1_clawBack_18 (ag_cat _) ?_
  obtain ⟨m19, hf⟩ := ag_n hf
  have e19 := (ag_refq (z := z) (p := p) o15 m19)
  have v19 := (ag_ref (z := z) (p := p) o15 m19).2
  rw [e19]
  refine g1_1 hx hb hT hown hG hW v19 q144 dX1_clawBack_19 ?_
  refine lv_iload_n hx hb dX1_clawBack_22 rfl (lv_at hl 1 rfl) ?_
  refine lv_iadd hx hb dX1_clawBack_23 ?_
  refine u1_1 hx hb hT hown hG hW hS v19 q144 dX1_clawBack_24 (fun H locs hW hS => ?_)
  refine lv_aload_n hx hb dX1_clawBack_27 rfl (lv_at hl 0 rfl) ?_
  refine g4_0 hx hb hT hown hG hW v0 q593 dX1_clawBack_28 ?_
  have o28 := ag_W.okf hW (k := 4) (f := 0) (t := 2) rfl rfl (by decide) x0
  refine lv_dup hx hb dX1_clawBack_31 (ag_cat _) ?_
  obtain ⟨m32, hf⟩ := ag_n hf
  have e32 := (ag_refq (z := z) (p := p) o28 m32)
  have v32 := (ag_ref (z := z) (p := p) o28 m32).2
  rw [e32]
  refine g2_4 hx hb hT hown hG hW v32 q314 dX1_clawBack_32 ?_
  refine lv_iload_n hx hb dX1_clawBack_35 rfl (lv_at hl 1 rfl) ?_
  refine lv_iadd hx hb dX1_clawBack_36 ?_
  refine u2_4 hx hb hT hown hG hW hS v32 q314 dX1_clawBack_37 (fun H locs hW hS => ?_)
  exact ag_vret hx hb hr hlocks hS (Option.some.inj hf ▸ hW) dX1_clawBack_40
end
