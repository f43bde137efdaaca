-- ===== PART A: goes FIRST, ahead of the names: the tables' words, and 'selects' of the private methods out of them =====
/-- a private method of a class that the tables say can be made, by its rows of tables_1 -/
def lw_okq (q : MethodName × Nat) : Prop := (q.1.cls ≠ "java/lang/invoke/MethodHandle" ∧ q.1.cls ≠ "java/lang/invoke/VarHandle") ∧ Cond.instantiable q.1.cls q.2 ∈ tables_1 ∧ Cond.privateMethod q.1 ∈ tables_1 ∧ Cond.instanceMethod q.1 ∈ tables_1
theorem lw_p0 : lw_okq (⟨"BookHouse", "bookOf", "(I)LBookHouse$Book;"⟩, 14) := ⟨⟨by decide +kernel, by decide +kernel⟩, List.mem_of_getElem? (i := 18) (by decide +kernel), List.mem_of_getElem? (i := 502) (by decide +kernel), List.mem_of_getElem? (i := 503) (by decide +kernel)⟩
theorem lw_p1 : lw_okq (⟨"BookHouse", "setOf", "(I)J"⟩, 14) := ⟨⟨by decide +kernel, by decide +kernel⟩, List.mem_of_getElem? (i := 18) (by decide +kernel), List.mem_of_getElem? (i := 506) (by decide +kernel), List.mem_of_getElem? (i := 507) (by decide +kernel)⟩
theorem lw_p2 : lw_okq (⟨"BookHouse$Book", "clear", "()V"⟩, 17) := ⟨⟨by decide +kernel, by decide +kernel⟩, List.mem_of_getElem? (i := 254) (by decide +kernel), List.mem_of_getElem? (i := 514) (by decide +kernel), List.mem_of_getElem? (i := 515) (by decide +kernel)⟩
theorem lw_p3 : lw_okq (⟨"BookHouse$Book", "whatComesOf", "(I)I"⟩, 17) := ⟨⟨by decide +kernel, by decide +kernel⟩, List.mem_of_getElem? (i := 254) (by decide +kernel), List.mem_of_getElem? (i := 521) (by decide +kernel), List.mem_of_getElem? (i := 522) (by decide +kernel)⟩
theorem lw_p4 : lw_okq (⟨"BookHouse$Book", "bringAbout", "(I)V"⟩, 17) := ⟨⟨by decide +kernel, by decide +kernel⟩, List.mem_of_getElem? (i := 254) (by decide +kernel), List.mem_of_getElem? (i := 533) (by decide +kernel), List.mem_of_getElem? (i := 534) (by decide +kernel)⟩
theorem lw_p5 : lw_okq (⟨"BookHouse$Book", "insert", "(III)V"⟩, 17) := ⟨⟨by decide +kernel, by decide +kernel⟩, List.mem_of_getElem? (i := 254) (by decide +kernel), List.mem_of_getElem? (i := 540) (by decide +kernel), List.mem_of_getElem? (i := 541) (by decide +kernel)⟩
theorem lw_p6 : lw_okq (⟨"BookHouse$Book", "lastIn", "(I)I"⟩, 17) := ⟨⟨by decide +kernel, by decide +kernel⟩, List.mem_of_getElem? (i := 254) (by decide +kernel), List.mem_of_getElem? (i := 544) (by decide +kernel), List.mem_of_getElem? (i := 545) (by decide +kernel)⟩
theorem lw_p7 : lw_okq (⟨"BookHouse$Book", "takeOut", "(I)V"⟩, 17) := ⟨⟨by decide +kernel, by decide +kernel⟩, List.mem_of_getElem? (i := 254) (by decide +kernel), List.mem_of_getElem? (i := 548) (by decide +kernel), List.mem_of_getElem? (i := 549) (by decide +kernel)⟩
theorem lw_p8 : lw_okq (⟨"BookHouse$Book", "raiseUnlessFirm", "(I)V"⟩, 17) := ⟨⟨by decide +kernel, by decide +kernel⟩, List.mem_of_getElem? (i := 254) (by decide +kernel), List.mem_of_getElem? (i := 552) (by decide +kernel), List.mem_of_getElem? (i := 553) (by decide +kernel)⟩
theorem lw_p9 : lw_okq (⟨"BookHouse$Book", "speak", "(II)V"⟩, 17) := ⟨⟨by decide +kernel, by decide +kernel⟩, List.mem_of_getElem? (i := 254) (by decide +kernel), List.mem_of_getElem? (i := 557) (by decide +kernel), List.mem_of_getElem? (i := 558) (by decide +kernel)⟩
theorem lw_p10 : lw_okq (⟨"BookHouse$Book", "readThrough", "()V"⟩, 17) := ⟨⟨by decide +kernel, by decide +kernel⟩, List.mem_of_getElem? (i := 254) (by decide +kernel), List.mem_of_getElem? (i := 579) (by decide +kernel), List.mem_of_getElem? (i := 580) (by decide +kernel)⟩
theorem lw_p11 : lw_okq (⟨"BookHouse$Book", "nextOutside", "(I)I"⟩, 17) := ⟨⟨by decide +kernel, by decide +kernel⟩, List.mem_of_getElem? (i := 254) (by decide +kernel), List.mem_of_getElem? (i := 587) (by decide +kernel), List.mem_of_getElem? (i := 588) (by decide +kernel)⟩
theorem lw_p12 : lw_okq (⟨"BookHouse", "make", "(IIIII)I"⟩, 14) := ⟨⟨by decide +kernel, by decide +kernel⟩, List.mem_of_getElem? (i := 18) (by decide +kernel), List.mem_of_getElem? (i := 599) (by decide +kernel), List.mem_of_getElem? (i := 600) (by decide +kernel)⟩
theorem lw_p13 : lw_okq (⟨"BookHouse$Log", "greatestStamp", "(J)I"⟩, 12) := ⟨⟨by decide +kernel, by decide +kernel⟩, List.mem_of_getElem? (i := 26) (by decide +kernel), List.mem_of_getElem? (i := 607) (by decide +kernel), List.mem_of_getElem? (i := 608) (by decide +kernel)⟩
theorem lw_p14 : lw_okq (⟨"BookHouse$Log", "fileByStamp", "(I)V"⟩, 12) := ⟨⟨by decide +kernel, by decide +kernel⟩, List.mem_of_getElem? (i := 26) (by decide +kernel), List.mem_of_getElem? (i := 613) (by decide +kernel), List.mem_of_getElem? (i := 614) (by decide +kernel)⟩
theorem lw_p15 : lw_okq (⟨"BookHouse$Log", "isAhead", "(II)Z"⟩, 12) := ⟨⟨by decide +kernel, by decide +kernel⟩, List.mem_of_getElem? (i := 26) (by decide +kernel), List.mem_of_getElem? (i := 617) (by decide +kernel), List.mem_of_getElem? (i := 618) (by decide +kernel)⟩
def lw_privs_1 : List (MethodName × Nat) := [(⟨"BookHouse", "bookOf", "(I)LBookHouse$Book;"⟩, 14), (⟨"BookHouse", "setOf", "(I)J"⟩, 14), (⟨"BookHouse$Book", "clear", "()V"⟩, 17), (⟨"BookHouse$Book", "whatComesOf", "(I)I"⟩, 17), (⟨"BookHouse$Book", "bringAbout", "(I)V"⟩, 17), (⟨"BookHouse$Book", "insert", "(III)V"⟩, 17), (⟨"BookHouse$Book", "lastIn", "(I)I"⟩, 17), (⟨"BookHouse$Book", "takeOut", "(I)V"⟩, 17), (⟨"BookHouse$Book", "raiseUnlessFirm", "(I)V"⟩, 17), (⟨"BookHouse$Book", "speak", "(II)V"⟩, 17), (⟨"BookHouse$Book", "readThrough", "()V"⟩, 17), (⟨"BookHouse$Book", "nextOutside", "(I)I"⟩, 17), (⟨"BookHouse", "make", "(IIIII)I"⟩, 14), (⟨"BookHouse$Log", "greatestStamp", "(J)I"⟩, 12), (⟨"BookHouse$Log", "fileByStamp", "(I)V"⟩, 12), (⟨"BookHouse$Log", "isAhead", "(II)Z"⟩, 12)]
theorem lw_r1 : ∀ q ∈ lw_privs_1, lw_okq q := List.forall_mem_cons.mpr ⟨lw_p0, List.forall_mem_cons.mpr ⟨lw_p1, List.forall_mem_cons.mpr ⟨lw_p2, List.forall_mem_cons.mpr ⟨lw_p3, List.forall_mem_cons.mpr ⟨lw_p4, List.forall_mem_cons.mpr ⟨lw_p5, List.forall_mem_cons.mpr ⟨lw_p6, List.forall_mem_cons.mpr ⟨lw_p7, List.forall_mem_cons.mpr ⟨lw_p8, List.forall_mem_cons.mpr ⟨lw_p9, List.forall_mem_cons.mpr ⟨lw_p10, List.forall_mem_cons.mpr ⟨lw_p11, List.forall_mem_cons.mpr ⟨lw_p12, List.forall_mem_cons.mpr ⟨lw_p13, List.forall_mem_cons.mpr ⟨lw_p14, List.forall_mem_cons.mpr ⟨lw_p15, fun _ h => absurd h List.not_mem_nil⟩⟩⟩⟩⟩⟩⟩⟩⟩⟩⟩⟩⟩⟩⟩⟩
theorem lw_p16 : lw_okq (⟨"BookHouse", "makeWords", "(IILBookHouse$Row;)I"⟩, 14) := ⟨⟨by decide +kernel, by decide +kernel⟩, List.mem_of_getElem? (i := 18) (by decide +kernel), List.mem_of_getElem? (i := 640) (by decide +kernel), List.mem_of_getElem? (i := 641) (by decide +kernel)⟩
theorem lw_p17 : lw_okq (⟨"BookHouse$Book", "countsBeside", "(II)Z"⟩, 17) := ⟨⟨by decide +kernel, by decide +kernel⟩, List.mem_of_getElem? (i := 254) (by decide +kernel), List.mem_of_getElem? (i := 675) (by decide +kernel), List.mem_of_getElem? (i := 676) (by decide +kernel)⟩
theorem lw_p18 : lw_okq (⟨"BookHouse", "makeAsIn", "(LBookHouse$Book;III)I"⟩, 14) := ⟨⟨by decide +kernel, by decide +kernel⟩, List.mem_of_getElem? (i := 18) (by decide +kernel), List.mem_of_getElem? (i := 684) (by decide +kernel), List.mem_of_getElem? (i := 685) (by decide +kernel)⟩
theorem lw_p19 : lw_okq (⟨"BookHouse", "isChange", "(I)Z"⟩, 14) := ⟨⟨by decide +kernel, by decide +kernel⟩, List.mem_of_getElem? (i := 18) (by decide +kernel), List.mem_of_getElem? (i := 706) (by decide +kernel), List.mem_of_getElem? (i := 707) (by decide +kernel)⟩
theorem lw_p20 : lw_okq (⟨"BookHouse", "isSource", "(I)Z"⟩, 14) := ⟨⟨by decide +kernel, by decide +kernel⟩, List.mem_of_getElem? (i := 18) (by decide +kernel), List.mem_of_getElem? (i := 714) (by decide +kernel), List.mem_of_getElem? (i := 715) (by decide +kernel)⟩
theorem lw_p21 : lw_okq (⟨"BookHouse", "isPiece", "(I)Z"⟩, 14) := ⟨⟨by decide +kernel, by decide +kernel⟩, List.mem_of_getElem? (i := 18) (by decide +kernel), List.mem_of_getElem? (i := 733) (by decide +kernel), List.mem_of_getElem? (i := 734) (by decide +kernel)⟩
theorem lw_p22 : lw_okq (⟨"BookHouse$Consent", "isMet", "(ILBookHouse$Book;)Z"⟩, 9) := ⟨⟨by decide +kernel, by decide +kernel⟩, List.mem_of_getElem? (i := 142) (by decide +kernel), List.mem_of_getElem? (i := 818) (by decide +kernel), List.mem_of_getElem? (i := 819) (by decide +kernel)⟩
theorem lw_p23 : lw_okq (⟨"BookHouse", "isEdition", "(I)Z"⟩, 14) := ⟨⟨by decide +kernel, by decide +kernel⟩, List.mem_of_getElem? (i := 18) (by decide +kernel), List.mem_of_getElem? (i := 919) (by decide +kernel), List.mem_of_getElem? (i := 920) (by decide +kernel)⟩
theorem lw_p24 : lw_okq (⟨"BookHouse", "setEdition", "(I)V"⟩, 14) := ⟨⟨by decide +kernel, by decide +kernel⟩, List.mem_of_getElem? (i := 18) (by decide +kernel), List.mem_of_getElem? (i := 923) (by decide +kernel), List.mem_of_getElem? (i := 924) (by decide +kernel)⟩
theorem lw_p25 : lw_okq (⟨"BookHouse$Setting", "prepare", "(I)V"⟩, 16) := ⟨⟨by decide +kernel, by decide +kernel⟩, List.mem_of_getElem? (i := 325) (by decide +kernel), List.mem_of_getElem? (i := 932) (by decide +kernel), List.mem_of_getElem? (i := 933) (by decide +kernel)⟩
theorem lw_p26 : lw_okq (⟨"BookHouse$Setting", "setAll", "(II)V"⟩, 16) := ⟨⟨by decide +kernel, by decide +kernel⟩, List.mem_of_getElem? (i := 325) (by decide +kernel), List.mem_of_getElem? (i := 940) (by decide +kernel), List.mem_of_getElem? (i := 941) (by decide +kernel)⟩
theorem lw_p27 : lw_okq (⟨"BookHouse$Setting", "setSentence", "(II)V"⟩, 16) := ⟨⟨by decide +kernel, by decide +kernel⟩, List.mem_of_getElem? (i := 325) (by decide +kernel), List.mem_of_getElem? (i := 948) (by decide +kernel), List.mem_of_getElem? (i := 949) (by decide +kernel)⟩
theorem lw_p28 : lw_okq (⟨"BookHouse$Setting", "digitsOf", "(I)I"⟩, 16) := ⟨⟨by decide +kernel, by decide +kernel⟩, List.mem_of_getElem? (i := 325) (by decide +kernel), List.mem_of_getElem? (i := 952) (by decide +kernel), List.mem_of_getElem? (i := 953) (by decide +kernel)⟩
theorem lw_p29 : lw_okq (⟨"BookHouse$Breaking", "breakFrom", "(II)V"⟩, 4) := ⟨⟨by decide +kernel, by decide +kernel⟩, List.mem_of_getElem? (i := 331) (by decide +kernel), List.mem_of_getElem? (i := 964) (by decide +kernel), List.mem_of_getElem? (i := 965) (by decide +kernel)⟩
theorem lw_p30 : lw_okq (⟨"BookHouse$Setting", "isOtherThanBefore", "()Z"⟩, 16) := ⟨⟨by decide +kernel, by decide +kernel⟩, List.mem_of_getElem? (i := 325) (by decide +kernel), List.mem_of_getElem? (i := 985) (by decide +kernel), List.mem_of_getElem? (i := 986) (by decide +kernel)⟩
theorem lw_p31 : lw_okq (⟨"BookHouse", "countElsewhere", "()I"⟩, 14) := ⟨⟨by decide +kernel, by decide +kernel⟩, List.mem_of_getElem? (i := 18) (by decide +kernel), List.mem_of_getElem? (i := 1033) (by decide +kernel), List.mem_of_getElem? (i := 1034) (by decide +kernel)⟩
def lw_privs_2 : List (MethodName × Nat) := [(⟨"BookHouse", "makeWords", "(IILBookHouse$Row;)I"⟩, 14), (⟨"BookHouse$Book", "countsBeside", "(II)Z"⟩, 17), (⟨"BookHouse", "makeAsIn", "(LBookHouse$Book;III)I"⟩, 14), (⟨"BookHouse", "isChange", "(I)Z"⟩, 14), (⟨"BookHouse", "isSource", "(I)Z"⟩, 14), (⟨"BookHouse", "isPiece", "(I)Z"⟩, 14), (⟨"BookHouse$Consent", "isMet", "(ILBookHouse$Book;)Z"⟩, 9), (⟨"BookHouse", "isEdition", "(I)Z"⟩, 14), (⟨"BookHouse", "setEdition", "(I)V"⟩, 14), (⟨"BookHouse$Setting", "prepare", "(I)V"⟩, 16), (⟨"BookHouse$Setting", "setAll", "(II)V"⟩, 16), (⟨"BookHouse$Setting", "setSentence", "(II)V"⟩, 16), (⟨"BookHouse$Setting", "digitsOf", "(I)I"⟩, 16), (⟨"BookHouse$Breaking", "breakFrom", "(II)V"⟩, 4), (⟨"BookHouse$Setting", "isOtherThanBefore", "()Z"⟩, 16), (⟨"BookHouse", "countElsewhere", "()I"⟩, 14)]
theorem lw_r2 : ∀ q ∈ lw_privs_2, lw_okq q := List.forall_mem_cons.mpr ⟨lw_p16, List.forall_mem_cons.mpr ⟨lw_p17, List.forall_mem_cons.mpr ⟨lw_p18, List.forall_mem_cons.mpr ⟨lw_p19, List.forall_mem_cons.mpr ⟨lw_p20, List.forall_mem_cons.mpr ⟨lw_p21, List.forall_mem_cons.mpr ⟨lw_p22, List.forall_mem_cons.mpr ⟨lw_p23, List.forall_mem_cons.mpr ⟨lw_p24, List.forall_mem_cons.mpr ⟨lw_p25, List.forall_mem_cons.mpr ⟨lw_p26, List.forall_mem_cons.mpr ⟨lw_p27, List.forall_mem_cons.mpr ⟨lw_p28, List.forall_mem_cons.mpr ⟨lw_p29, List.forall_mem_cons.mpr ⟨lw_p30, List.forall_mem_cons.mpr ⟨lw_p31, fun _ h => absurd h List.not_mem_nil⟩⟩⟩⟩⟩⟩⟩⟩⟩⟩⟩⟩⟩⟩⟩⟩
theorem lw_p32 : lw_okq (⟨"BookHouse", "isElsewhere", "(I)Z"⟩, 14) := ⟨⟨by decide +kernel, by decide +kernel⟩, List.mem_of_getElem? (i := 18) (by decide +kernel), List.mem_of_getElem? (i := 1037) (by decide +kernel), List.mem_of_getElem? (i := 1038) (by decide +kernel)⟩
theorem lw_p33 : lw_okq (⟨"BookHouse", "isSeenInBoth", "(I)Z"⟩, 14) := ⟨⟨by decide +kernel, by decide +kernel⟩, List.mem_of_getElem? (i := 18) (by decide +kernel), List.mem_of_getElem? (i := 1041) (by decide +kernel), List.mem_of_getElem? (i := 1042) (by decide +kernel)⟩
theorem lw_p34 : lw_okq (⟨"BookHouse", "countSaidOtherwise", "()I"⟩, 14) := ⟨⟨by decide +kernel, by decide +kernel⟩, List.mem_of_getElem? (i := 18) (by decide +kernel), List.mem_of_getElem? (i := 1045) (by decide +kernel), List.mem_of_getElem? (i := 1046) (by decide +kernel)⟩
theorem lw_p35 : lw_okq (⟨"BookHouse", "countOtherNumbers", "()I"⟩, 14) := ⟨⟨by decide +kernel, by decide +kernel⟩, List.mem_of_getElem? (i := 18) (by decide +kernel), List.mem_of_getElem? (i := 1054) (by decide +kernel), List.mem_of_getElem? (i := 1055) (by decide +kernel)⟩
theorem lw_p36 : lw_okq (⟨"BookHouse", "firstPageElsewhere", "()I"⟩, 14) := ⟨⟨by decide +kernel, by decide +kernel⟩, List.mem_of_getElem? (i := 18) (by decide +kernel), List.mem_of_getElem? (i := 1058) (by decide +kernel), List.mem_of_getElem? (i := 1059) (by decide +kernel)⟩
theorem lw_p37 : lw_okq (⟨"BookHouseModel", "work", "(JI)V"⟩, 82) := ⟨⟨by decide +kernel, by decide +kernel⟩, List.mem_of_getElem? (i := 1072) (by decide +kernel), List.mem_of_getElem? (i := 1344) (by decide +kernel), List.mem_of_getElem? (i := 1345) (by decide +kernel)⟩
theorem lw_p38 : lw_okq (⟨"BookHouseModel", "sort", "()V"⟩, 82) := ⟨⟨by decide +kernel, by decide +kernel⟩, List.mem_of_getElem? (i := 1072) (by decide +kernel), List.mem_of_getElem? (i := 1348) (by decide +kernel), List.mem_of_getElem? (i := 1349) (by decide +kernel)⟩
theorem lw_p39 : lw_okq (⟨"BookHouseModel", "isAhead", "(II)Z"⟩, 82) := ⟨⟨by decide +kernel, by decide +kernel⟩, List.mem_of_getElem? (i := 1072) (by decide +kernel), List.mem_of_getElem? (i := 1352) (by decide +kernel), List.mem_of_getElem? (i := 1353) (by decide +kernel)⟩
theorem lw_p40 : lw_okq (⟨"BookHouseModel", "clear", "()V"⟩, 82) := ⟨⟨by decide +kernel, by decide +kernel⟩, List.mem_of_getElem? (i := 1072) (by decide +kernel), List.mem_of_getElem? (i := 1356) (by decide +kernel), List.mem_of_getElem? (i := 1357) (by decide +kernel)⟩
theorem lw_p41 : lw_okq (⟨"BookHouseModel", "apply", "(I)I"⟩, 82) := ⟨⟨by decide +kernel, by decide +kernel⟩, List.mem_of_getElem? (i := 1072) (by decide +kernel), List.mem_of_getElem? (i := 1363) (by decide +kernel), List.mem_of_getElem? (i := 1364) (by decide +kernel)⟩
theorem lw_p42 : lw_okq (⟨"BookHouseModel", "canGo", "(I)Z"⟩, 82) := ⟨⟨by decide +kernel, by decide +kernel⟩, List.mem_of_getElem? (i := 1072) (by decide +kernel), List.mem_of_getElem? (i := 1367) (by decide +kernel), List.mem_of_getElem? (i := 1368) (by decide +kernel)⟩
theorem lw_p43 : lw_okq (⟨"BookHouseModel", "putIn", "(III)V"⟩, 82) := ⟨⟨by decide +kernel, by decide +kernel⟩, List.mem_of_getElem? (i := 1072) (by decide +kernel), List.mem_of_getElem? (i := 1371) (by decide +kernel), List.mem_of_getElem? (i := 1372) (by decide +kernel)⟩
theorem lw_p44 : lw_okq (⟨"BookHouseModel", "isWithin", "(II)Z"⟩, 82) := ⟨⟨by decide +kernel, by decide +kernel⟩, List.mem_of_getElem? (i := 1072) (by decide +kernel), List.mem_of_getElem? (i := 1378) (by decide +kernel), List.mem_of_getElem? (i := 1379) (by decide +kernel)⟩
theorem lw_p45 : lw_okq (⟨"BookHouseModel", "takeOut", "(I)V"⟩, 82) := ⟨⟨by decide +kernel, by decide +kernel⟩, List.mem_of_getElem? (i := 1072) (by decide +kernel), List.mem_of_getElem? (i := 1382) (by decide +kernel), List.mem_of_getElem? (i := 1383) (by decide +kernel)⟩
theorem lw_p46 : lw_okq (⟨"BookHouseModel", "reword", "(II)V"⟩, 82) := ⟨⟨by decide +kernel, by decide +kernel⟩, List.mem_of_getElem? (i := 1072) (by decide +kernel), List.mem_of_getElem? (i := 1386) (by decide +kernel), List.mem_of_getElem? (i := 1387) (by decide +kernel)⟩
theorem lw_p47 : lw_okq (⟨"BookHouseModel", "mayGoUnder", "(I)Z"⟩, 82) := ⟨⟨by decide +kernel, by decide +kernel⟩, List.mem_of_getElem? (i := 1072) (by decide +kernel), List.mem_of_getElem? (i := 1390) (by decide +kernel), List.mem_of_getElem? (i := 1391) (by decide +kernel)⟩
def lw_privs_3 : List (MethodName × Nat) := [(⟨"BookHouse", "isElsewhere", "(I)Z"⟩, 14), (⟨"BookHouse", "isSeenInBoth", "(I)Z"⟩, 14), (⟨"BookHouse", "countSaidOtherwise", "()I"⟩, 14), (⟨"BookHouse", "countOtherNumbers", "()I"⟩, 14), (⟨"BookHouse", "firstPageElsewhere", "()I"⟩, 14), (⟨"BookHouseModel", "work", "(JI)V"⟩, 82), (⟨"BookHouseModel", "sort", "()V"⟩, 82), (⟨"BookHouseModel", "isAhead", "(II)Z"⟩, 82), (⟨"BookHouseModel", "clear", "()V"⟩, 82), (⟨"BookHouseModel", "apply", "(I)I"⟩, 82), (⟨"BookHouseModel", "canGo", "(I)Z"⟩, 82), (⟨"BookHouseModel", "putIn", "(III)V"⟩, 82), (⟨"BookHouseModel", "isWithin", "(II)Z"⟩, 82), (⟨"BookHouseModel", "takeOut", "(I)V"⟩, 82), (⟨"BookHouseModel", "reword", "(II)V"⟩, 82), (⟨"BookHouseModel", "mayGoUnder", "(I)Z"⟩, 82)]
theorem lw_r3 : ∀ q ∈ lw_privs_3, lw_okq q := List.forall_mem_cons.mpr ⟨lw_p32, List.forall_mem_cons.mpr ⟨lw_p33, List.forall_mem_cons.mpr ⟨lw_p34, List.forall_mem_cons.mpr ⟨lw_p35, List.forall_mem_cons.mpr ⟨lw_p36, List.forall_mem_cons.mpr ⟨lw_p37, List.forall_mem_cons.mpr ⟨lw_p38, List.forall_mem_cons.mpr ⟨lw_p39, List.forall_mem_cons.mpr ⟨lw_p40, List.forall_mem_cons.mpr ⟨lw_p41, List.forall_mem_cons.mpr ⟨lw_p42, List.forall_mem_cons.mpr ⟨lw_p43, List.forall_mem_cons.mpr ⟨lw_p44, List.forall_mem_cons.mpr ⟨lw_p45, List.forall_mem_cons.mpr ⟨lw_p46, List.forall_mem_cons.mpr ⟨lw_p47, fun _ h => absurd h List.not_mem_nil⟩⟩⟩⟩⟩⟩⟩⟩⟩⟩⟩⟩⟩⟩⟩⟩
theorem lw_p48 : lw_okq (⟨"BookHouseModel", "isThereNow", "(I)Z"⟩, 82) := ⟨⟨by decide +kernel, by decide +kernel⟩, List.mem_of_getElem? (i := 1072) (by decide +kernel), List.mem_of_getElem? (i := 1394) (by decide +kernel), List.mem_of_getElem? (i := 1395) (by decide +kernel)⟩
theorem lw_p49 : lw_okq (⟨"BookHouseModel", "isPiece", "(I)Z"⟩, 82) := ⟨⟨by decide +kernel, by decide +kernel⟩, List.mem_of_getElem? (i := 1072) (by decide +kernel), List.mem_of_getElem? (i := 1398) (by decide +kernel), List.mem_of_getElem? (i := 1399) (by decide +kernel)⟩
theorem lw_p50 : lw_okq (⟨"BookHouseModel", "make", "(IIIII)I"⟩, 82) := ⟨⟨by decide +kernel, by decide +kernel⟩, List.mem_of_getElem? (i := 1072) (by decide +kernel), List.mem_of_getElem? (i := 1402) (by decide +kernel), List.mem_of_getElem? (i := 1403) (by decide +kernel)⟩
theorem lw_p51 : lw_okq (⟨"BookHouseModel", "whyNot", "(IIZ)I"⟩, 82) := ⟨⟨by decide +kernel, by decide +kernel⟩, List.mem_of_getElem? (i := 1072) (by decide +kernel), List.mem_of_getElem? (i := 1410) (by decide +kernel), List.mem_of_getElem? (i := 1411) (by decide +kernel)⟩
theorem lw_p52 : lw_okq (⟨"BookHouseModel", "hasSay", "(JI)Z"⟩, 82) := ⟨⟨by decide +kernel, by decide +kernel⟩, List.mem_of_getElem? (i := 1072) (by decide +kernel), List.mem_of_getElem? (i := 1435) (by decide +kernel), List.mem_of_getElem? (i := 1436) (by decide +kernel)⟩
theorem lw_p53 : lw_okq (⟨"BookHouseModel", "outdoes", "(II)Z"⟩, 82) := ⟨⟨by decide +kernel, by decide +kernel⟩, List.mem_of_getElem? (i := 1072) (by decide +kernel), List.mem_of_getElem? (i := 1439) (by decide +kernel), List.mem_of_getElem? (i := 1440) (by decide +kernel)⟩
theorem lw_p54 : lw_okq (⟨"BookHouseModel", "makeWords", "(II)I"⟩, 82) := ⟨⟨by decide +kernel, by decide +kernel⟩, List.mem_of_getElem? (i := 1072) (by decide +kernel), List.mem_of_getElem? (i := 1443) (by decide +kernel), List.mem_of_getElem? (i := 1444) (by decide +kernel)⟩
theorem lw_p55 : lw_okq (⟨"BookHouseModel", "isSource", "(I)Z"⟩, 82) := ⟨⟨by decide +kernel, by decide +kernel⟩, List.mem_of_getElem? (i := 1072) (by decide +kernel), List.mem_of_getElem? (i := 1468) (by decide +kernel), List.mem_of_getElem? (i := 1469) (by decide +kernel)⟩
theorem lw_p56 : lw_okq (⟨"BookHouseModel", "setOf", "(I)J"⟩, 82) := ⟨⟨by decide +kernel, by decide +kernel⟩, List.mem_of_getElem? (i := 1072) (by decide +kernel), List.mem_of_getElem? (i := 1473) (by decide +kernel), List.mem_of_getElem? (i := 1474) (by decide +kernel)⟩
theorem lw_p57 : lw_okq (⟨"BookHouseModel", "unroll", "(I)V"⟩, 82) := ⟨⟨by decide +kernel, by decide +kernel⟩, List.mem_of_getElem? (i := 1072) (by decide +kernel), List.mem_of_getElem? (i := 1485) (by decide +kernel), List.mem_of_getElem? (i := 1486) (by decide +kernel)⟩
theorem lw_p58 : lw_okq (⟨"BookHouseModel", "readAll", "()V"⟩, 82) := ⟨⟨by decide +kernel, by decide +kernel⟩, List.mem_of_getElem? (i := 1072) (by decide +kernel), List.mem_of_getElem? (i := 1489) (by decide +kernel), List.mem_of_getElem? (i := 1490) (by decide +kernel)⟩
theorem lw_p59 : lw_okq (⟨"BookHouseModel", "isSeen", "(I)Z"⟩, 82) := ⟨⟨by decide +kernel, by decide +kernel⟩, List.mem_of_getElem? (i := 1072) (by decide +kernel), List.mem_of_getElem? (i := 1493) (by decide +kernel), List.mem_of_getElem? (i := 1494) (by decide +kernel)⟩
theorem lw_p60 : lw_okq (⟨"BookHouseModel", "childrenOf", "(I)I"⟩, 82) := ⟨⟨by decide +kernel, by decide +kernel⟩, List.mem_of_getElem? (i := 1072) (by decide +kernel), List.mem_of_getElem? (i := 1501) (by decide +kernel), List.mem_of_getElem? (i := 1502) (by decide +kernel)⟩
theorem lw_p61 : lw_okq (⟨"BookHouseModel", "depth", "(I)I"⟩, 82) := ⟨⟨by decide +kernel, by decide +kernel⟩, List.mem_of_getElem? (i := 1072) (by decide +kernel), List.mem_of_getElem? (i := 1505) (by decide +kernel), List.mem_of_getElem? (i := 1506) (by decide +kernel)⟩
theorem lw_p62 : lw_okq (⟨"BookHouseModel", "areAlike", "(II)Z"⟩, 82) := ⟨⟨by decide +kernel, by decide +kernel⟩, List.mem_of_getElem? (i := 1072) (by decide +kernel), List.mem_of_getElem? (i := 1521) (by decide +kernel), List.mem_of_getElem? (i := 1522) (by decide +kernel)⟩
theorem lw_p63 : lw_okq (⟨"BookHouseModel", "doClash", "(JJII)Z"⟩, 82) := ⟨⟨by decide +kernel, by decide +kernel⟩, List.mem_of_getElem? (i := 1072) (by decide +kernel), List.mem_of_getElem? (i := 1537) (by decide +kernel), List.mem_of_getElem? (i := 1538) (by decide +kernel)⟩
def lw_privs_4 : List (MethodName × Nat) := [(⟨"BookHouseModel", "isThereNow", "(I)Z"⟩, 82), (⟨"BookHouseModel", "isPiece", "(I)Z"⟩, 82), (⟨"BookHouseModel", "make", "(IIIII)I"⟩, 82), (⟨"BookHouseModel", "whyNot", "(IIZ)I"⟩, 82), (⟨"BookHouseModel", "hasSay", "(JI)Z"⟩, 82), (⟨"BookHouseModel", "outdoes", "(II)Z"⟩, 82), (⟨"BookHouseModel", "makeWords", "(II)I"⟩, 82), (⟨"BookHouseModel", "isSource", "(I)Z"⟩, 82), (⟨"BookHouseModel", "setOf", "(I)J"⟩, 82), (⟨"BookHouseModel", "unroll", "(I)V"⟩, 82), (⟨"BookHouseModel", "readAll", "()V"⟩, 82), (⟨"BookHouseModel", "isSeen", "(I)Z"⟩, 82), (⟨"BookHouseModel", "childrenOf", "(I)I"⟩, 82), (⟨"BookHouseModel", "depth", "(I)I"⟩, 82), (⟨"BookHouseModel", "areAlike", "(II)Z"⟩, 82), (⟨"BookHouseModel", "doClash", "(JJII)Z"⟩, 82)]
theorem lw_r4 : ∀ q ∈ lw_privs_4, lw_okq q := List.forall_mem_cons.mpr ⟨lw_p48, List.forall_mem_cons.mpr ⟨lw_p49, List.forall_mem_cons.mpr ⟨lw_p50, List.forall_mem_cons.mpr ⟨lw_p51, List.forall_mem_cons.mpr ⟨lw_p52, List.forall_mem_cons.mpr ⟨lw_p53, List.forall_mem_cons.mpr ⟨lw_p54, List.forall_mem_cons.mpr ⟨lw_p55, List.forall_mem_cons.mpr ⟨lw_p56, List.forall_mem_cons.mpr ⟨lw_p57, List.forall_mem_cons.mpr ⟨lw_p58, List.forall_mem_cons.mpr ⟨lw_p59, List.forall_mem_cons.mpr ⟨lw_p60, List.forall_mem_cons.mpr ⟨lw_p61, List.forall_mem_cons.mpr ⟨lw_p62, List.forall_mem_cons.mpr ⟨lw_p63, fun _ h => absurd h List.not_mem_nil⟩⟩⟩⟩⟩⟩⟩⟩⟩⟩⟩⟩⟩⟩⟩⟩
theorem lw_p64 : lw_okq (⟨"BookHouseModel", "hasKind", "(JII)Z"⟩, 82) := ⟨⟨by decide +kernel, by decide +kernel⟩, List.mem_of_getElem? (i := 1072) (by decide +kernel), List.mem_of_getElem? (i := 1541) (by decide +kernel), List.mem_of_getElem? (i := 1542) (by decide +kernel)⟩
theorem lw_p65 : lw_okq (⟨"BookHouseModel", "gatherText", "(I)V"⟩, 82) := ⟨⟨by decide +kernel, by decide +kernel⟩, List.mem_of_getElem? (i := 1072) (by decide +kernel), List.mem_of_getElem? (i := 1558) (by decide +kernel), List.mem_of_getElem? (i := 1559) (by decide +kernel)⟩
theorem lw_p66 : lw_okq (⟨"BookHouseModel", "unmet", "()I"⟩, 82) := ⟨⟨by decide +kernel, by decide +kernel⟩, List.mem_of_getElem? (i := 1072) (by decide +kernel), List.mem_of_getElem? (i := 1566) (by decide +kernel), List.mem_of_getElem? (i := 1567) (by decide +kernel)⟩
theorem lw_p67 : lw_okq (⟨"BookHouseModel", "isMet", "(I)Z"⟩, 82) := ⟨⟨by decide +kernel, by decide +kernel⟩, List.mem_of_getElem? (i := 1072) (by decide +kernel), List.mem_of_getElem? (i := 1570) (by decide +kernel), List.mem_of_getElem? (i := 1571) (by decide +kernel)⟩
theorem lw_p68 : lw_okq (⟨"BookHouseModel", "isStale", "(II)Z"⟩, 82) := ⟨⟨by decide +kernel, by decide +kernel⟩, List.mem_of_getElem? (i := 1072) (by decide +kernel), List.mem_of_getElem? (i := 1585) (by decide +kernel), List.mem_of_getElem? (i := 1586) (by decide +kernel)⟩
theorem lw_p69 : lw_okq (⟨"BookHouseModel", "pairOf", "(II)I"⟩, 82) := ⟨⟨by decide +kernel, by decide +kernel⟩, List.mem_of_getElem? (i := 1072) (by decide +kernel), List.mem_of_getElem? (i := 1589) (by decide +kernel), List.mem_of_getElem? (i := 1590) (by decide +kernel)⟩
theorem lw_p70 : lw_okq (⟨"BookHouseModel", "agrees", "(II)Z"⟩, 82) := ⟨⟨by decide +kernel, by decide +kernel⟩, List.mem_of_getElem? (i := 1072) (by decide +kernel), List.mem_of_getElem? (i := 1593) (by decide +kernel), List.mem_of_getElem? (i := 1594) (by decide +kernel)⟩
theorem lw_p71 : lw_okq (⟨"BookHouseModel", "costOf", "(II)I"⟩, 82) := ⟨⟨by decide +kernel, by decide +kernel⟩, List.mem_of_getElem? (i := 1072) (by decide +kernel), List.mem_of_getElem? (i := 1601) (by decide +kernel), List.mem_of_getElem? (i := 1602) (by decide +kernel)⟩
theorem lw_p72 : lw_okq (⟨"BookHouseModel", "isUnlike", "(II)Z"⟩, 82) := ⟨⟨by decide +kernel, by decide +kernel⟩, List.mem_of_getElem? (i := 1072) (by decide +kernel), List.mem_of_getElem? (i := 1620) (by decide +kernel), List.mem_of_getElem? (i := 1621) (by decide +kernel)⟩
theorem lw_p73 : lw_okq (⟨"BookHouseModel", "oftenIn", "(III)I"⟩, 82) := ⟨⟨by decide +kernel, by decide +kernel⟩, List.mem_of_getElem? (i := 1072) (by decide +kernel), List.mem_of_getElem? (i := 1624) (by decide +kernel), List.mem_of_getElem? (i := 1625) (by decide +kernel)⟩
theorem lw_p74 : lw_okq (⟨"BookHouseModel", "isEdition", "(I)Z"⟩, 82) := ⟨⟨by decide +kernel, by decide +kernel⟩, List.mem_of_getElem? (i := 1072) (by decide +kernel), List.mem_of_getElem? (i := 1637) (by decide +kernel), List.mem_of_getElem? (i := 1638) (by decide +kernel)⟩
theorem lw_p75 : lw_okq (⟨"BookHouseModel", "setEdition", "(I)V"⟩, 82) := ⟨⟨by decide +kernel, by decide +kernel⟩, List.mem_of_getElem? (i := 1072) (by decide +kernel), List.mem_of_getElem? (i := 1641) (by decide +kernel), List.mem_of_getElem? (i := 1642) (by decide +kernel)⟩
theorem lw_p76 : lw_okq (⟨"BookHouseModel", "setSheet", "(IJIII)V"⟩, 82) := ⟨⟨by decide +kernel, by decide +kernel⟩, List.mem_of_getElem? (i := 1072) (by decide +kernel), List.mem_of_getElem? (i := 1645) (by decide +kernel), List.mem_of_getElem? (i := 1646) (by decide +kernel)⟩
theorem lw_p77 : lw_okq (⟨"BookHouseModel", "saySheet", "(II)V"⟩, 82) := ⟨⟨by decide +kernel, by decide +kernel⟩, List.mem_of_getElem? (i := 1072) (by decide +kernel), List.mem_of_getElem? (i := 1649) (by decide +kernel), List.mem_of_getElem? (i := 1650) (by decide +kernel)⟩
theorem lw_p78 : lw_okq (⟨"BookHouseModel", "setRound", "(III)V"⟩, 82) := ⟨⟨by decide +kernel, by decide +kernel⟩, List.mem_of_getElem? (i := 1072) (by decide +kernel), List.mem_of_getElem? (i := 1653) (by decide +kernel), List.mem_of_getElem? (i := 1654) (by decide +kernel)⟩
theorem lw_p79 : lw_okq (⟨"BookHouseModel", "setSentence", "(IIII)V"⟩, 82) := ⟨⟨by decide +kernel, by decide +kernel⟩, List.mem_of_getElem? (i := 1072) (by decide +kernel), List.mem_of_getElem? (i := 1657) (by decide +kernel), List.mem_of_getElem? (i := 1658) (by decide +kernel)⟩
def lw_privs_5 : List (MethodName × Nat) := [(⟨"BookHouseModel", "hasKind", "(JII)Z"⟩, 82), (⟨"BookHouseModel", "gatherText", "(I)V"⟩, 82), (⟨"BookHouseModel", "unmet", "()I"⟩, 82), (⟨"BookHouseModel", "isMet", "(I)Z"⟩, 82), (⟨"BookHouseModel", "isStale", "(II)Z"⟩, 82), (⟨"BookHouseModel", "pairOf", "(II)I"⟩, 82), (⟨"BookHouseModel", "agrees", "(II)Z"⟩, 82), (⟨"BookHouseModel", "costOf", "(II)I"⟩, 82), (⟨"BookHouseModel", "isUnlike", "(II)Z"⟩, 82), (⟨"BookHouseModel", "oftenIn", "(III)I"⟩, 82), (⟨"BookHouseModel", "isEdition", "(I)Z"⟩, 82), (⟨"BookHouseModel", "setEdition", "(I)V"⟩, 82), (⟨"BookHouseModel", "setSheet", "(IJIII)V"⟩, 82), (⟨"BookHouseModel", "saySheet", "(II)V"⟩, 82), (⟨"BookHouseModel", "setRound", "(III)V"⟩, 82), (⟨"BookHouseModel", "setSentence", "(IIII)V"⟩, 82)]
theorem lw_r5 : ∀ q ∈ lw_privs_5, lw_okq q := List.forall_mem_cons.mpr ⟨lw_p64, List.forall_mem_cons.mpr ⟨lw_p65, List.forall_mem_cons.mpr ⟨lw_p66, List.forall_mem_cons.mpr ⟨lw_p67, List.forall_mem_cons.mpr ⟨lw_p68, List.forall_mem_cons.mpr ⟨lw_p69, List.forall_mem_cons.mpr ⟨lw_p70, List.forall_mem_cons.mpr ⟨lw_p71, List.forall_mem_cons.mpr ⟨lw_p72, List.forall_mem_cons.mpr ⟨lw_p73, List.forall_mem_cons.mpr ⟨lw_p74, List.forall_mem_cons.mpr ⟨lw_p75, List.forall_mem_cons.mpr ⟨lw_p76, List.forall_mem_cons.mpr ⟨lw_p77, List.forall_mem_cons.mpr ⟨lw_p78, List.forall_mem_cons.mpr ⟨lw_p79, fun _ h => absurd h List.not_mem_nil⟩⟩⟩⟩⟩⟩⟩⟩⟩⟩⟩⟩⟩⟩⟩⟩
theorem lw_p80 : lw_okq (⟨"BookHouseModel", "layWide", "(II)V"⟩, 82) := ⟨⟨by decide +kernel, by decide +kernel⟩, List.mem_of_getElem? (i := 1072) (by decide +kernel), List.mem_of_getElem? (i := 1661) (by decide +kernel), List.mem_of_getElem? (i := 1662) (by decide +kernel)⟩
theorem lw_p81 : lw_okq (⟨"BookHouseModel", "tells", "(I)Z"⟩, 82) := ⟨⟨by decide +kernel, by decide +kernel⟩, List.mem_of_getElem? (i := 1072) (by decide +kernel), List.mem_of_getElem? (i := 1665) (by decide +kernel), List.mem_of_getElem? (i := 1666) (by decide +kernel)⟩
theorem lw_p82 : lw_okq (⟨"BookHouseModel", "breakLines", "(III)V"⟩, 82) := ⟨⟨by decide +kernel, by decide +kernel⟩, List.mem_of_getElem? (i := 1072) (by decide +kernel), List.mem_of_getElem? (i := 1672) (by decide +kernel), List.mem_of_getElem? (i := 1673) (by decide +kernel)⟩
theorem lw_p83 : lw_okq (⟨"BookHouseModel", "widthOf", "(II)I"⟩, 82) := ⟨⟨by decide +kernel, by decide +kernel⟩, List.mem_of_getElem? (i := 1072) (by decide +kernel), List.mem_of_getElem? (i := 1676) (by decide +kernel), List.mem_of_getElem? (i := 1677) (by decide +kernel)⟩
theorem lw_p84 : lw_okq (⟨"BookHouseModel", "leftOf", "(III)I"⟩, 82) := ⟨⟨by decide +kernel, by decide +kernel⟩, List.mem_of_getElem? (i := 1072) (by decide +kernel), List.mem_of_getElem? (i := 1680) (by decide +kernel), List.mem_of_getElem? (i := 1681) (by decide +kernel)⟩
theorem lw_p85 : lw_okq (⟨"BookHouseModel", "setLines", "(II)I"⟩, 82) := ⟨⟨by decide +kernel, by decide +kernel⟩, List.mem_of_getElem? (i := 1072) (by decide +kernel), List.mem_of_getElem? (i := 1684) (by decide +kernel), List.mem_of_getElem? (i := 1685) (by decide +kernel)⟩
theorem lw_p86 : lw_okq (⟨"BookHouseModel", "isAsWas", "(I)Z"⟩, 82) := ⟨⟨by decide +kernel, by decide +kernel⟩, List.mem_of_getElem? (i := 1072) (by decide +kernel), List.mem_of_getElem? (i := 1688) (by decide +kernel), List.mem_of_getElem? (i := 1689) (by decide +kernel)⟩
theorem lw_p87 : lw_okq (⟨"BookHouseModel", "isSaidOn", "(II)Z"⟩, 82) := ⟨⟨by decide +kernel, by decide +kernel⟩, List.mem_of_getElem? (i := 1072) (by decide +kernel), List.mem_of_getElem? (i := 1704) (by decide +kernel), List.mem_of_getElem? (i := 1705) (by decide +kernel)⟩
theorem lw_p88 : lw_okq (⟨"BookHouseModel", "isElsewhere", "(I)Z"⟩, 82) := ⟨⟨by decide +kernel, by decide +kernel⟩, List.mem_of_getElem? (i := 1072) (by decide +kernel), List.mem_of_getElem? (i := 1712) (by decide +kernel), List.mem_of_getElem? (i := 1713) (by decide +kernel)⟩
theorem lw_p89 : lw_okq (⟨"BookHouseModel", "isSaidOtherwise", "(I)Z"⟩, 82) := ⟨⟨by decide +kernel, by decide +kernel⟩, List.mem_of_getElem? (i := 1072) (by decide +kernel), List.mem_of_getElem? (i := 1716) (by decide +kernel), List.mem_of_getElem? (i := 1717) (by decide +kernel)⟩
def lw_privs_6 : List (MethodName × Nat) := [(⟨"BookHouseModel", "layWide", "(II)V"⟩, 82), (⟨"BookHouseModel", "tells", "(I)Z"⟩, 82), (⟨"BookHouseModel", "breakLines", "(III)V"⟩, 82), (⟨"BookHouseModel", "widthOf", "(II)I"⟩, 82), (⟨"BookHouseModel", "leftOf", "(III)I"⟩, 82), (⟨"BookHouseModel", "setLines", "(II)I"⟩, 82), (⟨"BookHouseModel", "isAsWas", "(I)Z"⟩, 82), (⟨"BookHouseModel", "isSaidOn", "(II)Z"⟩, 82), (⟨"BookHouseModel", "isElsewhere", "(I)Z"⟩, 82), (⟨"BookHouseModel", "isSaidOtherwise", "(I)Z"⟩, 82)]
theorem lw_r6 : ∀ q ∈ lw_privs_6, lw_okq q := List.forall_mem_cons.mpr ⟨lw_p80, List.forall_mem_cons.mpr ⟨lw_p81, List.forall_mem_cons.mpr ⟨lw_p82, List.forall_mem_cons.mpr ⟨lw_p83, List.forall_mem_cons.mpr ⟨lw_p84, List.forall_mem_cons.mpr ⟨lw_p85, List.forall_mem_cons.mpr ⟨lw_p86, List.forall_mem_cons.mpr ⟨lw_p87, List.forall_mem_cons.mpr ⟨lw_p88, List.forall_mem_cons.mpr ⟨lw_p89, fun _ h => absurd h List.not_mem_nil⟩⟩⟩⟩⟩⟩⟩⟩⟩⟩
def lw_privs : List (MethodName × Nat) := lw_privs_1 ++ (lw_privs_2 ++ (lw_privs_3 ++ (lw_privs_4 ++ (lw_privs_5 ++ (lw_privs_6)))))
def lw_tbl : List Cond := k2_sels lw_privs ++ tables_1
theorem lw_privs_ok : ∀ q ∈ lw_privs, lw_okq q := by
  show ∀ q ∈ lw_privs_1 ++ (lw_privs_2 ++ (lw_privs_3 ++ (lw_privs_4 ++ (lw_privs_5 ++ (lw_privs_6))))), lw_okq q
  exact List.forall_mem_append.mpr ⟨lw_r1, List.forall_mem_append.mpr ⟨lw_r2, List.forall_mem_append.mpr ⟨lw_r3, List.forall_mem_append.mpr ⟨lw_r4, List.forall_mem_append.mpr ⟨lw_r5, lw_r6⟩⟩⟩⟩⟩
def RX0 : String := "BookHouse$Book"
def TX0 : u_T := fun k => match k with
  | 0 => ("BookHouse$Book", "log", "LBookHouse$Log;", true)
  | 1 => ("BookHouse$Book", "set", "J", false)
  | 2 => ("BookHouse$Book", "firm", "I", false)
  | 3 => ("BookHouse$Book", "there", "J", false)
  | 4 => ("BookHouse$Book", "struck", "J", false)
  | 5 => ("BookHouse$Book", "visible", "J", false)
  | 6 => ("BookHouse$Book", "came", "[I", true)
  | 7 => ("BookHouse$Book", "under", "[I", true)
  | 8 => ("BookHouse$Book", "ahead", "[I", true)
  | 9 => ("BookHouse$Book", "next", "[I", true)
  | 10 => ("BookHouse$Book", "first", "[I", true)
  | 11 => ("BookHouse$Book", "spoken", "[I", true)
  | 12 => ("BookHouse$Book", "who", "[I", true)
  | 13 => ("BookHouse$Book", "note", "[I", true)
  | 14 => ("BookHouse$Book", "tie", "[I", true)
  | 15 => ("BookHouse$Book", "read", "[I", true)
  | _ => ("BookHouse$Book", "readCount", "I", false)
def tyX0 : Nat → FieldType := fun k => match k with
  | 0 => .object "BookHouse$Log"
  | 1 => .long
  | 2 => .int
  | 3 => .long
  | 4 => .long
  | 5 => .long
  | 6 => .array .int
  | 7 => .array .int
  | 8 => .array .int
  | 9 => .array .int
  | 10 => .array .int
  | 11 => .array .int
  | 12 => .array .int
  | 13 => .array .int
  | 14 => .array .int
  | 15 => .array .int
  | _ => .int
abbrev wsX00 : List Cond := u_ws RX0 TX0 17
theorem nmX0 : ∀ a, a < 17 → ∀ b, b < 17 → a ≠ b → (TX0 a).2.1 ≠ (TX0 b).2.1 := by decide +kernel
theorem tyX0_ok : ∀ k, k < 17 → parseFieldDescriptor (TX0 k).2.2.1 = some (tyX0 k) := by decide +kernel
abbrev cX0_init : ByteArray := prog_2_method_1_code
def yX0_init : MethodName := ⟨RX0, "<init>", "(LBookHouse$Log;)V"⟩
abbrev cX0_work : ByteArray := prog_2_method_2_code
def yX0_work : MethodName := ⟨RX0, "work", "(JI)V"⟩
abbrev cX0_clear : ByteArray := prog_2_method_3_code
def yX0_clear : MethodName := ⟨RX0, "clear", "()V"⟩
abbrev cX0_whatComesOf : ByteArray := prog_2_method_4_code
def yX0_whatComesOf : MethodName := ⟨RX0, "whatComesOf", "(I)I"⟩
abbrev cX0_bringAbout : ByteArray := prog_2_method_5_code
def yX0_bringAbout : MethodName := ⟨RX0, "bringAbout", "(I)V"⟩
abbrev cX0_raiseUnlessFirm : ByteArray := prog_2_method_6_code
def yX0_raiseUnlessFirm : MethodName := ⟨RX0, "raiseUnlessFirm", "(I)V"⟩
abbrev cX0_takeOut : ByteArray := prog_2_method_7_code
def yX0_takeOut : MethodName := ⟨RX0, "takeOut", "(I)V"⟩
abbrev cX0_insert : ByteArray := prog_2_method_8_code
def yX0_insert : MethodName := ⟨RX0, "insert", "(III)V"⟩
abbrev cX0_lastIn : ByteArray := prog_2_method_9_code
def yX0_lastIn : MethodName := ⟨RX0, "lastIn", "(I)I"⟩
abbrev cX0_speak : ByteArray := prog_2_method_10_code
def yX0_speak : MethodName := ⟨RX0, "speak", "(II)V"⟩
abbrev cX0_readThrough : ByteArray := prog_2_method_11_code
def yX0_readThrough : MethodName := ⟨RX0, "readThrough", "()V"⟩
abbrev cX0_nextOutside : ByteArray := prog_2_method_12_code
def yX0_nextOutside : MethodName := ⟨RX0, "nextOutside", "(I)I"⟩
abbrev cX0_isThere : ByteArray := prog_2_method_13_code
def yX0_isThere : MethodName := ⟨RX0, "isThere", "(I)Z"⟩
abbrev cX0_isStruck : ByteArray := prog_2_method_14_code
def yX0_isStruck : MethodName := ⟨RX0, "isStruck", "(I)Z"⟩
abbrev cX0_isSeen : ByteArray := prog_2_method_15_code
def yX0_isSeen : MethodName := ⟨RX0, "isSeen", "(I)Z"⟩
abbrev cX0_isSentence : ByteArray := prog_2_method_16_code
def yX0_isSentence : MethodName := ⟨RX0, "isSentence", "(I)Z"⟩
abbrev cX0_isPlace : ByteArray := prog_2_method_17_code
def yX0_isPlace : MethodName := ⟨RX0, "isPlace", "(I)Z"⟩
abbrev cX0_isToStandBehind : ByteArray := prog_2_method_18_code
def yX0_isToStandBehind : MethodName := ⟨RX0, "isToStandBehind", "(I)Z"⟩
abbrev cX0_isWithin : ByteArray := prog_2_method_19_code
def yX0_isWithin : MethodName := ⟨RX0, "isWithin", "(II)Z"⟩
abbrev cX0_partsAround : ByteArray := prog_2_method_20_code
def yX0_partsAround : MethodName := ⟨RX0, "partsAround", "(I)I"⟩
abbrev cX0_rightIn : ByteArray := prog_2_method_21_code
def yX0_rightIn : MethodName := ⟨RX0, "rightIn", "(I)I"⟩
abbrev cX0_wordsOf : ByteArray := prog_2_method_22_code
def yX0_wordsOf : MethodName := ⟨RX0, "wordsOf", "(I)LBookHouse$Row;"⟩
abbrev cX0_gather : ByteArray := prog_2_method_23_code
def yX0_gather : MethodName := ⟨RX0, "gather", "(ILBookHouse$Row;)V"⟩
abbrev cX0_hasSay : ByteArray := prog_2_method_24_code
def yX0_hasSay : MethodName := ⟨RX0, "hasSay", "(I)Z"⟩
abbrev cX0_countsBeside : ByteArray := prog_2_method_25_code
def yX0_countsBeside : MethodName := ⟨RX0, "countsBeside", "(II)Z"⟩
def RX1 : String := "BookHouse$Breaking"
def TX1 : u_T := fun k => match k with
  | 0 => ("BookHouse$Breaking", "wide", "[I", true)
  | 1 => ("BookHouse$Breaking", "least", "[I", true)
  | 2 => ("BookHouse$Breaking", "end", "[I", true)
  | _ => ("BookHouse$Breaking", "count", "I", false)
def tyX1 : Nat → FieldType := fun k => match k with
  | 0 => .array .int
  | 1 => .array .int
  | 2 => .array .int
  | _ => .int
abbrev wsX10 : List Cond := u_ws RX1 TX1 4
theorem nmX1 : ∀ a, a < 4 → ∀ b, b < 4 → a ≠ b → (TX1 a).2.1 ≠ (TX1 b).2.1 := by decide +kernel
theorem tyX1_ok : ∀ k, k < 4 → parseFieldDescriptor (TX1 k).2.2.1 = some (tyX1 k) := by decide +kernel
abbrev cX1_init : ByteArray := prog_3_method_1_code
def yX1_init : MethodName := ⟨RX1, "<init>", "()V"⟩
abbrev cX1_fill : ByteArray := prog_3_method_2_code
def yX1_fill : MethodName := ⟨RX1, "fill", "(LBookHouse$Row;I)V"⟩
abbrev cX1_breakUp : ByteArray := prog_3_method_3_code
def yX1_breakUp : MethodName := ⟨RX1, "breakUp", "(I)V"⟩
abbrev cX1_breakFrom : ByteArray := prog_3_method_4_code
def yX1_breakFrom : MethodName := ⟨RX1, "breakFrom", "(II)V"⟩
abbrev cX1_squares : ByteArray := prog_3_method_5_code
def yX1_squares : MethodName := ⟨RX1, "squares", "()I"⟩
def RX2 : String := "BookHouse$Consent"
def TX2 : u_T := fun k => match k with
  | 0 => ("BookHouse$Consent", "folds", "LBookHouse$Folds;", true)
  | 1 => ("BookHouse$Consent", "ruleHand", "[I", true)
  | 2 => ("BookHouse$Consent", "rulePiece", "[I", true)
  | 3 => ("BookHouse$Consent", "rules", "I", false)
  | 4 => ("BookHouse$Consent", "yesHand", "[I", true)
  | 5 => ("BookHouse$Consent", "yesPiece", "[I", true)
  | 6 => ("BookHouse$Consent", "covered", "[LBookHouse$Row;", true)
  | 7 => ("BookHouse$Consent", "yeses", "I", false)
  | _ => ("BookHouse$Consent", "heard", "LBookHouse$Row;", true)
def tyX2 : Nat → FieldType := fun k => match k with
  | 0 => .object "BookHouse$Folds"
  | 1 => .array .int
  | 2 => .array .int
  | 3 => .int
  | 4 => .array .int
  | 5 => .array .int
  | 6 => .array (.object "BookHouse$Row")
  | 7 => .int
  | _ => .object "BookHouse$Row"
abbrev wsX20 : List Cond := u_ws RX2 TX2 9
theorem nmX2 : ∀ a, a < 9 → ∀ b, b < 9 → a ≠ b → (TX2 a).2.1 ≠ (TX2 b).2.1 := by decide +kernel
theorem tyX2_ok : ∀ k, k < 9 → parseFieldDescriptor (TX2 k).2.2.1 = some (tyX2 k) := by decide +kernel
abbrev cX2_init : ByteArray := prog_4_method_1_code
def yX2_init : MethodName := ⟨RX2, "<init>", "(LBookHouse$Folds;)V"⟩
abbrev cX2_addRule : ByteArray := prog_4_method_2_code
def yX2_addRule : MethodName := ⟨RX2, "addRule", "(II)V"⟩
abbrev cX2_addYes : ByteArray := prog_4_method_3_code
def yX2_addYes : MethodName := ⟨RX2, "addYes", "(IILBookHouse$Book;)V"⟩
abbrev cX2_unmet : ByteArray := prog_4_method_4_code
def yX2_unmet : MethodName := ⟨RX2, "unmet", "(LBookHouse$Book;)I"⟩
abbrev cX2_isMet : ByteArray := prog_4_method_5_code
def yX2_isMet : MethodName := ⟨RX2, "isMet", "(ILBookHouse$Book;)Z"⟩
def RX3 : String := "BookHouse$Folds"
def TX3 : u_T := fun k => match k with
  | 0 => ("BookHouse$Folds", "kin", "[I", true)
  | 1 => ("BookHouse$Folds", "cost", "[I", true)
  | _ => ("BookHouse$Folds", "count", "I", false)
def tyX3 : Nat → FieldType := fun k => match k with
  | 0 => .array .int
  | 1 => .array .int
  | _ => .int
abbrev wsX30 : List Cond := u_ws RX3 TX3 3
theorem nmX3 : ∀ a, a < 3 → ∀ b, b < 3 → a ≠ b → (TX3 a).2.1 ≠ (TX3 b).2.1 := by decide +kernel
theorem tyX3_ok : ∀ k, k < 3 → parseFieldDescriptor (TX3 k).2.2.1 = some (tyX3 k) := by decide +kernel
abbrev cX3_init : ByteArray := prog_5_method_1_code
def yX3_init : MethodName := ⟨RX3, "<init>", "()V"⟩
abbrev cX3_join : ByteArray := prog_5_method_2_code
def yX3_join : MethodName := ⟨RX3, "join", "(II)V"⟩
abbrev cX3_areRowsAlike : ByteArray := prog_5_method_3_code
def yX3_areRowsAlike : MethodName := ⟨RX3, "areRowsAlike", "(LBookHouse$Row;LBookHouse$Row;)Z"⟩
abbrev cX3_standsAt : ByteArray := prog_5_method_4_code
def yX3_standsAt : MethodName := ⟨RX3, "standsAt", "(LBookHouse$Row;LBookHouse$Row;I)Z"⟩
abbrev cX3_costOf : ByteArray := prog_5_method_5_code
def yX3_costOf : MethodName := ⟨RX3, "costOf", "(LBookHouse$Row;LBookHouse$Row;)I"⟩
def RX4 : String := "BookHouse$Log"
def TX4 : u_T := fun k => match k with
  | 0 => ("BookHouse$Log", "kind", "[I", true)
  | 1 => ("BookHouse$Log", "hand", "[I", true)
  | 2 => ("BookHouse$Log", "stamp", "[I", true)
  | 3 => ("BookHouse$Log", "piece", "[I", true)
  | 4 => ("BookHouse$Log", "target", "[I", true)
  | 5 => ("BookHouse$Log", "behind", "[I", true)
  | 6 => ("BookHouse$Log", "sort", "[I", true)
  | 7 => ("BookHouse$Log", "high", "[I", true)
  | 8 => ("BookHouse$Log", "words", "[LBookHouse$Row;", true)
  | 9 => ("BookHouse$Log", "nothing", "LBookHouse$Row;", true)
  | 10 => ("BookHouse$Log", "order", "[I", true)
  | _ => ("BookHouse$Log", "made", "I", false)
def tyX4 : Nat → FieldType := fun k => match k with
  | 0 => .array .int
  | 1 => .array .int
  | 2 => .array .int
  | 3 => .array .int
  | 4 => .array .int
  | 5 => .array .int
  | 6 => .array .int
  | 7 => .array .int
  | 8 => .array (.object "BookHouse$Row")
  | 9 => .object "BookHouse$Row"
  | 10 => .array .int
  | _ => .int
abbrev wsX40 : List Cond := u_ws RX4 TX4 12
theorem nmX4 : ∀ a, a < 12 → ∀ b, b < 12 → a ≠ b → (TX4 a).2.1 ≠ (TX4 b).2.1 := by decide +kernel
theorem tyX4_ok : ∀ k, k < 12 → parseFieldDescriptor (TX4 k).2.2.1 = some (tyX4 k) := by decide +kernel
abbrev cX4_init : ByteArray := prog_6_method_1_code
def yX4_init : MethodName := ⟨RX4, "<init>", "()V"⟩
abbrev cX4_isFull : ByteArray := prog_6_method_2_code
def yX4_isFull : MethodName := ⟨RX4, "isFull", "()Z"⟩
abbrev cX4_add : ByteArray := prog_6_method_3_code
def yX4_add : MethodName := ⟨RX4, "add", "(IIJ)I"⟩
abbrev cX4_greatestStamp : ByteArray := prog_6_method_4_code
def yX4_greatestStamp : MethodName := ⟨RX4, "greatestStamp", "(J)I"⟩
abbrev cX4_fileByStamp : ByteArray := prog_6_method_5_code
def yX4_fileByStamp : MethodName := ⟨RX4, "fileByStamp", "(I)V"⟩
abbrev cX4_isAhead : ByteArray := prog_6_method_6_code
def yX4_isAhead : MethodName := ⟨RX4, "isAhead", "(II)Z"⟩
abbrev cX4_aheadOf : ByteArray := prog_6_method_7_code
def yX4_aheadOf : MethodName := ⟨RX4, "aheadOf", "(IJ)J"⟩
abbrev cX4_kindsUpon : ByteArray := prog_6_method_8_code
def yX4_kindsUpon : MethodName := ⟨RX4, "kindsUpon", "(IJ)I"⟩
def RX5 : String := "BookHouse$Paper"
def TX5 : u_T := fun k => match k with
  | 0 => ("BookHouse$Paper", "height", "I", false)
  | 1 => ("BookHouse$Paper", "current", "I", false)
  | 2 => ("BookHouse$Paper", "used", "I", false)
  | _ => ("BookHouse$Paper", "linesLeft", "I", false)
def tyX5 : Nat → FieldType := fun k => match k with
  | 0 => .int
  | 1 => .int
  | 2 => .int
  | _ => .int
abbrev wsX50 : List Cond := u_ws RX5 TX5 4
theorem nmX5 : ∀ a, a < 4 → ∀ b, b < 4 → a ≠ b → (TX5 a).2.1 ≠ (TX5 b).2.1 := by decide +kernel
theorem tyX5_ok : ∀ k, k < 4 → parseFieldDescriptor (TX5 k).2.2.1 = some (tyX5 k) := by decide +kernel
abbrev cX5_init : ByteArray := prog_7_method_1_code
def yX5_init : MethodName := ⟨RX5, "<init>", "()V"⟩
abbrev cX5_begin : ByteArray := prog_7_method_2_code
def yX5_begin : MethodName := ⟨RX5, "begin", "(I)V"⟩
abbrev cX5_take : ByteArray := prog_7_method_3_code
def yX5_take : MethodName := ⟨RX5, "take", "(I)I"⟩
abbrev cX5_whereOneLineWouldCome : ByteArray := prog_7_method_4_code
def yX5_whereOneLineWouldCome : MethodName := ⟨RX5, "whereOneLineWouldCome", "()I"⟩
abbrev cX5_pagesInAll : ByteArray := prog_7_method_5_code
def yX5_pagesInAll : MethodName := ⟨RX5, "pagesInAll", "()I"⟩
def RX6 : String := "BookHouse$Row"
def TX6 : u_T := fun k => match k with
  | 0 => ("BookHouse$Row", "word", "[I", true)
  | _ => ("BookHouse$Row", "count", "I", false)
def tyX6 : Nat → FieldType := fun k => match k with
  | 0 => .array .int
  | _ => .int
abbrev wsX60 : List Cond := u_ws RX6 TX6 2
theorem nmX6 : ∀ a, a < 2 → ∀ b, b < 2 → a ≠ b → (TX6 a).2.1 ≠ (TX6 b).2.1 := by decide +kernel
theorem tyX6_ok : ∀ k, k < 2 → parseFieldDescriptor (TX6 k).2.2.1 = some (tyX6 k) := by decide +kernel
abbrev cX6_init : ByteArray := prog_8_method_1_code
def yX6_init : MethodName := ⟨RX6, "<init>", "(I)V"⟩
abbrev cX6_isFull : ByteArray := prog_8_method_2_code
def yX6_isFull : MethodName := ⟨RX6, "isFull", "()Z"⟩
abbrev cX6_add : ByteArray := prog_8_method_3_code
def yX6_add : MethodName := ⟨RX6, "add", "(I)V"⟩
abbrev cX6_append : ByteArray := prog_8_method_4_code
def yX6_append : MethodName := ⟨RX6, "append", "(LBookHouse$Row;)V"⟩
abbrev cX6_copy : ByteArray := prog_8_method_5_code
def yX6_copy : MethodName := ⟨RX6, "copy", "(LBookHouse$Row;)V"⟩
abbrev cX6_clear : ByteArray := prog_8_method_6_code
def yX6_clear : MethodName := ⟨RX6, "clear", "()V"⟩
abbrev cX6_isSameAs : ByteArray := prog_8_method_7_code
def yX6_isSameAs : MethodName := ⟨RX6, "isSameAs", "(LBookHouse$Row;)Z"⟩
abbrev cX6_sameFromFirst : ByteArray := prog_8_method_8_code
def yX6_sameFromFirst : MethodName := ⟨RX6, "sameFromFirst", "(LBookHouse$Row;)I"⟩
abbrev cX6_sameFromLast : ByteArray := prog_8_method_9_code
def yX6_sameFromLast : MethodName := ⟨RX6, "sameFromLast", "(LBookHouse$Row;I)I"⟩
abbrev cX6_howOften : ByteArray := prog_8_method_10_code
def yX6_howOften : MethodName := ⟨RX6, "howOften", "(I)I"⟩
def RX7 : String := "BookHouse$Setting"
def TX7 : u_T := fun k => match k with
  | 0 => ("BookHouse$Setting", "log", "LBookHouse$Log;", true)
  | 1 => ("BookHouse$Setting", "tongues", "LBookHouse$Tongues;", true)
  | 2 => ("BookHouse$Setting", "book", "LBookHouse$Book;", true)
  | 3 => ("BookHouse$Setting", "breaking", "LBookHouse$Breaking;", true)
  | 4 => ("BookHouse$Setting", "paper", "LBookHouse$Paper;", true)
  | 5 => ("BookHouse$Setting", "said", "[LBookHouse$Row;", true)
  | 6 => ("BookHouse$Setting", "tiedTo", "[I", true)
  | 7 => ("BookHouse$Setting", "page", "[I", true)
  | 8 => ("BookHouse$Setting", "pageBefore", "[I", true)
  | 9 => ("BookHouse$Setting", "lineCount", "[I", true)
  | 10 => ("BookHouse$Setting", "linePage", "[I", true)
  | 11 => ("BookHouse$Setting", "lineWords", "[I", true)
  | 12 => ("BookHouse$Setting", "rounds", "I", false)
  | 13 => ("BookHouse$Setting", "goesRound", "Z", false)
  | 14 => ("BookHouse$Setting", "allLines", "I", false)
  | _ => ("BookHouse$Setting", "squares", "I", false)
def tyX7 : Nat → FieldType := fun k => match k with
  | 0 => .object "BookHouse$Log"
  | 1 => .object "BookHouse$Tongues"
  | 2 => .object "BookHouse$Book"
  | 3 => .object "BookHouse$Breaking"
  | 4 => .object "BookHouse$Paper"
  | 5 => .array (.object "BookHouse$Row")
  | 6 => .array .int
  | 7 => .array .int
  | 8 => .array .int
  | 9 => .array .int
  | 10 => .array .int
  | 11 => .array .int
  | 12 => .int
  | 13 => .boolean
  | 14 => .int
  | _ => .int
abbrev wsX70 : List Cond := u_ws RX7 TX7 16
theorem nmX7 : ∀ a, a < 16 → ∀ b, b < 16 → a ≠ b → (TX7 a).2.1 ≠ (TX7 b).2.1 := by decide +kernel
theorem tyX7_ok : ∀ k, k < 16 → parseFieldDescriptor (TX7 k).2.2.1 = some (tyX7 k) := by decide +kernel
abbrev cX7_init : ByteArray := prog_9_method_1_code
def yX7_init : MethodName := ⟨RX7, "<init>", "(LBookHouse$Log;LBookHouse$Tongues;LBookHouse$Book;)V"⟩
abbrev cX7_make : ByteArray := prog_9_method_2_code
def yX7_make : MethodName := ⟨RX7, "make", "(JILBookHouse$Shelf;I)V"⟩
abbrev cX7_prepare : ByteArray := prog_9_method_3_code
def yX7_prepare : MethodName := ⟨RX7, "prepare", "(I)V"⟩
abbrev cX7_isOtherThanBefore : ByteArray := prog_9_method_4_code
def yX7_isOtherThanBefore : MethodName := ⟨RX7, "isOtherThanBefore", "()Z"⟩
abbrev cX7_setAll : ByteArray := prog_9_method_5_code
def yX7_setAll : MethodName := ⟨RX7, "setAll", "(II)V"⟩
abbrev cX7_setSentence : ByteArray := prog_9_method_6_code
def yX7_setSentence : MethodName := ⟨RX7, "setSentence", "(II)V"⟩
abbrev cX7_digitsOf : ByteArray := prog_9_method_7_code
def yX7_digitsOf : MethodName := ⟨RX7, "digitsOf", "(I)I"⟩
abbrev cX7_numberOf : ByteArray := prog_9_method_8_code
def yX7_numberOf : MethodName := ⟨RX7, "numberOf", "(I)I"⟩
abbrev cX7_linesOf : ByteArray := prog_9_method_9_code
def yX7_linesOf : MethodName := ⟨RX7, "linesOf", "(I)I"⟩
abbrev cX7_lastPageOf : ByteArray := prog_9_method_10_code
def yX7_lastPageOf : MethodName := ⟨RX7, "lastPageOf", "(I)I"⟩
abbrev cX7_wordsInLine : ByteArray := prog_9_method_11_code
def yX7_wordsInLine : MethodName := ⟨RX7, "wordsInLine", "(II)I"⟩
abbrev cX7_isSaidInLine : ByteArray := prog_9_method_12_code
def yX7_isSaidInLine : MethodName := ⟨RX7, "isSaidInLine", "(III)Z"⟩
def RX8 : String := "BookHouse$Shelf"
def TX8 : u_T := fun k => match k with
  | 0 => ("BookHouse$Shelf", "set", "[J", true)
  | 1 => ("BookHouse$Shelf", "tongue", "[I", true)
  | 2 => ("BookHouse$Shelf", "width", "[I", true)
  | 3 => ("BookHouse$Shelf", "height", "[I", true)
  | _ => ("BookHouse$Shelf", "count", "I", false)
def tyX8 : Nat → FieldType := fun k => match k with
  | 0 => .array .long
  | 1 => .array .int
  | 2 => .array .int
  | 3 => .array .int
  | _ => .int
abbrev wsX80 : List Cond := u_ws RX8 TX8 5
theorem nmX8 : ∀ a, a < 5 → ∀ b, b < 5 → a ≠ b → (TX8 a).2.1 ≠ (TX8 b).2.1 := by decide +kernel
theorem tyX8_ok : ∀ k, k < 5 → parseFieldDescriptor (TX8 k).2.2.1 = some (tyX8 k) := by decide +kernel
abbrev cX8_init : ByteArray := prog_10_method_1_code
def yX8_init : MethodName := ⟨RX8, "<init>", "()V"⟩
abbrev cX8_add : ByteArray := prog_10_method_2_code
def yX8_add : MethodName := ⟨RX8, "add", "(JIII)V"⟩
def RX9 : String := "BookHouse$Tongues"
def TX9 : u_T := fun k => match k with
  | 0 => ("BookHouse$Tongues", "log", "LBookHouse$Log;", true)
  | 1 => ("BookHouse$Tongues", "folds", "LBookHouse$Folds;", true)
  | 2 => ("BookHouse$Tongues", "tongueOf", "[I", true)
  | 3 => ("BookHouse$Tongues", "piece", "[I", true)
  | 4 => ("BookHouse$Tongues", "spoken", "[I", true)
  | 5 => ("BookHouse$Tongues", "led", "[LBookHouse$Row;", true)
  | 6 => ("BookHouse$Tongues", "pairs", "I", false)
  | 7 => ("BookHouse$Tongues", "termTongue", "[I", true)
  | 8 => ("BookHouse$Tongues", "termBook", "[I", true)
  | 9 => ("BookHouse$Tongues", "termLed", "[I", true)
  | _ => ("BookHouse$Tongues", "terms", "I", false)
def tyX9 : Nat → FieldType := fun k => match k with
  | 0 => .object "BookHouse$Log"
  | 1 => .object "BookHouse$Folds"
  | 2 => .array .int
  | 3 => .array .int
  | 4 => .array .int
  | 5 => .array (.object "BookHouse$Row")
  | 6 => .int
  | 7 => .array .int
  | 8 => .array .int
  | 9 => .array .int
  | _ => .int
abbrev wsX90 : List Cond := u_ws RX9 TX9 11
theorem nmX9 : ∀ a, a < 11 → ∀ b, b < 11 → a ≠ b → (TX9 a).2.1 ≠ (TX9 b).2.1 := by decide +kernel
theorem tyX9_ok : ∀ k, k < 11 → parseFieldDescriptor (TX9 k).2.2.1 = some (tyX9 k) := by decide +kernel
abbrev cX9_init : ByteArray := prog_11_method_1_code
def yX9_init : MethodName := ⟨RX9, "<init>", "(LBookHouse$Log;LBookHouse$Folds;)V"⟩
abbrev cX9_addPair : ByteArray := prog_11_method_2_code
def yX9_addPair : MethodName := ⟨RX9, "addPair", "(IIILBookHouse$Row;)V"⟩
abbrev cX9_addTerm : ByteArray := prog_11_method_3_code
def yX9_addTerm : MethodName := ⟨RX9, "addTerm", "(III)V"⟩
abbrev cX9_bookSide : ByteArray := prog_11_method_4_code
def yX9_bookSide : MethodName := ⟨RX9, "bookSide", "(I)LBookHouse$Row;"⟩
abbrev cX9_leading : ByteArray := prog_11_method_5_code
def yX9_leading : MethodName := ⟨RX9, "leading", "(IILBookHouse$Book;)I"⟩
abbrev cX9_isStale : ByteArray := prog_11_method_6_code
def yX9_isStale : MethodName := ⟨RX9, "isStale", "(IILBookHouse$Book;)Z"⟩
abbrev cX9_isUnlike : ByteArray := prog_11_method_7_code
def yX9_isUnlike : MethodName := ⟨RX9, "isUnlike", "(IILBookHouse$Book;)Z"⟩
abbrev cX9_nearest : ByteArray := prog_11_method_8_code
def yX9_nearest : MethodName := ⟨RX9, "nearest", "(ILBookHouse$Row;)I"⟩
def RX10 : String := "BookHouse"
def TX10 : u_T := fun k => match k with
  | 0 => ("BookHouse", "log", "LBookHouse$Log;", true)
  | 1 => ("BookHouse", "has", "[J", true)
  | 2 => ("BookHouse", "pads", "[LBookHouse$Row;", true)
  | 3 => ("BookHouse", "states", "[J", true)
  | 4 => ("BookHouse", "stateCount", "I", false)
  | 5 => ("BookHouse", "firmness", "I", false)
  | 6 => ("BookHouse", "folds", "LBookHouse$Folds;", true)
  | 7 => ("BookHouse", "consent", "LBookHouse$Consent;", true)
  | 8 => ("BookHouse", "tongues", "LBookHouse$Tongues;", true)
  | 9 => ("BookHouse", "shelf", "LBookHouse$Shelf;", true)
  | 10 => ("BookHouse", "book", "LBookHouse$Book;", true)
  | 11 => ("BookHouse", "other", "LBookHouse$Book;", true)
  | 12 => ("BookHouse", "setting", "LBookHouse$Setting;", true)
  | _ => ("BookHouse", "otherwise", "LBookHouse$Setting;", true)
def tyX10 : Nat → FieldType := fun k => match k with
  | 0 => .object "BookHouse$Log"
  | 1 => .array .long
  | 2 => .array (.object "BookHouse$Row")
  | 3 => .array .long
  | 4 => .int
  | 5 => .int
  | 6 => .object "BookHouse$Folds"
  | 7 => .object "BookHouse$Consent"
  | 8 => .object "BookHouse$Tongues"
  | 9 => .object "BookHouse$Shelf"
  | 10 => .object "BookHouse$Book"
  | 11 => .object "BookHouse$Book"
  | 12 => .object "BookHouse$Setting"
  | _ => .object "BookHouse$Setting"
abbrev wsX100 : List Cond := u_ws RX10 TX10 14
theorem nmX10 : ∀ a, a < 14 → ∀ b, b < 14 → a ≠ b → (TX10 a).2.1 ≠ (TX10 b).2.1 := by decide +kernel
theorem tyX10_ok : ∀ k, k < 14 → parseFieldDescriptor (TX10 k).2.2.1 = some (tyX10 k) := by decide +kernel
abbrev cX10_init : ByteArray := prog_1_method_1_code
def yX10_init : MethodName := ⟨RX10, "<init>", "()V"⟩
abbrev cX10_word : ByteArray := prog_1_method_2_code
def yX10_word : MethodName := ⟨RX10, "word", "(II)I"⟩
abbrev cX10_put : ByteArray := prog_1_method_3_code
def yX10_put : MethodName := ⟨RX10, "put", "(IIIII)I"⟩
abbrev cX10_strike : ByteArray := prog_1_method_4_code
def yX10_strike : MethodName := ⟨RX10, "strike", "(II)I"⟩
abbrev cX10_move : ByteArray := prog_1_method_5_code
def yX10_move : MethodName := ⟨RX10, "move", "(IIII)I"⟩
abbrev cX10_words : ByteArray := prog_1_method_6_code
def yX10_words : MethodName := ⟨RX10, "words", "(II)I"⟩
abbrev cX10_note : ByteArray := prog_1_method_7_code
def yX10_note : MethodName := ⟨RX10, "note", "(III)I"⟩
abbrev cX10_tie : ByteArray := prog_1_method_8_code
def yX10_tie : MethodName := ⟨RX10, "tie", "(III)I"⟩
abbrev cX10_back : ByteArray := prog_1_method_9_code
def yX10_back : MethodName := ⟨RX10, "back", "(II)I"⟩
abbrev cX10_give : ByteArray := prog_1_method_10_code
def yX10_give : MethodName := ⟨RX10, "give", "(III)I"⟩
abbrev cX10_keep : ByteArray := prog_1_method_11_code
def yX10_keep : MethodName := ⟨RX10, "keep", "(I)I"⟩
abbrev cX10_firm : ByteArray := prog_1_method_12_code
def yX10_firm : MethodName := ⟨RX10, "firm", "(I)I"⟩
abbrev cX10_change : ByteArray := prog_1_method_13_code
def yX10_change : MethodName := ⟨RX10, "change", "(II)I"⟩
abbrev cX10_came : ByteArray := prog_1_method_14_code
def yX10_came : MethodName := ⟨RX10, "came", "(II)I"⟩
abbrev cX10_say : ByteArray := prog_1_method_15_code
def yX10_say : MethodName := ⟨RX10, "say", "(II)I"⟩
abbrev cX10_seen : ByteArray := prog_1_method_16_code
def yX10_seen : MethodName := ⟨RX10, "seen", "(II)I"⟩
abbrev cX10_piece : ByteArray := prog_1_method_17_code
def yX10_piece : MethodName := ⟨RX10, "piece", "(III)I"⟩
abbrev cX10_at : ByteArray := prog_1_method_18_code
def yX10_at : MethodName := ⟨RX10, "at", "(IIII)I"⟩
abbrev cX10_seek : ByteArray := prog_1_method_19_code
def yX10_seek : MethodName := ⟨RX10, "seek", "(III)I"⟩
abbrev cX10_digest : ByteArray := prog_1_method_20_code
def yX10_digest : MethodName := ⟨RX10, "digest", "(I)J"⟩
abbrev cX10_clash : ByteArray := prog_1_method_21_code
def yX10_clash : MethodName := ⟨RX10, "clash", "(III)I"⟩
abbrev cX10_settle : ByteArray := prog_1_method_22_code
def yX10_settle : MethodName := ⟨RX10, "settle", "(IIII)I"⟩
abbrev cX10_rule : ByteArray := prog_1_method_23_code
def yX10_rule : MethodName := ⟨RX10, "rule", "(II)I"⟩
abbrev cX10_yes : ByteArray := prog_1_method_24_code
def yX10_yes : MethodName := ⟨RX10, "yes", "(II)I"⟩
abbrev cX10_open : ByteArray := prog_1_method_25_code
def yX10_open : MethodName := ⟨RX10, "open", "(I)I"⟩
abbrev cX10_fold : ByteArray := prog_1_method_26_code
def yX10_fold : MethodName := ⟨RX10, "fold", "(II)I"⟩
abbrev cX10_lead : ByteArray := prog_1_method_27_code
def yX10_lead : MethodName := ⟨RX10, "lead", "(IIII)I"⟩
abbrev cX10_stale : ByteArray := prog_1_method_28_code
def yX10_stale : MethodName := ⟨RX10, "stale", "(III)I"⟩
abbrev cX10_offer : ByteArray := prog_1_method_29_code
def yX10_offer : MethodName := ⟨RX10, "offer", "(IIII)I"⟩
abbrev cX10_pair : ByteArray := prog_1_method_30_code
def yX10_pair : MethodName := ⟨RX10, "pair", "(III)I"⟩
abbrev cX10_term : ByteArray := prog_1_method_31_code
def yX10_term : MethodName := ⟨RX10, "term", "(III)I"⟩
abbrev cX10_unlike : ByteArray := prog_1_method_32_code
def yX10_unlike : MethodName := ⟨RX10, "unlike", "(III)I"⟩
abbrev cX10_edition : ByteArray := prog_1_method_33_code
def yX10_edition : MethodName := ⟨RX10, "edition", "(IIII)I"⟩
abbrev cX10_pages : ByteArray := prog_1_method_34_code
def yX10_pages : MethodName := ⟨RX10, "pages", "(II)I"⟩
abbrev cX10_onPage : ByteArray := prog_1_method_35_code
def yX10_onPage : MethodName := ⟨RX10, "onPage", "(III)I"⟩
abbrev cX10_line : ByteArray := prog_1_method_36_code
def yX10_line : MethodName := ⟨RX10, "line", "(III)I"⟩
abbrev cX10_index : ByteArray := prog_1_method_37_code
def yX10_index : MethodName := ⟨RX10, "index", "(III)I"⟩
abbrev cX10_reach : ByteArray := prog_1_method_38_code
def yX10_reach : MethodName := ⟨RX10, "reach", "(III)I"⟩
abbrev cX10_told : ByteArray := prog_1_method_39_code
def yX10_told : MethodName := ⟨RX10, "told", "(I)I"⟩
abbrev cX10_isHand : ByteArray := prog_1_method_40_code
def yX10_isHand : MethodName := ⟨RX10, "isHand", "(I)Z"⟩
abbrev cX10_isWord : ByteArray := prog_1_method_41_code
def yX10_isWord : MethodName := ⟨RX10, "isWord", "(I)Z"⟩
abbrev cX10_isTongue : ByteArray := prog_1_method_42_code
def yX10_isTongue : MethodName := ⟨RX10, "isTongue", "(I)Z"⟩
abbrev cX10_isSource : ByteArray := prog_1_method_43_code
def yX10_isSource : MethodName := ⟨RX10, "isSource", "(I)Z"⟩
abbrev cX10_isChange : ByteArray := prog_1_method_44_code
def yX10_isChange : MethodName := ⟨RX10, "isChange", "(I)Z"⟩
abbrev cX10_isPiece : ByteArray := prog_1_method_45_code
def yX10_isPiece : MethodName := ⟨RX10, "isPiece", "(I)Z"⟩
abbrev cX10_isEdition : ByteArray := prog_1_method_46_code
def yX10_isEdition : MethodName := ⟨RX10, "isEdition", "(I)Z"⟩
abbrev cX10_asBit : ByteArray := prog_1_method_47_code
def yX10_asBit : MethodName := ⟨RX10, "asBit", "(Z)I"⟩
abbrev cX10_bit : ByteArray := prog_1_method_48_code
def yX10_bit : MethodName := ⟨RX10, "bit", "(I)J"⟩
abbrev cX10_holds : ByteArray := prog_1_method_49_code
def yX10_holds : MethodName := ⟨RX10, "holds", "(JI)Z"⟩
abbrev cX10_setOf : ByteArray := prog_1_method_50_code
def yX10_setOf : MethodName := ⟨RX10, "setOf", "(I)J"⟩
abbrev cX10_bookOf : ByteArray := prog_1_method_51_code
def yX10_bookOf : MethodName := ⟨RX10, "bookOf", "(I)LBookHouse$Book;"⟩
abbrev cX10_make : ByteArray := prog_1_method_52_code
def yX10_make : MethodName := ⟨RX10, "make", "(IIIII)I"⟩
abbrev cX10_makeWords : ByteArray := prog_1_method_53_code
def yX10_makeWords : MethodName := ⟨RX10, "makeWords", "(IILBookHouse$Row;)I"⟩
abbrev cX10_makeAsIn : ByteArray := prog_1_method_54_code
def yX10_makeAsIn : MethodName := ⟨RX10, "makeAsIn", "(LBookHouse$Book;III)I"⟩
abbrev cX10_isClash : ByteArray := prog_1_method_55_code
def yX10_isClash : MethodName := ⟨RX10, "isClash", "(III)Z"⟩
abbrev cX10_isStruckAndUsed : ByteArray := prog_1_method_56_code
def yX10_isStruckAndUsed : MethodName := ⟨RX10, "isStruckAndUsed", "(II)Z"⟩
abbrev cX10_setEdition : ByteArray := prog_1_method_57_code
def yX10_setEdition : MethodName := ⟨RX10, "setEdition", "(I)V"⟩
abbrev cX10_isSeenInBoth : ByteArray := prog_1_method_58_code
def yX10_isSeenInBoth : MethodName := ⟨RX10, "isSeenInBoth", "(I)Z"⟩
abbrev cX10_isElsewhere : ByteArray := prog_1_method_59_code
def yX10_isElsewhere : MethodName := ⟨RX10, "isElsewhere", "(I)Z"⟩
abbrev cX10_countElsewhere : ByteArray := prog_1_method_60_code
def yX10_countElsewhere : MethodName := ⟨RX10, "countElsewhere", "()I"⟩
abbrev cX10_countSaidOtherwise : ByteArray := prog_1_method_61_code
def yX10_countSaidOtherwise : MethodName := ⟨RX10, "countSaidOtherwise", "()I"⟩
abbrev cX10_countOtherNumbers : ByteArray := prog_1_method_62_code
def yX10_countOtherNumbers : MethodName := ⟨RX10, "countOtherNumbers", "()I"⟩
abbrev cX10_firstPageElsewhere : ByteArray := prog_1_method_63_code
def yX10_firstPageElsewhere : MethodName := ⟨RX10, "firstPageElsewhere", "()I"⟩
def RX11 : String := "BookHouseModel"
def TX11 : u_T := fun k => match k with
  | 0 => ("BookHouseModel", "kindOf", "[I", true)
  | 1 => ("BookHouseModel", "handOf", "[I", true)
  | 2 => ("BookHouseModel", "countOf", "[I", true)
  | 3 => ("BookHouseModel", "pieceOf", "[I", true)
  | 4 => ("BookHouseModel", "whereOf", "[I", true)
  | 5 => ("BookHouseModel", "behindOf", "[I", true)
  | 6 => ("BookHouseModel", "sortOf", "[I", true)
  | 7 => ("BookHouseModel", "highOf", "[I", true)
  | 8 => ("BookHouseModel", "manyOf", "[I", true)
  | 9 => ("BookHouseModel", "wordsOf", "[I", true)
  | 10 => ("BookHouseModel", "changes", "I", false)
  | 11 => ("BookHouseModel", "has", "[J", true)
  | 12 => ("BookHouseModel", "states", "[J", true)
  | 13 => ("BookHouseModel", "stateMany", "I", false)
  | 14 => ("BookHouseModel", "pad", "[I", true)
  | 15 => ("BookHouseModel", "padMany", "[I", true)
  | 16 => ("BookHouseModel", "firm", "I", false)
  | 17 => ("BookHouseModel", "row", "[I", true)
  | 18 => ("BookHouseModel", "isThere", "[Z", true)
  | 19 => ("BookHouseModel", "isStruck", "[Z", true)
  | 20 => ("BookHouseModel", "around", "[I", true)
  | 21 => ("BookHouseModel", "first", "[I", true)
  | 22 => ("BookHouseModel", "next", "[I", true)
  | 23 => ("BookHouseModel", "ahead", "[I", true)
  | 24 => ("BookHouseModel", "saysMany", "[I", true)
  | 25 => ("BookHouseModel", "says", "[I", true)
  | 26 => ("BookHouseModel", "who", "[I", true)
  | 27 => ("BookHouseModel", "notes", "[I", true)
  | 28 => ("BookHouseModel", "ties", "[I", true)
  | 29 => ("BookHouseModel", "cameOf", "[I", true)
  | 30 => ("BookHouseModel", "wereSaid", "[I", true)
  | 31 => ("BookHouseModel", "wereWho", "[I", true)
  | 32 => ("BookHouseModel", "read", "[I", true)
  | 33 => ("BookHouseModel", "readMany", "I", false)
  | 34 => ("BookHouseModel", "like", "[I", true)
  | 35 => ("BookHouseModel", "folds", "I", false)
  | 36 => ("BookHouseModel", "ruleHand", "[I", true)
  | 37 => ("BookHouseModel", "rulePiece", "[I", true)
  | 38 => ("BookHouseModel", "rules", "I", false)
  | 39 => ("BookHouseModel", "yesHand", "[I", true)
  | 40 => ("BookHouseModel", "yesPiece", "[I", true)
  | 41 => ("BookHouseModel", "yesMany", "[I", true)
  | 42 => ("BookHouseModel", "yesWords", "[I", true)
  | 43 => ("BookHouseModel", "yeses", "I", false)
  | 44 => ("BookHouseModel", "text", "[I", true)
  | 45 => ("BookHouseModel", "textMany", "I", false)
  | 46 => ("BookHouseModel", "pairPiece", "[I", true)
  | 47 => ("BookHouseModel", "pairTongue", "[I", true)
  | 48 => ("BookHouseModel", "pairMany", "[I", true)
  | 49 => ("BookHouseModel", "pairWords", "[I", true)
  | 50 => ("BookHouseModel", "pairs", "I", false)
  | 51 => ("BookHouseModel", "termWord", "[I", true)
  | 52 => ("BookHouseModel", "termTongue", "[I", true)
  | 53 => ("BookHouseModel", "termOther", "[I", true)
  | 54 => ("BookHouseModel", "terms", "I", false)
  | 55 => ("BookHouseModel", "costs", "[I", true)
  | 56 => ("BookHouseModel", "editionSet", "[J", true)
  | 57 => ("BookHouseModel", "editionTongue", "[I", true)
  | 58 => ("BookHouseModel", "editionWide", "[I", true)
  | 59 => ("BookHouseModel", "editionHigh", "[I", true)
  | 60 => ("BookHouseModel", "editions", "I", false)
  | 61 => ("BookHouseModel", "onSheet", "[Z", true)
  | 62 => ("BookHouseModel", "saidMany", "[I", true)
  | 63 => ("BookHouseModel", "said", "[I", true)
  | 64 => ("BookHouseModel", "pageOf", "[I", true)
  | 65 => ("BookHouseModel", "lastPage", "[I", true)
  | 66 => ("BookHouseModel", "lineMany", "[I", true)
  | 67 => ("BookHouseModel", "lineWords", "[I", true)
  | 68 => ("BookHouseModel", "linePage", "[I", true)
  | 69 => ("BookHouseModel", "tellsOf", "[I", true)
  | 70 => ("BookHouseModel", "pagesWere", "[I", true)
  | 71 => ("BookHouseModel", "rounds", "I", false)
  | 72 => ("BookHouseModel", "goesRound", "Z", false)
  | 73 => ("BookHouseModel", "lastOf", "I", false)
  | 74 => ("BookHouseModel", "leftSquares", "I", false)
  | 75 => ("BookHouseModel", "allLines", "I", false)
  | 76 => ("BookHouseModel", "leftLines", "I", false)
  | 77 => ("BookHouseModel", "wide", "[I", true)
  | 78 => ("BookHouseModel", "wideMany", "I", false)
  | 79 => ("BookHouseModel", "bestFrom", "[I", true)
  | 80 => ("BookHouseModel", "page", "I", false)
  | _ => ("BookHouseModel", "used", "I", false)
def tyX11 : Nat → FieldType := fun k => match k with
  | 0 => .array .int
  | 1 => .array .int
  | 2 => .array .int
  | 3 => .array .int
  | 4 => .array .int
  | 5 => .array .int
  | 6 => .array .int
  | 7 => .array .int
  | 8 => .array .int
  | 9 => .array .int
  | 10 => .int
  | 11 => .array .long
  | 12 => .array .long
  | 13 => .int
  | 14 => .array .int
  | 15 => .array .int
  | 16 => .int
  | 17 => .array .int
  | 18 => .array .boolean
  | 19 => .array .boolean
  | 20 => .array .int
  | 21 => .array .int
  | 22 => .array .int
  | 23 => .array .int
  | 24 => .array .int
  | 25 => .array .int
  | 26 => .array .int
  | 27 => .array .int
  | 28 => .array .int
  | 29 => .array .int
  | 30 => .array .int
  | 31 => .array .int
  | 32 => .array .int
  | 33 => .int
  | 34 => .array .int
  | 35 => .int
  | 36 => .array .int
  | 37 => .array .int
  | 38 => .int
  | 39 => .array .int
  | 40 => .array .int
  | 41 => .array .int
  | 42 => .array .int
  | 43 => .int
  | 44 => .array .int
  | 45 => .int
  | 46 => .array .int
  | 47 => .array .int
  | 48 => .array .int
  | 49 => .array .int
  | 50 => .int
  | 51 => .array .int
  | 52 => .array .int
  | 53 => .array .int
  | 54 => .int
  | 55 => .array .int
  | 56 => .array .long
  | 57 => .array .int
  | 58 => .array .int
  | 59 => .array .int
  | 60 => .int
  | 61 => .array .boolean
  | 62 => .array .int
  | 63 => .array .int
  | 64 => .array .int
  | 65 => .array .int
  | 66 => .array .int
  | 67 => .array .int
  | 68 => .array .int
  | 69 => .array .int
  | 70 => .array .int
  | 71 => .int
  | 72 => .boolean
  | 73 => .int
  | 74 => .int
  | 75 => .int
  | 76 => .int
  | 77 => .array .int
  | 78 => .int
  | 79 => .array .int
  | 80 => .int
  | _ => .int
abbrev wsX110 : List Cond := u_ws RX11 TX11 82
theorem nmX11 : ∀ a, a < 82 → ∀ b, b < 82 → a ≠ b → (TX11 a).2.1 ≠ (TX11 b).2.1 := by decide +kernel
theorem tyX11_ok : ∀ k, k < 82 → parseFieldDescriptor (TX11 k).2.2.1 = some (tyX11 k) := by decide +kernel
abbrev cX11_init : ByteArray := prog_13_method_1_code
def yX11_init : MethodName := ⟨RX11, "<init>", "()V"⟩
abbrev cX11_in : ByteArray := prog_13_method_3_code
def yX11_in : MethodName := ⟨RX11, "in", "(JJJ)Z"⟩
abbrev cX11_isHand : ByteArray := prog_13_method_4_code
def yX11_isHand : MethodName := ⟨RX11, "isHand", "(I)Z"⟩
abbrev cX11_isSource : ByteArray := prog_13_method_5_code
def yX11_isSource : MethodName := ⟨RX11, "isSource", "(I)Z"⟩
abbrev cX11_setOf : ByteArray := prog_13_method_6_code
def yX11_setOf : MethodName := ⟨RX11, "setOf", "(I)J"⟩
abbrev cX11_isIn : ByteArray := prog_13_method_7_code
def yX11_isIn : MethodName := ⟨RX11, "isIn", "(JI)Z"⟩
abbrev cX11_isPiece : ByteArray := prog_13_method_8_code
def yX11_isPiece : MethodName := ⟨RX11, "isPiece", "(I)Z"⟩
abbrev cX11_isAhead : ByteArray := prog_13_method_9_code
def yX11_isAhead : MethodName := ⟨RX11, "isAhead", "(II)Z"⟩
abbrev cX11_sort : ByteArray := prog_13_method_10_code
def yX11_sort : MethodName := ⟨RX11, "sort", "()V"⟩
abbrev cX11_holder : ByteArray := prog_13_method_11_code
def yX11_holder : MethodName := ⟨RX11, "holder", "(I)I"⟩
abbrev cX11_clear : ByteArray := prog_13_method_12_code
def yX11_clear : MethodName := ⟨RX11, "clear", "()V"⟩
abbrev cX11_takeOut : ByteArray := prog_13_method_13_code
def yX11_takeOut : MethodName := ⟨RX11, "takeOut", "(I)V"⟩
abbrev cX11_putIn : ByteArray := prog_13_method_14_code
def yX11_putIn : MethodName := ⟨RX11, "putIn", "(III)V"⟩
abbrev cX11_isWithin : ByteArray := prog_13_method_15_code
def yX11_isWithin : MethodName := ⟨RX11, "isWithin", "(II)Z"⟩
abbrev cX11_reword : ByteArray := prog_13_method_16_code
def yX11_reword : MethodName := ⟨RX11, "reword", "(II)V"⟩
abbrev cX11_canGo : ByteArray := prog_13_method_17_code
def yX11_canGo : MethodName := ⟨RX11, "canGo", "(I)Z"⟩
abbrev cX11_apply : ByteArray := prog_13_method_18_code
def yX11_apply : MethodName := ⟨RX11, "apply", "(I)I"⟩
abbrev cX11_work : ByteArray := prog_13_method_19_code
def yX11_work : MethodName := ⟨RX11, "work", "(JI)V"⟩
abbrev cX11_isSeen : ByteArray := prog_13_method_20_code
def yX11_isSeen : MethodName := ⟨RX11, "isSeen", "(I)Z"⟩
abbrev cX11_depth : ByteArray := prog_13_method_21_code
def yX11_depth : MethodName := ⟨RX11, "depth", "(I)I"⟩
abbrev cX11_readAll : ByteArray := prog_13_method_22_code
def yX11_readAll : MethodName := ⟨RX11, "readAll", "()V"⟩
abbrev cX11_make : ByteArray := prog_13_method_23_code
def yX11_make : MethodName := ⟨RX11, "make", "(IIIII)I"⟩
abbrev cX11_word : ByteArray := prog_13_method_24_code
def yX11_word : MethodName := ⟨RX11, "word", "(II)I"⟩
abbrev cX11_isThereNow : ByteArray := prog_13_method_25_code
def yX11_isThereNow : MethodName := ⟨RX11, "isThereNow", "(I)Z"⟩
abbrev cX11_mayGoUnder : ByteArray := prog_13_method_26_code
def yX11_mayGoUnder : MethodName := ⟨RX11, "mayGoUnder", "(I)Z"⟩
abbrev cX11_put : ByteArray := prog_13_method_27_code
def yX11_put : MethodName := ⟨RX11, "put", "(IIIII)I"⟩
abbrev cX11_whyNot : ByteArray := prog_13_method_28_code
def yX11_whyNot : MethodName := ⟨RX11, "whyNot", "(IIZ)I"⟩
abbrev cX11_strike : ByteArray := prog_13_method_29_code
def yX11_strike : MethodName := ⟨RX11, "strike", "(II)I"⟩
abbrev cX11_move : ByteArray := prog_13_method_30_code
def yX11_move : MethodName := ⟨RX11, "move", "(IIII)I"⟩
abbrev cX11_words : ByteArray := prog_13_method_31_code
def yX11_words : MethodName := ⟨RX11, "words", "(II)I"⟩
abbrev cX11_note : ByteArray := prog_13_method_32_code
def yX11_note : MethodName := ⟨RX11, "note", "(III)I"⟩
abbrev cX11_tie : ByteArray := prog_13_method_33_code
def yX11_tie : MethodName := ⟨RX11, "tie", "(III)I"⟩
abbrev cX11_hasSay : ByteArray := prog_13_method_34_code
def yX11_hasSay : MethodName := ⟨RX11, "hasSay", "(JI)Z"⟩
abbrev cX11_outdoes : ByteArray := prog_13_method_35_code
def yX11_outdoes : MethodName := ⟨RX11, "outdoes", "(II)Z"⟩
abbrev cX11_back : ByteArray := prog_13_method_36_code
def yX11_back : MethodName := ⟨RX11, "back", "(II)I"⟩
abbrev cX11_makeWords : ByteArray := prog_13_method_37_code
def yX11_makeWords : MethodName := ⟨RX11, "makeWords", "(II)I"⟩
abbrev cX11_give : ByteArray := prog_13_method_38_code
def yX11_give : MethodName := ⟨RX11, "give", "(III)I"⟩
abbrev cX11_keep : ByteArray := prog_13_method_39_code
def yX11_keep : MethodName := ⟨RX11, "keep", "(I)I"⟩
abbrev cX11_firm : ByteArray := prog_13_method_40_code
def yX11_firm : MethodName := ⟨RX11, "firm", "(I)I"⟩
abbrev cX11_change : ByteArray := prog_13_method_41_code
def yX11_change : MethodName := ⟨RX11, "change", "(II)I"⟩
abbrev cX11_came : ByteArray := prog_13_method_42_code
def yX11_came : MethodName := ⟨RX11, "came", "(II)I"⟩
abbrev cX11_say : ByteArray := prog_13_method_43_code
def yX11_say : MethodName := ⟨RX11, "say", "(II)I"⟩
abbrev cX11_unroll : ByteArray := prog_13_method_44_code
def yX11_unroll : MethodName := ⟨RX11, "unroll", "(I)V"⟩
abbrev cX11_seen : ByteArray := prog_13_method_45_code
def yX11_seen : MethodName := ⟨RX11, "seen", "(II)I"⟩
abbrev cX11_childrenOf : ByteArray := prog_13_method_46_code
def yX11_childrenOf : MethodName := ⟨RX11, "childrenOf", "(I)I"⟩
abbrev cX11_piece : ByteArray := prog_13_method_47_code
def yX11_piece : MethodName := ⟨RX11, "piece", "(III)I"⟩
abbrev cX11_at : ByteArray := prog_13_method_48_code
def yX11_at : MethodName := ⟨RX11, "at", "(IIII)I"⟩
abbrev cX11_fold : ByteArray := prog_13_method_49_code
def yX11_fold : MethodName := ⟨RX11, "fold", "(II)I"⟩
abbrev cX11_areAlike : ByteArray := prog_13_method_50_code
def yX11_areAlike : MethodName := ⟨RX11, "areAlike", "(II)Z"⟩
abbrev cX11_seek : ByteArray := prog_13_method_51_code
def yX11_seek : MethodName := ⟨RX11, "seek", "(III)I"⟩
abbrev cX11_digest : ByteArray := prog_13_method_52_code
def yX11_digest : MethodName := ⟨RX11, "digest", "(I)J"⟩
abbrev cX11_hasKind : ByteArray := prog_13_method_53_code
def yX11_hasKind : MethodName := ⟨RX11, "hasKind", "(JII)Z"⟩
abbrev cX11_doClash : ByteArray := prog_13_method_54_code
def yX11_doClash : MethodName := ⟨RX11, "doClash", "(JJII)Z"⟩
abbrev cX11_clash : ByteArray := prog_13_method_55_code
def yX11_clash : MethodName := ⟨RX11, "clash", "(III)I"⟩
abbrev cX11_settle : ByteArray := prog_13_method_56_code
def yX11_settle : MethodName := ⟨RX11, "settle", "(IIII)I"⟩
abbrev cX11_rule : ByteArray := prog_13_method_57_code
def yX11_rule : MethodName := ⟨RX11, "rule", "(II)I"⟩
abbrev cX11_gatherText : ByteArray := prog_13_method_58_code
def yX11_gatherText : MethodName := ⟨RX11, "gatherText", "(I)V"⟩
abbrev cX11_yes : ByteArray := prog_13_method_59_code
def yX11_yes : MethodName := ⟨RX11, "yes", "(II)I"⟩
abbrev cX11_isMet : ByteArray := prog_13_method_60_code
def yX11_isMet : MethodName := ⟨RX11, "isMet", "(I)Z"⟩
abbrev cX11_unmet : ByteArray := prog_13_method_61_code
def yX11_unmet : MethodName := ⟨RX11, "unmet", "()I"⟩
abbrev cX11_open : ByteArray := prog_13_method_62_code
def yX11_open : MethodName := ⟨RX11, "open", "(I)I"⟩
abbrev cX11_isTongue : ByteArray := prog_13_method_63_code
def yX11_isTongue : MethodName := ⟨RX11, "isTongue", "(I)Z"⟩
abbrev cX11_lead : ByteArray := prog_13_method_64_code
def yX11_lead : MethodName := ⟨RX11, "lead", "(IIII)I"⟩
abbrev cX11_pairOf : ByteArray := prog_13_method_65_code
def yX11_pairOf : MethodName := ⟨RX11, "pairOf", "(II)I"⟩
abbrev cX11_agrees : ByteArray := prog_13_method_66_code
def yX11_agrees : MethodName := ⟨RX11, "agrees", "(II)Z"⟩
abbrev cX11_isStale : ByteArray := prog_13_method_67_code
def yX11_isStale : MethodName := ⟨RX11, "isStale", "(II)Z"⟩
abbrev cX11_stale : ByteArray := prog_13_method_68_code
def yX11_stale : MethodName := ⟨RX11, "stale", "(III)I"⟩
abbrev cX11_lesser : ByteArray := prog_13_method_69_code
def yX11_lesser : MethodName := ⟨RX11, "lesser", "(II)I"⟩
abbrev cX11_costOf : ByteArray := prog_13_method_70_code
def yX11_costOf : MethodName := ⟨RX11, "costOf", "(II)I"⟩
abbrev cX11_offer : ByteArray := prog_13_method_71_code
def yX11_offer : MethodName := ⟨RX11, "offer", "(IIII)I"⟩
abbrev cX11_pair : ByteArray := prog_13_method_72_code
def yX11_pair : MethodName := ⟨RX11, "pair", "(III)I"⟩
abbrev cX11_term : ByteArray := prog_13_method_73_code
def yX11_term : MethodName := ⟨RX11, "term", "(III)I"⟩
abbrev cX11_oftenIn : ByteArray := prog_13_method_74_code
def yX11_oftenIn : MethodName := ⟨RX11, "oftenIn", "(III)I"⟩
abbrev cX11_isUnlike : ByteArray := prog_13_method_75_code
def yX11_isUnlike : MethodName := ⟨RX11, "isUnlike", "(II)Z"⟩
abbrev cX11_unlike : ByteArray := prog_13_method_76_code
def yX11_unlike : MethodName := ⟨RX11, "unlike", "(III)I"⟩
abbrev cX11_edition : ByteArray := prog_13_method_77_code
def yX11_edition : MethodName := ⟨RX11, "edition", "(IIII)I"⟩
abbrev cX11_saySheet : ByteArray := prog_13_method_78_code
def yX11_saySheet : MethodName := ⟨RX11, "saySheet", "(II)V"⟩
abbrev cX11_digitsOf : ByteArray := prog_13_method_79_code
def yX11_digitsOf : MethodName := ⟨RX11, "digitsOf", "(I)I"⟩
abbrev cX11_tells : ByteArray := prog_13_method_80_code
def yX11_tells : MethodName := ⟨RX11, "tells", "(I)Z"⟩
abbrev cX11_layWide : ByteArray := prog_13_method_81_code
def yX11_layWide : MethodName := ⟨RX11, "layWide", "(II)V"⟩
abbrev cX11_widthOf : ByteArray := prog_13_method_82_code
def yX11_widthOf : MethodName := ⟨RX11, "widthOf", "(II)I"⟩
abbrev cX11_leftOf : ByteArray := prog_13_method_83_code
def yX11_leftOf : MethodName := ⟨RX11, "leftOf", "(III)I"⟩
abbrev cX11_breakLines : ByteArray := prog_13_method_84_code
def yX11_breakLines : MethodName := ⟨RX11, "breakLines", "(III)V"⟩
abbrev cX11_setLines : ByteArray := prog_13_method_85_code
def yX11_setLines : MethodName := ⟨RX11, "setLines", "(II)I"⟩
abbrev cX11_setSentence : ByteArray := prog_13_method_86_code
def yX11_setSentence : MethodName := ⟨RX11, "setSentence", "(IIII)V"⟩
abbrev cX11_setRound : ByteArray := prog_13_method_87_code
def yX11_setRound : MethodName := ⟨RX11, "setRound", "(III)V"⟩
abbrev cX11_isAsWas : ByteArray := prog_13_method_88_code
def yX11_isAsWas : MethodName := ⟨RX11, "isAsWas", "(I)Z"⟩
abbrev cX11_setSheet : ByteArray := prog_13_method_89_code
def yX11_setSheet : MethodName := ⟨RX11, "setSheet", "(IJIII)V"⟩
abbrev cX11_setEdition : ByteArray := prog_13_method_90_code
def yX11_setEdition : MethodName := ⟨RX11, "setEdition", "(I)V"⟩
abbrev cX11_isEdition : ByteArray := prog_13_method_91_code
def yX11_isEdition : MethodName := ⟨RX11, "isEdition", "(I)Z"⟩
abbrev cX11_pages : ByteArray := prog_13_method_92_code
def yX11_pages : MethodName := ⟨RX11, "pages", "(II)I"⟩
abbrev cX11_onPage : ByteArray := prog_13_method_93_code
def yX11_onPage : MethodName := ⟨RX11, "onPage", "(III)I"⟩
abbrev cX11_line : ByteArray := prog_13_method_94_code
def yX11_line : MethodName := ⟨RX11, "line", "(III)I"⟩
abbrev cX11_isSaidOn : ByteArray := prog_13_method_95_code
def yX11_isSaidOn : MethodName := ⟨RX11, "isSaidOn", "(II)Z"⟩
abbrev cX11_index : ByteArray := prog_13_method_96_code
def yX11_index : MethodName := ⟨RX11, "index", "(III)I"⟩
abbrev cX11_isSaidOtherwise : ByteArray := prog_13_method_97_code
def yX11_isSaidOtherwise : MethodName := ⟨RX11, "isSaidOtherwise", "(I)Z"⟩
abbrev cX11_isElsewhere : ByteArray := prog_13_method_98_code
def yX11_isElsewhere : MethodName := ⟨RX11, "isElsewhere", "(I)Z"⟩
abbrev cX11_reach : ByteArray := prog_13_method_99_code
def yX11_reach : MethodName := ⟨RX11, "reach", "(III)I"⟩
abbrev cX11_ones : ByteArray := prog_13_method_100_code
def yX11_ones : MethodName := ⟨RX11, "ones", "(J)I"⟩
abbrev cX11_told : ByteArray := prog_13_method_101_code
def yX11_told : MethodName := ⟨RX11, "told", "(I)I"⟩
def RJ6 : String := "java/lang/Integer"
def TJ6 : u_T := fun k => match k with
  | _ => ("", "", "", false)
def tyJ6 : Nat → FieldType := fun k => match k with
  | _ => .int
abbrev wsJ60 : List Cond := u_ws RJ6 TJ6 0
theorem nmJ6 : ∀ a, a < 0 → ∀ b, b < 0 → a ≠ b → (TJ6 a).2.1 ≠ (TJ6 b).2.1 := by decide +kernel
theorem tyJ6_ok : ∀ k, k < 0 → parseFieldDescriptor (TJ6 k).2.2.1 = some (tyJ6 k) := by decide +kernel
abbrev cJ6_bitCount_0f7a4 : ByteArray := prog_14_method_49_code
def yJ6_bitCount_0f7a4 : MethodName := ⟨RJ6, "bitCount", "(I)I"⟩
def RJ13 : String := "java/lang/Long"
def TJ13 : u_T := fun k => match k with
  | _ => ("", "", "", false)
def tyJ13 : Nat → FieldType := fun k => match k with
  | _ => .int
abbrev wsJ130 : List Cond := u_ws RJ13 TJ13 0
theorem nmJ13 : ∀ a, a < 0 → ∀ b, b < 0 → a ≠ b → (TJ13 a).2.1 ≠ (TJ13 b).2.1 := by decide +kernel
theorem tyJ13_ok : ∀ k, k < 0 → parseFieldDescriptor (TJ13 k).2.2.1 = some (tyJ13 k) := by decide +kernel
abbrev cJ13_bitCount_95d88 : ByteArray := prog_15_method_50_code
def yJ13_bitCount_95d88 : MethodName := ⟨RJ13, "bitCount", "(J)I"⟩
def RJ9 : String := "java/lang/Math"
def TJ9 : u_T := fun k => match k with
  | _ => ("", "", "", false)
def tyJ9 : Nat → FieldType := fun k => match k with
  | _ => .int
abbrev wsJ90 : List Cond := u_ws RJ9 TJ9 0
theorem nmJ9 : ∀ a, a < 0 → ∀ b, b < 0 → a ≠ b → (TJ9 a).2.1 ≠ (TJ9 b).2.1 := by decide +kernel
theorem tyJ9_ok : ∀ k, k < 0 → parseFieldDescriptor (TJ9 k).2.2.1 = some (tyJ9 k) := by decide +kernel
abbrev cJ9_max_7cf53 : ByteArray := prog_16_method_65_code
def yJ9_max_7cf53 : MethodName := ⟨RJ9, "max", "(II)I"⟩
abbrev cJ9_min_7cf53 : ByteArray := prog_16_method_69_code
def yJ9_min_7cf53 : MethodName := ⟨RJ9, "min", "(II)I"⟩
def RJ10 : String := "java/lang/System"
def TJ10 : u_T := fun k => match k with
  | _ => ("", "", "", false)
def tyJ10 : Nat → FieldType := fun k => match k with
  | _ => .int
abbrev wsJ100 : List Cond := u_ws RJ10 TJ10 0
theorem nmJ10 : ∀ a, a < 0 → ∀ b, b < 0 → a ≠ b → (TJ10 a).2.1 ≠ (TJ10 b).2.1 := by decide +kernel
theorem tyJ10_ok : ∀ k, k < 0 → parseFieldDescriptor (TJ10 k).2.2.1 = some (tyJ10 k) := by decide +kernel
def RL : String := "BookHouseLaw"
abbrev cL_law : ByteArray := code
def yL_law : MethodName := ⟨RL, "law", "([I)Z"⟩
abbrev vwCl : List vw_C := [(RX0, TX0, 17), (RX1, TX1, 4), (RX2, TX2, 9), (RX3, TX3, 3), (RX4, TX4, 12), (RX5, TX5, 4), (RX6, TX6, 2), (RX7, TX7, 16), (RX8, TX8, 5), (RX9, TX9, 11), (RX10, TX10, 14), (RX11, TX11, 82)]
