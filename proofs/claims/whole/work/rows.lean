section
-- ===== PART A: goes FIRST, ahead of the names: the tables' words, and 'selects' of the private methods out of them =====
/-- a private method of a class that the tables say can be made, by its rows of tables_1 -/
def lw_okq (q : MethodName × Nat) : Prop := (q.1.cls ≠ "java/lang/invoke/MethodHandle" ∧ q.1.cls ≠ "java/lang/invoke/VarHandle") ∧ Cond.instantiable q.1.cls q.2 ∈ tables_1 ∧ Cond.privateMethod q.1 ∈ tables_1 ∧ Cond.instanceMethod q.1 ∈ tables_1
theorem lw_p0 : lw_okq (⟨"SealPrints", "found", "(I)I"⟩, 8) := ⟨⟨by decide +kernel, by decide +kernel⟩, List.mem_of_getElem? (i := 18) (by decide +kernel), List.mem_of_getElem? (i := 230) (by decide +kernel), List.mem_of_getElem? (i := 231) (by decide +kernel)⟩
theorem lw_p1 : lw_okq (⟨"SealPrints", "areTwo", "(II)Z"⟩, 8) := ⟨⟨by decide +kernel, by decide +kernel⟩, List.mem_of_getElem? (i := 18) (by decide +kernel), List.mem_of_getElem? (i := 331) (by decide +kernel), List.mem_of_getElem? (i := 332) (by decide +kernel)⟩
theorem lw_p2 : lw_okq (⟨"SealPrints$Rings", "weighPair", "(II)V"⟩, 11) := ⟨⟨by decide +kernel, by decide +kernel⟩, List.mem_of_getElem? (i := 90) (by decide +kernel), List.mem_of_getElem? (i := 393) (by decide +kernel), List.mem_of_getElem? (i := 394) (by decide +kernel)⟩
theorem lw_p3 : lw_okq (⟨"SealPrints$Rings", "seekLargest", "(III)V"⟩, 11) := ⟨⟨by decide +kernel, by decide +kernel⟩, List.mem_of_getElem? (i := 90) (by decide +kernel), List.mem_of_getElem? (i := 424) (by decide +kernel), List.mem_of_getElem? (i := 425) (by decide +kernel)⟩
theorem lw_p4 : lw_okq (⟨"SealPrints$Rings", "deal", "(III)V"⟩, 11) := ⟨⟨by decide +kernel, by decide +kernel⟩, List.mem_of_getElem? (i := 90) (by decide +kernel), List.mem_of_getElem? (i := 447) (by decide +kernel), List.mem_of_getElem? (i := 448) (by decide +kernel)⟩
theorem lw_p5 : lw_okq (⟨"SealPrints$Rings", "countOrders", "(I)V"⟩, 11) := ⟨⟨by decide +kernel, by decide +kernel⟩, List.mem_of_getElem? (i := 90) (by decide +kernel), List.mem_of_getElem? (i := 468) (by decide +kernel), List.mem_of_getElem? (i := 469) (by decide +kernel)⟩
theorem lw_p6 : lw_okq (⟨"SealPrints$Rings", "gatherMembers", "(I)V"⟩, 11) := ⟨⟨by decide +kernel, by decide +kernel⟩, List.mem_of_getElem? (i := 90) (by decide +kernel), List.mem_of_getElem? (i := 472) (by decide +kernel), List.mem_of_getElem? (i := 473) (by decide +kernel)⟩
theorem lw_p7 : lw_okq (⟨"SealPrints$Rings", "canLead", "(II)Z"⟩, 11) := ⟨⟨by decide +kernel, by decide +kernel⟩, List.mem_of_getElem? (i := 90) (by decide +kernel), List.mem_of_getElem? (i := 476) (by decide +kernel), List.mem_of_getElem? (i := 477) (by decide +kernel)⟩
theorem lw_p8 : lw_okq (⟨"SealPrints$Rings", "firstLeader", "(I)I"⟩, 11) := ⟨⟨by decide +kernel, by decide +kernel⟩, List.mem_of_getElem? (i := 90) (by decide +kernel), List.mem_of_getElem? (i := 488) (by decide +kernel), List.mem_of_getElem? (i := 489) (by decide +kernel)⟩
theorem lw_p9 : lw_okq (⟨"SealPrints", "printOr", "(II)I"⟩, 8) := ⟨⟨by decide +kernel, by decide +kernel⟩, List.mem_of_getElem? (i := 18) (by decide +kernel), List.mem_of_getElem? (i := 492) (by decide +kernel), List.mem_of_getElem? (i := 493) (by decide +kernel)⟩
theorem lw_p10 : lw_okq (⟨"SealPrints$Rings", "rowByYears", "(I)I"⟩, 11) := ⟨⟨by decide +kernel, by decide +kernel⟩, List.mem_of_getElem? (i := 90) (by decide +kernel), List.mem_of_getElem? (i := 504) (by decide +kernel), List.mem_of_getElem? (i := 505) (by decide +kernel)⟩
theorem lw_p11 : lw_okq (⟨"SealPrints$Rings", "fitsSomewhere", "(III)Z"⟩, 11) := ⟨⟨by decide +kernel, by decide +kernel⟩, List.mem_of_getElem? (i := 90) (by decide +kernel), List.mem_of_getElem? (i := 509) (by decide +kernel), List.mem_of_getElem? (i := 510) (by decide +kernel)⟩
theorem lw_p12 : lw_okq (⟨"SealPrints$Rings", "weighOne", "(I)V"⟩, 11) := ⟨⟨by decide +kernel, by decide +kernel⟩, List.mem_of_getElem? (i := 90) (by decide +kernel), List.mem_of_getElem? (i := 557) (by decide +kernel), List.mem_of_getElem? (i := 558) (by decide +kernel)⟩
theorem lw_p13 : lw_okq (⟨"SealPrints$TextReader", "step", "()V"⟩, 7) := ⟨⟨by decide +kernel, by decide +kernel⟩, List.mem_of_getElem? (i := 146) (by decide +kernel), List.mem_of_getElem? (i := 606) (by decide +kernel), List.mem_of_getElem? (i := 607) (by decide +kernel)⟩
theorem lw_p14 : lw_okq (⟨"SealPrints$TextReader", "stepOverLetters", "()V"⟩, 7) := ⟨⟨by decide +kernel, by decide +kernel⟩, List.mem_of_getElem? (i := 146) (by decide +kernel), List.mem_of_getElem? (i := 617) (by decide +kernel), List.mem_of_getElem? (i := 618) (by decide +kernel)⟩
theorem lw_p15 : lw_okq (⟨"SealPrints$TextReader", "stepOverDigits", "()V"⟩, 7) := ⟨⟨by decide +kernel, by decide +kernel⟩, List.mem_of_getElem? (i := 146) (by decide +kernel), List.mem_of_getElem? (i := 624) (by decide +kernel), List.mem_of_getElem? (i := 625) (by decide +kernel)⟩
def lw_privs_1 : List (MethodName × Nat) := [(⟨"SealPrints", "found", "(I)I"⟩, 8), (⟨"SealPrints", "areTwo", "(II)Z"⟩, 8), (⟨"SealPrints$Rings", "weighPair", "(II)V"⟩, 11), (⟨"SealPrints$Rings", "seekLargest", "(III)V"⟩, 11), (⟨"SealPrints$Rings", "deal", "(III)V"⟩, 11), (⟨"SealPrints$Rings", "countOrders", "(I)V"⟩, 11), (⟨"SealPrints$Rings", "gatherMembers", "(I)V"⟩, 11), (⟨"SealPrints$Rings", "canLead", "(II)Z"⟩, 11), (⟨"SealPrints$Rings", "firstLeader", "(I)I"⟩, 11), (⟨"SealPrints", "printOr", "(II)I"⟩, 8), (⟨"SealPrints$Rings", "rowByYears", "(I)I"⟩, 11), (⟨"SealPrints$Rings", "fitsSomewhere", "(III)Z"⟩, 11), (⟨"SealPrints$Rings", "weighOne", "(I)V"⟩, 11), (⟨"SealPrints$TextReader", "step", "()V"⟩, 7), (⟨"SealPrints$TextReader", "stepOverLetters", "()V"⟩, 7), (⟨"SealPrints$TextReader", "stepOverDigits", "()V"⟩, 7)]
theorem lw_r1 : ∀ q ∈ lw_privs_1, lw_okq q := List.forall_mem_cons.mpr ⟨lw_p0, List.forall_mem_cons.mpr ⟨lw_p1, List.forall_mem_cons.mpr ⟨lw_p2, List.forall_mem_cons.mpr ⟨lw_p3, List.forall_mem_cons.mpr ⟨lw_p4, List.forall_mem_cons.mpr ⟨lw_p5, List.forall_mem_cons.mpr ⟨lw_p6, List.forall_mem_cons.mpr ⟨lw_p7, List.forall_mem_cons.mpr ⟨lw_p8, List.forall_mem_cons.mpr ⟨lw_p9, List.forall_mem_cons.mpr ⟨lw_p10, List.forall_mem_cons.mpr ⟨lw_p11, List.forall_mem_cons.mpr ⟨lw_p12, List.forall_mem_cons.mpr ⟨lw_p13, List.forall_mem_cons.mpr ⟨lw_p14, List.forall_mem_cons.mpr ⟨lw_p15, fun _ h => absurd h List.not_mem_nil⟩⟩⟩⟩⟩⟩⟩⟩⟩⟩⟩⟩⟩⟩⟩⟩
theorem lw_p16 : lw_okq (⟨"SealPrints$TextReader", "readItem", "()Z"⟩, 7) := ⟨⟨by decide +kernel, by decide +kernel⟩, List.mem_of_getElem? (i := 146) (by decide +kernel), List.mem_of_getElem? (i := 631) (by decide +kernel), List.mem_of_getElem? (i := 632) (by decide +kernel)⟩
theorem lw_p17 : lw_okq (⟨"SealPrints$TextReader", "isWord", "(Ljava/lang/String;)Z"⟩, 7) := ⟨⟨by decide +kernel, by decide +kernel⟩, List.mem_of_getElem? (i := 146) (by decide +kernel), List.mem_of_getElem? (i := 636) (by decide +kernel), List.mem_of_getElem? (i := 637) (by decide +kernel)⟩
theorem lw_p18 : lw_okq (⟨"SealPrints$TextReader", "readSlack", "()Z"⟩, 7) := ⟨⟨by decide +kernel, by decide +kernel⟩, List.mem_of_getElem? (i := 146) (by decide +kernel), List.mem_of_getElem? (i := 688) (by decide +kernel), List.mem_of_getElem? (i := 689) (by decide +kernel)⟩
theorem lw_p19 : lw_okq (⟨"SealPrints$TextReader", "isNumber", "(II)Z"⟩, 7) := ⟨⟨by decide +kernel, by decide +kernel⟩, List.mem_of_getElem? (i := 146) (by decide +kernel), List.mem_of_getElem? (i := 692) (by decide +kernel), List.mem_of_getElem? (i := 693) (by decide +kernel)⟩
theorem lw_p20 : lw_okq (⟨"SealPrints$TextReader", "readLook", "()Z"⟩, 7) := ⟨⟨by decide +kernel, by decide +kernel⟩, List.mem_of_getElem? (i := 146) (by decide +kernel), List.mem_of_getElem? (i := 697) (by decide +kernel), List.mem_of_getElem? (i := 698) (by decide +kernel)⟩
theorem lw_p21 : lw_okq (⟨"SealPrints$TextReader", "kindNamed", "()I"⟩, 7) := ⟨⟨by decide +kernel, by decide +kernel⟩, List.mem_of_getElem? (i := 146) (by decide +kernel), List.mem_of_getElem? (i := 701) (by decide +kernel), List.mem_of_getElem? (i := 702) (by decide +kernel)⟩
theorem lw_p22 : lw_okq (⟨"SealPrints$TextReader", "readPrint", "(LSealPrints$Print;)Z"⟩, 7) := ⟨⟨by decide +kernel, by decide +kernel⟩, List.mem_of_getElem? (i := 146) (by decide +kernel), List.mem_of_getElem? (i := 712) (by decide +kernel), List.mem_of_getElem? (i := 713) (by decide +kernel)⟩
theorem lw_p23 : lw_okq (⟨"SealPrints$Sheet", "lowest", "(J)J"⟩, 3) := ⟨⟨by decide +kernel, by decide +kernel⟩, List.mem_of_getElem? (i := 177) (by decide +kernel), List.mem_of_getElem? (i := 747) (by decide +kernel), List.mem_of_getElem? (i := 748) (by decide +kernel)⟩
theorem lw_p24 : lw_okq (⟨"SealPrintsModel", "finds", "(I)I"⟩, 25) := ⟨⟨by decide +kernel, by decide +kernel⟩, List.mem_of_getElem? (i := 811) (by decide +kernel), List.mem_of_getElem? (i := 905) (by decide +kernel), List.mem_of_getElem? (i := 906) (by decide +kernel)⟩
theorem lw_p25 : lw_okq (⟨"SealPrintsModel", "addPrint", "(IJIII)V"⟩, 25) := ⟨⟨by decide +kernel, by decide +kernel⟩, List.mem_of_getElem? (i := 811) (by decide +kernel), List.mem_of_getElem? (i := 910) (by decide +kernel), List.mem_of_getElem? (i := 911) (by decide +kernel)⟩
theorem lw_p26 : lw_okq (⟨"SealPrintsModel", "sets", "(III)V"⟩, 25) := ⟨⟨by decide +kernel, by decide +kernel⟩, List.mem_of_getElem? (i := 811) (by decide +kernel), List.mem_of_getElem? (i := 915) (by decide +kernel), List.mem_of_getElem? (i := 916) (by decide +kernel)⟩
theorem lw_p27 : lw_okq (⟨"SealPrintsModel", "isPrint", "(I)Z"⟩, 25) := ⟨⟨by decide +kernel, by decide +kernel⟩, List.mem_of_getElem? (i := 811) (by decide +kernel), List.mem_of_getElem? (i := 923) (by decide +kernel), List.mem_of_getElem? (i := 924) (by decide +kernel)⟩
theorem lw_p28 : lw_okq (⟨"SealPrintsModel", "its", "(II)I"⟩, 25) := ⟨⟨by decide +kernel, by decide +kernel⟩, List.mem_of_getElem? (i := 811) (by decide +kernel), List.mem_of_getElem? (i := 927) (by decide +kernel), List.mem_of_getElem? (i := 928) (by decide +kernel)⟩
theorem lw_p29 : lw_okq (⟨"SealPrintsModel", "trueWidth", "(I)I"⟩, 25) := ⟨⟨by decide +kernel, by decide +kernel⟩, List.mem_of_getElem? (i := 811) (by decide +kernel), List.mem_of_getElem? (i := 931) (by decide +kernel), List.mem_of_getElem? (i := 932) (by decide +kernel)⟩
theorem lw_p30 : lw_okq (⟨"SealPrintsModel", "shows", "(I)J"⟩, 25) := ⟨⟨by decide +kernel, by decide +kernel⟩, List.mem_of_getElem? (i := 811) (by decide +kernel), List.mem_of_getElem? (i := 935) (by decide +kernel), List.mem_of_getElem? (i := 936) (by decide +kernel)⟩
theorem lw_p31 : lw_okq (⟨"SealPrintsModel", "hides", "(I)J"⟩, 25) := ⟨⟨by decide +kernel, by decide +kernel⟩, List.mem_of_getElem? (i := 811) (by decide +kernel), List.mem_of_getElem? (i := 939) (by decide +kernel), List.mem_of_getElem? (i := 940) (by decide +kernel)⟩
def lw_privs_2 : List (MethodName × Nat) := [(⟨"SealPrints$TextReader", "readItem", "()Z"⟩, 7), (⟨"SealPrints$TextReader", "isWord", "(Ljava/lang/String;)Z"⟩, 7), (⟨"SealPrints$TextReader", "readSlack", "()Z"⟩, 7), (⟨"SealPrints$TextReader", "isNumber", "(II)Z"⟩, 7), (⟨"SealPrints$TextReader", "readLook", "()Z"⟩, 7), (⟨"SealPrints$TextReader", "kindNamed", "()I"⟩, 7), (⟨"SealPrints$TextReader", "readPrint", "(LSealPrints$Print;)Z"⟩, 7), (⟨"SealPrints$Sheet", "lowest", "(J)J"⟩, 3), (⟨"SealPrintsModel", "finds", "(I)I"⟩, 25), (⟨"SealPrintsModel", "addPrint", "(IJIII)V"⟩, 25), (⟨"SealPrintsModel", "sets", "(III)V"⟩, 25), (⟨"SealPrintsModel", "isPrint", "(I)Z"⟩, 25), (⟨"SealPrintsModel", "its", "(II)I"⟩, 25), (⟨"SealPrintsModel", "trueWidth", "(I)I"⟩, 25), (⟨"SealPrintsModel", "shows", "(I)J"⟩, 25), (⟨"SealPrintsModel", "hides", "(I)J"⟩, 25)]
theorem lw_r2 : ∀ q ∈ lw_privs_2, lw_okq q := List.forall_mem_cons.mpr ⟨lw_p16, List.forall_mem_cons.mpr ⟨lw_p17, List.forall_mem_cons.mpr ⟨lw_p18, List.forall_mem_cons.mpr ⟨lw_p19, List.forall_mem_cons.mpr ⟨lw_p20, List.forall_mem_cons.mpr ⟨lw_p21, List.forall_mem_cons.mpr ⟨lw_p22, List.forall_mem_cons.mpr ⟨lw_p23, List.forall_mem_cons.mpr ⟨lw_p24, List.forall_mem_cons.mpr ⟨lw_p25, List.forall_mem_cons.mpr ⟨lw_p26, List.forall_mem_cons.mpr ⟨lw_p27, List.forall_mem_cons.mpr ⟨lw_p28, List.forall_mem_cons.mpr ⟨lw_p29, List.forall_mem_cons.mpr ⟨lw_p30, List.forall_mem_cons.mpr ⟨lw_p31, fun _ h => absurd h List.not_mem_nil⟩⟩⟩⟩⟩⟩⟩⟩⟩⟩⟩⟩⟩⟩⟩⟩
theorem lw_p32 : lw_okq (⟨"SealPrintsModel", "areTwo", "(II)Z"⟩, 25) := ⟨⟨by decide +kernel, by decide +kernel⟩, List.mem_of_getElem? (i := 811) (by decide +kernel), List.mem_of_getElem? (i := 989) (by decide +kernel), List.mem_of_getElem? (i := 990) (by decide +kernel)⟩
theorem lw_p33 : lw_okq (⟨"SealPrintsModel", "canBe", "(II)Z"⟩, 25) := ⟨⟨by decide +kernel, by decide +kernel⟩, List.mem_of_getElem? (i := 811) (by decide +kernel), List.mem_of_getElem? (i := 993) (by decide +kernel), List.mem_of_getElem? (i := 994) (by decide +kernel)⟩
theorem lw_p34 : lw_okq (⟨"SealPrintsModel", "marksAllow", "(II)Z"⟩, 25) := ⟨⟨by decide +kernel, by decide +kernel⟩, List.mem_of_getElem? (i := 811) (by decide +kernel), List.mem_of_getElem? (i := 997) (by decide +kernel), List.mem_of_getElem? (i := 998) (by decide +kernel)⟩
theorem lw_p35 : lw_okq (⟨"SealPrintsModel", "apartBy", "(II)I"⟩, 25) := ⟨⟨by decide +kernel, by decide +kernel⟩, List.mem_of_getElem? (i := 811) (by decide +kernel), List.mem_of_getElem? (i := 1001) (by decide +kernel), List.mem_of_getElem? (i := 1002) (by decide +kernel)⟩
theorem lw_p36 : lw_okq (⟨"SealPrintsModel", "isSet", "(I)Z"⟩, 25) := ⟨⟨by decide +kernel, by decide +kernel⟩, List.mem_of_getElem? (i := 811) (by decide +kernel), List.mem_of_getElem? (i := 1027) (by decide +kernel), List.mem_of_getElem? (i := 1028) (by decide +kernel)⟩
theorem lw_p37 : lw_okq (⟨"SealPrintsModel", "findRings", "()V"⟩, 25) := ⟨⟨by decide +kernel, by decide +kernel⟩, List.mem_of_getElem? (i := 811) (by decide +kernel), List.mem_of_getElem? (i := 1031) (by decide +kernel), List.mem_of_getElem? (i := 1032) (by decide +kernel)⟩
theorem lw_p38 : lw_okq (⟨"SealPrintsModel", "findCan", "()V"⟩, 25) := ⟨⟨by decide +kernel, by decide +kernel⟩, List.mem_of_getElem? (i := 811) (by decide +kernel), List.mem_of_getElem? (i := 1035) (by decide +kernel), List.mem_of_getElem? (i := 1036) (by decide +kernel)⟩
theorem lw_p39 : lw_okq (⟨"SealPrintsModel", "isEarlier", "(II)Z"⟩, 25) := ⟨⟨by decide +kernel, by decide +kernel⟩, List.mem_of_getElem? (i := 811) (by decide +kernel), List.mem_of_getElem? (i := 1039) (by decide +kernel), List.mem_of_getElem? (i := 1040) (by decide +kernel)⟩
theorem lw_p40 : lw_okq (⟨"SealPrintsModel", "isWithAll", "(II)Z"⟩, 25) := ⟨⟨by decide +kernel, by decide +kernel⟩, List.mem_of_getElem? (i := 811) (by decide +kernel), List.mem_of_getElem? (i := 1049) (by decide +kernel), List.mem_of_getElem? (i := 1050) (by decide +kernel)⟩
theorem lw_p41 : lw_okq (⟨"SealPrintsModel", "areOfOne", "(II)Z"⟩, 25) := ⟨⟨by decide +kernel, by decide +kernel⟩, List.mem_of_getElem? (i := 811) (by decide +kernel), List.mem_of_getElem? (i := 1053) (by decide +kernel), List.mem_of_getElem? (i := 1054) (by decide +kernel)⟩
theorem lw_p42 : lw_okq (⟨"SealPrintsModel", "bestOf", "(I)I"⟩, 25) := ⟨⟨by decide +kernel, by decide +kernel⟩, List.mem_of_getElem? (i := 811) (by decide +kernel), List.mem_of_getElem? (i := 1061) (by decide +kernel), List.mem_of_getElem? (i := 1062) (by decide +kernel)⟩
theorem lw_p43 : lw_okq (⟨"SealPrintsModel", "fewestOf", "(I)I"⟩, 25) := ⟨⟨by decide +kernel, by decide +kernel⟩, List.mem_of_getElem? (i := 811) (by decide +kernel), List.mem_of_getElem? (i := 1076) (by decide +kernel), List.mem_of_getElem? (i := 1077) (by decide +kernel)⟩
theorem lw_p44 : lw_okq (⟨"SealPrintsModel", "findOrders", "(I)V"⟩, 25) := ⟨⟨by decide +kernel, by decide +kernel⟩, List.mem_of_getElem? (i := 811) (by decide +kernel), List.mem_of_getElem? (i := 1089) (by decide +kernel), List.mem_of_getElem? (i := 1090) (by decide +kernel)⟩
theorem lw_p45 : lw_okq (⟨"SealPrintsModel", "isAheadOf", "(II)Z"⟩, 25) := ⟨⟨by decide +kernel, by decide +kernel⟩, List.mem_of_getElem? (i := 811) (by decide +kernel), List.mem_of_getElem? (i := 1093) (by decide +kernel), List.mem_of_getElem? (i := 1094) (by decide +kernel)⟩
theorem lw_p46 : lw_okq (⟨"SealPrintsModel", "fitsSomewhere", "(II)Z"⟩, 25) := ⟨⟨by decide +kernel, by decide +kernel⟩, List.mem_of_getElem? (i := 811) (by decide +kernel), List.mem_of_getElem? (i := 1105) (by decide +kernel), List.mem_of_getElem? (i := 1106) (by decide +kernel)⟩
theorem lw_p47 : lw_okq (⟨"SealPrintsModel", "isCast", "(I)Z"⟩, 25) := ⟨⟨by decide +kernel, by decide +kernel⟩, List.mem_of_getElem? (i := 811) (by decide +kernel), List.mem_of_getElem? (i := 1121) (by decide +kernel), List.mem_of_getElem? (i := 1122) (by decide +kernel)⟩
def lw_privs_3 : List (MethodName × Nat) := [(⟨"SealPrintsModel", "areTwo", "(II)Z"⟩, 25), (⟨"SealPrintsModel", "canBe", "(II)Z"⟩, 25), (⟨"SealPrintsModel", "marksAllow", "(II)Z"⟩, 25), (⟨"SealPrintsModel", "apartBy", "(II)I"⟩, 25), (⟨"SealPrintsModel", "isSet", "(I)Z"⟩, 25), (⟨"SealPrintsModel", "findRings", "()V"⟩, 25), (⟨"SealPrintsModel", "findCan", "()V"⟩, 25), (⟨"SealPrintsModel", "isEarlier", "(II)Z"⟩, 25), (⟨"SealPrintsModel", "isWithAll", "(II)Z"⟩, 25), (⟨"SealPrintsModel", "areOfOne", "(II)Z"⟩, 25), (⟨"SealPrintsModel", "bestOf", "(I)I"⟩, 25), (⟨"SealPrintsModel", "fewestOf", "(I)I"⟩, 25), (⟨"SealPrintsModel", "findOrders", "(I)V"⟩, 25), (⟨"SealPrintsModel", "isAheadOf", "(II)Z"⟩, 25), (⟨"SealPrintsModel", "fitsSomewhere", "(II)Z"⟩, 25), (⟨"SealPrintsModel", "isCast", "(I)Z"⟩, 25)]
theorem lw_r3 : ∀ q ∈ lw_privs_3, lw_okq q := List.forall_mem_cons.mpr ⟨lw_p32, List.forall_mem_cons.mpr ⟨lw_p33, List.forall_mem_cons.mpr ⟨lw_p34, List.forall_mem_cons.mpr ⟨lw_p35, List.forall_mem_cons.mpr ⟨lw_p36, List.forall_mem_cons.mpr ⟨lw_p37, List.forall_mem_cons.mpr ⟨lw_p38, List.forall_mem_cons.mpr ⟨lw_p39, List.forall_mem_cons.mpr ⟨lw_p40, List.forall_mem_cons.mpr ⟨lw_p41, List.forall_mem_cons.mpr ⟨lw_p42, List.forall_mem_cons.mpr ⟨lw_p43, List.forall_mem_cons.mpr ⟨lw_p44, List.forall_mem_cons.mpr ⟨lw_p45, List.forall_mem_cons.mpr ⟨lw_p46, List.forall_mem_cons.mpr ⟨lw_p47, fun _ h => absurd h List.not_mem_nil⟩⟩⟩⟩⟩⟩⟩⟩⟩⟩⟩⟩⟩⟩⟩⟩
theorem lw_p48 : lw_okq (⟨"SealPrintsModel", "fromOf", "(I)I"⟩, 25) := ⟨⟨by decide +kernel, by decide +kernel⟩, List.mem_of_getElem? (i := 811) (by decide +kernel), List.mem_of_getElem? (i := 1125) (by decide +kernel), List.mem_of_getElem? (i := 1126) (by decide +kernel)⟩
theorem lw_p49 : lw_okq (⟨"SealPrintsModel", "canBeCast", "(II)Z"⟩, 25) := ⟨⟨by decide +kernel, by decide +kernel⟩, List.mem_of_getElem? (i := 811) (by decide +kernel), List.mem_of_getElem? (i := 1129) (by decide +kernel), List.mem_of_getElem? (i := 1130) (by decide +kernel)⟩
theorem lw_p50 : lw_okq (⟨"SealPrintsModel", "withHow", "(I)I"⟩, 25) := ⟨⟨by decide +kernel, by decide +kernel⟩, List.mem_of_getElem? (i := 811) (by decide +kernel), List.mem_of_getElem? (i := 1145) (by decide +kernel), List.mem_of_getElem? (i := 1146) (by decide +kernel)⟩
theorem lw_p51 : lw_okq (⟨"SealPrintsModel", "moveAll", "(Z[I[J)V"⟩, 25) := ⟨⟨by decide +kernel, by decide +kernel⟩, List.mem_of_getElem? (i := 811) (by decide +kernel), List.mem_of_getElem? (i := 1165) (by decide +kernel), List.mem_of_getElem? (i := 1166) (by decide +kernel)⟩
theorem lw_p52 : lw_okq (⟨"SealPrintsModel", "advance", "()V"⟩, 25) := ⟨⟨by decide +kernel, by decide +kernel⟩, List.mem_of_getElem? (i := 811) (by decide +kernel), List.mem_of_getElem? (i := 1169) (by decide +kernel), List.mem_of_getElem? (i := 1170) (by decide +kernel)⟩
theorem lw_p53 : lw_okq (⟨"SealPrintsModel", "byteAt", "(I)I"⟩, 25) := ⟨⟨by decide +kernel, by decide +kernel⟩, List.mem_of_getElem? (i := 811) (by decide +kernel), List.mem_of_getElem? (i := 1173) (by decide +kernel), List.mem_of_getElem? (i := 1174) (by decide +kernel)⟩
theorem lw_p54 : lw_okq (⟨"SealPrintsModel", "wantItem", "()V"⟩, 25) := ⟨⟨by decide +kernel, by decide +kernel⟩, List.mem_of_getElem? (i := 811) (by decide +kernel), List.mem_of_getElem? (i := 1185) (by decide +kernel), List.mem_of_getElem? (i := 1186) (by decide +kernel)⟩
theorem lw_p55 : lw_okq (⟨"SealPrintsModel", "kindHere", "()I"⟩, 25) := ⟨⟨by decide +kernel, by decide +kernel⟩, List.mem_of_getElem? (i := 811) (by decide +kernel), List.mem_of_getElem? (i := 1189) (by decide +kernel), List.mem_of_getElem? (i := 1190) (by decide +kernel)⟩
theorem lw_p56 : lw_okq (⟨"SealPrintsModel", "isWord", "(J)Z"⟩, 25) := ⟨⟨by decide +kernel, by decide +kernel⟩, List.mem_of_getElem? (i := 811) (by decide +kernel), List.mem_of_getElem? (i := 1194) (by decide +kernel), List.mem_of_getElem? (i := 1195) (by decide +kernel)⟩
theorem lw_p57 : lw_okq (⟨"SealPrintsModel", "wantPrint", "(I)V"⟩, 25) := ⟨⟨by decide +kernel, by decide +kernel⟩, List.mem_of_getElem? (i := 811) (by decide +kernel), List.mem_of_getElem? (i := 1203) (by decide +kernel), List.mem_of_getElem? (i := 1204) (by decide +kernel)⟩
theorem lw_p58 : lw_okq (⟨"SealPrintsModel", "mayWant", "(JIII)I"⟩, 25) := ⟨⟨by decide +kernel, by decide +kernel⟩, List.mem_of_getElem? (i := 811) (by decide +kernel), List.mem_of_getElem? (i := 1208) (by decide +kernel), List.mem_of_getElem? (i := 1209) (by decide +kernel)⟩
theorem lw_p59 : lw_okq (⟨"SealPrintsModel", "wantNumber", "(II)I"⟩, 25) := ⟨⟨by decide +kernel, by decide +kernel⟩, List.mem_of_getElem? (i := 811) (by decide +kernel), List.mem_of_getElem? (i := 1212) (by decide +kernel), List.mem_of_getElem? (i := 1213) (by decide +kernel)⟩
theorem lw_p60 : lw_okq (⟨"SealPrintsModel", "wantSlack", "()V"⟩, 25) := ⟨⟨by decide +kernel, by decide +kernel⟩, List.mem_of_getElem? (i := 811) (by decide +kernel), List.mem_of_getElem? (i := 1219) (by decide +kernel), List.mem_of_getElem? (i := 1220) (by decide +kernel)⟩
theorem lw_p61 : lw_okq (⟨"SealPrintsModel", "wantLook", "()V"⟩, 25) := ⟨⟨by decide +kernel, by decide +kernel⟩, List.mem_of_getElem? (i := 811) (by decide +kernel), List.mem_of_getElem? (i := 1224) (by decide +kernel), List.mem_of_getElem? (i := 1225) (by decide +kernel)⟩
theorem lw_p62 : lw_okq (⟨"SealPrintsModel", "isPart", "(III)Z"⟩, 25) := ⟨⟨by decide +kernel, by decide +kernel⟩, List.mem_of_getElem? (i := 811) (by decide +kernel), List.mem_of_getElem? (i := 1247) (by decide +kernel), List.mem_of_getElem? (i := 1248) (by decide +kernel)⟩
def lw_privs_4 : List (MethodName × Nat) := [(⟨"SealPrintsModel", "fromOf", "(I)I"⟩, 25), (⟨"SealPrintsModel", "canBeCast", "(II)Z"⟩, 25), (⟨"SealPrintsModel", "withHow", "(I)I"⟩, 25), (⟨"SealPrintsModel", "moveAll", "(Z[I[J)V"⟩, 25), (⟨"SealPrintsModel", "advance", "()V"⟩, 25), (⟨"SealPrintsModel", "byteAt", "(I)I"⟩, 25), (⟨"SealPrintsModel", "wantItem", "()V"⟩, 25), (⟨"SealPrintsModel", "kindHere", "()I"⟩, 25), (⟨"SealPrintsModel", "isWord", "(J)Z"⟩, 25), (⟨"SealPrintsModel", "wantPrint", "(I)V"⟩, 25), (⟨"SealPrintsModel", "mayWant", "(JIII)I"⟩, 25), (⟨"SealPrintsModel", "wantNumber", "(II)I"⟩, 25), (⟨"SealPrintsModel", "wantSlack", "()V"⟩, 25), (⟨"SealPrintsModel", "wantLook", "()V"⟩, 25), (⟨"SealPrintsModel", "isPart", "(III)Z"⟩, 25)]
theorem lw_r4 : ∀ q ∈ lw_privs_4, lw_okq q := List.forall_mem_cons.mpr ⟨lw_p48, List.forall_mem_cons.mpr ⟨lw_p49, List.forall_mem_cons.mpr ⟨lw_p50, List.forall_mem_cons.mpr ⟨lw_p51, List.forall_mem_cons.mpr ⟨lw_p52, List.forall_mem_cons.mpr ⟨lw_p53, List.forall_mem_cons.mpr ⟨lw_p54, List.forall_mem_cons.mpr ⟨lw_p55, List.forall_mem_cons.mpr ⟨lw_p56, List.forall_mem_cons.mpr ⟨lw_p57, List.forall_mem_cons.mpr ⟨lw_p58, List.forall_mem_cons.mpr ⟨lw_p59, List.forall_mem_cons.mpr ⟨lw_p60, List.forall_mem_cons.mpr ⟨lw_p61, List.forall_mem_cons.mpr ⟨lw_p62, fun _ h => absurd h List.not_mem_nil⟩⟩⟩⟩⟩⟩⟩⟩⟩⟩⟩⟩⟩⟩⟩
def lw_privs : List (MethodName × Nat) := lw_privs_1 ++ (lw_privs_2 ++ (lw_privs_3 ++ (lw_privs_4)))
def lw_tbl : List Cond := k2_sels lw_privs ++ tables_1
theorem lw_privs_ok : ∀ q ∈ lw_privs, lw_okq q := by
  show ∀ q ∈ lw_privs_1 ++ (lw_privs_2 ++ (lw_privs_3 ++ (lw_privs_4))), lw_okq q
  exact List.forall_mem_append.mpr ⟨lw_r1, List.forall_mem_append.mpr ⟨lw_r2, List.forall_mem_append.mpr ⟨lw_r3, lw_r4⟩⟩⟩
end
section
def RX0 : String := "SealPrints$Archive"
def TX0 : u_T := fun k => match k with
  | 0 => ("SealPrints$Archive", "prints", "[LSealPrints$Print;", true)
  | 1 => ("SealPrints$Archive", "size", "I", false)
  | _ => ("SealPrints$Archive", "slack", "I", false)
def tyX0 : Nat → FieldType := fun k => match k with
  | 0 => .array (.object "SealPrints$Print")
  | 1 => .int
  | _ => .int
abbrev wsX00 : List Cond := u_ws RX0 TX0 3
theorem nmX0 : ∀ a, a < 3 → ∀ b, b < 3 → a ≠ b → (TX0 a).2.1 ≠ (TX0 b).2.1 := by decide +kernel
theorem tyX0_ok : ∀ k, k < 3 → parseFieldDescriptor (TX0 k).2.2.1 = some (tyX0 k) := by decide +kernel
abbrev cX0_init : ByteArray := prog_2_method_1_code
def yX0_init : MethodName := ⟨RX0, "<init>", "()V"⟩
abbrev cX0_become : ByteArray := prog_2_method_2_code
def yX0_become : MethodName := ⟨RX0, "become", "(LSealPrints$Archive;)V"⟩
abbrev cX0_has : ByteArray := prog_2_method_3_code
def yX0_has : MethodName := ⟨RX0, "has", "(I)Z"⟩
abbrev cX0_hasAll : ByteArray := prog_2_method_4_code
def yX0_hasAll : MethodName := ⟨RX0, "hasAll", "(I)Z"⟩
abbrev cX0_isFull : ByteArray := prog_2_method_5_code
def yX0_isFull : MethodName := ⟨RX0, "isFull", "()Z"⟩
abbrev cX0_hang : ByteArray := prog_2_method_6_code
def yX0_hang : MethodName := ⟨RX0, "hang", "(IJ)I"⟩
abbrev cX0_canBe : ByteArray := prog_2_method_7_code
def yX0_canBe : MethodName := ⟨RX0, "canBe", "(II)Z"⟩
abbrev cX0_widthsAllow : ByteArray := prog_2_method_8_code
def yX0_widthsAllow : MethodName := ⟨RX0, "widthsAllow", "(II)Z"⟩
abbrev cX0_canAllBe : ByteArray := prog_2_method_9_code
def yX0_canAllBe : MethodName := ⟨RX0, "canAllBe", "(II)Z"⟩
abbrev cX0_marksAllow : ByteArray := prog_2_method_10_code
def yX0_marksAllow : MethodName := ⟨RX0, "marksAllow", "(II)Z"⟩
abbrev cX0_widthGap : ByteArray := prog_2_method_11_code
def yX0_widthGap : MethodName := ⟨RX0, "widthGap", "(II)I"⟩
abbrev cX0_isEarlier : ByteArray := prog_2_method_12_code
def yX0_isEarlier : MethodName := ⟨RX0, "isEarlier", "(II)Z"⟩
abbrev cX0_sourceOf : ByteArray := prog_2_method_13_code
def yX0_sourceOf : MethodName := ⟨RX0, "sourceOf", "(I)I"⟩
abbrev cX0_canBeCast : ByteArray := prog_2_method_14_code
def yX0_canBeCast : MethodName := ⟨RX0, "canBeCast", "(LSealPrints$Print;LSealPrints$Print;)Z"⟩
abbrev cX0_howManySeen : ByteArray := prog_2_method_15_code
def yX0_howManySeen : MethodName := ⟨RX0, "howManySeen", "()I"⟩
abbrev cX0_howManyMarks : ByteArray := prog_2_method_16_code
def yX0_howManyMarks : MethodName := ⟨RX0, "howManyMarks", "()I"⟩
def RX1 : String := "SealPrints$Print"
def TX1 : u_T := fun k => match k with
  | 0 => ("SealPrints$Print", "kind", "I", false)
  | 1 => ("SealPrints$Print", "width", "I", false)
  | 2 => ("SealPrints$Print", "year", "I", false)
  | 3 => ("SealPrints$Print", "seen", "Z", false)
  | _ => ("SealPrints$Print", "marks", "J", false)
def tyX1 : Nat → FieldType := fun k => match k with
  | 0 => .int
  | 1 => .int
  | 2 => .int
  | 3 => .boolean
  | _ => .long
abbrev wsX10 : List Cond := u_ws RX1 TX1 5
theorem nmX1 : ∀ a, a < 5 → ∀ b, b < 5 → a ≠ b → (TX1 a).2.1 ≠ (TX1 b).2.1 := by decide +kernel
theorem tyX1_ok : ∀ k, k < 5 → parseFieldDescriptor (TX1 k).2.2.1 = some (tyX1 k) := by decide +kernel
abbrev cX1_init : ByteArray := prog_3_method_1_code
def yX1_init : MethodName := ⟨RX1, "<init>", "()V"⟩
abbrev cX1_begin : ByteArray := prog_3_method_2_code
def yX1_begin : MethodName := ⟨RX1, "begin", "(IJ)V"⟩
abbrev cX1_become : ByteArray := prog_3_method_3_code
def yX1_become : MethodName := ⟨RX1, "become", "(LSealPrints$Print;)V"⟩
abbrev cX1_trueWidth : ByteArray := prog_3_method_4_code
def yX1_trueWidth : MethodName := ⟨RX1, "trueWidth", "()I"⟩
abbrev cX1_hidden : ByteArray := prog_3_method_5_code
def yX1_hidden : MethodName := ⟨RX1, "hidden", "()J"⟩
abbrev cX1_shown : ByteArray := prog_3_method_6_code
def yX1_shown : MethodName := ⟨RX1, "shown", "()J"⟩
abbrev cX1_bare : ByteArray := prog_3_method_7_code
def yX1_bare : MethodName := ⟨RX1, "bare", "()J"⟩
def RX2 : String := "SealPrints$Rings"
def TX2 : u_T := fun k => match k with
  | 0 => ("SealPrints$Rings", "archive", "LSealPrints$Archive;", true)
  | 1 => ("SealPrints$Rings", "laters", "[I", true)
  | 2 => ("SealPrints$Rings", "mates", "[I", true)
  | 3 => ("SealPrints$Rings", "row", "[I", true)
  | 4 => ("SealPrints$Rings", "dealt", "[I", true)
  | 5 => ("SealPrints$Rings", "members", "[I", true)
  | 6 => ("SealPrints$Rings", "followers", "[I", true)
  | 7 => ("SealPrints$Rings", "orderCounts", "[I", true)
  | 8 => ("SealPrints$Rings", "largest", "I", false)
  | 9 => ("SealPrints$Rings", "fewestDealt", "I", false)
  | _ => ("SealPrints$Rings", "memberCount", "I", false)
def tyX2 : Nat → FieldType := fun k => match k with
  | 0 => .object "SealPrints$Archive"
  | 1 => .array .int
  | 2 => .array .int
  | 3 => .array .int
  | 4 => .array .int
  | 5 => .array .int
  | 6 => .array .int
  | 7 => .array .int
  | 8 => .int
  | 9 => .int
  | _ => .int
abbrev wsX20 : List Cond := u_ws RX2 TX2 11
theorem nmX2 : ∀ a, a < 11 → ∀ b, b < 11 → a ≠ b → (TX2 a).2.1 ≠ (TX2 b).2.1 := by decide +kernel
theorem tyX2_ok : ∀ k, k < 11 → parseFieldDescriptor (TX2 k).2.2.1 = some (tyX2 k) := by decide +kernel
abbrev cX2_init : ByteArray := prog_4_method_1_code
def yX2_init : MethodName := ⟨RX2, "<init>", "(LSealPrints$Archive;)V"⟩
abbrev cX2_weigh : ByteArray := prog_4_method_2_code
def yX2_weigh : MethodName := ⟨RX2, "weigh", "()V"⟩
abbrev cX2_weighOne : ByteArray := prog_4_method_3_code
def yX2_weighOne : MethodName := ⟨RX2, "weighOne", "(I)V"⟩
abbrev cX2_weighPair : ByteArray := prog_4_method_4_code
def yX2_weighPair : MethodName := ⟨RX2, "weighPair", "(II)V"⟩
abbrev cX2_note : ByteArray := prog_4_method_5_code
def yX2_note : MethodName := ⟨RX2, "note", "([IIIZ)V"⟩
abbrev cX2_isIn : ByteArray := prog_4_method_6_code
def yX2_isIn : MethodName := ⟨RX2, "isIn", "(II)Z"⟩
abbrev cX2_without : ByteArray := prog_4_method_7_code
def yX2_without : MethodName := ⟨RX2, "without", "(II)I"⟩
abbrev cX2_isRing : ByteArray := prog_4_method_8_code
def yX2_isRing : MethodName := ⟨RX2, "isRing", "(I)Z"⟩
abbrev cX2_largestRing : ByteArray := prog_4_method_9_code
def yX2_largestRing : MethodName := ⟨RX2, "largestRing", "(I)I"⟩
abbrev cX2_seekLargest : ByteArray := prog_4_method_10_code
def yX2_seekLargest : MethodName := ⟨RX2, "seekLargest", "(III)V"⟩
abbrev cX2_fewestRings : ByteArray := prog_4_method_11_code
def yX2_fewestRings : MethodName := ⟨RX2, "fewestRings", "(I)I"⟩
abbrev cX2_deal : ByteArray := prog_4_method_12_code
def yX2_deal : MethodName := ⟨RX2, "deal", "(III)V"⟩
abbrev cX2_loners : ByteArray := prog_4_method_13_code
def yX2_loners : MethodName := ⟨RX2, "loners", "(I)I"⟩
abbrev cX2_howManyPairs : ByteArray := prog_4_method_14_code
def yX2_howManyPairs : MethodName := ⟨RX2, "howManyPairs", "()I"⟩
abbrev cX2_howManyOrders : ByteArray := prog_4_method_15_code
def yX2_howManyOrders : MethodName := ⟨RX2, "howManyOrders", "(I)I"⟩
abbrev cX2_countOrders : ByteArray := prog_4_method_16_code
def yX2_countOrders : MethodName := ⟨RX2, "countOrders", "(I)V"⟩
abbrev cX2_gatherMembers : ByteArray := prog_4_method_17_code
def yX2_gatherMembers : MethodName := ⟨RX2, "gatherMembers", "(I)V"⟩
abbrev cX2_canLead : ByteArray := prog_4_method_18_code
def yX2_canLead : MethodName := ⟨RX2, "canLead", "(II)Z"⟩
abbrev cX2_inFirstOrder : ByteArray := prog_4_method_19_code
def yX2_inFirstOrder : MethodName := ⟨RX2, "inFirstOrder", "(II)I"⟩
abbrev cX2_firstLeader : ByteArray := prog_4_method_20_code
def yX2_firstLeader : MethodName := ⟨RX2, "firstLeader", "(I)I"⟩
abbrev cX2_misdated : ByteArray := prog_4_method_21_code
def yX2_misdated : MethodName := ⟨RX2, "misdated", "(I)I"⟩
abbrev cX2_fitsSomewhere : ByteArray := prog_4_method_22_code
def yX2_fitsSomewhere : MethodName := ⟨RX2, "fitsSomewhere", "(III)Z"⟩
abbrev cX2_rowByYears : ByteArray := prog_4_method_23_code
def yX2_rowByYears : MethodName := ⟨RX2, "rowByYears", "(I)I"⟩
abbrev cX2_surelyHad : ByteArray := prog_4_method_24_code
def yX2_surelyHad : MethodName := ⟨RX2, "surelyHad", "(II)J"⟩
abbrev cX2_surelyHadNot : ByteArray := prog_4_method_25_code
def yX2_surelyHadNot : MethodName := ⟨RX2, "surelyHadNot", "(II)J"⟩
abbrev cX2_mostTelling : ByteArray := prog_4_method_26_code
def yX2_mostTelling : MethodName := ⟨RX2, "mostTelling", "()I"⟩
abbrev cX2_likeliestKind : ByteArray := prog_4_method_27_code
def yX2_likeliestKind : MethodName := ⟨RX2, "likeliestKind", "(I)I"⟩
def RX3 : String := "SealPrints$Sheet"
def TX3 : u_T := fun k => match k with
  | 0 => ("SealPrints$Sheet", "numbers", "[J", true)
  | 1 => ("SealPrints$Sheet", "bits", "I", false)
  | _ => ("SealPrints$Sheet", "size", "I", false)
def tyX3 : Nat → FieldType := fun k => match k with
  | 0 => .array .long
  | 1 => .int
  | _ => .int
abbrev wsX30 : List Cond := u_ws RX3 TX3 3
theorem nmX3 : ∀ a, a < 3 → ∀ b, b < 3 → a ≠ b → (TX3 a).2.1 ≠ (TX3 b).2.1 := by decide +kernel
theorem tyX3_ok : ∀ k, k < 3 → parseFieldDescriptor (TX3 k).2.2.1 = some (tyX3 k) := by decide +kernel
abbrev cX3_init : ByteArray := prog_5_method_1_code
def yX3_init : MethodName := ⟨RX3, "<init>", "()V"⟩
abbrev cX3_isMissing : ByteArray := prog_5_method_2_code
def yX3_isMissing : MethodName := ⟨RX3, "isMissing", "()Z"⟩
abbrev cX3_lay : ByteArray := prog_5_method_3_code
def yX3_lay : MethodName := ⟨RX3, "lay", "(II)V"⟩
abbrev cX3_put : ByteArray := prog_5_method_4_code
def yX3_put : MethodName := ⟨RX3, "put", "(IJ)V"⟩
abbrev cX3_lowest : ByteArray := prog_5_method_5_code
def yX3_lowest : MethodName := ⟨RX3, "lowest", "(J)J"⟩
abbrev cX3_hasRun : ByteArray := prog_5_method_6_code
def yX3_hasRun : MethodName := ⟨RX3, "hasRun", "(II)Z"⟩
def RX4 : String := "SealPrints$Tape"
def TX4 : u_T := fun k => match k with
  | 0 => ("SealPrints$Tape", "bytes", "[I", true)
  | _ => ("SealPrints$Tape", "size", "I", false)
def tyX4 : Nat → FieldType := fun k => match k with
  | 0 => .array .int
  | _ => .int
abbrev wsX40 : List Cond := u_ws RX4 TX4 2
theorem nmX4 : ∀ a, a < 2 → ∀ b, b < 2 → a ≠ b → (TX4 a).2.1 ≠ (TX4 b).2.1 := by decide +kernel
theorem tyX4_ok : ∀ k, k < 2 → parseFieldDescriptor (TX4 k).2.2.1 = some (tyX4 k) := by decide +kernel
abbrev cX4_init : ByteArray := prog_6_method_1_code
def yX4_init : MethodName := ⟨RX4, "<init>", "()V"⟩
abbrev cX4_take : ByteArray := prog_6_method_2_code
def yX4_take : MethodName := ⟨RX4, "take", "(I)V"⟩
abbrev cX4_at : ByteArray := prog_6_method_3_code
def yX4_at : MethodName := ⟨RX4, "at", "(I)I"⟩
def RX5 : String := "SealPrints$TextReader"
def TX5 : u_T := fun k => match k with
  | 0 => ("SealPrints$TextReader", "tape", "LSealPrints$Tape;", true)
  | 1 => ("SealPrints$TextReader", "archive", "LSealPrints$Archive;", true)
  | 2 => ("SealPrints$TextReader", "before", "LSealPrints$Archive;", true)
  | 3 => ("SealPrints$TextReader", "token", "I", false)
  | 4 => ("SealPrints$TextReader", "start", "I", false)
  | 5 => ("SealPrints$TextReader", "end", "I", false)
  | _ => ("SealPrints$TextReader", "worth", "I", false)
def tyX5 : Nat → FieldType := fun k => match k with
  | 0 => .object "SealPrints$Tape"
  | 1 => .object "SealPrints$Archive"
  | 2 => .object "SealPrints$Archive"
  | 3 => .int
  | 4 => .int
  | 5 => .int
  | _ => .int
abbrev wsX50 : List Cond := u_ws RX5 TX5 7
theorem nmX5 : ∀ a, a < 7 → ∀ b, b < 7 → a ≠ b → (TX5 a).2.1 ≠ (TX5 b).2.1 := by decide +kernel
theorem tyX5_ok : ∀ k, k < 7 → parseFieldDescriptor (TX5 k).2.2.1 = some (tyX5 k) := by decide +kernel
abbrev cX5_init : ByteArray := prog_7_method_1_code
def yX5_init : MethodName := ⟨RX5, "<init>", "(LSealPrints$Tape;LSealPrints$Archive;)V"⟩
abbrev cX5_readArchive : ByteArray := prog_7_method_2_code
def yX5_readArchive : MethodName := ⟨RX5, "readArchive", "()I"⟩
abbrev cX5_readItem : ByteArray := prog_7_method_3_code
def yX5_readItem : MethodName := ⟨RX5, "readItem", "()Z"⟩
abbrev cX5_readSlack : ByteArray := prog_7_method_4_code
def yX5_readSlack : MethodName := ⟨RX5, "readSlack", "()Z"⟩
abbrev cX5_readLook : ByteArray := prog_7_method_5_code
def yX5_readLook : MethodName := ⟨RX5, "readLook", "()Z"⟩
abbrev cX5_readPrint : ByteArray := prog_7_method_6_code
def yX5_readPrint : MethodName := ⟨RX5, "readPrint", "(LSealPrints$Print;)Z"⟩
abbrev cX5_kindNamed : ByteArray := prog_7_method_7_code
def yX5_kindNamed : MethodName := ⟨RX5, "kindNamed", "()I"⟩
abbrev cX5_isNumber : ByteArray := prog_7_method_8_code
def yX5_isNumber : MethodName := ⟨RX5, "isNumber", "(II)Z"⟩
abbrev cX5_isWord : ByteArray := prog_7_method_9_code
def yX5_isWord : MethodName := ⟨RX5, "isWord", "(Ljava/lang/String;)Z"⟩
abbrev cX5_step : ByteArray := prog_7_method_10_code
def yX5_step : MethodName := ⟨RX5, "step", "()V"⟩
abbrev cX5_stepOverLetters : ByteArray := prog_7_method_11_code
def yX5_stepOverLetters : MethodName := ⟨RX5, "stepOverLetters", "()V"⟩
abbrev cX5_stepOverDigits : ByteArray := prog_7_method_12_code
def yX5_stepOverDigits : MethodName := ⟨RX5, "stepOverDigits", "()V"⟩
abbrev cX5_isLetter : ByteArray := prog_7_method_13_code
def yX5_isLetter : MethodName := ⟨RX5, "isLetter", "(I)Z"⟩
abbrev cX5_isDigit : ByteArray := prog_7_method_14_code
def yX5_isDigit : MethodName := ⟨RX5, "isDigit", "(I)Z"⟩
def RX6 : String := "SealPrints"
def TX6 : u_T := fun k => match k with
  | 0 => ("SealPrints", "archive", "LSealPrints$Archive;", true)
  | 1 => ("SealPrints", "kept", "LSealPrints$Archive;", true)
  | 2 => ("SealPrints", "rings", "LSealPrints$Rings;", true)
  | 3 => ("SealPrints", "tape", "LSealPrints$Tape;", true)
  | 4 => ("SealPrints", "reader", "LSealPrints$TextReader;", true)
  | 5 => ("SealPrints", "sheets", "[LSealPrints$Sheet;", true)
  | 6 => ("SealPrints", "tally", "[I", true)
  | _ => ("SealPrints", "isKept", "Z", false)
def tyX6 : Nat → FieldType := fun k => match k with
  | 0 => .object "SealPrints$Archive"
  | 1 => .object "SealPrints$Archive"
  | 2 => .object "SealPrints$Rings"
  | 3 => .object "SealPrints$Tape"
  | 4 => .object "SealPrints$TextReader"
  | 5 => .array (.object "SealPrints$Sheet")
  | 6 => .array .int
  | _ => .boolean
abbrev wsX60 : List Cond := u_ws RX6 TX6 8
theorem nmX6 : ∀ a, a < 8 → ∀ b, b < 8 → a ≠ b → (TX6 a).2.1 ≠ (TX6 b).2.1 := by decide +kernel
theorem tyX6_ok : ∀ k, k < 8 → parseFieldDescriptor (TX6 k).2.2.1 = some (tyX6 k) := by decide +kernel
abbrev cX6_init : ByteArray := prog_1_method_1_code
def yX6_init : MethodName := ⟨RX6, "<init>", "()V"⟩
abbrev cX6_print : ByteArray := prog_1_method_2_code
def yX6_print : MethodName := ⟨RX6, "print", "(IJ)I"⟩
abbrev cX6_of : ByteArray := prog_1_method_3_code
def yX6_of : MethodName := ⟨RX6, "of", "(II)I"⟩
abbrev cX6_marks : ByteArray := prog_1_method_4_code
def yX6_marks : MethodName := ⟨RX6, "marks", "(II)J"⟩
abbrev cX6_set : ByteArray := prog_1_method_5_code
def yX6_set : MethodName := ⟨RX6, "set", "(III)I"⟩
abbrev cX6_scratch : ByteArray := prog_1_method_6_code
def yX6_scratch : MethodName := ⟨RX6, "scratch", "(IIZ)I"⟩
abbrev cX6_look : ByteArray := prog_1_method_7_code
def yX6_look : MethodName := ⟨RX6, "look", "(I)I"⟩
abbrev cX6_turn : ByteArray := prog_1_method_8_code
def yX6_turn : MethodName := ⟨RX6, "turn", "(II)I"⟩
abbrev cX6_as : ByteArray := prog_1_method_9_code
def yX6_as : MethodName := ⟨RX6, "as", "(II)I"⟩
abbrev cX6_slack : ByteArray := prog_1_method_10_code
def yX6_slack : MethodName := ⟨RX6, "slack", "(I)I"⟩
abbrev cX6_ahead : ByteArray := prog_1_method_11_code
def yX6_ahead : MethodName := ⟨RX6, "ahead", "(II)I"⟩
abbrev cX6_order : ByteArray := prog_1_method_12_code
def yX6_order : MethodName := ⟨RX6, "order", "(II)I"⟩
abbrev cX6_alike : ByteArray := prog_1_method_13_code
def yX6_alike : MethodName := ⟨RX6, "alike", "(II)I"⟩
abbrev cX6_slackFor : ByteArray := prog_1_method_14_code
def yX6_slackFor : MethodName := ⟨RX6, "slackFor", "(II)I"⟩
abbrev cX6_came : ByteArray := prog_1_method_15_code
def yX6_came : MethodName := ⟨RX6, "came", "(II)I"⟩
abbrev cX6_ring : ByteArray := prog_1_method_16_code
def yX6_ring : MethodName := ⟨RX6, "ring", "(I)I"⟩
abbrev cX6_most : ByteArray := prog_1_method_17_code
def yX6_most : MethodName := ⟨RX6, "most", "(I)I"⟩
abbrev cX6_best : ByteArray := prog_1_method_18_code
def yX6_best : MethodName := ⟨RX6, "best", "(I)I"⟩
abbrev cX6_fewest : ByteArray := prog_1_method_19_code
def yX6_fewest : MethodName := ⟨RX6, "fewest", "(I)I"⟩
abbrev cX6_alone : ByteArray := prog_1_method_20_code
def yX6_alone : MethodName := ⟨RX6, "alone", "(I)I"⟩
abbrev cX6_orders : ByteArray := prog_1_method_21_code
def yX6_orders : MethodName := ⟨RX6, "orders", "(I)I"⟩
abbrev cX6_ith : ByteArray := prog_1_method_22_code
def yX6_ith : MethodName := ⟨RX6, "ith", "(II)I"⟩
abbrev cX6_falseDate : ByteArray := prog_1_method_23_code
def yX6_falseDate : MethodName := ⟨RX6, "falseDate", "(I)I"⟩
abbrev cX6_had : ByteArray := prog_1_method_24_code
def yX6_had : MethodName := ⟨RX6, "had", "(II)J"⟩
abbrev cX6_hadNot : ByteArray := prog_1_method_25_code
def yX6_hadNot : MethodName := ⟨RX6, "hadNot", "(II)J"⟩
abbrev cX6_castOf : ByteArray := prog_1_method_26_code
def yX6_castOf : MethodName := ⟨RX6, "castOf", "(I)I"⟩
abbrev cX6_deep : ByteArray := prog_1_method_27_code
def yX6_deep : MethodName := ⟨RX6, "deep", "(I)I"⟩
abbrev cX6_tell : ByteArray := prog_1_method_28_code
def yX6_tell : MethodName := ⟨RX6, "tell", "()I"⟩
abbrev cX6_kind : ByteArray := prog_1_method_29_code
def yX6_kind : MethodName := ⟨RX6, "kind", "(I)I"⟩
abbrev cX6_pairs : ByteArray := prog_1_method_30_code
def yX6_pairs : MethodName := ⟨RX6, "pairs", "()I"⟩
abbrev cX6_feed : ByteArray := prog_1_method_31_code
def yX6_feed : MethodName := ⟨RX6, "feed", "(II)I"⟩
abbrev cX6_wipe : ByteArray := prog_1_method_32_code
def yX6_wipe : MethodName := ⟨RX6, "wipe", "()I"⟩
abbrev cX6_text : ByteArray := prog_1_method_33_code
def yX6_text : MethodName := ⟨RX6, "text", "()I"⟩
abbrev cX6_sheet : ByteArray := prog_1_method_34_code
def yX6_sheet : MethodName := ⟨RX6, "sheet", "(III)I"⟩
abbrev cX6_write : ByteArray := prog_1_method_35_code
def yX6_write : MethodName := ⟨RX6, "write", "(IIJ)J"⟩
abbrev cX6_copy : ByteArray := prog_1_method_36_code
def yX6_copy : MethodName := ⟨RX6, "copy", "(IIIII)I"⟩
abbrev cX6_dates : ByteArray := prog_1_method_37_code
def yX6_dates : MethodName := ⟨RX6, "dates", "(I)I"⟩
abbrev cX6_show : ByteArray := prog_1_method_38_code
def yX6_show : MethodName := ⟨RX6, "show", "(I)I"⟩
abbrev cX6_read : ByteArray := prog_1_method_39_code
def yX6_read : MethodName := ⟨RX6, "read", "(I)I"⟩
abbrev cX6_image : ByteArray := prog_1_method_40_code
def yX6_image : MethodName := ⟨RX6, "image", "()I"⟩
abbrev cX6_undo : ByteArray := prog_1_method_41_code
def yX6_undo : MethodName := ⟨RX6, "undo", "()I"⟩
abbrev cX6_tear : ByteArray := prog_1_method_42_code
def yX6_tear : MethodName := ⟨RX6, "tear", "()I"⟩
abbrev cX6_count : ByteArray := prog_1_method_43_code
def yX6_count : MethodName := ⟨RX6, "count", "(I)I"⟩
abbrev cX6_status : ByteArray := prog_1_method_44_code
def yX6_status : MethodName := ⟨RX6, "status", "(I)I"⟩
abbrev cX6_found : ByteArray := prog_1_method_45_code
def yX6_found : MethodName := ⟨RX6, "found", "(I)I"⟩
abbrev cX6_printOr : ByteArray := prog_1_method_46_code
def yX6_printOr : MethodName := ⟨RX6, "printOr", "(II)I"⟩
abbrev cX6_areTwo : ByteArray := prog_1_method_47_code
def yX6_areTwo : MethodName := ⟨RX6, "areTwo", "(II)Z"⟩
abbrev cX6_isKind : ByteArray := prog_1_method_48_code
def yX6_isKind : MethodName := ⟨RX6, "isKind", "(I)Z"⟩
abbrev cX6_isPlace : ByteArray := prog_1_method_49_code
def yX6_isPlace : MethodName := ⟨RX6, "isPlace", "(I)Z"⟩
abbrev cX6_isWidth : ByteArray := prog_1_method_50_code
def yX6_isWidth : MethodName := ⟨RX6, "isWidth", "(I)Z"⟩
abbrev cX6_isYear : ByteArray := prog_1_method_51_code
def yX6_isYear : MethodName := ⟨RX6, "isYear", "(I)Z"⟩
abbrev cX6_isSlack : ByteArray := prog_1_method_52_code
def yX6_isSlack : MethodName := ⟨RX6, "isSlack", "(I)Z"⟩
abbrev cX6_isSheet : ByteArray := prog_1_method_53_code
def yX6_isSheet : MethodName := ⟨RX6, "isSheet", "(I)Z"⟩
abbrev cX6_isBits : ByteArray := prog_1_method_54_code
def yX6_isBits : MethodName := ⟨RX6, "isBits", "(I)Z"⟩
abbrev cX6_isUnder : ByteArray := prog_1_method_55_code
def yX6_isUnder : MethodName := ⟨RX6, "isUnder", "(II)Z"⟩
def RX7 : String := "SealPrintsModel"
def TX7 : u_T := fun k => match k with
  | 0 => ("SealPrintsModel", "row", "[I", true)
  | 1 => ("SealPrintsModel", "scratches", "[J", true)
  | 2 => ("SealPrintsModel", "found", "[I", true)
  | 3 => ("SealPrintsModel", "can", "[Z", true)
  | 4 => ("SealPrintsModel", "byYears", "[I", true)
  | 5 => ("SealPrintsModel", "isRing", "[Z", true)
  | 6 => ("SealPrintsModel", "few", "[I", true)
  | 7 => ("SealPrintsModel", "queue", "[I", true)
  | 8 => ("SealPrintsModel", "tape", "[I", true)
  | 9 => ("SealPrintsModel", "tapeMany", "I", false)
  | 10 => ("SealPrintsModel", "sort", "I", false)
  | 11 => ("SealPrintsModel", "begins", "I", false)
  | 12 => ("SealPrintsModel", "tokenEnds", "I", false)
  | 13 => ("SealPrintsModel", "word", "J", false)
  | 14 => ("SealPrintsModel", "value", "I", false)
  | 15 => ("SealPrintsModel", "good", "Z", false)
  | 16 => ("SealPrintsModel", "bitsOf", "[I", true)
  | 17 => ("SealPrintsModel", "sizeOf", "[I", true)
  | 18 => ("SealPrintsModel", "sheets", "[J", true)
  | 19 => ("SealPrintsModel", "lent", "[J", true)
  | 20 => ("SealPrintsModel", "image", "[I", true)
  | 21 => ("SealPrintsModel", "before", "[I", true)
  | 22 => ("SealPrintsModel", "marksKept", "[J", true)
  | 23 => ("SealPrintsModel", "marksBefore", "[J", true)
  | _ => ("SealPrintsModel", "isKept", "Z", false)
def tyX7 : Nat → FieldType := fun k => match k with
  | 0 => .array .int
  | 1 => .array .long
  | 2 => .array .int
  | 3 => .array .boolean
  | 4 => .array .int
  | 5 => .array .boolean
  | 6 => .array .int
  | 7 => .array .int
  | 8 => .array .int
  | 9 => .int
  | 10 => .int
  | 11 => .int
  | 12 => .int
  | 13 => .long
  | 14 => .int
  | 15 => .boolean
  | 16 => .array .int
  | 17 => .array .int
  | 18 => .array .long
  | 19 => .array .long
  | 20 => .array .int
  | 21 => .array .int
  | 22 => .array .long
  | 23 => .array .long
  | _ => .boolean
abbrev wsX70 : List Cond := u_ws RX7 TX7 25
theorem nmX7 : ∀ a, a < 25 → ∀ b, b < 25 → a ≠ b → (TX7 a).2.1 ≠ (TX7 b).2.1 := by decide +kernel
theorem tyX7_ok : ∀ k, k < 25 → parseFieldDescriptor (TX7 k).2.2.1 = some (tyX7 k) := by decide +kernel
abbrev cX7_init : ByteArray := prog_9_method_1_code
def yX7_init : MethodName := ⟨RX7, "<init>", "()V"⟩
abbrev cX7_in : ByteArray := prog_9_method_2_code
def yX7_in : MethodName := ⟨RX7, "in", "(III)Z"⟩
abbrev cX7_finds : ByteArray := prog_9_method_3_code
def yX7_finds : MethodName := ⟨RX7, "finds", "(I)I"⟩
abbrev cX7_its : ByteArray := prog_9_method_4_code
def yX7_its : MethodName := ⟨RX7, "its", "(II)I"⟩
abbrev cX7_sets : ByteArray := prog_9_method_5_code
def yX7_sets : MethodName := ⟨RX7, "sets", "(III)V"⟩
abbrev cX7_isPrint : ByteArray := prog_9_method_6_code
def yX7_isPrint : MethodName := ⟨RX7, "isPrint", "(I)Z"⟩
abbrev cX7_isKind : ByteArray := prog_9_method_7_code
def yX7_isKind : MethodName := ⟨RX7, "isKind", "(I)Z"⟩
abbrev cX7_isSet : ByteArray := prog_9_method_8_code
def yX7_isSet : MethodName := ⟨RX7, "isSet", "(I)Z"⟩
abbrev cX7_has : ByteArray := prog_9_method_9_code
def yX7_has : MethodName := ⟨RX7, "has", "(II)Z"⟩
abbrev cX7_ones : ByteArray := prog_9_method_10_code
def yX7_ones : MethodName := ⟨RX7, "ones", "(I)I"⟩
abbrev cX7_many : ByteArray := prog_9_method_11_code
def yX7_many : MethodName := ⟨RX7, "many", "(J)I"⟩
abbrev cX7_trueWidth : ByteArray := prog_9_method_12_code
def yX7_trueWidth : MethodName := ⟨RX7, "trueWidth", "(I)I"⟩
abbrev cX7_hides : ByteArray := prog_9_method_13_code
def yX7_hides : MethodName := ⟨RX7, "hides", "(I)J"⟩
abbrev cX7_shows : ByteArray := prog_9_method_14_code
def yX7_shows : MethodName := ⟨RX7, "shows", "(I)J"⟩
abbrev cX7_addPrint : ByteArray := prog_9_method_15_code
def yX7_addPrint : MethodName := ⟨RX7, "addPrint", "(IJIII)V"⟩
abbrev cX7_print : ByteArray := prog_9_method_16_code
def yX7_print : MethodName := ⟨RX7, "print", "(IJ)I"⟩
abbrev cX7_of : ByteArray := prog_9_method_17_code
def yX7_of : MethodName := ⟨RX7, "of", "(II)I"⟩
abbrev cX7_marks : ByteArray := prog_9_method_18_code
def yX7_marks : MethodName := ⟨RX7, "marks", "(II)J"⟩
abbrev cX7_isTold : ByteArray := prog_9_method_19_code
def yX7_isTold : MethodName := ⟨RX7, "isTold", "(II)Z"⟩
abbrev cX7_set : ByteArray := prog_9_method_20_code
def yX7_set : MethodName := ⟨RX7, "set", "(III)I"⟩
abbrev cX7_scratch : ByteArray := prog_9_method_21_code
def yX7_scratch : MethodName := ⟨RX7, "scratch", "(IIZ)I"⟩
abbrev cX7_look : ByteArray := prog_9_method_22_code
def yX7_look : MethodName := ⟨RX7, "look", "(I)I"⟩
abbrev cX7_turn : ByteArray := prog_9_method_23_code
def yX7_turn : MethodName := ⟨RX7, "turn", "(II)I"⟩
abbrev cX7_isUnder : ByteArray := prog_9_method_24_code
def yX7_isUnder : MethodName := ⟨RX7, "isUnder", "(II)Z"⟩
abbrev cX7_as : ByteArray := prog_9_method_25_code
def yX7_as : MethodName := ⟨RX7, "as", "(II)I"⟩
abbrev cX7_slack : ByteArray := prog_9_method_26_code
def yX7_slack : MethodName := ⟨RX7, "slack", "(I)I"⟩
abbrev cX7_apartBy : ByteArray := prog_9_method_27_code
def yX7_apartBy : MethodName := ⟨RX7, "apartBy", "(II)I"⟩
abbrev cX7_marksAllow : ByteArray := prog_9_method_28_code
def yX7_marksAllow : MethodName := ⟨RX7, "marksAllow", "(II)Z"⟩
abbrev cX7_canBe : ByteArray := prog_9_method_29_code
def yX7_canBe : MethodName := ⟨RX7, "canBe", "(II)Z"⟩
abbrev cX7_areTwo : ByteArray := prog_9_method_30_code
def yX7_areTwo : MethodName := ⟨RX7, "areTwo", "(II)Z"⟩
abbrev cX7_ahead : ByteArray := prog_9_method_31_code
def yX7_ahead : MethodName := ⟨RX7, "ahead", "(II)I"⟩
abbrev cX7_order : ByteArray := prog_9_method_32_code
def yX7_order : MethodName := ⟨RX7, "order", "(II)I"⟩
abbrev cX7_alike : ByteArray := prog_9_method_33_code
def yX7_alike : MethodName := ⟨RX7, "alike", "(II)I"⟩
abbrev cX7_slackFor : ByteArray := prog_9_method_34_code
def yX7_slackFor : MethodName := ⟨RX7, "slackFor", "(II)I"⟩
abbrev cX7_came : ByteArray := prog_9_method_35_code
def yX7_came : MethodName := ⟨RX7, "came", "(II)I"⟩
abbrev cX7_isEarlier : ByteArray := prog_9_method_36_code
def yX7_isEarlier : MethodName := ⟨RX7, "isEarlier", "(II)Z"⟩
abbrev cX7_areOfOne : ByteArray := prog_9_method_37_code
def yX7_areOfOne : MethodName := ⟨RX7, "areOfOne", "(II)Z"⟩
abbrev cX7_findCan : ByteArray := prog_9_method_38_code
def yX7_findCan : MethodName := ⟨RX7, "findCan", "()V"⟩
abbrev cX7_isWithAll : ByteArray := prog_9_method_39_code
def yX7_isWithAll : MethodName := ⟨RX7, "isWithAll", "(II)Z"⟩
abbrev cX7_lowest : ByteArray := prog_9_method_40_code
def yX7_lowest : MethodName := ⟨RX7, "lowest", "(I)I"⟩
abbrev cX7_findRings : ByteArray := prog_9_method_41_code
def yX7_findRings : MethodName := ⟨RX7, "findRings", "()V"⟩
abbrev cX7_ring : ByteArray := prog_9_method_42_code
def yX7_ring : MethodName := ⟨RX7, "ring", "(I)I"⟩
abbrev cX7_bestOf : ByteArray := prog_9_method_43_code
def yX7_bestOf : MethodName := ⟨RX7, "bestOf", "(I)I"⟩
abbrev cX7_most : ByteArray := prog_9_method_44_code
def yX7_most : MethodName := ⟨RX7, "most", "(I)I"⟩
abbrev cX7_best : ByteArray := prog_9_method_45_code
def yX7_best : MethodName := ⟨RX7, "best", "(I)I"⟩
abbrev cX7_fewestOf : ByteArray := prog_9_method_46_code
def yX7_fewestOf : MethodName := ⟨RX7, "fewestOf", "(I)I"⟩
abbrev cX7_fewest : ByteArray := prog_9_method_47_code
def yX7_fewest : MethodName := ⟨RX7, "fewest", "(I)I"⟩
abbrev cX7_alone : ByteArray := prog_9_method_48_code
def yX7_alone : MethodName := ⟨RX7, "alone", "(I)I"⟩
abbrev cX7_isAheadOf : ByteArray := prog_9_method_49_code
def yX7_isAheadOf : MethodName := ⟨RX7, "isAheadOf", "(II)Z"⟩
abbrev cX7_findOrders : ByteArray := prog_9_method_50_code
def yX7_findOrders : MethodName := ⟨RX7, "findOrders", "(I)V"⟩
abbrev cX7_orders : ByteArray := prog_9_method_51_code
def yX7_orders : MethodName := ⟨RX7, "orders", "(I)I"⟩
abbrev cX7_ith : ByteArray := prog_9_method_52_code
def yX7_ith : MethodName := ⟨RX7, "ith", "(II)I"⟩
abbrev cX7_fitsSomewhere : ByteArray := prog_9_method_53_code
def yX7_fitsSomewhere : MethodName := ⟨RX7, "fitsSomewhere", "(II)Z"⟩
abbrev cX7_falseDate : ByteArray := prog_9_method_54_code
def yX7_falseDate : MethodName := ⟨RX7, "falseDate", "(I)I"⟩
abbrev cX7_had : ByteArray := prog_9_method_55_code
def yX7_had : MethodName := ⟨RX7, "had", "(II)J"⟩
abbrev cX7_hadNot : ByteArray := prog_9_method_56_code
def yX7_hadNot : MethodName := ⟨RX7, "hadNot", "(II)J"⟩
abbrev cX7_isCast : ByteArray := prog_9_method_57_code
def yX7_isCast : MethodName := ⟨RX7, "isCast", "(I)Z"⟩
abbrev cX7_canBeCast : ByteArray := prog_9_method_58_code
def yX7_canBeCast : MethodName := ⟨RX7, "canBeCast", "(II)Z"⟩
abbrev cX7_fromOf : ByteArray := prog_9_method_59_code
def yX7_fromOf : MethodName := ⟨RX7, "fromOf", "(I)I"⟩
abbrev cX7_castOf : ByteArray := prog_9_method_60_code
def yX7_castOf : MethodName := ⟨RX7, "castOf", "(I)I"⟩
abbrev cX7_deep : ByteArray := prog_9_method_61_code
def yX7_deep : MethodName := ⟨RX7, "deep", "(I)I"⟩
abbrev cX7_tell : ByteArray := prog_9_method_62_code
def yX7_tell : MethodName := ⟨RX7, "tell", "()I"⟩
abbrev cX7_withHow : ByteArray := prog_9_method_63_code
def yX7_withHow : MethodName := ⟨RX7, "withHow", "(I)I"⟩
abbrev cX7_kind : ByteArray := prog_9_method_64_code
def yX7_kind : MethodName := ⟨RX7, "kind", "(I)I"⟩
abbrev cX7_pairs : ByteArray := prog_9_method_65_code
def yX7_pairs : MethodName := ⟨RX7, "pairs", "()I"⟩
abbrev cX7_feed : ByteArray := prog_9_method_66_code
def yX7_feed : MethodName := ⟨RX7, "feed", "(II)I"⟩
abbrev cX7_wipe : ByteArray := prog_9_method_67_code
def yX7_wipe : MethodName := ⟨RX7, "wipe", "()I"⟩
abbrev cX7_byteAt : ByteArray := prog_9_method_68_code
def yX7_byteAt : MethodName := ⟨RX7, "byteAt", "(I)I"⟩
abbrev cX7_isLetter : ByteArray := prog_9_method_69_code
def yX7_isLetter : MethodName := ⟨RX7, "isLetter", "(I)Z"⟩
abbrev cX7_isDigit : ByteArray := prog_9_method_70_code
def yX7_isDigit : MethodName := ⟨RX7, "isDigit", "(I)Z"⟩
abbrev cX7_advance : ByteArray := prog_9_method_71_code
def yX7_advance : MethodName := ⟨RX7, "advance", "()V"⟩
abbrev cX7_isWord : ByteArray := prog_9_method_72_code
def yX7_isWord : MethodName := ⟨RX7, "isWord", "(J)Z"⟩
abbrev cX7_kindHere : ByteArray := prog_9_method_73_code
def yX7_kindHere : MethodName := ⟨RX7, "kindHere", "()I"⟩
abbrev cX7_wantNumber : ByteArray := prog_9_method_74_code
def yX7_wantNumber : MethodName := ⟨RX7, "wantNumber", "(II)I"⟩
abbrev cX7_mayWant : ByteArray := prog_9_method_75_code
def yX7_mayWant : MethodName := ⟨RX7, "mayWant", "(JIII)I"⟩
abbrev cX7_wantPrint : ByteArray := prog_9_method_76_code
def yX7_wantPrint : MethodName := ⟨RX7, "wantPrint", "(I)V"⟩
abbrev cX7_wantSlack : ByteArray := prog_9_method_77_code
def yX7_wantSlack : MethodName := ⟨RX7, "wantSlack", "()V"⟩
abbrev cX7_wantLook : ByteArray := prog_9_method_78_code
def yX7_wantLook : MethodName := ⟨RX7, "wantLook", "()V"⟩
abbrev cX7_wantItem : ByteArray := prog_9_method_79_code
def yX7_wantItem : MethodName := ⟨RX7, "wantItem", "()V"⟩
abbrev cX7_text : ByteArray := prog_9_method_80_code
def yX7_text : MethodName := ⟨RX7, "text", "()I"⟩
abbrev cX7_isSheet : ByteArray := prog_9_method_81_code
def yX7_isSheet : MethodName := ⟨RX7, "isSheet", "(I)Z"⟩
abbrev cX7_narrow : ByteArray := prog_9_method_82_code
def yX7_narrow : MethodName := ⟨RX7, "narrow", "(IJ)J"⟩
abbrev cX7_sheet : ByteArray := prog_9_method_83_code
def yX7_sheet : MethodName := ⟨RX7, "sheet", "(III)I"⟩
abbrev cX7_write : ByteArray := prog_9_method_84_code
def yX7_write : MethodName := ⟨RX7, "write", "(IIJ)J"⟩
abbrev cX7_isPart : ByteArray := prog_9_method_85_code
def yX7_isPart : MethodName := ⟨RX7, "isPart", "(III)Z"⟩
abbrev cX7_copy : ByteArray := prog_9_method_86_code
def yX7_copy : MethodName := ⟨RX7, "copy", "(IIIII)I"⟩
abbrev cX7_dates : ByteArray := prog_9_method_87_code
def yX7_dates : MethodName := ⟨RX7, "dates", "(I)I"⟩
abbrev cX7_show : ByteArray := prog_9_method_88_code
def yX7_show : MethodName := ⟨RX7, "show", "(I)I"⟩
abbrev cX7_read : ByteArray := prog_9_method_89_code
def yX7_read : MethodName := ⟨RX7, "read", "(I)I"⟩
abbrev cX7_moveAll : ByteArray := prog_9_method_90_code
def yX7_moveAll : MethodName := ⟨RX7, "moveAll", "(Z[I[J)V"⟩
abbrev cX7_image : ByteArray := prog_9_method_91_code
def yX7_image : MethodName := ⟨RX7, "image", "()I"⟩
abbrev cX7_undo : ByteArray := prog_9_method_92_code
def yX7_undo : MethodName := ⟨RX7, "undo", "()I"⟩
abbrev cX7_tear : ByteArray := prog_9_method_93_code
def yX7_tear : MethodName := ⟨RX7, "tear", "()I"⟩
abbrev cX7_count : ByteArray := prog_9_method_94_code
def yX7_count : MethodName := ⟨RX7, "count", "(I)I"⟩
abbrev cX7_status : ByteArray := prog_9_method_95_code
def yX7_status : MethodName := ⟨RX7, "status", "(I)I"⟩
def RJ6 : String := "java/lang/Integer"
abbrev cJ6_bitCount_0f7a4 : ByteArray := prog_10_method_49_code
def yJ6_bitCount_0f7a4 : MethodName := ⟨RJ6, "bitCount", "(I)I"⟩
def RJ13 : String := "java/lang/Long"
abbrev cJ13_bitCount_95d88 : ByteArray := prog_11_method_50_code
def yJ13_bitCount_95d88 : MethodName := ⟨RJ13, "bitCount", "(J)I"⟩
def RJ9 : String := "java/lang/Math"
abbrev cJ9_abs_0f7a4 : ByteArray := prog_12_method_59_code
def yJ9_abs_0f7a4 : MethodName := ⟨RJ9, "abs", "(I)I"⟩
abbrev cJ9_min_7cf53 : ByteArray := prog_12_method_69_code
def yJ9_min_7cf53 : MethodName := ⟨RJ9, "min", "(II)I"⟩
def RJ0 : String := "java/lang/String"
abbrev cJ0_length_8abf5 : ByteArray := prog_13_method_54_code
def yJ0_length_8abf5 : MethodName := ⟨RJ0, "length", "()I"⟩
abbrev cJ0_charAt_5068e : ByteArray := prog_13_method_56_code
def yJ0_charAt_5068e : MethodName := ⟨RJ0, "charAt", "(I)C"⟩
abbrev cJ0_coder_7d493 : ByteArray := prog_13_method_152_code
def yJ0_coder_7d493 : MethodName := ⟨RJ0, "coder", "()B"⟩
abbrev cJ0_isLatin1_aae02 : ByteArray := prog_13_method_154_code
def yJ0_isLatin1_aae02 : MethodName := ⟨RJ0, "isLatin1", "()Z"⟩
abbrev cJ0_checkIndex_df160 : ByteArray := prog_13_method_155_code
def yJ0_checkIndex_df160 : MethodName := ⟨RJ0, "checkIndex", "(II)V"⟩
def RJ1 : String := "java/lang/StringLatin1"
abbrev cJ1_charAt_3b067 : ByteArray := prog_14_method_2_code
def yJ1_charAt_3b067 : MethodName := ⟨RJ1, "charAt", "([BI)C"⟩
def RJ2 : String := "java/lang/StringUTF16"
abbrev cJ2_getChar_3b067 : ByteArray := prog_15_method_5_code
def yJ2_getChar_3b067 : MethodName := ⟨RJ2, "getChar", "([BI)C"⟩
abbrev cJ2_length_9d52b : ByteArray := prog_15_method_6_code
def yJ2_length_9d52b : MethodName := ⟨RJ2, "length", "([B)I"⟩
abbrev cJ2_charAt_3b067 : ByteArray := prog_15_method_83_code
def yJ2_charAt_3b067 : MethodName := ⟨RJ2, "charAt", "([BI)C"⟩
abbrev cJ2_checkIndex_2214a : ByteArray := prog_15_method_91_code
def yJ2_checkIndex_2214a : MethodName := ⟨RJ2, "checkIndex", "(I[B)V"⟩
def RJ10 : String := "java/lang/System"
def RJ3 : String := "jdk/internal/util/Preconditions"
abbrev cJ3_checkIndex_8e157 : ByteArray := prog_17_method_11_code
def yJ3_checkIndex_8e157 : MethodName := ⟨RJ3, "checkIndex", "(IILjava/util/function/BiFunction;)I"⟩
def RL : String := "SealPrintsLaw"
abbrev cL_law : ByteArray := code
def yL_law : MethodName := ⟨RL, "law", "([I)Z"⟩
def wsX1_init : List Cond := .code yX1_init cX1_init 1 none :: ([.methodLink RX1 3 objectInit, .instanceMethod objectInit, .code objectInit ⟨#[0xb1]⟩ 1 none])
abbrev vwCl : List vw_C := [(RX0, TX0, 3), (RX1, TX1, 5), (RX2, TX2, 11), (RX3, TX3, 3), (RX4, TX4, 2), (RX5, TX5, 7), (RX6, TX6, 8), (RX7, TX7, 25)]
theorem inX0 : ∀ w ∈ wsX00, w ∈ lw_tbl := by decide +kernel
theorem inX1 : ∀ w ∈ wsX10, w ∈ lw_tbl := by decide +kernel
theorem inX2 : ∀ w ∈ wsX20, w ∈ lw_tbl := by decide +kernel
theorem inX3 : ∀ w ∈ wsX30, w ∈ lw_tbl := by decide +kernel
theorem inX4 : ∀ w ∈ wsX40, w ∈ lw_tbl := by decide +kernel
theorem inX5 : ∀ w ∈ wsX50, w ∈ lw_tbl := by decide +kernel
theorem inX6 : ∀ w ∈ wsX60, w ∈ lw_tbl := by decide +kernel
theorem inX7 : ∀ w ∈ wsX70, w ∈ lw_tbl := by decide +kernel
end
section
/-! the words that every method takes: the good ones of the tables -/
def gtbl : List Cond := lw_tbl.filter goodWord
theorem gtbl_in {w : Cond} (h : w ∈ lw_tbl) (g : goodWord w = true) : w ∈ gtbl := List.mem_filter.mpr ⟨h, g⟩
theorem gtbl_good : GoodIn gtbl gtbl := fun _ h => ⟨h, good_of_word (List.mem_filter.mp h).2⟩
theorem igX0 : ∀ w ∈ wsX00, w ∈ gtbl := fun w h => gtbl_in (inX0 w h) (List.all_eq_true.mp (show wsX00.all goodWord = true by decide +kernel) w h)
theorem igX1 : ∀ w ∈ wsX10, w ∈ gtbl := fun w h => gtbl_in (inX1 w h) (List.all_eq_true.mp (show wsX10.all goodWord = true by decide +kernel) w h)
theorem igX2 : ∀ w ∈ wsX20, w ∈ gtbl := fun w h => gtbl_in (inX2 w h) (List.all_eq_true.mp (show wsX20.all goodWord = true by decide +kernel) w h)
theorem igX3 : ∀ w ∈ wsX30, w ∈ gtbl := fun w h => gtbl_in (inX3 w h) (List.all_eq_true.mp (show wsX30.all goodWord = true by decide +kernel) w h)
theorem igX4 : ∀ w ∈ wsX40, w ∈ gtbl := fun w h => gtbl_in (inX4 w h) (List.all_eq_true.mp (show wsX40.all goodWord = true by decide +kernel) w h)
theorem igX5 : ∀ w ∈ wsX50, w ∈ gtbl := fun w h => gtbl_in (inX5 w h) (List.all_eq_true.mp (show wsX50.all goodWord = true by decide +kernel) w h)
theorem igX6 : ∀ w ∈ wsX60, w ∈ gtbl := fun w h => gtbl_in (inX6 w h) (List.all_eq_true.mp (show wsX60.all goodWord = true by decide +kernel) w h)
theorem igX7 : ∀ w ∈ wsX70, w ∈ gtbl := fun w h => gtbl_in (inX7 w h) (List.all_eq_true.mp (show wsX70.all goodWord = true by decide +kernel) w h)
theorem q0 : Cond.selects RX6 yX6_found yX6_found ∈ gtbl := gtbl_in (List.mem_of_getElem? (i := 0) (by decide +kernel)) rfl
theorem q1 : Cond.selects RX6 yX6_areTwo yX6_areTwo ∈ gtbl := gtbl_in (List.mem_of_getElem? (i := 1) (by decide +kernel)) rfl
end
section
/-! MEMORY AND CONTRACTS: a world is a list of cells that a memory fills; a method's contract says which memory comes of which. -/
abbrev Mem : Type := (Nat → Nat → Int32) × (Nat → Nat → Int64)
def sI (u : Mem) (i k : Nat) (v : Int32) : Mem := (fun x y => if x = i ∧ y = k then v else u.1 x y, u.2)
def sL (u : Mem) (i k : Nat) (v : Int64) : Mem := (u.1, fun x y => if x = i ∧ y = k then v else u.2 x y)
def bdI {β : Type} (o : Option (Int32 × Mem)) (f : Int32 → Mem → Option β) : Option β := match o with
  | none => none
  | some q => f q.1 q.2
def bdL {β : Type} (o : Option (Int64 × Mem)) (f : Int64 → Mem → Option β) : Option β := match o with
  | none => none
  | some q => f q.1 q.2
def bdV {β : Type} (o : Option Mem) (f : Mem → Option β) : Option β := match o with
  | none => none
  | some q => f q
def gd {β : Type} (i : Int32) (n : Nat) (x : Option β) : Option β := if i < 0 ∨ n ≤ i.toNatClampNeg then none else x
def gz {β : Type} (v : Int32) (x : Option β) : Option β := if v = 0 ∨ v = 1 then x else none
theorem bdI_some {β : Type} {o : Option (Int32 × Mem)} {f : Int32 → Mem → Option β} {z : β} (h : bdI o f = some z) : ∃ r u, o = some (r, u) ∧ f r u = some z := by
  cases o with
  | none => cases h
  | some q => exact ⟨q.1, q.2, rfl, h⟩
theorem bdL_some {β : Type} {o : Option (Int64 × Mem)} {f : Int64 → Mem → Option β} {z : β} (h : bdL o f = some z) : ∃ r u, o = some (r, u) ∧ f r u = some z := by
  cases o with
  | none => cases h
  | some q => exact ⟨q.1, q.2, rfl, h⟩
theorem bdV_some {β : Type} {o : Option Mem} {f : Mem → Option β} {z : β} (h : bdV o f = some z) : ∃ u, o = some u ∧ f u = some z := by
  cases o with
  | none => cases h
  | some q => exact ⟨q, rfl, h⟩
theorem gd_some {β : Type} {i : Int32} {n : Nat} {x : Option β} {z : β} (h : gd i n x = some z) : vp_in i n ∧ x = some z := by
  unfold gd at h
  by_cases c : i < 0 ∨ n ≤ i.toNatClampNeg
  · rw [if_pos c] at h; cases h
  · rw [if_neg c] at h; exact ⟨c, h⟩
theorem gz_some {β : Type} {v : Int32} {x : Option β} {z : β} (h : gz v x = some z) : (v = 0 ∨ v = 1) ∧ x = some z := by
  unfold gz at h
  by_cases c : v = 0 ∨ v = 1
  · rw [if_pos c] at h; exact ⟨c, h⟩
  · rw [if_neg c] at h; cases h
theorem ite_t {α : Type} {q : Prop} [Decidable q] {x y z : α} (h : (if q then x else y) = z) (hc : q) : x = z := by rw [if_pos hc] at h; exact h
theorem ite_f {α : Type} {q : Prop} [Decidable q] {x y z : α} (h : (if q then x else y) = z) (hc : ¬ q) : y = z := by rw [if_neg hc] at h; exact h
theorem nz_ok {v : Int32} (h : v = 0 ∨ v = 1) : narrow .boolean (.int v) = .int v := by rcases h with rfl | rfl <;> rfl
theorem nz_nar {v : Int32} (h : v = 0 ∨ v = 1) : vp_nar .boolean v = v := by rcases h with rfl | rfl <;> rfl
theorem vp_lt {i : Int32} {n : Nat} (h : vp_in i n) : i.toNatClampNeg < n := Nat.not_le.mp fun q => h (Or.inr q)
abbrev wz (y : MethodName) (b : ByteArray) (mL : Nat) (rt : Option FieldType) : List Cond := Cond.code y b mL rt :: gtbl
/-- what goes on in the state beside the world, and stays -/
def EnvOK (A : Nat → Prop) (E : State → Prop) : Prop := (∀ (U : State) (g : JFrame) (mk : MethodId) (x : Array Value), E U → E (U.calling g mk x)) ∧ ∀ (s U : State), E s → (∀ q : Nat, q < s.heap.size → ¬ A q → U.heap[q]? = s.heap[q]?) → s.WarmedH U.vm → E U
def MPre (D : va_G) (tys : List (ClassId × FieldType)) (A : Nat → Prop) (E : State → Prop) (w : va_W) (U : State) : Prop := va_P D vwCl w U.heap ∧ va_K D vwCl tys U ∧ va_D A w ∧ E U
def MPost (D : va_G) (A : Nat → Prop) (w : va_W) (r : Option Value) : Array Value → State → Outcome → State → Prop := fun _ st oc t => (oc = .returned r ∧ va_P D vwCl w t.heap ∧ va_D A w) ∧ va_F A st t
/-- THE CONTRACT: with these arguments, from the world w the method answers r and leaves the world w2 -/
def MM (l : Launch) (D : va_G) (tys : List (ClassId × FieldType)) (A : Nat → Prop) (E : State → Prop) (y : MethodName) (b : ByteArray) (mL : Nat) (rt : Option FieldType) (fr lo : Nat) (av : List Value) (w : va_W) (r : Option Value) (w2 : va_W) : Prop :=
  Met l y (wz y b mL rt) { frames := fr, cells := 0, slots := 0, locals := lo } (va_Pc av (MPre D tys A E w)) (MPost D A w2 r) 0 0 A
/-- a callee's words: a virtual one, a static one -/
def CV (own : String) (idx : Nat) (y : MethodName) (b : ByteArray) (mL : Nat) (rt : Option FieldType) (n : Nat) : Prop :=
  (Cond.methodLink own idx y ∈ gtbl ∧ Cond.instanceMethod y ∈ gtbl ∧ Cond.selects y.cls y y ∈ gtbl ∧ Cond.initialized y.cls ∈ gtbl ∧ Cond.code y b mL rt ∈ gtbl) ∧ y.cls ≠ "java/lang/invoke/MethodHandle" ∧ y.cls ≠ "java/lang/invoke/VarHandle" ∧ (parseMethodDescriptor y.desc).map (fun d => d.parameters.length) = some n
def CT (own : String) (idx : Nat) (y : MethodName) (b : ByteArray) (mL : Nat) (rt : Option FieldType) (n : Nat) : Prop :=
  (Cond.methodLink own idx y ∈ gtbl ∧ Cond.static y ∈ gtbl ∧ Cond.initialized y.cls ∈ gtbl ∧ Cond.code y b mL rt ∈ gtbl) ∧ y.cls ≠ "java/lang/invoke/MethodHandle" ∧ y.cls ≠ "java/lang/invoke/VarHandle" ∧ (parseMethodDescriptor y.desc).map (fun d => d.parameters.length) = some n
section MMrows
variable {p : Program} {l : Launch} {e : Env} {R : Room} {s : State} {m : MethodId} {args : Array Value} {below : List Frame} {meth : Method} {c : Code} {H : Heap} {locs : List Loc} {cells slots : Nat} {Q : State → Prop}
variable {D : va_G} {tys : List (ClassId × FieldType)} {A : Nat → Prop} {E : State → Prop} {y : MethodName} {b cc : ByteArray} {mL nL fr lo n index : Nat} {rt : Option FieldType} {As rest st0 : List Value} {w w2 : va_W} {r : Option Value} {own : String} {pc : Nat} {ls : Array Slot} {bb : Nat}
theorem MPre.blind (hE : EnvOK A E) (av : List Value) : FrameBlind (va_Pc av (MPre D tys A E w)) := by
  intro x U g mk q
  obtain ⟨q0, qP, qK, qD, qE⟩ := q
  exact ⟨q0, qP, va_K.moved (u := U) (U := U.calling g mk x) (Vm.Alike.refl U.vm) qK, qD, hE.1 U g mk x qE⟩
theorem MPre.at (hE : EnvOK A E) (hP : va_P D vwCl w H) (hD : va_D A w) (hS : va_S A s.heap H locs) (hK : va_K D vwCl tys s) (hEs : E s) (av : List Value) : ∀ U : State, U.heap = H → s.WarmedH U.vm → va_Pc av (MPre D tys A E w) av.toArray U := by
  intro U hU hW
  exact ⟨rfl, by rw [hU]; exact hP, va_K.moved hW.alike hK, hD, hE.2 s U hEs (fun q h1 h2 => by rw [hU]; exact hS.2.1 q h1 h2) hW⟩
theorem MM.run {args2 : Array Value} (hr : va_Run p l e R s m args below meth c H locs cells slots 0 0 (F0 m pc ls st0) rest (MPost D A w2 r args2) A) (hS : va_S A s.heap H locs)
    (kk : ∀ (H1 : Heap) (locs1 : List Loc), va_P D vwCl w2 H1 → va_D A w2 → va_S A s.heap H1 locs1 → W p l e R s m args below meth c H1 locs1 cells slots Q (F0 m (pc + 3) ls (r.toList ++ rest))) : W p l e R s m args below meth c H locs cells slots Q (F0 m pc ls st0) := by
  intro T hT X
  obtain ⟨v, st₀, t, T', L, h0, X', hL, e1, e2, ⟨⟨hv, hp, hd⟩, hz, hk⟩, st⟩ := hr T hT X
  cases hv
  rw [h0] at hz hk
  obtain ⟨t2, a1, b1⟩ := kk T'.heap (locs ++ L) (by rw [e1]; exact hp) hd
    ⟨Nat.le_trans hS.1 (by rw [e1]; exact hz), fun q h1 h2 => by rw [e1, hk q (Nat.lt_of_lt_of_le h1 hS.1) h2]; exact hS.2.1 q h1 h2, fun q hq => by
      rcases List.mem_append.mp hq with h | h
      · exact hS.2.2 q h
      · exact hL q h⟩ T' rfl X'
  exact ⟨t2, st t2 a1, b1⟩
theorem callB_mm (hts : ∀ w ∈ gtbl, w.before args s = true) (hR : fr + 1 ≤ R.frames ∧ 8 + (mL + 11) + lo ≤ R.locals) (h1 : Cond.methodLink own index y ∈ gtbl) (h2 : Cond.initialized y.cls ∈ gtbl) (h3 : Cond.code y b mL rt ∈ gtbl) (h4 : y.cls ≠ "java/lang/invoke/MethodHandle" ∧ y.cls ≠ "java/lang/invoke/VarHandle" ∧ (parseMethodDescriptor y.desc).map (fun d => d.parameters.length) = some n) :
    CallB R s args own index y b mL rt (wz y b mL rt) { frames := fr, cells := 0, slots := 0, locals := lo } 0 0 n :=
  callB_of n hts (fun w hw => by
    rcases List.mem_cons.mp hw with rfl | hw
    · exact gtbl_good _ h3
    · exact gtbl_good _ hw) rfl rfl rfl (hts _ h2) (hts _ h1) h4 hR
/-- a call of an object's method -/
theorem MM.callV (hM : MM l D tys A E y b mL rt fr lo (.ref bb :: As) w r w2) (hcv : CV own index y b mL rt n) (S : CallFix p m c cc nL s args gtbl own) (hE : EnvOK A E) (hEs : E s) (hK : va_K D vwCl tys s) (hR : fr + 1 ≤ R.frames ∧ 8 + (mL + 11) + lo ≤ R.locals)
    (hrecv : ∃ cell : Cell, H[bb]? = some cell ∧ cell.vm.isStatics = false ∧ s.vm.findClass y.cls = some cell.cls) (hn : As.length = n) (hst : st0 = As.reverse ++ .ref bb :: rest) (hsize : ls.size = nL) (hW : (rest.map fun v => v.category).sum ≤ 8) (hdg : decode cc pc = .ok (.invokevirtual index, 3)) (hf : cells ≤ R.cells ∧ slots ≤ R.slots)
    (hP : va_P D vwCl w H) (hD : va_D A w) (hS : va_S A s.heap H locs)
    (kk : ∀ (H1 : Heap) (locs1 : List Loc), va_P D vwCl w2 H1 → va_D A w2 → va_S A s.heap H1 locs1 → W p l e R s m args below meth c H1 locs1 cells slots Q (F0 m (pc + 3) ls (r.toList ++ rest))) : W p l e R s m args below meth c H locs cells slots Q (F0 m pc ls st0) := by
  obtain ⟨⟨g1, g2, g3, g4, g5⟩, g6⟩ := hcv
  exact MM.run (va_runV (As := As) (rest := rest) S hM ⟨callB_mm S.2.2.2.2 hR g1 g4 g5 g6, S.2.2.2.2 _ g2, S.2.2.2.2 _ g3⟩ ⟨MPre.blind hE _, hrecv, MPre.at hE hP hD hS hK hEs _⟩ rfl hn hsize hst (lv_room hW) hdg hf) hS kk
/-- a call of a static method -/
theorem MM.callS (hM : MM l D tys A E y b mL rt fr lo As w r w2) (hcv : CT own index y b mL rt n) (S : CallFix p m c cc nL s args gtbl own) (hE : EnvOK A E) (hEs : E s) (hK : va_K D vwCl tys s) (hR : fr + 1 ≤ R.frames ∧ 8 + (mL + 11) + lo ≤ R.locals)
    (hn : As.length = n) (hst : st0 = As.reverse ++ rest) (hsize : ls.size = nL) (hW : (rest.map fun v => v.category).sum ≤ 8) (hdg : decode cc pc = .ok (.invokestatic index, 3)) (hf : cells ≤ R.cells ∧ slots ≤ R.slots)
    (hP : va_P D vwCl w H) (hD : va_D A w) (hS : va_S A s.heap H locs)
    (kk : ∀ (H1 : Heap) (locs1 : List Loc), va_P D vwCl w2 H1 → va_D A w2 → va_S A s.heap H1 locs1 → W p l e R s m args below meth c H1 locs1 cells slots Q (F0 m (pc + 3) ls (r.toList ++ rest))) : W p l e R s m args below meth c H locs cells slots Q (F0 m pc ls st0) := by
  obtain ⟨⟨g1, g2, g3, g4⟩, g6⟩ := hcv
  exact MM.run (va_runS (As := As) (rest := rest) S hM ⟨callB_mm S.2.2.2.2 hR g1 g3 g4 g6, S.2.2.2.2 _ g2⟩ ⟨MPre.blind hE _, MPre.at hE hP hD hS hK hEs _⟩ rfl hn hsize hst (lv_room hW) hdg hf) hS kk
/-- the entry of a method: its contract out of the walk of its body -/
theorem MM.ofW {av : List Value} (hy : plainName y.cls = true)
    (h : ∀ (p : Program) (e : Env) (s : State) (m : MethodId) (below : List Frame) (meth : Method) (c : Code), CallFix p m c b mL s av.toArray gtbl y.cls → meth.sig.returnType = rt → meth.locks = false → va_K D vwCl tys s → E s → va_P D vwCl w s.heap → va_D A w → va_S A s.heap s.heap [] →
      W p l e { frames := fr, cells := 0, slots := 0, locals := lo } s m av.toArray below meth c s.heap [] 0 0 (MQ below (MPost D A w2 r) av.toArray s 0 0 A) (entryFrame m av.toArray mL)) : MM l D tys A E y b mL rt fr lo av w r w2 := by
  refine Met.ofW (cc := b) (maxL := mL) (ret := rt) hy rfl ?_
  intro p e s m args below meth c s₁ B hml hv
  obtain ⟨rfl, hP, hK, hD, hEs⟩ := hv
  exact h p e s m below meth c ⟨B.exec, B.bytes, hml, findClass_of_methodNamed B.named, fun w hw => atoms_spec (ws := wz y b mL rt) B.pre w (List.mem_cons_of_mem _ hw)⟩ B.returns B.notSynchronized hK hEs hP hD va_S.rf
theorem retI {v : Int32} {w1 : va_W} (S : CallFix p m c cc nL s args gtbl own) (hr : meth.sig.returnType = some .int) (hlocks : meth.locks = false) (hP : va_P D vwCl w1 H) (hD : va_D A w1) (hS : va_S A s.heap H locs) (hdg : decode cc pc = .ok (.ireturn, 1)) : W p l e R s m args below meth c H locs cells slots (MQ below (MPost D A w1 (some (.int v))) args s cells slots A) (F0 m pc ls [.int v]) :=
  W.iret S.1 S.2.1 hr (fun t ht _ => ⟨⟨rfl, by rw [ht]; exact hP, hD⟩, hS.F ht⟩) hS.2.2 hdg hlocks
theorem retZ {v : Int32} {w1 : va_W} (S : CallFix p m c cc nL s args gtbl own) (hr : meth.sig.returnType = some .boolean) (hlocks : meth.locks = false) (hP : va_P D vwCl w1 H) (hD : va_D A w1) (hS : va_S A s.heap H locs) (hz : v = 0 ∨ v = 1) (hdg : decode cc pc = .ok (.ireturn, 1)) : W p l e R s m args below meth c H locs cells slots (MQ below (MPost D A w1 (some (.int v))) args s cells slots A) (F0 m pc ls [.int v]) :=
  W.zret S.1 S.2.1 hr (nz_ok hz) (fun t ht _ => ⟨⟨rfl, by rw [ht]; exact hP, hD⟩, hS.F ht⟩) hS.2.2 hdg hlocks
theorem retL {v : Int64} {w1 : va_W} (S : CallFix p m c cc nL s args gtbl own) (hr : meth.sig.returnType = some .long) (hlocks : meth.locks = false) (hP : va_P D vwCl w1 H) (hD : va_D A w1) (hS : va_S A s.heap H locs) (hdg : decode cc pc = .ok (.lreturn, 1)) : W p l e R s m args below meth c H locs cells slots (MQ below (MPost D A w1 (some (.long v))) args s cells slots A) (F0 m pc ls [.long v]) :=
  W.lret S.1 S.2.1 hr (fun t ht _ => ⟨⟨rfl, by rw [ht]; exact hP, hD⟩, hS.F ht⟩) hS.2.2 hdg hlocks
theorem retV {w1 : va_W} (S : CallFix p m c cc nL s args gtbl own) (hr : meth.sig.returnType = none) (hlocks : meth.locks = false) (hP : va_P D vwCl w1 H) (hD : va_D A w1) (hS : va_S A s.heap H locs) (hdg : decode cc pc = .ok (.return_, 1)) : W p l e R s m args below meth c H locs cells slots (MQ below (MPost D A w1 none) args s cells slots A) (F0 m pc ls []) :=
  W.vret S.1 S.2.1 hr (fun t ht _ => ⟨⟨rfl, by rw [ht]; exact hP, hD⟩, hS.F ht⟩) hS.2.2 hdg hlocks
theorem lv_inc1 {cc : ByteArray} (hexec : p.tables.exec = Jvm.exec) (hb : c.code = cc) {i nL k : Nat} {x : Int32} {lv lv' : List (Nat × Value)} (hdg : decode cc pc = .ok (.iinc i 1, 3)) (h : lv_has ls nL lv) (hk : lv[k]? = some (i, .int x)) (hn : i < nL) (hl : (i, Value.int (x + 1)) :: lv.filter (fun q => !(q.1 == i) && !(q.1 + 1 == i && q.2.category == 2)) = lv')
    (kk : ∀ ls' : Array Slot, lv_has ls' nL lv' → W p l e R s m args below meth c H locs cells slots Q (F0 m (pc + 3) ls' rest)) : W p l e R s m args below meth c H locs cells slots Q (F0 m pc ls rest) :=
  lv_iinc (v := x + 1) hexec hb hdg h hk rfl hn hl kk
theorem lv_incm {cc : ByteArray} (hexec : p.tables.exec = Jvm.exec) (hb : c.code = cc) {i nL k : Nat} {x : Int32} {lv lv' : List (Nat × Value)} (hdg : decode cc pc = .ok (.iinc i (-1), 3)) (h : lv_has ls nL lv) (hk : lv[k]? = some (i, .int x)) (hn : i < nL) (hl : (i, Value.int (x - 1)) :: lv.filter (fun q => !(q.1 == i) && !(q.1 + 1 == i && q.2.category == 2)) = lv')
    (kk : ∀ ls' : Array Slot, lv_has ls' nL lv' → W p l e R s m args below meth c H locs cells slots Q (F0 m (pc + 3) ls' rest)) : W p l e R s m args below meth c H locs cells slots Q (F0 m pc ls rest) :=
  lv_iinc (v := x - 1) hexec hb hdg h hk (by rw [Int32.sub_eq_add_neg]; rfl) hn hl kk
theorem va_put_w {cc : ByteArray} {own ref C : String} {T : u_T} {N ci : Nat} {a : Nat} {w w2 : va_W} (S : CallFix p m c cc nL s args gtbl own) (hin : ∀ x ∈ u_ws C T N, x ∈ gtbl) (ty0 : Nat → FieldType) (hty : ∀ k, k < N → parseFieldDescriptor (T k).2.2.1 = some (ty0 k)) (hnm : ∀ a, a < N → ∀ b, b < N → a ≠ b → (T a).2.1 ≠ (T b).2.1) (hK : va_K D vwCl tys s) (hP : va_P D vwCl w H) (hD : va_D A w) (hS0 : va_S A s.heap H locs) (q0 : Nat) {fs : List Value} (he : w[q0]? = some (a, .inr (ci, fs))) (hc : vwCl[ci]? = some (C, T, N)) (k : Nat) (hk : k < N) (hlink : Cond.fieldLink own index ref (T k).2.1 (T k).2.2.1 ∈ gtbl) (hsame : (T k).1 = ref) (hfin : (T k).2.2.2 = false) {ty : FieldType} {v : Value} (hd : parseFieldDescriptor (T k).2.2.1 = some ty) (hn : narrow ty v = v) (hfit : fits ty v = true) (hl : k < fs.length)
    (hset : w.set q0 (a, .inr (ci, fs.set k v)) = w2) (hdg : decode cc pc = .ok (.putfield index, 3)) (kk : ∀ (H1 : Heap) (locs1 : List Loc), va_P D vwCl w2 H1 → va_D A w2 → va_S A s.heap H1 locs1 → W p l e R s m args below meth c H1 locs1 cells slots Q (F0 m (pc + 3) ls rest)) : W p l e R s m args below meth c H locs cells slots Q (F0 m pc ls (v :: .ref a :: rest)) := by
  subst hset
  subst hsame
  exact va_put S.1 S.2.1 S.2.2.2.2 hin ty0 hty hnm S.2.2.2.1 hK hP hD hS0 q0 he hc k hk (S.2.2.2.2 _ hlink) (fun _ h9 => h9) hfin hd hn hfit hl hdg kk
end MMrows
end
section
/-! THE CLASS'S WORLD: 64 cells. 0 the object; 1 2 3 the rows of prints of the archives 4 5 6 (at hand, kept, before); 7 the rings, 8 to 14 their rows (laters, mates, row, dealt, members, followers, orderCounts); 15 16 the tape; 17 the reader; 18 the row of sheets, 19 to 22 the sheets, 23 to 26 their numbers; 27 the tally; 28 to 63 the prints, twelve an archive. -/
def kdC (i : Nat) : Nat := if i = 0 then 6 else if i ≤ 3 then 11 else if i ≤ 6 then 0 else if i = 7 then 2 else if i ≤ 14 then 8 else if i = 15 then 4 else if i = 16 then 8 else if i = 17 then 5 else if i = 18 then 12 else if i ≤ 22 then 3 else if i ≤ 26 then 9 else if i = 27 then 8 else 1
def lenC (i : Nat) : Nat := if i ≤ 11 then 12 else if i ≤ 13 then 8 else if i = 14 then 256 else if i = 16 then 120 else if i = 27 then 7 else 40
def ceC (cc : Nat → ClassId) (a : Nat → Nat) (u : Mem) (i : Nat) : va_E := match kdC i with
  | 0 => .inr (0, [.ref (a (i - 3)), .int (u.1 i 1), .int (u.1 i 2)])
  | 1 => .inr (1, [.int (u.1 i 0), .int (u.1 i 1), .int (u.1 i 2), .int (u.1 i 3), .long (u.2 i 4)])
  | 2 => .inr (2, [.ref (a 4), .ref (a 8), .ref (a 9), .ref (a 10), .ref (a 11), .ref (a 12), .ref (a 13), .ref (a 14), .int (u.1 i 8), .int (u.1 i 9), .int (u.1 i 10)])
  | 3 => .inr (3, [.ref (a (i + 4)), .int (u.1 i 1), .int (u.1 i 2)])
  | 4 => .inr (4, [.ref (a 16), .int (u.1 i 1)])
  | 5 => .inr (5, [.ref (a 15), .ref (a 4), .ref (a 6), .int (u.1 i 3), .int (u.1 i 4), .int (u.1 i 5), .int (u.1 i 6)])
  | 6 => .inr (6, [.ref (a 4), .ref (a 5), .ref (a 7), .ref (a 15), .ref (a 17), .ref (a 18), .ref (a 27), .int (u.1 i 7)])
  | 8 => .inl (cc 0, lenC i, .inl (u.1 i))
  | 9 => .inl (cc 1, 40, .inr (.inl (u.2 i)))
  | 11 => .inl (cc 2, 12, .inr (.inr (.inr (.inr (fun k => some (a (12 * i + 16 + k)))))))
  | _ => .inl (cc 3, 4, .inr (.inr (.inr (.inr (fun k => some (a (k + 19)))))))
def wlC (cc : Nat → ClassId) (a : Nat → Nat) (u : Mem) : va_W := (List.range 64).map (fun i => (a i, ceC cc a u i))
abbrev tysC (cc : Nat → ClassId) : List (ClassId × FieldType) := [(cc 0, .int), (cc 1, .long), (cc 2, .object RX1), (cc 3, .object RX3)]
def AC (a : Nat → Nat) : Nat → Prop := fun q => ∃ i, i < 64 ∧ q = a i
theorem wlC_at {cc : Nat → ClassId} {a : Nat → Nat} {u : Mem} {i : Nat} (h : i < 64) : (wlC cc a u)[i]? = some (a i, ceC cc a u i) := by
  simp [wlC, h]
theorem ceC_sI {cc : Nat → ClassId} {a : Nat → Nat} {u : Mem} {i k j : Nat} {v : Int32} (h : j ≠ i) : ceC cc a (sI u i k v) j = ceC cc a u j := by
  have e : ∀ b, (sI u i k v).1 j b = u.1 j b := fun b => if_neg (fun z => h z.1)
  have e2 : (sI u i k v).1 j = u.1 j := funext e
  have e3 : (sI u i k v).2 = u.2 := rfl
  unfold ceC
  rw [e2, e3]
theorem ceC_sL {cc : Nat → ClassId} {a : Nat → Nat} {u : Mem} {i k j : Nat} {v : Int64} (h : j ≠ i) : ceC cc a (sL u i k v) j = ceC cc a u j := by
  have e : ∀ b, (sL u i k v).2 j b = u.2 j b := fun b => if_neg (fun z => h z.1)
  have e2 : (sL u i k v).2 j = u.2 j := funext e
  have e3 : (sL u i k v).1 = u.1 := rfl
  unfold ceC
  rw [e2, e3]
theorem wlC_set {cc : Nat → ClassId} {a : Nat → Nat} {u u2 : Mem} {i : Nat} {x : va_E} (hi : i < 64) (h1 : ceC cc a u2 i = x) (h2 : ∀ j, j ≠ i → ceC cc a u2 j = ceC cc a u j) : (wlC cc a u).set i (a i, x) = wlC cc a u2 := by
  apply List.ext_getElem?
  intro j
  by_cases hj : j < 64
  · rw [wlC_at hj, List.getElem?_set]
    by_cases e : i = j
    · subst e; rw [if_pos rfl, if_pos (by simp [wlC, hj]), h1]
    · rw [if_neg e, wlC_at hj, h2 j (fun z => e z.symm)]
  · rw [List.getElem?_eq_none (by simp [wlC]; omega), List.getElem?_eq_none (by simp [wlC]; omega)]
theorem wlC_D {cc : Nat → ClassId} {a : Nat → Nat} {u u2 : Mem} {A : Nat → Prop} (h : va_D A (wlC cc a u)) : va_D A (wlC cc a u2) := by
  have key : ∀ (u' : Mem) (k : Nat) (q : Nat × va_E), (wlC cc a u')[k]? = some q → k < 64 ∧ q.1 = a k := by
    intro u' k q hq
    have hk : k < 64 := by
      have := (List.getElem?_eq_some_iff.mp hq).1
      simpa [wlC] using this
    rw [wlC_at hk] at hq
    cases hq
    exact ⟨hk, rfl⟩
  refine ⟨fun i j p q hp hq e => ?_, fun k q hq => ?_⟩
  · obtain ⟨hi, e1⟩ := key u2 i p hp
    obtain ⟨hj, e2⟩ := key u2 j q hq
    exact h.1 i j _ _ (wlC_at hi) (wlC_at hj) (by show a i = a j; rw [← e1, ← e2, e])
  · obtain ⟨hk, e1⟩ := key u2 k q hq
    rw [e1]
    exact h.2 k _ (wlC_at hk)
section
variable {cc : Nat → ClassId} {a : Nat → Nat} {u : Mem}
theorem c_SP : (wlC cc a u)[0]? = some (a 0, .inr (6, [.ref (a 4), .ref (a 5), .ref (a 7), .ref (a 15), .ref (a 17), .ref (a 18), .ref (a 27), .int (u.1 0 7)])) := wlC_at (by decide)
theorem c_AR {t : Nat} (h : 1 ≤ t ∧ t ≤ 3) : (wlC cc a u)[t + 3]? = some (a (t + 3), .inr (0, [.ref (a t), .int (u.1 (t + 3) 1), .int (u.1 (t + 3) 2)])) := by
  rw [wlC_at (by omega)]
  rcases (show t = 1 ∨ t = 2 ∨ t = 3 by omega) with rfl | rfl | rfl <;> rfl
theorem c_PA {t : Nat} (h : 1 ≤ t ∧ t ≤ 3) : (wlC cc a u)[t]? = some (a t, .inl (cc 2, 12, .inr (.inr (.inr (.inr (fun k => some (a (12 * t + 16 + k)))))))) := by
  rw [wlC_at (by omega)]
  rcases (show t = 1 ∨ t = 2 ∨ t = 3 by omega) with rfl | rfl | rfl <;> rfl
theorem kd_PR {x : Nat} (h : 28 ≤ x) : kdC x = 1 := by
  unfold kdC
  rw [if_neg (by omega), if_neg (by omega), if_neg (by omega), if_neg (by omega), if_neg (by omega), if_neg (by omega), if_neg (by omega), if_neg (by omega), if_neg (by omega), if_neg (by omega), if_neg (by omega), if_neg (by omega)]
theorem ce_PR {x : Nat} (h : 28 ≤ x) : ceC cc a u x = .inr (1, [.int (u.1 x 0), .int (u.1 x 1), .int (u.1 x 2), .int (u.1 x 3), .long (u.2 x 4)]) := by
  unfold ceC
  rw [kd_PR h]
  rfl
theorem ce_IA {y : Nat} (h : kdC y = 8) : ceC cc a u y = .inl (cc 0, lenC y, .inl (u.1 y)) := by
  unfold ceC
  rw [h]
  rfl
theorem c_PR {x : Nat} (h : 28 ≤ x ∧ x ≤ 63) : (wlC cc a u)[x]? = some (a x, .inr (1, [.int (u.1 x 0), .int (u.1 x 1), .int (u.1 x 2), .int (u.1 x 3), .long (u.2 x 4)])) := by
  rw [wlC_at (by omega), ce_PR h.1]
theorem c_RI : (wlC cc a u)[7]? = some (a 7, .inr (2, [.ref (a 4), .ref (a 8), .ref (a 9), .ref (a 10), .ref (a 11), .ref (a 12), .ref (a 13), .ref (a 14), .int (u.1 7 8), .int (u.1 7 9), .int (u.1 7 10)])) := wlC_at (by decide)
theorem c_IA {y : Nat} (h : kdC y = 8 ∧ y < 64) : (wlC cc a u)[y]? = some (a y, .inl (cc 0, lenC y, .inl (u.1 y))) := by
  rw [wlC_at h.2, ce_IA h.1]
theorem c_TA : (wlC cc a u)[15]? = some (a 15, .inr (4, [.ref (a 16), .int (u.1 15 1)])) := wlC_at (by decide)
theorem c_TR : (wlC cc a u)[17]? = some (a 17, .inr (5, [.ref (a 15), .ref (a 4), .ref (a 6), .int (u.1 17 3), .int (u.1 17 4), .int (u.1 17 5), .int (u.1 17 6)])) := wlC_at (by decide)
theorem c_SA : (wlC cc a u)[18]? = some (a 18, .inl (cc 3, 4, .inr (.inr (.inr (.inr (fun k => some (a (k + 19)))))))) := wlC_at (by decide)
theorem c_SH {t : Nat} (h : t < 4) : (wlC cc a u)[t + 19]? = some (a (t + 19), .inr (3, [.ref (a (t + 23)), .int (u.1 (t + 19) 1), .int (u.1 (t + 19) 2)])) := by
  rw [wlC_at (by omega)]
  rcases (show t = 0 ∨ t = 1 ∨ t = 2 ∨ t = 3 by omega) with rfl | rfl | rfl | rfl <;> rfl
theorem c_LA {t : Nat} (h : t < 4) : (wlC cc a u)[t + 23]? = some (a (t + 23), .inl (cc 1, 40, .inr (.inl (u.2 (t + 23))))) := by
  rw [wlC_at (by omega)]
  rcases (show t = 0 ∨ t = 1 ∨ t = 2 ∨ t = 3 by omega) with rfl | rfl | rfl | rfl <;> rfl
theorem z_SP {v : Int32} : (wlC cc a u).set 0 (a 0, .inr (6, ([.ref (a 4), .ref (a 5), .ref (a 7), .ref (a 15), .ref (a 17), .ref (a 18), .ref (a 27), .int (u.1 0 7)] : List Value).set 7 (.int v))) = wlC cc a (sI u 0 7 v) := wlC_set (by decide) rfl (fun _ h => ceC_sI h)
theorem z_AR1 {t : Nat} (h : 1 ≤ t ∧ t ≤ 3) {v : Int32} : (wlC cc a u).set (t + 3) (a (t + 3), .inr (0, ([.ref (a t), .int (u.1 (t + 3) 1), .int (u.1 (t + 3) 2)] : List Value).set 1 (.int v))) = wlC cc a (sI u (t + 3) 1 v) := by
  refine wlC_set (by omega) ?_ (fun _ h => ceC_sI h)
  rcases (show t = 1 ∨ t = 2 ∨ t = 3 by omega) with rfl | rfl | rfl <;> rfl
theorem z_AR2 {t : Nat} (h : 1 ≤ t ∧ t ≤ 3) {v : Int32} : (wlC cc a u).set (t + 3) (a (t + 3), .inr (0, ([.ref (a t), .int (u.1 (t + 3) 1), .int (u.1 (t + 3) 2)] : List Value).set 2 (.int v))) = wlC cc a (sI u (t + 3) 2 v) := by
  refine wlC_set (by omega) ?_ (fun _ h => ceC_sI h)
  rcases (show t = 1 ∨ t = 2 ∨ t = 3 by omega) with rfl | rfl | rfl <;> rfl
theorem sI_eq {i k : Nat} {v : Int32} : (sI u i k v).1 i k = v := if_pos ⟨rfl, rfl⟩
theorem sI_k {i k k2 : Nat} {v : Int32} (h : k2 ≠ k) : (sI u i k v).1 i k2 = u.1 i k2 := if_neg (fun z => h z.2)
theorem sI_i {i k i2 k2 : Nat} {v : Int32} (h : i2 ≠ i) : (sI u i k v).1 i2 k2 = u.1 i2 k2 := if_neg (fun z => h z.1)
theorem sL_eq {i k : Nat} {v : Int64} : (sL u i k v).2 i k = v := if_pos ⟨rfl, rfl⟩
theorem sL_k {i k k2 : Nat} {v : Int64} (h : k2 ≠ k) : (sL u i k v).2 i k2 = u.2 i k2 := if_neg (fun z => h z.2)
theorem sL_i {i k i2 k2 : Nat} {v : Int64} (h : i2 ≠ i) : (sL u i k v).2 i2 k2 = u.2 i2 k2 := if_neg (fun z => h z.1)
theorem sI_2 {i k : Nat} {v : Int32} : (sI u i k v).2 = u.2 := rfl
theorem sL_1 {i k : Nat} {v : Int64} : (sL u i k v).1 = u.1 := rfl
theorem sI_upd {i k : Nat} {v : Int32} : (sI u i k v).1 i = upd (u.1 i) k v := by
  funext j
  by_cases h : j = k
  · subst h; rw [sI_eq, pk_us]
  · rw [sI_k h, pk_un h]
theorem sL_upd {i k : Nat} {v : Int64} : (sL u i k v).2 i = vp_updL (u.2 i) k v := by
  funext j
  by_cases h : j = k
  · subst h; rw [sL_eq, pk_uLs]
  · rw [sL_k h, pk_uLn h]
theorem z_PRi {x k : Nat} (h : 28 ≤ x ∧ x ≤ 63) (hk : k < 4) {v : Int32} : (wlC cc a u).set x (a x, .inr (1, ([.int (u.1 x 0), .int (u.1 x 1), .int (u.1 x 2), .int (u.1 x 3), .long (u.2 x 4)] : List Value).set k (.int v))) = wlC cc a (sI u x k v) := by
  refine wlC_set (by omega) ?_ (fun _ h => ceC_sI h)
  rw [ce_PR h.1]
  rcases (show k = 0 ∨ k = 1 ∨ k = 2 ∨ k = 3 by omega) with rfl | rfl | rfl | rfl
  · rw [sI_eq, sI_k (show (1 : Nat) ≠ 0 by decide), sI_k (show (2 : Nat) ≠ 0 by decide), sI_k (show (3 : Nat) ≠ 0 by decide)]; rfl
  · rw [sI_eq, sI_k (show (0 : Nat) ≠ 1 by decide), sI_k (show (2 : Nat) ≠ 1 by decide), sI_k (show (3 : Nat) ≠ 1 by decide)]; rfl
  · rw [sI_eq, sI_k (show (0 : Nat) ≠ 2 by decide), sI_k (show (1 : Nat) ≠ 2 by decide), sI_k (show (3 : Nat) ≠ 2 by decide)]; rfl
  · rw [sI_eq, sI_k (show (0 : Nat) ≠ 3 by decide), sI_k (show (1 : Nat) ≠ 3 by decide), sI_k (show (2 : Nat) ≠ 3 by decide)]; rfl
theorem z_PRl {x : Nat} (h : 28 ≤ x ∧ x ≤ 63) {v : Int64} : (wlC cc a u).set x (a x, .inr (1, ([.int (u.1 x 0), .int (u.1 x 1), .int (u.1 x 2), .int (u.1 x 3), .long (u.2 x 4)] : List Value).set 4 (.long v))) = wlC cc a (sL u x 4 v) := by
  refine wlC_set (by omega) ?_ (fun _ h => ceC_sL h)
  rw [ce_PR h.1, sL_eq, sL_1]
  rfl
theorem z_RI {k : Nat} (hk : k = 8 ∨ k = 9 ∨ k = 10) {v : Int32} : (wlC cc a u).set 7 (a 7, .inr (2, ([.ref (a 4), .ref (a 8), .ref (a 9), .ref (a 10), .ref (a 11), .ref (a 12), .ref (a 13), .ref (a 14), .int (u.1 7 8), .int (u.1 7 9), .int (u.1 7 10)] : List Value).set k (.int v))) = wlC cc a (sI u 7 k v) := by
  refine wlC_set (by decide) ?_ (fun _ h => ceC_sI h)
  rcases hk with rfl | rfl | rfl <;> rfl
theorem z_TA {v : Int32} : (wlC cc a u).set 15 (a 15, .inr (4, ([.ref (a 16), .int (u.1 15 1)] : List Value).set 1 (.int v))) = wlC cc a (sI u 15 1 v) := wlC_set (by decide) rfl (fun _ h => ceC_sI h)
theorem z_TR {k : Nat} (hk : k = 3 ∨ k = 4 ∨ k = 5 ∨ k = 6) {v : Int32} : (wlC cc a u).set 17 (a 17, .inr (5, ([.ref (a 15), .ref (a 4), .ref (a 6), .int (u.1 17 3), .int (u.1 17 4), .int (u.1 17 5), .int (u.1 17 6)] : List Value).set k (.int v))) = wlC cc a (sI u 17 k v) := by
  refine wlC_set (by decide) ?_ (fun _ h => ceC_sI h)
  rcases hk with rfl | rfl | rfl | rfl <;> rfl
theorem z_SH {t k : Nat} (h : t < 4) (hk : k = 1 ∨ k = 2) {v : Int32} : (wlC cc a u).set (t + 19) (a (t + 19), .inr (3, ([.ref (a (t + 23)), .int (u.1 (t + 19) 1), .int (u.1 (t + 19) 2)] : List Value).set k (.int v))) = wlC cc a (sI u (t + 19) k v) := by
  refine wlC_set (by omega) ?_ (fun _ h => ceC_sI h)
  rcases (show t = 0 ∨ t = 1 ∨ t = 2 ∨ t = 3 by omega) with rfl | rfl | rfl | rfl <;> rcases hk with rfl | rfl <;> rfl
theorem z_IA {y k : Nat} (h : kdC y = 8 ∧ y < 64) {v : Int32} : (wlC cc a u).set y (a y, .inl (cc 0, lenC y, .inl (upd (u.1 y) k v))) = wlC cc a (sI u y k v) := by
  refine wlC_set h.2 ?_ (fun _ h => ceC_sI h)
  rw [ce_IA h.1, sI_upd]
theorem z_LA {t k : Nat} (h : t < 4) {v : Int64} : (wlC cc a u).set (t + 23) (a (t + 23), .inl (cc 1, 40, .inr (.inl (vp_updL (u.2 (t + 23)) k v)))) = wlC cc a (sL u (t + 23) k v) := by
  refine wlC_set (by omega) ?_ (fun _ h => ceC_sL h)
  rw [← sL_upd]
  rcases (show t = 0 ∨ t = 1 ∨ t = 2 ∨ t = 3 by omega) with rfl | rfl | rfl | rfl <;> rfl
theorem r_PR {t : Nat} {i : Int32} (h : 1 ≤ t ∧ t ≤ 3) (hi : vp_in i 12) : 28 ≤ 12 * t + 16 + i.toNatClampNeg ∧ 12 * t + 16 + i.toNatClampNeg ≤ 63 := by
  have := vp_lt hi
  omega
end
end
section
/-! ROWS over worlds: reads and writes of fields, calls, blocks -/
section R7
variable {p : Program} {l : Launch} {e : Env} {R : Room} {s : State} {m : MethodId} {args : Array Value} {below : List Frame} {meth : Method} {c : Code} {H : Heap} {locs : List Loc} {cells slots : Nat} {Q : State → Prop}
variable {D : va_G} {tys : List (ClassId × FieldType)} {A : Nat → Prop} {E : State → Prop} {y : MethodName} {b cc : ByteArray} {mL nL fr lo n index : Nat} {rt : Option FieldType} {As rest st0 : List Value} {w w2 : va_W} {r : Option Value} {own : String} {pc : Nat} {ls : Array Slot} {bb : Nat}
theorem va_get_w {own ref C : String} {T : u_T} {N ci : Nat} {x : Nat} (S : CallFix p m c cc nL s args gtbl own) (hK : va_K D vwCl tys s) (hP : va_P D vwCl w H) (q0 : Nat) {fs : List Value} (he : w[q0]? = some (x, .inr (ci, fs))) (hc : vwCl[ci]? = some (C, T, N)) (hin : ∀ z ∈ u_ws C T N, z ∈ gtbl) (k : Nat) (hk : k < N) (hlink : Cond.fieldLink own index ref (T k).2.1 (T k).2.2.1 ∈ gtbl) (hsame : (T k).1 = ref) {v : Value} (hv : fs[k]? = some v) (hdg : decode cc pc = .ok (.getfield index, 3))
    (kk : W p l e R s m args below meth c H locs cells slots Q (F0 m (pc + 3) ls (v :: rest))) : W p l e R s m args below meth c H locs cells slots Q (F0 m pc ls (.ref x :: rest)) := by
  subst hsame
  exact va_get S.1 S.2.1 S.2.2.2.2 hin S.2.2.2.1 hK hP q0 he hc k hk (S.2.2.2.2 _ hlink) (fun _ h9 => h9) hv hdg kk
theorem MM.callVi {x : Int32} (hM : MM l D tys A E y b mL rt fr lo (.ref bb :: As) w (some (.int x)) w2) (hcv : CV own index y b mL rt n) (S : CallFix p m c cc nL s args gtbl own) (hE : EnvOK A E) (hEs : E s) (hK : va_K D vwCl tys s) (hR : fr + 1 ≤ R.frames ∧ 8 + (mL + 11) + lo ≤ R.locals)
    (hrecv : ∃ cell : Cell, H[bb]? = some cell ∧ cell.vm.isStatics = false ∧ s.vm.findClass y.cls = some cell.cls) (hn : As.length = n) (hst : st0 = As.reverse ++ .ref bb :: rest) (hsize : ls.size = nL) (hW : (rest.map fun v => v.category).sum ≤ 8) (hdg : decode cc pc = .ok (.invokevirtual index, 3)) (hf : cells ≤ R.cells ∧ slots ≤ R.slots)
    (hP : va_P D vwCl w H) (hD : va_D A w) (hS : va_S A s.heap H locs)
    (kk : ∀ (H1 : Heap) (locs1 : List Loc), va_P D vwCl w2 H1 → va_D A w2 → va_S A s.heap H1 locs1 → W p l e R s m args below meth c H1 locs1 cells slots Q (F0 m (pc + 3) ls (.int x :: rest))) : W p l e R s m args below meth c H locs cells slots Q (F0 m pc ls st0) :=
  MM.callV hM hcv S hE hEs hK hR hrecv hn hst hsize hW hdg hf hP hD hS kk
theorem MM.callVl {x : Int64} (hM : MM l D tys A E y b mL rt fr lo (.ref bb :: As) w (some (.long x)) w2) (hcv : CV own index y b mL rt n) (S : CallFix p m c cc nL s args gtbl own) (hE : EnvOK A E) (hEs : E s) (hK : va_K D vwCl tys s) (hR : fr + 1 ≤ R.frames ∧ 8 + (mL + 11) + lo ≤ R.locals)
    (hrecv : ∃ cell : Cell, H[bb]? = some cell ∧ cell.vm.isStatics = false ∧ s.vm.findClass y.cls = some cell.cls) (hn : As.length = n) (hst : st0 = As.reverse ++ .ref bb :: rest) (hsize : ls.size = nL) (hW : (rest.map fun v => v.category).sum ≤ 8) (hdg : decode cc pc = .ok (.invokevirtual index, 3)) (hf : cells ≤ R.cells ∧ slots ≤ R.slots)
    (hP : va_P D vwCl w H) (hD : va_D A w) (hS : va_S A s.heap H locs)
    (kk : ∀ (H1 : Heap) (locs1 : List Loc), va_P D vwCl w2 H1 → va_D A w2 → va_S A s.heap H1 locs1 → W p l e R s m args below meth c H1 locs1 cells slots Q (F0 m (pc + 3) ls (.long x :: rest))) : W p l e R s m args below meth c H locs cells slots Q (F0 m pc ls st0) :=
  MM.callV hM hcv S hE hEs hK hR hrecv hn hst hsize hW hdg hf hP hD hS kk
theorem MM.callVv (hM : MM l D tys A E y b mL rt fr lo (.ref bb :: As) w none w2) (hcv : CV own index y b mL rt n) (S : CallFix p m c cc nL s args gtbl own) (hE : EnvOK A E) (hEs : E s) (hK : va_K D vwCl tys s) (hR : fr + 1 ≤ R.frames ∧ 8 + (mL + 11) + lo ≤ R.locals)
    (hrecv : ∃ cell : Cell, H[bb]? = some cell ∧ cell.vm.isStatics = false ∧ s.vm.findClass y.cls = some cell.cls) (hn : As.length = n) (hst : st0 = As.reverse ++ .ref bb :: rest) (hsize : ls.size = nL) (hW : (rest.map fun v => v.category).sum ≤ 8) (hdg : decode cc pc = .ok (.invokevirtual index, 3)) (hf : cells ≤ R.cells ∧ slots ≤ R.slots)
    (hP : va_P D vwCl w H) (hD : va_D A w) (hS : va_S A s.heap H locs)
    (kk : ∀ (H1 : Heap) (locs1 : List Loc), va_P D vwCl w2 H1 → va_D A w2 → va_S A s.heap H1 locs1 → W p l e R s m args below meth c H1 locs1 cells slots Q (F0 m (pc + 3) ls rest)) : W p l e R s m args below meth c H locs cells slots Q (F0 m pc ls st0) :=
  MM.callV hM hcv S hE hEs hK hR hrecv hn hst hsize hW hdg hf hP hD hS kk
theorem MM.callSi {x : Int32} (hM : MM l D tys A E y b mL rt fr lo As w (some (.int x)) w2) (hcv : CT own index y b mL rt n) (S : CallFix p m c cc nL s args gtbl own) (hE : EnvOK A E) (hEs : E s) (hK : va_K D vwCl tys s) (hR : fr + 1 ≤ R.frames ∧ 8 + (mL + 11) + lo ≤ R.locals)
    (hn : As.length = n) (hst : st0 = As.reverse ++ rest) (hsize : ls.size = nL) (hW : (rest.map fun v => v.category).sum ≤ 8) (hdg : decode cc pc = .ok (.invokestatic index, 3)) (hf : cells ≤ R.cells ∧ slots ≤ R.slots)
    (hP : va_P D vwCl w H) (hD : va_D A w) (hS : va_S A s.heap H locs)
    (kk : ∀ (H1 : Heap) (locs1 : List Loc), va_P D vwCl w2 H1 → va_D A w2 → va_S A s.heap H1 locs1 → W p l e R s m args below meth c H1 locs1 cells slots Q (F0 m (pc + 3) ls (.int x :: rest))) : W p l e R s m args below meth c H locs cells slots Q (F0 m pc ls st0) :=
  MM.callS hM hcv S hE hEs hK hR hn hst hsize hW hdg hf hP hD hS kk
theorem MM.callSl {x : Int64} (hM : MM l D tys A E y b mL rt fr lo As w (some (.long x)) w2) (hcv : CT own index y b mL rt n) (S : CallFix p m c cc nL s args gtbl own) (hE : EnvOK A E) (hEs : E s) (hK : va_K D vwCl tys s) (hR : fr + 1 ≤ R.frames ∧ 8 + (mL + 11) + lo ≤ R.locals)
    (hn : As.length = n) (hst : st0 = As.reverse ++ rest) (hsize : ls.size = nL) (hW : (rest.map fun v => v.category).sum ≤ 8) (hdg : decode cc pc = .ok (.invokestatic index, 3)) (hf : cells ≤ R.cells ∧ slots ≤ R.slots)
    (hP : va_P D vwCl w H) (hD : va_D A w) (hS : va_S A s.heap H locs)
    (kk : ∀ (H1 : Heap) (locs1 : List Loc), va_P D vwCl w2 H1 → va_D A w2 → va_S A s.heap H1 locs1 → W p l e R s m args below meth c H1 locs1 cells slots Q (F0 m (pc + 3) ls (.long x :: rest))) : W p l e R s m args below meth c H locs cells slots Q (F0 m pc ls st0) :=
  MM.callS hM hcv S hE hEs hK hR hn hst hsize hW hdg hf hP hD hS kk
theorem MM.callSv (hM : MM l D tys A E y b mL rt fr lo As w none w2) (hcv : CT own index y b mL rt n) (S : CallFix p m c cc nL s args gtbl own) (hE : EnvOK A E) (hEs : E s) (hK : va_K D vwCl tys s) (hR : fr + 1 ≤ R.frames ∧ 8 + (mL + 11) + lo ≤ R.locals)
    (hn : As.length = n) (hst : st0 = As.reverse ++ rest) (hsize : ls.size = nL) (hW : (rest.map fun v => v.category).sum ≤ 8) (hdg : decode cc pc = .ok (.invokestatic index, 3)) (hf : cells ≤ R.cells ∧ slots ≤ R.slots)
    (hP : va_P D vwCl w H) (hD : va_D A w) (hS : va_S A s.heap H locs)
    (kk : ∀ (H1 : Heap) (locs1 : List Loc), va_P D vwCl w2 H1 → va_D A w2 → va_S A s.heap H1 locs1 → W p l e R s m args below meth c H1 locs1 cells slots Q (F0 m (pc + 3) ls rest)) : W p l e R s m args below meth c H locs cells slots Q (F0 m pc ls st0) :=
  MM.callS hM hcv S hE hEs hK hR hn hst hsize hW hdg hf hP hD hS kk
end R7
/-- a block: from a world of u with these locals and this stack the method comes to its end, with the answer r and the world w2 -/
def BW (p : Program) (l : Launch) (e : Env) (s : State) (m : MethodId) (below : List Frame) (meth : Method) (c : Code) (fr lo : Nat) (av : List Value) (D : va_G) (A : Nat → Prop) (r : Option Value) (w2 : va_W) (nL : Nat) (w : va_W) (pc : Nat) (lv : List (Nat × Value)) (st : List Value) : Prop :=
  ∀ (H : Heap) (locs : List Loc) (ls : Array Slot), va_P D vwCl w H → va_D A w → va_S A s.heap H locs → lv_has ls nL lv → W p l e { frames := fr, cells := 0, slots := 0, locals := lo } s m av.toArray below meth c H locs 0 0 (MQ below (MPost D A w2 r) av.toArray s 0 0 A) (F0 m pc ls st)
def fu : Nat := 5000
/-! what stands beside the class's world, and stays: the static row UNDER, the String constants -/
def ix11 : List Nat := [46, 55, 107, 109, 111, 113, 115, 117, 98, 102, 106]
def tx11 : List String := ["slack", "look", "print", "burnt", "cast", "forged", "recut", "melted", "width", "year", "seen"]
def len11 : List Nat := [5, 4, 5, 5, 4, 6, 5, 6, 5, 4, 4]
def byt11 : List (List Int32) := [[115, 108, 97, 99, 107], [108, 111, 111, 107], [112, 114, 105, 110, 116], [98, 117, 114, 110, 116], [99, 97, 115, 116], [102, 111, 114, 103, 101, 100], [114, 101, 99, 117, 116], [109, 101, 108, 116, 101, 100], [119, 105, 100, 116, 104], [121, 101, 97, 114], [115, 101, 101, 110]]
def un6 : List Int32 := [-1, 0, 0, 2, 0, 1]
def EC (tU : Nat) (adK adV : Nat → Nat) (A : Nat → Prop) (U : State) : Prop :=
  va_Z RX6 "UNDER" "[I" (.ref tU) A U U.heap ∧ va_T .int tU 6 (fun j => .int (un6.getD j 0)) A U U.heap ∧ va_Z RJ0 "COMPACT_STRINGS" "Z" (.int 1) A U U.heap ∧ va_Zq RJ3 "SIOOBE_FORMATTER" "Ljava/util/function/BiFunction;" A U U.heap ∧ vk_S 11 len11 byt11 adK adV A U U.heap ∧ (∀ i, i < 11 → vk_R RX5 (ix11.getD i 0) (tx11.getD i "") (adK i) U) ∧ va_Nw (.methodLinkNest RX0 78 yX6_isUnder RX6) U
theorem ecOK {tU : Nat} {adK adV : Nat → Nat} {A : Nat → Prop} : EnvOK A (EC tU adK adV A) := by
  refine ⟨fun U g mk x h => ?_, fun s U h hq hW => ?_⟩
  · obtain ⟨h1, h2, h3, h4, h5, h6, h7⟩ := h
    have al : U.vm.Alike (U.calling g mk x).vm := Vm.Alike.refl U.vm
    exact ⟨va_Z.moved al h1, va_T.moved al h2, va_Z.moved al h3, va_Zq.moved al h4, vk_S.moved al h5, fun i hi => vk_R.same (u := U) rfl (h6 i hi), va_Nw.same (u := U) rfl rfl h7⟩
  · obtain ⟨h1, h2, h3, h4, h5, h6, h7⟩ := h
    have al := hW.alike
    exact ⟨va_Z.moved al (h1.kept hq), va_T.moved al (h2.kept hq), va_Z.moved al (h3.kept hq), va_Zq.moved al (h4.kept hq), vk_S.moved al (h5.kept hq), fun i hi => vk_R.warm hW (h6 i hi), va_Nw.warmM hW h7⟩
theorem emOK {A : Nat → Prop} : EnvOK A (fun _ => True) := ⟨fun _ _ _ _ _ => trivial, fun _ _ _ _ _ => trivial⟩
abbrev MC (l : Launch) (D : va_G) (cc : Nat → ClassId) (a : Nat → Nat) (tU : Nat) (adK adV : Nat → Nat) (y : MethodName) (b : ByteArray) (mL : Nat) (rt : Option FieldType) (fr lo : Nat) (av : List Value) (u : Mem) (r : Option Value) (u2 : Mem) : Prop :=
  MM l D (tysC cc) (AC a) (EC tU adK adV (AC a)) y b mL rt fr lo av (wlC cc a u) r (wlC cc a u2)
section RC
variable {p : Program} {l : Launch} {e : Env} {R : Room} {s : State} {m : MethodId} {args : Array Value} {below : List Frame} {meth : Method} {c : Code} {H : Heap} {locs : List Loc} {cells slots : Nat} {Q : State → Prop}
variable {D : va_G} {cc : Nat → ClassId} {a : Nat → Nat} {u : Mem} {A : Nat → Prop} {bc : ByteArray} {nL : Nat} {rest : List Value} {own : String} {pc : Nat} {ls : Array Slot}
theorem cIald {y n : Nat} {i : Int32} (S : CallFix p m c bc nL s args gtbl own) (hK : va_K D vwCl (tysC cc) s) (hP : va_P D vwCl (wlC cc a u) H) (hy : kdC y = 8 ∧ y < 64) (hn : lenC y = n) (hin : vp_in i n) (hdg : decode bc pc = .ok (.iaload, 1)) (kk : W p l e R s m args below meth c H locs cells slots Q (F0 m (pc + 1) ls (.int (u.1 y i.toNatClampNeg) :: rest))) : W p l e R s m args below meth c H locs cells slots Q (F0 m pc ls (.int i :: .ref (a y) :: rest)) := by
  subst hn
  exact va_iald S.1 S.2.1 hK hP y 0 (c_IA hy) rfl hin hdg kk
theorem cIast {y n : Nat} {i x : Int32} (S : CallFix p m c bc nL s args gtbl own) (hK : va_K D vwCl (tysC cc) s) (hP : va_P D vwCl (wlC cc a u) H) (hD : va_D A (wlC cc a u)) (hS : va_S A s.heap H locs) (hy : kdC y = 8 ∧ y < 64) (hn : lenC y = n) (hin : vp_in i n) (hdg : decode bc pc = .ok (.iastore, 1)) (kk : ∀ (H1 : Heap) (locs1 : List Loc), va_P D vwCl (wlC cc a (sI u y i.toNatClampNeg x)) H1 → va_D A (wlC cc a (sI u y i.toNatClampNeg x)) → va_S A s.heap H1 locs1 → W p l e R s m args below meth c H1 locs1 cells slots Q (F0 m (pc + 1) ls rest)) : W p l e R s m args below meth c H locs cells slots Q (F0 m pc ls (.int x :: .int i :: .ref (a y) :: rest)) := by
  subst hn
  exact va_iast S.1 S.2.1 hK hP hD hS y 0 (c_IA hy) rfl hin hdg (fun H1 locs1 h1 h2 h3 => kk H1 locs1 (z_IA hy ▸ h1) (z_IA hy ▸ h2) h3)
theorem cLald {t : Nat} {i : Int32} (S : CallFix p m c bc nL s args gtbl own) (hK : va_K D vwCl (tysC cc) s) (hP : va_P D vwCl (wlC cc a u) H) (hy : t < 4) (hin : vp_in i 40) (hdg : decode bc pc = .ok (.laload, 1)) (kk : W p l e R s m args below meth c H locs cells slots Q (F0 m (pc + 1) ls (.long (u.2 (t + 23) i.toNatClampNeg) :: rest))) : W p l e R s m args below meth c H locs cells slots Q (F0 m pc ls (.int i :: .ref (a (t + 23)) :: rest)) :=
  va_lald S.1 S.2.1 hK hP (t + 23) 1 (c_LA hy) rfl hin hdg kk
theorem cLast {t : Nat} {i : Int32} {x : Int64} (S : CallFix p m c bc nL s args gtbl own) (hK : va_K D vwCl (tysC cc) s) (hP : va_P D vwCl (wlC cc a u) H) (hD : va_D A (wlC cc a u)) (hS : va_S A s.heap H locs) (hy : t < 4) (hin : vp_in i 40) (hdg : decode bc pc = .ok (.lastore, 1)) (kk : ∀ (H1 : Heap) (locs1 : List Loc), va_P D vwCl (wlC cc a (sL u (t + 23) i.toNatClampNeg x)) H1 → va_D A (wlC cc a (sL u (t + 23) i.toNatClampNeg x)) → va_S A s.heap H1 locs1 → W p l e R s m args below meth c H1 locs1 cells slots Q (F0 m (pc + 1) ls rest)) : W p l e R s m args below meth c H locs cells slots Q (F0 m pc ls (.long x :: .int i :: .ref (a (t + 23)) :: rest)) :=
  va_last S.1 S.2.1 hK hP hD hS (t + 23) 1 (c_LA hy) rfl hin hdg (fun H1 locs1 h1 h2 h3 => kk H1 locs1 (z_LA hy ▸ h1) (z_LA hy ▸ h2) h3)
theorem cPald {t : Nat} {i : Int32} (S : CallFix p m c bc nL s args gtbl own) (hK : va_K D vwCl (tysC cc) s) (hP : va_P D vwCl (wlC cc a u) H) (hy : 1 ≤ t ∧ t ≤ 3) (hin : vp_in i 12) (hdg : decode bc pc = .ok (.aaload, 1)) (kk : W p l e R s m args below meth c H locs cells slots Q (F0 m (pc + 1) ls (.ref (a (12 * t + 16 + i.toNatClampNeg)) :: rest))) : W p l e R s m args below meth c H locs cells slots Q (F0 m pc ls (.int i :: .ref (a t) :: rest)) :=
  va_aldq S.1 S.2.1 hK hP t 2 (c_PA hy) rfl hin hdg kk
theorem cSald {i : Int32} (S : CallFix p m c bc nL s args gtbl own) (hK : va_K D vwCl (tysC cc) s) (hP : va_P D vwCl (wlC cc a u) H) (hin : vp_in i 4) (hdg : decode bc pc = .ok (.aaload, 1)) (kk : W p l e R s m args below meth c H locs cells slots Q (F0 m (pc + 1) ls (.ref (a (i.toNatClampNeg + 19)) :: rest))) : W p l e R s m args below meth c H locs cells slots Q (F0 m pc ls (.int i :: .ref (a 18) :: rest)) :=
  va_aldq S.1 S.2.1 hK hP 18 3 c_SA rfl hin hdg kk
end RC
theorem fz_ok {v : Int32} (h : v = 0 ∨ v = 1) : fits .boolean (.int v) = true := by rcases h with rfl | rfl <;> rfl
end
section
/-! THE REFERENCE'S WORLD: 18 cells. 0 the object; 1 row, 2 scratches, 3 found, 4 can, 5 byYears, 6 isRing, 7 few, 8 queue, 9 tape, 10 bitsOf, 11 sizeOf, 12 sheets, 13 lent, 14 image, 15 before, 16 marksKept, 17 marksBefore. -/
def kdM (i : Nat) : Nat := ([7, 8, 9, 8, 10, 8, 10, 8, 8, 8, 8, 8, 9, 9, 8, 8, 9, 9] : List Nat).getD i 99
def lenM (i : Nat) : Nat := ([0, 50, 12, 7, 144, 12, 4096, 4096, 12, 120, 4, 4, 160, 40, 50, 50, 12, 12] : List Nat).getD i 0
def ceM (cc : Nat → ClassId) (a : Nat → Nat) (u : Mem) (i : Nat) : va_E := match kdM i with
  | 7 => .inr (7, [.ref (a 1), .ref (a 2), .ref (a 3), .ref (a 4), .ref (a 5), .ref (a 6), .ref (a 7), .ref (a 8), .ref (a 9), .int (u.1 i 9), .int (u.1 i 10), .int (u.1 i 11), .int (u.1 i 12), .long (u.2 i 13), .int (u.1 i 14), .int (u.1 i 15), .ref (a 10), .ref (a 11), .ref (a 12), .ref (a 13), .ref (a 14), .ref (a 15), .ref (a 16), .ref (a 17), .int (u.1 i 24)])
  | 8 => .inl (cc 0, lenM i, .inl (u.1 i))
  | 9 => .inl (cc 1, lenM i, .inr (.inl (u.2 i)))
  | _ => .inl (cc 4, lenM i, .inl (u.1 i))
def wlM (cc : Nat → ClassId) (a : Nat → Nat) (u : Mem) : va_W := (List.range 18).map (fun i => (a i, ceM cc a u i))
abbrev tysM (cc : Nat → ClassId) : List (ClassId × FieldType) := [(cc 0, .int), (cc 1, .long), (cc 4, .boolean)]
def AM (a : Nat → Nat) : Nat → Prop := fun q => ∃ i, i < 18 ∧ q = a i
theorem wlM_at {cc : Nat → ClassId} {a : Nat → Nat} {u : Mem} {i : Nat} (h : i < 18) : (wlM cc a u)[i]? = some (a i, ceM cc a u i) := by
  simp [wlM, h]
theorem ceM_sI {cc : Nat → ClassId} {a : Nat → Nat} {u : Mem} {i k j : Nat} {v : Int32} (h : j ≠ i) : ceM cc a (sI u i k v) j = ceM cc a u j := by
  have e2 : (sI u i k v).1 j = u.1 j := funext (fun b => if_neg (fun z => h z.1))
  have e3 : (sI u i k v).2 = u.2 := rfl
  unfold ceM
  rw [e2, e3]
theorem ceM_sL {cc : Nat → ClassId} {a : Nat → Nat} {u : Mem} {i k j : Nat} {v : Int64} (h : j ≠ i) : ceM cc a (sL u i k v) j = ceM cc a u j := by
  have e2 : (sL u i k v).2 j = u.2 j := funext (fun b => if_neg (fun z => h z.1))
  have e3 : (sL u i k v).1 = u.1 := rfl
  unfold ceM
  rw [e2, e3]
theorem wlM_set {cc : Nat → ClassId} {a : Nat → Nat} {u u2 : Mem} {i : Nat} {x : va_E} (hi : i < 18) (h1 : ceM cc a u2 i = x) (h2 : ∀ j, j ≠ i → ceM cc a u2 j = ceM cc a u j) : (wlM cc a u).set i (a i, x) = wlM cc a u2 := by
  apply List.ext_getElem?
  intro j
  by_cases hj : j < 18
  · rw [wlM_at hj, List.getElem?_set]
    by_cases e : i = j
    · subst e; rw [if_pos rfl, if_pos (by simp [wlM, hj]), h1]
    · rw [if_neg e, wlM_at hj, h2 j (fun z => e z.symm)]
  · rw [List.getElem?_eq_none (by simp [wlM]; omega), List.getElem?_eq_none (by simp [wlM]; omega)]
theorem wlM_D {cc : Nat → ClassId} {a : Nat → Nat} {u u2 : Mem} {A : Nat → Prop} (h : va_D A (wlM cc a u)) : va_D A (wlM cc a u2) := by
  have key : ∀ (u' : Mem) (k : Nat) (q : Nat × va_E), (wlM cc a u')[k]? = some q → k < 18 ∧ q.1 = a k := by
    intro u' k q hq
    have hk : k < 18 := by
      have := (List.getElem?_eq_some_iff.mp hq).1
      simpa [wlM] using this
    rw [wlM_at hk] at hq
    cases hq
    exact ⟨hk, rfl⟩
  refine ⟨fun i j p q hp hq e => ?_, fun k q hq => ?_⟩
  · obtain ⟨hi, e1⟩ := key u2 i p hp
    obtain ⟨hj, e2⟩ := key u2 j q hq
    exact h.1 i j _ _ (wlM_at hi) (wlM_at hj) (by show a i = a j; rw [← e1, ← e2, e])
  · obtain ⟨hk, e1⟩ := key u2 k q hq
    rw [e1]
    exact h.2 k _ (wlM_at hk)
abbrev MR (l : Launch) (D : va_G) (cc : Nat → ClassId) (a : Nat → Nat) (y : MethodName) (b : ByteArray) (mL : Nat) (rt : Option FieldType) (fr lo : Nat) (av : List Value) (u : Mem) (r : Option Value) (u2 : Mem) : Prop :=
  MM l D (tysM cc) (AM a) (fun _ => True) y b mL rt fr lo av (wlM cc a u) r (wlM cc a u2)
section
variable {cc : Nat → ClassId} {a : Nat → Nat} {u : Mem}
theorem c_MO : (wlM cc a u)[0]? = some (a 0, .inr (7, [.ref (a 1), .ref (a 2), .ref (a 3), .ref (a 4), .ref (a 5), .ref (a 6), .ref (a 7), .ref (a 8), .ref (a 9), .int (u.1 0 9), .int (u.1 0 10), .int (u.1 0 11), .int (u.1 0 12), .long (u.2 0 13), .int (u.1 0 14), .int (u.1 0 15), .ref (a 10), .ref (a 11), .ref (a 12), .ref (a 13), .ref (a 14), .ref (a 15), .ref (a 16), .ref (a 17), .int (u.1 0 24)])) := wlM_at (by decide)
theorem ce_MI {y : Nat} (h : kdM y = 8) : ceM cc a u y = .inl (cc 0, lenM y, .inl (u.1 y)) := by
  unfold ceM
  rw [h]
  rfl
theorem ce_ML {y : Nat} (h : kdM y = 9) : ceM cc a u y = .inl (cc 1, lenM y, .inr (.inl (u.2 y))) := by
  unfold ceM
  rw [h]
  rfl
theorem ce_MZ {y : Nat} (h : kdM y = 10) : ceM cc a u y = .inl (cc 4, lenM y, .inl (u.1 y)) := by
  unfold ceM
  rw [h]
  rfl
theorem c_MI {y : Nat} (h : kdM y = 8 ∧ y < 18) : (wlM cc a u)[y]? = some (a y, .inl (cc 0, lenM y, .inl (u.1 y))) := by rw [wlM_at h.2, ce_MI h.1]
theorem c_ML {y : Nat} (h : kdM y = 9 ∧ y < 18) : (wlM cc a u)[y]? = some (a y, .inl (cc 1, lenM y, .inr (.inl (u.2 y)))) := by rw [wlM_at h.2, ce_ML h.1]
theorem c_MZ {y : Nat} (h : kdM y = 10 ∧ y < 18) : (wlM cc a u)[y]? = some (a y, .inl (cc 4, lenM y, .inl (u.1 y))) := by rw [wlM_at h.2, ce_MZ h.1]
theorem z_MO {k : Nat} (hk : k = 9 ∨ k = 10 ∨ k = 11 ∨ k = 12 ∨ k = 14 ∨ k = 15 ∨ k = 24) {v : Int32} : (wlM cc a u).set 0 (a 0, .inr (7, ([.ref (a 1), .ref (a 2), .ref (a 3), .ref (a 4), .ref (a 5), .ref (a 6), .ref (a 7), .ref (a 8), .ref (a 9), .int (u.1 0 9), .int (u.1 0 10), .int (u.1 0 11), .int (u.1 0 12), .long (u.2 0 13), .int (u.1 0 14), .int (u.1 0 15), .ref (a 10), .ref (a 11), .ref (a 12), .ref (a 13), .ref (a 14), .ref (a 15), .ref (a 16), .ref (a 17), .int (u.1 0 24)] : List Value).set k (.int v))) = wlM cc a (sI u 0 k v) := by
  refine wlM_set (by decide) ?_ (fun _ h => ceM_sI h)
  rcases hk with rfl | rfl | rfl | rfl | rfl | rfl | rfl <;> rfl
theorem z_MOl {v : Int64} : (wlM cc a u).set 0 (a 0, .inr (7, ([.ref (a 1), .ref (a 2), .ref (a 3), .ref (a 4), .ref (a 5), .ref (a 6), .ref (a 7), .ref (a 8), .ref (a 9), .int (u.1 0 9), .int (u.1 0 10), .int (u.1 0 11), .int (u.1 0 12), .long (u.2 0 13), .int (u.1 0 14), .int (u.1 0 15), .ref (a 10), .ref (a 11), .ref (a 12), .ref (a 13), .ref (a 14), .ref (a 15), .ref (a 16), .ref (a 17), .int (u.1 0 24)] : List Value).set 13 (.long v))) = wlM cc a (sL u 0 13 v) := wlM_set (by decide) rfl (fun _ h => ceM_sL h)
theorem z_MI {y k : Nat} (h : kdM y = 8 ∧ y < 18) {v : Int32} : (wlM cc a u).set y (a y, .inl (cc 0, lenM y, .inl (upd (u.1 y) k v))) = wlM cc a (sI u y k v) := by
  refine wlM_set h.2 ?_ (fun _ h => ceM_sI h)
  rw [ce_MI h.1, sI_upd]
theorem z_ML {y k : Nat} (h : kdM y = 9 ∧ y < 18) {v : Int64} : (wlM cc a u).set y (a y, .inl (cc 1, lenM y, .inr (.inl (vp_updL (u.2 y) k v)))) = wlM cc a (sL u y k v) := by
  refine wlM_set h.2 ?_ (fun _ h => ceM_sL h)
  rw [ce_ML h.1, sL_upd]
theorem z_MZ {y k : Nat} (h : kdM y = 10 ∧ y < 18) {v : Int32} : (wlM cc a u).set y (a y, .inl (cc 4, lenM y, .inl (upd (u.1 y) k v))) = wlM cc a (sI u y k v) := by
  refine wlM_set h.2 ?_ (fun _ h => ceM_sI h)
  rw [ce_MZ h.1, sI_upd]
end
section RM
variable {p : Program} {l : Launch} {e : Env} {R : Room} {s : State} {m : MethodId} {args : Array Value} {below : List Frame} {meth : Method} {c : Code} {H : Heap} {locs : List Loc} {cells slots : Nat} {Q : State → Prop}
variable {D : va_G} {cc : Nat → ClassId} {a : Nat → Nat} {u : Mem} {A : Nat → Prop} {bc : ByteArray} {nL : Nat} {rest : List Value} {own : String} {pc : Nat} {ls : Array Slot}
theorem mIald {y n : Nat} {i : Int32} (S : CallFix p m c bc nL s args gtbl own) (hK : va_K D vwCl (tysM cc) s) (hP : va_P D vwCl (wlM cc a u) H) (hy : kdM y = 8 ∧ y < 18) (hn : lenM y = n) (hin : vp_in i n) (hdg : decode bc pc = .ok (.iaload, 1)) (kk : W p l e R s m args below meth c H locs cells slots Q (F0 m (pc + 1) ls (.int (u.1 y i.toNatClampNeg) :: rest))) : W p l e R s m args below meth c H locs cells slots Q (F0 m pc ls (.int i :: .ref (a y) :: rest)) := by
  subst hn
  exact va_iald S.1 S.2.1 hK hP y 0 (c_MI hy) rfl hin hdg kk
theorem mZald {y n : Nat} {i : Int32} (S : CallFix p m c bc nL s args gtbl own) (hK : va_K D vwCl (tysM cc) s) (hP : va_P D vwCl (wlM cc a u) H) (hy : kdM y = 10 ∧ y < 18) (hn : lenM y = n) (hin : vp_in i n) (hdg : decode bc pc = .ok (.baload, 1)) (kk : W p l e R s m args below meth c H locs cells slots Q (F0 m (pc + 1) ls (.int (u.1 y i.toNatClampNeg) :: rest))) : W p l e R s m args below meth c H locs cells slots Q (F0 m pc ls (.int i :: .ref (a y) :: rest)) := by
  subst hn
  exact va_zald S.1 S.2.1 hK hP y 2 (c_MZ hy) rfl hin hdg kk
theorem mLald {y n : Nat} {i : Int32} (S : CallFix p m c bc nL s args gtbl own) (hK : va_K D vwCl (tysM cc) s) (hP : va_P D vwCl (wlM cc a u) H) (hy : kdM y = 9 ∧ y < 18) (hn : lenM y = n) (hin : vp_in i n) (hdg : decode bc pc = .ok (.laload, 1)) (kk : W p l e R s m args below meth c H locs cells slots Q (F0 m (pc + 1) ls (.long (u.2 y i.toNatClampNeg) :: rest))) : W p l e R s m args below meth c H locs cells slots Q (F0 m pc ls (.int i :: .ref (a y) :: rest)) := by
  subst hn
  exact va_lald S.1 S.2.1 hK hP y 1 (c_ML hy) rfl hin hdg kk
theorem mIast {y n : Nat} {i x : Int32} (S : CallFix p m c bc nL s args gtbl own) (hK : va_K D vwCl (tysM cc) s) (hP : va_P D vwCl (wlM cc a u) H) (hD : va_D A (wlM cc a u)) (hS : va_S A s.heap H locs) (hy : kdM y = 8 ∧ y < 18) (hn : lenM y = n) (hin : vp_in i n) (hdg : decode bc pc = .ok (.iastore, 1)) (kk : ∀ (H1 : Heap) (locs1 : List Loc), va_P D vwCl (wlM cc a (sI u y i.toNatClampNeg x)) H1 → va_D A (wlM cc a (sI u y i.toNatClampNeg x)) → va_S A s.heap H1 locs1 → W p l e R s m args below meth c H1 locs1 cells slots Q (F0 m (pc + 1) ls rest)) : W p l e R s m args below meth c H locs cells slots Q (F0 m pc ls (.int x :: .int i :: .ref (a y) :: rest)) := by
  subst hn
  exact va_iast S.1 S.2.1 hK hP hD hS y 0 (c_MI hy) rfl hin hdg (fun H1 locs1 h1 h2 h3 => kk H1 locs1 (z_MI hy ▸ h1) (z_MI hy ▸ h2) h3)
theorem mZast {y n : Nat} {i x : Int32} (S : CallFix p m c bc nL s args gtbl own) (hK : va_K D vwCl (tysM cc) s) (hP : va_P D vwCl (wlM cc a u) H) (hD : va_D A (wlM cc a u)) (hS : va_S A s.heap H locs) (hy : kdM y = 10 ∧ y < 18) (hn : lenM y = n) (hin : vp_in i n) (hdg : decode bc pc = .ok (.bastore, 1)) (kk : ∀ (H1 : Heap) (locs1 : List Loc), va_P D vwCl (wlM cc a (sI u y i.toNatClampNeg (vp_nar .boolean x))) H1 → va_D A (wlM cc a (sI u y i.toNatClampNeg (vp_nar .boolean x))) → va_S A s.heap H1 locs1 → W p l e R s m args below meth c H1 locs1 cells slots Q (F0 m (pc + 1) ls rest)) : W p l e R s m args below meth c H locs cells slots Q (F0 m pc ls (.int x :: .int i :: .ref (a y) :: rest)) := by
  subst hn
  exact va_zast S.1 S.2.1 hK hP hD hS y 2 (c_MZ hy) rfl hin hdg (fun H1 locs1 h1 h2 h3 => kk H1 locs1 (z_MZ hy ▸ h1) (z_MZ hy ▸ h2) h3)
theorem mLast {y n : Nat} {i : Int32} {x : Int64} (S : CallFix p m c bc nL s args gtbl own) (hK : va_K D vwCl (tysM cc) s) (hP : va_P D vwCl (wlM cc a u) H) (hD : va_D A (wlM cc a u)) (hS : va_S A s.heap H locs) (hy : kdM y = 9 ∧ y < 18) (hn : lenM y = n) (hin : vp_in i n) (hdg : decode bc pc = .ok (.lastore, 1)) (kk : ∀ (H1 : Heap) (locs1 : List Loc), va_P D vwCl (wlM cc a (sL u y i.toNatClampNeg x)) H1 → va_D A (wlM cc a (sL u y i.toNatClampNeg x)) → va_S A s.heap H1 locs1 → W p l e R s m args below meth c H1 locs1 cells slots Q (F0 m (pc + 1) ls rest)) : W p l e R s m args below meth c H locs cells slots Q (F0 m pc ls (.long x :: .int i :: .ref (a y) :: rest)) := by
  subst hn
  exact va_last S.1 S.2.1 hK hP hD hS y 1 (c_ML hy) rfl hin hdg (fun H1 locs1 h1 h2 h3 => kk H1 locs1 (z_ML hy ▸ h1) (z_ML hy ▸ h2) h3)
end RM
end
