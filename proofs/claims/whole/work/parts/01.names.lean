-- ===== PART A: goes FIRST, ahead of the names: the tables' words, and 'selects' of the private methods out of them =====
/-- a private method of a class that the tables say can be made, by its rows of tables_1 -/
def lw_okq (q : MethodName × Nat) : Prop := (q.1.cls ≠ "java/lang/invoke/MethodHandle" ∧ q.1.cls ≠ "java/lang/invoke/VarHandle") ∧ Cond.instantiable q.1.cls q.2 ∈ tables_1 ∧ Cond.privateMethod q.1 ∈ tables_1 ∧ Cond.instanceMethod q.1 ∈ tables_1
theorem lw_p0 : lw_okq (⟨"SevenInTheHay$Reader", "readPart", "(LSevenInTheHay$Text;I)I"⟩, 10) := ⟨⟨by decide +kernel, by decide +kernel⟩, List.mem_of_getElem? (i := 78) (by decide +kernel), List.mem_of_getElem? (i := 299) (by decide +kernel), List.mem_of_getElem? (i := 300) (by decide +kernel)⟩
theorem lw_p1 : lw_okq (⟨"SevenInTheHay$Reader", "nextToken", "()V"⟩, 10) := ⟨⟨by decide +kernel, by decide +kernel⟩, List.mem_of_getElem? (i := 78) (by decide +kernel), List.mem_of_getElem? (i := 303) (by decide +kernel), List.mem_of_getElem? (i := 304) (by decide +kernel)⟩
theorem lw_p2 : lw_okq (⟨"SevenInTheHay$Reader", "byteAt", "(I)I"⟩, 10) := ⟨⟨by decide +kernel, by decide +kernel⟩, List.mem_of_getElem? (i := 78) (by decide +kernel), List.mem_of_getElem? (i := 307) (by decide +kernel), List.mem_of_getElem? (i := 308) (by decide +kernel)⟩
theorem lw_p3 : lw_okq (⟨"SevenInTheHay$Reader", "readWord", "()V"⟩, 10) := ⟨⟨by decide +kernel, by decide +kernel⟩, List.mem_of_getElem? (i := 78) (by decide +kernel), List.mem_of_getElem? (i := 314) (by decide +kernel), List.mem_of_getElem? (i := 315) (by decide +kernel)⟩
theorem lw_p4 : lw_okq (⟨"SevenInTheHay$Reader", "isWord", "(I)Z"⟩, 10) := ⟨⟨by decide +kernel, by decide +kernel⟩, List.mem_of_getElem? (i := 78) (by decide +kernel), List.mem_of_getElem? (i := 318) (by decide +kernel), List.mem_of_getElem? (i := 319) (by decide +kernel)⟩
theorem lw_p5 : lw_okq (⟨"SevenInTheHay$Reader", "readNumber", "()V"⟩, 10) := ⟨⟨by decide +kernel, by decide +kernel⟩, List.mem_of_getElem? (i := 78) (by decide +kernel), List.mem_of_getElem? (i := 374) (by decide +kernel), List.mem_of_getElem? (i := 375) (by decide +kernel)⟩
theorem lw_p6 : lw_okq (⟨"SevenInTheHay$Reader", "workOff", "(LSevenInTheHay$Text;I)V"⟩, 10) := ⟨⟨by decide +kernel, by decide +kernel⟩, List.mem_of_getElem? (i := 78) (by decide +kernel), List.mem_of_getElem? (i := 438) (by decide +kernel), List.mem_of_getElem? (i := 439) (by decide +kernel)⟩
theorem lw_p7 : lw_okq (⟨"SevenInTheHay$Reader", "top", "()I"⟩, 10) := ⟨⟨by decide +kernel, by decide +kernel⟩, List.mem_of_getElem? (i := 78) (by decide +kernel), List.mem_of_getElem? (i := 442) (by decide +kernel), List.mem_of_getElem? (i := 443) (by decide +kernel)⟩
theorem lw_p8 : lw_okq (⟨"SevenInTheHay$Reader", "begins", "(LSevenInTheHay$Text;)Z"⟩, 10) := ⟨⟨by decide +kernel, by decide +kernel⟩, List.mem_of_getElem? (i := 78) (by decide +kernel), List.mem_of_getElem? (i := 448) (by decide +kernel), List.mem_of_getElem? (i := 449) (by decide +kernel)⟩
theorem lw_p9 : lw_okq (⟨"SevenInTheHay$Reader", "openingAtHand", "()I"⟩, 10) := ⟨⟨by decide +kernel, by decide +kernel⟩, List.mem_of_getElem? (i := 78) (by decide +kernel), List.mem_of_getElem? (i := 452) (by decide +kernel), List.mem_of_getElem? (i := 453) (by decide +kernel)⟩
theorem lw_p10 : lw_okq (⟨"SevenInTheHay$Reader", "await", "(I)V"⟩, 10) := ⟨⟨by decide +kernel, by decide +kernel⟩, List.mem_of_getElem? (i := 78) (by decide +kernel), List.mem_of_getElem? (i := 456) (by decide +kernel), List.mem_of_getElem? (i := 457) (by decide +kernel)⟩
theorem lw_p11 : lw_okq (⟨"SevenInTheHay$Reader", "goesOn", "(LSevenInTheHay$Text;)Z"⟩, 10) := ⟨⟨by decide +kernel, by decide +kernel⟩, List.mem_of_getElem? (i := 78) (by decide +kernel), List.mem_of_getElem? (i := 460) (by decide +kernel), List.mem_of_getElem? (i := 461) (by decide +kernel)⟩
theorem lw_p12 : lw_okq (⟨"SevenInTheHay$Reader", "closes", "()Z"⟩, 10) := ⟨⟨by decide +kernel, by decide +kernel⟩, List.mem_of_getElem? (i := 78) (by decide +kernel), List.mem_of_getElem? (i := 464) (by decide +kernel), List.mem_of_getElem? (i := 465) (by decide +kernel)⟩
theorem lw_p13 : lw_okq (⟨"SevenInTheHay$Reader", "operationAtHand", "()I"⟩, 10) := ⟨⟨by decide +kernel, by decide +kernel⟩, List.mem_of_getElem? (i := 78) (by decide +kernel), List.mem_of_getElem? (i := 468) (by decide +kernel), List.mem_of_getElem? (i := 469) (by decide +kernel)⟩
theorem lw_p14 : lw_okq (⟨"SevenInTheHay", "textAt", "(I)LSevenInTheHay$Text;"⟩, 12) := ⟨⟨by decide +kernel, by decide +kernel⟩, List.mem_of_getElem? (i := 18) (by decide +kernel), List.mem_of_getElem? (i := 477) (by decide +kernel), List.mem_of_getElem? (i := 478) (by decide +kernel)⟩
theorem lw_p15 : lw_okq (⟨"SevenInTheHay$Round", "turn", "(I)V"⟩, 6) := ⟨⟨by decide +kernel, by decide +kernel⟩, List.mem_of_getElem? (i := 40) (by decide +kernel), List.mem_of_getElem? (i := 492) (by decide +kernel), List.mem_of_getElem? (i := 493) (by decide +kernel)⟩
def lw_privs_1 : List (MethodName × Nat) := [(⟨"SevenInTheHay$Reader", "readPart", "(LSevenInTheHay$Text;I)I"⟩, 10), (⟨"SevenInTheHay$Reader", "nextToken", "()V"⟩, 10), (⟨"SevenInTheHay$Reader", "byteAt", "(I)I"⟩, 10), (⟨"SevenInTheHay$Reader", "readWord", "()V"⟩, 10), (⟨"SevenInTheHay$Reader", "isWord", "(I)Z"⟩, 10), (⟨"SevenInTheHay$Reader", "readNumber", "()V"⟩, 10), (⟨"SevenInTheHay$Reader", "workOff", "(LSevenInTheHay$Text;I)V"⟩, 10), (⟨"SevenInTheHay$Reader", "top", "()I"⟩, 10), (⟨"SevenInTheHay$Reader", "begins", "(LSevenInTheHay$Text;)Z"⟩, 10), (⟨"SevenInTheHay$Reader", "openingAtHand", "()I"⟩, 10), (⟨"SevenInTheHay$Reader", "await", "(I)V"⟩, 10), (⟨"SevenInTheHay$Reader", "goesOn", "(LSevenInTheHay$Text;)Z"⟩, 10), (⟨"SevenInTheHay$Reader", "closes", "()Z"⟩, 10), (⟨"SevenInTheHay$Reader", "operationAtHand", "()I"⟩, 10), (⟨"SevenInTheHay", "textAt", "(I)LSevenInTheHay$Text;"⟩, 12), (⟨"SevenInTheHay$Round", "turn", "(I)V"⟩, 6)]
theorem lw_r1 : ∀ q ∈ lw_privs_1, lw_okq q := List.forall_mem_cons.mpr ⟨lw_p0, List.forall_mem_cons.mpr ⟨lw_p1, List.forall_mem_cons.mpr ⟨lw_p2, List.forall_mem_cons.mpr ⟨lw_p3, List.forall_mem_cons.mpr ⟨lw_p4, List.forall_mem_cons.mpr ⟨lw_p5, List.forall_mem_cons.mpr ⟨lw_p6, List.forall_mem_cons.mpr ⟨lw_p7, List.forall_mem_cons.mpr ⟨lw_p8, List.forall_mem_cons.mpr ⟨lw_p9, List.forall_mem_cons.mpr ⟨lw_p10, List.forall_mem_cons.mpr ⟨lw_p11, List.forall_mem_cons.mpr ⟨lw_p12, List.forall_mem_cons.mpr ⟨lw_p13, List.forall_mem_cons.mpr ⟨lw_p14, List.forall_mem_cons.mpr ⟨lw_p15, fun _ h => absurd h List.not_mem_nil⟩⟩⟩⟩⟩⟩⟩⟩⟩⟩⟩⟩⟩⟩⟩⟩
theorem lw_p16 : lw_okq (⟨"SevenInTheHay$Round", "nameStep", "(LSevenInTheHay$Ring;I)V"⟩, 6) := ⟨⟨by decide +kernel, by decide +kernel⟩, List.mem_of_getElem? (i := 40) (by decide +kernel), List.mem_of_getElem? (i := 497) (by decide +kernel), List.mem_of_getElem? (i := 498) (by decide +kernel)⟩
theorem lw_p17 : lw_okq (⟨"SevenInTheHay$Round", "name", "(II)V"⟩, 6) := ⟨⟨by decide +kernel, by decide +kernel⟩, List.mem_of_getElem? (i := 40) (by decide +kernel), List.mem_of_getElem? (i := 505) (by decide +kernel), List.mem_of_getElem? (i := 506) (by decide +kernel)⟩
theorem lw_p18 : lw_okq (⟨"SevenInTheHay$Round", "before", "(I)I"⟩, 6) := ⟨⟨by decide +kernel, by decide +kernel⟩, List.mem_of_getElem? (i := 40) (by decide +kernel), List.mem_of_getElem? (i := 509) (by decide +kernel), List.mem_of_getElem? (i := 510) (by decide +kernel)⟩
theorem lw_p19 : lw_okq (⟨"SevenInTheHay$Round", "further", "(LSevenInTheHay$Text;)I"⟩, 6) := ⟨⟨by decide +kernel, by decide +kernel⟩, List.mem_of_getElem? (i := 40) (by decide +kernel), List.mem_of_getElem? (i := 515) (by decide +kernel), List.mem_of_getElem? (i := 516) (by decide +kernel)⟩
theorem lw_p20 : lw_okq (⟨"SevenInTheHay$Text", "endOf", "(I)I"⟩, 3) := ⟨⟨by decide +kernel, by decide +kernel⟩, List.mem_of_getElem? (i := 118) (by decide +kernel), List.mem_of_getElem? (i := 523) (by decide +kernel), List.mem_of_getElem? (i := 524) (by decide +kernel)⟩
theorem lw_p21 : lw_okq (⟨"SevenInTheHay$Round", "nextPlace", "(IILSevenInTheHay$Text;)I"⟩, 6) := ⟨⟨by decide +kernel, by decide +kernel⟩, List.mem_of_getElem? (i := 40) (by decide +kernel), List.mem_of_getElem? (i := 547) (by decide +kernel), List.mem_of_getElem? (i := 548) (by decide +kernel)⟩
theorem lw_p22 : lw_okq (⟨"SevenInTheHay$Round", "isTurned", "(I)Z"⟩, 6) := ⟨⟨by decide +kernel, by decide +kernel⟩, List.mem_of_getElem? (i := 40) (by decide +kernel), List.mem_of_getElem? (i := 551) (by decide +kernel), List.mem_of_getElem? (i := 552) (by decide +kernel)⟩
theorem lw_p23 : lw_okq (⟨"SevenInTheHay", "isHarvest", "(LSevenInTheHay$Ring;I)Z"⟩, 12) := ⟨⟨by decide +kernel, by decide +kernel⟩, List.mem_of_getElem? (i := 18) (by decide +kernel), List.mem_of_getElem? (i := 584) (by decide +kernel), List.mem_of_getElem? (i := 585) (by decide +kernel)⟩
theorem lw_p24 : lw_okq (⟨"SevenInTheHay", "lengthOf", "(LSevenInTheHay$Ring;I)I"⟩, 12) := ⟨⟨by decide +kernel, by decide +kernel⟩, List.mem_of_getElem? (i := 18) (by decide +kernel), List.mem_of_getElem? (i := 595) (by decide +kernel), List.mem_of_getElem? (i := 596) (by decide +kernel)⟩
theorem lw_p25 : lw_okq (⟨"SevenInTheHay", "layInOrder", "()V"⟩, 12) := ⟨⟨by decide +kernel, by decide +kernel⟩, List.mem_of_getElem? (i := 18) (by decide +kernel), List.mem_of_getElem? (i := 628) (by decide +kernel), List.mem_of_getElem? (i := 629) (by decide +kernel)⟩
theorem lw_p26 : lw_okq (⟨"SevenInTheHay$Order", "exchange", "(II)V"⟩, 2) := ⟨⟨by decide +kernel, by decide +kernel⟩, List.mem_of_getElem? (i := 65) (by decide +kernel), List.mem_of_getElem? (i := 645) (by decide +kernel), List.mem_of_getElem? (i := 646) (by decide +kernel)⟩
theorem lw_p27 : lw_okq (⟨"SevenInTheHay", "sheetAt", "(I)LSevenInTheHay$Sheet;"⟩, 12) := ⟨⟨by decide +kernel, by decide +kernel⟩, List.mem_of_getElem? (i := 18) (by decide +kernel), List.mem_of_getElem? (i := 653) (by decide +kernel), List.mem_of_getElem? (i := 654) (by decide +kernel)⟩
theorem lw_p28 : lw_okq (⟨"SevenInTheHay", "asksOfTold", "(I)Z"⟩, 12) := ⟨⟨by decide +kernel, by decide +kernel⟩, List.mem_of_getElem? (i := 18) (by decide +kernel), List.mem_of_getElem? (i := 657) (by decide +kernel), List.mem_of_getElem? (i := 658) (by decide +kernel)⟩
theorem lw_p29 : lw_okq (⟨"SevenInTheHay", "tellsPlaces", "(LSevenInTheHay$Sheet;)Z"⟩, 12) := ⟨⟨by decide +kernel, by decide +kernel⟩, List.mem_of_getElem? (i := 18) (by decide +kernel), List.mem_of_getElem? (i := 665) (by decide +kernel), List.mem_of_getElem? (i := 666) (by decide +kernel)⟩
theorem lw_p30 : lw_okq (⟨"SevenInTheHay", "otherwise", "(LSevenInTheHay$Sheet;LSevenInTheHay$Ring;LSevenInTheHay$Text;)I"⟩, 12) := ⟨⟨by decide +kernel, by decide +kernel⟩, List.mem_of_getElem? (i := 18) (by decide +kernel), List.mem_of_getElem? (i := 681) (by decide +kernel), List.mem_of_getElem? (i := 682) (by decide +kernel)⟩
theorem lw_p31 : lw_okq (⟨"SevenInTheHay", "startsOf", "(LSevenInTheHay$Sheet;)I"⟩, 12) := ⟨⟨by decide +kernel, by decide +kernel⟩, List.mem_of_getElem? (i := 18) (by decide +kernel), List.mem_of_getElem? (i := 685) (by decide +kernel), List.mem_of_getElem? (i := 686) (by decide +kernel)⟩
def lw_privs_2 : List (MethodName × Nat) := [(⟨"SevenInTheHay$Round", "nameStep", "(LSevenInTheHay$Ring;I)V"⟩, 6), (⟨"SevenInTheHay$Round", "name", "(II)V"⟩, 6), (⟨"SevenInTheHay$Round", "before", "(I)I"⟩, 6), (⟨"SevenInTheHay$Round", "further", "(LSevenInTheHay$Text;)I"⟩, 6), (⟨"SevenInTheHay$Text", "endOf", "(I)I"⟩, 3), (⟨"SevenInTheHay$Round", "nextPlace", "(IILSevenInTheHay$Text;)I"⟩, 6), (⟨"SevenInTheHay$Round", "isTurned", "(I)Z"⟩, 6), (⟨"SevenInTheHay", "isHarvest", "(LSevenInTheHay$Ring;I)Z"⟩, 12), (⟨"SevenInTheHay", "lengthOf", "(LSevenInTheHay$Ring;I)I"⟩, 12), (⟨"SevenInTheHay", "layInOrder", "()V"⟩, 12), (⟨"SevenInTheHay$Order", "exchange", "(II)V"⟩, 2), (⟨"SevenInTheHay", "sheetAt", "(I)LSevenInTheHay$Sheet;"⟩, 12), (⟨"SevenInTheHay", "asksOfTold", "(I)Z"⟩, 12), (⟨"SevenInTheHay", "tellsPlaces", "(LSevenInTheHay$Sheet;)Z"⟩, 12), (⟨"SevenInTheHay", "otherwise", "(LSevenInTheHay$Sheet;LSevenInTheHay$Ring;LSevenInTheHay$Text;)I"⟩, 12), (⟨"SevenInTheHay", "startsOf", "(LSevenInTheHay$Sheet;)I"⟩, 12)]
theorem lw_r2 : ∀ q ∈ lw_privs_2, lw_okq q := List.forall_mem_cons.mpr ⟨lw_p16, List.forall_mem_cons.mpr ⟨lw_p17, List.forall_mem_cons.mpr ⟨lw_p18, List.forall_mem_cons.mpr ⟨lw_p19, List.forall_mem_cons.mpr ⟨lw_p20, List.forall_mem_cons.mpr ⟨lw_p21, List.forall_mem_cons.mpr ⟨lw_p22, List.forall_mem_cons.mpr ⟨lw_p23, List.forall_mem_cons.mpr ⟨lw_p24, List.forall_mem_cons.mpr ⟨lw_p25, List.forall_mem_cons.mpr ⟨lw_p26, List.forall_mem_cons.mpr ⟨lw_p27, List.forall_mem_cons.mpr ⟨lw_p28, List.forall_mem_cons.mpr ⟨lw_p29, List.forall_mem_cons.mpr ⟨lw_p30, List.forall_mem_cons.mpr ⟨lw_p31, fun _ h => absurd h List.not_mem_nil⟩⟩⟩⟩⟩⟩⟩⟩⟩⟩⟩⟩⟩⟩⟩⟩
theorem lw_p32 : lw_okq (⟨"SevenInTheHay", "textsOf", "(LSevenInTheHay$Sheet;)I"⟩, 12) := ⟨⟨by decide +kernel, by decide +kernel⟩, List.mem_of_getElem? (i := 18) (by decide +kernel), List.mem_of_getElem? (i := 689) (by decide +kernel), List.mem_of_getElem? (i := 690) (by decide +kernel)⟩
theorem lw_p33 : lw_okq (⟨"SevenInTheHay", "kindsOf", "(LSevenInTheHay$Sheet;I)I"⟩, 12) := ⟨⟨by decide +kernel, by decide +kernel⟩, List.mem_of_getElem? (i := 18) (by decide +kernel), List.mem_of_getElem? (i := 693) (by decide +kernel), List.mem_of_getElem? (i := 694) (by decide +kernel)⟩
theorem lw_p34 : lw_okq (⟨"SevenInTheHay", "numbersOf", "(LSevenInTheHay$Sheet;I)I"⟩, 12) := ⟨⟨by decide +kernel, by decide +kernel⟩, List.mem_of_getElem? (i := 18) (by decide +kernel), List.mem_of_getElem? (i := 697) (by decide +kernel), List.mem_of_getElem? (i := 698) (by decide +kernel)⟩
theorem lw_p35 : lw_okq (⟨"SevenInTheHay", "draw", "(I)V"⟩, 12) := ⟨⟨by decide +kernel, by decide +kernel⟩, List.mem_of_getElem? (i := 18) (by decide +kernel), List.mem_of_getElem? (i := 722) (by decide +kernel), List.mem_of_getElem? (i := 723) (by decide +kernel)⟩
theorem lw_p36 : lw_okq (⟨"SevenInTheHayModel", "spell", "(IIIIIIIII)V"⟩, 41) := ⟨⟨by decide +kernel, by decide +kernel⟩, List.mem_of_getElem? (i := 795) (by decide +kernel), List.mem_of_getElem? (i := 801) (by decide +kernel), List.mem_of_getElem? (i := 802) (by decide +kernel)⟩
theorem lw_p37 : lw_okq (⟨"SevenInTheHayModel", "puts", "(II)V"⟩, 41) := ⟨⟨by decide +kernel, by decide +kernel⟩, List.mem_of_getElem? (i := 795) (by decide +kernel), List.mem_of_getElem? (i := 941) (by decide +kernel), List.mem_of_getElem? (i := 942) (by decide +kernel)⟩
theorem lw_p38 : lw_okq (⟨"SevenInTheHayModel", "isPlace", "(I)Z"⟩, 41) := ⟨⟨by decide +kernel, by decide +kernel⟩, List.mem_of_getElem? (i := 795) (by decide +kernel), List.mem_of_getElem? (i := 949) (by decide +kernel), List.mem_of_getElem? (i := 950) (by decide +kernel)⟩
theorem lw_p39 : lw_okq (⟨"SevenInTheHayModel", "codeOf", "(I)I"⟩, 41) := ⟨⟨by decide +kernel, by decide +kernel⟩, List.mem_of_getElem? (i := 795) (by decide +kernel), List.mem_of_getElem? (i := 953) (by decide +kernel), List.mem_of_getElem? (i := 954) (by decide +kernel)⟩
theorem lw_p40 : lw_okq (⟨"SevenInTheHayModel", "exchanges", "(II)V"⟩, 41) := ⟨⟨by decide +kernel, by decide +kernel⟩, List.mem_of_getElem? (i := 795) (by decide +kernel), List.mem_of_getElem? (i := 965) (by decide +kernel), List.mem_of_getElem? (i := 966) (by decide +kernel)⟩
theorem lw_p41 : lw_okq (⟨"SevenInTheHayModel", "pointsOf", "(II)I"⟩, 41) := ⟨⟨by decide +kernel, by decide +kernel⟩, List.mem_of_getElem? (i := 795) (by decide +kernel), List.mem_of_getElem? (i := 974) (by decide +kernel), List.mem_of_getElem? (i := 975) (by decide +kernel)⟩
theorem lw_p42 : lw_okq (⟨"SevenInTheHayModel", "read", "(II)I"⟩, 41) := ⟨⟨by decide +kernel, by decide +kernel⟩, List.mem_of_getElem? (i := 795) (by decide +kernel), List.mem_of_getElem? (i := 987) (by decide +kernel), List.mem_of_getElem? (i := 988) (by decide +kernel)⟩
theorem lw_p43 : lw_okq (⟨"SevenInTheHayModel", "next", "()V"⟩, 41) := ⟨⟨by decide +kernel, by decide +kernel⟩, List.mem_of_getElem? (i := 795) (by decide +kernel), List.mem_of_getElem? (i := 991) (by decide +kernel), List.mem_of_getElem? (i := 992) (by decide +kernel)⟩
theorem lw_p44 : lw_okq (⟨"SevenInTheHayModel", "byteAt", "(I)I"⟩, 41) := ⟨⟨by decide +kernel, by decide +kernel⟩, List.mem_of_getElem? (i := 795) (by decide +kernel), List.mem_of_getElem? (i := 995) (by decide +kernel), List.mem_of_getElem? (i := 996) (by decide +kernel)⟩
theorem lw_p45 : lw_okq (⟨"SevenInTheHayModel", "isWord", "(IIIIIIII)Z"⟩, 41) := ⟨⟨by decide +kernel, by decide +kernel⟩, List.mem_of_getElem? (i := 795) (by decide +kernel), List.mem_of_getElem? (i := 1004) (by decide +kernel), List.mem_of_getElem? (i := 1005) (by decide +kernel)⟩
theorem lw_p46 : lw_okq (⟨"SevenInTheHayModel", "isLetter", "(II)Z"⟩, 41) := ⟨⟨by decide +kernel, by decide +kernel⟩, List.mem_of_getElem? (i := 795) (by decide +kernel), List.mem_of_getElem? (i := 1008) (by decide +kernel), List.mem_of_getElem? (i := 1009) (by decide +kernel)⟩
theorem lw_p47 : lw_okq (⟨"SevenInTheHayModel", "part", "(Z)I"⟩, 41) := ⟨⟨by decide +kernel, by decide +kernel⟩, List.mem_of_getElem? (i := 795) (by decide +kernel), List.mem_of_getElem? (i := 1012) (by decide +kernel), List.mem_of_getElem? (i := 1013) (by decide +kernel)⟩
def lw_privs_3 : List (MethodName × Nat) := [(⟨"SevenInTheHay", "textsOf", "(LSevenInTheHay$Sheet;)I"⟩, 12), (⟨"SevenInTheHay", "kindsOf", "(LSevenInTheHay$Sheet;I)I"⟩, 12), (⟨"SevenInTheHay", "numbersOf", "(LSevenInTheHay$Sheet;I)I"⟩, 12), (⟨"SevenInTheHay", "draw", "(I)V"⟩, 12), (⟨"SevenInTheHayModel", "spell", "(IIIIIIIII)V"⟩, 41), (⟨"SevenInTheHayModel", "puts", "(II)V"⟩, 41), (⟨"SevenInTheHayModel", "isPlace", "(I)Z"⟩, 41), (⟨"SevenInTheHayModel", "codeOf", "(I)I"⟩, 41), (⟨"SevenInTheHayModel", "exchanges", "(II)V"⟩, 41), (⟨"SevenInTheHayModel", "pointsOf", "(II)I"⟩, 41), (⟨"SevenInTheHayModel", "read", "(II)I"⟩, 41), (⟨"SevenInTheHayModel", "next", "()V"⟩, 41), (⟨"SevenInTheHayModel", "byteAt", "(I)I"⟩, 41), (⟨"SevenInTheHayModel", "isWord", "(IIIIIIII)Z"⟩, 41), (⟨"SevenInTheHayModel", "isLetter", "(II)Z"⟩, 41), (⟨"SevenInTheHayModel", "part", "(Z)I"⟩, 41)]
theorem lw_r3 : ∀ q ∈ lw_privs_3, lw_okq q := List.forall_mem_cons.mpr ⟨lw_p32, List.forall_mem_cons.mpr ⟨lw_p33, List.forall_mem_cons.mpr ⟨lw_p34, List.forall_mem_cons.mpr ⟨lw_p35, List.forall_mem_cons.mpr ⟨lw_p36, List.forall_mem_cons.mpr ⟨lw_p37, List.forall_mem_cons.mpr ⟨lw_p38, List.forall_mem_cons.mpr ⟨lw_p39, List.forall_mem_cons.mpr ⟨lw_p40, List.forall_mem_cons.mpr ⟨lw_p41, List.forall_mem_cons.mpr ⟨lw_p42, List.forall_mem_cons.mpr ⟨lw_p43, List.forall_mem_cons.mpr ⟨lw_p44, List.forall_mem_cons.mpr ⟨lw_p45, List.forall_mem_cons.mpr ⟨lw_p46, List.forall_mem_cons.mpr ⟨lw_p47, fun _ h => absurd h List.not_mem_nil⟩⟩⟩⟩⟩⟩⟩⟩⟩⟩⟩⟩⟩⟩⟩⟩
theorem lw_p48 : lw_okq (⟨"SevenInTheHayModel", "fail", "()V"⟩, 41) := ⟨⟨by decide +kernel, by decide +kernel⟩, List.mem_of_getElem? (i := 795) (by decide +kernel), List.mem_of_getElem? (i := 1016) (by decide +kernel), List.mem_of_getElem? (i := 1017) (by decide +kernel)⟩
theorem lw_p49 : lw_okq (⟨"SevenInTheHayModel", "either", "()I"⟩, 41) := ⟨⟨by decide +kernel, by decide +kernel⟩, List.mem_of_getElem? (i := 795) (by decide +kernel), List.mem_of_getElem? (i := 1020) (by decide +kernel), List.mem_of_getElem? (i := 1021) (by decide +kernel)⟩
theorem lw_p50 : lw_okq (⟨"SevenInTheHayModel", "both", "()I"⟩, 41) := ⟨⟨by decide +kernel, by decide +kernel⟩, List.mem_of_getElem? (i := 795) (by decide +kernel), List.mem_of_getElem? (i := 1024) (by decide +kernel), List.mem_of_getElem? (i := 1025) (by decide +kernel)⟩
theorem lw_p51 : lw_okq (⟨"SevenInTheHayModel", "not", "()I"⟩, 41) := ⟨⟨by decide +kernel, by decide +kernel⟩, List.mem_of_getElem? (i := 795) (by decide +kernel), List.mem_of_getElem? (i := 1028) (by decide +kernel), List.mem_of_getElem? (i := 1029) (by decide +kernel)⟩
theorem lw_p52 : lw_okq (⟨"SevenInTheHayModel", "opens", "()Z"⟩, 41) := ⟨⟨by decide +kernel, by decide +kernel⟩, List.mem_of_getElem? (i := 795) (by decide +kernel), List.mem_of_getElem? (i := 1032) (by decide +kernel), List.mem_of_getElem? (i := 1033) (by decide +kernel)⟩
theorem lw_p53 : lw_okq (⟨"SevenInTheHayModel", "added", "()I"⟩, 41) := ⟨⟨by decide +kernel, by decide +kernel⟩, List.mem_of_getElem? (i := 795) (by decide +kernel), List.mem_of_getElem? (i := 1036) (by decide +kernel), List.mem_of_getElem? (i := 1037) (by decide +kernel)⟩
theorem lw_p54 : lw_okq (⟨"SevenInTheHayModel", "term", "()I"⟩, 41) := ⟨⟨by decide +kernel, by decide +kernel⟩, List.mem_of_getElem? (i := 795) (by decide +kernel), List.mem_of_getElem? (i := 1040) (by decide +kernel), List.mem_of_getElem? (i := 1041) (by decide +kernel)⟩
theorem lw_p55 : lw_okq (⟨"SevenInTheHayModel", "atom", "()I"⟩, 41) := ⟨⟨by decide +kernel, by decide +kernel⟩, List.mem_of_getElem? (i := 795) (by decide +kernel), List.mem_of_getElem? (i := 1044) (by decide +kernel), List.mem_of_getElem? (i := 1045) (by decide +kernel)⟩
theorem lw_p56 : lw_okq (⟨"SevenInTheHayModel", "isSign", "(I)Z"⟩, 41) := ⟨⟨by decide +kernel, by decide +kernel⟩, List.mem_of_getElem? (i := 795) (by decide +kernel), List.mem_of_getElem? (i := 1048) (by decide +kernel), List.mem_of_getElem? (i := 1049) (by decide +kernel)⟩
theorem lw_p57 : lw_okq (⟨"SevenInTheHayModel", "name", "()I"⟩, 41) := ⟨⟨by decide +kernel, by decide +kernel⟩, List.mem_of_getElem? (i := 795) (by decide +kernel), List.mem_of_getElem? (i := 1052) (by decide +kernel), List.mem_of_getElem? (i := 1053) (by decide +kernel)⟩
theorem lw_p58 : lw_okq (⟨"SevenInTheHayModel", "goes", "(I)V"⟩, 41) := ⟨⟨by decide +kernel, by decide +kernel⟩, List.mem_of_getElem? (i := 795) (by decide +kernel), List.mem_of_getElem? (i := 1069) (by decide +kernel), List.mem_of_getElem? (i := 1070) (by decide +kernel)⟩
theorem lw_p59 : lw_okq (⟨"SevenInTheHayModel", "turns", "(II)V"⟩, 41) := ⟨⟨by decide +kernel, by decide +kernel⟩, List.mem_of_getElem? (i := 795) (by decide +kernel), List.mem_of_getElem? (i := 1073) (by decide +kernel), List.mem_of_getElem? (i := 1074) (by decide +kernel)⟩
theorem lw_p60 : lw_okq (⟨"SevenInTheHayModel", "asks", "(III)I"⟩, 41) := ⟨⟨by decide +kernel, by decide +kernel⟩, List.mem_of_getElem? (i := 795) (by decide +kernel), List.mem_of_getElem? (i := 1077) (by decide +kernel), List.mem_of_getElem? (i := 1078) (by decide +kernel)⟩
theorem lw_p61 : lw_okq (⟨"SevenInTheHayModel", "paysOf", "(II)I"⟩, 41) := ⟨⟨by decide +kernel, by decide +kernel⟩, List.mem_of_getElem? (i := 795) (by decide +kernel), List.mem_of_getElem? (i := 1084) (by decide +kernel), List.mem_of_getElem? (i := 1085) (by decide +kernel)⟩
theorem lw_p62 : lw_okq (⟨"SevenInTheHayModel", "wraps", "(I)I"⟩, 41) := ⟨⟨by decide +kernel, by decide +kernel⟩, List.mem_of_getElem? (i := 795) (by decide +kernel), List.mem_of_getElem? (i := 1088) (by decide +kernel), List.mem_of_getElem? (i := 1089) (by decide +kernel)⟩
theorem lw_p63 : lw_okq (⟨"SevenInTheHayModel", "firstFrom", "(II)I"⟩, 41) := ⟨⟨by decide +kernel, by decide +kernel⟩, List.mem_of_getElem? (i := 795) (by decide +kernel), List.mem_of_getElem? (i := 1092) (by decide +kernel), List.mem_of_getElem? (i := 1093) (by decide +kernel)⟩
def lw_privs_4 : List (MethodName × Nat) := [(⟨"SevenInTheHayModel", "fail", "()V"⟩, 41), (⟨"SevenInTheHayModel", "either", "()I"⟩, 41), (⟨"SevenInTheHayModel", "both", "()I"⟩, 41), (⟨"SevenInTheHayModel", "not", "()I"⟩, 41), (⟨"SevenInTheHayModel", "opens", "()Z"⟩, 41), (⟨"SevenInTheHayModel", "added", "()I"⟩, 41), (⟨"SevenInTheHayModel", "term", "()I"⟩, 41), (⟨"SevenInTheHayModel", "atom", "()I"⟩, 41), (⟨"SevenInTheHayModel", "isSign", "(I)Z"⟩, 41), (⟨"SevenInTheHayModel", "name", "()I"⟩, 41), (⟨"SevenInTheHayModel", "goes", "(I)V"⟩, 41), (⟨"SevenInTheHayModel", "turns", "(II)V"⟩, 41), (⟨"SevenInTheHayModel", "asks", "(III)I"⟩, 41), (⟨"SevenInTheHayModel", "paysOf", "(II)I"⟩, 41), (⟨"SevenInTheHayModel", "wraps", "(I)I"⟩, 41), (⟨"SevenInTheHayModel", "firstFrom", "(II)I"⟩, 41)]
theorem lw_r4 : ∀ q ∈ lw_privs_4, lw_okq q := List.forall_mem_cons.mpr ⟨lw_p48, List.forall_mem_cons.mpr ⟨lw_p49, List.forall_mem_cons.mpr ⟨lw_p50, List.forall_mem_cons.mpr ⟨lw_p51, List.forall_mem_cons.mpr ⟨lw_p52, List.forall_mem_cons.mpr ⟨lw_p53, List.forall_mem_cons.mpr ⟨lw_p54, List.forall_mem_cons.mpr ⟨lw_p55, List.forall_mem_cons.mpr ⟨lw_p56, List.forall_mem_cons.mpr ⟨lw_p57, List.forall_mem_cons.mpr ⟨lw_p58, List.forall_mem_cons.mpr ⟨lw_p59, List.forall_mem_cons.mpr ⟨lw_p60, List.forall_mem_cons.mpr ⟨lw_p61, List.forall_mem_cons.mpr ⟨lw_p62, List.forall_mem_cons.mpr ⟨lw_p63, fun _ h => absurd h List.not_mem_nil⟩⟩⟩⟩⟩⟩⟩⟩⟩⟩⟩⟩⟩⟩⟩⟩
theorem lw_p64 : lw_okq (⟨"SevenInTheHayModel", "laysFrom", "(III)V"⟩, 41) := ⟨⟨by decide +kernel, by decide +kernel⟩, List.mem_of_getElem? (i := 795) (by decide +kernel), List.mem_of_getElem? (i := 1120) (by decide +kernel), List.mem_of_getElem? (i := 1121) (by decide +kernel)⟩
theorem lw_p65 : lw_okq (⟨"SevenInTheHayModel", "isRow", "(I)Z"⟩, 41) := ⟨⟨by decide +kernel, by decide +kernel⟩, List.mem_of_getElem? (i := 795) (by decide +kernel), List.mem_of_getElem? (i := 1134) (by decide +kernel), List.mem_of_getElem? (i := 1135) (by decide +kernel)⟩
theorem lw_p66 : lw_okq (⟨"SevenInTheHayModel", "firstOther", "(I)I"⟩, 41) := ⟨⟨by decide +kernel, by decide +kernel⟩, List.mem_of_getElem? (i := 795) (by decide +kernel), List.mem_of_getElem? (i := 1139) (by decide +kernel), List.mem_of_getElem? (i := 1140) (by decide +kernel)⟩
theorem lw_p67 : lw_okq (⟨"SevenInTheHayModel", "startsOf", "(I)I"⟩, 41) := ⟨⟨by decide +kernel, by decide +kernel⟩, List.mem_of_getElem? (i := 795) (by decide +kernel), List.mem_of_getElem? (i := 1143) (by decide +kernel), List.mem_of_getElem? (i := 1144) (by decide +kernel)⟩
theorem lw_p68 : lw_okq (⟨"SevenInTheHayModel", "draws", "(I)V"⟩, 41) := ⟨⟨by decide +kernel, by decide +kernel⟩, List.mem_of_getElem? (i := 795) (by decide +kernel), List.mem_of_getElem? (i := 1160) (by decide +kernel), List.mem_of_getElem? (i := 1161) (by decide +kernel)⟩
def lw_privs_5 : List (MethodName × Nat) := [(⟨"SevenInTheHayModel", "laysFrom", "(III)V"⟩, 41), (⟨"SevenInTheHayModel", "isRow", "(I)Z"⟩, 41), (⟨"SevenInTheHayModel", "firstOther", "(I)I"⟩, 41), (⟨"SevenInTheHayModel", "startsOf", "(I)I"⟩, 41), (⟨"SevenInTheHayModel", "draws", "(I)V"⟩, 41)]
theorem lw_r5 : ∀ q ∈ lw_privs_5, lw_okq q := List.forall_mem_cons.mpr ⟨lw_p64, List.forall_mem_cons.mpr ⟨lw_p65, List.forall_mem_cons.mpr ⟨lw_p66, List.forall_mem_cons.mpr ⟨lw_p67, List.forall_mem_cons.mpr ⟨lw_p68, fun _ h => absurd h List.not_mem_nil⟩⟩⟩⟩⟩
def lw_privs : List (MethodName × Nat) := lw_privs_1 ++ (lw_privs_2 ++ (lw_privs_3 ++ (lw_privs_4 ++ (lw_privs_5))))
def lw_tbl : List Cond := k2_sels lw_privs ++ tables_1
theorem lw_privs_ok : ∀ q ∈ lw_privs, lw_okq q := by
  show ∀ q ∈ lw_privs_1 ++ (lw_privs_2 ++ (lw_privs_3 ++ (lw_privs_4 ++ (lw_privs_5)))), lw_okq q
  exact List.forall_mem_append.mpr ⟨lw_r1, List.forall_mem_append.mpr ⟨lw_r2, List.forall_mem_append.mpr ⟨lw_r3, List.forall_mem_append.mpr ⟨lw_r4, lw_r5⟩⟩⟩⟩
-- ===== names of the program
def RX0 : String := "SevenInTheHay$Order"
def TX0 : u_T := fun k => match k with
  | 0 => ("SevenInTheHay$Order", "row", "[I", true)
  | _ => ("SevenInTheHay$Order", "size", "I", false)
def tyX0 : Nat → FieldType := fun k => match k with
  | 0 => .array .int
  | _ => .int
abbrev wsX00 : List Cond := u_ws RX0 TX0 2
theorem nmX0 : ∀ a, a < 2 → ∀ b, b < 2 → a ≠ b → (TX0 a).2.1 ≠ (TX0 b).2.1 := by decide +kernel
theorem tyX0_ok : ∀ k, k < 2 → parseFieldDescriptor (TX0 k).2.2.1 = some (tyX0 k) := by decide +kernel
abbrev cX0_init : ByteArray := prog_2_method_1_code
def yX0_init : MethodName := ⟨RX0, "<init>", "()V"⟩
abbrev cX0_begin : ByteArray := prog_2_method_2_code
def yX0_begin : MethodName := ⟨RX0, "begin", "(I)V"⟩
abbrev cX0_at : ByteArray := prog_2_method_3_code
def yX0_at : MethodName := ⟨RX0, "at", "(I)I"⟩
abbrev cX0_goOn : ByteArray := prog_2_method_4_code
def yX0_goOn : MethodName := ⟨RX0, "goOn", "()Z"⟩
abbrev cX0_digits : ByteArray := prog_2_method_5_code
def yX0_digits : MethodName := ⟨RX0, "digits", "()I"⟩
abbrev cX0_exchange : ByteArray := prog_2_method_6_code
def yX0_exchange : MethodName := ⟨RX0, "exchange", "(II)V"⟩
def RX1 : String := "SevenInTheHay$Reader"
def TX1 : u_T := fun k => match k with
  | 0 => ("SevenInTheHay$Reader", "tape", "[I", true)
  | 1 => ("SevenInTheHay$Reader", "waiting", "[I", true)
  | 2 => ("SevenInTheHay$Reader", "size", "I", false)
  | 3 => ("SevenInTheHay$Reader", "at", "I", false)
  | 4 => ("SevenInTheHay$Reader", "token", "I", false)
  | 5 => ("SevenInTheHay$Reader", "tokenAt", "I", false)
  | 6 => ("SevenInTheHay$Reader", "value", "I", false)
  | 7 => ("SevenInTheHay$Reader", "height", "I", false)
  | 8 => ("SevenInTheHay$Reader", "open", "I", false)
  | _ => ("SevenInTheHay$Reader", "wantsOne", "Z", false)
def tyX1 : Nat → FieldType := fun k => match k with
  | 0 => .array .int
  | 1 => .array .int
  | 2 => .int
  | 3 => .int
  | 4 => .int
  | 5 => .int
  | 6 => .int
  | 7 => .int
  | 8 => .int
  | _ => .boolean
abbrev wsX10 : List Cond := u_ws RX1 TX1 10
theorem nmX1 : ∀ a, a < 10 → ∀ b, b < 10 → a ≠ b → (TX1 a).2.1 ≠ (TX1 b).2.1 := by decide +kernel
theorem tyX1_ok : ∀ k, k < 10 → parseFieldDescriptor (TX1 k).2.2.1 = some (tyX1 k) := by decide +kernel
abbrev cX1_init : ByteArray := prog_3_method_1_code
def yX1_init : MethodName := ⟨RX1, "<init>", "()V"⟩
abbrev cX1_size : ByteArray := prog_3_method_2_code
def yX1_size : MethodName := ⟨RX1, "size", "()I"⟩
abbrev cX1_isFull : ByteArray := prog_3_method_3_code
def yX1_isFull : MethodName := ⟨RX1, "isFull", "()Z"⟩
abbrev cX1_add : ByteArray := prog_3_method_4_code
def yX1_add : MethodName := ⟨RX1, "add", "(I)I"⟩
abbrev cX1_read : ByteArray := prog_3_method_5_code
def yX1_read : MethodName := ⟨RX1, "read", "(LSevenInTheHay$Text;)I"⟩
abbrev cX1_readPart : ByteArray := prog_3_method_6_code
def yX1_readPart : MethodName := ⟨RX1, "readPart", "(LSevenInTheHay$Text;I)I"⟩
abbrev cX1_begins : ByteArray := prog_3_method_7_code
def yX1_begins : MethodName := ⟨RX1, "begins", "(LSevenInTheHay$Text;)Z"⟩
abbrev cX1_goesOn : ByteArray := prog_3_method_8_code
def yX1_goesOn : MethodName := ⟨RX1, "goesOn", "(LSevenInTheHay$Text;)Z"⟩
abbrev cX1_closes : ByteArray := prog_3_method_9_code
def yX1_closes : MethodName := ⟨RX1, "closes", "()Z"⟩
abbrev cX1_openingAtHand : ByteArray := prog_3_method_10_code
def yX1_openingAtHand : MethodName := ⟨RX1, "openingAtHand", "()I"⟩
abbrev cX1_operationAtHand : ByteArray := prog_3_method_11_code
def yX1_operationAtHand : MethodName := ⟨RX1, "operationAtHand", "()I"⟩
abbrev cX1_top : ByteArray := prog_3_method_12_code
def yX1_top : MethodName := ⟨RX1, "top", "()I"⟩
abbrev cX1_await : ByteArray := prog_3_method_13_code
def yX1_await : MethodName := ⟨RX1, "await", "(I)V"⟩
abbrev cX1_workOff : ByteArray := prog_3_method_14_code
def yX1_workOff : MethodName := ⟨RX1, "workOff", "(LSevenInTheHay$Text;I)V"⟩
abbrev cX1_nextToken : ByteArray := prog_3_method_15_code
def yX1_nextToken : MethodName := ⟨RX1, "nextToken", "()V"⟩
abbrev cX1_readWord : ByteArray := prog_3_method_16_code
def yX1_readWord : MethodName := ⟨RX1, "readWord", "()V"⟩
abbrev cX1_isWord : ByteArray := prog_3_method_17_code
def yX1_isWord : MethodName := ⟨RX1, "isWord", "(I)Z"⟩
abbrev cX1_readNumber : ByteArray := prog_3_method_18_code
def yX1_readNumber : MethodName := ⟨RX1, "readNumber", "()V"⟩
abbrev cX1_byteAt : ByteArray := prog_3_method_19_code
def yX1_byteAt : MethodName := ⟨RX1, "byteAt", "(I)I"⟩
abbrev cX1_isLetter : ByteArray := prog_3_method_20_code
def yX1_isLetter : MethodName := ⟨RX1, "isLetter", "(I)Z"⟩
abbrev cX1_isDigit : ByteArray := prog_3_method_21_code
def yX1_isDigit : MethodName := ⟨RX1, "isDigit", "(I)Z"⟩
def RX2 : String := "SevenInTheHay$Ring"
def TX2 : u_T := fun k => match k with
  | 0 => ("SevenInTheHay$Ring", "row", "[I", true)
  | _ => ("SevenInTheHay$Ring", "size", "I", false)
def tyX2 : Nat → FieldType := fun k => match k with
  | 0 => .array .int
  | _ => .int
abbrev wsX20 : List Cond := u_ws RX2 TX2 2
theorem nmX2 : ∀ a, a < 2 → ∀ b, b < 2 → a ≠ b → (TX2 a).2.1 ≠ (TX2 b).2.1 := by decide +kernel
theorem tyX2_ok : ∀ k, k < 2 → parseFieldDescriptor (TX2 k).2.2.1 = some (tyX2 k) := by decide +kernel
abbrev cX2_init : ByteArray := prog_4_method_1_code
def yX2_init : MethodName := ⟨RX2, "<init>", "()V"⟩
abbrev cX2_size : ByteArray := prog_4_method_2_code
def yX2_size : MethodName := ⟨RX2, "size", "()I"⟩
abbrev cX2_isFull : ByteArray := prog_4_method_3_code
def yX2_isFull : MethodName := ⟨RX2, "isFull", "()Z"⟩
abbrev cX2_has : ByteArray := prog_4_method_4_code
def yX2_has : MethodName := ⟨RX2, "has", "(I)Z"⟩
abbrev cX2_at : ByteArray := prog_4_method_5_code
def yX2_at : MethodName := ⟨RX2, "at", "(I)I"⟩
abbrev cX2_kindAt : ByteArray := prog_4_method_6_code
def yX2_kindAt : MethodName := ⟨RX2, "kindAt", "(I)I"⟩
abbrev cX2_numberAt : ByteArray := prog_4_method_7_code
def yX2_numberAt : MethodName := ⟨RX2, "numberAt", "(I)I"⟩
abbrev cX2_put : ByteArray := prog_4_method_8_code
def yX2_put : MethodName := ⟨RX2, "put", "(II)V"⟩
abbrev cX2_add : ByteArray := prog_4_method_9_code
def yX2_add : MethodName := ⟨RX2, "add", "(I)I"⟩
abbrev cX2_dropLast : ByteArray := prog_4_method_10_code
def yX2_dropLast : MethodName := ⟨RX2, "dropLast", "()V"⟩
abbrev cX2_exchange : ByteArray := prog_4_method_11_code
def yX2_exchange : MethodName := ⟨RX2, "exchange", "(II)V"⟩
abbrev cX2_become : ByteArray := prog_4_method_12_code
def yX2_become : MethodName := ⟨RX2, "become", "(LSevenInTheHay$Ring;)V"⟩
abbrev cX2_blocks : ByteArray := prog_4_method_13_code
def yX2_blocks : MethodName := ⟨RX2, "blocks", "(I)Z"⟩
abbrev cX2_points : ByteArray := prog_4_method_14_code
def yX2_points : MethodName := ⟨RX2, "points", "(II)I"⟩
abbrev cX2_pays : ByteArray := prog_4_method_15_code
def yX2_pays : MethodName := ⟨RX2, "pays", "(II)I"⟩
def RX3 : String := "SevenInTheHay$Round"
def TX3 : u_T := fun k => match k with
  | 0 => ("SevenInTheHay$Round", "turned", "[I", true)
  | 1 => ("SevenInTheHay$Round", "names", "[I", true)
  | 2 => ("SevenInTheHay$Round", "stack", "[I", true)
  | 3 => ("SevenInTheHay$Round", "length", "I", false)
  | 4 => ("SevenInTheHay$Round", "bits", "I", false)
  | _ => ("SevenInTheHay$Round", "end", "I", false)
def tyX3 : Nat → FieldType := fun k => match k with
  | 0 => .array .int
  | 1 => .array .int
  | 2 => .array .int
  | 3 => .int
  | 4 => .int
  | _ => .int
abbrev wsX30 : List Cond := u_ws RX3 TX3 6
theorem nmX3 : ∀ a, a < 6 → ∀ b, b < 6 → a ≠ b → (TX3 a).2.1 ≠ (TX3 b).2.1 := by decide +kernel
theorem tyX3_ok : ∀ k, k < 6 → parseFieldDescriptor (TX3 k).2.2.1 = some (tyX3 k) := by decide +kernel
abbrev cX3_init : ByteArray := prog_5_method_1_code
def yX3_init : MethodName := ⟨RX3, "<init>", "()V"⟩
abbrev cX3_length : ByteArray := prog_5_method_2_code
def yX3_length : MethodName := ⟨RX3, "length", "()I"⟩
abbrev cX3_bits : ByteArray := prog_5_method_3_code
def yX3_bits : MethodName := ⟨RX3, "bits", "()I"⟩
abbrev cX3_end : ByteArray := prog_5_method_4_code
def yX3_end : MethodName := ⟨RX3, "end", "()I"⟩
abbrev cX3_turnedAt : ByteArray := prog_5_method_5_code
def yX3_turnedAt : MethodName := ⟨RX3, "turnedAt", "(I)I"⟩
abbrev cX3_last : ByteArray := prog_5_method_6_code
def yX3_last : MethodName := ⟨RX3, "last", "()I"⟩
abbrev cX3_play : ByteArray := prog_5_method_7_code
def yX3_play : MethodName := ⟨RX3, "play", "(LSevenInTheHay$Ring;ILSevenInTheHay$Text;)V"⟩
abbrev cX3_worth : ByteArray := prog_5_method_8_code
def yX3_worth : MethodName := ⟨RX3, "worth", "(LSevenInTheHay$Ring;LSevenInTheHay$Text;)I"⟩
abbrev cX3_turn : ByteArray := prog_5_method_9_code
def yX3_turn : MethodName := ⟨RX3, "turn", "(I)V"⟩
abbrev cX3_isTurned : ByteArray := prog_5_method_10_code
def yX3_isTurned : MethodName := ⟨RX3, "isTurned", "(I)Z"⟩
abbrev cX3_before : ByteArray := prog_5_method_11_code
def yX3_before : MethodName := ⟨RX3, "before", "(I)I"⟩
abbrev cX3_further : ByteArray := prog_5_method_12_code
def yX3_further : MethodName := ⟨RX3, "further", "(LSevenInTheHay$Text;)I"⟩
abbrev cX3_nextPlace : ByteArray := prog_5_method_13_code
def yX3_nextPlace : MethodName := ⟨RX3, "nextPlace", "(IILSevenInTheHay$Text;)I"⟩
abbrev cX3_nameStep : ByteArray := prog_5_method_14_code
def yX3_nameStep : MethodName := ⟨RX3, "nameStep", "(LSevenInTheHay$Ring;I)V"⟩
abbrev cX3_name : ByteArray := prog_5_method_15_code
def yX3_name : MethodName := ⟨RX3, "name", "(II)V"⟩
abbrev cX3_within : ByteArray := prog_5_method_16_code
def yX3_within : MethodName := ⟨RX3, "within", "(III)I"⟩
def RX4 : String := "SevenInTheHay$Sheet"
def TX4 : u_T := fun k => match k with
  | 0 => ("SevenInTheHay$Sheet", "items", "[I", true)
  | 1 => ("SevenInTheHay$Sheet", "sort", "I", false)
  | _ => ("SevenInTheHay$Sheet", "size", "I", false)
def tyX4 : Nat → FieldType := fun k => match k with
  | 0 => .array .int
  | 1 => .int
  | _ => .int
abbrev wsX40 : List Cond := u_ws RX4 TX4 3
theorem nmX4 : ∀ a, a < 3 → ∀ b, b < 3 → a ≠ b → (TX4 a).2.1 ≠ (TX4 b).2.1 := by decide +kernel
theorem tyX4_ok : ∀ k, k < 3 → parseFieldDescriptor (TX4 k).2.2.1 = some (tyX4 k) := by decide +kernel
abbrev cX4_init : ByteArray := prog_6_method_1_code
def yX4_init : MethodName := ⟨RX4, "<init>", "()V"⟩
abbrev cX4_sort : ByteArray := prog_6_method_2_code
def yX4_sort : MethodName := ⟨RX4, "sort", "()I"⟩
abbrev cX4_size : ByteArray := prog_6_method_3_code
def yX4_size : MethodName := ⟨RX4, "size", "()I"⟩
abbrev cX4_isMissing : ByteArray := prog_6_method_4_code
def yX4_isMissing : MethodName := ⟨RX4, "isMissing", "()Z"⟩
abbrev cX4_become : ByteArray := prog_6_method_5_code
def yX4_become : MethodName := ⟨RX4, "become", "(II)V"⟩
abbrev cX4_has : ByteArray := prog_6_method_6_code
def yX4_has : MethodName := ⟨RX4, "has", "(I)Z"⟩
abbrev cX4_hasRow : ByteArray := prog_6_method_7_code
def yX4_hasRow : MethodName := ⟨RX4, "hasRow", "(II)Z"⟩
abbrev cX4_at : ByteArray := prog_6_method_8_code
def yX4_at : MethodName := ⟨RX4, "at", "(I)I"⟩
abbrev cX4_set : ByteArray := prog_6_method_9_code
def yX4_set : MethodName := ⟨RX4, "set", "(II)V"⟩
abbrev cX4_takeRow : ByteArray := prog_6_method_10_code
def yX4_takeRow : MethodName := ⟨RX4, "takeRow", "(ILSevenInTheHay$Sheet;II)V"⟩
def RX5 : String := "SevenInTheHay$Text"
def TX5 : u_T := fun k => match k with
  | 0 => ("SevenInTheHay$Text", "code", "[I", true)
  | 1 => ("SevenInTheHay$Text", "ends", "[I", true)
  | _ => ("SevenInTheHay$Text", "length", "I", false)
def tyX5 : Nat → FieldType := fun k => match k with
  | 0 => .array .int
  | 1 => .array .int
  | _ => .int
abbrev wsX50 : List Cond := u_ws RX5 TX5 3
theorem nmX5 : ∀ a, a < 3 → ∀ b, b < 3 → a ≠ b → (TX5 a).2.1 ≠ (TX5 b).2.1 := by decide +kernel
theorem tyX5_ok : ∀ k, k < 3 → parseFieldDescriptor (TX5 k).2.2.1 = some (tyX5 k) := by decide +kernel
abbrev cX5_init : ByteArray := prog_7_method_1_code
def yX5_init : MethodName := ⟨RX5, "<init>", "()V"⟩
abbrev cX5_clear : ByteArray := prog_7_method_2_code
def yX5_clear : MethodName := ⟨RX5, "clear", "()V"⟩
abbrev cX5_add : ByteArray := prog_7_method_3_code
def yX5_add : MethodName := ⟨RX5, "add", "(I)V"⟩
abbrev cX5_endPart : ByteArray := prog_7_method_4_code
def yX5_endPart : MethodName := ⟨RX5, "endPart", "(I)V"⟩
abbrev cX5_tell : ByteArray := prog_7_method_5_code
def yX5_tell : MethodName := ⟨RX5, "tell", "(I[I[I)I"⟩
abbrev cX5_endOf : ByteArray := prog_7_method_6_code
def yX5_endOf : MethodName := ⟨RX5, "endOf", "(I)I"⟩
abbrev cX5_operand : ByteArray := prog_7_method_7_code
def yX5_operand : MethodName := ⟨RX5, "operand", "(I[I)I"⟩
abbrev cX5_single : ByteArray := prog_7_method_8_code
def yX5_single : MethodName := ⟨RX5, "single", "(II)I"⟩
abbrev cX5_both : ByteArray := prog_7_method_9_code
def yX5_both : MethodName := ⟨RX5, "both", "(III)I"⟩
abbrev cX5_bit : ByteArray := prog_7_method_10_code
def yX5_bit : MethodName := ⟨RX5, "bit", "(Z)I"⟩
def RX6 : String := "SevenInTheHay"
def TX6 : u_T := fun k => match k with
  | 0 => ("SevenInTheHay", "ring", "LSevenInTheHay$Ring;", true)
  | 1 => ("SevenInTheHay", "trial", "LSevenInTheHay$Ring;", true)
  | 2 => ("SevenInTheHay", "image", "LSevenInTheHay$Ring;", true)
  | 3 => ("SevenInTheHay", "played", "LSevenInTheHay$Round;", true)
  | 4 => ("SevenInTheHay", "order", "LSevenInTheHay$Order;", true)
  | 5 => ("SevenInTheHay", "reader", "LSevenInTheHay$Reader;", true)
  | 6 => ("SevenInTheHay", "texts", "[LSevenInTheHay$Text;", true)
  | 7 => ("SevenInTheHay", "sheets", "[LSevenInTheHay$Sheet;", true)
  | 8 => ("SevenInTheHay", "textCount", "I", false)
  | 9 => ("SevenInTheHay", "rule", "I", false)
  | 10 => ("SevenInTheHay", "hasImage", "Z", false)
  | _ => ("SevenInTheHay", "imageRule", "I", false)
def tyX6 : Nat → FieldType := fun k => match k with
  | 0 => .object "SevenInTheHay$Ring"
  | 1 => .object "SevenInTheHay$Ring"
  | 2 => .object "SevenInTheHay$Ring"
  | 3 => .object "SevenInTheHay$Round"
  | 4 => .object "SevenInTheHay$Order"
  | 5 => .object "SevenInTheHay$Reader"
  | 6 => .array (.object "SevenInTheHay$Text")
  | 7 => .array (.object "SevenInTheHay$Sheet")
  | 8 => .int
  | 9 => .int
  | 10 => .boolean
  | _ => .int
abbrev wsX60 : List Cond := u_ws RX6 TX6 12
theorem nmX6 : ∀ a, a < 12 → ∀ b, b < 12 → a ≠ b → (TX6 a).2.1 ≠ (TX6 b).2.1 := by decide +kernel
theorem tyX6_ok : ∀ k, k < 12 → parseFieldDescriptor (TX6 k).2.2.1 = some (tyX6 k) := by decide +kernel
abbrev cX6_init : ByteArray := prog_1_method_1_code
def yX6_init : MethodName := ⟨RX6, "<init>", "()V"⟩
abbrev cX6_card : ByteArray := prog_1_method_2_code
def yX6_card : MethodName := ⟨RX6, "card", "(II)I"⟩
abbrev cX6_lay : ByteArray := prog_1_method_3_code
def yX6_lay : MethodName := ⟨RX6, "lay", "(III)I"⟩
abbrev cX6_takeUp : ByteArray := prog_1_method_4_code
def yX6_takeUp : MethodName := ⟨RX6, "takeUp", "()I"⟩
abbrev cX6_swap : ByteArray := prog_1_method_5_code
def yX6_swap : MethodName := ⟨RX6, "swap", "(II)I"⟩
abbrev cX6_told : ByteArray := prog_1_method_6_code
def yX6_told : MethodName := ⟨RX6, "told", "(II)I"⟩
abbrev cX6_feed : ByteArray := prog_1_method_7_code
def yX6_feed : MethodName := ⟨RX6, "feed", "(I)I"⟩
abbrev cX6_text : ByteArray := prog_1_method_8_code
def yX6_text : MethodName := ⟨RX6, "text", "()I"⟩
abbrev cX6_force : ByteArray := prog_1_method_9_code
def yX6_force : MethodName := ⟨RX6, "force", "(I)I"⟩
abbrev cX6_round : ByteArray := prog_1_method_10_code
def yX6_round : MethodName := ⟨RX6, "round", "(II)I"⟩
abbrev cX6_harvests : ByteArray := prog_1_method_11_code
def yX6_harvests : MethodName := ⟨RX6, "harvests", "()I"⟩
abbrev cX6_best : ByteArray := prog_1_method_12_code
def yX6_best : MethodName := ⟨RX6, "best", "(I)I"⟩
abbrev cX6_change : ByteArray := prog_1_method_13_code
def yX6_change : MethodName := ⟨RX6, "change", "(II)I"⟩
abbrev cX6_anew : ByteArray := prog_1_method_14_code
def yX6_anew : MethodName := ⟨RX6, "anew", "(III)I"⟩
abbrev cX6_hay : ByteArray := prog_1_method_15_code
def yX6_hay : MethodName := ⟨RX6, "hay", "(II)I"⟩
abbrev cX6_layings : ByteArray := prog_1_method_16_code
def yX6_layings : MethodName := ⟨RX6, "layings", "(I)I"⟩
abbrev cX6_tells : ByteArray := prog_1_method_17_code
def yX6_tells : MethodName := ⟨RX6, "tells", "(II)I"⟩
abbrev cX6_film : ByteArray := prog_1_method_18_code
def yX6_film : MethodName := ⟨RX6, "film", "(II)I"⟩
abbrev cX6_drawn : ByteArray := prog_1_method_19_code
def yX6_drawn : MethodName := ⟨RX6, "drawn", "(I)I"⟩
abbrev cX6_chance : ByteArray := prog_1_method_20_code
def yX6_chance : MethodName := ⟨RX6, "chance", "(III)J"⟩
abbrev cX6_image : ByteArray := prog_1_method_21_code
def yX6_image : MethodName := ⟨RX6, "image", "()I"⟩
abbrev cX6_back : ByteArray := prog_1_method_22_code
def yX6_back : MethodName := ⟨RX6, "back", "()I"⟩
abbrev cX6_count : ByteArray := prog_1_method_23_code
def yX6_count : MethodName := ⟨RX6, "count", "(I)I"⟩
abbrev cX6_sheet : ByteArray := prog_1_method_24_code
def yX6_sheet : MethodName := ⟨RX6, "sheet", "(III)I"⟩
abbrev cX6_cell : ByteArray := prog_1_method_25_code
def yX6_cell : MethodName := ⟨RX6, "cell", "(III)I"⟩
abbrev cX6_copy : ByteArray := prog_1_method_26_code
def yX6_copy : MethodName := ⟨RX6, "copy", "(IIIII)I"⟩
abbrev cX6_cards : ByteArray := prog_1_method_27_code
def yX6_cards : MethodName := ⟨RX6, "cards", "(IIII)I"⟩
abbrev cX6_taken : ByteArray := prog_1_method_28_code
def yX6_taken : MethodName := ⟨RX6, "taken", "(II)I"⟩
abbrev cX6_isCard : ByteArray := prog_1_method_29_code
def yX6_isCard : MethodName := ⟨RX6, "isCard", "(II)Z"⟩
abbrev cX6_cardOf : ByteArray := prog_1_method_30_code
def yX6_cardOf : MethodName := ⟨RX6, "cardOf", "(II)I"⟩
abbrev cX6_isUnder : ByteArray := prog_1_method_31_code
def yX6_isUnder : MethodName := ⟨RX6, "isUnder", "(II)Z"⟩
abbrev cX6_isFirstOrSecond : ByteArray := prog_1_method_32_code
def yX6_isFirstOrSecond : MethodName := ⟨RX6, "isFirstOrSecond", "(I)Z"⟩
abbrev cX6_isSort : ByteArray := prog_1_method_33_code
def yX6_isSort : MethodName := ⟨RX6, "isSort", "(I)Z"⟩
abbrev cX6_commonDivisor : ByteArray := prog_1_method_34_code
def yX6_commonDivisor : MethodName := ⟨RX6, "commonDivisor", "(II)I"⟩
abbrev cX6_textAt : ByteArray := prog_1_method_35_code
def yX6_textAt : MethodName := ⟨RX6, "textAt", "(I)LSevenInTheHay$Text;"⟩
abbrev cX6_sheetAt : ByteArray := prog_1_method_36_code
def yX6_sheetAt : MethodName := ⟨RX6, "sheetAt", "(I)LSevenInTheHay$Sheet;"⟩
abbrev cX6_lengthOf : ByteArray := prog_1_method_37_code
def yX6_lengthOf : MethodName := ⟨RX6, "lengthOf", "(LSevenInTheHay$Ring;I)I"⟩
abbrev cX6_isHarvest : ByteArray := prog_1_method_38_code
def yX6_isHarvest : MethodName := ⟨RX6, "isHarvest", "(LSevenInTheHay$Ring;I)Z"⟩
abbrev cX6_layInOrder : ByteArray := prog_1_method_39_code
def yX6_layInOrder : MethodName := ⟨RX6, "layInOrder", "()V"⟩
abbrev cX6_draw : ByteArray := prog_1_method_40_code
def yX6_draw : MethodName := ⟨RX6, "draw", "(I)V"⟩
abbrev cX6_asksOfTold : ByteArray := prog_1_method_41_code
def yX6_asksOfTold : MethodName := ⟨RX6, "asksOfTold", "(I)Z"⟩
abbrev cX6_tellsPlaces : ByteArray := prog_1_method_42_code
def yX6_tellsPlaces : MethodName := ⟨RX6, "tellsPlaces", "(LSevenInTheHay$Sheet;)Z"⟩
abbrev cX6_otherwise : ByteArray := prog_1_method_43_code
def yX6_otherwise : MethodName := ⟨RX6, "otherwise", "(LSevenInTheHay$Sheet;LSevenInTheHay$Ring;LSevenInTheHay$Text;)I"⟩
abbrev cX6_startsOf : ByteArray := prog_1_method_44_code
def yX6_startsOf : MethodName := ⟨RX6, "startsOf", "(LSevenInTheHay$Sheet;)I"⟩
abbrev cX6_textsOf : ByteArray := prog_1_method_45_code
def yX6_textsOf : MethodName := ⟨RX6, "textsOf", "(LSevenInTheHay$Sheet;)I"⟩
abbrev cX6_kindsOf : ByteArray := prog_1_method_46_code
def yX6_kindsOf : MethodName := ⟨RX6, "kindsOf", "(LSevenInTheHay$Sheet;I)I"⟩
abbrev cX6_numbersOf : ByteArray := prog_1_method_47_code
def yX6_numbersOf : MethodName := ⟨RX6, "numbersOf", "(LSevenInTheHay$Sheet;I)I"⟩
def RX7 : String := "SevenInTheHayModel"
def TX7 : u_T := fun k => match k with
  | 0 => ("SevenInTheHayModel", "thrown", "I", false)
  | 1 => ("SevenInTheHayModel", "texts", "[I", true)
  | 2 => ("SevenInTheHayModel", "textSize", "[I", true)
  | 3 => ("SevenInTheHayModel", "textCount", "I", false)
  | 4 => ("SevenInTheHayModel", "rule", "I", false)
  | 5 => ("SevenInTheHayModel", "tape", "[I", true)
  | 6 => ("SevenInTheHayModel", "taped", "I", false)
  | 7 => ("SevenInTheHayModel", "kinds", "[I", true)
  | 8 => ("SevenInTheHayModel", "numbers", "[I", true)
  | 9 => ("SevenInTheHayModel", "many", "I", false)
  | 10 => ("SevenInTheHayModel", "ofPlace", "I", false)
  | 11 => ("SevenInTheHayModel", "ofFrom", "I", false)
  | 12 => ("SevenInTheHayModel", "ofStep", "I", false)
  | 13 => ("SevenInTheHayModel", "ofNumber", "I", false)
  | 14 => ("SevenInTheHayModel", "ofLeft", "I", false)
  | 15 => ("SevenInTheHayModel", "ofAll", "I", false)
  | 16 => ("SevenInTheHayModel", "from", "I", false)
  | 17 => ("SevenInTheHayModel", "size", "I", false)
  | 18 => ("SevenInTheHayModel", "here", "I", false)
  | 19 => ("SevenInTheHayModel", "token", "I", false)
  | 20 => ("SevenInTheHayModel", "tokenAt", "I", false)
  | 21 => ("SevenInTheHayModel", "tokenWorth", "J", false)
  | 22 => ("SevenInTheHayModel", "open", "I", false)
  | 23 => ("SevenInTheHayModel", "bad", "Z", false)
  | 24 => ("SevenInTheHayModel", "fault", "I", false)
  | 25 => ("SevenInTheHayModel", "path", "[I", true)
  | 26 => ("SevenInTheHayModel", "length", "I", false)
  | 27 => ("SevenInTheHayModel", "turned", "I", false)
  | 28 => ("SevenInTheHayModel", "worth", "I", false)
  | 29 => ("SevenInTheHayModel", "end", "I", false)
  | 30 => ("SevenInTheHayModel", "codes", "[I", true)
  | 31 => ("SevenInTheHayModel", "layingMany", "I", false)
  | 32 => ("SevenInTheHayModel", "layingFirst", "I", false)
  | 33 => ("SevenInTheHayModel", "wasRow", "[I", true)
  | 34 => ("SevenInTheHayModel", "codesKept", "[I", true)
  | 35 => ("SevenInTheHayModel", "manyKept", "I", false)
  | 36 => ("SevenInTheHayModel", "ruleKept", "I", false)
  | 37 => ("SevenInTheHayModel", "isThere", "[Z", true)
  | 38 => ("SevenInTheHayModel", "sorts", "[I", true)
  | 39 => ("SevenInTheHayModel", "sheetSize", "[I", true)
  | _ => ("SevenInTheHayModel", "items", "[I", true)
def tyX7 : Nat → FieldType := fun k => match k with
  | 0 => .int
  | 1 => .array .int
  | 2 => .array .int
  | 3 => .int
  | 4 => .int
  | 5 => .array .int
  | 6 => .int
  | 7 => .array .int
  | 8 => .array .int
  | 9 => .int
  | 10 => .int
  | 11 => .int
  | 12 => .int
  | 13 => .int
  | 14 => .int
  | 15 => .int
  | 16 => .int
  | 17 => .int
  | 18 => .int
  | 19 => .int
  | 20 => .int
  | 21 => .long
  | 22 => .int
  | 23 => .boolean
  | 24 => .int
  | 25 => .array .int
  | 26 => .int
  | 27 => .int
  | 28 => .int
  | 29 => .int
  | 30 => .array .int
  | 31 => .int
  | 32 => .int
  | 33 => .array .int
  | 34 => .array .int
  | 35 => .int
  | 36 => .int
  | 37 => .array .boolean
  | 38 => .array .int
  | 39 => .array .int
  | _ => .array .int
abbrev wsX70 : List Cond := u_ws RX7 TX7 41
theorem nmX7 : ∀ a, a < 41 → ∀ b, b < 41 → a ≠ b → (TX7 a).2.1 ≠ (TX7 b).2.1 := by decide +kernel
theorem tyX7_ok : ∀ k, k < 41 → parseFieldDescriptor (TX7 k).2.2.1 = some (tyX7 k) := by decide +kernel
abbrev cX7_in : ByteArray := prog_9_method_2_code
def yX7_in : MethodName := ⟨RX7, "in", "(JJJ)Z"⟩
abbrev cX7_within : ByteArray := prog_9_method_3_code
def yX7_within : MethodName := ⟨RX7, "within", "(III)I"⟩
abbrev cX7_init : ByteArray := prog_9_method_4_code
def yX7_init : MethodName := ⟨RX7, "<init>", "()V"⟩
abbrev cX7_spell : ByteArray := prog_9_method_5_code
def yX7_spell : MethodName := ⟨RX7, "spell", "(IIIIIIIII)V"⟩
abbrev cX7_isPlace : ByteArray := prog_9_method_6_code
def yX7_isPlace : MethodName := ⟨RX7, "isPlace", "(I)Z"⟩
abbrev cX7_isCard : ByteArray := prog_9_method_7_code
def yX7_isCard : MethodName := ⟨RX7, "isCard", "(II)Z"⟩
abbrev cX7_codeOf : ByteArray := prog_9_method_8_code
def yX7_codeOf : MethodName := ⟨RX7, "codeOf", "(I)I"⟩
abbrev cX7_puts : ByteArray := prog_9_method_9_code
def yX7_puts : MethodName := ⟨RX7, "puts", "(II)V"⟩
abbrev cX7_card : ByteArray := prog_9_method_10_code
def yX7_card : MethodName := ⟨RX7, "card", "(II)I"⟩
abbrev cX7_lay : ByteArray := prog_9_method_11_code
def yX7_lay : MethodName := ⟨RX7, "lay", "(III)I"⟩
abbrev cX7_takeUp : ByteArray := prog_9_method_12_code
def yX7_takeUp : MethodName := ⟨RX7, "takeUp", "()I"⟩
abbrev cX7_exchanges : ByteArray := prog_9_method_13_code
def yX7_exchanges : MethodName := ⟨RX7, "exchanges", "(II)V"⟩
abbrev cX7_swap : ByteArray := prog_9_method_14_code
def yX7_swap : MethodName := ⟨RX7, "swap", "(II)I"⟩
abbrev cX7_pointsOf : ByteArray := prog_9_method_15_code
def yX7_pointsOf : MethodName := ⟨RX7, "pointsOf", "(II)I"⟩
abbrev cX7_told : ByteArray := prog_9_method_16_code
def yX7_told : MethodName := ⟨RX7, "told", "(II)I"⟩
abbrev cX7_feed : ByteArray := prog_9_method_17_code
def yX7_feed : MethodName := ⟨RX7, "feed", "(I)I"⟩
abbrev cX7_byteAt : ByteArray := prog_9_method_18_code
def yX7_byteAt : MethodName := ⟨RX7, "byteAt", "(I)I"⟩
abbrev cX7_next : ByteArray := prog_9_method_19_code
def yX7_next : MethodName := ⟨RX7, "next", "()V"⟩
abbrev cX7_fail : ByteArray := prog_9_method_20_code
def yX7_fail : MethodName := ⟨RX7, "fail", "()V"⟩
abbrev cX7_isLetter : ByteArray := prog_9_method_21_code
def yX7_isLetter : MethodName := ⟨RX7, "isLetter", "(II)Z"⟩
abbrev cX7_isWord : ByteArray := prog_9_method_22_code
def yX7_isWord : MethodName := ⟨RX7, "isWord", "(IIIIIIII)Z"⟩
abbrev cX7_isSign : ByteArray := prog_9_method_23_code
def yX7_isSign : MethodName := ⟨RX7, "isSign", "(I)Z"⟩
abbrev cX7_opens : ByteArray := prog_9_method_24_code
def yX7_opens : MethodName := ⟨RX7, "opens", "()Z"⟩
abbrev cX7_name : ByteArray := prog_9_method_25_code
def yX7_name : MethodName := ⟨RX7, "name", "()I"⟩
abbrev cX7_atom : ByteArray := prog_9_method_26_code
def yX7_atom : MethodName := ⟨RX7, "atom", "()I"⟩
abbrev cX7_term : ByteArray := prog_9_method_27_code
def yX7_term : MethodName := ⟨RX7, "term", "()I"⟩
abbrev cX7_added : ByteArray := prog_9_method_28_code
def yX7_added : MethodName := ⟨RX7, "added", "()I"⟩
abbrev cX7_not : ByteArray := prog_9_method_29_code
def yX7_not : MethodName := ⟨RX7, "not", "()I"⟩
abbrev cX7_both : ByteArray := prog_9_method_30_code
def yX7_both : MethodName := ⟨RX7, "both", "()I"⟩
abbrev cX7_either : ByteArray := prog_9_method_31_code
def yX7_either : MethodName := ⟨RX7, "either", "()I"⟩
abbrev cX7_part : ByteArray := prog_9_method_32_code
def yX7_part : MethodName := ⟨RX7, "part", "(Z)I"⟩
abbrev cX7_read : ByteArray := prog_9_method_33_code
def yX7_read : MethodName := ⟨RX7, "read", "(II)I"⟩
abbrev cX7_text : ByteArray := prog_9_method_34_code
def yX7_text : MethodName := ⟨RX7, "text", "()I"⟩
abbrev cX7_force : ByteArray := prog_9_method_35_code
def yX7_force : MethodName := ⟨RX7, "force", "(I)I"⟩
abbrev cX7_asks : ByteArray := prog_9_method_36_code
def yX7_asks : MethodName := ⟨RX7, "asks", "(III)I"⟩
abbrev cX7_paysOf : ByteArray := prog_9_method_37_code
def yX7_paysOf : MethodName := ⟨RX7, "paysOf", "(II)I"⟩
abbrev cX7_turns : ByteArray := prog_9_method_38_code
def yX7_turns : MethodName := ⟨RX7, "turns", "(II)V"⟩
abbrev cX7_wraps : ByteArray := prog_9_method_39_code
def yX7_wraps : MethodName := ⟨RX7, "wraps", "(I)I"⟩
abbrev cX7_firstFrom : ByteArray := prog_9_method_40_code
def yX7_firstFrom : MethodName := ⟨RX7, "firstFrom", "(II)I"⟩
abbrev cX7_goes : ByteArray := prog_9_method_41_code
def yX7_goes : MethodName := ⟨RX7, "goes", "(I)V"⟩
abbrev cX7_round : ByteArray := prog_9_method_42_code
def yX7_round : MethodName := ⟨RX7, "round", "(II)I"⟩
abbrev cX7_harvests : ByteArray := prog_9_method_43_code
def yX7_harvests : MethodName := ⟨RX7, "harvests", "()I"⟩
abbrev cX7_best : ByteArray := prog_9_method_44_code
def yX7_best : MethodName := ⟨RX7, "best", "(I)I"⟩
abbrev cX7_change : ByteArray := prog_9_method_45_code
def yX7_change : MethodName := ⟨RX7, "change", "(II)I"⟩
abbrev cX7_anew : ByteArray := prog_9_method_46_code
def yX7_anew : MethodName := ⟨RX7, "anew", "(III)I"⟩
abbrev cX7_hay : ByteArray := prog_9_method_47_code
def yX7_hay : MethodName := ⟨RX7, "hay", "(II)I"⟩
abbrev cX7_laysFrom : ByteArray := prog_9_method_48_code
def yX7_laysFrom : MethodName := ⟨RX7, "laysFrom", "(III)V"⟩
abbrev cX7_layings : ByteArray := prog_9_method_49_code
def yX7_layings : MethodName := ⟨RX7, "layings", "(I)I"⟩
abbrev cX7_firstOther : ByteArray := prog_9_method_50_code
def yX7_firstOther : MethodName := ⟨RX7, "firstOther", "(I)I"⟩
abbrev cX7_startsOf : ByteArray := prog_9_method_51_code
def yX7_startsOf : MethodName := ⟨RX7, "startsOf", "(I)I"⟩
abbrev cX7_isRow : ByteArray := prog_9_method_52_code
def yX7_isRow : MethodName := ⟨RX7, "isRow", "(I)Z"⟩
abbrev cX7_tells : ByteArray := prog_9_method_53_code
def yX7_tells : MethodName := ⟨RX7, "tells", "(II)I"⟩
abbrev cX7_film : ByteArray := prog_9_method_54_code
def yX7_film : MethodName := ⟨RX7, "film", "(II)I"⟩
abbrev cX7_draws : ByteArray := prog_9_method_55_code
def yX7_draws : MethodName := ⟨RX7, "draws", "(I)V"⟩
abbrev cX7_drawn : ByteArray := prog_9_method_56_code
def yX7_drawn : MethodName := ⟨RX7, "drawn", "(I)I"⟩
abbrev cX7_chance : ByteArray := prog_9_method_57_code
def yX7_chance : MethodName := ⟨RX7, "chance", "(III)J"⟩
abbrev cX7_image : ByteArray := prog_9_method_58_code
def yX7_image : MethodName := ⟨RX7, "image", "()I"⟩
abbrev cX7_back : ByteArray := prog_9_method_59_code
def yX7_back : MethodName := ⟨RX7, "back", "()I"⟩
abbrev cX7_count : ByteArray := prog_9_method_60_code
def yX7_count : MethodName := ⟨RX7, "count", "(I)I"⟩
abbrev cX7_isSheet : ByteArray := prog_9_method_61_code
def yX7_isSheet : MethodName := ⟨RX7, "isSheet", "(I)Z"⟩
abbrev cX7_sheet : ByteArray := prog_9_method_62_code
def yX7_sheet : MethodName := ⟨RX7, "sheet", "(III)I"⟩
abbrev cX7_cell : ByteArray := prog_9_method_63_code
def yX7_cell : MethodName := ⟨RX7, "cell", "(III)I"⟩
abbrev cX7_copy : ByteArray := prog_9_method_64_code
def yX7_copy : MethodName := ⟨RX7, "copy", "(IIIII)I"⟩
abbrev cX7_cards : ByteArray := prog_9_method_65_code
def yX7_cards : MethodName := ⟨RX7, "cards", "(IIII)I"⟩
abbrev cX7_over : ByteArray := prog_9_method_66_code
def yX7_over : MethodName := ⟨RX7, "over", "(I)I"⟩
abbrev cX7_taken : ByteArray := prog_9_method_67_code
def yX7_taken : MethodName := ⟨RX7, "taken", "(II)I"⟩
def RJ9 : String := "java/lang/Math"
def TJ9 : u_T := fun k => match k with
  | _ => ("", "", "", false)
def tyJ9 : Nat → FieldType := fun k => match k with
  | _ => .int
abbrev wsJ90 : List Cond := u_ws RJ9 TJ9 0
theorem nmJ9 : ∀ a, a < 0 → ∀ b, b < 0 → a ≠ b → (TJ9 a).2.1 ≠ (TJ9 b).2.1 := by decide +kernel
theorem tyJ9_ok : ∀ k, k < 0 → parseFieldDescriptor (TJ9 k).2.2.1 = some (tyJ9 k) := by decide +kernel
abbrev cJ9_floorMod_7cf53 : ByteArray := prog_11_method_50_code
def yJ9_floorMod_7cf53 : MethodName := ⟨RJ9, "floorMod", "(II)I"⟩
abbrev cJ9_max_7cf53 : ByteArray := prog_11_method_65_code
def yJ9_max_7cf53 : MethodName := ⟨RJ9, "max", "(II)I"⟩
abbrev cJ9_min_7cf53 : ByteArray := prog_11_method_69_code
def yJ9_min_7cf53 : MethodName := ⟨RJ9, "min", "(II)I"⟩
def RJ0 : String := "java/lang/String"
def TJ0 : u_T := fun k => match k with
  | _ => ("", "", "", false)
def tyJ0 : Nat → FieldType := fun k => match k with
  | _ => .int
abbrev wsJ00 : List Cond := u_ws RJ0 TJ0 0
theorem nmJ0 : ∀ a, a < 0 → ∀ b, b < 0 → a ≠ b → (TJ0 a).2.1 ≠ (TJ0 b).2.1 := by decide +kernel
theorem tyJ0_ok : ∀ k, k < 0 → parseFieldDescriptor (TJ0 k).2.2.1 = some (tyJ0 k) := by decide +kernel
abbrev cJ0_length_8abf5 : ByteArray := prog_12_method_54_code
def yJ0_length_8abf5 : MethodName := ⟨RJ0, "length", "()I"⟩
abbrev cJ0_charAt_5068e : ByteArray := prog_12_method_56_code
def yJ0_charAt_5068e : MethodName := ⟨RJ0, "charAt", "(I)C"⟩
abbrev cJ0_indexOf_0f7a4 : ByteArray := prog_12_method_79_code
def yJ0_indexOf_0f7a4 : MethodName := ⟨RJ0, "indexOf", "(I)I"⟩
abbrev cJ0_indexOf_7cf53 : ByteArray := prog_12_method_80_code
def yJ0_indexOf_7cf53 : MethodName := ⟨RJ0, "indexOf", "(II)I"⟩
abbrev cJ0_coder_7d493 : ByteArray := prog_12_method_152_code
def yJ0_coder_7d493 : MethodName := ⟨RJ0, "coder", "()B"⟩
abbrev cJ0_isLatin1_aae02 : ByteArray := prog_12_method_154_code
def yJ0_isLatin1_aae02 : MethodName := ⟨RJ0, "isLatin1", "()Z"⟩
abbrev cJ0_checkIndex_df160 : ByteArray := prog_12_method_155_code
def yJ0_checkIndex_df160 : MethodName := ⟨RJ0, "checkIndex", "(II)V"⟩
abbrev cJ0_checkBoundsBeginEnd_23922 : ByteArray := prog_12_method_158_code
def yJ0_checkBoundsBeginEnd_23922 : MethodName := ⟨RJ0, "checkBoundsBeginEnd", "(III)V"⟩
def RJ1 : String := "java/lang/StringLatin1"
def TJ1 : u_T := fun k => match k with
  | _ => ("", "", "", false)
def tyJ1 : Nat → FieldType := fun k => match k with
  | _ => .int
abbrev wsJ10 : List Cond := u_ws RJ1 TJ1 0
theorem nmJ1 : ∀ a, a < 0 → ∀ b, b < 0 → a ≠ b → (TJ1 a).2.1 ≠ (TJ1 b).2.1 := by decide +kernel
theorem tyJ1_ok : ∀ k, k < 0 → parseFieldDescriptor (TJ1 k).2.2.1 = some (tyJ1 k) := by decide +kernel
abbrev cJ1_charAt_3b067 : ByteArray := prog_13_method_2_code
def yJ1_charAt_3b067 : MethodName := ⟨RJ1, "charAt", "([BI)C"⟩
abbrev cJ1_canEncode_9a6ad : ByteArray := prog_13_method_4_code
def yJ1_canEncode_9a6ad : MethodName := ⟨RJ1, "canEncode", "(I)Z"⟩
abbrev cJ1_indexOf_4cfef : ByteArray := prog_13_method_22_code
def yJ1_indexOf_4cfef : MethodName := ⟨RJ1, "indexOf", "([BIII)I"⟩
abbrev cJ1_indexOfChar_4cfef : ByteArray := prog_13_method_23_code
def yJ1_indexOfChar_4cfef : MethodName := ⟨RJ1, "indexOfChar", "([BIII)I"⟩
def RJ7 : String := "java/util/Arrays"
def TJ7 : u_T := fun k => match k with
  | _ => ("", "", "", false)
def tyJ7 : Nat → FieldType := fun k => match k with
  | _ => .int
abbrev wsJ70 : List Cond := u_ws RJ7 TJ7 0
theorem nmJ7 : ∀ a, a < 0 → ∀ b, b < 0 → a ≠ b → (TJ7 a).2.1 ≠ (TJ7 b).2.1 := by decide +kernel
theorem tyJ7_ok : ∀ k, k < 0 → parseFieldDescriptor (TJ7 k).2.2.1 = some (tyJ7 k) := by decide +kernel
abbrev cJ7_fill_53178 : ByteArray := prog_16_method_103_code
def yJ7_fill_53178 : MethodName := ⟨RJ7, "fill", "([II)V"⟩
def RJ3 : String := "jdk/internal/util/Preconditions"
def TJ3 : u_T := fun k => match k with
  | _ => ("", "", "", false)
def tyJ3 : Nat → FieldType := fun k => match k with
  | _ => .int
abbrev wsJ30 : List Cond := u_ws RJ3 TJ3 0
theorem nmJ3 : ∀ a, a < 0 → ∀ b, b < 0 → a ≠ b → (TJ3 a).2.1 ≠ (TJ3 b).2.1 := by decide +kernel
theorem tyJ3_ok : ∀ k, k < 0 → parseFieldDescriptor (TJ3 k).2.2.1 = some (tyJ3 k) := by decide +kernel
abbrev cJ3_checkIndex_8e157 : ByteArray := prog_17_method_11_code
def yJ3_checkIndex_8e157 : MethodName := ⟨RJ3, "checkIndex", "(IILjava/util/function/BiFunction;)I"⟩
abbrev cJ3_checkFromToIndex_8c36e : ByteArray := prog_17_method_12_code
def yJ3_checkFromToIndex_8c36e : MethodName := ⟨RJ3, "checkFromToIndex", "(IIILjava/util/function/BiFunction;)I"⟩
abbrev vcl : List vw_C := [(RX0, TX0, 2), (RX1, TX1, 10), (RX2, TX2, 2), (RX3, TX3, 6), (RX4, TX4, 3), (RX5, TX5, 3), (RX6, TX6, 12), (RX7, TX7, 41)]
def ixA : Nat := 121
def ixB : Nat := 111
def tT : List Cond := k2_sels lw_privs ++ tables_1.filter goodWord
theorem tT_tbl : ∀ w ∈ tT, w ∈ lw_tbl := fun w h => (List.mem_append.mp h).elim (fun h => List.mem_append_left _ h) (fun h => List.mem_append_right _ (List.mem_filter.mp h).1)
theorem tT_len : tT.length = 1190 := by decide +kernel
theorem tT_good : tT.all goodWord = true := by decide +kernel
theorem in_X0 : ∀ w ∈ wsX00, w ∈ tT := by decide +kernel
theorem in_X1 : ∀ w ∈ wsX10, w ∈ tT := by decide +kernel
theorem in_X2 : ∀ w ∈ wsX20, w ∈ tT := by decide +kernel
theorem in_X3 : ∀ w ∈ wsX30, w ∈ tT := by decide +kernel
theorem in_X4 : ∀ w ∈ wsX40, w ∈ tT := by decide +kernel
theorem in_X5 : ∀ w ∈ wsX50, w ∈ tT := by decide +kernel
theorem in_X6 : ∀ w ∈ wsX60, w ∈ tT := by decide +kernel
theorem in_X7 : ∀ w ∈ wsX70, w ∈ tT := by decide +kernel
