section
-- ===== PART A: goes FIRST, ahead of the names: the tables' words, and 'selects' of the private methods out of them =====
/-- a private method of a class that the tables say can be made, by its rows of tables_1 -/
def lw_okq (q : MethodName × Nat) : Prop := (q.1.cls ≠ "java/lang/invoke/MethodHandle" ∧ q.1.cls ≠ "java/lang/invoke/VarHandle") ∧ Cond.instantiable q.1.cls q.2 ∈ tables_1 ∧ Cond.privateMethod q.1 ∈ tables_1 ∧ Cond.instanceMethod q.1 ∈ tables_1
theorem lw_p0 : lw_okq (⟨"ReelBack$Prices", "tellCoin", "(III)I"⟩, 11) := ⟨⟨by decide +kernel, by decide +kernel⟩, List.mem_of_getElem? (i := 131) (by decide +kernel), List.mem_of_getElem? (i := 494) (by decide +kernel), List.mem_of_getElem? (i := 495) (by decide +kernel)⟩
theorem lw_p1 : lw_okq (⟨"ReelBack$Prices", "coinOf", "(II)I"⟩, 11) := ⟨⟨by decide +kernel, by decide +kernel⟩, List.mem_of_getElem? (i := 131) (by decide +kernel), List.mem_of_getElem? (i := 502) (by decide +kernel), List.mem_of_getElem? (i := 503) (by decide +kernel)⟩
theorem lw_p2 : lw_okq (⟨"ReelBack$Houses", "add", "(I)I"⟩, 4) := ⟨⟨by decide +kernel, by decide +kernel⟩, List.mem_of_getElem? (i := 32) (by decide +kernel), List.mem_of_getElem? (i := 511) (by decide +kernel), List.mem_of_getElem? (i := 512) (by decide +kernel)⟩
theorem lw_p3 : lw_okq (⟨"ReelBack$Houses", "has", "(I)Z"⟩, 4) := ⟨⟨by decide +kernel, by decide +kernel⟩, List.mem_of_getElem? (i := 32) (by decide +kernel), List.mem_of_getElem? (i := 519) (by decide +kernel), List.mem_of_getElem? (i := 520) (by decide +kernel)⟩
theorem lw_p4 : lw_okq (⟨"ReelBack$Houses", "tie", "(III)I"⟩, 4) := ⟨⟨by decide +kernel, by decide +kernel⟩, List.mem_of_getElem? (i := 32) (by decide +kernel), List.mem_of_getElem? (i := 523) (by decide +kernel), List.mem_of_getElem? (i := 524) (by decide +kernel)⟩
theorem lw_p5 : lw_okq (⟨"ReelBack$Houses", "areRelatedBy", "(III)Z"⟩, 4) := ⟨⟨by decide +kernel, by decide +kernel⟩, List.mem_of_getElem? (i := 32) (by decide +kernel), List.mem_of_getElem? (i := 527) (by decide +kernel), List.mem_of_getElem? (i := 528) (by decide +kernel)⟩
theorem lw_p6 : lw_okq (⟨"ReelBack$Films", "add", "(II)I"⟩, 8) := ⟨⟨by decide +kernel, by decide +kernel⟩, List.mem_of_getElem? (i := 57) (by decide +kernel), List.mem_of_getElem? (i := 535) (by decide +kernel), List.mem_of_getElem? (i := 536) (by decide +kernel)⟩
theorem lw_p7 : lw_okq (⟨"ReelBack$Films", "has", "(I)Z"⟩, 8) := ⟨⟨by decide +kernel, by decide +kernel⟩, List.mem_of_getElem? (i := 57) (by decide +kernel), List.mem_of_getElem? (i := 543) (by decide +kernel), List.mem_of_getElem? (i := 544) (by decide +kernel)⟩
theorem lw_p8 : lw_okq (⟨"ReelBack$Persons", "add", "(I)I"⟩, 9) := ⟨⟨by decide +kernel, by decide +kernel⟩, List.mem_of_getElem? (i := 95) (by decide +kernel), List.mem_of_getElem? (i := 551) (by decide +kernel), List.mem_of_getElem? (i := 552) (by decide +kernel)⟩
theorem lw_p9 : lw_okq (⟨"ReelBack$Persons", "has", "(I)Z"⟩, 9) := ⟨⟨by decide +kernel, by decide +kernel⟩, List.mem_of_getElem? (i := 95) (by decide +kernel), List.mem_of_getElem? (i := 559) (by decide +kernel), List.mem_of_getElem? (i := 560) (by decide +kernel)⟩
theorem lw_p10 : lw_okq (⟨"ReelBack$Persons", "tellStay", "(IIIII)I"⟩, 9) := ⟨⟨by decide +kernel, by decide +kernel⟩, List.mem_of_getElem? (i := 95) (by decide +kernel), List.mem_of_getElem? (i := 563) (by decide +kernel), List.mem_of_getElem? (i := 564) (by decide +kernel)⟩
theorem lw_p11 : lw_okq (⟨"ReelBack$Persons", "livesIn", "(IIII)Z"⟩, 9) := ⟨⟨by decide +kernel, by decide +kernel⟩, List.mem_of_getElem? (i := 95) (by decide +kernel), List.mem_of_getElem? (i := 571) (by decide +kernel), List.mem_of_getElem? (i := 572) (by decide +kernel)⟩
theorem lw_p12 : lw_okq (⟨"ReelBack$Films", "tellPoints", "(III)I"⟩, 8) := ⟨⟨by decide +kernel, by decide +kernel⟩, List.mem_of_getElem? (i := 57) (by decide +kernel), List.mem_of_getElem? (i := 587) (by decide +kernel), List.mem_of_getElem? (i := 588) (by decide +kernel)⟩
theorem lw_p13 : lw_okq (⟨"ReelBack$Films", "hasPoints", "(I)Z"⟩, 8) := ⟨⟨by decide +kernel, by decide +kernel⟩, List.mem_of_getElem? (i := 57) (by decide +kernel), List.mem_of_getElem? (i := 595) (by decide +kernel), List.mem_of_getElem? (i := 596) (by decide +kernel)⟩
theorem lw_p14 : lw_okq (⟨"ReelBack$Films", "provePoints", "(II)I"⟩, 8) := ⟨⟨by decide +kernel, by decide +kernel⟩, List.mem_of_getElem? (i := 57) (by decide +kernel), List.mem_of_getElem? (i := 599) (by decide +kernel), List.mem_of_getElem? (i := 600) (by decide +kernel)⟩
theorem lw_p15 : lw_okq (⟨"ReelBack$Films", "pointsBy", "(III)I"⟩, 8) := ⟨⟨by decide +kernel, by decide +kernel⟩, List.mem_of_getElem? (i := 57) (by decide +kernel), List.mem_of_getElem? (i := 607) (by decide +kernel), List.mem_of_getElem? (i := 608) (by decide +kernel)⟩
def lw_privs_1 : List (MethodName × Nat) := [(⟨"ReelBack$Prices", "tellCoin", "(III)I"⟩, 11), (⟨"ReelBack$Prices", "coinOf", "(II)I"⟩, 11), (⟨"ReelBack$Houses", "add", "(I)I"⟩, 4), (⟨"ReelBack$Houses", "has", "(I)Z"⟩, 4), (⟨"ReelBack$Houses", "tie", "(III)I"⟩, 4), (⟨"ReelBack$Houses", "areRelatedBy", "(III)Z"⟩, 4), (⟨"ReelBack$Films", "add", "(II)I"⟩, 8), (⟨"ReelBack$Films", "has", "(I)Z"⟩, 8), (⟨"ReelBack$Persons", "add", "(I)I"⟩, 9), (⟨"ReelBack$Persons", "has", "(I)Z"⟩, 9), (⟨"ReelBack$Persons", "tellStay", "(IIIII)I"⟩, 9), (⟨"ReelBack$Persons", "livesIn", "(IIII)Z"⟩, 9), (⟨"ReelBack$Films", "tellPoints", "(III)I"⟩, 8), (⟨"ReelBack$Films", "hasPoints", "(I)Z"⟩, 8), (⟨"ReelBack$Films", "provePoints", "(II)I"⟩, 8), (⟨"ReelBack$Films", "pointsBy", "(III)I"⟩, 8)]
theorem lw_r1 : ∀ q ∈ lw_privs_1, lw_okq q := List.forall_mem_cons.mpr ⟨lw_p0, List.forall_mem_cons.mpr ⟨lw_p1, List.forall_mem_cons.mpr ⟨lw_p2, List.forall_mem_cons.mpr ⟨lw_p3, List.forall_mem_cons.mpr ⟨lw_p4, List.forall_mem_cons.mpr ⟨lw_p5, List.forall_mem_cons.mpr ⟨lw_p6, List.forall_mem_cons.mpr ⟨lw_p7, List.forall_mem_cons.mpr ⟨lw_p8, List.forall_mem_cons.mpr ⟨lw_p9, List.forall_mem_cons.mpr ⟨lw_p10, List.forall_mem_cons.mpr ⟨lw_p11, List.forall_mem_cons.mpr ⟨lw_p12, List.forall_mem_cons.mpr ⟨lw_p13, List.forall_mem_cons.mpr ⟨lw_p14, List.forall_mem_cons.mpr ⟨lw_p15, fun _ h => absurd h List.not_mem_nil⟩⟩⟩⟩⟩⟩⟩⟩⟩⟩⟩⟩⟩⟩⟩⟩
theorem lw_p16 : lw_okq (⟨"ReelBack", "isDraftSound", "(I)Z"⟩, 11) := ⟨⟨by decide +kernel, by decide +kernel⟩, List.mem_of_getElem? (i := 24) (by decide +kernel), List.mem_of_getElem? (i := 619) (by decide +kernel), List.mem_of_getElem? (i := 620) (by decide +kernel)⟩
theorem lw_p17 : lw_okq (⟨"ReelBack$Costs", "add", "(II)I"⟩, 8) := ⟨⟨by decide +kernel, by decide +kernel⟩, List.mem_of_getElem? (i := 173) (by decide +kernel), List.mem_of_getElem? (i := 631) (by decide +kernel), List.mem_of_getElem? (i := 632) (by decide +kernel)⟩
theorem lw_p18 : lw_okq (⟨"ReelBack$Costs", "at", "(I)LReelBack$Cost;"⟩, 8) := ⟨⟨by decide +kernel, by decide +kernel⟩, List.mem_of_getElem? (i := 173) (by decide +kernel), List.mem_of_getElem? (i := 708) (by decide +kernel), List.mem_of_getElem? (i := 709) (by decide +kernel)⟩
theorem lw_p19 : lw_okq (⟨"ReelBack$Cost", "coinsBy", "(I)I"⟩, 13) := ⟨⟨by decide +kernel, by decide +kernel⟩, List.mem_of_getElem? (i := 634) (by decide +kernel), List.mem_of_getElem? (i := 713) (by decide +kernel), List.mem_of_getElem? (i := 714) (by decide +kernel)⟩
theorem lw_p20 : lw_okq (⟨"ReelBack$Cost", "audited", "()I"⟩, 13) := ⟨⟨by decide +kernel, by decide +kernel⟩, List.mem_of_getElem? (i := 634) (by decide +kernel), List.mem_of_getElem? (i := 717) (by decide +kernel), List.mem_of_getElem? (i := 718) (by decide +kernel)⟩
theorem lw_p21 : lw_okq (⟨"ReelBack$Prices", "tellLike", "(IIIII)I"⟩, 11) := ⟨⟨by decide +kernel, by decide +kernel⟩, List.mem_of_getElem? (i := 131) (by decide +kernel), List.mem_of_getElem? (i := 725) (by decide +kernel), List.mem_of_getElem? (i := 726) (by decide +kernel)⟩
theorem lw_p22 : lw_okq (⟨"ReelBack$Prices", "gatherLikes", "(IIII)I"⟩, 11) := ⟨⟨by decide +kernel, by decide +kernel⟩, List.mem_of_getElem? (i := 131) (by decide +kernel), List.mem_of_getElem? (i := 733) (by decide +kernel), List.mem_of_getElem? (i := 734) (by decide +kernel)⟩
theorem lw_p23 : lw_okq (⟨"ReelBack$Prices", "putSorted", "(I)V"⟩, 11) := ⟨⟨by decide +kernel, by decide +kernel⟩, List.mem_of_getElem? (i := 131) (by decide +kernel), List.mem_of_getElem? (i := 740) (by decide +kernel), List.mem_of_getElem? (i := 741) (by decide +kernel)⟩
theorem lw_p24 : lw_okq (⟨"ReelBack$Prices", "middleLike", "()I"⟩, 11) := ⟨⟨by decide +kernel, by decide +kernel⟩, List.mem_of_getElem? (i := 131) (by decide +kernel), List.mem_of_getElem? (i := 744) (by decide +kernel), List.mem_of_getElem? (i := 745) (by decide +kernel)⟩
theorem lw_p25 : lw_okq (⟨"ReelBack$Claims", "fairOf", "(LReelBack$Cost;I)I"⟩, 7) := ⟨⟨by decide +kernel, by decide +kernel⟩, List.mem_of_getElem? (i := 291) (by decide +kernel), List.mem_of_getElem? (i := 752) (by decide +kernel), List.mem_of_getElem? (i := 753) (by decide +kernel)⟩
theorem lw_p26 : lw_okq (⟨"ReelBack$Claims", "isRelated", "(LReelBack$Cost;I)Z"⟩, 7) := ⟨⟨by decide +kernel, by decide +kernel⟩, List.mem_of_getElem? (i := 291) (by decide +kernel), List.mem_of_getElem? (i := 757) (by decide +kernel), List.mem_of_getElem? (i := 758) (by decide +kernel)⟩
theorem lw_p27 : lw_okq (⟨"ReelBack$Costs", "isLaterDouble", "(LReelBack$Cost;)Z"⟩, 8) := ⟨⟨by decide +kernel, by decide +kernel⟩, List.mem_of_getElem? (i := 173) (by decide +kernel), List.mem_of_getElem? (i := 766) (by decide +kernel), List.mem_of_getElem? (i := 767) (by decide +kernel)⟩
theorem lw_p28 : lw_okq (⟨"ReelBack$Cost", "isTwiceWith", "(LReelBack$Cost;)Z"⟩, 13) := ⟨⟨by decide +kernel, by decide +kernel⟩, List.mem_of_getElem? (i := 634) (by decide +kernel), List.mem_of_getElem? (i := 774) (by decide +kernel), List.mem_of_getElem? (i := 775) (by decide +kernel)⟩
theorem lw_p29 : lw_okq (⟨"ReelBack$Claims", "countedOf", "(LReelBack$Cost;I)I"⟩, 7) := ⟨⟨by decide +kernel, by decide +kernel⟩, List.mem_of_getElem? (i := 291) (by decide +kernel), List.mem_of_getElem? (i := 778) (by decide +kernel), List.mem_of_getElem? (i := 779) (by decide +kernel)⟩
theorem lw_p30 : lw_okq (⟨"ReelBack$Claims", "lawOf", "(IIIII)I"⟩, 7) := ⟨⟨by decide +kernel, by decide +kernel⟩, List.mem_of_getElem? (i := 291) (by decide +kernel), List.mem_of_getElem? (i := 783) (by decide +kernel), List.mem_of_getElem? (i := 784) (by decide +kernel)⟩
theorem lw_p31 : lw_okq (⟨"ReelBack$Acts", "find", "(III)I"⟩, 11) := ⟨⟨by decide +kernel, by decide +kernel⟩, List.mem_of_getElem? (i := 242) (by decide +kernel), List.mem_of_getElem? (i := 787) (by decide +kernel), List.mem_of_getElem? (i := 788) (by decide +kernel)⟩
def lw_privs_2 : List (MethodName × Nat) := [(⟨"ReelBack", "isDraftSound", "(I)Z"⟩, 11), (⟨"ReelBack$Costs", "add", "(II)I"⟩, 8), (⟨"ReelBack$Costs", "at", "(I)LReelBack$Cost;"⟩, 8), (⟨"ReelBack$Cost", "coinsBy", "(I)I"⟩, 13), (⟨"ReelBack$Cost", "audited", "()I"⟩, 13), (⟨"ReelBack$Prices", "tellLike", "(IIIII)I"⟩, 11), (⟨"ReelBack$Prices", "gatherLikes", "(IIII)I"⟩, 11), (⟨"ReelBack$Prices", "putSorted", "(I)V"⟩, 11), (⟨"ReelBack$Prices", "middleLike", "()I"⟩, 11), (⟨"ReelBack$Claims", "fairOf", "(LReelBack$Cost;I)I"⟩, 7), (⟨"ReelBack$Claims", "isRelated", "(LReelBack$Cost;I)Z"⟩, 7), (⟨"ReelBack$Costs", "isLaterDouble", "(LReelBack$Cost;)Z"⟩, 8), (⟨"ReelBack$Cost", "isTwiceWith", "(LReelBack$Cost;)Z"⟩, 13), (⟨"ReelBack$Claims", "countedOf", "(LReelBack$Cost;I)I"⟩, 7), (⟨"ReelBack$Claims", "lawOf", "(IIIII)I"⟩, 7), (⟨"ReelBack$Acts", "find", "(III)I"⟩, 11)]
theorem lw_r2 : ∀ q ∈ lw_privs_2, lw_okq q := List.forall_mem_cons.mpr ⟨lw_p16, List.forall_mem_cons.mpr ⟨lw_p17, List.forall_mem_cons.mpr ⟨lw_p18, List.forall_mem_cons.mpr ⟨lw_p19, List.forall_mem_cons.mpr ⟨lw_p20, List.forall_mem_cons.mpr ⟨lw_p21, List.forall_mem_cons.mpr ⟨lw_p22, List.forall_mem_cons.mpr ⟨lw_p23, List.forall_mem_cons.mpr ⟨lw_p24, List.forall_mem_cons.mpr ⟨lw_p25, List.forall_mem_cons.mpr ⟨lw_p26, List.forall_mem_cons.mpr ⟨lw_p27, List.forall_mem_cons.mpr ⟨lw_p28, List.forall_mem_cons.mpr ⟨lw_p29, List.forall_mem_cons.mpr ⟨lw_p30, List.forall_mem_cons.mpr ⟨lw_p31, fun _ h => absurd h List.not_mem_nil⟩⟩⟩⟩⟩⟩⟩⟩⟩⟩⟩⟩⟩⟩⟩⟩
theorem lw_p32 : lw_okq (⟨"ReelBack$Acts", "has", "(I)Z"⟩, 11) := ⟨⟨by decide +kernel, by decide +kernel⟩, List.mem_of_getElem? (i := 242) (by decide +kernel), List.mem_of_getElem? (i := 791) (by decide +kernel), List.mem_of_getElem? (i := 792) (by decide +kernel)⟩
theorem lw_p33 : lw_okq (⟨"ReelBack$Claims", "putFilmFacts", "(IIII)V"⟩, 7) := ⟨⟨by decide +kernel, by decide +kernel⟩, List.mem_of_getElem? (i := 291) (by decide +kernel), List.mem_of_getElem? (i := 798) (by decide +kernel), List.mem_of_getElem? (i := 799) (by decide +kernel)⟩
theorem lw_p34 : lw_okq (⟨"ReelBack$Acts", "run", "(I)I"⟩, 11) := ⟨⟨by decide +kernel, by decide +kernel⟩, List.mem_of_getElem? (i := 242) (by decide +kernel), List.mem_of_getElem? (i := 809) (by decide +kernel), List.mem_of_getElem? (i := 810) (by decide +kernel)⟩
theorem lw_p35 : lw_okq (⟨"ReelBack$Acts", "push", "(I)V"⟩, 11) := ⟨⟨by decide +kernel, by decide +kernel⟩, List.mem_of_getElem? (i := 242) (by decide +kernel), List.mem_of_getElem? (i := 813) (by decide +kernel), List.mem_of_getElem? (i := 814) (by decide +kernel)⟩
theorem lw_p36 : lw_okq (⟨"ReelBack$Acts", "pop", "()I"⟩, 11) := ⟨⟨by decide +kernel, by decide +kernel⟩, List.mem_of_getElem? (i := 242) (by decide +kernel), List.mem_of_getElem? (i := 817) (by decide +kernel), List.mem_of_getElem? (i := 818) (by decide +kernel)⟩
theorem lw_p37 : lw_okq (⟨"ReelBack$Claims", "hundredthsOf", "(LReelBack$Cost;I)I"⟩, 7) := ⟨⟨by decide +kernel, by decide +kernel⟩, List.mem_of_getElem? (i := 291) (by decide +kernel), List.mem_of_getElem? (i := 832) (by decide +kernel), List.mem_of_getElem? (i := 833) (by decide +kernel)⟩
theorem lw_p38 : lw_okq (⟨"ReelBack$Houses", "isIn", "(II)Z"⟩, 4) := ⟨⟨by decide +kernel, by decide +kernel⟩, List.mem_of_getElem? (i := 32) (by decide +kernel), List.mem_of_getElem? (i := 836) (by decide +kernel), List.mem_of_getElem? (i := 837) (by decide +kernel)⟩
theorem lw_p39 : lw_okq (⟨"ReelBack$Claims", "baseOf", "(IIIII)I"⟩, 7) := ⟨⟨by decide +kernel, by decide +kernel⟩, List.mem_of_getElem? (i := 291) (by decide +kernel), List.mem_of_getElem? (i := 847) (by decide +kernel), List.mem_of_getElem? (i := 848) (by decide +kernel)⟩
theorem lw_p40 : lw_okq (⟨"ReelBack$Claims", "dueOf", "(III)I"⟩, 7) := ⟨⟨by decide +kernel, by decide +kernel⟩, List.mem_of_getElem? (i := 291) (by decide +kernel), List.mem_of_getElem? (i := 857) (by decide +kernel), List.mem_of_getElem? (i := 858) (by decide +kernel)⟩
theorem lw_p41 : lw_okq (⟨"ReelBack$Reader", "take", "(II)I"⟩, 6) := ⟨⟨by decide +kernel, by decide +kernel⟩, List.mem_of_getElem? (i := 214) (by decide +kernel), List.mem_of_getElem? (i := 866) (by decide +kernel), List.mem_of_getElem? (i := 867) (by decide +kernel)⟩
theorem lw_p42 : lw_okq (⟨"ReelBack$Reader", "compile", "()I"⟩, 6) := ⟨⟨by decide +kernel, by decide +kernel⟩, List.mem_of_getElem? (i := 214) (by decide +kernel), List.mem_of_getElem? (i := 877) (by decide +kernel), List.mem_of_getElem? (i := 878) (by decide +kernel)⟩
theorem lw_p43 : lw_okq (⟨"ReelBack$Reader", "readLine", "()V"⟩, 6) := ⟨⟨by decide +kernel, by decide +kernel⟩, List.mem_of_getElem? (i := 214) (by decide +kernel), List.mem_of_getElem? (i := 881) (by decide +kernel), List.mem_of_getElem? (i := 882) (by decide +kernel)⟩
theorem lw_p44 : lw_okq (⟨"ReelBack$Reader", "readPart", "(II)V"⟩, 6) := ⟨⟨by decide +kernel, by decide +kernel⟩, List.mem_of_getElem? (i := 214) (by decide +kernel), List.mem_of_getElem? (i := 885) (by decide +kernel), List.mem_of_getElem? (i := 886) (by decide +kernel)⟩
theorem lw_p45 : lw_okq (⟨"ReelBack$Reader", "readOperand", "(I)V"⟩, 6) := ⟨⟨by decide +kernel, by decide +kernel⟩, List.mem_of_getElem? (i := 214) (by decide +kernel), List.mem_of_getElem? (i := 889) (by decide +kernel), List.mem_of_getElem? (i := 890) (by decide +kernel)⟩
theorem lw_p46 : lw_okq (⟨"ReelBack$Reader", "next", "()I"⟩, 6) := ⟨⟨by decide +kernel, by decide +kernel⟩, List.mem_of_getElem? (i := 214) (by decide +kernel), List.mem_of_getElem? (i := 893) (by decide +kernel), List.mem_of_getElem? (i := 894) (by decide +kernel)⟩
theorem lw_p47 : lw_okq (⟨"ReelBack$Reader", "readNumber", "()V"⟩, 6) := ⟨⟨by decide +kernel, by decide +kernel⟩, List.mem_of_getElem? (i := 214) (by decide +kernel), List.mem_of_getElem? (i := 980) (by decide +kernel), List.mem_of_getElem? (i := 981) (by decide +kernel)⟩
def lw_privs_3 : List (MethodName × Nat) := [(⟨"ReelBack$Acts", "has", "(I)Z"⟩, 11), (⟨"ReelBack$Claims", "putFilmFacts", "(IIII)V"⟩, 7), (⟨"ReelBack$Acts", "run", "(I)I"⟩, 11), (⟨"ReelBack$Acts", "push", "(I)V"⟩, 11), (⟨"ReelBack$Acts", "pop", "()I"⟩, 11), (⟨"ReelBack$Claims", "hundredthsOf", "(LReelBack$Cost;I)I"⟩, 7), (⟨"ReelBack$Houses", "isIn", "(II)Z"⟩, 4), (⟨"ReelBack$Claims", "baseOf", "(IIIII)I"⟩, 7), (⟨"ReelBack$Claims", "dueOf", "(III)I"⟩, 7), (⟨"ReelBack$Reader", "take", "(II)I"⟩, 6), (⟨"ReelBack$Reader", "compile", "()I"⟩, 6), (⟨"ReelBack$Reader", "readLine", "()V"⟩, 6), (⟨"ReelBack$Reader", "readPart", "(II)V"⟩, 6), (⟨"ReelBack$Reader", "readOperand", "(I)V"⟩, 6), (⟨"ReelBack$Reader", "next", "()I"⟩, 6), (⟨"ReelBack$Reader", "readNumber", "()V"⟩, 6)]
theorem lw_r3 : ∀ q ∈ lw_privs_3, lw_okq q := List.forall_mem_cons.mpr ⟨lw_p32, List.forall_mem_cons.mpr ⟨lw_p33, List.forall_mem_cons.mpr ⟨lw_p34, List.forall_mem_cons.mpr ⟨lw_p35, List.forall_mem_cons.mpr ⟨lw_p36, List.forall_mem_cons.mpr ⟨lw_p37, List.forall_mem_cons.mpr ⟨lw_p38, List.forall_mem_cons.mpr ⟨lw_p39, List.forall_mem_cons.mpr ⟨lw_p40, List.forall_mem_cons.mpr ⟨lw_p41, List.forall_mem_cons.mpr ⟨lw_p42, List.forall_mem_cons.mpr ⟨lw_p43, List.forall_mem_cons.mpr ⟨lw_p44, List.forall_mem_cons.mpr ⟨lw_p45, List.forall_mem_cons.mpr ⟨lw_p46, List.forall_mem_cons.mpr ⟨lw_p47, fun _ h => absurd h List.not_mem_nil⟩⟩⟩⟩⟩⟩⟩⟩⟩⟩⟩⟩⟩⟩⟩⟩
theorem lw_p48 : lw_okq (⟨"ReelBack$Reader", "put", "(I)V"⟩, 6) := ⟨⟨by decide +kernel, by decide +kernel⟩, List.mem_of_getElem? (i := 214) (by decide +kernel), List.mem_of_getElem? (i := 984) (by decide +kernel), List.mem_of_getElem? (i := 985) (by decide +kernel)⟩
theorem lw_p49 : lw_okq (⟨"ReelBack$Acts", "add", "(IIILReelBack$Reader;)I"⟩, 11) := ⟨⟨by decide +kernel, by decide +kernel⟩, List.mem_of_getElem? (i := 242) (by decide +kernel), List.mem_of_getElem? (i := 991) (by decide +kernel), List.mem_of_getElem? (i := 992) (by decide +kernel)⟩
theorem lw_p50 : lw_okq (⟨"ReelBack$Queue", "add", "(III)I"⟩, 19) := ⟨⟨by decide +kernel, by decide +kernel⟩, List.mem_of_getElem? (i := 320) (by decide +kernel), List.mem_of_getElem? (i := 1029) (by decide +kernel), List.mem_of_getElem? (i := 1030) (by decide +kernel)⟩
theorem lw_p51 : lw_okq (⟨"ReelBack$Queue", "has", "(I)Z"⟩, 19) := ⟨⟨by decide +kernel, by decide +kernel⟩, List.mem_of_getElem? (i := 320) (by decide +kernel), List.mem_of_getElem? (i := 1037) (by decide +kernel), List.mem_of_getElem? (i := 1038) (by decide +kernel)⟩
theorem lw_p52 : lw_okq (⟨"ReelBack$Queue", "deal", "(III)I"⟩, 19) := ⟨⟨by decide +kernel, by decide +kernel⟩, List.mem_of_getElem? (i := 320) (by decide +kernel), List.mem_of_getElem? (i := 1041) (by decide +kernel), List.mem_of_getElem? (i := 1042) (by decide +kernel)⟩
theorem lw_p53 : lw_okq (⟨"ReelBack$Queue", "dealYear", "(III)I"⟩, 19) := ⟨⟨by decide +kernel, by decide +kernel⟩, List.mem_of_getElem? (i := 320) (by decide +kernel), List.mem_of_getElem? (i := 1046) (by decide +kernel), List.mem_of_getElem? (i := 1047) (by decide +kernel)⟩
theorem lw_p54 : lw_okq (⟨"ReelBack$Queue", "lend", "(III)I"⟩, 19) := ⟨⟨by decide +kernel, by decide +kernel⟩, List.mem_of_getElem? (i := 320) (by decide +kernel), List.mem_of_getElem? (i := 1059) (by decide +kernel), List.mem_of_getElem? (i := 1060) (by decide +kernel)⟩
theorem lw_p55 : lw_okq (⟨"ReelBack$Queue", "payHalf", "(II)I"⟩, 19) := ⟨⟨by decide +kernel, by decide +kernel⟩, List.mem_of_getElem? (i := 320) (by decide +kernel), List.mem_of_getElem? (i := 1067) (by decide +kernel), List.mem_of_getElem? (i := 1068) (by decide +kernel)⟩
theorem lw_p56 : lw_okq (⟨"ReelBack$Queue", "payOut", "(II)V"⟩, 19) := ⟨⟨by decide +kernel, by decide +kernel⟩, List.mem_of_getElem? (i := 320) (by decide +kernel), List.mem_of_getElem? (i := 1071) (by decide +kernel), List.mem_of_getElem? (i := 1072) (by decide +kernel)⟩
theorem lw_p57 : lw_okq (⟨"ReelBack$Queue", "repay", "(III)I"⟩, 19) := ⟨⟨by decide +kernel, by decide +kernel⟩, List.mem_of_getElem? (i := 320) (by decide +kernel), List.mem_of_getElem? (i := 1075) (by decide +kernel), List.mem_of_getElem? (i := 1076) (by decide +kernel)⟩
theorem lw_p58 : lw_okq (⟨"ReelBack$Queue", "isOf", "(III)Z"⟩, 19) := ⟨⟨by decide +kernel, by decide +kernel⟩, List.mem_of_getElem? (i := 320) (by decide +kernel), List.mem_of_getElem? (i := 1079) (by decide +kernel), List.mem_of_getElem? (i := 1080) (by decide +kernel)⟩
theorem lw_p59 : lw_okq (⟨"ReelBack$Queue", "payRests", "(I)V"⟩, 19) := ⟨⟨by decide +kernel, by decide +kernel⟩, List.mem_of_getElem? (i := 320) (by decide +kernel), List.mem_of_getElem? (i := 1084) (by decide +kernel), List.mem_of_getElem? (i := 1085) (by decide +kernel)⟩
theorem lw_p60 : lw_okq (⟨"ReelBack$Houses", "pay", "(II)V"⟩, 4) := ⟨⟨by decide +kernel, by decide +kernel⟩, List.mem_of_getElem? (i := 32) (by decide +kernel), List.mem_of_getElem? (i := 1089) (by decide +kernel), List.mem_of_getElem? (i := 1090) (by decide +kernel)⟩
theorem lw_p61 : lw_okq (⟨"ReelBack$Queue", "close", "(II)I"⟩, 19) := ⟨⟨by decide +kernel, by decide +kernel⟩, List.mem_of_getElem? (i := 320) (by decide +kernel), List.mem_of_getElem? (i := 1097) (by decide +kernel), List.mem_of_getElem? (i := 1098) (by decide +kernel)⟩
theorem lw_p62 : lw_okq (⟨"ReelBack$Treaty", "add", "(II)I"⟩, 12) := ⟨⟨by decide +kernel, by decide +kernel⟩, List.mem_of_getElem? (i := 396) (by decide +kernel), List.mem_of_getElem? (i := 1114) (by decide +kernel), List.mem_of_getElem? (i := 1115) (by decide +kernel)⟩
theorem lw_p63 : lw_okq (⟨"ReelBack$Treaty", "findBest", "(IIII)I"⟩, 12) := ⟨⟨by decide +kernel, by decide +kernel⟩, List.mem_of_getElem? (i := 396) (by decide +kernel), List.mem_of_getElem? (i := 1123) (by decide +kernel), List.mem_of_getElem? (i := 1124) (by decide +kernel)⟩
def lw_privs_4 : List (MethodName × Nat) := [(⟨"ReelBack$Reader", "put", "(I)V"⟩, 6), (⟨"ReelBack$Acts", "add", "(IIILReelBack$Reader;)I"⟩, 11), (⟨"ReelBack$Queue", "add", "(III)I"⟩, 19), (⟨"ReelBack$Queue", "has", "(I)Z"⟩, 19), (⟨"ReelBack$Queue", "deal", "(III)I"⟩, 19), (⟨"ReelBack$Queue", "dealYear", "(III)I"⟩, 19), (⟨"ReelBack$Queue", "lend", "(III)I"⟩, 19), (⟨"ReelBack$Queue", "payHalf", "(II)I"⟩, 19), (⟨"ReelBack$Queue", "payOut", "(II)V"⟩, 19), (⟨"ReelBack$Queue", "repay", "(III)I"⟩, 19), (⟨"ReelBack$Queue", "isOf", "(III)Z"⟩, 19), (⟨"ReelBack$Queue", "payRests", "(I)V"⟩, 19), (⟨"ReelBack$Houses", "pay", "(II)V"⟩, 4), (⟨"ReelBack$Queue", "close", "(II)I"⟩, 19), (⟨"ReelBack$Treaty", "add", "(II)I"⟩, 12), (⟨"ReelBack$Treaty", "findBest", "(IIII)I"⟩, 12)]
theorem lw_r4 : ∀ q ∈ lw_privs_4, lw_okq q := List.forall_mem_cons.mpr ⟨lw_p48, List.forall_mem_cons.mpr ⟨lw_p49, List.forall_mem_cons.mpr ⟨lw_p50, List.forall_mem_cons.mpr ⟨lw_p51, List.forall_mem_cons.mpr ⟨lw_p52, List.forall_mem_cons.mpr ⟨lw_p53, List.forall_mem_cons.mpr ⟨lw_p54, List.forall_mem_cons.mpr ⟨lw_p55, List.forall_mem_cons.mpr ⟨lw_p56, List.forall_mem_cons.mpr ⟨lw_p57, List.forall_mem_cons.mpr ⟨lw_p58, List.forall_mem_cons.mpr ⟨lw_p59, List.forall_mem_cons.mpr ⟨lw_p60, List.forall_mem_cons.mpr ⟨lw_p61, List.forall_mem_cons.mpr ⟨lw_p62, List.forall_mem_cons.mpr ⟨lw_p63, fun _ h => absurd h List.not_mem_nil⟩⟩⟩⟩⟩⟩⟩⟩⟩⟩⟩⟩⟩⟩⟩⟩
theorem lw_p64 : lw_okq (⟨"ReelBack$Treaty", "seat", "(III)V"⟩, 12) := ⟨⟨by decide +kernel, by decide +kernel⟩, List.mem_of_getElem? (i := 396) (by decide +kernel), List.mem_of_getElem? (i := 1127) (by decide +kernel), List.mem_of_getElem? (i := 1128) (by decide +kernel)⟩
theorem lw_p65 : lw_okq (⟨"ReelBack$Treaty", "worthOf", "(I)I"⟩, 12) := ⟨⟨by decide +kernel, by decide +kernel⟩, List.mem_of_getElem? (i := 396) (by decide +kernel), List.mem_of_getElem? (i := 1132) (by decide +kernel), List.mem_of_getElem? (i := 1133) (by decide +kernel)⟩
theorem lw_p66 : lw_okq (⟨"ReelBack$Treaty", "readWay", "(I)V"⟩, 12) := ⟨⟨by decide +kernel, by decide +kernel⟩, List.mem_of_getElem? (i := 396) (by decide +kernel), List.mem_of_getElem? (i := 1136) (by decide +kernel), List.mem_of_getElem? (i := 1137) (by decide +kernel)⟩
theorem lw_p67 : lw_okq (⟨"ReelBack$Treaty", "isFair", "(I)Z"⟩, 12) := ⟨⟨by decide +kernel, by decide +kernel⟩, List.mem_of_getElem? (i := 396) (by decide +kernel), List.mem_of_getElem? (i := 1142) (by decide +kernel), List.mem_of_getElem? (i := 1143) (by decide +kernel)⟩
theorem lw_p68 : lw_okq (⟨"ReelBack$Claims", "gainOf", "(IIIII)I"⟩, 7) := ⟨⟨by decide +kernel, by decide +kernel⟩, List.mem_of_getElem? (i := 291) (by decide +kernel), List.mem_of_getElem? (i := 1158) (by decide +kernel), List.mem_of_getElem? (i := 1159) (by decide +kernel)⟩
theorem lw_p69 : lw_okq (⟨"ReelBack$Costs", "find", "(LReelBack$Cost;II)I"⟩, 8) := ⟨⟨by decide +kernel, by decide +kernel⟩, List.mem_of_getElem? (i := 173) (by decide +kernel), List.mem_of_getElem? (i := 1166) (by decide +kernel), List.mem_of_getElem? (i := 1167) (by decide +kernel)⟩
theorem lw_p70 : lw_okq (⟨"ReelBack$Costs", "drawOf", "(I)I"⟩, 8) := ⟨⟨by decide +kernel, by decide +kernel⟩, List.mem_of_getElem? (i := 173) (by decide +kernel), List.mem_of_getElem? (i := 1178) (by decide +kernel), List.mem_of_getElem? (i := 1179) (by decide +kernel)⟩
theorem lw_p71 : lw_okq (⟨"ReelBack$Costs", "isOpen", "(II)Z"⟩, 8) := ⟨⟨by decide +kernel, by decide +kernel⟩, List.mem_of_getElem? (i := 173) (by decide +kernel), List.mem_of_getElem? (i := 1182) (by decide +kernel), List.mem_of_getElem? (i := 1183) (by decide +kernel)⟩
theorem lw_p72 : lw_okq (⟨"ReelBack$Costs", "boundOf", "(I)I"⟩, 8) := ⟨⟨by decide +kernel, by decide +kernel⟩, List.mem_of_getElem? (i := 173) (by decide +kernel), List.mem_of_getElem? (i := 1191) (by decide +kernel), List.mem_of_getElem? (i := 1192) (by decide +kernel)⟩
theorem lw_p73 : lw_okq (⟨"ReelBack$Costs", "twos", "(I)I"⟩, 8) := ⟨⟨by decide +kernel, by decide +kernel⟩, List.mem_of_getElem? (i := 173) (by decide +kernel), List.mem_of_getElem? (i := 1215) (by decide +kernel), List.mem_of_getElem? (i := 1216) (by decide +kernel)⟩
theorem lw_p74 : lw_okq (⟨"ReelBack$Costs", "perform", "(LReelBack$Cost;IIIII)I"⟩, 8) := ⟨⟨by decide +kernel, by decide +kernel⟩, List.mem_of_getElem? (i := 173) (by decide +kernel), List.mem_of_getElem? (i := 1223) (by decide +kernel), List.mem_of_getElem? (i := 1224) (by decide +kernel)⟩
theorem lw_p75 : lw_okq (⟨"ReelBack$Houses", "allPurses", "()I"⟩, 4) := ⟨⟨by decide +kernel, by decide +kernel⟩, List.mem_of_getElem? (i := 32) (by decide +kernel), List.mem_of_getElem? (i := 1248) (by decide +kernel), List.mem_of_getElem? (i := 1249) (by decide +kernel)⟩
theorem lw_p76 : lw_okq (⟨"ReelBack$Queue", "allRepaid", "()I"⟩, 19) := ⟨⟨by decide +kernel, by decide +kernel⟩, List.mem_of_getElem? (i := 320) (by decide +kernel), List.mem_of_getElem? (i := 1252) (by decide +kernel), List.mem_of_getElem? (i := 1253) (by decide +kernel)⟩
theorem lw_p77 : lw_okq (⟨"ReelBackModel", "coinAt", "(II)I"⟩, 87) := ⟨⟨by decide +kernel, by decide +kernel⟩, List.mem_of_getElem? (i := 1256) (by decide +kernel), List.mem_of_getElem? (i := 1547) (by decide +kernel), List.mem_of_getElem? (i := 1548) (by decide +kernel)⟩
theorem lw_p78 : lw_okq (⟨"ReelBackModel", "isHouse", "(I)Z"⟩, 87) := ⟨⟨by decide +kernel, by decide +kernel⟩, List.mem_of_getElem? (i := 1256) (by decide +kernel), List.mem_of_getElem? (i := 1559) (by decide +kernel), List.mem_of_getElem? (i := 1560) (by decide +kernel)⟩
theorem lw_p79 : lw_okq (⟨"ReelBackModel", "isFilm", "(I)Z"⟩, 87) := ⟨⟨by decide +kernel, by decide +kernel⟩, List.mem_of_getElem? (i := 1256) (by decide +kernel), List.mem_of_getElem? (i := 1571) (by decide +kernel), List.mem_of_getElem? (i := 1572) (by decide +kernel)⟩
def lw_privs_5 : List (MethodName × Nat) := [(⟨"ReelBack$Treaty", "seat", "(III)V"⟩, 12), (⟨"ReelBack$Treaty", "worthOf", "(I)I"⟩, 12), (⟨"ReelBack$Treaty", "readWay", "(I)V"⟩, 12), (⟨"ReelBack$Treaty", "isFair", "(I)Z"⟩, 12), (⟨"ReelBack$Claims", "gainOf", "(IIIII)I"⟩, 7), (⟨"ReelBack$Costs", "find", "(LReelBack$Cost;II)I"⟩, 8), (⟨"ReelBack$Costs", "drawOf", "(I)I"⟩, 8), (⟨"ReelBack$Costs", "isOpen", "(II)Z"⟩, 8), (⟨"ReelBack$Costs", "boundOf", "(I)I"⟩, 8), (⟨"ReelBack$Costs", "twos", "(I)I"⟩, 8), (⟨"ReelBack$Costs", "perform", "(LReelBack$Cost;IIIII)I"⟩, 8), (⟨"ReelBack$Houses", "allPurses", "()I"⟩, 4), (⟨"ReelBack$Queue", "allRepaid", "()I"⟩, 19), (⟨"ReelBackModel", "coinAt", "(II)I"⟩, 87), (⟨"ReelBackModel", "isHouse", "(I)Z"⟩, 87), (⟨"ReelBackModel", "isFilm", "(I)Z"⟩, 87)]
theorem lw_r5 : ∀ q ∈ lw_privs_5, lw_okq q := List.forall_mem_cons.mpr ⟨lw_p64, List.forall_mem_cons.mpr ⟨lw_p65, List.forall_mem_cons.mpr ⟨lw_p66, List.forall_mem_cons.mpr ⟨lw_p67, List.forall_mem_cons.mpr ⟨lw_p68, List.forall_mem_cons.mpr ⟨lw_p69, List.forall_mem_cons.mpr ⟨lw_p70, List.forall_mem_cons.mpr ⟨lw_p71, List.forall_mem_cons.mpr ⟨lw_p72, List.forall_mem_cons.mpr ⟨lw_p73, List.forall_mem_cons.mpr ⟨lw_p74, List.forall_mem_cons.mpr ⟨lw_p75, List.forall_mem_cons.mpr ⟨lw_p76, List.forall_mem_cons.mpr ⟨lw_p77, List.forall_mem_cons.mpr ⟨lw_p78, List.forall_mem_cons.mpr ⟨lw_p79, fun _ h => absurd h List.not_mem_nil⟩⟩⟩⟩⟩⟩⟩⟩⟩⟩⟩⟩⟩⟩⟩⟩
theorem lw_p80 : lw_okq (⟨"ReelBackModel", "isPerson", "(I)Z"⟩, 87) := ⟨⟨by decide +kernel, by decide +kernel⟩, List.mem_of_getElem? (i := 1256) (by decide +kernel), List.mem_of_getElem? (i := 1583) (by decide +kernel), List.mem_of_getElem? (i := 1584) (by decide +kernel)⟩
theorem lw_p81 : lw_okq (⟨"ReelBackModel", "livesIn", "(IIII)Z"⟩, 87) := ⟨⟨by decide +kernel, by decide +kernel⟩, List.mem_of_getElem? (i := 1256) (by decide +kernel), List.mem_of_getElem? (i := 1591) (by decide +kernel), List.mem_of_getElem? (i := 1592) (by decide +kernel)⟩
theorem lw_p82 : lw_okq (⟨"ReelBackModel", "pointsOf", "(III)I"⟩, 87) := ⟨⟨by decide +kernel, by decide +kernel⟩, List.mem_of_getElem? (i := 1256) (by decide +kernel), List.mem_of_getElem? (i := 1607) (by decide +kernel), List.mem_of_getElem? (i := 1608) (by decide +kernel)⟩
theorem lw_p83 : lw_okq (⟨"ReelBackModel", "isCost", "(I)Z"⟩, 87) := ⟨⟨by decide +kernel, by decide +kernel⟩, List.mem_of_getElem? (i := 1256) (by decide +kernel), List.mem_of_getElem? (i := 1626) (by decide +kernel), List.mem_of_getElem? (i := 1627) (by decide +kernel)⟩
theorem lw_p84 : lw_okq (⟨"ReelBackModel", "ofCost", "(II)I"⟩, 87) := ⟨⟨by decide +kernel, by decide +kernel⟩, List.mem_of_getElem? (i := 1256) (by decide +kernel), List.mem_of_getElem? (i := 1631) (by decide +kernel), List.mem_of_getElem? (i := 1632) (by decide +kernel)⟩
theorem lw_p85 : lw_okq (⟨"ReelBackModel", "coinsOf", "(II)I"⟩, 87) := ⟨⟨by decide +kernel, by decide +kernel⟩, List.mem_of_getElem? (i := 1256) (by decide +kernel), List.mem_of_getElem? (i := 1635) (by decide +kernel), List.mem_of_getElem? (i := 1636) (by decide +kernel)⟩
theorem lw_p86 : lw_okq (⟨"ReelBackModel", "findLikes", "(II)I"⟩, 87) := ⟨⟨by decide +kernel, by decide +kernel⟩, List.mem_of_getElem? (i := 1256) (by decide +kernel), List.mem_of_getElem? (i := 1647) (by decide +kernel), List.mem_of_getElem? (i := 1648) (by decide +kernel)⟩
theorem lw_p87 : lw_okq (⟨"ReelBackModel", "workOut", "(II)I"⟩, 87) := ⟨⟨by decide +kernel, by decide +kernel⟩, List.mem_of_getElem? (i := 1256) (by decide +kernel), List.mem_of_getElem? (i := 1662) (by decide +kernel), List.mem_of_getElem? (i := 1663) (by decide +kernel)⟩
theorem lw_p88 : lw_okq (⟨"ReelBackModel", "either", "()I"⟩, 87) := ⟨⟨by decide +kernel, by decide +kernel⟩, List.mem_of_getElem? (i := 1256) (by decide +kernel), List.mem_of_getElem? (i := 1666) (by decide +kernel), List.mem_of_getElem? (i := 1667) (by decide +kernel)⟩
theorem lw_p89 : lw_okq (⟨"ReelBackModel", "both", "()I"⟩, 87) := ⟨⟨by decide +kernel, by decide +kernel⟩, List.mem_of_getElem? (i := 1256) (by decide +kernel), List.mem_of_getElem? (i := 1670) (by decide +kernel), List.mem_of_getElem? (i := 1671) (by decide +kernel)⟩
theorem lw_p90 : lw_okq (⟨"ReelBackModel", "compared", "()I"⟩, 87) := ⟨⟨by decide +kernel, by decide +kernel⟩, List.mem_of_getElem? (i := 1256) (by decide +kernel), List.mem_of_getElem? (i := 1674) (by decide +kernel), List.mem_of_getElem? (i := 1675) (by decide +kernel)⟩
theorem lw_p91 : lw_okq (⟨"ReelBackModel", "sums", "()I"⟩, 87) := ⟨⟨by decide +kernel, by decide +kernel⟩, List.mem_of_getElem? (i := 1256) (by decide +kernel), List.mem_of_getElem? (i := 1678) (by decide +kernel), List.mem_of_getElem? (i := 1679) (by decide +kernel)⟩
theorem lw_p92 : lw_okq (⟨"ReelBackModel", "product", "()I"⟩, 87) := ⟨⟨by decide +kernel, by decide +kernel⟩, List.mem_of_getElem? (i := 1256) (by decide +kernel), List.mem_of_getElem? (i := 1682) (by decide +kernel), List.mem_of_getElem? (i := 1683) (by decide +kernel)⟩
theorem lw_p93 : lw_okq (⟨"ReelBackModel", "one", "()I"⟩, 87) := ⟨⟨by decide +kernel, by decide +kernel⟩, List.mem_of_getElem? (i := 1256) (by decide +kernel), List.mem_of_getElem? (i := 1686) (by decide +kernel), List.mem_of_getElem? (i := 1687) (by decide +kernel)⟩
theorem lw_p94 : lw_okq (⟨"ReelBackModel", "byteAt", "()I"⟩, 87) := ⟨⟨by decide +kernel, by decide +kernel⟩, List.mem_of_getElem? (i := 1256) (by decide +kernel), List.mem_of_getElem? (i := 1690) (by decide +kernel), List.mem_of_getElem? (i := 1691) (by decide +kernel)⟩
theorem lw_p95 : lw_okq (⟨"ReelBackModel", "wrong", "()I"⟩, 87) := ⟨⟨by decide +kernel, by decide +kernel⟩, List.mem_of_getElem? (i := 1256) (by decide +kernel), List.mem_of_getElem? (i := 1694) (by decide +kernel), List.mem_of_getElem? (i := 1695) (by decide +kernel)⟩
def lw_privs_6 : List (MethodName × Nat) := [(⟨"ReelBackModel", "isPerson", "(I)Z"⟩, 87), (⟨"ReelBackModel", "livesIn", "(IIII)Z"⟩, 87), (⟨"ReelBackModel", "pointsOf", "(III)I"⟩, 87), (⟨"ReelBackModel", "isCost", "(I)Z"⟩, 87), (⟨"ReelBackModel", "ofCost", "(II)I"⟩, 87), (⟨"ReelBackModel", "coinsOf", "(II)I"⟩, 87), (⟨"ReelBackModel", "findLikes", "(II)I"⟩, 87), (⟨"ReelBackModel", "workOut", "(II)I"⟩, 87), (⟨"ReelBackModel", "either", "()I"⟩, 87), (⟨"ReelBackModel", "both", "()I"⟩, 87), (⟨"ReelBackModel", "compared", "()I"⟩, 87), (⟨"ReelBackModel", "sums", "()I"⟩, 87), (⟨"ReelBackModel", "product", "()I"⟩, 87), (⟨"ReelBackModel", "one", "()I"⟩, 87), (⟨"ReelBackModel", "byteAt", "()I"⟩, 87), (⟨"ReelBackModel", "wrong", "()I"⟩, 87)]
theorem lw_r6 : ∀ q ∈ lw_privs_6, lw_okq q := List.forall_mem_cons.mpr ⟨lw_p80, List.forall_mem_cons.mpr ⟨lw_p81, List.forall_mem_cons.mpr ⟨lw_p82, List.forall_mem_cons.mpr ⟨lw_p83, List.forall_mem_cons.mpr ⟨lw_p84, List.forall_mem_cons.mpr ⟨lw_p85, List.forall_mem_cons.mpr ⟨lw_p86, List.forall_mem_cons.mpr ⟨lw_p87, List.forall_mem_cons.mpr ⟨lw_p88, List.forall_mem_cons.mpr ⟨lw_p89, List.forall_mem_cons.mpr ⟨lw_p90, List.forall_mem_cons.mpr ⟨lw_p91, List.forall_mem_cons.mpr ⟨lw_p92, List.forall_mem_cons.mpr ⟨lw_p93, List.forall_mem_cons.mpr ⟨lw_p94, List.forall_mem_cons.mpr ⟨lw_p95, fun _ h => absurd h List.not_mem_nil⟩⟩⟩⟩⟩⟩⟩⟩⟩⟩⟩⟩⟩⟩⟩⟩
theorem lw_p96 : lw_okq (⟨"ReelBackModel", "takes", "(I)Z"⟩, 87) := ⟨⟨by decide +kernel, by decide +kernel⟩, List.mem_of_getElem? (i := 1256) (by decide +kernel), List.mem_of_getElem? (i := 1698) (by decide +kernel), List.mem_of_getElem? (i := 1699) (by decide +kernel)⟩
theorem lw_p97 : lw_okq (⟨"ReelBackModel", "named", "(I)I"⟩, 87) := ⟨⟨by decide +kernel, by decide +kernel⟩, List.mem_of_getElem? (i := 1256) (by decide +kernel), List.mem_of_getElem? (i := 1705) (by decide +kernel), List.mem_of_getElem? (i := 1706) (by decide +kernel)⟩
theorem lw_p98 : lw_okq (⟨"ReelBackModel", "isLocal", "(II)Z"⟩, 87) := ⟨⟨by decide +kernel, by decide +kernel⟩, List.mem_of_getElem? (i := 1256) (by decide +kernel), List.mem_of_getElem? (i := 1709) (by decide +kernel), List.mem_of_getElem? (i := 1710) (by decide +kernel)⟩
theorem lw_p99 : lw_okq (⟨"ReelBackModel", "force", "(III)I"⟩, 87) := ⟨⟨by decide +kernel, by decide +kernel⟩, List.mem_of_getElem? (i := 1256) (by decide +kernel), List.mem_of_getElem? (i := 1717) (by decide +kernel), List.mem_of_getElem? (i := 1718) (by decide +kernel)⟩
theorem lw_p100 : lw_okq (⟨"ReelBackModel", "lawOf", "(IIIII)I"⟩, 87) := ⟨⟨by decide +kernel, by decide +kernel⟩, List.mem_of_getElem? (i := 1256) (by decide +kernel), List.mem_of_getElem? (i := 1725) (by decide +kernel), List.mem_of_getElem? (i := 1726) (by decide +kernel)⟩
theorem lw_p101 : lw_okq (⟨"ReelBackModel", "nameFilm", "(IIII)V"⟩, 87) := ⟨⟨by decide +kernel, by decide +kernel⟩, List.mem_of_getElem? (i := 1256) (by decide +kernel), List.mem_of_getElem? (i := 1729) (by decide +kernel), List.mem_of_getElem? (i := 1730) (by decide +kernel)⟩
theorem lw_p102 : lw_okq (⟨"ReelBackModel", "landsOf", "(I)I"⟩, 87) := ⟨⟨by decide +kernel, by decide +kernel⟩, List.mem_of_getElem? (i := 1256) (by decide +kernel), List.mem_of_getElem? (i := 1733) (by decide +kernel), List.mem_of_getElem? (i := 1734) (by decide +kernel)⟩
theorem lw_p103 : lw_okq (⟨"ReelBackModel", "gives", "(IIIIII)I"⟩, 87) := ⟨⟨by decide +kernel, by decide +kernel⟩, List.mem_of_getElem? (i := 1256) (by decide +kernel), List.mem_of_getElem? (i := 1740) (by decide +kernel), List.mem_of_getElem? (i := 1741) (by decide +kernel)⟩
theorem lw_p104 : lw_okq (⟨"ReelBackModel", "countedOf", "(II)I"⟩, 87) := ⟨⟨by decide +kernel, by decide +kernel⟩, List.mem_of_getElem? (i := 1256) (by decide +kernel), List.mem_of_getElem? (i := 1748) (by decide +kernel), List.mem_of_getElem? (i := 1749) (by decide +kernel)⟩
theorem lw_p105 : lw_okq (⟨"ReelBackModel", "isLater", "(I)Z"⟩, 87) := ⟨⟨by decide +kernel, by decide +kernel⟩, List.mem_of_getElem? (i := 1256) (by decide +kernel), List.mem_of_getElem? (i := 1752) (by decide +kernel), List.mem_of_getElem? (i := 1753) (by decide +kernel)⟩
theorem lw_p106 : lw_okq (⟨"ReelBackModel", "areDouble", "(II)Z"⟩, 87) := ⟨⟨by decide +kernel, by decide +kernel⟩, List.mem_of_getElem? (i := 1256) (by decide +kernel), List.mem_of_getElem? (i := 1756) (by decide +kernel), List.mem_of_getElem? (i := 1757) (by decide +kernel)⟩
theorem lw_p107 : lw_okq (⟨"ReelBackModel", "countsTwice", "(II)Z"⟩, 87) := ⟨⟨by decide +kernel, by decide +kernel⟩, List.mem_of_getElem? (i := 1256) (by decide +kernel), List.mem_of_getElem? (i := 1760) (by decide +kernel), List.mem_of_getElem? (i := 1761) (by decide +kernel)⟩
theorem lw_p108 : lw_okq (⟨"ReelBackModel", "isRelated", "(II)Z"⟩, 87) := ⟨⟨by decide +kernel, by decide +kernel⟩, List.mem_of_getElem? (i := 1256) (by decide +kernel), List.mem_of_getElem? (i := 1764) (by decide +kernel), List.mem_of_getElem? (i := 1765) (by decide +kernel)⟩
theorem lw_p109 : lw_okq (⟨"ReelBackModel", "areRelated", "(III)Z"⟩, 87) := ⟨⟨by decide +kernel, by decide +kernel⟩, List.mem_of_getElem? (i := 1256) (by decide +kernel), List.mem_of_getElem? (i := 1768) (by decide +kernel), List.mem_of_getElem? (i := 1769) (by decide +kernel)⟩
theorem lw_p110 : lw_okq (⟨"ReelBackModel", "fairOf", "(II)I"⟩, 87) := ⟨⟨by decide +kernel, by decide +kernel⟩, List.mem_of_getElem? (i := 1256) (by decide +kernel), List.mem_of_getElem? (i := 1772) (by decide +kernel), List.mem_of_getElem? (i := 1773) (by decide +kernel)⟩
theorem lw_p111 : lw_okq (⟨"ReelBackModel", "baseOf", "(IIII)I"⟩, 87) := ⟨⟨by decide +kernel, by decide +kernel⟩, List.mem_of_getElem? (i := 1256) (by decide +kernel), List.mem_of_getElem? (i := 1783) (by decide +kernel), List.mem_of_getElem? (i := 1784) (by decide +kernel)⟩
def lw_privs_7 : List (MethodName × Nat) := [(⟨"ReelBackModel", "takes", "(I)Z"⟩, 87), (⟨"ReelBackModel", "named", "(I)I"⟩, 87), (⟨"ReelBackModel", "isLocal", "(II)Z"⟩, 87), (⟨"ReelBackModel", "force", "(III)I"⟩, 87), (⟨"ReelBackModel", "lawOf", "(IIIII)I"⟩, 87), (⟨"ReelBackModel", "nameFilm", "(IIII)V"⟩, 87), (⟨"ReelBackModel", "landsOf", "(I)I"⟩, 87), (⟨"ReelBackModel", "gives", "(IIIIII)I"⟩, 87), (⟨"ReelBackModel", "countedOf", "(II)I"⟩, 87), (⟨"ReelBackModel", "isLater", "(I)Z"⟩, 87), (⟨"ReelBackModel", "areDouble", "(II)Z"⟩, 87), (⟨"ReelBackModel", "countsTwice", "(II)Z"⟩, 87), (⟨"ReelBackModel", "isRelated", "(II)Z"⟩, 87), (⟨"ReelBackModel", "areRelated", "(III)Z"⟩, 87), (⟨"ReelBackModel", "fairOf", "(II)I"⟩, 87), (⟨"ReelBackModel", "baseOf", "(IIII)I"⟩, 87)]
theorem lw_r7 : ∀ q ∈ lw_privs_7, lw_okq q := List.forall_mem_cons.mpr ⟨lw_p96, List.forall_mem_cons.mpr ⟨lw_p97, List.forall_mem_cons.mpr ⟨lw_p98, List.forall_mem_cons.mpr ⟨lw_p99, List.forall_mem_cons.mpr ⟨lw_p100, List.forall_mem_cons.mpr ⟨lw_p101, List.forall_mem_cons.mpr ⟨lw_p102, List.forall_mem_cons.mpr ⟨lw_p103, List.forall_mem_cons.mpr ⟨lw_p104, List.forall_mem_cons.mpr ⟨lw_p105, List.forall_mem_cons.mpr ⟨lw_p106, List.forall_mem_cons.mpr ⟨lw_p107, List.forall_mem_cons.mpr ⟨lw_p108, List.forall_mem_cons.mpr ⟨lw_p109, List.forall_mem_cons.mpr ⟨lw_p110, List.forall_mem_cons.mpr ⟨lw_p111, fun _ h => absurd h List.not_mem_nil⟩⟩⟩⟩⟩⟩⟩⟩⟩⟩⟩⟩⟩⟩⟩⟩
theorem lw_p112 : lw_okq (⟨"ReelBackModel", "dueOf", "(III)I"⟩, 87) := ⟨⟨by decide +kernel, by decide +kernel⟩, List.mem_of_getElem? (i := 1256) (by decide +kernel), List.mem_of_getElem? (i := 1787) (by decide +kernel), List.mem_of_getElem? (i := 1788) (by decide +kernel)⟩
theorem lw_p113 : lw_okq (⟨"ReelBackModel", "isCert", "(I)Z"⟩, 87) := ⟨⟨by decide +kernel, by decide +kernel⟩, List.mem_of_getElem? (i := 1256) (by decide +kernel), List.mem_of_getElem? (i := 1806) (by decide +kernel), List.mem_of_getElem? (i := 1807) (by decide +kernel)⟩
theorem lw_p114 : lw_okq (⟨"ReelBackModel", "givenTo", "(I)I"⟩, 87) := ⟨⟨by decide +kernel, by decide +kernel⟩, List.mem_of_getElem? (i := 1256) (by decide +kernel), List.mem_of_getElem? (i := 1810) (by decide +kernel), List.mem_of_getElem? (i := 1811) (by decide +kernel)⟩
theorem lw_p115 : lw_okq (⟨"ReelBackModel", "findDues", "(I)V"⟩, 87) := ⟨⟨by decide +kernel, by decide +kernel⟩, List.mem_of_getElem? (i := 1256) (by decide +kernel), List.mem_of_getElem? (i := 1814) (by decide +kernel), List.mem_of_getElem? (i := 1815) (by decide +kernel)⟩
theorem lw_p116 : lw_okq (⟨"ReelBackModel", "goYear", "(II)V"⟩, 87) := ⟨⟨by decide +kernel, by decide +kernel⟩, List.mem_of_getElem? (i := 1256) (by decide +kernel), List.mem_of_getElem? (i := 1818) (by decide +kernel), List.mem_of_getElem? (i := 1819) (by decide +kernel)⟩
theorem lw_p117 : lw_okq (⟨"ReelBackModel", "pay", "(II)V"⟩, 87) := ⟨⟨by decide +kernel, by decide +kernel⟩, List.mem_of_getElem? (i := 1256) (by decide +kernel), List.mem_of_getElem? (i := 1834) (by decide +kernel), List.mem_of_getElem? (i := 1835) (by decide +kernel)⟩
theorem lw_p118 : lw_okq (⟨"ReelBackModel", "repayRank", "(III)I"⟩, 87) := ⟨⟨by decide +kernel, by decide +kernel⟩, List.mem_of_getElem? (i := 1256) (by decide +kernel), List.mem_of_getElem? (i := 1838) (by decide +kernel), List.mem_of_getElem? (i := 1839) (by decide +kernel)⟩
theorem lw_p119 : lw_okq (⟨"ReelBackModel", "tryMoves", "(IIIIZ)V"⟩, 87) := ⟨⟨by decide +kernel, by decide +kernel⟩, List.mem_of_getElem? (i := 1256) (by decide +kernel), List.mem_of_getElem? (i := 1863) (by decide +kernel), List.mem_of_getElem? (i := 1864) (by decide +kernel)⟩
theorem lw_p120 : lw_okq (⟨"ReelBackModel", "audited", "(I)I"⟩, 87) := ⟨⟨by decide +kernel, by decide +kernel⟩, List.mem_of_getElem? (i := 1256) (by decide +kernel), List.mem_of_getElem? (i := 1883) (by decide +kernel), List.mem_of_getElem? (i := 1884) (by decide +kernel)⟩
theorem lw_p121 : lw_okq (⟨"ReelBackModel", "costsOf", "(I)I"⟩, 87) := ⟨⟨by decide +kernel, by decide +kernel⟩, List.mem_of_getElem? (i := 1256) (by decide +kernel), List.mem_of_getElem? (i := 1895) (by decide +kernel), List.mem_of_getElem? (i := 1896) (by decide +kernel)⟩
theorem lw_p122 : lw_okq (⟨"ReelBackModel", "spends", "(II)I"⟩, 87) := ⟨⟨by decide +kernel, by decide +kernel⟩, List.mem_of_getElem? (i := 1256) (by decide +kernel), List.mem_of_getElem? (i := 1920) (by decide +kernel), List.mem_of_getElem? (i := 1921) (by decide +kernel)⟩
theorem lw_p123 : lw_okq (⟨"ReelBackModel", "begins", "(I)V"⟩, 87) := ⟨⟨by decide +kernel, by decide +kernel⟩, List.mem_of_getElem? (i := 1256) (by decide +kernel), List.mem_of_getElem? (i := 1924) (by decide +kernel), List.mem_of_getElem? (i := 1925) (by decide +kernel)⟩
theorem lw_p124 : lw_okq (⟨"ReelBackModel", "counts", "(II)I"⟩, 87) := ⟨⟨by decide +kernel, by decide +kernel⟩, List.mem_of_getElem? (i := 1256) (by decide +kernel), List.mem_of_getElem? (i := 1931) (by decide +kernel), List.mem_of_getElem? (i := 1932) (by decide +kernel)⟩
theorem lw_p125 : lw_okq (⟨"ReelBackModel", "proves", "(II)I"⟩, 87) := ⟨⟨by decide +kernel, by decide +kernel⟩, List.mem_of_getElem? (i := 1256) (by decide +kernel), List.mem_of_getElem? (i := 1935) (by decide +kernel), List.mem_of_getElem? (i := 1936) (by decide +kernel)⟩
def lw_privs_8 : List (MethodName × Nat) := [(⟨"ReelBackModel", "dueOf", "(III)I"⟩, 87), (⟨"ReelBackModel", "isCert", "(I)Z"⟩, 87), (⟨"ReelBackModel", "givenTo", "(I)I"⟩, 87), (⟨"ReelBackModel", "findDues", "(I)V"⟩, 87), (⟨"ReelBackModel", "goYear", "(II)V"⟩, 87), (⟨"ReelBackModel", "pay", "(II)V"⟩, 87), (⟨"ReelBackModel", "repayRank", "(III)I"⟩, 87), (⟨"ReelBackModel", "tryMoves", "(IIIIZ)V"⟩, 87), (⟨"ReelBackModel", "audited", "(I)I"⟩, 87), (⟨"ReelBackModel", "costsOf", "(I)I"⟩, 87), (⟨"ReelBackModel", "spends", "(II)I"⟩, 87), (⟨"ReelBackModel", "begins", "(I)V"⟩, 87), (⟨"ReelBackModel", "counts", "(II)I"⟩, 87), (⟨"ReelBackModel", "proves", "(II)I"⟩, 87)]
theorem lw_r8 : ∀ q ∈ lw_privs_8, lw_okq q := List.forall_mem_cons.mpr ⟨lw_p112, List.forall_mem_cons.mpr ⟨lw_p113, List.forall_mem_cons.mpr ⟨lw_p114, List.forall_mem_cons.mpr ⟨lw_p115, List.forall_mem_cons.mpr ⟨lw_p116, List.forall_mem_cons.mpr ⟨lw_p117, List.forall_mem_cons.mpr ⟨lw_p118, List.forall_mem_cons.mpr ⟨lw_p119, List.forall_mem_cons.mpr ⟨lw_p120, List.forall_mem_cons.mpr ⟨lw_p121, List.forall_mem_cons.mpr ⟨lw_p122, List.forall_mem_cons.mpr ⟨lw_p123, List.forall_mem_cons.mpr ⟨lw_p124, List.forall_mem_cons.mpr ⟨lw_p125, fun _ h => absurd h List.not_mem_nil⟩⟩⟩⟩⟩⟩⟩⟩⟩⟩⟩⟩⟩⟩
def lw_privs : List (MethodName × Nat) := lw_privs_1 ++ (lw_privs_2 ++ (lw_privs_3 ++ (lw_privs_4 ++ (lw_privs_5 ++ (lw_privs_6 ++ (lw_privs_7 ++ (lw_privs_8)))))))
def lw_tbl : List Cond := k2_sels lw_privs ++ tables_1
theorem lw_privs_ok : ∀ q ∈ lw_privs, lw_okq q := by
  show ∀ q ∈ lw_privs_1 ++ (lw_privs_2 ++ (lw_privs_3 ++ (lw_privs_4 ++ (lw_privs_5 ++ (lw_privs_6 ++ (lw_privs_7 ++ (lw_privs_8))))))), lw_okq q
  exact List.forall_mem_append.mpr ⟨lw_r1, List.forall_mem_append.mpr ⟨lw_r2, List.forall_mem_append.mpr ⟨lw_r3, List.forall_mem_append.mpr ⟨lw_r4, List.forall_mem_append.mpr ⟨lw_r5, List.forall_mem_append.mpr ⟨lw_r6, List.forall_mem_append.mpr ⟨lw_r7, lw_r8⟩⟩⟩⟩⟩⟩⟩
end
section
/-! names, fields and tables of the program, laid out by a program of ours (wip/tools) -/
def RX0 : String := "ReelBack$Acts"
def TX0 : u_T := fun k => match k with
  | 0 => ("ReelBack$Acts", "codes", "[[I", true)
  | 1 => ("ReelBack$Acts", "what", "[I", true)
  | 2 => ("ReelBack$Acts", "made", "[I", true)
  | 3 => ("ReelBack$Acts", "from", "[I", true)
  | 4 => ("ReelBack$Acts", "asksHome", "[Z", true)
  | 5 => ("ReelBack$Acts", "facts", "[I", true)
  | 6 => ("ReelBack$Acts", "stack", "[I", true)
  | 7 => ("ReelBack$Acts", "size", "I", false)
  | 8 => ("ReelBack$Acts", "tried", "I", false)
  | 9 => ("ReelBack$Acts", "line", "I", false)
  | _ => ("ReelBack$Acts", "held", "I", false)
def tyX0 : Nat → FieldType := fun k => match k with
  | 0 => .array (.array .int)
  | 1 => .array .int
  | 2 => .array .int
  | 3 => .array .int
  | 4 => .array .boolean
  | 5 => .array .int
  | 6 => .array .int
  | 7 => .int
  | 8 => .int
  | 9 => .int
  | _ => .int
theorem nmX0 : ∀ a, a < 11 → ∀ b, b < 11 → a ≠ b → (TX0 a).2.1 ≠ (TX0 b).2.1 := by decide +kernel
theorem tyX0_ok : ∀ k, k < 11 → parseFieldDescriptor (TX0 k).2.2.1 = some (tyX0 k) := by decide +kernel
abbrev cX0_init : ByteArray := prog_2_method_1_code
def yX0_init : MethodName := ⟨RX0, "<init>", "()V"⟩
abbrev cX0_has : ByteArray := prog_2_method_2_code
def yX0_has : MethodName := ⟨RX0, "has", "(I)Z"⟩
abbrev cX0_add : ByteArray := prog_2_method_3_code
def yX0_add : MethodName := ⟨RX0, "add", "(IIILReelBack$Reader;)I"⟩
abbrev cX0_find : ByteArray := prog_2_method_4_code
def yX0_find : MethodName := ⟨RX0, "find", "(III)I"⟩
abbrev cX0_run : ByteArray := prog_2_method_5_code
def yX0_run : MethodName := ⟨RX0, "run", "(I)I"⟩
abbrev cX0_endOfLine : ByteArray := prog_2_method_6_code
def yX0_endOfLine : MethodName := ⟨RX0, "endOfLine", "([II)I"⟩
abbrev cX0_push : ByteArray := prog_2_method_7_code
def yX0_push : MethodName := ⟨RX0, "push", "(I)V"⟩
abbrev cX0_pop : ByteArray := prog_2_method_8_code
def yX0_pop : MethodName := ⟨RX0, "pop", "()I"⟩
abbrev cX0_join : ByteArray := prog_2_method_9_code
def yX0_join : MethodName := ⟨RX0, "join", "(III)I"⟩
def RX1 : String := "ReelBack$Claims"
def TX1 : u_T := fun k => match k with
  | 0 => ("ReelBack$Claims", "houses", "LReelBack$Houses;", true)
  | 1 => ("ReelBack$Claims", "films", "LReelBack$Films;", true)
  | 2 => ("ReelBack$Claims", "persons", "LReelBack$Persons;", true)
  | 3 => ("ReelBack$Claims", "prices", "LReelBack$Prices;", true)
  | 4 => ("ReelBack$Claims", "costs", "LReelBack$Costs;", true)
  | 5 => ("ReelBack$Claims", "acts", "LReelBack$Acts;", true)
  | _ => ("ReelBack$Claims", "line", "I", false)
def tyX1 : Nat → FieldType := fun k => match k with
  | 0 => .object "ReelBack$Houses"
  | 1 => .object "ReelBack$Films"
  | 2 => .object "ReelBack$Persons"
  | 3 => .object "ReelBack$Prices"
  | 4 => .object "ReelBack$Costs"
  | 5 => .object "ReelBack$Acts"
  | _ => .int
theorem nmX1 : ∀ a, a < 7 → ∀ b, b < 7 → a ≠ b → (TX1 a).2.1 ≠ (TX1 b).2.1 := by decide +kernel
theorem tyX1_ok : ∀ k, k < 7 → parseFieldDescriptor (TX1 k).2.2.1 = some (tyX1 k) := by decide +kernel
abbrev cX1_init : ByteArray := prog_3_method_1_code
def yX1_init : MethodName := ⟨RX1, "<init>", "(LReelBack$Houses;LReelBack$Films;LReelBack$Persons;LReelBack$Prices;LReelBack$Costs;LReelBack$Acts;)V"⟩
abbrev cX1_isRelated : ByteArray := prog_3_method_2_code
def yX1_isRelated : MethodName := ⟨RX1, "isRelated", "(LReelBack$Cost;I)Z"⟩
abbrev cX1_fairOf : ByteArray := prog_3_method_3_code
def yX1_fairOf : MethodName := ⟨RX1, "fairOf", "(LReelBack$Cost;I)I"⟩
abbrev cX1_countedOf : ByteArray := prog_3_method_4_code
def yX1_countedOf : MethodName := ⟨RX1, "countedOf", "(LReelBack$Cost;I)I"⟩
abbrev cX1_hundredthsOf : ByteArray := prog_3_method_5_code
def yX1_hundredthsOf : MethodName := ⟨RX1, "hundredthsOf", "(LReelBack$Cost;I)I"⟩
abbrev cX1_putFilmFacts : ByteArray := prog_3_method_6_code
def yX1_putFilmFacts : MethodName := ⟨RX1, "putFilmFacts", "(IIII)V"⟩
abbrev cX1_lawOf : ByteArray := prog_3_method_7_code
def yX1_lawOf : MethodName := ⟨RX1, "lawOf", "(IIIII)I"⟩
abbrev cX1_baseOf : ByteArray := prog_3_method_8_code
def yX1_baseOf : MethodName := ⟨RX1, "baseOf", "(IIIII)I"⟩
abbrev cX1_dueOf : ByteArray := prog_3_method_9_code
def yX1_dueOf : MethodName := ⟨RX1, "dueOf", "(III)I"⟩
abbrev cX1_gainOf : ByteArray := prog_3_method_10_code
def yX1_gainOf : MethodName := ⟨RX1, "gainOf", "(IIIII)I"⟩
def RX2 : String := "ReelBack$Cost"
def TX2 : u_T := fun k => match k with
  | 0 => ("ReelBack$Cost", "number", "I", true)
  | 1 => ("ReelBack$Cost", "kind", "I", true)
  | 2 => ("ReelBack$Cost", "coins", "I", true)
  | 3 => ("ReelBack$Cost", "toHouse", "Z", true)
  | 4 => ("ReelBack$Cost", "film", "I", true)
  | 5 => ("ReelBack$Cost", "episode", "I", true)
  | 6 => ("ReelBack$Cost", "land", "I", true)
  | 7 => ("ReelBack$Cost", "day", "I", true)
  | 8 => ("ReelBack$Cost", "who", "I", true)
  | 9 => ("ReelBack$Cost", "receipt", "I", true)
  | 10 => ("ReelBack$Cost", "sort", "I", true)
  | 11 => ("ReelBack$Cost", "auditedOn", "I", false)
  | _ => ("ReelBack$Cost", "tooMuch", "I", false)
def tyX2 : Nat → FieldType := fun k => match k with
  | 0 => .int
  | 1 => .int
  | 2 => .int
  | 3 => .boolean
  | 4 => .int
  | 5 => .int
  | 6 => .int
  | 7 => .int
  | 8 => .int
  | 9 => .int
  | 10 => .int
  | 11 => .int
  | _ => .int
theorem nmX2 : ∀ a, a < 13 → ∀ b, b < 13 → a ≠ b → (TX2 a).2.1 ≠ (TX2 b).2.1 := by decide +kernel
theorem tyX2_ok : ∀ k, k < 13 → parseFieldDescriptor (TX2 k).2.2.1 = some (tyX2 k) := by decide +kernel
abbrev cX2_init : ByteArray := prog_4_method_1_code
def yX2_init : MethodName := ⟨RX2, "<init>", "(III[I)V"⟩
abbrev cX2_coinsBy : ByteArray := prog_4_method_2_code
def yX2_coinsBy : MethodName := ⟨RX2, "coinsBy", "(I)I"⟩
abbrev cX2_audited : ByteArray := prog_4_method_3_code
def yX2_audited : MethodName := ⟨RX2, "audited", "()I"⟩
abbrev cX2_isTwiceWith : ByteArray := prog_4_method_4_code
def yX2_isTwiceWith : MethodName := ⟨RX2, "isTwiceWith", "(LReelBack$Cost;)Z"⟩
def RX3 : String := "ReelBack$Costs"
def TX3 : u_T := fun k => match k with
  | 0 => ("ReelBack$Costs", "rows", "[LReelBack$Cost;", true)
  | 1 => ("ReelBack$Costs", "draft", "[I", true)
  | 2 => ("ReelBack$Costs", "bodies", "[I", true)
  | 3 => ("ReelBack$Costs", "landsOf", "[I", true)
  | 4 => ("ReelBack$Costs", "size", "I", false)
  | 5 => ("ReelBack$Costs", "auditedOnes", "I", false)
  | 6 => ("ReelBack$Costs", "ran", "I", false)
  | _ => ("ReelBack$Costs", "z", "I", false)
def tyX3 : Nat → FieldType := fun k => match k with
  | 0 => .array (.object "ReelBack$Cost")
  | 1 => .array .int
  | 2 => .array .int
  | 3 => .array .int
  | 4 => .int
  | 5 => .int
  | 6 => .int
  | _ => .int
theorem nmX3 : ∀ a, a < 8 → ∀ b, b < 8 → a ≠ b → (TX3 a).2.1 ≠ (TX3 b).2.1 := by decide +kernel
theorem tyX3_ok : ∀ k, k < 8 → parseFieldDescriptor (TX3 k).2.2.1 = some (tyX3 k) := by decide +kernel
abbrev cX3_init : ByteArray := prog_5_method_1_code
def yX3_init : MethodName := ⟨RX3, "<init>", "()V"⟩
abbrev cX3_aboveOf : ByteArray := prog_5_method_2_code
def yX3_aboveOf : MethodName := ⟨RX3, "aboveOf", "(I)I"⟩
abbrev cX3_isUnder : ByteArray := prog_5_method_3_code
def yX3_isUnder : MethodName := ⟨RX3, "isUnder", "(II)Z"⟩
abbrev cX3_at : ByteArray := prog_5_method_4_code
def yX3_at : MethodName := ⟨RX3, "at", "(I)LReelBack$Cost;"⟩
abbrev cX3_add : ByteArray := prog_5_method_5_code
def yX3_add : MethodName := ⟨RX3, "add", "(II)I"⟩
abbrev cX3_isLaterDouble : ByteArray := prog_5_method_6_code
def yX3_isLaterDouble : MethodName := ⟨RX3, "isLaterDouble", "(LReelBack$Cost;)Z"⟩
abbrev cX3_areTwice : ByteArray := prog_5_method_7_code
def yX3_areTwice : MethodName := ⟨RX3, "areTwice", "(LReelBack$Cost;LReelBack$Cost;)Z"⟩
abbrev cX3_twos : ByteArray := prog_5_method_8_code
def yX3_twos : MethodName := ⟨RX3, "twos", "(I)I"⟩
abbrev cX3_find : ByteArray := prog_5_method_9_code
def yX3_find : MethodName := ⟨RX3, "find", "(LReelBack$Cost;II)I"⟩
abbrev cX3_isOpen : ByteArray := prog_5_method_10_code
def yX3_isOpen : MethodName := ⟨RX3, "isOpen", "(II)Z"⟩
abbrev cX3_drawOf : ByteArray := prog_5_method_11_code
def yX3_drawOf : MethodName := ⟨RX3, "drawOf", "(I)I"⟩
abbrev cX3_boundOf : ByteArray := prog_5_method_12_code
def yX3_boundOf : MethodName := ⟨RX3, "boundOf", "(I)I"⟩
abbrev cX3_isLikely : ByteArray := prog_5_method_13_code
def yX3_isLikely : MethodName := ⟨RX3, "isLikely", "(IIII)Z"⟩
abbrev cX3_choices : ByteArray := prog_5_method_14_code
def yX3_choices : MethodName := ⟨RX3, "choices", "(II)J"⟩
abbrev cX3_bodyOf : ByteArray := prog_5_method_15_code
def yX3_bodyOf : MethodName := ⟨RX3, "bodyOf", "(II)I"⟩
abbrev cX3_kindWithBody : ByteArray := prog_5_method_16_code
def yX3_kindWithBody : MethodName := ⟨RX3, "kindWithBody", "(II)I"⟩
abbrev cX3_perform : ByteArray := prog_5_method_17_code
def yX3_perform : MethodName := ⟨RX3, "perform", "(LReelBack$Cost;IIIII)I"⟩
def RX4 : String := "ReelBack$Films"
def TX4 : u_T := fun k => match k with
  | 0 => ("ReelBack$Films", "houseOf", "[I", true)
  | 1 => ("ReelBack$Films", "episodesOf", "[I", true)
  | 2 => ("ReelBack$Films", "pointFilm", "[I", true)
  | 3 => ("ReelBack$Films", "pointLand", "[I", true)
  | 4 => ("ReelBack$Films", "pointSize", "[I", true)
  | 5 => ("ReelBack$Films", "provedOn", "[I", true)
  | 6 => ("ReelBack$Films", "size", "I", false)
  | _ => ("ReelBack$Films", "tellings", "I", false)
def tyX4 : Nat → FieldType := fun k => match k with
  | 0 => .array .int
  | 1 => .array .int
  | 2 => .array .int
  | 3 => .array .int
  | 4 => .array .int
  | 5 => .array .int
  | 6 => .int
  | _ => .int
theorem nmX4 : ∀ a, a < 8 → ∀ b, b < 8 → a ≠ b → (TX4 a).2.1 ≠ (TX4 b).2.1 := by decide +kernel
theorem tyX4_ok : ∀ k, k < 8 → parseFieldDescriptor (TX4 k).2.2.1 = some (tyX4 k) := by decide +kernel
abbrev cX4_init : ByteArray := prog_6_method_1_code
def yX4_init : MethodName := ⟨RX4, "<init>", "()V"⟩
abbrev cX4_has : ByteArray := prog_6_method_2_code
def yX4_has : MethodName := ⟨RX4, "has", "(I)Z"⟩
abbrev cX4_add : ByteArray := prog_6_method_3_code
def yX4_add : MethodName := ⟨RX4, "add", "(II)I"⟩
abbrev cX4_hasPoints : ByteArray := prog_6_method_4_code
def yX4_hasPoints : MethodName := ⟨RX4, "hasPoints", "(I)Z"⟩
abbrev cX4_tellPoints : ByteArray := prog_6_method_5_code
def yX4_tellPoints : MethodName := ⟨RX4, "tellPoints", "(III)I"⟩
abbrev cX4_provePoints : ByteArray := prog_6_method_6_code
def yX4_provePoints : MethodName := ⟨RX4, "provePoints", "(II)I"⟩
abbrev cX4_pointsBy : ByteArray := prog_6_method_7_code
def yX4_pointsBy : MethodName := ⟨RX4, "pointsBy", "(III)I"⟩
def RX5 : String := "ReelBack$Houses"
def TX5 : u_T := fun k => match k with
  | 0 => ("ReelBack$Houses", "landOf", "[I", true)
  | 1 => ("ReelBack$Houses", "purseOf", "[I", true)
  | 2 => ("ReelBack$Houses", "relatedOn", "[I", true)
  | _ => ("ReelBack$Houses", "size", "I", false)
def tyX5 : Nat → FieldType := fun k => match k with
  | 0 => .array .int
  | 1 => .array .int
  | 2 => .array .int
  | _ => .int
theorem nmX5 : ∀ a, a < 4 → ∀ b, b < 4 → a ≠ b → (TX5 a).2.1 ≠ (TX5 b).2.1 := by decide +kernel
theorem tyX5_ok : ∀ k, k < 4 → parseFieldDescriptor (TX5 k).2.2.1 = some (tyX5 k) := by decide +kernel
abbrev cX5_init : ByteArray := prog_7_method_1_code
def yX5_init : MethodName := ⟨RX5, "<init>", "()V"⟩
abbrev cX5_has : ByteArray := prog_7_method_2_code
def yX5_has : MethodName := ⟨RX5, "has", "(I)Z"⟩
abbrev cX5_isIn : ByteArray := prog_7_method_3_code
def yX5_isIn : MethodName := ⟨RX5, "isIn", "(II)Z"⟩
abbrev cX5_add : ByteArray := prog_7_method_4_code
def yX5_add : MethodName := ⟨RX5, "add", "(I)I"⟩
abbrev cX5_areRelatedBy : ByteArray := prog_7_method_5_code
def yX5_areRelatedBy : MethodName := ⟨RX5, "areRelatedBy", "(III)Z"⟩
abbrev cX5_tie : ByteArray := prog_7_method_6_code
def yX5_tie : MethodName := ⟨RX5, "tie", "(III)I"⟩
abbrev cX5_pay : ByteArray := prog_7_method_7_code
def yX5_pay : MethodName := ⟨RX5, "pay", "(II)V"⟩
abbrev cX5_allPurses : ByteArray := prog_7_method_8_code
def yX5_allPurses : MethodName := ⟨RX5, "allPurses", "()I"⟩
def RX6 : String := "ReelBack$Persons"
def TX6 : u_T := fun k => match k with
  | 0 => ("ReelBack$Persons", "homeOf", "[I", true)
  | 1 => ("ReelBack$Persons", "stayPerson", "[I", true)
  | 2 => ("ReelBack$Persons", "stayLand", "[I", true)
  | 3 => ("ReelBack$Persons", "stayFrom", "[I", true)
  | 4 => ("ReelBack$Persons", "stayTo", "[I", true)
  | 5 => ("ReelBack$Persons", "stayTold", "[I", true)
  | 6 => ("ReelBack$Persons", "landAt", "[I", true)
  | 7 => ("ReelBack$Persons", "size", "I", false)
  | _ => ("ReelBack$Persons", "stays", "I", false)
def tyX6 : Nat → FieldType := fun k => match k with
  | 0 => .array .int
  | 1 => .array .int
  | 2 => .array .int
  | 3 => .array .int
  | 4 => .array .int
  | 5 => .array .int
  | 6 => .array .int
  | 7 => .int
  | _ => .int
theorem nmX6 : ∀ a, a < 9 → ∀ b, b < 9 → a ≠ b → (TX6 a).2.1 ≠ (TX6 b).2.1 := by decide +kernel
theorem tyX6_ok : ∀ k, k < 9 → parseFieldDescriptor (TX6 k).2.2.1 = some (tyX6 k) := by decide +kernel
abbrev cX6_init : ByteArray := prog_8_method_1_code
def yX6_init : MethodName := ⟨RX6, "<init>", "()V"⟩
abbrev cX6_has : ByteArray := prog_8_method_2_code
def yX6_has : MethodName := ⟨RX6, "has", "(I)Z"⟩
abbrev cX6_add : ByteArray := prog_8_method_3_code
def yX6_add : MethodName := ⟨RX6, "add", "(I)I"⟩
abbrev cX6_tellStay : ByteArray := prog_8_method_4_code
def yX6_tellStay : MethodName := ⟨RX6, "tellStay", "(IIIII)I"⟩
abbrev cX6_livesIn : ByteArray := prog_8_method_5_code
def yX6_livesIn : MethodName := ⟨RX6, "livesIn", "(IIII)Z"⟩
def RX7 : String := "ReelBack$Prices"
def TX7 : u_T := fun k => match k with
  | 0 => ("ReelBack$Prices", "coinFrom", "[I", true)
  | 1 => ("ReelBack$Prices", "coinWorth", "[I", true)
  | 2 => ("ReelBack$Prices", "coinsTold", "[I", true)
  | 3 => ("ReelBack$Prices", "likeSort", "[I", true)
  | 4 => ("ReelBack$Prices", "likeLand", "[I", true)
  | 5 => ("ReelBack$Prices", "likeDay", "[I", true)
  | 6 => ("ReelBack$Prices", "likePrice", "[I", true)
  | 7 => ("ReelBack$Prices", "likeTold", "[I", true)
  | 8 => ("ReelBack$Prices", "sorted", "[I", true)
  | 9 => ("ReelBack$Prices", "likes", "I", false)
  | _ => ("ReelBack$Prices", "found", "I", false)
def tyX7 : Nat → FieldType := fun k => match k with
  | 0 => .array .int
  | 1 => .array .int
  | 2 => .array .int
  | 3 => .array .int
  | 4 => .array .int
  | 5 => .array .int
  | 6 => .array .int
  | 7 => .array .int
  | 8 => .array .int
  | 9 => .int
  | _ => .int
theorem nmX7 : ∀ a, a < 11 → ∀ b, b < 11 → a ≠ b → (TX7 a).2.1 ≠ (TX7 b).2.1 := by decide +kernel
theorem tyX7_ok : ∀ k, k < 11 → parseFieldDescriptor (TX7 k).2.2.1 = some (tyX7 k) := by decide +kernel
abbrev cX7_init : ByteArray := prog_9_method_1_code
def yX7_init : MethodName := ⟨RX7, "<init>", "()V"⟩
abbrev cX7_tellCoin : ByteArray := prog_9_method_2_code
def yX7_tellCoin : MethodName := ⟨RX7, "tellCoin", "(III)I"⟩
abbrev cX7_coinOf : ByteArray := prog_9_method_3_code
def yX7_coinOf : MethodName := ⟨RX7, "coinOf", "(II)I"⟩
abbrev cX7_tellLike : ByteArray := prog_9_method_4_code
def yX7_tellLike : MethodName := ⟨RX7, "tellLike", "(IIIII)I"⟩
abbrev cX7_gatherLikes : ByteArray := prog_9_method_5_code
def yX7_gatherLikes : MethodName := ⟨RX7, "gatherLikes", "(IIII)I"⟩
abbrev cX7_putSorted : ByteArray := prog_9_method_6_code
def yX7_putSorted : MethodName := ⟨RX7, "putSorted", "(I)V"⟩
abbrev cX7_middleLike : ByteArray := prog_9_method_7_code
def yX7_middleLike : MethodName := ⟨RX7, "middleLike", "()I"⟩
def RX8 : String := "ReelBack$Queue"
def TX8 : u_T := fun k => match k with
  | 0 => ("ReelBack$Queue", "houses", "LReelBack$Houses;", true)
  | 1 => ("ReelBack$Queue", "films", "LReelBack$Films;", true)
  | 2 => ("ReelBack$Queue", "claims", "LReelBack$Claims;", true)
  | 3 => ("ReelBack$Queue", "caps", "[I", true)
  | 4 => ("ReelBack$Queue", "filmOf", "[I", true)
  | 5 => ("ReelBack$Queue", "landOf", "[I", true)
  | 6 => ("ReelBack$Queue", "askedIn", "[I", true)
  | 7 => ("ReelBack$Queue", "advances", "[I", true)
  | 8 => ("ReelBack$Queue", "settled", "[Z", true)
  | 9 => ("ReelBack$Queue", "wants", "[I", true)
  | 10 => ("ReelBack$Queue", "gave", "[I", true)
  | 11 => ("ReelBack$Queue", "loanOn", "[I", true)
  | 12 => ("ReelBack$Queue", "loanCoins", "[I", true)
  | 13 => ("ReelBack$Queue", "loanRank", "[I", true)
  | 14 => ("ReelBack$Queue", "loanPaid", "[I", true)
  | 15 => ("ReelBack$Queue", "rests", "[J", true)
  | 16 => ("ReelBack$Queue", "size", "I", false)
  | 17 => ("ReelBack$Queue", "loans", "I", false)
  | _ => ("ReelBack$Queue", "wholeIn", "I", false)
def tyX8 : Nat → FieldType := fun k => match k with
  | 0 => .object "ReelBack$Houses"
  | 1 => .object "ReelBack$Films"
  | 2 => .object "ReelBack$Claims"
  | 3 => .array .int
  | 4 => .array .int
  | 5 => .array .int
  | 6 => .array .int
  | 7 => .array .int
  | 8 => .array .boolean
  | 9 => .array .int
  | 10 => .array .int
  | 11 => .array .int
  | 12 => .array .int
  | 13 => .array .int
  | 14 => .array .int
  | 15 => .array .long
  | 16 => .int
  | 17 => .int
  | _ => .int
theorem nmX8 : ∀ a, a < 19 → ∀ b, b < 19 → a ≠ b → (TX8 a).2.1 ≠ (TX8 b).2.1 := by decide +kernel
theorem tyX8_ok : ∀ k, k < 19 → parseFieldDescriptor (TX8 k).2.2.1 = some (tyX8 k) := by decide +kernel
abbrev cX8_init : ByteArray := prog_10_method_1_code
def yX8_init : MethodName := ⟨RX8, "<init>", "(LReelBack$Houses;LReelBack$Films;LReelBack$Claims;)V"⟩
abbrev cX8_has : ByteArray := prog_10_method_2_code
def yX8_has : MethodName := ⟨RX8, "has", "(I)Z"⟩
abbrev cX8_add : ByteArray := prog_10_method_3_code
def yX8_add : MethodName := ⟨RX8, "add", "(III)I"⟩
abbrev cX8_deal : ByteArray := prog_10_method_4_code
def yX8_deal : MethodName := ⟨RX8, "deal", "(III)I"⟩
abbrev cX8_dealYear : ByteArray := prog_10_method_5_code
def yX8_dealYear : MethodName := ⟨RX8, "dealYear", "(III)I"⟩
abbrev cX8_lend : ByteArray := prog_10_method_6_code
def yX8_lend : MethodName := ⟨RX8, "lend", "(III)I"⟩
abbrev cX8_payHalf : ByteArray := prog_10_method_7_code
def yX8_payHalf : MethodName := ⟨RX8, "payHalf", "(II)I"⟩
abbrev cX8_close : ByteArray := prog_10_method_8_code
def yX8_close : MethodName := ⟨RX8, "close", "(II)I"⟩
abbrev cX8_payOut : ByteArray := prog_10_method_9_code
def yX8_payOut : MethodName := ⟨RX8, "payOut", "(II)V"⟩
abbrev cX8_isOf : ByteArray := prog_10_method_10_code
def yX8_isOf : MethodName := ⟨RX8, "isOf", "(III)Z"⟩
abbrev cX8_repay : ByteArray := prog_10_method_11_code
def yX8_repay : MethodName := ⟨RX8, "repay", "(III)I"⟩
abbrev cX8_payRests : ByteArray := prog_10_method_12_code
def yX8_payRests : MethodName := ⟨RX8, "payRests", "(I)V"⟩
abbrev cX8_allRepaid : ByteArray := prog_10_method_13_code
def yX8_allRepaid : MethodName := ⟨RX8, "allRepaid", "()I"⟩
def RX9 : String := "ReelBack$Reader"
def TX9 : u_T := fun k => match k with
  | 0 => ("ReelBack$Reader", "tape", "[I", true)
  | 1 => ("ReelBack$Reader", "codes", "[I", true)
  | 2 => ("ReelBack$Reader", "tapeSize", "I", false)
  | 3 => ("ReelBack$Reader", "size", "I", false)
  | 4 => ("ReelBack$Reader", "at", "I", false)
  | _ => ("ReelBack$Reader", "sound", "Z", false)
def tyX9 : Nat → FieldType := fun k => match k with
  | 0 => .array .int
  | 1 => .array .int
  | 2 => .int
  | 3 => .int
  | 4 => .int
  | _ => .boolean
theorem nmX9 : ∀ a, a < 6 → ∀ b, b < 6 → a ≠ b → (TX9 a).2.1 ≠ (TX9 b).2.1 := by decide +kernel
theorem tyX9_ok : ∀ k, k < 6 → parseFieldDescriptor (TX9 k).2.2.1 = some (tyX9 k) := by decide +kernel
abbrev cX9_init : ByteArray := prog_11_method_1_code
def yX9_init : MethodName := ⟨RX9, "<init>", "()V"⟩
abbrev cX9_take : ByteArray := prog_11_method_2_code
def yX9_take : MethodName := ⟨RX9, "take", "(II)I"⟩
abbrev cX9_compile : ByteArray := prog_11_method_3_code
def yX9_compile : MethodName := ⟨RX9, "compile", "()I"⟩
abbrev cX9_next : ByteArray := prog_11_method_4_code
def yX9_next : MethodName := ⟨RX9, "next", "()I"⟩
abbrev cX9_put : ByteArray := prog_11_method_5_code
def yX9_put : MethodName := ⟨RX9, "put", "(I)V"⟩
abbrev cX9_readLine : ByteArray := prog_11_method_6_code
def yX9_readLine : MethodName := ⟨RX9, "readLine", "()V"⟩
abbrev cX9_readPart : ByteArray := prog_11_method_7_code
def yX9_readPart : MethodName := ⟨RX9, "readPart", "(II)V"⟩
abbrev cX9_isSign : ByteArray := prog_11_method_8_code
def yX9_isSign : MethodName := ⟨RX9, "isSign", "(II)Z"⟩
abbrev cX9_readOperand : ByteArray := prog_11_method_9_code
def yX9_readOperand : MethodName := ⟨RX9, "readOperand", "(I)V"⟩
abbrev cX9_readNumber : ByteArray := prog_11_method_10_code
def yX9_readNumber : MethodName := ⟨RX9, "readNumber", "()V"⟩
def RX10 : String := "ReelBack$Treaty"
def TX10 : u_T := fun k => match k with
  | 0 => ("ReelBack$Treaty", "claims", "LReelBack$Claims;", true)
  | 1 => ("ReelBack$Treaty", "coinsOf", "[I", true)
  | 2 => ("ReelBack$Treaty", "landsOf", "[I", true)
  | 3 => ("ReelBack$Treaty", "chosenLand", "[I", true)
  | 4 => ("ReelBack$Treaty", "partner", "[I", true)
  | 5 => ("ReelBack$Treaty", "rate", "[I", true)
  | 6 => ("ReelBack$Treaty", "sums", "[I", true)
  | 7 => ("ReelBack$Treaty", "way", "[I", true)
  | 8 => ("ReelBack$Treaty", "partners", "I", false)
  | 9 => ("ReelBack$Treaty", "size", "I", false)
  | 10 => ("ReelBack$Treaty", "chosen", "I", false)
  | _ => ("ReelBack$Treaty", "lost", "I", false)
def tyX10 : Nat → FieldType := fun k => match k with
  | 0 => .object "ReelBack$Claims"
  | 1 => .array .int
  | 2 => .array .int
  | 3 => .array .int
  | 4 => .array .int
  | 5 => .array .int
  | 6 => .array .int
  | 7 => .array .int
  | 8 => .int
  | 9 => .int
  | 10 => .int
  | _ => .int
theorem nmX10 : ∀ a, a < 12 → ∀ b, b < 12 → a ≠ b → (TX10 a).2.1 ≠ (TX10 b).2.1 := by decide +kernel
theorem tyX10_ok : ∀ k, k < 12 → parseFieldDescriptor (TX10 k).2.2.1 = some (tyX10 k) := by decide +kernel
abbrev cX10_init : ByteArray := prog_12_method_1_code
def yX10_init : MethodName := ⟨RX10, "<init>", "(LReelBack$Claims;)V"⟩
abbrev cX10_add : ByteArray := prog_12_method_2_code
def yX10_add : MethodName := ⟨RX10, "add", "(II)I"⟩
abbrev cX10_findBest : ByteArray := prog_12_method_3_code
def yX10_findBest : MethodName := ⟨RX10, "findBest", "(IIII)I"⟩
abbrev cX10_seat : ByteArray := prog_12_method_4_code
def yX10_seat : MethodName := ⟨RX10, "seat", "(III)V"⟩
abbrev cX10_readWay : ByteArray := prog_12_method_5_code
def yX10_readWay : MethodName := ⟨RX10, "readWay", "(I)V"⟩
abbrev cX10_worthOf : ByteArray := prog_12_method_6_code
def yX10_worthOf : MethodName := ⟨RX10, "worthOf", "(I)I"⟩
abbrev cX10_isFair : ByteArray := prog_12_method_7_code
def yX10_isFair : MethodName := ⟨RX10, "isFair", "(I)Z"⟩
def RX11 : String := "ReelBack"
def TX11 : u_T := fun k => match k with
  | 0 => ("ReelBack", "houses", "LReelBack$Houses;", true)
  | 1 => ("ReelBack", "films", "LReelBack$Films;", true)
  | 2 => ("ReelBack", "persons", "LReelBack$Persons;", true)
  | 3 => ("ReelBack", "prices", "LReelBack$Prices;", true)
  | 4 => ("ReelBack", "costs", "LReelBack$Costs;", true)
  | 5 => ("ReelBack", "reader", "LReelBack$Reader;", true)
  | 6 => ("ReelBack", "acts", "LReelBack$Acts;", true)
  | 7 => ("ReelBack", "claims", "LReelBack$Claims;", true)
  | 8 => ("ReelBack", "queue", "LReelBack$Queue;", true)
  | 9 => ("ReelBack", "treaty", "LReelBack$Treaty;", true)
  | _ => ("ReelBack", "today", "I", false)
def tyX11 : Nat → FieldType := fun k => match k with
  | 0 => .object "ReelBack$Houses"
  | 1 => .object "ReelBack$Films"
  | 2 => .object "ReelBack$Persons"
  | 3 => .object "ReelBack$Prices"
  | 4 => .object "ReelBack$Costs"
  | 5 => .object "ReelBack$Reader"
  | 6 => .object "ReelBack$Acts"
  | 7 => .object "ReelBack$Claims"
  | 8 => .object "ReelBack$Queue"
  | 9 => .object "ReelBack$Treaty"
  | _ => .int
theorem nmX11 : ∀ a, a < 11 → ∀ b, b < 11 → a ≠ b → (TX11 a).2.1 ≠ (TX11 b).2.1 := by decide +kernel
theorem tyX11_ok : ∀ k, k < 11 → parseFieldDescriptor (TX11 k).2.2.1 = some (tyX11 k) := by decide +kernel
abbrev cX11_init : ByteArray := prog_1_method_1_code
def yX11_init : MethodName := ⟨RX11, "<init>", "()V"⟩
abbrev cX11_days : ByteArray := prog_1_method_2_code
def yX11_days : MethodName := ⟨RX11, "days", "(I)I"⟩
abbrev cX11_coin : ByteArray := prog_1_method_3_code
def yX11_coin : MethodName := ⟨RX11, "coin", "(III)I"⟩
abbrev cX11_coinOn : ByteArray := prog_1_method_4_code
def yX11_coinOn : MethodName := ⟨RX11, "coinOn", "(II)I"⟩
abbrev cX11_house : ByteArray := prog_1_method_5_code
def yX11_house : MethodName := ⟨RX11, "house", "(I)I"⟩
abbrev cX11_relate : ByteArray := prog_1_method_6_code
def yX11_relate : MethodName := ⟨RX11, "relate", "(II)I"⟩
abbrev cX11_film : ByteArray := prog_1_method_7_code
def yX11_film : MethodName := ⟨RX11, "film", "(II)I"⟩
abbrev cX11_sell : ByteArray := prog_1_method_8_code
def yX11_sell : MethodName := ⟨RX11, "sell", "(II)I"⟩
abbrev cX11_person : ByteArray := prog_1_method_9_code
def yX11_person : MethodName := ⟨RX11, "person", "(I)I"⟩
abbrev cX11_stay : ByteArray := prog_1_method_10_code
def yX11_stay : MethodName := ⟨RX11, "stay", "(IIII)I"⟩
abbrev cX11_lives : ByteArray := prog_1_method_11_code
def yX11_lives : MethodName := ⟨RX11, "lives", "(IIII)I"⟩
abbrev cX11_point : ByteArray := prog_1_method_12_code
def yX11_point : MethodName := ⟨RX11, "point", "(III)I"⟩
abbrev cX11_prove : ByteArray := prog_1_method_13_code
def yX11_prove : MethodName := ⟨RX11, "prove", "(I)I"⟩
abbrev cX11_points : ByteArray := prog_1_method_14_code
def yX11_points : MethodName := ⟨RX11, "points", "(III)I"⟩
abbrev cX11_set : ByteArray := prog_1_method_15_code
def yX11_set : MethodName := ⟨RX11, "set", "(II)I"⟩
abbrev cX11_cost : ByteArray := prog_1_method_16_code
def yX11_cost : MethodName := ⟨RX11, "cost", "(II)I"⟩
abbrev cX11_of : ByteArray := prog_1_method_17_code
def yX11_of : MethodName := ⟨RX11, "of", "(II)I"⟩
abbrev cX11_like : ByteArray := prog_1_method_18_code
def yX11_like : MethodName := ⟨RX11, "like", "(IIII)I"⟩
abbrev cX11_span : ByteArray := prog_1_method_19_code
def yX11_span : MethodName := ⟨RX11, "span", "(III)I"⟩
abbrev cX11_counted : ByteArray := prog_1_method_20_code
def yX11_counted : MethodName := ⟨RX11, "counted", "(III)I"⟩
abbrev cX11_base : ByteArray := prog_1_method_21_code
def yX11_base : MethodName := ⟨RX11, "base", "(IIIII)I"⟩
abbrev cX11_feed : ByteArray := prog_1_method_22_code
def yX11_feed : MethodName := ⟨RX11, "feed", "(II)I"⟩
abbrev cX11_text : ByteArray := prog_1_method_23_code
def yX11_text : MethodName := ⟨RX11, "text", "(II)I"⟩
abbrev cX11_inForce : ByteArray := prog_1_method_24_code
def yX11_inForce : MethodName := ⟨RX11, "inForce", "(III)I"⟩
abbrev cX11_law : ByteArray := prog_1_method_25_code
def yX11_law : MethodName := ⟨RX11, "law", "(IIIII)I"⟩
abbrev cX11_cap : ByteArray := prog_1_method_26_code
def yX11_cap : MethodName := ⟨RX11, "cap", "(III)I"⟩
abbrev cX11_ask : ByteArray := prog_1_method_27_code
def yX11_ask : MethodName := ⟨RX11, "ask", "(II)I"⟩
abbrev cX11_given : ByteArray := prog_1_method_28_code
def yX11_given : MethodName := ⟨RX11, "given", "(II)I"⟩
abbrev cX11_foretold : ByteArray := prog_1_method_29_code
def yX11_foretold : MethodName := ⟨RX11, "foretold", "(I)I"⟩
abbrev cX11_loan : ByteArray := prog_1_method_30_code
def yX11_loan : MethodName := ⟨RX11, "loan", "(IIII)I"⟩
abbrev cX11_advance : ByteArray := prog_1_method_31_code
def yX11_advance : MethodName := ⟨RX11, "advance", "(I)I"⟩
abbrev cX11_settle : ByteArray := prog_1_method_32_code
def yX11_settle : MethodName := ⟨RX11, "settle", "(I)I"⟩
abbrev cX11_repaid : ByteArray := prog_1_method_33_code
def yX11_repaid : MethodName := ⟨RX11, "repaid", "(II)I"⟩
abbrev cX11_got : ByteArray := prog_1_method_34_code
def yX11_got : MethodName := ⟨RX11, "got", "(I)I"⟩
abbrev cX11_move : ByteArray := prog_1_method_35_code
def yX11_move : MethodName := ⟨RX11, "move", "(II)I"⟩
abbrev cX11_split : ByteArray := prog_1_method_36_code
def yX11_split : MethodName := ⟨RX11, "split", "(III)I"⟩
abbrev cX11_moved : ByteArray := prog_1_method_37_code
def yX11_moved : MethodName := ⟨RX11, "moved", "(I)I"⟩
abbrev cX11_without : ByteArray := prog_1_method_38_code
def yX11_without : MethodName := ⟨RX11, "without", "()I"⟩
abbrev cX11_gain : ByteArray := prog_1_method_39_code
def yX11_gain : MethodName := ⟨RX11, "gain", "(IIIII)I"⟩
abbrev cX11_audit : ByteArray := prog_1_method_40_code
def yX11_audit : MethodName := ⟨RX11, "audit", "(II)I"⟩
abbrev cX11_lots : ByteArray := prog_1_method_41_code
def yX11_lots : MethodName := ⟨RX11, "lots", "(I)I"⟩
abbrev cX11_draw : ByteArray := prog_1_method_42_code
def yX11_draw : MethodName := ⟨RX11, "draw", "(I)I"⟩
abbrev cX11_bound : ByteArray := prog_1_method_43_code
def yX11_bound : MethodName := ⟨RX11, "bound", "(I)I"⟩
abbrev cX11_tryText : ByteArray := prog_1_method_44_code
def yX11_tryText : MethodName := ⟨RX11, "tryText", "(I)I"⟩
abbrev cX11_twice : ByteArray := prog_1_method_45_code
def yX11_twice : MethodName := ⟨RX11, "twice", "(I)I"⟩
abbrev cX11_act : ByteArray := prog_1_method_46_code
def yX11_act : MethodName := ⟨RX11, "act", "(III)I"⟩
abbrev cX11_trace : ByteArray := prog_1_method_47_code
def yX11_trace : MethodName := ⟨RX11, "trace", "(I)I"⟩
abbrev cX11_taken : ByteArray := prog_1_method_48_code
def yX11_taken : MethodName := ⟨RX11, "taken", "(II)I"⟩
abbrev cX11_count : ByteArray := prog_1_method_49_code
def yX11_count : MethodName := ⟨RX11, "count", "(I)I"⟩
abbrev cX11_within : ByteArray := prog_1_method_50_code
def yX11_within : MethodName := ⟨RX11, "within", "(III)Z"⟩
abbrev cX11_isLand : ByteArray := prog_1_method_51_code
def yX11_isLand : MethodName := ⟨RX11, "isLand", "(I)Z"⟩
abbrev cX11_isDay : ByteArray := prog_1_method_52_code
def yX11_isDay : MethodName := ⟨RX11, "isDay", "(I)Z"⟩
abbrev cX11_isAct : ByteArray := prog_1_method_53_code
def yX11_isAct : MethodName := ⟨RX11, "isAct", "(I)Z"⟩
abbrev cX11_isDraftSound : ByteArray := prog_1_method_54_code
def yX11_isDraftSound : MethodName := ⟨RX11, "isDraftSound", "(I)Z"⟩
def RX12 : String := "ReelBackModel"
def TX12 : u_T := fun k => match k with
  | 0 => ("ReelBackModel", "day", "I", false)
  | 1 => ("ReelBackModel", "z", "I", false)
  | 2 => ("ReelBackModel", "coinFrom", "[I", true)
  | 3 => ("ReelBackModel", "coinIs", "[I", true)
  | 4 => ("ReelBackModel", "coinMany", "[I", true)
  | 5 => ("ReelBackModel", "houseLand", "[I", true)
  | 6 => ("ReelBackModel", "houseGot", "[I", true)
  | 7 => ("ReelBackModel", "houses", "I", false)
  | 8 => ("ReelBackModel", "related", "[I", true)
  | 9 => ("ReelBackModel", "filmHouse", "[I", true)
  | 10 => ("ReelBackModel", "episodes", "[I", true)
  | 11 => ("ReelBackModel", "films", "I", false)
  | 12 => ("ReelBackModel", "home", "[I", true)
  | 13 => ("ReelBackModel", "persons", "I", false)
  | 14 => ("ReelBackModel", "stayOf", "[I", true)
  | 15 => ("ReelBackModel", "stayLand", "[I", true)
  | 16 => ("ReelBackModel", "stayFrom", "[I", true)
  | 17 => ("ReelBackModel", "stayTo", "[I", true)
  | 18 => ("ReelBackModel", "stayTold", "[I", true)
  | 19 => ("ReelBackModel", "stays", "I", false)
  | 20 => ("ReelBackModel", "pointFilm", "[I", true)
  | 21 => ("ReelBackModel", "pointLand", "[I", true)
  | 22 => ("ReelBackModel", "pointMany", "[I", true)
  | 23 => ("ReelBackModel", "pointProved", "[I", true)
  | 24 => ("ReelBackModel", "pointings", "I", false)
  | 25 => ("ReelBackModel", "set", "[I", true)
  | 26 => ("ReelBackModel", "kind", "[I", true)
  | 27 => ("ReelBackModel", "was", "[I", true)
  | 28 => ("ReelBackModel", "coins", "[I", true)
  | 29 => ("ReelBackModel", "late", "[I", true)
  | 30 => ("ReelBackModel", "auditedOn", "[I", true)
  | 31 => ("ReelBackModel", "costs", "I", false)
  | 32 => ("ReelBackModel", "likeSort", "[I", true)
  | 33 => ("ReelBackModel", "likeLand", "[I", true)
  | 34 => ("ReelBackModel", "likeDay", "[I", true)
  | 35 => ("ReelBackModel", "likePrice", "[I", true)
  | 36 => ("ReelBackModel", "likeTold", "[I", true)
  | 37 => ("ReelBackModel", "likes", "I", false)
  | 38 => ("ReelBackModel", "tape", "[I", true)
  | 39 => ("ReelBackModel", "tapeMany", "I", false)
  | 40 => ("ReelBackModel", "text", "[I", true)
  | 41 => ("ReelBackModel", "textMany", "[I", true)
  | 42 => ("ReelBackModel", "textWhat", "[I", true)
  | 43 => ("ReelBackModel", "textMade", "[I", true)
  | 44 => ("ReelBackModel", "textFrom", "[I", true)
  | 45 => ("ReelBackModel", "texts", "I", false)
  | 46 => ("ReelBackModel", "caps", "[I", true)
  | 47 => ("ReelBackModel", "certFilm", "[I", true)
  | 48 => ("ReelBackModel", "certLand", "[I", true)
  | 49 => ("ReelBackModel", "certOn", "[I", true)
  | 50 => ("ReelBackModel", "advanced", "[I", true)
  | 51 => ("ReelBackModel", "isSettled", "[Z", true)
  | 52 => ("ReelBackModel", "certificates", "I", false)
  | 53 => ("ReelBackModel", "loanOn", "[I", true)
  | 54 => ("ReelBackModel", "loanCoins", "[I", true)
  | 55 => ("ReelBackModel", "loanRank", "[I", true)
  | 56 => ("ReelBackModel", "loanGot", "[I", true)
  | 57 => ("ReelBackModel", "loans", "I", false)
  | 58 => ("ReelBackModel", "where", "[I", true)
  | 59 => ("ReelBackModel", "sorted", "[I", true)
  | 60 => ("ReelBackModel", "base", "I", false)
  | 61 => ("ReelBackModel", "at", "I", false)
  | 62 => ("ReelBackModel", "ends", "I", false)
  | 63 => ("ReelBackModel", "fault", "I", false)
  | 64 => ("ReelBackModel", "open", "I", false)
  | 65 => ("ReelBackModel", "names", "[I", true)
  | 66 => ("ReelBackModel", "livesOf", "I", false)
  | 67 => ("ReelBackModel", "livesOn", "I", false)
  | 68 => ("ReelBackModel", "byLine", "I", false)
  | 69 => ("ReelBackModel", "tried", "I", false)
  | 70 => ("ReelBackModel", "due", "[I", true)
  | 71 => ("ReelBackModel", "has", "[I", true)
  | 72 => ("ReelBackModel", "inYear", "[I", true)
  | 73 => ("ReelBackModel", "rest", "[J", true)
  | 74 => ("ReelBackModel", "moveCoins", "[I", true)
  | 75 => ("ReelBackModel", "moveLands", "[I", true)
  | 76 => ("ReelBackModel", "moves", "I", false)
  | 77 => ("ReelBackModel", "trying", "[I", true)
  | 78 => ("ReelBackModel", "moved", "[I", true)
  | 79 => ("ReelBackModel", "movedMany", "I", false)
  | 80 => ("ReelBackModel", "without", "I", false)
  | 81 => ("ReelBackModel", "rates", "[I", true)
  | 82 => ("ReelBackModel", "spent", "[I", true)
  | 83 => ("ReelBackModel", "bestBack", "I", false)
  | 84 => ("ReelBackModel", "trace", "[I", true)
  | 85 => ("ReelBackModel", "ran", "I", false)
  | _ => ("ReelBackModel", "runs", "I", false)
def tyX12 : Nat → FieldType := fun k => match k with
  | 0 => .int
  | 1 => .int
  | 2 => .array .int
  | 3 => .array .int
  | 4 => .array .int
  | 5 => .array .int
  | 6 => .array .int
  | 7 => .int
  | 8 => .array .int
  | 9 => .array .int
  | 10 => .array .int
  | 11 => .int
  | 12 => .array .int
  | 13 => .int
  | 14 => .array .int
  | 15 => .array .int
  | 16 => .array .int
  | 17 => .array .int
  | 18 => .array .int
  | 19 => .int
  | 20 => .array .int
  | 21 => .array .int
  | 22 => .array .int
  | 23 => .array .int
  | 24 => .int
  | 25 => .array .int
  | 26 => .array .int
  | 27 => .array .int
  | 28 => .array .int
  | 29 => .array .int
  | 30 => .array .int
  | 31 => .int
  | 32 => .array .int
  | 33 => .array .int
  | 34 => .array .int
  | 35 => .array .int
  | 36 => .array .int
  | 37 => .int
  | 38 => .array .int
  | 39 => .int
  | 40 => .array .int
  | 41 => .array .int
  | 42 => .array .int
  | 43 => .array .int
  | 44 => .array .int
  | 45 => .int
  | 46 => .array .int
  | 47 => .array .int
  | 48 => .array .int
  | 49 => .array .int
  | 50 => .array .int
  | 51 => .array .boolean
  | 52 => .int
  | 53 => .array .int
  | 54 => .array .int
  | 55 => .array .int
  | 56 => .array .int
  | 57 => .int
  | 58 => .array .int
  | 59 => .array .int
  | 60 => .int
  | 61 => .int
  | 62 => .int
  | 63 => .int
  | 64 => .int
  | 65 => .array .int
  | 66 => .int
  | 67 => .int
  | 68 => .int
  | 69 => .int
  | 70 => .array .int
  | 71 => .array .int
  | 72 => .array .int
  | 73 => .array .long
  | 74 => .array .int
  | 75 => .array .int
  | 76 => .int
  | 77 => .array .int
  | 78 => .array .int
  | 79 => .int
  | 80 => .int
  | 81 => .array .int
  | 82 => .array .int
  | 83 => .int
  | 84 => .array .int
  | 85 => .int
  | _ => .int
theorem nmX12 : ∀ a, a < 87 → ∀ b, b < 87 → a ≠ b → (TX12 a).2.1 ≠ (TX12 b).2.1 := by decide +kernel
theorem tyX12_ok : ∀ k, k < 87 → parseFieldDescriptor (TX12 k).2.2.1 = some (tyX12 k) := by decide +kernel
abbrev cX12_init : ByteArray := prog_14_method_1_code
def yX12_init : MethodName := ⟨RX12, "<init>", "()V"⟩
abbrev cX12_within : ByteArray := prog_14_method_2_code
def yX12_within : MethodName := ⟨RX12, "within", "(III)Z"⟩
abbrev cX12_isDay : ByteArray := prog_14_method_3_code
def yX12_isDay : MethodName := ⟨RX12, "isDay", "(I)Z"⟩
abbrev cX12_isLand : ByteArray := prog_14_method_4_code
def yX12_isLand : MethodName := ⟨RX12, "isLand", "(I)Z"⟩
abbrev cX12_isYear : ByteArray := prog_14_method_5_code
def yX12_isYear : MethodName := ⟨RX12, "isYear", "(I)Z"⟩
abbrev cX12_isHouse : ByteArray := prog_14_method_6_code
def yX12_isHouse : MethodName := ⟨RX12, "isHouse", "(I)Z"⟩
abbrev cX12_isFilm : ByteArray := prog_14_method_7_code
def yX12_isFilm : MethodName := ⟨RX12, "isFilm", "(I)Z"⟩
abbrev cX12_isPerson : ByteArray := prog_14_method_8_code
def yX12_isPerson : MethodName := ⟨RX12, "isPerson", "(I)Z"⟩
abbrev cX12_isCost : ByteArray := prog_14_method_9_code
def yX12_isCost : MethodName := ⟨RX12, "isCost", "(I)Z"⟩
abbrev cX12_days : ByteArray := prog_14_method_10_code
def yX12_days : MethodName := ⟨RX12, "days", "(I)I"⟩
abbrev cX12_coin : ByteArray := prog_14_method_11_code
def yX12_coin : MethodName := ⟨RX12, "coin", "(III)I"⟩
abbrev cX12_coinAt : ByteArray := prog_14_method_12_code
def yX12_coinAt : MethodName := ⟨RX12, "coinAt", "(II)I"⟩
abbrev cX12_coinOn : ByteArray := prog_14_method_13_code
def yX12_coinOn : MethodName := ⟨RX12, "coinOn", "(II)I"⟩
abbrev cX12_house : ByteArray := prog_14_method_14_code
def yX12_house : MethodName := ⟨RX12, "house", "(I)I"⟩
abbrev cX12_relate : ByteArray := prog_14_method_15_code
def yX12_relate : MethodName := ⟨RX12, "relate", "(II)I"⟩
abbrev cX12_areRelated : ByteArray := prog_14_method_16_code
def yX12_areRelated : MethodName := ⟨RX12, "areRelated", "(III)Z"⟩
abbrev cX12_film : ByteArray := prog_14_method_17_code
def yX12_film : MethodName := ⟨RX12, "film", "(II)I"⟩
abbrev cX12_sell : ByteArray := prog_14_method_18_code
def yX12_sell : MethodName := ⟨RX12, "sell", "(II)I"⟩
abbrev cX12_person : ByteArray := prog_14_method_19_code
def yX12_person : MethodName := ⟨RX12, "person", "(I)I"⟩
abbrev cX12_stay : ByteArray := prog_14_method_20_code
def yX12_stay : MethodName := ⟨RX12, "stay", "(IIII)I"⟩
abbrev cX12_livesIn : ByteArray := prog_14_method_21_code
def yX12_livesIn : MethodName := ⟨RX12, "livesIn", "(IIII)Z"⟩
abbrev cX12_lives : ByteArray := prog_14_method_22_code
def yX12_lives : MethodName := ⟨RX12, "lives", "(IIII)I"⟩
abbrev cX12_point : ByteArray := prog_14_method_23_code
def yX12_point : MethodName := ⟨RX12, "point", "(III)I"⟩
abbrev cX12_prove : ByteArray := prog_14_method_24_code
def yX12_prove : MethodName := ⟨RX12, "prove", "(I)I"⟩
abbrev cX12_pointsOf : ByteArray := prog_14_method_25_code
def yX12_pointsOf : MethodName := ⟨RX12, "pointsOf", "(III)I"⟩
abbrev cX12_points : ByteArray := prog_14_method_26_code
def yX12_points : MethodName := ⟨RX12, "points", "(III)I"⟩
abbrev cX12_set : ByteArray := prog_14_method_27_code
def yX12_set : MethodName := ⟨RX12, "set", "(II)I"⟩
abbrev cX12_toHouse : ByteArray := prog_14_method_28_code
def yX12_toHouse : MethodName := ⟨RX12, "toHouse", "(I)Z"⟩
abbrev cX12_cost : ByteArray := prog_14_method_29_code
def yX12_cost : MethodName := ⟨RX12, "cost", "(II)I"⟩
abbrev cX12_coinsOf : ByteArray := prog_14_method_30_code
def yX12_coinsOf : MethodName := ⟨RX12, "coinsOf", "(II)I"⟩
abbrev cX12_ofCost : ByteArray := prog_14_method_31_code
def yX12_ofCost : MethodName := ⟨RX12, "ofCost", "(II)I"⟩
abbrev cX12_of : ByteArray := prog_14_method_32_code
def yX12_of : MethodName := ⟨RX12, "of", "(II)I"⟩
abbrev cX12_like : ByteArray := prog_14_method_33_code
def yX12_like : MethodName := ⟨RX12, "like", "(IIII)I"⟩
abbrev cX12_findLikes : ByteArray := prog_14_method_34_code
def yX12_findLikes : MethodName := ⟨RX12, "findLikes", "(II)I"⟩
abbrev cX12_span : ByteArray := prog_14_method_35_code
def yX12_span : MethodName := ⟨RX12, "span", "(III)I"⟩
abbrev cX12_isRelated : ByteArray := prog_14_method_36_code
def yX12_isRelated : MethodName := ⟨RX12, "isRelated", "(II)Z"⟩
abbrev cX12_fairOf : ByteArray := prog_14_method_37_code
def yX12_fairOf : MethodName := ⟨RX12, "fairOf", "(II)I"⟩
abbrev cX12_areDouble : ByteArray := prog_14_method_38_code
def yX12_areDouble : MethodName := ⟨RX12, "areDouble", "(II)Z"⟩
abbrev cX12_isLater : ByteArray := prog_14_method_39_code
def yX12_isLater : MethodName := ⟨RX12, "isLater", "(I)Z"⟩
abbrev cX12_feed : ByteArray := prog_14_method_40_code
def yX12_feed : MethodName := ⟨RX12, "feed", "(II)I"⟩
abbrev cX12_byteAt : ByteArray := prog_14_method_41_code
def yX12_byteAt : MethodName := ⟨RX12, "byteAt", "()I"⟩
abbrev cX12_wrong : ByteArray := prog_14_method_42_code
def yX12_wrong : MethodName := ⟨RX12, "wrong", "()I"⟩
abbrev cX12_takes : ByteArray := prog_14_method_43_code
def yX12_takes : MethodName := ⟨RX12, "takes", "(I)Z"⟩
abbrev cX12_either : ByteArray := prog_14_method_44_code
def yX12_either : MethodName := ⟨RX12, "either", "()I"⟩
abbrev cX12_both : ByteArray := prog_14_method_45_code
def yX12_both : MethodName := ⟨RX12, "both", "()I"⟩
abbrev cX12_compared : ByteArray := prog_14_method_46_code
def yX12_compared : MethodName := ⟨RX12, "compared", "()I"⟩
abbrev cX12_sums : ByteArray := prog_14_method_47_code
def yX12_sums : MethodName := ⟨RX12, "sums", "()I"⟩
abbrev cX12_product : ByteArray := prog_14_method_48_code
def yX12_product : MethodName := ⟨RX12, "product", "()I"⟩
abbrev cX12_nameOf : ByteArray := prog_14_method_49_code
def yX12_nameOf : MethodName := ⟨RX12, "nameOf", "(I)I"⟩
abbrev cX12_named : ByteArray := prog_14_method_50_code
def yX12_named : MethodName := ⟨RX12, "named", "(I)I"⟩
abbrev cX12_one : ByteArray := prog_14_method_51_code
def yX12_one : MethodName := ⟨RX12, "one", "()I"⟩
abbrev cX12_workOut : ByteArray := prog_14_method_52_code
def yX12_workOut : MethodName := ⟨RX12, "workOut", "(II)I"⟩
abbrev cX12_isWhat : ByteArray := prog_14_method_53_code
def yX12_isWhat : MethodName := ⟨RX12, "isWhat", "(I)Z"⟩
abbrev cX12_text : ByteArray := prog_14_method_54_code
def yX12_text : MethodName := ⟨RX12, "text", "(II)I"⟩
abbrev cX12_force : ByteArray := prog_14_method_55_code
def yX12_force : MethodName := ⟨RX12, "force", "(III)I"⟩
abbrev cX12_inForce : ByteArray := prog_14_method_56_code
def yX12_inForce : MethodName := ⟨RX12, "inForce", "(III)I"⟩
abbrev cX12_landsOf : ByteArray := prog_14_method_57_code
def yX12_landsOf : MethodName := ⟨RX12, "landsOf", "(I)I"⟩
abbrev cX12_countOf : ByteArray := prog_14_method_58_code
def yX12_countOf : MethodName := ⟨RX12, "countOf", "(I)I"⟩
abbrev cX12_nameFilm : ByteArray := prog_14_method_59_code
def yX12_nameFilm : MethodName := ⟨RX12, "nameFilm", "(IIII)V"⟩
abbrev cX12_gives : ByteArray := prog_14_method_60_code
def yX12_gives : MethodName := ⟨RX12, "gives", "(IIIIII)I"⟩
abbrev cX12_lawOf : ByteArray := prog_14_method_61_code
def yX12_lawOf : MethodName := ⟨RX12, "lawOf", "(IIIII)I"⟩
abbrev cX12_law : ByteArray := prog_14_method_62_code
def yX12_law : MethodName := ⟨RX12, "law", "(IIIII)I"⟩
abbrev cX12_isLocal : ByteArray := prog_14_method_63_code
def yX12_isLocal : MethodName := ⟨RX12, "isLocal", "(II)Z"⟩
abbrev cX12_countsTwice : ByteArray := prog_14_method_64_code
def yX12_countsTwice : MethodName := ⟨RX12, "countsTwice", "(II)Z"⟩
abbrev cX12_countedOf : ByteArray := prog_14_method_65_code
def yX12_countedOf : MethodName := ⟨RX12, "countedOf", "(II)I"⟩
abbrev cX12_counted : ByteArray := prog_14_method_66_code
def yX12_counted : MethodName := ⟨RX12, "counted", "(III)I"⟩
abbrev cX12_baseOf : ByteArray := prog_14_method_67_code
def yX12_baseOf : MethodName := ⟨RX12, "baseOf", "(IIII)I"⟩
abbrev cX12_dueOf : ByteArray := prog_14_method_68_code
def yX12_dueOf : MethodName := ⟨RX12, "dueOf", "(III)I"⟩
abbrev cX12_base : ByteArray := prog_14_method_69_code
def yX12_base : MethodName := ⟨RX12, "base", "(IIIII)I"⟩
abbrev cX12_cap : ByteArray := prog_14_method_70_code
def yX12_cap : MethodName := ⟨RX12, "cap", "(III)I"⟩
abbrev cX12_ask : ByteArray := prog_14_method_71_code
def yX12_ask : MethodName := ⟨RX12, "ask", "(II)I"⟩
abbrev cX12_findDues : ByteArray := prog_14_method_72_code
def yX12_findDues : MethodName := ⟨RX12, "findDues", "(I)V"⟩
abbrev cX12_goYear : ByteArray := prog_14_method_73_code
def yX12_goYear : MethodName := ⟨RX12, "goYear", "(II)V"⟩
abbrev cX12_isCert : ByteArray := prog_14_method_74_code
def yX12_isCert : MethodName := ⟨RX12, "isCert", "(I)Z"⟩
abbrev cX12_givenTo : ByteArray := prog_14_method_75_code
def yX12_givenTo : MethodName := ⟨RX12, "givenTo", "(I)I"⟩
abbrev cX12_given : ByteArray := prog_14_method_76_code
def yX12_given : MethodName := ⟨RX12, "given", "(II)I"⟩
abbrev cX12_foretold : ByteArray := prog_14_method_77_code
def yX12_foretold : MethodName := ⟨RX12, "foretold", "(I)I"⟩
abbrev cX12_loan : ByteArray := prog_14_method_78_code
def yX12_loan : MethodName := ⟨RX12, "loan", "(IIII)I"⟩
abbrev cX12_repayRank : ByteArray := prog_14_method_79_code
def yX12_repayRank : MethodName := ⟨RX12, "repayRank", "(III)I"⟩
abbrev cX12_pay : ByteArray := prog_14_method_80_code
def yX12_pay : MethodName := ⟨RX12, "pay", "(II)V"⟩
abbrev cX12_advance : ByteArray := prog_14_method_81_code
def yX12_advance : MethodName := ⟨RX12, "advance", "(I)I"⟩
abbrev cX12_settle : ByteArray := prog_14_method_82_code
def yX12_settle : MethodName := ⟨RX12, "settle", "(I)I"⟩
abbrev cX12_repaid : ByteArray := prog_14_method_83_code
def yX12_repaid : MethodName := ⟨RX12, "repaid", "(II)I"⟩
abbrev cX12_got : ByteArray := prog_14_method_84_code
def yX12_got : MethodName := ⟨RX12, "got", "(I)I"⟩
abbrev cX12_move : ByteArray := prog_14_method_85_code
def yX12_move : MethodName := ⟨RX12, "move", "(II)I"⟩
abbrev cX12_tryMoves : ByteArray := prog_14_method_86_code
def yX12_tryMoves : MethodName := ⟨RX12, "tryMoves", "(IIIIZ)V"⟩
abbrev cX12_split : ByteArray := prog_14_method_87_code
def yX12_split : MethodName := ⟨RX12, "split", "(III)I"⟩
abbrev cX12_moved : ByteArray := prog_14_method_88_code
def yX12_moved : MethodName := ⟨RX12, "moved", "(I)I"⟩
abbrev cX12_without : ByteArray := prog_14_method_89_code
def yX12_without : MethodName := ⟨RX12, "without", "()I"⟩
abbrev cX12_gain : ByteArray := prog_14_method_90_code
def yX12_gain : MethodName := ⟨RX12, "gain", "(IIIII)I"⟩
abbrev cX12_audited : ByteArray := prog_14_method_91_code
def yX12_audited : MethodName := ⟨RX12, "audited", "(I)I"⟩
abbrev cX12_audit : ByteArray := prog_14_method_92_code
def yX12_audit : MethodName := ⟨RX12, "audit", "(II)I"⟩
abbrev cX12_lots : ByteArray := prog_14_method_93_code
def yX12_lots : MethodName := ⟨RX12, "lots", "(I)I"⟩
abbrev cX12_costsOf : ByteArray := prog_14_method_94_code
def yX12_costsOf : MethodName := ⟨RX12, "costsOf", "(I)I"⟩
abbrev cX12_draw : ByteArray := prog_14_method_95_code
def yX12_draw : MethodName := ⟨RX12, "draw", "(I)I"⟩
abbrev cX12_choose : ByteArray := prog_14_method_96_code
def yX12_choose : MethodName := ⟨RX12, "choose", "(II)J"⟩
abbrev cX12_bound : ByteArray := prog_14_method_97_code
def yX12_bound : MethodName := ⟨RX12, "bound", "(I)I"⟩
abbrev cX12_tryText : ByteArray := prog_14_method_98_code
def yX12_tryText : MethodName := ⟨RX12, "tryText", "(I)I"⟩
abbrev cX12_twice : ByteArray := prog_14_method_99_code
def yX12_twice : MethodName := ⟨RX12, "twice", "(I)I"⟩
abbrev cX12_above : ByteArray := prog_14_method_100_code
def yX12_above : MethodName := ⟨RX12, "above", "(I)I"⟩
abbrev cX12_begins : ByteArray := prog_14_method_101_code
def yX12_begins : MethodName := ⟨RX12, "begins", "(I)V"⟩
abbrev cX12_spends : ByteArray := prog_14_method_102_code
def yX12_spends : MethodName := ⟨RX12, "spends", "(II)I"⟩
abbrev cX12_counts : ByteArray := prog_14_method_103_code
def yX12_counts : MethodName := ⟨RX12, "counts", "(II)I"⟩
abbrev cX12_proves : ByteArray := prog_14_method_104_code
def yX12_proves : MethodName := ⟨RX12, "proves", "(II)I"⟩
abbrev cX12_act : ByteArray := prog_14_method_105_code
def yX12_act : MethodName := ⟨RX12, "act", "(III)I"⟩
abbrev cX12_trace : ByteArray := prog_14_method_106_code
def yX12_trace : MethodName := ⟨RX12, "trace", "(I)I"⟩
abbrev cX12_taken : ByteArray := prog_14_method_107_code
def yX12_taken : MethodName := ⟨RX12, "taken", "(II)I"⟩
abbrev cX12_count : ByteArray := prog_14_method_108_code
def yX12_count : MethodName := ⟨RX12, "count", "(I)I"⟩
def RJ11 : String := "java/lang/Character"
abbrev cJ11_isValidCodePoint_9a6ad : ByteArray := prog_15_method_11_code
def yJ11_isValidCodePoint_9a6ad : MethodName := ⟨RJ11, "isValidCodePoint", "(I)Z"⟩
abbrev cJ11_highSurrogate_5068e : ByteArray := prog_15_method_28_code
def yJ11_highSurrogate_5068e : MethodName := ⟨RJ11, "highSurrogate", "(I)C"⟩
abbrev cJ11_lowSurrogate_5068e : ByteArray := prog_15_method_29_code
def yJ11_lowSurrogate_5068e : MethodName := ⟨RJ11, "lowSurrogate", "(I)C"⟩
def RJ6 : String := "java/lang/Integer"
abbrev cJ6_bitCount_0f7a4 : ByteArray := prog_17_method_49_code
def yJ6_bitCount_0f7a4 : MethodName := ⟨RJ6, "bitCount", "(I)I"⟩
def RJ9 : String := "java/lang/Math"
abbrev cJ9_abs_0f7a4 : ByteArray := prog_18_method_59_code
def yJ9_abs_0f7a4 : MethodName := ⟨RJ9, "abs", "(I)I"⟩
abbrev cJ9_max_7cf53 : ByteArray := prog_18_method_65_code
def yJ9_max_7cf53 : MethodName := ⟨RJ9, "max", "(II)I"⟩
abbrev cJ9_min_7cf53 : ByteArray := prog_18_method_69_code
def yJ9_min_7cf53 : MethodName := ⟨RJ9, "min", "(II)I"⟩
abbrev cJ9_min_f86c9 : ByteArray := prog_18_method_70_code
def yJ9_min_f86c9 : MethodName := ⟨RJ9, "min", "(JJ)J"⟩
def RJ0 : String := "java/lang/String"
abbrev cJ0_length_8abf5 : ByteArray := prog_19_method_54_code
def yJ0_length_8abf5 : MethodName := ⟨RJ0, "length", "()I"⟩
abbrev cJ0_indexOf_0f7a4 : ByteArray := prog_19_method_79_code
def yJ0_indexOf_0f7a4 : MethodName := ⟨RJ0, "indexOf", "(I)I"⟩
abbrev cJ0_indexOf_7cf53 : ByteArray := prog_19_method_80_code
def yJ0_indexOf_7cf53 : MethodName := ⟨RJ0, "indexOf", "(II)I"⟩
abbrev cJ0_coder_7d493 : ByteArray := prog_19_method_152_code
def yJ0_coder_7d493 : MethodName := ⟨RJ0, "coder", "()B"⟩
abbrev cJ0_isLatin1_aae02 : ByteArray := prog_19_method_154_code
def yJ0_isLatin1_aae02 : MethodName := ⟨RJ0, "isLatin1", "()Z"⟩
abbrev cJ0_checkBoundsBeginEnd_23922 : ByteArray := prog_19_method_158_code
def yJ0_checkBoundsBeginEnd_23922 : MethodName := ⟨RJ0, "checkBoundsBeginEnd", "(III)V"⟩
def RJ1 : String := "java/lang/StringLatin1"
abbrev cJ1_canEncode_9a6ad : ByteArray := prog_20_method_4_code
def yJ1_canEncode_9a6ad : MethodName := ⟨RJ1, "canEncode", "(I)Z"⟩
abbrev cJ1_indexOf_4cfef : ByteArray := prog_20_method_22_code
def yJ1_indexOf_4cfef : MethodName := ⟨RJ1, "indexOf", "([BIII)I"⟩
abbrev cJ1_indexOfChar_4cfef : ByteArray := prog_20_method_23_code
def yJ1_indexOfChar_4cfef : MethodName := ⟨RJ1, "indexOfChar", "([BIII)I"⟩
def RJ2 : String := "java/lang/StringUTF16"
abbrev cJ2_getChar_3b067 : ByteArray := prog_21_method_5_code
def yJ2_getChar_3b067 : MethodName := ⟨RJ2, "getChar", "([BI)C"⟩
abbrev cJ2_length_9d52b : ByteArray := prog_21_method_6_code
def yJ2_length_9d52b : MethodName := ⟨RJ2, "length", "([B)I"⟩
abbrev cJ2_indexOf_4cfef : ByteArray := prog_21_method_40_code
def yJ2_indexOf_4cfef : MethodName := ⟨RJ2, "indexOf", "([BIII)I"⟩
abbrev cJ2_indexOfChar_4cfef : ByteArray := prog_21_method_47_code
def yJ2_indexOfChar_4cfef : MethodName := ⟨RJ2, "indexOfChar", "([BIII)I"⟩
abbrev cJ2_indexOfCharUnsafe_4cfef : ByteArray := prog_21_method_48_code
def yJ2_indexOfCharUnsafe_4cfef : MethodName := ⟨RJ2, "indexOfCharUnsafe", "([BIII)I"⟩
abbrev cJ2_indexOfSupplementary_4cfef : ByteArray := prog_21_method_49_code
def yJ2_indexOfSupplementary_4cfef : MethodName := ⟨RJ2, "indexOfSupplementary", "([BIII)I"⟩
abbrev cJ2_checkBoundsBeginEnd_d044e : ByteArray := prog_21_method_93_code
def yJ2_checkBoundsBeginEnd_d044e : MethodName := ⟨RJ2, "checkBoundsBeginEnd", "(II[B)V"⟩
def RJ10 : String := "java/lang/System"
def RJ7 : String := "java/util/Arrays"
abbrev cJ7_fill_53178 : ByteArray := prog_23_method_103_code
def yJ7_fill_53178 : MethodName := ⟨RJ7, "fill", "([II)V"⟩
abbrev cJ7_copyOf_59c91 : ByteArray := prog_23_method_123_code
def yJ7_copyOf_59c91 : MethodName := ⟨RJ7, "copyOf", "([II)[I"⟩
def RJ3 : String := "jdk/internal/util/Preconditions"
abbrev cJ3_checkFromToIndex_8c36e : ByteArray := prog_24_method_12_code
def yJ3_checkFromToIndex_8c36e : MethodName := ⟨RJ3, "checkFromToIndex", "(IIILjava/util/function/BiFunction;)I"⟩
abbrev vwCl : List vw_C := [(RX0, TX0, 11), (RX1, TX1, 7), (RX2, TX2, 13), (RX3, TX3, 8), (RX4, TX4, 8), (RX5, TX5, 4), (RX6, TX6, 9), (RX7, TX7, 11), (RX8, TX8, 19), (RX9, TX9, 6), (RX10, TX10, 12), (RX11, TX11, 11), (RX12, TX12, 87)]
def pgTy : List (Nat → FieldType) := [tyX0, tyX1, tyX2, tyX3, tyX4, tyX5, tyX6, tyX7, tyX8, tyX9, tyX10, tyX11, tyX12]
def pgO : List String := [RX0, RX1, RX2, RX3, RX4, RX5, RX6, RX7, RX8, RX9, RX10, RX11, RX12, RJ11, RJ6, RJ9, RJ0, RJ1, RJ2, RJ7, RJ3, "ReelBackLaw"]
abbrev pgRow : Type := MethodName × ByteArray × Nat × Option FieldType × Nat × Bool × Nat × Nat × Nat × Nat × Nat
def pgM_0 : List pgRow := [(yX0_init, cX0_init, 1, (Option.none), 0, false, 0, 371, 135, 370, 0),
  (yX0_has, cX0_has, 2, ((Option.some Jvm.ClassFile.FieldType.boolean)), 1, false, 0, 919, 135, 918, 32),
  (yX0_add, cX0_add, 6, ((Option.some Jvm.ClassFile.FieldType.int)), 4, false, 0, 1119, 135, 1118, 49),
  (yX0_find, cX0_find, 5, ((Option.some Jvm.ClassFile.FieldType.int)), 3, false, 0, 915, 135, 914, 31),
  (yX0_run, cX0_run, 6, ((Option.some Jvm.ClassFile.FieldType.int)), 1, false, 0, 937, 135, 936, 34),
  (yX0_endOfLine, cX0_endOfLine, 3, ((Option.some Jvm.ClassFile.FieldType.int)), 2, true, 0, 948, 135, 947, 0),
  (yX0_push, cX0_push, 2, (Option.none), 1, false, 0, 941, 135, 940, 35),
  (yX0_pop, cX0_pop, 1, ((Option.some Jvm.ClassFile.FieldType.int)), 0, false, 0, 945, 135, 944, 36),
  (yX0_join, cX0_join, 3, ((Option.some Jvm.ClassFile.FieldType.int)), 3, true, 0, 951, 135, 950, 0),
  (yX1_init, cX1_init, 7, (Option.none), 6, false, 1, 420, 136, 419, 0),
  (yX1_isRelated, cX1_isRelated, 3, ((Option.some Jvm.ClassFile.FieldType.boolean)), 2, false, 1, 885, 136, 884, 26),
  (yX1_fairOf, cX1_fairOf, 4, ((Option.some Jvm.ClassFile.FieldType.int)), 2, false, 1, 880, 136, 879, 25),
  (yX1_countedOf, cX1_countedOf, 5, ((Option.some Jvm.ClassFile.FieldType.int)), 2, false, 1, 906, 136, 905, 29),
  (yX1_hundredthsOf, cX1_hundredthsOf, 6, ((Option.some Jvm.ClassFile.FieldType.int)), 2, false, 1, 960, 136, 959, 37),
  (yX1_putFilmFacts, cX1_putFilmFacts, 5, (Option.none), 4, false, 1, 926, 136, 925, 33),
  (yX1_lawOf, cX1_lawOf, 8, ((Option.some Jvm.ClassFile.FieldType.int)), 5, false, 1, 911, 136, 910, 30)]
def pgM_1 : List pgRow := [(yX1_baseOf, cX1_baseOf, 11, ((Option.some Jvm.ClassFile.FieldType.int)), 5, false, 1, 975, 136, 974, 39),
  (yX1_dueOf, cX1_dueOf, 8, ((Option.some Jvm.ClassFile.FieldType.int)), 3, false, 1, 985, 136, 984, 40),
  (yX1_gainOf, cX1_gainOf, 14, ((Option.some Jvm.ClassFile.FieldType.int)), 5, false, 1, 1286, 136, 1285, 68),
  (yX2_init, cX2_init, 5, (Option.none), 4, false, 2, 763, 141, 762, 0),
  (yX2_coinsBy, cX2_coinsBy, 2, ((Option.some Jvm.ClassFile.FieldType.int)), 1, false, 2, 841, 141, 840, 19),
  (yX2_audited, cX2_audited, 1, ((Option.some Jvm.ClassFile.FieldType.int)), 0, false, 2, 845, 141, 844, 20),
  (yX2_isTwiceWith, cX2_isTwiceWith, 2, ((Option.some Jvm.ClassFile.FieldType.boolean)), 1, false, 2, 902, 141, 901, 28),
  (yX3_init, cX3_init, 1, (Option.none), 0, false, 3, 302, 133, 301, 0),
  (yX3_aboveOf, cX3_aboveOf, 1, ((Option.some Jvm.ClassFile.FieldType.int)), 1, true, 3, 753, 133, 752, 0),
  (yX3_isUnder, cX3_isUnder, 4, ((Option.some Jvm.ClassFile.FieldType.boolean)), 2, true, 3, 750, 133, 749, 0),
  (yX3_at, cX3_at, 2, ((Option.some (Jvm.ClassFile.FieldType.object "ReelBack$Cost"))), 1, false, 3, 836, 133, 835, 18),
  (yX3_add, cX3_add, 4, ((Option.some Jvm.ClassFile.FieldType.int)), 2, false, 3, 759, 133, 758, 17),
  (yX3_isLaterDouble, cX3_isLaterDouble, 3, ((Option.some Jvm.ClassFile.FieldType.boolean)), 1, false, 3, 894, 133, 893, 27),
  (yX3_areTwice, cX3_areTwice, 2, ((Option.some Jvm.ClassFile.FieldType.boolean)), 2, true, 3, 898, 133, 897, 0),
  (yX3_twos, cX3_twos, 7, ((Option.some Jvm.ClassFile.FieldType.int)), 1, false, 3, 1343, 133, 1342, 73),
  (yX3_find, cX3_find, 4, ((Option.some Jvm.ClassFile.FieldType.int)), 3, false, 3, 1294, 133, 1293, 69)]
def pgM_2 : List pgRow := [(yX3_isOpen, cX3_isOpen, 4, ((Option.some Jvm.ClassFile.FieldType.boolean)), 2, false, 3, 1310, 133, 1309, 71),
  (yX3_drawOf, cX3_drawOf, 5, ((Option.some Jvm.ClassFile.FieldType.int)), 1, false, 3, 1306, 133, 1305, 70),
  (yX3_boundOf, cX3_boundOf, 8, ((Option.some Jvm.ClassFile.FieldType.int)), 1, false, 3, 1319, 133, 1318, 72),
  (yX3_isLikely, cX3_isLikely, 7, ((Option.some Jvm.ClassFile.FieldType.boolean)), 4, true, 3, 1323, 133, 1322, 0),
  (yX3_choices, cX3_choices, 5, ((Option.some Jvm.ClassFile.FieldType.long)), 2, true, 3, 1326, 133, 1325, 0),
  (yX3_bodyOf, cX3_bodyOf, 3, ((Option.some Jvm.ClassFile.FieldType.int)), 2, true, 3, 1357, 133, 1356, 0),
  (yX3_kindWithBody, cX3_kindWithBody, 4, ((Option.some Jvm.ClassFile.FieldType.int)), 2, true, 3, 1354, 133, 1353, 0),
  (yX3_perform, cX3_perform, 13, ((Option.some Jvm.ClassFile.FieldType.int)), 6, false, 3, 1351, 133, 1350, 74),
  (yX4_init, cX4_init, 1, (Option.none), 0, false, 4, 186, 130, 185, 0),
  (yX4_has, cX4_has, 2, ((Option.some Jvm.ClassFile.FieldType.boolean)), 1, false, 4, 671, 130, 670, 7),
  (yX4_add, cX4_add, 3, ((Option.some Jvm.ClassFile.FieldType.int)), 2, false, 4, 663, 130, 662, 6),
  (yX4_hasPoints, cX4_hasPoints, 2, ((Option.some Jvm.ClassFile.FieldType.boolean)), 1, false, 4, 723, 130, 722, 13),
  (yX4_tellPoints, cX4_tellPoints, 4, ((Option.some Jvm.ClassFile.FieldType.int)), 3, false, 4, 715, 130, 714, 12),
  (yX4_provePoints, cX4_provePoints, 3, ((Option.some Jvm.ClassFile.FieldType.int)), 2, false, 4, 727, 130, 726, 14),
  (yX4_pointsBy, cX4_pointsBy, 6, ((Option.some Jvm.ClassFile.FieldType.int)), 3, false, 4, 735, 130, 734, 15),
  (yX5_init, cX5_init, 1, (Option.none), 0, false, 5, 161, 128, 160, 0)]
def pgM_3 : List pgRow := [(yX5_has, cX5_has, 2, ((Option.some Jvm.ClassFile.FieldType.boolean)), 1, false, 5, 647, 128, 646, 3),
  (yX5_isIn, cX5_isIn, 3, ((Option.some Jvm.ClassFile.FieldType.boolean)), 2, false, 5, 964, 128, 963, 38),
  (yX5_add, cX5_add, 2, ((Option.some Jvm.ClassFile.FieldType.int)), 1, false, 5, 639, 128, 638, 2),
  (yX5_areRelatedBy, cX5_areRelatedBy, 5, ((Option.some Jvm.ClassFile.FieldType.boolean)), 3, false, 5, 655, 128, 654, 5),
  (yX5_tie, cX5_tie, 4, ((Option.some Jvm.ClassFile.FieldType.int)), 3, false, 5, 651, 128, 650, 4),
  (yX5_pay, cX5_pay, 3, (Option.none), 2, false, 5, 1217, 128, 1216, 60),
  (yX5_allPurses, cX5_allPurses, 3, ((Option.some Jvm.ClassFile.FieldType.int)), 0, false, 5, 1376, 128, 1375, 75),
  (yX6_init, cX6_init, 1, (Option.none), 0, false, 6, 224, 131, 223, 0),
  (yX6_has, cX6_has, 2, ((Option.some Jvm.ClassFile.FieldType.boolean)), 1, false, 6, 687, 131, 686, 9),
  (yX6_add, cX6_add, 2, ((Option.some Jvm.ClassFile.FieldType.int)), 1, false, 6, 679, 131, 678, 8),
  (yX6_tellStay, cX6_tellStay, 6, ((Option.some Jvm.ClassFile.FieldType.int)), 5, false, 6, 691, 131, 690, 10),
  (yX6_livesIn, cX6_livesIn, 10, ((Option.some Jvm.ClassFile.FieldType.boolean)), 4, false, 6, 699, 131, 698, 11),
  (yX7_init, cX7_init, 1, (Option.none), 0, false, 7, 260, 132, 259, 0),
  (yX7_tellCoin, cX7_tellCoin, 5, ((Option.some Jvm.ClassFile.FieldType.int)), 3, false, 7, 622, 132, 621, 0),
  (yX7_coinOf, cX7_coinOf, 8, ((Option.some Jvm.ClassFile.FieldType.int)), 2, false, 7, 630, 132, 629, 1),
  (yX7_tellLike, cX7_tellLike, 6, ((Option.some Jvm.ClassFile.FieldType.int)), 5, false, 7, 853, 132, 852, 21)]
def pgM_4 : List pgRow := [(yX7_gatherLikes, cX7_gatherLikes, 7, ((Option.some Jvm.ClassFile.FieldType.int)), 4, false, 7, 861, 132, 860, 22),
  (yX7_putSorted, cX7_putSorted, 3, (Option.none), 1, false, 7, 868, 132, 867, 23),
  (yX7_middleLike, cX7_middleLike, 1, ((Option.some Jvm.ClassFile.FieldType.int)), 0, false, 7, 872, 132, 871, 24),
  (yX8_init, cX8_init, 4, (Option.none), 3, false, 8, 449, 137, 448, 0),
  (yX8_has, cX8_has, 2, ((Option.some Jvm.ClassFile.FieldType.boolean)), 1, false, 8, 1165, 137, 1164, 51),
  (yX8_add, cX8_add, 5, ((Option.some Jvm.ClassFile.FieldType.int)), 3, false, 8, 1157, 137, 1156, 50),
  (yX8_deal, cX8_deal, 7, ((Option.some Jvm.ClassFile.FieldType.int)), 3, false, 8, 1169, 137, 1168, 52),
  (yX8_dealYear, cX8_dealYear, 7, ((Option.some Jvm.ClassFile.FieldType.int)), 3, false, 8, 1174, 137, 1173, 53),
  (yX8_lend, cX8_lend, 4, ((Option.some Jvm.ClassFile.FieldType.int)), 3, false, 8, 1187, 137, 1186, 54),
  (yX8_payHalf, cX8_payHalf, 4, ((Option.some Jvm.ClassFile.FieldType.int)), 2, false, 8, 1195, 137, 1194, 55),
  (yX8_close, cX8_close, 4, ((Option.some Jvm.ClassFile.FieldType.int)), 2, false, 8, 1225, 137, 1224, 61),
  (yX8_payOut, cX8_payOut, 5, (Option.none), 2, false, 8, 1199, 137, 1198, 56),
  (yX8_isOf, cX8_isOf, 4, ((Option.some Jvm.ClassFile.FieldType.boolean)), 3, false, 8, 1207, 137, 1206, 58),
  (yX8_repay, cX8_repay, 11, ((Option.some Jvm.ClassFile.FieldType.int)), 3, false, 8, 1203, 137, 1202, 57),
  (yX8_payRests, cX8_payRests, 5, (Option.none), 1, false, 8, 1212, 137, 1211, 59),
  (yX8_allRepaid, cX8_allRepaid, 3, ((Option.some Jvm.ClassFile.FieldType.int)), 0, false, 8, 1380, 137, 1379, 76)]
def pgM_5 : List pgRow := [(yX9_init, cX9_init, 1, (Option.none), 0, false, 9, 343, 134, 342, 0),
  (yX9_take, cX9_take, 4, ((Option.some Jvm.ClassFile.FieldType.int)), 2, false, 9, 994, 134, 993, 41),
  (yX9_compile, cX9_compile, 1, ((Option.some Jvm.ClassFile.FieldType.int)), 0, false, 9, 1005, 134, 1004, 42),
  (yX9_next, cX9_next, 1, ((Option.some Jvm.ClassFile.FieldType.int)), 0, false, 9, 1021, 134, 1020, 46),
  (yX9_put, cX9_put, 2, (Option.none), 1, false, 9, 1112, 134, 1111, 48),
  (yX9_readLine, cX9_readLine, 1, (Option.none), 0, false, 9, 1009, 134, 1008, 43),
  (yX9_readPart, cX9_readPart, 4, (Option.none), 2, false, 9, 1013, 134, 1012, 44),
  (yX9_isSign, cX9_isSign, 2, ((Option.some Jvm.ClassFile.FieldType.boolean)), 2, true, 9, 1115, 134, 1114, 0),
  (yX9_readOperand, cX9_readOperand, 4, (Option.none), 1, false, 9, 1017, 134, 1016, 45),
  (yX9_readNumber, cX9_readNumber, 3, (Option.none), 0, false, 9, 1108, 134, 1107, 47),
  (yX10_init, cX10_init, 2, (Option.none), 1, false, 10, 525, 138, 524, 0),
  (yX10_add, cX10_add, 3, ((Option.some Jvm.ClassFile.FieldType.int)), 2, false, 10, 1242, 138, 1241, 62),
  (yX10_findBest, cX10_findBest, 11, ((Option.some Jvm.ClassFile.FieldType.int)), 4, false, 10, 1251, 138, 1250, 63),
  (yX10_seat, cX10_seat, 5, (Option.none), 3, false, 10, 1255, 138, 1254, 64),
  (yX10_readWay, cX10_readWay, 4, (Option.none), 1, false, 10, 1264, 138, 1263, 66),
  (yX10_worthOf, cX10_worthOf, 4, ((Option.some Jvm.ClassFile.FieldType.int)), 1, false, 10, 1260, 138, 1259, 65)]
def pgM_6 : List pgRow := [(yX10_isFair, cX10_isFair, 4, ((Option.some Jvm.ClassFile.FieldType.boolean)), 1, false, 10, 1270, 138, 1269, 67),
  (yX11_init, cX11_init, 1, (Option.none), 0, false, 11, 153, 127, 152, 0),
  (yX11_days, cX11_days, 2, ((Option.some Jvm.ClassFile.FieldType.int)), 1, false, 11, 604, 127, 602, 603),
  (yX11_coin, cX11_coin, 4, ((Option.some Jvm.ClassFile.FieldType.int)), 3, false, 11, 611, 127, 609, 610),
  (yX11_coinOn, cX11_coinOn, 3, ((Option.some Jvm.ClassFile.FieldType.int)), 2, false, 11, 626, 127, 624, 625),
  (yX11_house, cX11_house, 2, ((Option.some Jvm.ClassFile.FieldType.int)), 1, false, 11, 635, 127, 633, 634),
  (yX11_relate, cX11_relate, 3, ((Option.some Jvm.ClassFile.FieldType.int)), 2, false, 11, 643, 127, 641, 642),
  (yX11_film, cX11_film, 3, ((Option.some Jvm.ClassFile.FieldType.int)), 2, false, 11, 659, 127, 657, 658),
  (yX11_sell, cX11_sell, 4, ((Option.some Jvm.ClassFile.FieldType.int)), 2, false, 11, 667, 127, 665, 666),
  (yX11_person, cX11_person, 2, ((Option.some Jvm.ClassFile.FieldType.int)), 1, false, 11, 675, 127, 673, 674),
  (yX11_stay, cX11_stay, 5, ((Option.some Jvm.ClassFile.FieldType.int)), 4, false, 11, 683, 127, 681, 682),
  (yX11_lives, cX11_lives, 5, ((Option.some Jvm.ClassFile.FieldType.int)), 4, false, 11, 695, 127, 693, 694),
  (yX11_point, cX11_point, 4, ((Option.some Jvm.ClassFile.FieldType.int)), 3, false, 11, 711, 127, 709, 710),
  (yX11_prove, cX11_prove, 2, ((Option.some Jvm.ClassFile.FieldType.int)), 1, false, 11, 719, 127, 717, 718),
  (yX11_points, cX11_points, 4, ((Option.some Jvm.ClassFile.FieldType.int)), 3, false, 11, 731, 127, 729, 730),
  (yX11_set, cX11_set, 4, ((Option.some Jvm.ClassFile.FieldType.int)), 2, false, 11, 739, 127, 737, 738)]
def pgM_7 : List pgRow := [(yX11_cost, cX11_cost, 3, ((Option.some Jvm.ClassFile.FieldType.int)), 2, false, 11, 743, 127, 741, 742),
  (yX11_of, cX11_of, 4, ((Option.some Jvm.ClassFile.FieldType.int)), 2, false, 11, 832, 127, 830, 831),
  (yX11_like, cX11_like, 5, ((Option.some Jvm.ClassFile.FieldType.int)), 4, false, 11, 849, 127, 847, 848),
  (yX11_span, cX11_span, 6, ((Option.some Jvm.ClassFile.FieldType.int)), 3, false, 11, 857, 127, 855, 856),
  (yX11_counted, cX11_counted, 5, ((Option.some Jvm.ClassFile.FieldType.int)), 3, false, 11, 876, 127, 874, 875),
  (yX11_base, cX11_base, 6, ((Option.some Jvm.ClassFile.FieldType.int)), 5, false, 11, 971, 127, 969, 970),
  (yX11_feed, cX11_feed, 3, ((Option.some Jvm.ClassFile.FieldType.int)), 2, false, 11, 990, 127, 988, 989),
  (yX11_text, cX11_text, 4, ((Option.some Jvm.ClassFile.FieldType.int)), 2, false, 11, 998, 127, 996, 997),
  (yX11_inForce, cX11_inForce, 4, ((Option.some Jvm.ClassFile.FieldType.int)), 3, false, 11, 1138, 127, 1136, 1137),
  (yX11_law, cX11_law, 6, ((Option.some Jvm.ClassFile.FieldType.int)), 5, false, 11, 1143, 127, 1141, 1142),
  (yX11_cap, cX11_cap, 6, ((Option.some Jvm.ClassFile.FieldType.int)), 3, false, 11, 1148, 127, 1146, 1147),
  (yX11_ask, cX11_ask, 3, ((Option.some Jvm.ClassFile.FieldType.int)), 2, false, 11, 1153, 127, 1151, 1152),
  (yX11_given, cX11_given, 5, ((Option.some Jvm.ClassFile.FieldType.int)), 2, false, 11, 1161, 127, 1159, 1160),
  (yX11_foretold, cX11_foretold, 2, ((Option.some Jvm.ClassFile.FieldType.int)), 1, false, 11, 1179, 127, 1177, 1178),
  (yX11_loan, cX11_loan, 5, ((Option.some Jvm.ClassFile.FieldType.int)), 4, false, 11, 1183, 127, 1181, 1182),
  (yX11_advance, cX11_advance, 2, ((Option.some Jvm.ClassFile.FieldType.int)), 1, false, 11, 1191, 127, 1189, 1190)]
def pgM_8 : List pgRow := [(yX11_settle, cX11_settle, 3, ((Option.some Jvm.ClassFile.FieldType.int)), 1, false, 11, 1221, 127, 1219, 1220),
  (yX11_repaid, cX11_repaid, 3, ((Option.some Jvm.ClassFile.FieldType.int)), 2, false, 11, 1230, 127, 1228, 1229),
  (yX11_got, cX11_got, 2, ((Option.some Jvm.ClassFile.FieldType.int)), 1, false, 11, 1234, 127, 1232, 1233),
  (yX11_move, cX11_move, 3, ((Option.some Jvm.ClassFile.FieldType.int)), 2, false, 11, 1238, 127, 1236, 1237),
  (yX11_split, cX11_split, 4, ((Option.some Jvm.ClassFile.FieldType.int)), 3, false, 11, 1246, 127, 1244, 1245),
  (yX11_moved, cX11_moved, 2, ((Option.some Jvm.ClassFile.FieldType.int)), 1, false, 11, 1274, 127, 1272, 1273),
  (yX11_without, cX11_without, 1, ((Option.some Jvm.ClassFile.FieldType.int)), 0, false, 11, 1278, 127, 1276, 1277),
  (yX11_gain, cX11_gain, 8, ((Option.some Jvm.ClassFile.FieldType.int)), 5, false, 11, 1282, 127, 1280, 1281),
  (yX11_audit, cX11_audit, 4, ((Option.some Jvm.ClassFile.FieldType.int)), 2, false, 11, 1290, 127, 1288, 1289),
  (yX11_lots, cX11_lots, 2, ((Option.some Jvm.ClassFile.FieldType.int)), 1, false, 11, 1298, 127, 1296, 1297),
  (yX11_draw, cX11_draw, 2, ((Option.some Jvm.ClassFile.FieldType.int)), 1, false, 11, 1302, 127, 1300, 1301),
  (yX11_bound, cX11_bound, 2, ((Option.some Jvm.ClassFile.FieldType.int)), 1, false, 11, 1315, 127, 1313, 1314),
  (yX11_tryText, cX11_tryText, 5, ((Option.some Jvm.ClassFile.FieldType.int)), 1, false, 11, 1332, 127, 1330, 1331),
  (yX11_twice, cX11_twice, 2, ((Option.some Jvm.ClassFile.FieldType.int)), 1, false, 11, 1339, 127, 1337, 1338),
  (yX11_act, cX11_act, 5, ((Option.some Jvm.ClassFile.FieldType.int)), 3, false, 11, 1347, 127, 1345, 1346),
  (yX11_trace, cX11_trace, 2, ((Option.some Jvm.ClassFile.FieldType.int)), 1, false, 11, 1364, 127, 1362, 1363)]
def pgM_9 : List pgRow := [(yX11_taken, cX11_taken, 4, ((Option.some Jvm.ClassFile.FieldType.int)), 2, false, 11, 1368, 127, 1366, 1367),
  (yX11_count, cX11_count, 2, ((Option.some Jvm.ClassFile.FieldType.int)), 1, false, 11, 1372, 127, 1370, 1371),
  (yX11_within, cX11_within, 3, ((Option.some Jvm.ClassFile.FieldType.boolean)), 3, true, 11, 607, 127, 606, 0),
  (yX11_isLand, cX11_isLand, 1, ((Option.some Jvm.ClassFile.FieldType.boolean)), 1, true, 11, 614, 127, 613, 0),
  (yX11_isDay, cX11_isDay, 1, ((Option.some Jvm.ClassFile.FieldType.boolean)), 1, true, 11, 617, 127, 616, 0),
  (yX11_isAct, cX11_isAct, 1, ((Option.some Jvm.ClassFile.FieldType.boolean)), 1, true, 11, 1001, 127, 1000, 0),
  (yX11_isDraftSound, cX11_isDraftSound, 4, ((Option.some Jvm.ClassFile.FieldType.boolean)), 1, false, 11, 747, 127, 746, 16),
  (yX12_init, cX12_init, 2, (Option.none), 0, false, 12, 1385, 139, 1384, 0),
  (yX12_within, cX12_within, 3, ((Option.some Jvm.ClassFile.FieldType.boolean)), 3, true, 12, 1656, 139, 1655, 0),
  (yX12_isDay, cX12_isDay, 1, ((Option.some Jvm.ClassFile.FieldType.boolean)), 1, true, 12, 1666, 139, 1665, 0),
  (yX12_isLand, cX12_isLand, 1, ((Option.some Jvm.ClassFile.FieldType.boolean)), 1, true, 12, 1663, 139, 1662, 0),
  (yX12_isYear, cX12_isYear, 1, ((Option.some Jvm.ClassFile.FieldType.boolean)), 1, true, 12, 1922, 139, 1921, 0),
  (yX12_isHouse, cX12_isHouse, 2, ((Option.some Jvm.ClassFile.FieldType.boolean)), 1, false, 12, 1687, 139, 1686, 78),
  (yX12_isFilm, cX12_isFilm, 2, ((Option.some Jvm.ClassFile.FieldType.boolean)), 1, false, 12, 1699, 139, 1698, 79),
  (yX12_isPerson, cX12_isPerson, 2, ((Option.some Jvm.ClassFile.FieldType.boolean)), 1, false, 12, 1711, 139, 1710, 80),
  (yX12_isCost, cX12_isCost, 2, ((Option.some Jvm.ClassFile.FieldType.boolean)), 1, false, 12, 1754, 139, 1753, 83)]
def pgM_10 : List pgRow := [(yX12_days, cX12_days, 2, ((Option.some Jvm.ClassFile.FieldType.int)), 1, false, 12, 1653, 139, 1651, 1652),
  (yX12_coin, cX12_coin, 4, ((Option.some Jvm.ClassFile.FieldType.int)), 3, false, 12, 1660, 139, 1658, 1659),
  (yX12_coinAt, cX12_coinAt, 5, ((Option.some Jvm.ClassFile.FieldType.int)), 2, false, 12, 1675, 139, 1674, 77),
  (yX12_coinOn, cX12_coinOn, 3, ((Option.some Jvm.ClassFile.FieldType.int)), 2, false, 12, 1671, 139, 1669, 1670),
  (yX12_house, cX12_house, 2, ((Option.some Jvm.ClassFile.FieldType.int)), 1, false, 12, 1679, 139, 1677, 1678),
  (yX12_relate, cX12_relate, 3, ((Option.some Jvm.ClassFile.FieldType.int)), 2, false, 12, 1683, 139, 1681, 1682),
  (yX12_areRelated, cX12_areRelated, 4, ((Option.some Jvm.ClassFile.FieldType.boolean)), 3, false, 12, 1896, 139, 1895, 109),
  (yX12_film, cX12_film, 3, ((Option.some Jvm.ClassFile.FieldType.int)), 2, false, 12, 1691, 139, 1689, 1690),
  (yX12_sell, cX12_sell, 4, ((Option.some Jvm.ClassFile.FieldType.int)), 2, false, 12, 1695, 139, 1693, 1694),
  (yX12_person, cX12_person, 2, ((Option.some Jvm.ClassFile.FieldType.int)), 1, false, 12, 1703, 139, 1701, 1702),
  (yX12_stay, cX12_stay, 5, ((Option.some Jvm.ClassFile.FieldType.int)), 4, false, 12, 1707, 139, 1705, 1706),
  (yX12_livesIn, cX12_livesIn, 10, ((Option.some Jvm.ClassFile.FieldType.boolean)), 4, false, 12, 1719, 139, 1718, 81),
  (yX12_lives, cX12_lives, 5, ((Option.some Jvm.ClassFile.FieldType.int)), 4, false, 12, 1715, 139, 1713, 1714),
  (yX12_point, cX12_point, 4, ((Option.some Jvm.ClassFile.FieldType.int)), 3, false, 12, 1723, 139, 1721, 1722),
  (yX12_prove, cX12_prove, 2, ((Option.some Jvm.ClassFile.FieldType.int)), 1, false, 12, 1727, 139, 1725, 1726),
  (yX12_pointsOf, cX12_pointsOf, 6, ((Option.some Jvm.ClassFile.FieldType.int)), 3, false, 12, 1735, 139, 1734, 82)]
def pgM_11 : List pgRow := [(yX12_points, cX12_points, 4, ((Option.some Jvm.ClassFile.FieldType.int)), 3, false, 12, 1731, 139, 1729, 1730),
  (yX12_set, cX12_set, 4, ((Option.some Jvm.ClassFile.FieldType.int)), 2, false, 12, 1739, 139, 1737, 1738),
  (yX12_toHouse, cX12_toHouse, 1, ((Option.some Jvm.ClassFile.FieldType.boolean)), 1, true, 12, 1746, 139, 1745, 0),
  (yX12_cost, cX12_cost, 5, ((Option.some Jvm.ClassFile.FieldType.int)), 2, false, 12, 1743, 139, 1741, 1742),
  (yX12_coinsOf, cX12_coinsOf, 3, ((Option.some Jvm.ClassFile.FieldType.int)), 2, false, 12, 1763, 139, 1762, 85),
  (yX12_ofCost, cX12_ofCost, 3, ((Option.some Jvm.ClassFile.FieldType.int)), 2, false, 12, 1759, 139, 1758, 84),
  (yX12_of, cX12_of, 3, ((Option.some Jvm.ClassFile.FieldType.int)), 2, false, 12, 1750, 139, 1748, 1749),
  (yX12_like, cX12_like, 5, ((Option.some Jvm.ClassFile.FieldType.int)), 4, false, 12, 1767, 139, 1765, 1766),
  (yX12_findLikes, cX12_findLikes, 7, ((Option.some Jvm.ClassFile.FieldType.int)), 2, false, 12, 1775, 139, 1774, 86),
  (yX12_span, cX12_span, 5, ((Option.some Jvm.ClassFile.FieldType.int)), 3, false, 12, 1771, 139, 1769, 1770),
  (yX12_isRelated, cX12_isRelated, 3, ((Option.some Jvm.ClassFile.FieldType.boolean)), 2, false, 12, 1892, 139, 1891, 108),
  (yX12_fairOf, cX12_fairOf, 6, ((Option.some Jvm.ClassFile.FieldType.int)), 2, false, 12, 1900, 139, 1899, 110),
  (yX12_areDouble, cX12_areDouble, 4, ((Option.some Jvm.ClassFile.FieldType.boolean)), 2, false, 12, 1884, 139, 1883, 106),
  (yX12_isLater, cX12_isLater, 4, ((Option.some Jvm.ClassFile.FieldType.boolean)), 1, false, 12, 1880, 139, 1879, 105),
  (yX12_feed, cX12_feed, 4, ((Option.some Jvm.ClassFile.FieldType.int)), 2, false, 12, 1779, 139, 1777, 1778),
  (yX12_byteAt, cX12_byteAt, 1, ((Option.some Jvm.ClassFile.FieldType.int)), 0, false, 12, 1818, 139, 1817, 94)]
def pgM_12 : List pgRow := [(yX12_wrong, cX12_wrong, 1, ((Option.some Jvm.ClassFile.FieldType.int)), 0, false, 12, 1822, 139, 1821, 95),
  (yX12_takes, cX12_takes, 2, ((Option.some Jvm.ClassFile.FieldType.boolean)), 1, false, 12, 1826, 139, 1825, 96),
  (yX12_either, cX12_either, 3, ((Option.some Jvm.ClassFile.FieldType.int)), 0, false, 12, 1794, 139, 1793, 88),
  (yX12_both, cX12_both, 3, ((Option.some Jvm.ClassFile.FieldType.int)), 0, false, 12, 1798, 139, 1797, 89),
  (yX12_compared, cX12_compared, 4, ((Option.some Jvm.ClassFile.FieldType.int)), 0, false, 12, 1802, 139, 1801, 90),
  (yX12_sums, cX12_sums, 4, ((Option.some Jvm.ClassFile.FieldType.int)), 0, false, 12, 1806, 139, 1805, 91),
  (yX12_product, cX12_product, 4, ((Option.some Jvm.ClassFile.FieldType.int)), 0, false, 12, 1810, 139, 1809, 92),
  (yX12_nameOf, cX12_nameOf, 1, ((Option.some Jvm.ClassFile.FieldType.int)), 1, true, 12, 1829, 139, 1828, 0),
  (yX12_named, cX12_named, 2, ((Option.some Jvm.ClassFile.FieldType.int)), 1, false, 12, 1833, 139, 1832, 97),
  (yX12_one, cX12_one, 5, ((Option.some Jvm.ClassFile.FieldType.int)), 0, false, 12, 1814, 139, 1813, 93),
  (yX12_workOut, cX12_workOut, 8, ((Option.some Jvm.ClassFile.FieldType.int)), 2, false, 12, 1790, 139, 1789, 87),
  (yX12_isWhat, cX12_isWhat, 1, ((Option.some Jvm.ClassFile.FieldType.boolean)), 1, true, 12, 1786, 139, 1785, 0),
  (yX12_text, cX12_text, 6, ((Option.some Jvm.ClassFile.FieldType.int)), 2, false, 12, 1783, 139, 1781, 1782),
  (yX12_force, cX12_force, 6, ((Option.some Jvm.ClassFile.FieldType.int)), 3, false, 12, 1845, 139, 1844, 99),
  (yX12_inForce, cX12_inForce, 5, ((Option.some Jvm.ClassFile.FieldType.int)), 3, false, 12, 1841, 139, 1839, 1840),
  (yX12_landsOf, cX12_landsOf, 4, ((Option.some Jvm.ClassFile.FieldType.int)), 1, false, 12, 1861, 139, 1860, 102)]
def pgM_13 : List pgRow := [(yX12_countOf, cX12_countOf, 3, ((Option.some Jvm.ClassFile.FieldType.int)), 1, true, 12, 1864, 139, 1863, 0),
  (yX12_nameFilm, cX12_nameFilm, 6, (Option.none), 4, false, 12, 1857, 139, 1856, 101),
  (yX12_gives, cX12_gives, 9, ((Option.some Jvm.ClassFile.FieldType.int)), 6, false, 12, 1868, 139, 1867, 103),
  (yX12_lawOf, cX12_lawOf, 6, ((Option.some Jvm.ClassFile.FieldType.int)), 5, false, 12, 1853, 139, 1852, 100),
  (yX12_law, cX12_law, 6, ((Option.some Jvm.ClassFile.FieldType.int)), 5, false, 12, 1849, 139, 1847, 1848),
  (yX12_isLocal, cX12_isLocal, 4, ((Option.some Jvm.ClassFile.FieldType.boolean)), 2, false, 12, 1837, 139, 1836, 98),
  (yX12_countsTwice, cX12_countsTwice, 6, ((Option.some Jvm.ClassFile.FieldType.boolean)), 2, false, 12, 1888, 139, 1887, 107),
  (yX12_countedOf, cX12_countedOf, 9, ((Option.some Jvm.ClassFile.FieldType.int)), 2, false, 12, 1876, 139, 1875, 104),
  (yX12_counted, cX12_counted, 5, ((Option.some Jvm.ClassFile.FieldType.int)), 3, false, 12, 1872, 139, 1870, 1871),
  (yX12_baseOf, cX12_baseOf, 8, ((Option.some Jvm.ClassFile.FieldType.int)), 4, false, 12, 1911, 139, 1910, 111),
  (yX12_dueOf, cX12_dueOf, 9, ((Option.some Jvm.ClassFile.FieldType.int)), 3, false, 12, 1915, 139, 1914, 112),
  (yX12_base, cX12_base, 6, ((Option.some Jvm.ClassFile.FieldType.int)), 5, false, 12, 1907, 139, 1905, 1906),
  (yX12_cap, cX12_cap, 5, ((Option.some Jvm.ClassFile.FieldType.int)), 3, false, 12, 1919, 139, 1917, 1918),
  (yX12_ask, cX12_ask, 4, ((Option.some Jvm.ClassFile.FieldType.int)), 2, false, 12, 1926, 139, 1924, 1925),
  (yX12_findDues, cX12_findDues, 3, (Option.none), 1, false, 12, 1942, 139, 1941, 115),
  (yX12_goYear, cX12_goYear, 6, (Option.none), 2, false, 12, 1946, 139, 1945, 116)]
def pgM_14 : List pgRow := [(yX12_isCert, cX12_isCert, 2, ((Option.some Jvm.ClassFile.FieldType.boolean)), 1, false, 12, 1934, 139, 1933, 113),
  (yX12_givenTo, cX12_givenTo, 3, ((Option.some Jvm.ClassFile.FieldType.int)), 1, false, 12, 1938, 139, 1937, 114),
  (yX12_given, cX12_given, 4, ((Option.some Jvm.ClassFile.FieldType.int)), 2, false, 12, 1930, 139, 1928, 1929),
  (yX12_foretold, cX12_foretold, 3, ((Option.some Jvm.ClassFile.FieldType.int)), 1, false, 12, 1950, 139, 1948, 1949),
  (yX12_loan, cX12_loan, 5, ((Option.some Jvm.ClassFile.FieldType.int)), 4, false, 12, 1954, 139, 1952, 1953),
  (yX12_repayRank, cX12_repayRank, 12, ((Option.some Jvm.ClassFile.FieldType.int)), 3, false, 12, 1966, 139, 1965, 118),
  (yX12_pay, cX12_pay, 5, (Option.none), 2, false, 12, 1962, 139, 1961, 117),
  (yX12_advance, cX12_advance, 2, ((Option.some Jvm.ClassFile.FieldType.int)), 1, false, 12, 1958, 139, 1956, 1957),
  (yX12_settle, cX12_settle, 3, ((Option.some Jvm.ClassFile.FieldType.int)), 1, false, 12, 1971, 139, 1969, 1970),
  (yX12_repaid, cX12_repaid, 3, ((Option.some Jvm.ClassFile.FieldType.int)), 2, false, 12, 1975, 139, 1973, 1974),
  (yX12_got, cX12_got, 2, ((Option.some Jvm.ClassFile.FieldType.int)), 1, false, 12, 1979, 139, 1977, 1978),
  (yX12_move, cX12_move, 3, ((Option.some Jvm.ClassFile.FieldType.int)), 2, false, 12, 1983, 139, 1981, 1982),
  (yX12_tryMoves, cX12_tryMoves, 9, (Option.none), 5, false, 12, 1991, 139, 1990, 119),
  (yX12_split, cX12_split, 6, ((Option.some Jvm.ClassFile.FieldType.int)), 3, false, 12, 1987, 139, 1985, 1986),
  (yX12_moved, cX12_moved, 2, ((Option.some Jvm.ClassFile.FieldType.int)), 1, false, 12, 1995, 139, 1993, 1994),
  (yX12_without, cX12_without, 1, ((Option.some Jvm.ClassFile.FieldType.int)), 0, false, 12, 1999, 139, 1997, 1998)]
def pgM_15 : List pgRow := [(yX12_gain, cX12_gain, 14, ((Option.some Jvm.ClassFile.FieldType.int)), 5, false, 12, 2003, 139, 2001, 2002),
  (yX12_audited, cX12_audited, 4, ((Option.some Jvm.ClassFile.FieldType.int)), 1, false, 12, 2011, 139, 2010, 120),
  (yX12_audit, cX12_audit, 3, ((Option.some Jvm.ClassFile.FieldType.int)), 2, false, 12, 2007, 139, 2005, 2006),
  (yX12_lots, cX12_lots, 2, ((Option.some Jvm.ClassFile.FieldType.int)), 1, false, 12, 2015, 139, 2013, 2014),
  (yX12_costsOf, cX12_costsOf, 4, ((Option.some Jvm.ClassFile.FieldType.int)), 1, false, 12, 2023, 139, 2022, 121),
  (yX12_draw, cX12_draw, 5, ((Option.some Jvm.ClassFile.FieldType.int)), 1, false, 12, 2019, 139, 2017, 2018),
  (yX12_choose, cX12_choose, 5, ((Option.some Jvm.ClassFile.FieldType.long)), 2, true, 12, 2031, 139, 2030, 0),
  (yX12_bound, cX12_bound, 10, ((Option.some Jvm.ClassFile.FieldType.int)), 1, false, 12, 2028, 139, 2026, 2027),
  (yX12_tryText, cX12_tryText, 5, ((Option.some Jvm.ClassFile.FieldType.int)), 1, false, 12, 2036, 139, 2034, 2035),
  (yX12_twice, cX12_twice, 7, ((Option.some Jvm.ClassFile.FieldType.int)), 1, false, 12, 2040, 139, 2038, 2039),
  (yX12_above, cX12_above, 1, ((Option.some Jvm.ClassFile.FieldType.int)), 1, true, 12, 2055, 139, 2054, 0),
  (yX12_begins, cX12_begins, 2, (Option.none), 1, false, 12, 2052, 139, 2051, 123),
  (yX12_spends, cX12_spends, 3, ((Option.some Jvm.ClassFile.FieldType.int)), 2, false, 12, 2048, 139, 2047, 122),
  (yX12_counts, cX12_counts, 4, ((Option.some Jvm.ClassFile.FieldType.int)), 2, false, 12, 2059, 139, 2058, 124),
  (yX12_proves, cX12_proves, 4, ((Option.some Jvm.ClassFile.FieldType.int)), 2, false, 12, 2063, 139, 2062, 125),
  (yX12_act, cX12_act, 4, ((Option.some Jvm.ClassFile.FieldType.int)), 3, false, 12, 2044, 139, 2042, 2043)]
def pgM_16 : List pgRow := [(yX12_trace, cX12_trace, 2, ((Option.some Jvm.ClassFile.FieldType.int)), 1, false, 12, 2067, 139, 2065, 2066),
  (yX12_taken, cX12_taken, 3, ((Option.some Jvm.ClassFile.FieldType.int)), 2, false, 12, 2071, 139, 2069, 2070),
  (yX12_count, cX12_count, 5, ((Option.some Jvm.ClassFile.FieldType.int)), 1, false, 12, 2075, 139, 2073, 2074),
  (yJ6_bitCount_0f7a4, cJ6_bitCount_0f7a4, 1, ((Option.some Jvm.ClassFile.FieldType.int)), 1, true, 14, 930, 142, 929, 0),
  (yJ9_abs_0f7a4, cJ9_abs_0f7a4, 1, ((Option.some Jvm.ClassFile.FieldType.int)), 1, true, 15, 864, 140, 863, 0),
  (yJ9_max_7cf53, cJ9_max_7cf53, 2, ((Option.some Jvm.ClassFile.FieldType.int)), 2, true, 15, 704, 140, 703, 0),
  (yJ9_min_7cf53, cJ9_min_7cf53, 2, ((Option.some Jvm.ClassFile.FieldType.int)), 2, true, 15, 707, 140, 706, 0),
  (yJ9_min_f86c9, cJ9_min_f86c9, 4, ((Option.some Jvm.ClassFile.FieldType.long)), 2, true, 15, 981, 140, 980, 0),
  (yJ0_length_8abf5, cJ0_length_8abf5, 1, ((Option.some Jvm.ClassFile.FieldType.int)), 0, false, 16, 1040, 143, 1038, 1039),
  (yJ0_indexOf_0f7a4, cJ0_indexOf_0f7a4, 2, ((Option.some Jvm.ClassFile.FieldType.int)), 1, false, 16, 1026, 143, 1024, 1025),
  (yJ0_indexOf_7cf53, cJ0_indexOf_7cf53, 3, ((Option.some Jvm.ClassFile.FieldType.int)), 2, false, 16, 1030, 143, 1028, 1029),
  (yJ0_coder_7d493, cJ0_coder_7d493, 1, ((Option.some Jvm.ClassFile.FieldType.byte)), 0, false, 16, 1044, 143, 1042, 1043),
  (yJ0_isLatin1_aae02, cJ0_isLatin1_aae02, 1, ((Option.some Jvm.ClassFile.FieldType.boolean)), 0, false, 16, 1034, 143, 1032, 1033),
  (yJ1_canEncode_9a6ad, cJ1_canEncode_9a6ad, 1, ((Option.some Jvm.ClassFile.FieldType.boolean)), 1, true, 17, 1050, 144, 1049, 0),
  (yJ1_indexOf_4cfef, cJ1_indexOf_4cfef, 4, ((Option.some Jvm.ClassFile.FieldType.int)), 4, true, 17, 1047, 144, 1046, 0),
  (yJ1_indexOfChar_4cfef, cJ1_indexOfChar_4cfef, 6, ((Option.some Jvm.ClassFile.FieldType.int)), 4, true, 17, 1055, 144, 1054, 0)]
def pgM_17 : List pgRow := [(yJ7_fill_53178, cJ7_fill_53178, 4, (Option.none), 2, true, 19, 165, 129, 164, 0),
  (yJ7_copyOf_59c91, cJ7_copyOf_59c91, 3, ((Option.some (Jvm.ClassFile.FieldType.array Jvm.ClassFile.FieldType.int))), 2, true, 19, 1122, 129, 1121, 0),
  (⟨"ReelBackLaw", "law", "([I)Z"⟩, code, 4, (Option.some Jvm.ClassFile.FieldType.boolean), 1, true, 21, 0, 0, 0, 0)]
def pgMs : List (List pgRow) := [pgM_0, pgM_1, pgM_2, pgM_3, pgM_4, pgM_5, pgM_6, pgM_7, pgM_8, pgM_9, pgM_10, pgM_11, pgM_12, pgM_13, pgM_14, pgM_15, pgM_16, pgM_17]
def pgc0 : List (List (Nat × Instr × Nat)) := [[(0, .aload_n 0, 1), (1, .invokespecial 3, 3), (4, .aload_n 0, 1), (5, .bipush 20, 2), (7, .anewarray 11, 3)], [(10, .putfield 13, 3), (13, .aload_n 0, 1), (14, .bipush 20, 2)], [(16, .newarray .int, 2), (18, .putfield 17, 3), (21, .aload_n 0, 1), (22, .bipush 20, 2)], [(24, .newarray .int, 2), (26, .putfield 20, 3), (29, .aload_n 0, 1), (30, .bipush 20, 2)], [(32, .newarray .int, 2), (34, .putfield 23, 3), (37, .aload_n 0, 1), (38, .bipush 20, 2)], [(40, .newarray .boolean, 2), (42, .putfield 26, 3), (45, .aload_n 0, 1), (46, .bipush 10, 2)], [(48, .newarray .int, 2), (50, .putfield 30, 3), (53, .aload_n 0, 1), (54, .sipush 161, 3)], [(57, .newarray .int, 2), (59, .putfield 35, 3), (62, .aload_n 0, 1), (63, .iconst (-1), 1)], [(64, .putfield 38, 3), (67, .return_, 1)]]
def pgc1 : List (List (Nat × Instr × Nat)) := [[(0, .iload_n 1, 1), (1, .ifCond .lt 15, 3), (4, .iload_n 1, 1), (5, .aload_n 0, 1), (6, .getfield 42, 3)], [(9, .if_icmp .ge 7, 3), (12, .iconst 1, 1), (13, .goto 4, 3)], [(16, .iconst 0, 1), (17, .ireturn, 1)]]
def pgc2 : List (List (Nat × Instr × Nat)) := [[(0, .aload_n 0, 1), (1, .getfield 17, 3), (4, .aload_n 0, 1), (5, .getfield 42, 3)], [(8, .iload_n 1, 1), (9, .iastore, 1), (10, .aload_n 0, 1), (11, .getfield 20, 3), (14, .aload_n 0, 1), (15, .getfield 42, 3)], [(18, .iload_n 2, 1), (19, .iastore, 1), (20, .aload_n 0, 1), (21, .getfield 23, 3)], [(24, .aload_n 0, 1), (25, .getfield 42, 3), (28, .iload_n 3, 1), (29, .iastore, 1), (30, .aload_n 0, 1), (31, .getfield 13, 3)], [(34, .aload_n 0, 1), (35, .getfield 42, 3), (38, .aload 4, 2)], [(40, .getfield 45, 3), (43, .aload 4, 2), (45, .getfield 47, 3)], [(48, .invokestatic 48, 3), (51, .aastore, 1), (52, .iconst 0, 1), (53, .istore 5, 2), (55, .iload 5, 2)], [(57, .aload 4, 2), (59, .getfield 47, 3), (62, .if_icmp .ge 32, 3)], [(65, .aload 4, 2), (67, .getfield 45, 3), (70, .iload 5, 2)], [(72, .iaload, 1), (73, .bipush (-5), 2), (75, .if_icmp .ne 13, 3), (78, .aload_n 0, 1), (79, .getfield 26, 3)], [(82, .aload_n 0, 1), (83, .getfield 42, 3), (86, .iconst 1, 1), (87, .bastore, 1)], [(88, .iinc 5 1, 3), (91, .goto (-36), 3), (94, .aload_n 0, 1), (95, .dup, 1)], [(96, .getfield 42, 3), (99, .iconst 1, 1), (100, .iadd, 1), (101, .putfield 42, 3)], [(104, .aload_n 0, 1), (105, .getfield 42, 3), (108, .iconst 1, 1), (109, .isub, 1), (110, .ireturn, 1)]]
def pgc3 : List (List (Nat × Instr × Nat)) := [[(0, .aload_n 0, 1), (1, .aload_n 0, 1), (2, .getfield 38, 3), (5, .invokevirtual 54, 3)], [(8, .ifCond .eq 21, 3), (11, .aload_n 0, 1), (12, .getfield 17, 3), (15, .aload_n 0, 1)], [(16, .getfield 38, 3), (19, .iaload, 1), (20, .iload_n 1, 1), (21, .if_icmp .ne 8, 3)], [(24, .aload_n 0, 1), (25, .getfield 38, 3), (28, .ireturn, 1), (29, .aload_n 0, 1), (30, .getfield 42, 3)], [(33, .iconst 1, 1), (34, .isub, 1), (35, .istore 4, 2), (37, .iload 4, 2), (39, .ifCond .lt 45, 3)], [(42, .aload_n 0, 1), (43, .getfield 17, 3), (46, .iload 4, 2)], [(48, .iaload, 1), (49, .iload_n 1, 1), (50, .if_icmp .ne 28, 3), (53, .aload_n 0, 1), (54, .getfield 20, 3)], [(57, .iload 4, 2), (59, .iaload, 1), (60, .iload_n 3, 1), (61, .if_icmp .gt 17, 3)], [(64, .aload_n 0, 1), (65, .getfield 23, 3), (68, .iload 4, 2), (70, .iaload, 1), (71, .iload_n 2, 1)], [(72, .if_icmp .gt 6, 3), (75, .iload 4, 2), (77, .ireturn, 1), (78, .iinc 4 (-1), 3)], [(81, .goto (-44), 3), (84, .bipush (-4), 2), (86, .ireturn, 1)]]
def pgc4 : List (List (Nat × Instr × Nat)) := [[(0, .aload_n 0, 1), (1, .iload_n 1, 1), (2, .invokevirtual 54, 3), (5, .ifCond .eq 12, 3)], [(8, .aload_n 0, 1), (9, .getfield 13, 3), (12, .iload_n 1, 1), (13, .aaload, 1), (14, .goto 4, 3)], [(17, .aconst_null, 1), (18, .astore_n 2, 1), (19, .aload_n 0, 1), (20, .iconst 0, 1), (21, .putfield 58, 3)], [(24, .aload_n 0, 1), (25, .iconst 0, 1), (26, .putfield 61, 3), (29, .iconst 0, 1), (30, .istore_n 3, 1), (31, .aload_n 2, 1)], [(32, .ifnull 150, 3), (35, .iload_n 3, 1), (36, .aload_n 2, 1), (37, .arraylength, 1), (38, .if_icmp .ge 144, 3)], [(41, .aload_n 2, 1), (42, .iload_n 3, 1), (43, .iaload, 1), (44, .istore 4, 2), (46, .iload 4, 2)], [(48, .ifCond .lt 12, 3), (51, .aload_n 0, 1), (52, .iload 4, 2), (54, .invokevirtual 64, 3)], [(57, .goto 119, 3), (60, .iload 4, 2), (62, .bipush (-10), 2)], [(64, .if_icmp .lt 19, 3), (67, .aload_n 0, 1), (68, .aload_n 0, 1), (69, .getfield 30, 3)], [(72, .iconst (-1), 1), (73, .iload 4, 2), (75, .isub, 1), (76, .iaload, 1), (77, .invokevirtual 64, 3)], [(80, .goto 96, 3), (83, .iload 4, 2), (85, .bipush (-59), 2), (87, .if_icmp .ne 8, 3)], [(90, .aload_n 0, 1), (91, .invokevirtual 68, 3), (94, .ireturn, 1), (95, .iload 4, 2)], [(97, .bipush (-63), 2), (99, .if_icmp .ne 29, 3), (102, .aload_n 0, 1), (103, .invokevirtual 68, 3)], [(106, .ifCond .ne 70, 3), (109, .aload_n 2, 1), (110, .iload_n 3, 1), (111, .invokestatic 72, 3)], [(114, .istore_n 3, 1), (115, .aload_n 0, 1), (116, .dup, 1), (117, .getfield 58, 3)], [(120, .iconst 1, 1), (121, .iadd, 1), (122, .putfield 58, 3), (125, .goto 51, 3)], [(128, .iload 4, 2), (130, .bipush (-33), 2), (132, .if_icmp .ne 22, 3), (135, .aload_n 0, 1)], [(136, .aload_n 0, 1), (137, .invokevirtual 68, 3), (140, .ifCond .ne 7, 3), (143, .iconst 1, 1)], [(144, .goto 4, 3), (147, .iconst 0, 1), (148, .invokevirtual 64, 3), (151, .goto 25, 3)], [(154, .aload_n 0, 1), (155, .invokevirtual 68, 3), (158, .istore 5, 2)], [(160, .aload_n 0, 1), (161, .iload 4, 2), (163, .ineg, 1), (164, .aload_n 0, 1), (165, .invokevirtual 68, 3)], [(168, .iload 5, 2), (170, .invokestatic 76, 3), (173, .invokevirtual 64, 3)], [(176, .iinc 3 1, 3), (179, .goto (-148), 3), (182, .aload_n 0, 1), (183, .iconst (-1), 1)], [(184, .putfield 58, 3), (187, .iconst 0, 1), (188, .ireturn, 1)]]
def pgc5 : List (List (Nat × Instr × Nat)) := [[(0, .iload_n 1, 1), (1, .istore_n 2, 1), (2, .iload_n 2, 1), (3, .aload_n 0, 1), (4, .arraylength, 1), (5, .if_icmp .ge 17, 3)], [(8, .aload_n 0, 1), (9, .iload_n 2, 1), (10, .iaload, 1), (11, .bipush (-59), 2), (13, .if_icmp .eq 9, 3)], [(16, .iinc 2 1, 3), (19, .goto (-17), 3), (22, .iload_n 2, 1), (23, .ireturn, 1)]]
def pgc6 : List (List (Nat × Instr × Nat)) := [[(0, .aload_n 0, 1), (1, .getfield 61, 3), (4, .aload_n 0, 1), (5, .getfield 35, 3)], [(8, .arraylength, 1), (9, .if_icmp .ge 23, 3), (12, .aload_n 0, 1), (13, .getfield 35, 3)], [(16, .aload_n 0, 1), (17, .getfield 61, 3), (20, .iload_n 1, 1), (21, .iastore, 1), (22, .aload_n 0, 1), (23, .dup, 1)], [(24, .getfield 61, 3), (27, .iconst 1, 1), (28, .iadd, 1), (29, .putfield 61, 3)], [(32, .return_, 1)]]
def pgc7 : List (List (Nat × Instr × Nat)) := [[(0, .aload_n 0, 1), (1, .getfield 61, 3), (4, .iconst 1, 1), (5, .if_icmp .ge 5, 3)], [(8, .iconst 0, 1), (9, .ireturn, 1), (10, .aload_n 0, 1), (11, .dup, 1), (12, .getfield 61, 3), (15, .iconst 1, 1)], [(16, .isub, 1), (17, .putfield 61, 3), (20, .aload_n 0, 1), (21, .getfield 35, 3)], [(24, .aload_n 0, 1), (25, .getfield 61, 3), (28, .iaload, 1), (29, .ireturn, 1)]]
def pgc8 : List (List (Nat × Instr × Nat)) := [[(0, .iload_n 0, 1), (1, .lookupswitch 188 #[(37, 176), (38, 105), (42, 160), (43, 152), (45, 156), (47, 164), (60, 119), (61, 130), (62, 141), (124, 91)], 91)], [], [], [], [], [], [], [], [], [], [], [(92, .iload_n 1, 1), (93, .ifCond .ne 7, 3)], [(96, .iload_n 2, 1), (97, .ifCond .eq 7, 3), (100, .iconst 1, 1), (101, .goto 4, 3)], [(104, .iconst 0, 1), (105, .ireturn, 1), (106, .iload_n 1, 1), (107, .ifCond .eq 11, 3), (110, .iload_n 2, 1), (111, .ifCond .eq 7, 3)], [(114, .iconst 1, 1), (115, .goto 4, 3), (118, .iconst 0, 1), (119, .ireturn, 1)], [(120, .iload_n 1, 1), (121, .iload_n 2, 1), (122, .if_icmp .ge 7, 3), (125, .iconst 1, 1), (126, .goto 4, 3)], [(129, .iconst 0, 1), (130, .ireturn, 1), (131, .iload_n 1, 1), (132, .iload_n 2, 1), (133, .if_icmp .ne 7, 3)], [(136, .iconst 1, 1), (137, .goto 4, 3), (140, .iconst 0, 1), (141, .ireturn, 1), (142, .iload_n 1, 1), (143, .iload_n 2, 1)], [(144, .if_icmp .le 7, 3), (147, .iconst 1, 1), (148, .goto 4, 3), (151, .iconst 0, 1)], [(152, .ireturn, 1), (153, .iload_n 1, 1), (154, .iload_n 2, 1), (155, .iadd, 1), (156, .ireturn, 1), (157, .iload_n 1, 1), (158, .iload_n 2, 1), (159, .isub, 1)], [(160, .ireturn, 1), (161, .iload_n 1, 1), (162, .iload_n 2, 1), (163, .imul, 1), (164, .ireturn, 1), (165, .iload_n 2, 1), (166, .ifCond .ne 7, 3)], [(169, .iconst 0, 1), (170, .goto 6, 3), (173, .iload_n 1, 1), (174, .iload_n 2, 1), (175, .idiv, 1)], [(176, .ireturn, 1), (177, .iload_n 2, 1), (178, .ifCond .ne 7, 3), (181, .iconst 0, 1), (182, .goto 6, 3)], [(185, .iload_n 1, 1), (186, .iload_n 2, 1), (187, .irem, 1), (188, .ireturn, 1), (189, .iconst 0, 1), (190, .ireturn, 1)]]
def pgc9 : List (List (Nat × Instr × Nat)) := [[(0, .aload_n 0, 1), (1, .invokespecial 3, 3), (4, .aload_n 0, 1), (5, .aload_n 1, 1), (6, .putfield 9, 3)], [(9, .aload_n 0, 1), (10, .aload_n 2, 1), (11, .putfield 15, 3), (14, .aload_n 0, 1), (15, .aload_n 3, 1)], [(16, .putfield 19, 3), (19, .aload_n 0, 1), (20, .aload 4, 2), (22, .putfield 23, 3)], [(25, .aload_n 0, 1), (26, .aload 5, 2), (28, .putfield 27, 3), (31, .aload_n 0, 1)], [(32, .aload 6, 2), (34, .putfield 31, 3), (37, .return_, 1)]]
def pgc10 : List (List (Nat × Instr × Nat)) := [[(0, .aload_n 1, 1), (1, .getfield 35, 3), (4, .ifCond .eq 48, 3), (7, .aload_n 0, 1)], [(8, .getfield 15, 3), (11, .aload_n 1, 1), (12, .getfield 41, 3), (15, .invokevirtual 45, 3)], [(18, .ifCond .eq 34, 3), (21, .aload_n 0, 1), (22, .getfield 9, 3)], [(25, .aload_n 1, 1), (26, .getfield 51, 3), (29, .aload_n 0, 1), (30, .getfield 15, 3)], [(33, .getfield 54, 3), (36, .aload_n 1, 1), (37, .getfield 41, 3)], [(40, .iaload, 1), (41, .iload_n 2, 1), (42, .invokevirtual 58, 3), (45, .ifCond .eq 7, 3)], [(48, .iconst 1, 1), (49, .goto 4, 3), (52, .iconst 0, 1), (53, .ireturn, 1)]]
def pgc11 : List (List (Nat × Instr × Nat)) := [[(0, .aload_n 1, 1), (1, .iload_n 2, 1), (2, .invokevirtual 64, 3), (5, .istore_n 3, 1), (6, .aload_n 0, 1), (7, .aload_n 1, 1)], [(8, .iload_n 2, 1), (9, .invokevirtual 68, 3), (12, .ifCond .ne 5, 3), (15, .iload_n 3, 1)], [(16, .ireturn, 1), (17, .aload_n 0, 1), (18, .getfield 23, 3), (21, .aload_n 1, 1), (22, .getfield 72, 3)], [(25, .aload_n 1, 1), (26, .getfield 75, 3), (29, .aload_n 1, 1), (30, .getfield 78, 3)], [(33, .iload_n 2, 1), (34, .invokevirtual 81, 3), (37, .pop, 1), (38, .iload_n 3, 1), (39, .aload_n 0, 1)], [(40, .getfield 23, 3), (43, .invokevirtual 87, 3), (46, .invokestatic 91, 3)], [(49, .ireturn, 1)]]
def pgc12 : List (List (Nat × Instr × Nat)) := [[(0, .aload_n 0, 1), (1, .iconst (-1), 1), (2, .putfield 97, 3), (5, .aload_n 0, 1), (6, .getfield 27, 3)], [(9, .aload_n 1, 1), (10, .invokevirtual 100, 3), (13, .ifCond .eq 26, 3)], [(16, .aload_n 0, 1), (17, .iconst 4, 1), (18, .aload_n 1, 1), (19, .getfield 75, 3), (22, .aload_n 1, 1), (23, .getfield 41, 3)], [(26, .aload_n 1, 1), (27, .getfield 78, 3), (30, .iload_n 2, 1), (31, .invokevirtual 106, 3)], [(34, .ifCond .ne 5, 3), (37, .iconst 0, 1), (38, .ireturn, 1), (39, .aload_n 0, 1)], [(40, .aload_n 1, 1), (41, .iload_n 2, 1), (42, .invokevirtual 110, 3), (45, .i2l, 1), (46, .aload_n 0, 1), (47, .getfield 23, 3)], [(50, .aload_n 1, 1), (51, .getfield 75, 3), (54, .aload_n 1, 1), (55, .getfield 78, 3)], [(58, .invokevirtual 114, 3), (61, .i2l, 1), (62, .lmul, 1), (63, .ldc2_w 117, 3)], [(66, .ldiv, 1), (67, .lstore_n 3, 1), (68, .lload_n 3, 1), (69, .aload_n 0, 1), (70, .aload_n 1, 1), (71, .iload_n 2, 1)], [(72, .invokevirtual 119, 3), (75, .i2l, 1), (76, .lmul, 1), (77, .ldc2_w 122, 3)], [(80, .ldiv, 1), (81, .l2i, 1), (82, .ireturn, 1)]]
def pgc13 : List (List (Nat × Instr × Nat)) := [[(0, .aload_n 0, 1), (1, .getfield 31, 3), (4, .aload_n 1, 1), (5, .getfield 75, 3)], [(8, .bipush 10, 2), (10, .imul, 1), (11, .iconst 0, 1), (12, .iadd, 1), (13, .aload_n 1, 1), (14, .getfield 78, 3)], [(17, .iload_n 2, 1), (18, .invokevirtual 124, 3), (21, .istore_n 3, 1), (22, .iload_n 3, 1), (23, .ifCond .ge 9, 3)], [(26, .getstatic 130, 3), (29, .iconst 0, 1), (30, .iaload, 1), (31, .ireturn, 1)], [(32, .aload_n 0, 1), (33, .getfield 31, 3), (36, .getfield 133, 3), (39, .astore 4, 2)], [(41, .aload 4, 2), (43, .iconst 0, 1), (44, .aload_n 1, 1), (45, .getfield 136, 3)], [(48, .iastore, 1), (49, .aload 4, 2), (51, .iconst 1, 1), (52, .aload_n 1, 1), (53, .getfield 72, 3)], [(56, .iastore, 1), (57, .aload 4, 2), (59, .iconst 2, 1), (60, .aload_n 1, 1), (61, .iload_n 2, 1), (62, .invokevirtual 64, 3)], [(65, .iastore, 1), (66, .aload 4, 2), (68, .iconst 3, 1), (69, .aload_n 1, 1), (70, .getfield 139, 3)], [(73, .iastore, 1), (74, .aload 4, 2), (76, .iconst 5, 1), (77, .aload_n 0, 1), (78, .aload_n 1, 1), (79, .iload_n 2, 1)], [(80, .invokevirtual 68, 3), (83, .ifCond .eq 7, 3), (86, .iconst 1, 1), (87, .goto 4, 3)], [(90, .iconst 0, 1), (91, .iastore, 1), (92, .aload_n 1, 1), (93, .getfield 35, 3)], [(96, .ifCond .eq 33, 3), (99, .aload 4, 2), (101, .iconst 4, 1), (102, .aload_n 0, 1), (103, .getfield 9, 3)], [(106, .aload_n 1, 1), (107, .getfield 51, 3), (110, .aload_n 1, 1), (111, .getfield 75, 3)], [(114, .invokevirtual 142, 3), (117, .ifCond .eq 7, 3)], [(120, .iconst 1, 1), (121, .goto 4, 3), (124, .iconst 0, 1), (125, .iastore, 1), (126, .goto 47, 3)], [(129, .aload_n 0, 1), (130, .getfield 31, 3), (133, .getfield 146, 3)], [(136, .iload_n 3, 1), (137, .baload, 1), (138, .ifCond .eq 35, 3), (141, .aload 4, 2), (143, .iconst 4, 1)], [(144, .aload_n 0, 1), (145, .getfield 19, 3), (148, .aload_n 1, 1), (149, .getfield 51, 3)], [(152, .aload_n 1, 1), (153, .getfield 75, 3), (156, .aload_n 1, 1), (157, .getfield 78, 3)], [(160, .iload_n 2, 1), (161, .invokevirtual 150, 3), (164, .ifCond .eq 7, 3), (167, .iconst 1, 1)], [(168, .goto 4, 3), (171, .iconst 0, 1), (172, .iastore, 1), (173, .aload_n 0, 1), (174, .aload_n 1, 1), (175, .getfield 41, 3)], [(178, .aload_n 1, 1), (179, .getfield 75, 3), (182, .aload_n 1, 1), (183, .getfield 78, 3)], [(186, .iload_n 2, 1), (187, .invokevirtual 156, 3), (190, .aload_n 0, 1), (191, .getfield 31, 3)], [(194, .iload_n 3, 1), (195, .invokevirtual 160, 3), (198, .istore 5, 2)], [(200, .aload_n 0, 1), (201, .aload_n 0, 1), (202, .getfield 31, 3), (205, .getfield 163, 3)], [(208, .putfield 97, 3), (211, .iconst 0, 1), (212, .iload 5, 2), (214, .bipush 100, 2)], [(216, .invokestatic 91, 3), (219, .invokestatic 164, 3), (222, .ireturn, 1)]]
def pgc14 : List (List (Nat × Instr × Nat)) := [[(0, .aload_n 0, 1), (1, .getfield 31, 3), (4, .getfield 133, 3), (7, .bipush 6, 2)], [(9, .iload_n 3, 1), (10, .sipush 360, 3), (13, .idiv, 1), (14, .iastore, 1), (15, .aload_n 0, 1)], [(16, .getfield 31, 3), (19, .getfield 133, 3), (22, .bipush 7, 2)], [(24, .aload_n 0, 1), (25, .getfield 15, 3), (28, .iload_n 1, 1), (29, .iload_n 2, 1), (30, .iload 4, 2)], [(32, .invokevirtual 167, 3), (35, .iastore, 1), (36, .aload_n 0, 1), (37, .getfield 31, 3)], [(40, .getfield 133, 3), (43, .bipush 8, 2), (45, .aload_n 0, 1), (46, .getfield 15, 3)], [(49, .iload_n 1, 1), (50, .invokevirtual 45, 3), (53, .ifCond .eq 15, 3)], [(56, .aload_n 0, 1), (57, .getfield 15, 3), (60, .getfield 170, 3), (63, .iload_n 1, 1)], [(64, .iaload, 1), (65, .goto 4, 3), (68, .iconst 0, 1), (69, .iastore, 1), (70, .aload_n 0, 1), (71, .getfield 31, 3)], [(74, .getfield 133, 3), (77, .bipush 9, 2), (79, .aload_n 0, 1)], [(80, .getfield 15, 3), (83, .iload_n 1, 1), (84, .invokevirtual 45, 3), (87, .ifCond .eq 18, 3)], [(90, .aload_n 0, 1), (91, .getfield 27, 3), (94, .getfield 173, 3)], [(97, .iload_n 1, 1), (98, .iaload, 1), (99, .invokestatic 176, 3), (102, .goto 4, 3)], [(105, .iconst 0, 1), (106, .iastore, 1), (107, .return_, 1)]]
def pgc15 : List (List (Nat × Instr × Nat)) := [[(0, .aload_n 0, 1), (1, .getfield 31, 3), (4, .iload_n 2, 1), (5, .bipush 10, 2), (7, .imul, 1)], [(8, .iload_n 1, 1), (9, .iadd, 1), (10, .iload 4, 2), (12, .iload 5, 2), (14, .invokevirtual 124, 3)], [(17, .istore 6, 2), (19, .iload 6, 2), (21, .ifCond .ge 9, 3)], [(24, .getstatic 130, 3), (27, .iload_n 1, 1), (28, .iaload, 1), (29, .ireturn, 1), (30, .aload_n 0, 1), (31, .getfield 31, 3)], [(34, .getfield 133, 3), (37, .iconst 0, 1), (38, .invokestatic 181, 3)], [(41, .aload_n 0, 1), (42, .iload_n 3, 1), (43, .iload_n 2, 1), (44, .iload 4, 2), (46, .iload 5, 2)], [(48, .invokevirtual 156, 3), (51, .aload_n 0, 1), (52, .getfield 31, 3), (55, .iload 6, 2)], [(57, .invokevirtual 160, 3), (60, .istore 7, 2), (62, .iload_n 1, 1), (63, .iconst 4, 1)], [(64, .if_icmp .ne 6, 3), (67, .iload 7, 2), (69, .ireturn, 1), (70, .iconst 0, 1), (71, .iload 7, 2)], [(73, .iload_n 1, 1), (74, .iconst 1, 1), (75, .if_icmp .ne 8, 3), (78, .bipush 100, 2)], [(80, .goto 5, 3), (83, .ldc 187, 2), (85, .invokestatic 91, 3)], [(88, .invokestatic 164, 3), (91, .ireturn, 1)]]
def pgc16 : List (List (Nat × Instr × Nat)) := [[(0, .lconst 0, 1), (1, .lstore 6, 2), (3, .iconst 0, 1), (4, .istore 8, 2), (6, .iload 8, 2)], [(8, .aload_n 0, 1), (9, .getfield 27, 3), (12, .getfield 188, 3), (15, .if_icmp .ge 106, 3)], [(18, .aload_n 0, 1), (19, .getfield 27, 3), (22, .iload 8, 2)], [(24, .invokevirtual 191, 3), (27, .astore 9, 2), (29, .aload 9, 2), (31, .ifnull 84, 3)], [(34, .aload 9, 2), (36, .getfield 41, 3), (39, .iload_n 1, 1)], [(40, .if_icmp .ne 75, 3), (43, .aload 9, 2), (45, .getfield 75, 3)], [(48, .iload_n 2, 1), (49, .if_icmp .eq 6, 3), (52, .goto 63, 3), (55, .iload 4, 2)], [(57, .iconst (-1), 1), (58, .if_icmp .eq 17, 3), (61, .aload 9, 2), (63, .getfield 78, 3)], [(66, .sipush 360, 3), (69, .idiv, 1), (70, .iload 4, 2)], [(72, .if_icmp .ne 7, 3), (75, .iconst 1, 1), (76, .goto 4, 3), (79, .iconst 0, 1)], [(80, .istore 10, 2), (82, .iload 10, 2), (84, .ifCond .eq 31, 3), (87, .iload_n 3, 1)], [(88, .iconst (-1), 1), (89, .if_icmp .eq 12, 3), (92, .aload 9, 2), (94, .getfield 139, 3)], [(97, .iload_n 3, 1), (98, .if_icmp .ne 17, 3), (101, .lload 6, 2), (103, .aload_n 0, 1)], [(104, .aload 9, 2), (106, .iload 5, 2), (108, .invokevirtual 195, 3), (111, .i2l, 1)], [(112, .ladd, 1), (113, .lstore 6, 2), (115, .iinc 8 1, 3), (118, .goto (-112), 3)], [(121, .lload 6, 2), (123, .ldc2_w 198, 3), (126, .invokestatic 200, 3)], [(129, .l2i, 1), (130, .ireturn, 1)]]
def pgc17 : List (List (Nat × Instr × Nat)) := [[(0, .aload_n 0, 1), (1, .getfield 15, 3), (4, .iload_n 1, 1), (5, .iload_n 2, 1), (6, .iload_n 3, 1), (7, .invokevirtual 167, 3)], [(10, .aload_n 0, 1), (11, .iconst 2, 1), (12, .iload_n 2, 1), (13, .iload_n 1, 1), (14, .iload_n 3, 1), (15, .iload_n 3, 1)], [(16, .invokevirtual 106, 3), (19, .if_icmp .ge 5, 3), (22, .iconst 0, 1), (23, .ireturn, 1)], [(24, .aload_n 0, 1), (25, .iload_n 1, 1), (26, .iload_n 2, 1), (27, .iconst (-1), 1), (28, .iconst (-1), 1), (29, .iload_n 3, 1), (30, .invokevirtual 203, 3)], [(33, .i2l, 1), (34, .lstore 4, 2), (36, .lload 4, 2), (38, .aload_n 0, 1), (39, .iconst 1, 1)], [(40, .iload_n 2, 1), (41, .iload_n 1, 1), (42, .iload_n 3, 1), (43, .iload_n 3, 1), (44, .invokevirtual 106, 3), (47, .i2l, 1)], [(48, .lmul, 1), (49, .ldc2_w 122, 3), (52, .ldiv, 1), (53, .lstore 6, 2), (55, .lload 6, 2)], [(57, .aload_n 0, 1), (58, .iconst 3, 1), (59, .iload_n 2, 1), (60, .iload_n 1, 1), (61, .iload_n 3, 1), (62, .iload_n 3, 1), (63, .invokevirtual 106, 3)], [(66, .i2l, 1), (67, .invokestatic 200, 3), (70, .l2i, 1), (71, .ireturn, 1)]]
def pgc18 : List (List (Nat × Instr × Nat)) := [[(0, .iload_n 2, 1), (1, .sipush 360, 3), (4, .imul, 1), (5, .sipush 360, 3)], [(8, .iadd, 1), (9, .iconst 1, 1), (10, .isub, 1), (11, .istore 6, 2), (13, .lconst 0, 1), (14, .lstore 7, 2)], [(16, .lconst 0, 1), (17, .lstore 9, 2), (19, .iconst 0, 1), (20, .istore 11, 2), (22, .iload 11, 2)], [(24, .aload_n 0, 1), (25, .getfield 15, 3), (28, .getfield 206, 3), (31, .if_icmp .ge 55, 3)], [(34, .aload_n 0, 1), (35, .iload 11, 2), (37, .iload_n 1, 1), (38, .iconst (-1), 1), (39, .iload_n 2, 1)], [(40, .iload 5, 2), (42, .invokevirtual 203, 3), (45, .i2l, 1), (46, .lstore 12, 2)], [(48, .lload 7, 2), (50, .lload 12, 2), (52, .ladd, 1), (53, .lstore 7, 2), (55, .lload 9, 2)], [(57, .lload 12, 2), (59, .aload_n 0, 1), (60, .iconst 1, 1), (61, .iload_n 1, 1), (62, .iload 11, 2)], [(64, .iload 6, 2), (66, .iload 5, 2), (68, .invokevirtual 106, 3), (71, .i2l, 1)], [(72, .lmul, 1), (73, .ldc2_w 122, 3), (76, .ldiv, 1), (77, .ladd, 1), (78, .lstore 9, 2)], [(80, .iinc 11 1, 3), (83, .goto (-61), 3), (86, .lload 7, 2)], [(88, .iload_n 3, 1), (89, .i2l, 1), (90, .lmul, 1), (91, .ldc2_w 122, 3), (94, .ldiv, 1), (95, .iload 4, 2)], [(97, .i2l, 1), (98, .lmul, 1), (99, .ldc2_w 122, 3), (102, .ldiv, 1), (103, .lload 9, 2)], [(105, .lsub, 1), (106, .l2i, 1), (107, .ireturn, 1)]]
def pgc19 : List (List (Nat × Instr × Nat)) := [[(0, .aload_n 0, 1), (1, .invokespecial 1, 3), (4, .aload_n 0, 1), (5, .iconst (-1), 1), (6, .putfield 7, 3)], [(9, .aload_n 0, 1), (10, .iload_n 1, 1), (11, .putfield 13, 3), (14, .aload_n 0, 1), (15, .iload_n 2, 1)], [(16, .putfield 16, 3), (19, .aload_n 0, 1), (20, .iload_n 3, 1), (21, .putfield 19, 3)], [(24, .aload_n 0, 1), (25, .iload_n 2, 1), (26, .iconst 2, 1), (27, .invokestatic 24, 3), (30, .putfield 28, 3)], [(33, .aload_n 0, 1), (34, .aload 4, 2), (36, .iconst 0, 1), (37, .iaload, 1), (38, .putfield 32, 3)], [(41, .aload_n 0, 1), (42, .aload 4, 2), (44, .iconst 1, 1), (45, .iaload, 1), (46, .putfield 35, 3)], [(49, .aload_n 0, 1), (50, .aload 4, 2), (52, .iconst 2, 1), (53, .iaload, 1), (54, .putfield 38, 3)], [(57, .aload_n 0, 1), (58, .aload 4, 2), (60, .iconst 3, 1), (61, .iaload, 1), (62, .putfield 41, 3)], [(65, .aload_n 0, 1), (66, .aload 4, 2), (68, .iconst 4, 1), (69, .iaload, 1), (70, .putfield 44, 3)], [(73, .aload_n 0, 1), (74, .aload 4, 2), (76, .iconst 5, 1), (77, .iaload, 1), (78, .putfield 47, 3)], [(81, .aload_n 0, 1), (82, .aload 4, 2), (84, .bipush 6, 2), (86, .iaload, 1), (87, .putfield 50, 3)], [(90, .return_, 1)]]
def pgc20 : List (List (Nat × Instr × Nat)) := [[(0, .aload_n 0, 1), (1, .getfield 7, 3), (4, .ifCond .lt 23, 3), (7, .iload_n 1, 1)], [(8, .aload_n 0, 1), (9, .getfield 7, 3), (12, .if_icmp .lt 15, 3), (15, .aload_n 0, 1)], [(16, .getfield 19, 3), (19, .aload_n 0, 1), (20, .getfield 53, 3), (23, .isub, 1)], [(24, .goto 7, 3), (27, .aload_n 0, 1), (28, .getfield 19, 3), (31, .ireturn, 1)]]
def pgc21 : List (List (Nat × Instr × Nat)) := [[(0, .aload_n 0, 1), (1, .getfield 7, 3), (4, .ifCond .ge 5, 3), (7, .iconst 0, 1)], [(8, .ireturn, 1), (9, .aload_n 0, 1), (10, .getfield 53, 3), (13, .ifCond .ne 7, 3)], [(16, .iconst 1, 1), (17, .goto 4, 3), (20, .iconst 2, 1), (21, .ireturn, 1)]]
def pgc22 : List (List (Nat × Instr × Nat)) := [[(0, .aload_n 0, 1), (1, .getfield 47, 3), (4, .aload_n 1, 1), (5, .getfield 47, 3)], [(8, .if_icmp .ne 29, 3), (11, .aload_n 0, 1), (12, .getfield 32, 3), (15, .aload_n 1, 1)], [(16, .getfield 32, 3), (19, .if_icmp .ne 14, 3), (22, .aload_n 0, 1), (23, .getfield 38, 3)], [(26, .aload_n 1, 1), (27, .getfield 38, 3), (30, .if_icmp .eq 7, 3)], [(33, .iconst 1, 1), (34, .goto 4, 3), (37, .iconst 0, 1), (38, .ireturn, 1)]]
def pgc23 : List (List (Nat × Instr × Nat)) := [[(0, .aload_n 0, 1), (1, .invokespecial 3, 3), (4, .aload_n 0, 1), (5, .sipush 150, 3)], [(8, .anewarray 11, 3), (11, .putfield 13, 3), (14, .aload_n 0, 1), (15, .bipush 7, 2)], [(17, .newarray .int, 2), (19, .putfield 17, 3), (22, .aload_n 0, 1), (23, .bipush 24, 2)], [(25, .newarray .int, 2), (27, .putfield 21, 3), (30, .aload_n 0, 1), (31, .bipush 20, 2)], [(33, .newarray .int, 2), (35, .putfield 26, 3), (38, .aload_n 0, 1), (39, .iconst 1, 1)], [(40, .putfield 29, 3), (43, .return_, 1)]]
def pgc24 : List (List (Nat × Instr × Nat)) := [[(0, .iload_n 0, 1), (1, .ifCond .lt 17, 3), (4, .iload_n 0, 1), (5, .bipush 7, 2), (7, .if_icmp .ge 11, 3)], [(10, .getstatic 33, 3), (13, .iload_n 0, 1), (14, .iaload, 1), (15, .goto 4, 3)], [(18, .iconst (-1), 1), (19, .ireturn, 1)]]
def pgc25 : List (List (Nat × Instr × Nat)) := [[(0, .iload_n 0, 1), (1, .istore_n 2, 1), (2, .iconst 0, 1), (3, .istore_n 3, 1), (4, .iload_n 3, 1), (5, .bipush 7, 2), (7, .if_icmp .ge 19, 3)], [(10, .iload_n 2, 1), (11, .iload_n 1, 1), (12, .if_icmp .le 14, 3), (15, .iload_n 2, 1)], [(16, .invokestatic 36, 3), (19, .istore_n 2, 1), (20, .iinc 3 1, 3), (23, .goto (-19), 3)], [(26, .iload_n 2, 1), (27, .iload_n 1, 1), (28, .if_icmp .ne 7, 3), (31, .iconst 1, 1)], [(32, .goto 4, 3), (35, .iconst 0, 1), (36, .ireturn, 1)]]
def pgc26 : List (List (Nat × Instr × Nat)) := [[(0, .iload_n 1, 1), (1, .ifCond .lt 20, 3), (4, .iload_n 1, 1), (5, .aload_n 0, 1), (6, .getfield 40, 3)], [(9, .if_icmp .ge 12, 3), (12, .aload_n 0, 1), (13, .getfield 13, 3)], [(16, .iload_n 1, 1), (17, .aaload, 1), (18, .goto 4, 3), (21, .aconst_null, 1), (22, .areturn, 1)]]
def pgc27 : List (List (Nat × Instr × Nat)) := [[(0, .aload_n 0, 1), (1, .getfield 40, 3), (4, .sipush 150, 3), (7, .if_icmp .lt 6, 3)], [(10, .bipush (-2), 2), (12, .ireturn, 1), (13, .new 11, 3)], [(16, .dup, 1), (17, .aload_n 0, 1), (18, .getfield 40, 3), (21, .iload_n 1, 1), (22, .iload_n 2, 1), (23, .aload_n 0, 1)], [(24, .getfield 17, 3), (27, .invokespecial 43, 3), (30, .astore_n 3, 1), (31, .aload_n 0, 1)], [(32, .getfield 13, 3), (35, .aload_n 0, 1), (36, .getfield 40, 3), (39, .aload_n 3, 1)], [(40, .aastore, 1), (41, .aload_n 0, 1), (42, .getfield 26, 3), (45, .aload_n 3, 1), (46, .getfield 46, 3)], [(49, .dup2, 1), (50, .iaload, 1), (51, .iconst 1, 1), (52, .aload_n 3, 1), (53, .getfield 49, 3)], [(56, .ishl, 1), (57, .ior, 1), (58, .iastore, 1), (59, .aload_n 0, 1), (60, .dup, 1), (61, .getfield 40, 3)], [(64, .iconst 1, 1), (65, .iadd, 1), (66, .putfield 40, 3), (69, .aload_n 0, 1), (70, .getfield 40, 3)], [(73, .iconst 1, 1), (74, .isub, 1), (75, .ireturn, 1)]]
def pgc28 : List (List (Nat × Instr × Nat)) := [[(0, .iconst 0, 1), (1, .istore_n 2, 1), (2, .iload_n 2, 1), (3, .aload_n 1, 1), (4, .getfield 52, 3), (7, .if_icmp .ge 23, 3)], [(10, .aload_n 0, 1), (11, .iload_n 2, 1), (12, .invokevirtual 55, 3), (15, .aload_n 1, 1)], [(16, .invokestatic 59, 3), (19, .ifCond .eq 5, 3), (22, .iconst 1, 1), (23, .ireturn, 1)], [(24, .iinc 2 1, 3), (27, .goto (-25), 3), (30, .iconst 0, 1), (31, .ireturn, 1)]]
def pgc29 : List (List (Nat × Instr × Nat)) := [[(0, .aload_n 0, 1), (1, .ifnull 19, 3), (4, .aload_n 1, 1), (5, .ifnull 15, 3)], [(8, .aload_n 0, 1), (9, .aload_n 1, 1), (10, .invokevirtual 63, 3), (13, .ifCond .eq 7, 3)], [(16, .iconst 1, 1), (17, .goto 4, 3), (20, .iconst 0, 1), (21, .ireturn, 1)]]
def pgc30 : List (List (Nat × Instr × Nat)) := [[(0, .iconst 0, 1), (1, .istore_n 2, 1), (2, .bipush (-4), 2), (4, .istore_n 3, 1), (5, .bipush (-4), 2), (7, .istore 4, 2)], [(9, .iconst 0, 1), (10, .istore 5, 2), (12, .iload 5, 2), (14, .aload_n 0, 1), (15, .getfield 40, 3)], [(18, .if_icmp .ge 62, 3), (21, .iload 5, 2), (23, .iconst 1, 1)], [(24, .iadd, 1), (25, .istore 6, 2), (27, .iload 6, 2), (29, .aload_n 0, 1), (30, .getfield 40, 3)], [(33, .if_icmp .ge 41, 3), (36, .aload_n 0, 1), (37, .iload 5, 2), (39, .invokevirtual 55, 3)], [(42, .aload_n 0, 1), (43, .iload 6, 2), (45, .invokevirtual 55, 3)], [(48, .invokestatic 59, 3), (51, .ifCond .eq 17, 3), (54, .iload_n 2, 1), (55, .ifCond .ne 10, 3)], [(58, .iload 5, 2), (60, .istore_n 3, 1), (61, .iload 6, 2), (63, .istore 4, 2)], [(65, .iinc 2 1, 3), (68, .iinc 6 1, 3), (71, .goto (-44), 3)], [(74, .iinc 5 1, 3), (77, .goto (-65), 3)], [(80, .iload_n 1, 1), (81, .ifCond .ne 14, 3), (84, .iload_n 2, 1), (85, .ifCond .ne 8, 3)], [(88, .bipush (-4), 2), (90, .goto 4, 3), (93, .iload_n 2, 1), (94, .ireturn, 1), (95, .iload_n 1, 1)], [(96, .iconst 1, 1), (97, .if_icmp .ne 7, 3), (100, .iload_n 3, 1), (101, .goto 5, 3)], [(104, .iload 4, 2), (106, .ireturn, 1)]]
def pgc31 : List (List (Nat × Instr × Nat)) := [[(0, .aload_n 1, 1), (1, .getfield 67, 3), (4, .ifCond .lt 6, 3), (7, .bipush (-3), 2)], [(9, .ireturn, 1), (10, .aload_n 1, 1), (11, .iload_n 3, 1), (12, .putfield 67, 3), (15, .aload_n 1, 1)], [(16, .iload_n 2, 1), (17, .putfield 70, 3), (20, .aload_n 0, 1), (21, .dup, 1), (22, .getfield 73, 3)], [(25, .iconst 1, 1), (26, .iadd, 1), (27, .putfield 73, 3), (30, .aload_n 0, 1), (31, .getfield 73, 3)], [(34, .ireturn, 1)]]
def pgc32 : List (List (Nat × Instr × Nat)) := [[(0, .aload_n 0, 1), (1, .iload_n 1, 1), (2, .invokevirtual 55, 3), (5, .astore_n 3, 1), (6, .aload_n 3, 1), (7, .ifnull 22, 3)], [(10, .aload_n 3, 1), (11, .getfield 46, 3), (14, .iload_n 2, 1), (15, .if_icmp .ne 14, 3)], [(18, .aload_n 3, 1), (19, .getfield 67, 3), (22, .ifCond .ge 7, 3)], [(25, .iconst 1, 1), (26, .goto 4, 3), (29, .iconst 0, 1), (30, .ireturn, 1)]]
def pgc33 : List (List (Nat × Instr × Nat)) := [[(0, .iconst 0, 1), (1, .istore_n 2, 1), (2, .iconst 0, 1), (3, .istore_n 3, 1), (4, .iload_n 3, 1), (5, .aload_n 0, 1), (6, .getfield 40, 3)], [(9, .if_icmp .ge 21, 3), (12, .aload_n 0, 1), (13, .iload_n 3, 1), (14, .iload_n 1, 1), (15, .invokevirtual 76, 3)], [(18, .ifCond .eq 6, 3), (21, .iinc 2 1, 3)], [(24, .iinc 3 1, 3), (27, .goto (-23), 3), (30, .iload_n 2, 1), (31, .ifCond .ne 6, 3)], [(34, .bipush (-4), 2), (36, .ireturn, 1), (37, .aload_n 0, 1), (38, .aload_n 0, 1), (39, .getfield 29, 3)], [(42, .ldc 80, 2), (44, .imul, 1), (45, .sipush 12345, 3)], [(48, .iadd, 1), (49, .putfield 29, 3), (52, .aload_n 0, 1), (53, .getfield 29, 3)], [(56, .bipush 8, 2), (58, .iushr, 1), (59, .iload_n 2, 1), (60, .irem, 1), (61, .istore_n 3, 1), (62, .iconst 0, 1), (63, .istore 4, 2)], [(65, .iload 4, 2), (67, .aload_n 0, 1), (68, .getfield 40, 3), (71, .if_icmp .ge 29, 3)], [(74, .aload_n 0, 1), (75, .iload 4, 2), (77, .iload_n 1, 1), (78, .invokevirtual 76, 3)], [(81, .ifCond .eq 13, 3), (84, .iload_n 3, 1), (85, .ifCond .ne 6, 3)], [(88, .iload 4, 2), (90, .ireturn, 1), (91, .iinc 3 (-1), 3), (94, .iinc 4 1, 3)], [(97, .goto (-32), 3), (100, .bipush (-4), 2), (102, .ireturn, 1)]]
def pgc34 : List (List (Nat × Instr × Nat)) := [[(0, .iconst 0, 1), (1, .istore_n 2, 1), (2, .iconst 0, 1), (3, .istore_n 3, 1), (4, .iconst 0, 1), (5, .istore 4, 2), (7, .iconst 0, 1)], [(8, .istore 5, 2), (10, .iload 5, 2), (12, .aload_n 0, 1), (13, .getfield 40, 3)], [(16, .if_icmp .ge 70, 3), (19, .aload_n 0, 1), (20, .iload 5, 2), (22, .invokevirtual 55, 3)], [(25, .astore 6, 2), (27, .aload 6, 2), (29, .ifnull 51, 3)], [(32, .aload 6, 2), (34, .getfield 46, 3), (37, .iload_n 1, 1), (38, .if_icmp .ne 42, 3)], [(41, .aload 6, 2), (43, .invokevirtual 81, 3), (46, .istore 7, 2)], [(48, .iinc 2 1, 3), (51, .iload_n 3, 1), (52, .iload 7, 2), (54, .ifCond .le 7, 3)], [(57, .iconst 1, 1), (58, .goto 4, 3), (61, .iconst 0, 1), (62, .iadd, 1), (63, .istore_n 3, 1)], [(64, .iload 4, 2), (66, .iload 7, 2), (68, .iconst 1, 1), (69, .if_icmp .le 7, 3)], [(72, .iconst 1, 1), (73, .goto 4, 3), (76, .iconst 0, 1), (77, .iadd, 1), (78, .istore 4, 2)], [(80, .iinc 5 1, 3), (83, .goto (-73), 3), (86, .iload_n 2, 1), (87, .bipush 30, 2)], [(89, .if_icmp .le 6, 3), (92, .bipush (-5), 2), (94, .ireturn, 1), (95, .iload_n 3, 1)], [(96, .ifCond .ne 5, 3), (99, .iload_n 2, 1), (100, .ireturn, 1), (101, .iload_n 2, 1), (102, .iload_n 3, 1), (103, .isub, 1)], [(104, .iload 4, 2), (106, .iadd, 1), (107, .istore 5, 2), (109, .iload 5, 2), (111, .iload 4, 2)], [(113, .if_icmp .le 21, 3), (116, .iload_n 2, 1), (117, .iload_n 3, 1), (118, .iload 4, 2)], [(120, .iload 5, 2), (122, .invokestatic 85, 3), (125, .ifCond .ne 9, 3)], [(128, .iinc 5 (-1), 3), (131, .goto (-22), 3), (134, .iload 5, 2)], [(136, .ireturn, 1)]]
def pgc35 : List (List (Nat × Instr × Nat)) := [[(0, .lconst 0, 1), (1, .lstore 4, 2), (3, .iconst 0, 1), (4, .istore 6, 2), (6, .iload 6, 2)], [(8, .iload_n 2, 1), (9, .if_icmp .gt 31, 3), (12, .lload 4, 2), (14, .iload_n 3, 1), (15, .iload 6, 2)], [(17, .invokestatic 89, 3), (20, .iload_n 0, 1), (21, .iload_n 3, 1), (22, .isub, 1), (23, .iload_n 1, 1)], [(24, .iload 6, 2), (26, .isub, 1), (27, .invokestatic 89, 3), (30, .lmul, 1), (31, .ladd, 1)], [(32, .lstore 4, 2), (34, .iinc 6 1, 3), (37, .goto (-31), 3)], [(40, .lload 4, 2), (42, .ldc2_w 93, 3), (45, .lmul, 1), (46, .iload_n 0, 1), (47, .iload_n 1, 1)], [(48, .invokestatic 89, 3), (51, .ldc2_w 95, 3), (54, .lmul, 1), (55, .lcmp, 1)], [(56, .ifCond .lt 7, 3), (59, .iconst 1, 1), (60, .goto 4, 3), (63, .iconst 0, 1)], [(64, .ireturn, 1)]]
def pgc36 : List (List (Nat × Instr × Nat)) := [[(0, .iload_n 1, 1), (1, .ifCond .lt 8, 3), (4, .iload_n 1, 1), (5, .iload_n 0, 1), (6, .if_icmp .le 5, 3)], [(9, .lconst 0, 1), (10, .lreturn, 1), (11, .lconst 1, 1), (12, .lstore_n 2, 1), (13, .iconst 1, 1), (14, .istore 4, 2)], [(16, .iload 4, 2), (18, .iload_n 1, 1), (19, .if_icmp .gt 23, 3), (22, .lload_n 2, 1), (23, .iload_n 0, 1)], [(24, .iload_n 1, 1), (25, .isub, 1), (26, .iload 4, 2), (28, .iadd, 1), (29, .i2l, 1), (30, .lmul, 1), (31, .iload 4, 2)], [(33, .i2l, 1), (34, .ldiv, 1), (35, .lstore_n 2, 1), (36, .iinc 4 1, 3), (39, .goto (-23), 3)], [(42, .lload_n 2, 1), (43, .lreturn, 1)]]
def pgc37 : List (List (Nat × Instr × Nat)) := [[(0, .iload_n 0, 1), (1, .bipush 7, 2), (3, .imul, 1), (4, .iload_n 1, 1), (5, .iadd, 1), (6, .istore_n 2, 1), (7, .iload_n 1, 1)], [(8, .ifCond .lt 29, 3), (11, .iload_n 1, 1), (12, .bipush 7, 2), (14, .if_icmp .ge 23, 3)], [(17, .iload_n 2, 1), (18, .ifCond .lt 19, 3), (21, .iload_n 2, 1), (22, .getstatic 97, 3)], [(25, .arraylength, 1), (26, .if_icmp .ge 11, 3), (29, .getstatic 97, 3)], [(32, .iload_n 2, 1), (33, .iaload, 1), (34, .goto 4, 3), (37, .iconst 0, 1), (38, .ireturn, 1)]]
def pgc38 : List (List (Nat × Instr × Nat)) := [[(0, .iload_n 1, 1), (1, .istore_n 2, 1), (2, .iconst 0, 1), (3, .istore_n 3, 1), (4, .iload_n 3, 1), (5, .bipush 7, 2), (7, .if_icmp .ge 26, 3)], [(10, .iload_n 2, 1), (11, .ifCond .le 22, 3), (14, .iload_n 0, 1), (15, .iload_n 2, 1)], [(16, .invokestatic 100, 3), (19, .ifCond .ne 14, 3), (22, .iload_n 2, 1), (23, .invokestatic 36, 3)], [(26, .istore_n 2, 1), (27, .iinc 3 1, 3), (30, .goto (-26), 3)], [(33, .iload_n 2, 1), (34, .ireturn, 1)]]
def pgc39 : List (List (Nat × Instr × Nat)) := [[(0, .iload_n 2, 1), (1, .iload_n 3, 1), (2, .invokestatic 104, 3), (5, .istore 7, 2), (7, .iload 7, 2)], [(9, .ifCond .lt 10, 3), (12, .iload 6, 2), (14, .bipush 30, 2)], [(16, .if_icmp .le 5, 3), (19, .iconst 0, 1), (20, .ireturn, 1), (21, .iload_n 2, 1), (22, .iload 7, 2)], [(24, .invokestatic 100, 3), (27, .istore 8, 2), (29, .aload_n 0, 1), (30, .getfield 107, 3)], [(33, .bipush 24, 2), (35, .if_icmp .ge 24, 3), (38, .aload_n 0, 1), (39, .getfield 21, 3)], [(42, .aload_n 0, 1), (43, .getfield 107, 3), (46, .iload 8, 2)], [(48, .iastore, 1), (49, .aload_n 0, 1), (50, .dup, 1), (51, .getfield 107, 3), (54, .iconst 1, 1), (55, .iadd, 1)], [(56, .putfield 107, 3), (59, .iload 7, 2), (61, .invokestatic 36, 3)], [(64, .istore 9, 2), (66, .iload 6, 2), (68, .iconst 1, 1), (69, .iadd, 1), (70, .istore 10, 2)], [(72, .iload 8, 2), (74, .lookupswitch 292 #[(10, 90), (11, 96), (12, 115), (20, 137), (30, 155), (40, 172), (50, 207), (60, 223), (61, 240), (70, 257)], 90)], [], [], [], [], [], [], [], [], [], [], [(164, .iload 4, 2), (166, .iload 5, 2)], [(168, .iadd, 1), (169, .ireturn, 1), (170, .aload_n 0, 1), (171, .aload_n 1, 1), (172, .iconst 0, 1), (173, .aload_n 1, 1), (174, .getfield 110, 3)], [(177, .iload 4, 2), (179, .iload 5, 2), (181, .iload 10, 2), (183, .invokevirtual 113, 3)], [(186, .iconst 2, 1), (187, .imul, 1), (188, .ireturn, 1), (189, .aload_n 0, 1), (190, .aload_n 1, 1), (191, .iconst 1, 1)], [(192, .aload_n 1, 1), (193, .getfield 110, 3), (196, .iload 4, 2), (198, .iload 5, 2)], [(200, .iload 10, 2), (202, .invokevirtual 113, 3), (205, .aload_n 1, 1), (206, .getfield 52, 3)], [(209, .isub, 1), (210, .ireturn, 1), (211, .aload_n 0, 1), (212, .aload_n 1, 1), (213, .iconst 1, 1), (214, .iload 9, 2)], [(216, .iload 4, 2), (218, .iload 5, 2), (220, .iload 10, 2), (222, .invokevirtual 113, 3)], [(225, .bipush 9, 2), (227, .ixor, 1), (228, .ireturn, 1), (229, .aload_n 0, 1), (230, .aload_n 1, 1), (231, .iconst 0, 1)], [(232, .iload 9, 2), (234, .iload 4, 2), (236, .iload 5, 2), (238, .iload 10, 2)], [(240, .invokevirtual 113, 3), (243, .iconst 4, 1), (244, .isub, 1), (245, .ireturn, 1), (246, .aload_n 0, 1), (247, .aload_n 1, 1)], [(248, .iconst 2, 1), (249, .iload 9, 2), (251, .iload 4, 2), (253, .iload 5, 2), (255, .iload 10, 2)], [(257, .invokevirtual 113, 3), (260, .istore 11, 2), (262, .iload 11, 2)], [(264, .aload_n 0, 1), (265, .aload_n 1, 1), (266, .iconst 1, 1), (267, .aload_n 1, 1), (268, .getfield 110, 3), (271, .iconst 1, 1)], [(272, .iload 5, 2), (274, .iload 10, 2), (276, .invokevirtual 113, 3), (279, .iadd, 1)], [(280, .ireturn, 1), (281, .aload_n 0, 1), (282, .aload_n 1, 1), (283, .iconst 1, 1), (284, .iload 9, 2), (286, .iload 4, 2)], [(288, .iload 5, 2), (290, .iload 10, 2), (292, .invokevirtual 113, 3), (295, .ineg, 1)], [(296, .ireturn, 1), (297, .aload_n 0, 1), (298, .aload_n 1, 1), (299, .iconst 0, 1), (300, .iload 9, 2), (302, .iload 4, 2)], [(304, .iconst 1, 1), (305, .iadd, 1), (306, .iload 5, 2), (308, .iload 10, 2), (310, .invokevirtual 113, 3)], [(313, .ireturn, 1), (314, .aload_n 0, 1), (315, .aload_n 1, 1), (316, .iconst 2, 1), (317, .iload 9, 2), (319, .iload 4, 2)], [(321, .iload 5, 2), (323, .iload 10, 2), (325, .invokevirtual 113, 3)], [(328, .iconst 3, 1), (329, .imul, 1), (330, .ireturn, 1), (331, .aload_n 0, 1), (332, .aload_n 1, 1), (333, .iconst 1, 1), (334, .iload 9, 2)], [(336, .iload 4, 2), (338, .iload 5, 2), (340, .iload 10, 2), (342, .invokevirtual 113, 3)], [(345, .istore 12, 2), (347, .iload 12, 2), (349, .aload_n 0, 1), (350, .aload_n 1, 1), (351, .iconst 0, 1)], [(352, .aload_n 1, 1), (353, .getfield 110, 3), (356, .iconst 2, 1), (357, .iload 5, 2), (359, .iload 10, 2)], [(361, .invokevirtual 113, 3), (364, .isub, 1), (365, .ireturn, 1), (366, .iconst 0, 1), (367, .ireturn, 1)]]
def pgc40 : List (List (Nat × Instr × Nat)) := [[(0, .aload_n 0, 1), (1, .invokespecial 3, 3), (4, .aload_n 0, 1), (5, .bipush 20, 2), (7, .newarray .int, 2)], [(9, .putfield 11, 3), (12, .aload_n 0, 1), (13, .bipush 20, 2), (15, .newarray .int, 2)], [(17, .putfield 15, 3), (20, .aload_n 0, 1), (21, .bipush 100, 2), (23, .newarray .int, 2)], [(25, .putfield 18, 3), (28, .aload_n 0, 1), (29, .bipush 100, 2), (31, .newarray .int, 2)], [(33, .putfield 21, 3), (36, .aload_n 0, 1), (37, .bipush 100, 2), (39, .newarray .int, 2)], [(41, .putfield 24, 3), (44, .aload_n 0, 1), (45, .bipush 100, 2), (47, .newarray .int, 2)], [(49, .putfield 27, 3), (52, .return_, 1)]]
def pgc41 : List (List (Nat × Instr × Nat)) := [[(0, .iload_n 1, 1), (1, .ifCond .lt 15, 3), (4, .iload_n 1, 1), (5, .aload_n 0, 1), (6, .getfield 30, 3)], [(9, .if_icmp .ge 7, 3), (12, .iconst 1, 1), (13, .goto 4, 3)], [(16, .iconst 0, 1), (17, .ireturn, 1)]]
def pgc42 : List (List (Nat × Instr × Nat)) := [[(0, .aload_n 0, 1), (1, .getfield 30, 3), (4, .bipush 20, 2), (6, .if_icmp .lt 6, 3)], [(9, .bipush (-2), 2), (11, .ireturn, 1), (12, .aload_n 0, 1), (13, .getfield 11, 3)], [(16, .aload_n 0, 1), (17, .getfield 30, 3), (20, .iload_n 1, 1), (21, .iastore, 1), (22, .aload_n 0, 1), (23, .getfield 15, 3)], [(26, .aload_n 0, 1), (27, .getfield 30, 3), (30, .iload_n 2, 1), (31, .iastore, 1)], [(32, .aload_n 0, 1), (33, .dup, 1), (34, .getfield 30, 3), (37, .iconst 1, 1), (38, .iadd, 1), (39, .putfield 30, 3)], [(42, .aload_n 0, 1), (43, .getfield 30, 3), (46, .iconst 1, 1), (47, .isub, 1)], [(48, .ireturn, 1)]]
def pgc43 : List (List (Nat × Instr × Nat)) := [[(0, .iload_n 1, 1), (1, .ifCond .lt 15, 3), (4, .iload_n 1, 1), (5, .aload_n 0, 1), (6, .getfield 34, 3)], [(9, .if_icmp .ge 7, 3), (12, .iconst 1, 1), (13, .goto 4, 3)], [(16, .iconst 0, 1), (17, .ireturn, 1)]]
def pgc44 : List (List (Nat × Instr × Nat)) := [[(0, .aload_n 0, 1), (1, .getfield 34, 3), (4, .bipush 100, 2), (6, .if_icmp .lt 6, 3)], [(9, .bipush (-2), 2), (11, .ireturn, 1), (12, .aload_n 0, 1), (13, .getfield 18, 3)], [(16, .aload_n 0, 1), (17, .getfield 34, 3), (20, .iload_n 1, 1), (21, .iastore, 1), (22, .aload_n 0, 1), (23, .getfield 21, 3)], [(26, .aload_n 0, 1), (27, .getfield 34, 3), (30, .iload_n 2, 1), (31, .iastore, 1)], [(32, .aload_n 0, 1), (33, .getfield 24, 3), (36, .aload_n 0, 1), (37, .getfield 34, 3)], [(40, .iload_n 3, 1), (41, .iastore, 1), (42, .aload_n 0, 1), (43, .getfield 27, 3), (46, .aload_n 0, 1), (47, .getfield 34, 3)], [(50, .sipush 3600, 3), (53, .iastore, 1), (54, .aload_n 0, 1), (55, .dup, 1)], [(56, .getfield 34, 3), (59, .iconst 1, 1), (60, .iadd, 1), (61, .putfield 34, 3)], [(64, .aload_n 0, 1), (65, .getfield 34, 3), (68, .iconst 1, 1), (69, .isub, 1), (70, .ireturn, 1)]]
def pgc45 : List (List (Nat × Instr × Nat)) := [[(0, .aload_n 0, 1), (1, .getfield 27, 3), (4, .iload_n 1, 1), (5, .iaload, 1), (6, .sipush 3600, 3)], [(9, .if_icmp .eq 6, 3), (12, .bipush (-3), 2), (14, .ireturn, 1), (15, .aload_n 0, 1)], [(16, .getfield 27, 3), (19, .iload_n 1, 1), (20, .iload_n 2, 1), (21, .iastore, 1), (22, .iconst 1, 1), (23, .ireturn, 1)]]
def pgc46 : List (List (Nat × Instr × Nat)) := [[(0, .iconst 0, 1), (1, .istore 4, 2), (3, .iconst 0, 1), (4, .istore 5, 2), (6, .iload 5, 2)], [(8, .aload_n 0, 1), (9, .getfield 34, 3), (12, .if_icmp .ge 54, 3), (15, .aload_n 0, 1)], [(16, .getfield 18, 3), (19, .iload 5, 2), (21, .iaload, 1), (22, .iload_n 1, 1), (23, .if_icmp .ne 37, 3)], [(26, .aload_n 0, 1), (27, .getfield 21, 3), (30, .iload 5, 2)], [(32, .iaload, 1), (33, .iload_n 2, 1), (34, .if_icmp .ne 26, 3), (37, .aload_n 0, 1), (38, .getfield 27, 3)], [(41, .iload 5, 2), (43, .iaload, 1), (44, .iload_n 3, 1), (45, .if_icmp .gt 15, 3)], [(48, .iload 4, 2), (50, .aload_n 0, 1), (51, .getfield 24, 3), (54, .iload 5, 2)], [(56, .iaload, 1), (57, .iadd, 1), (58, .istore 4, 2), (60, .iinc 5 1, 3), (63, .goto (-57), 3)], [(66, .iload 4, 2), (68, .ireturn, 1)]]
def pgc47 : List (List (Nat × Instr × Nat)) := [[(0, .aload_n 0, 1), (1, .invokespecial 3, 3), (4, .aload_n 0, 1), (5, .bipush 20, 2), (7, .newarray .int, 2)], [(9, .putfield 11, 3), (12, .aload_n 0, 1), (13, .bipush 20, 2), (15, .newarray .int, 2)], [(17, .putfield 15, 3), (20, .aload_n 0, 1), (21, .sipush 400, 3)], [(24, .newarray .int, 2), (26, .putfield 18, 3), (29, .aload_n 0, 1), (30, .getfield 18, 3)], [(33, .sipush 3600, 3), (36, .invokestatic 21, 3), (39, .return_, 1)]]
def pgc48 : List (List (Nat × Instr × Nat)) := [[(0, .iload_n 1, 1), (1, .ifCond .lt 15, 3), (4, .iload_n 1, 1), (5, .aload_n 0, 1), (6, .getfield 27, 3)], [(9, .if_icmp .ge 7, 3), (12, .iconst 1, 1), (13, .goto 4, 3)], [(16, .iconst 0, 1), (17, .ireturn, 1)]]
def pgc49 : List (List (Nat × Instr × Nat)) := [[(0, .aload_n 0, 1), (1, .iload_n 1, 1), (2, .invokevirtual 31, 3), (5, .ifCond .eq 17, 3)], [(8, .aload_n 0, 1), (9, .getfield 11, 3), (12, .iload_n 1, 1), (13, .iaload, 1), (14, .iload_n 2, 1), (15, .if_icmp .ne 7, 3)], [(18, .iconst 1, 1), (19, .goto 4, 3), (22, .iconst 0, 1), (23, .ireturn, 1)]]
def pgc50 : List (List (Nat × Instr × Nat)) := [[(0, .aload_n 0, 1), (1, .getfield 27, 3), (4, .bipush 20, 2), (6, .if_icmp .lt 6, 3)], [(9, .bipush (-2), 2), (11, .ireturn, 1), (12, .aload_n 0, 1), (13, .getfield 11, 3)], [(16, .aload_n 0, 1), (17, .getfield 27, 3), (20, .iload_n 1, 1), (21, .iastore, 1), (22, .aload_n 0, 1), (23, .dup, 1)], [(24, .getfield 27, 3), (27, .iconst 1, 1), (28, .iadd, 1), (29, .putfield 27, 3)], [(32, .aload_n 0, 1), (33, .getfield 27, 3), (36, .iconst 1, 1), (37, .isub, 1), (38, .ireturn, 1)]]
def pgc51 : List (List (Nat × Instr × Nat)) := [[(0, .iload_n 1, 1), (1, .bipush 20, 2), (3, .imul, 1), (4, .iload_n 2, 1), (5, .iadd, 1), (6, .istore 4, 2)], [(8, .iload 4, 2), (10, .ifCond .lt 28, 3), (13, .iload 4, 2), (15, .aload_n 0, 1)], [(16, .getfield 18, 3), (19, .arraylength, 1), (20, .if_icmp .ge 18, 3), (23, .aload_n 0, 1)], [(24, .getfield 18, 3), (27, .iload 4, 2), (29, .iaload, 1), (30, .iload_n 3, 1), (31, .if_icmp .gt 7, 3)], [(34, .iconst 1, 1), (35, .goto 4, 3), (38, .iconst 0, 1), (39, .ireturn, 1)]]
def pgc52 : List (List (Nat × Instr × Nat)) := [[(0, .aload_n 0, 1), (1, .iload_n 1, 1), (2, .iload_n 2, 1), (3, .sipush 3599, 3), (6, .invokevirtual 35, 3)], [(9, .ifCond .eq 6, 3), (12, .bipush (-3), 2), (14, .ireturn, 1), (15, .aload_n 0, 1)], [(16, .getfield 18, 3), (19, .iload_n 1, 1), (20, .bipush 20, 2), (22, .imul, 1), (23, .iload_n 2, 1)], [(24, .iadd, 1), (25, .iload_n 3, 1), (26, .iastore, 1), (27, .aload_n 0, 1), (28, .getfield 18, 3), (31, .iload_n 2, 1)], [(32, .bipush 20, 2), (34, .imul, 1), (35, .iload_n 1, 1), (36, .iadd, 1), (37, .iload_n 3, 1), (38, .iastore, 1), (39, .iconst 1, 1)], [(40, .ireturn, 1)]]
def pgc53 : List (List (Nat × Instr × Nat)) := [[(0, .aload_n 0, 1), (1, .iload_n 1, 1), (2, .invokevirtual 31, 3), (5, .ifCond .eq 13, 3)], [(8, .aload_n 0, 1), (9, .getfield 15, 3), (12, .iload_n 1, 1), (13, .dup2, 1), (14, .iaload, 1), (15, .iload_n 2, 1)], [(16, .iadd, 1), (17, .iastore, 1), (18, .return_, 1)]]
def pgc54 : List (List (Nat × Instr × Nat)) := [[(0, .iconst 0, 1), (1, .istore_n 1, 1), (2, .iconst 0, 1), (3, .istore_n 2, 1), (4, .iload_n 2, 1), (5, .aload_n 0, 1), (6, .getfield 27, 3)], [(9, .if_icmp .ge 18, 3), (12, .iload_n 1, 1), (13, .aload_n 0, 1), (14, .getfield 15, 3)], [(17, .iload_n 2, 1), (18, .iaload, 1), (19, .iadd, 1), (20, .istore_n 1, 1), (21, .iinc 2 1, 3)], [(24, .goto (-20), 3), (27, .iload_n 1, 1), (28, .ireturn, 1)]]
def pgc55 : List (List (Nat × Instr × Nat)) := [[(0, .aload_n 0, 1), (1, .invokespecial 3, 3), (4, .aload_n 0, 1), (5, .bipush 60, 2), (7, .newarray .int, 2)], [(9, .putfield 11, 3), (12, .aload_n 0, 1), (13, .sipush 200, 3)], [(16, .newarray .int, 2), (18, .putfield 15, 3), (21, .aload_n 0, 1), (22, .sipush 200, 3)], [(25, .newarray .int, 2), (27, .putfield 18, 3), (30, .aload_n 0, 1), (31, .sipush 200, 3)], [(34, .newarray .int, 2), (36, .putfield 21, 3), (39, .aload_n 0, 1)], [(40, .sipush 200, 3), (43, .newarray .int, 2), (45, .putfield 24, 3)], [(48, .aload_n 0, 1), (49, .sipush 200, 3), (52, .newarray .int, 2), (54, .putfield 27, 3)], [(57, .aload_n 0, 1), (58, .sipush 360, 3), (61, .newarray .int, 2), (63, .putfield 30, 3)], [(66, .return_, 1)]]
def pgc56 : List (List (Nat × Instr × Nat)) := [[(0, .iload_n 1, 1), (1, .ifCond .lt 15, 3), (4, .iload_n 1, 1), (5, .aload_n 0, 1), (6, .getfield 33, 3)], [(9, .if_icmp .ge 7, 3), (12, .iconst 1, 1), (13, .goto 4, 3)], [(16, .iconst 0, 1), (17, .ireturn, 1)]]
def pgc57 : List (List (Nat × Instr × Nat)) := [[(0, .aload_n 0, 1), (1, .getfield 33, 3), (4, .bipush 60, 2), (6, .if_icmp .lt 6, 3)], [(9, .bipush (-2), 2), (11, .ireturn, 1), (12, .aload_n 0, 1), (13, .getfield 11, 3)], [(16, .aload_n 0, 1), (17, .getfield 33, 3), (20, .iload_n 1, 1), (21, .iastore, 1), (22, .aload_n 0, 1), (23, .dup, 1)], [(24, .getfield 33, 3), (27, .iconst 1, 1), (28, .iadd, 1), (29, .putfield 33, 3)], [(32, .aload_n 0, 1), (33, .getfield 33, 3), (36, .iconst 1, 1), (37, .isub, 1), (38, .ireturn, 1)]]
def pgc58 : List (List (Nat × Instr × Nat)) := [[(0, .aload_n 0, 1), (1, .getfield 37, 3), (4, .sipush 200, 3), (7, .if_icmp .lt 6, 3)], [(10, .bipush (-2), 2), (12, .ireturn, 1), (13, .aload_n 0, 1), (14, .getfield 15, 3)], [(17, .aload_n 0, 1), (18, .getfield 37, 3), (21, .iload_n 1, 1), (22, .iastore, 1), (23, .aload_n 0, 1)], [(24, .getfield 18, 3), (27, .aload_n 0, 1), (28, .getfield 37, 3), (31, .iload_n 2, 1)], [(32, .iastore, 1), (33, .aload_n 0, 1), (34, .getfield 21, 3), (37, .aload_n 0, 1), (38, .getfield 37, 3)], [(41, .iload_n 3, 1), (42, .iastore, 1), (43, .aload_n 0, 1), (44, .getfield 24, 3), (47, .aload_n 0, 1)], [(48, .getfield 37, 3), (51, .iload 4, 2), (53, .iastore, 1), (54, .aload_n 0, 1), (55, .getfield 27, 3)], [(58, .aload_n 0, 1), (59, .getfield 37, 3), (62, .iload 5, 2)], [(64, .iastore, 1), (65, .aload_n 0, 1), (66, .dup, 1), (67, .getfield 37, 3), (70, .iconst 1, 1), (71, .iadd, 1)], [(72, .putfield 37, 3), (75, .aload_n 0, 1), (76, .getfield 37, 3), (79, .ireturn, 1)]]
def pgc59 : List (List (Nat × Instr × Nat)) := [[(0, .aload_n 0, 1), (1, .iload_n 1, 1), (2, .invokevirtual 40, 3), (5, .ifCond .ne 5, 3)], [(8, .iconst 0, 1), (9, .ireturn, 1), (10, .iload_n 3, 1), (11, .sipush 360, 3), (14, .isub, 1), (15, .iconst 1, 1)], [(16, .iadd, 1), (17, .istore 5, 2), (19, .aload_n 0, 1), (20, .getfield 30, 3), (23, .aload_n 0, 1)], [(24, .getfield 11, 3), (27, .iload_n 1, 1), (28, .iaload, 1), (29, .invokestatic 44, 3)], [(32, .iconst 0, 1), (33, .istore 6, 2), (35, .iload 6, 2), (37, .aload_n 0, 1), (38, .getfield 37, 3)], [(41, .if_icmp .ge 93, 3), (44, .aload_n 0, 1), (45, .getfield 15, 3)], [(48, .iload 6, 2), (50, .iaload, 1), (51, .iload_n 1, 1), (52, .if_icmp .ne 76, 3), (55, .aload_n 0, 1)], [(56, .getfield 27, 3), (59, .iload 6, 2), (61, .iaload, 1), (62, .iload 4, 2)], [(64, .if_icmp .gt 64, 3), (67, .aload_n 0, 1), (68, .getfield 21, 3), (71, .iload 6, 2)], [(73, .iaload, 1), (74, .iload 5, 2), (76, .invokestatic 50, 3), (79, .istore 7, 2)], [(81, .aload_n 0, 1), (82, .getfield 24, 3), (85, .iload 6, 2), (87, .iaload, 1)], [(88, .iload_n 3, 1), (89, .invokestatic 56, 3), (92, .istore 8, 2), (94, .iload 7, 2)], [(96, .istore 9, 2), (98, .iload 9, 2), (100, .iload 8, 2), (102, .if_icmp .gt 26, 3)], [(105, .aload_n 0, 1), (106, .getfield 30, 3), (109, .iload 9, 2), (111, .iload 5, 2)], [(113, .isub, 1), (114, .aload_n 0, 1), (115, .getfield 18, 3), (118, .iload 6, 2)], [(120, .iaload, 1), (121, .iastore, 1), (122, .iinc 9 1, 3), (125, .goto (-27), 3)], [(128, .iinc 6 1, 3), (131, .goto (-96), 3), (134, .iconst 0, 1), (135, .istore 6, 2)], [(137, .iconst 0, 1), (138, .istore 7, 2), (140, .iload 7, 2), (142, .sipush 360, 3)], [(145, .if_icmp .ge 23, 3), (148, .aload_n 0, 1), (149, .getfield 30, 3)], [(152, .iload 7, 2), (154, .iaload, 1), (155, .iload_n 2, 1), (156, .if_icmp .ne 6, 3), (159, .iinc 6 1, 3)], [(162, .iinc 7 1, 3), (165, .goto (-25), 3)], [(168, .iload 6, 2), (170, .sipush 183, 3), (173, .if_icmp .lt 7, 3)], [(176, .iconst 1, 1), (177, .goto 4, 3), (180, .iconst 0, 1), (181, .ireturn, 1)]]
def pgc60 : List (List (Nat × Instr × Nat)) := [[(0, .aload_n 0, 1), (1, .invokespecial 3, 3), (4, .aload_n 0, 1), (5, .bipush 120, 2), (7, .newarray .int, 2)], [(9, .putfield 11, 3), (12, .aload_n 0, 1), (13, .bipush 120, 2), (15, .newarray .int, 2)], [(17, .putfield 15, 3), (20, .aload_n 0, 1), (21, .bipush 6, 2), (23, .newarray .int, 2)], [(25, .putfield 18, 3), (28, .aload_n 0, 1), (29, .bipush 120, 2), (31, .newarray .int, 2)], [(33, .putfield 21, 3), (36, .aload_n 0, 1), (37, .bipush 120, 2), (39, .newarray .int, 2)], [(41, .putfield 24, 3), (44, .aload_n 0, 1), (45, .bipush 120, 2), (47, .newarray .int, 2)], [(49, .putfield 27, 3), (52, .aload_n 0, 1), (53, .bipush 120, 2), (55, .newarray .int, 2)], [(57, .putfield 30, 3), (60, .aload_n 0, 1), (61, .bipush 120, 2), (63, .newarray .int, 2)], [(65, .putfield 33, 3), (68, .aload_n 0, 1), (69, .bipush 120, 2), (71, .newarray .int, 2)], [(73, .putfield 36, 3), (76, .return_, 1)]]
def pgc61 : List (List (Nat × Instr × Nat)) := [[(0, .aload_n 0, 1), (1, .getfield 18, 3), (4, .iload_n 1, 1), (5, .iaload, 1), (6, .istore 4, 2)], [(8, .iload 4, 2), (10, .bipush 20, 2), (12, .if_icmp .lt 6, 3), (15, .bipush (-2), 2)], [(17, .ireturn, 1), (18, .aload_n 0, 1), (19, .getfield 11, 3), (22, .iload_n 1, 1), (23, .bipush 20, 2)], [(25, .imul, 1), (26, .iload 4, 2), (28, .iadd, 1), (29, .iload_n 2, 1), (30, .iastore, 1), (31, .aload_n 0, 1)], [(32, .getfield 15, 3), (35, .iload_n 1, 1), (36, .bipush 20, 2), (38, .imul, 1), (39, .iload 4, 2)], [(41, .iadd, 1), (42, .iload_n 3, 1), (43, .iastore, 1), (44, .aload_n 0, 1), (45, .getfield 18, 3)], [(48, .iload_n 1, 1), (49, .iload 4, 2), (51, .iconst 1, 1), (52, .iadd, 1), (53, .iastore, 1), (54, .iload 4, 2)], [(56, .iconst 1, 1), (57, .iadd, 1), (58, .ireturn, 1)]]
def pgc62 : List (List (Nat × Instr × Nat)) := [[(0, .sipush 1000, 3), (3, .istore_n 3, 1), (4, .iconst (-1), 1), (5, .istore 4, 2), (7, .iload_n 1, 1)], [(8, .bipush 20, 2), (10, .imul, 1), (11, .istore 5, 2), (13, .iload_n 1, 1), (14, .invokestatic 39, 3)], [(17, .ifCond .eq 12, 3), (20, .aload_n 0, 1), (21, .getfield 18, 3)], [(24, .iload_n 1, 1), (25, .iaload, 1), (26, .goto 4, 3), (29, .iconst 0, 1), (30, .istore 6, 2)], [(32, .iload 5, 2), (34, .istore 7, 2), (36, .iload 7, 2), (38, .iload 5, 2)], [(40, .iload 6, 2), (42, .iadd, 1), (43, .if_icmp .ge 49, 3), (46, .aload_n 0, 1), (47, .getfield 11, 3)], [(50, .iload 7, 2), (52, .iaload, 1), (53, .iload_n 2, 1), (54, .if_icmp .gt 32, 3)], [(57, .aload_n 0, 1), (58, .getfield 11, 3), (61, .iload 7, 2), (63, .iaload, 1)], [(64, .iload 4, 2), (66, .if_icmp .lt 20, 3), (69, .aload_n 0, 1), (70, .getfield 11, 3)], [(73, .iload 7, 2), (75, .iaload, 1), (76, .istore 4, 2), (78, .aload_n 0, 1), (79, .getfield 15, 3)], [(82, .iload 7, 2), (84, .iaload, 1), (85, .istore_n 3, 1), (86, .iinc 7 1, 3)], [(89, .goto (-53), 3), (92, .iload_n 3, 1), (93, .ireturn, 1)]]
def pgc63 : List (List (Nat × Instr × Nat)) := [[(0, .aload_n 0, 1), (1, .getfield 43, 3), (4, .bipush 120, 2), (6, .if_icmp .lt 6, 3)], [(9, .bipush (-2), 2), (11, .ireturn, 1), (12, .aload_n 0, 1), (13, .getfield 21, 3)], [(16, .aload_n 0, 1), (17, .getfield 43, 3), (20, .iload_n 1, 1), (21, .iastore, 1), (22, .aload_n 0, 1), (23, .getfield 24, 3)], [(26, .aload_n 0, 1), (27, .getfield 43, 3), (30, .iload_n 2, 1), (31, .iastore, 1)], [(32, .aload_n 0, 1), (33, .getfield 27, 3), (36, .aload_n 0, 1), (37, .getfield 43, 3)], [(40, .iload_n 3, 1), (41, .iastore, 1), (42, .aload_n 0, 1), (43, .getfield 30, 3), (46, .aload_n 0, 1), (47, .getfield 43, 3)], [(50, .iload 4, 2), (52, .iastore, 1), (53, .aload_n 0, 1), (54, .getfield 33, 3)], [(57, .aload_n 0, 1), (58, .getfield 43, 3), (61, .iload 5, 2), (63, .iastore, 1)], [(64, .aload_n 0, 1), (65, .dup, 1), (66, .getfield 43, 3), (69, .iconst 1, 1), (70, .iadd, 1), (71, .putfield 43, 3)], [(74, .aload_n 0, 1), (75, .getfield 43, 3), (78, .ireturn, 1)]]
def pgc64 : List (List (Nat × Instr × Nat)) := [[(0, .aload_n 0, 1), (1, .iconst 0, 1), (2, .putfield 47, 3), (5, .iconst 0, 1), (6, .istore 5, 2)], [(8, .iload 5, 2), (10, .aload_n 0, 1), (11, .getfield 43, 3), (14, .if_icmp .ge 83, 3)], [(17, .aload_n 0, 1), (18, .getfield 27, 3), (21, .iload 5, 2), (23, .iaload, 1)], [(24, .iload_n 3, 1), (25, .isub, 1), (26, .invokestatic 50, 3), (29, .bipush 90, 2), (31, .if_icmp .gt 7, 3)], [(34, .iconst 1, 1), (35, .goto 4, 3), (38, .iconst 0, 1), (39, .istore 6, 2)], [(41, .iload 6, 2), (43, .ifCond .eq 48, 3), (46, .aload_n 0, 1), (47, .getfield 21, 3)], [(50, .iload 5, 2), (52, .iaload, 1), (53, .iload_n 1, 1), (54, .if_icmp .ne 37, 3)], [(57, .aload_n 0, 1), (58, .getfield 24, 3), (61, .iload 5, 2), (63, .iaload, 1)], [(64, .iload_n 2, 1), (65, .if_icmp .ne 26, 3), (68, .aload_n 0, 1), (69, .getfield 33, 3)], [(72, .iload 5, 2), (74, .iaload, 1), (75, .iload 4, 2), (77, .if_icmp .gt 14, 3)], [(80, .aload_n 0, 1), (81, .aload_n 0, 1), (82, .getfield 30, 3), (85, .iload 5, 2), (87, .iaload, 1)], [(88, .invokevirtual 56, 3), (91, .iinc 5 1, 3), (94, .goto (-86), 3)], [(97, .aload_n 0, 1), (98, .getfield 47, 3), (101, .ireturn, 1)]]
def pgc65 : List (List (Nat × Instr × Nat)) := [[(0, .aload_n 0, 1), (1, .getfield 47, 3), (4, .istore_n 2, 1), (5, .iload_n 2, 1), (6, .ifCond .le 35, 3)], [(9, .aload_n 0, 1), (10, .getfield 36, 3), (13, .iload_n 2, 1), (14, .iconst 1, 1), (15, .isub, 1)], [(16, .iaload, 1), (17, .iload_n 1, 1), (18, .if_icmp .le 23, 3), (21, .aload_n 0, 1), (22, .getfield 36, 3)], [(25, .iload_n 2, 1), (26, .aload_n 0, 1), (27, .getfield 36, 3), (30, .iload_n 2, 1), (31, .iconst 1, 1)], [(32, .isub, 1), (33, .iaload, 1), (34, .iastore, 1), (35, .iinc 2 (-1), 3), (38, .goto (-33), 3)], [(41, .aload_n 0, 1), (42, .getfield 36, 3), (45, .iload_n 2, 1), (46, .iload_n 1, 1), (47, .iastore, 1)], [(48, .aload_n 0, 1), (49, .dup, 1), (50, .getfield 47, 3), (53, .iconst 1, 1), (54, .iadd, 1), (55, .putfield 47, 3)], [(58, .return_, 1)]]
def pgc66 : List (List (Nat × Instr × Nat)) := [[(0, .aload_n 0, 1), (1, .getfield 47, 3), (4, .iconst 1, 1), (5, .if_icmp .ge 7, 3)], [(8, .iconst 0, 1), (9, .goto 16, 3), (12, .aload_n 0, 1), (13, .getfield 36, 3)], [(16, .aload_n 0, 1), (17, .getfield 47, 3), (20, .iconst 1, 1), (21, .isub, 1), (22, .iconst 2, 1), (23, .idiv, 1)], [(24, .iaload, 1), (25, .ireturn, 1)]]
def pgc67 : List (List (Nat × Instr × Nat)) := [[(0, .aload_n 0, 1), (1, .invokespecial 3, 3), (4, .aload_n 0, 1), (5, .bipush 60, 2), (7, .newarray .int, 2)], [(9, .putfield 9, 3), (12, .aload_n 0, 1), (13, .bipush 60, 2), (15, .newarray .int, 2)], [(17, .putfield 15, 3), (20, .aload_n 0, 1), (21, .bipush 60, 2), (23, .newarray .int, 2)], [(25, .putfield 18, 3), (28, .aload_n 0, 1), (29, .bipush 60, 2), (31, .newarray .int, 2)], [(33, .putfield 21, 3), (36, .aload_n 0, 1), (37, .bipush 60, 2), (39, .newarray .int, 2)], [(41, .putfield 24, 3), (44, .aload_n 0, 1), (45, .bipush 60, 2), (47, .newarray .boolean, 2)], [(49, .putfield 27, 3), (52, .aload_n 0, 1), (53, .bipush 60, 2), (55, .newarray .int, 2)], [(57, .putfield 31, 3), (60, .aload_n 0, 1), (61, .bipush 10, 2), (63, .newarray .int, 2)], [(65, .putfield 34, 3), (68, .aload_n 0, 1), (69, .bipush 60, 2), (71, .newarray .int, 2)], [(73, .putfield 37, 3), (76, .aload_n 0, 1), (77, .bipush 60, 2), (79, .newarray .int, 2)], [(81, .putfield 40, 3), (84, .aload_n 0, 1), (85, .bipush 60, 2), (87, .newarray .int, 2)], [(89, .putfield 43, 3), (92, .aload_n 0, 1), (93, .bipush 60, 2), (95, .newarray .int, 2)], [(97, .putfield 46, 3), (100, .aload_n 0, 1), (101, .bipush 60, 2), (103, .newarray .long, 2)], [(105, .putfield 49, 3), (108, .aload_n 0, 1), (109, .aload_n 1, 1), (110, .putfield 53, 3)], [(113, .aload_n 0, 1), (114, .aload_n 2, 1), (115, .putfield 57, 3), (118, .aload_n 0, 1), (119, .aload_n 3, 1)], [(120, .putfield 61, 3), (123, .aload_n 0, 1), (124, .getfield 9, 3), (127, .ldc 65, 2)], [(129, .invokestatic 66, 3), (132, .return_, 1)]]
def pgc68 : List (List (Nat × Instr × Nat)) := [[(0, .iload_n 1, 1), (1, .ifCond .lt 15, 3), (4, .iload_n 1, 1), (5, .aload_n 0, 1), (6, .getfield 72, 3)], [(9, .if_icmp .ge 7, 3), (12, .iconst 1, 1), (13, .goto 4, 3)], [(16, .iconst 0, 1), (17, .ireturn, 1)]]
def pgc69 : List (List (Nat × Instr × Nat)) := [[(0, .iconst 0, 1), (1, .istore 4, 2), (3, .iload 4, 2), (5, .aload_n 0, 1), (6, .getfield 72, 3)], [(9, .if_icmp .ge 34, 3), (12, .aload_n 0, 1), (13, .getfield 15, 3)], [(16, .iload 4, 2), (18, .iaload, 1), (19, .iload_n 1, 1), (20, .if_icmp .ne 17, 3), (23, .aload_n 0, 1)], [(24, .getfield 18, 3), (27, .iload 4, 2), (29, .iaload, 1), (30, .iload_n 2, 1), (31, .if_icmp .ne 6, 3)], [(34, .bipush (-3), 2), (36, .ireturn, 1), (37, .iinc 4 1, 3)], [(40, .goto (-37), 3), (43, .aload_n 0, 1), (44, .getfield 72, 3), (47, .bipush 60, 2)], [(49, .if_icmp .lt 6, 3), (52, .bipush (-2), 2), (54, .ireturn, 1), (55, .aload_n 0, 1)], [(56, .getfield 15, 3), (59, .aload_n 0, 1), (60, .getfield 72, 3), (63, .iload_n 1, 1)], [(64, .iastore, 1), (65, .aload_n 0, 1), (66, .getfield 18, 3), (69, .aload_n 0, 1), (70, .getfield 72, 3)], [(73, .iload_n 2, 1), (74, .iastore, 1), (75, .aload_n 0, 1), (76, .getfield 21, 3), (79, .aload_n 0, 1)], [(80, .getfield 72, 3), (83, .iload_n 3, 1), (84, .sipush 360, 3), (87, .idiv, 1)], [(88, .iastore, 1), (89, .aload_n 0, 1), (90, .getfield 24, 3), (93, .aload_n 0, 1), (94, .getfield 72, 3)], [(97, .iconst (-1), 1), (98, .iastore, 1), (99, .aload_n 0, 1), (100, .dup, 1), (101, .getfield 72, 3)], [(104, .iconst 1, 1), (105, .iadd, 1), (106, .putfield 72, 3), (109, .aload_n 0, 1), (110, .getfield 72, 3)], [(113, .iconst 1, 1), (114, .isub, 1), (115, .ireturn, 1)]]
def pgc70 : List (List (Nat × Instr × Nat)) := [[(0, .aload_n 0, 1), (1, .getfield 18, 3), (4, .iload_n 1, 1), (5, .iaload, 1), (6, .istore 4, 2)], [(8, .iconst 0, 1), (9, .istore 5, 2), (11, .iload 5, 2), (13, .iload_n 1, 1), (14, .if_icmp .gt 49, 3)], [(17, .aload_n 0, 1), (18, .getfield 31, 3), (21, .iload 5, 2), (23, .aload_n 0, 1)], [(24, .getfield 18, 3), (27, .iload 5, 2), (29, .iaload, 1), (30, .iload 4, 2)], [(32, .if_icmp .ne 23, 3), (35, .aload_n 0, 1), (36, .getfield 61, 3), (39, .aload_n 0, 1)], [(40, .getfield 15, 3), (43, .iload 5, 2), (45, .iaload, 1), (46, .iload 4, 2)], [(48, .iload_n 3, 1), (49, .invokevirtual 76, 3), (52, .goto 4, 3), (55, .iconst 0, 1)], [(56, .iastore, 1), (57, .iinc 5 1, 3), (60, .goto (-49), 3), (63, .iconst 0, 1)], [(64, .istore 5, 2), (66, .aload_n 0, 1), (67, .bipush (-4), 2), (69, .putfield 82, 3)], [(72, .iconst 0, 1), (73, .istore 6, 2), (75, .iload 6, 2), (77, .iload_n 2, 1), (78, .if_icmp .gt 79, 3)], [(81, .iload 6, 2), (83, .bipush 10, 2), (85, .if_icmp .ge 72, 3)], [(88, .aload_n 0, 1), (89, .getfield 34, 3), (92, .iload 6, 2), (94, .aload_n 0, 1), (95, .iload_n 1, 1)], [(96, .iload 4, 2), (98, .iload 6, 2), (100, .invokevirtual 85, 3), (103, .iastore, 1)], [(104, .iload 5, 2), (106, .aload_n 0, 1), (107, .getfield 34, 3), (110, .iload 6, 2)], [(112, .iaload, 1), (113, .iadd, 1), (114, .istore 5, 2), (116, .aload_n 0, 1), (117, .getfield 82, 3)], [(120, .bipush (-4), 2), (122, .if_icmp .ne 29, 3), (125, .aload_n 0, 1), (126, .getfield 21, 3)], [(129, .iload_n 1, 1), (130, .iaload, 1), (131, .iload 6, 2), (133, .if_icmp .gt 18, 3)], [(136, .aload_n 0, 1), (137, .getfield 31, 3), (140, .iload_n 1, 1), (141, .iaload, 1), (142, .ifCond .ne 9, 3)], [(145, .aload_n 0, 1), (146, .iload 6, 2), (148, .putfield 82, 3), (151, .iinc 6 1, 3)], [(154, .goto (-79), 3), (157, .iload 5, 2), (159, .ireturn, 1)]]
def pgc71 : List (List (Nat × Instr × Nat)) := [[(0, .aload_n 0, 1), (1, .getfield 9, 3), (4, .iload_n 2, 1), (5, .bipush 10, 2), (7, .imul, 1)], [(8, .iload_n 3, 1), (9, .iadd, 1), (10, .iaload, 1), (11, .istore 4, 2), (13, .iconst 0, 1), (14, .istore 5, 2)], [(16, .iconst 0, 1), (17, .istore 6, 2), (19, .iload 6, 2), (21, .iload_n 1, 1), (22, .if_icmp .gt 68, 3)], [(25, .aload_n 0, 1), (26, .getfield 18, 3), (29, .iload 6, 2), (31, .iaload, 1)], [(32, .iload_n 2, 1), (33, .if_icmp .ne 29, 3), (36, .aload_n 0, 1), (37, .getfield 21, 3)], [(40, .iload 6, 2), (42, .iaload, 1), (43, .iload_n 3, 1), (44, .if_icmp .gt 18, 3), (47, .aload_n 0, 1)], [(48, .getfield 31, 3), (51, .iload 6, 2), (53, .iaload, 1), (54, .iload 4, 2)], [(56, .invokestatic 88, 3), (59, .goto 4, 3), (62, .iconst 0, 1), (63, .istore 5, 2)], [(65, .aload_n 0, 1), (66, .getfield 31, 3), (69, .iload 6, 2), (71, .dup2, 1)], [(72, .iaload, 1), (73, .iload 5, 2), (75, .isub, 1), (76, .iastore, 1), (77, .iload 4, 2), (79, .iload 5, 2)], [(81, .isub, 1), (82, .istore 4, 2), (84, .iinc 6 1, 3), (87, .goto (-68), 3)], [(90, .iload 5, 2), (92, .ireturn, 1)]]
def pgc72 : List (List (Nat × Instr × Nat)) := [[(0, .aload_n 0, 1), (1, .getfield 27, 3), (4, .iload_n 1, 1), (5, .baload, 1), (6, .ifCond .eq 6, 3)], [(9, .bipush (-3), 2), (11, .ireturn, 1), (12, .aload_n 0, 1), (13, .getfield 94, 3)], [(16, .bipush 60, 2), (18, .if_icmp .lt 6, 3), (21, .bipush (-2), 2), (23, .ireturn, 1)], [(24, .aload_n 0, 1), (25, .getfield 37, 3), (28, .aload_n 0, 1), (29, .getfield 94, 3)], [(32, .iload_n 1, 1), (33, .iastore, 1), (34, .aload_n 0, 1), (35, .getfield 40, 3), (38, .aload_n 0, 1), (39, .getfield 94, 3)], [(42, .iload_n 2, 1), (43, .iastore, 1), (44, .aload_n 0, 1), (45, .getfield 43, 3)], [(48, .aload_n 0, 1), (49, .getfield 94, 3), (52, .iload_n 3, 1), (53, .iastore, 1), (54, .aload_n 0, 1), (55, .dup, 1)], [(56, .getfield 94, 3), (59, .iconst 1, 1), (60, .iadd, 1), (61, .putfield 94, 3)], [(64, .aload_n 0, 1), (65, .getfield 94, 3), (68, .iconst 1, 1), (69, .isub, 1), (70, .ireturn, 1)]]
def pgc73 : List (List (Nat × Instr × Nat)) := [[(0, .aload_n 0, 1), (1, .getfield 61, 3), (4, .aload_n 0, 1), (5, .getfield 15, 3)], [(8, .iload_n 1, 1), (9, .iaload, 1), (10, .aload_n 0, 1), (11, .getfield 18, 3), (14, .iload_n 1, 1), (15, .iaload, 1)], [(16, .iload_n 2, 1), (17, .invokevirtual 76, 3), (20, .iconst 2, 1), (21, .idiv, 1), (22, .istore_n 3, 1), (23, .aload_n 0, 1)], [(24, .getfield 24, 3), (27, .iload_n 1, 1), (28, .iload_n 3, 1), (29, .iastore, 1), (30, .aload_n 0, 1), (31, .iload_n 1, 1)], [(32, .iload_n 3, 1), (33, .invokevirtual 97, 3), (36, .iload_n 3, 1), (37, .ireturn, 1)]]
def pgc74 : List (List (Nat × Instr × Nat)) := [[(0, .iload_n 2, 1), (1, .iconst 0, 1), (2, .aload_n 0, 1), (3, .getfield 24, 3), (6, .iload_n 1, 1), (7, .iaload, 1)], [(8, .invokestatic 101, 3), (11, .isub, 1), (12, .istore_n 3, 1), (13, .aload_n 0, 1), (14, .getfield 27, 3)], [(17, .iload_n 1, 1), (18, .iconst 1, 1), (19, .bastore, 1), (20, .iload_n 3, 1), (21, .ifCond .le 9, 3)], [(24, .aload_n 0, 1), (25, .iload_n 1, 1), (26, .iload_n 3, 1), (27, .invokevirtual 97, 3), (30, .iload_n 3, 1), (31, .ireturn, 1)]]
def pgc75 : List (List (Nat × Instr × Nat)) := [[(0, .iload_n 2, 1), (1, .istore_n 3, 1), (2, .iconst 0, 1), (3, .istore 4, 2), (5, .iload 4, 2), (7, .iconst 3, 1)], [(8, .if_icmp .ge 18, 3), (11, .aload_n 0, 1), (12, .iload_n 1, 1), (13, .iload 4, 2), (15, .iload_n 3, 1)], [(16, .invokevirtual 104, 3), (19, .istore_n 3, 1), (20, .iinc 4 1, 3), (23, .goto (-18), 3)], [(26, .aload_n 0, 1), (27, .getfield 15, 3), (30, .iload_n 1, 1), (31, .iaload, 1)], [(32, .istore 4, 2), (34, .aload_n 0, 1), (35, .getfield 57, 3), (38, .iload 4, 2)], [(40, .invokevirtual 107, 3), (43, .ifCond .eq 21, 3), (46, .aload_n 0, 1), (47, .getfield 53, 3)], [(50, .aload_n 0, 1), (51, .getfield 57, 3), (54, .getfield 113, 3)], [(57, .iload 4, 2), (59, .iaload, 1), (60, .iload_n 3, 1), (61, .invokevirtual 116, 3)], [(64, .return_, 1)]]
def pgc76 : List (List (Nat × Instr × Nat)) := [[(0, .aload_n 0, 1), (1, .getfield 37, 3), (4, .iload_n 1, 1), (5, .iaload, 1), (6, .iload_n 2, 1), (7, .if_icmp .ne 17, 3)], [(10, .aload_n 0, 1), (11, .getfield 43, 3), (14, .iload_n 1, 1), (15, .iaload, 1)], [(16, .iload_n 3, 1), (17, .if_icmp .ne 7, 3), (20, .iconst 1, 1), (21, .goto 4, 3)], [(24, .iconst 0, 1), (25, .ireturn, 1)]]
def pgc77 : List (List (Nat × Instr × Nat)) := [[(0, .lconst 0, 1), (1, .lstore 4, 2), (3, .iconst 0, 1), (4, .istore 6, 2), (6, .iload 6, 2)], [(8, .aload_n 0, 1), (9, .getfield 94, 3), (12, .if_icmp .ge 45, 3), (15, .lload 4, 2)], [(17, .aload_n 0, 1), (18, .iload 6, 2), (20, .iload_n 1, 1), (21, .iload_n 2, 1), (22, .invokevirtual 121, 3)], [(25, .ifCond .eq 22, 3), (28, .aload_n 0, 1), (29, .getfield 40, 3)], [(32, .iload 6, 2), (34, .iaload, 1), (35, .aload_n 0, 1), (36, .getfield 46, 3), (39, .iload 6, 2)], [(41, .iaload, 1), (42, .isub, 1), (43, .i2l, 1), (44, .goto 4, 3), (47, .lconst 0, 1)], [(48, .ladd, 1), (49, .lstore 4, 2), (51, .iinc 6 1, 3), (54, .goto (-48), 3)], [(57, .lload 4, 2), (59, .lconst 1, 1), (60, .lcmp, 1), (61, .ifCond .lt 8, 3)], [(64, .iload_n 3, 1), (65, .iconst 1, 1), (66, .if_icmp .ge 5, 3), (69, .iload_n 3, 1), (70, .ireturn, 1), (71, .iload_n 3, 1)], [(72, .i2l, 1), (73, .lload 4, 2), (75, .invokestatic 125, 3), (78, .l2i, 1), (79, .istore 6, 2)], [(81, .iload 6, 2), (83, .istore 7, 2), (85, .iconst 0, 1), (86, .istore 8, 2)], [(88, .iload 8, 2), (90, .aload_n 0, 1), (91, .getfield 94, 3), (94, .if_icmp .ge 89, 3)], [(97, .aload_n 0, 1), (98, .getfield 49, 3), (101, .iload 8, 2), (103, .lconst 0, 1)], [(104, .lastore, 1), (105, .aload_n 0, 1), (106, .iload 8, 2), (108, .iload_n 1, 1), (109, .iload_n 2, 1), (110, .invokevirtual 121, 3)], [(113, .ifCond .eq 64, 3), (116, .aload_n 0, 1), (117, .getfield 40, 3)], [(120, .iload 8, 2), (122, .iaload, 1), (123, .aload_n 0, 1), (124, .getfield 46, 3), (127, .iload 8, 2)], [(129, .iaload, 1), (130, .isub, 1), (131, .i2l, 1), (132, .iload 6, 2), (134, .i2l, 1), (135, .lmul, 1)], [(136, .lstore 9, 2), (138, .aload_n 0, 1), (139, .getfield 49, 3), (142, .iload 8, 2)], [(144, .lload 9, 2), (146, .lload 4, 2), (148, .lrem, 1), (149, .lastore, 1), (150, .aload_n 0, 1), (151, .getfield 46, 3)], [(154, .iload 8, 2), (156, .dup2, 1), (157, .iaload, 1), (158, .lload 9, 2)], [(160, .lload 4, 2), (162, .ldiv, 1), (163, .l2i, 1), (164, .iadd, 1), (165, .iastore, 1), (166, .iload 7, 2)], [(168, .lload 9, 2), (170, .lload 4, 2), (172, .ldiv, 1), (173, .l2i, 1), (174, .isub, 1), (175, .istore 7, 2)], [(177, .iinc 8 1, 3), (180, .goto (-92), 3), (183, .aload_n 0, 1)], [(184, .iload 7, 2), (186, .invokevirtual 128, 3), (189, .iload_n 3, 1), (190, .iload 6, 2)], [(192, .isub, 1), (193, .ireturn, 1)]]
def pgc78 : List (List (Nat × Instr × Nat)) := [[(0, .iconst 0, 1), (1, .istore_n 2, 1), (2, .iload_n 2, 1), (3, .iload_n 1, 1), (4, .if_icmp .ge 74, 3), (7, .iload_n 2, 1)], [(8, .aload_n 0, 1), (9, .getfield 94, 3), (12, .if_icmp .ge 66, 3), (15, .iconst 0, 1)], [(16, .istore_n 3, 1), (17, .iconst 1, 1), (18, .istore 4, 2), (20, .iload 4, 2), (22, .aload_n 0, 1), (23, .getfield 94, 3)], [(26, .if_icmp .ge 29, 3), (29, .aload_n 0, 1), (30, .getfield 49, 3)], [(33, .iload 4, 2), (35, .laload, 1), (36, .aload_n 0, 1), (37, .getfield 49, 3)], [(40, .iload_n 3, 1), (41, .laload, 1), (42, .lcmp, 1), (43, .ifCond .le 6, 3), (46, .iload 4, 2)], [(48, .istore_n 3, 1), (49, .iinc 4 1, 3), (52, .goto (-32), 3), (55, .aload_n 0, 1)], [(56, .getfield 49, 3), (59, .iload_n 3, 1), (60, .lconst 0, 1), (61, .lastore, 1), (62, .aload_n 0, 1), (63, .getfield 46, 3)], [(66, .iload_n 3, 1), (67, .dup2, 1), (68, .iaload, 1), (69, .iconst 1, 1), (70, .iadd, 1), (71, .iastore, 1)], [(72, .iinc 2 1, 3), (75, .goto (-73), 3), (78, .return_, 1)]]
def pgc79 : List (List (Nat × Instr × Nat)) := [[(0, .iconst 0, 1), (1, .istore_n 1, 1), (2, .iconst 0, 1), (3, .istore_n 2, 1), (4, .iload_n 2, 1), (5, .aload_n 0, 1), (6, .getfield 94, 3)], [(9, .if_icmp .ge 18, 3), (12, .iload_n 1, 1), (13, .aload_n 0, 1), (14, .getfield 46, 3)], [(17, .iload_n 2, 1), (18, .iaload, 1), (19, .iadd, 1), (20, .istore_n 1, 1), (21, .iinc 2 1, 3)], [(24, .goto (-20), 3), (27, .iload_n 1, 1), (28, .ireturn, 1)]]
def pgc80 : List (List (Nat × Instr × Nat)) := [[(0, .aload_n 0, 1), (1, .invokespecial 3, 3), (4, .aload_n 0, 1), (5, .sipush 160, 3)], [(8, .newarray .int, 2), (10, .putfield 11, 3), (13, .aload_n 0, 1), (14, .sipush 161, 3)], [(17, .newarray .int, 2), (19, .putfield 15, 3), (22, .return_, 1)]]
def pgc81 : List (List (Nat × Instr × Nat)) := [[(0, .aload_n 0, 1), (1, .getfield 18, 3), (4, .iload_n 1, 1), (5, .iadd, 1), (6, .sipush 160, 3)], [(9, .if_icmp .le 6, 3), (12, .bipush (-2), 2), (14, .ireturn, 1), (15, .iconst 0, 1)], [(16, .istore_n 3, 1), (17, .iload_n 3, 1), (18, .iload_n 1, 1), (19, .if_icmp .ge 38, 3), (22, .aload_n 0, 1), (23, .getfield 11, 3)], [(26, .aload_n 0, 1), (27, .getfield 18, 3), (30, .iload_n 2, 1), (31, .bipush 8, 2)], [(33, .iload_n 3, 1), (34, .imul, 1), (35, .iushr, 1), (36, .sipush 255, 3), (39, .iand, 1)], [(40, .iastore, 1), (41, .aload_n 0, 1), (42, .dup, 1), (43, .getfield 18, 3), (46, .iconst 1, 1), (47, .iadd, 1)], [(48, .putfield 18, 3), (51, .iinc 3 1, 3), (54, .goto (-37), 3)], [(57, .aload_n 0, 1), (58, .getfield 18, 3), (61, .ireturn, 1)]]
def pgc82 : List (List (Nat × Instr × Nat)) := [[(0, .aload_n 0, 1), (1, .iconst 0, 1), (2, .putfield 22, 3), (5, .aload_n 0, 1), (6, .iconst 0, 1), (7, .putfield 25, 3)], [(10, .aload_n 0, 1), (11, .iconst 1, 1), (12, .putfield 28, 3), (15, .aload_n 0, 1)], [(16, .invokevirtual 32, 3), (19, .aload_n 0, 1), (20, .getfield 28, 3), (23, .ifCond .eq 45, 3)], [(26, .aload_n 0, 1), (27, .getfield 22, 3), (30, .aload_n 0, 1), (31, .getfield 18, 3)], [(34, .if_icmp .ge 34, 3), (37, .aload_n 0, 1), (38, .getfield 11, 3)], [(41, .aload_n 0, 1), (42, .getfield 22, 3), (45, .iaload, 1), (46, .bipush 59, 2)], [(48, .if_icmp .ne 20, 3), (51, .aload_n 0, 1), (52, .dup, 1), (53, .getfield 22, 3)], [(56, .iconst 1, 1), (57, .iadd, 1), (58, .putfield 22, 3), (61, .aload_n 0, 1), (62, .invokevirtual 32, 3)], [(65, .goto (-46), 3), (68, .aload_n 0, 1), (69, .getfield 28, 3)], [(72, .ifCond .eq 18, 3), (75, .aload_n 0, 1), (76, .getfield 22, 3), (79, .aload_n 0, 1)], [(80, .getfield 18, 3), (83, .if_icmp .lt 7, 3), (86, .iconst (-1), 1), (87, .goto 7, 3)], [(90, .aload_n 0, 1), (91, .getfield 22, 3), (94, .ireturn, 1)]]
def pgc83 : List (List (Nat × Instr × Nat)) := [[(0, .aload_n 0, 1), (1, .getfield 22, 3), (4, .aload_n 0, 1), (5, .getfield 18, 3)], [(8, .if_icmp .ge 15, 3), (11, .aload_n 0, 1), (12, .getfield 11, 3), (15, .aload_n 0, 1)], [(16, .getfield 22, 3), (19, .iaload, 1), (20, .goto 4, 3), (23, .iconst (-1), 1)], [(24, .ireturn, 1)]]
def pgc84 : List (List (Nat × Instr × Nat)) := [[(0, .aload_n 0, 1), (1, .getfield 25, 3), (4, .aload_n 0, 1), (5, .getfield 15, 3)], [(8, .arraylength, 1), (9, .if_icmp .ge 23, 3), (12, .aload_n 0, 1), (13, .getfield 15, 3)], [(16, .aload_n 0, 1), (17, .getfield 25, 3), (20, .iload_n 1, 1), (21, .iastore, 1), (22, .aload_n 0, 1), (23, .dup, 1)], [(24, .getfield 25, 3), (27, .iconst 1, 1), (28, .iadd, 1), (29, .putfield 25, 3)], [(32, .return_, 1)]]
def pgc85 : List (List (Nat × Instr × Nat)) := [[(0, .aload_n 0, 1), (1, .iconst 0, 1), (2, .iconst 0, 1), (3, .invokevirtual 35, 3), (6, .aload_n 0, 1), (7, .getfield 28, 3)], [(10, .ifCond .eq 34, 3), (13, .aload_n 0, 1), (14, .invokevirtual 39, 3)], [(17, .bipush 63, 2), (19, .if_icmp .ne 25, 3), (22, .aload_n 0, 1), (23, .dup, 1)], [(24, .getfield 22, 3), (27, .iconst 1, 1), (28, .iadd, 1), (29, .putfield 22, 3)], [(32, .aload_n 0, 1), (33, .bipush (-63), 2), (35, .invokevirtual 43, 3), (38, .aload_n 0, 1), (39, .iconst 0, 1)], [(40, .iconst 0, 1), (41, .invokevirtual 35, 3), (44, .aload_n 0, 1), (45, .bipush (-59), 2), (47, .invokevirtual 43, 3)], [(50, .return_, 1)]]
def pgc86 : List (List (Nat × Instr × Nat)) := [[(0, .iload_n 1, 1), (1, .iconst 5, 1), (2, .if_icmp .lt 9, 3), (5, .aload_n 0, 1), (6, .iload_n 2, 1), (7, .invokevirtual 47, 3)], [(10, .return_, 1), (11, .aload_n 0, 1), (12, .iload_n 1, 1), (13, .iconst 1, 1), (14, .iadd, 1), (15, .iload_n 2, 1)], [(16, .invokevirtual 35, 3), (19, .aload_n 0, 1), (20, .getfield 28, 3), (23, .ifCond .eq 73, 3)], [(26, .aload_n 0, 1), (27, .getfield 22, 3), (30, .aload_n 0, 1), (31, .getfield 18, 3)], [(34, .if_icmp .ge 62, 3), (37, .aload_n 0, 1), (38, .getfield 11, 3)], [(41, .aload_n 0, 1), (42, .getfield 22, 3), (45, .iaload, 1), (46, .iload_n 1, 1), (47, .invokestatic 50, 3)], [(50, .ifCond .eq 46, 3), (53, .aload_n 0, 1), (54, .getfield 11, 3)], [(57, .aload_n 0, 1), (58, .getfield 22, 3), (61, .iaload, 1), (62, .istore_n 3, 1), (63, .aload_n 0, 1)], [(64, .dup, 1), (65, .getfield 22, 3), (68, .iconst 1, 1), (69, .iadd, 1), (70, .putfield 22, 3)], [(73, .aload_n 0, 1), (74, .iload_n 1, 1), (75, .iconst 1, 1), (76, .iadd, 1), (77, .iload_n 2, 1), (78, .invokevirtual 35, 3)], [(81, .aload_n 0, 1), (82, .iload_n 3, 1), (83, .ineg, 1), (84, .invokevirtual 43, 3), (87, .iload_n 1, 1)], [(88, .iconst 2, 1), (89, .if_icmp .ne 4, 3), (92, .return_, 1), (93, .goto (-74), 3)], [(96, .return_, 1)]]
def pgc87 : List (List (Nat × Instr × Nat)) := [[(0, .iload_n 1, 1), (1, .tableswitch 97 0 3 #[31, 43, 55, 79], 31)], [], [], [], [(32, .iload_n 0, 1), (33, .bipush 124, 2), (35, .if_icmp .ne 7, 3), (38, .iconst 1, 1), (39, .goto 4, 3)], [(42, .iconst 0, 1), (43, .ireturn, 1), (44, .iload_n 0, 1), (45, .bipush 38, 2), (47, .if_icmp .ne 7, 3)], [(50, .iconst 1, 1), (51, .goto 4, 3), (54, .iconst 0, 1), (55, .ireturn, 1)], [(56, .iload_n 0, 1), (57, .bipush 60, 2), (59, .if_icmp .eq 15, 3), (62, .iload_n 0, 1), (63, .bipush 61, 2)], [(65, .if_icmp .eq 9, 3), (68, .iload_n 0, 1), (69, .bipush 62, 2), (71, .if_icmp .ne 7, 3)], [(74, .iconst 1, 1), (75, .goto 4, 3), (78, .iconst 0, 1), (79, .ireturn, 1)], [(80, .iload_n 0, 1), (81, .bipush 43, 2), (83, .if_icmp .eq 9, 3), (86, .iload_n 0, 1), (87, .bipush 45, 2)], [(89, .if_icmp .ne 7, 3), (92, .iconst 1, 1), (93, .goto 4, 3)], [(96, .iconst 0, 1), (97, .ireturn, 1), (98, .iload_n 0, 1), (99, .bipush 42, 2), (101, .if_icmp .eq 15, 3)], [(104, .iload_n 0, 1), (105, .bipush 47, 2), (107, .if_icmp .eq 9, 3), (110, .iload_n 0, 1), (111, .bipush 37, 2)], [(113, .if_icmp .ne 7, 3), (116, .iconst 1, 1), (117, .goto 4, 3)], [(120, .iconst 0, 1), (121, .ireturn, 1)]]
def pgc88 : List (List (Nat × Instr × Nat)) := [[(0, .aload_n 0, 1), (1, .invokevirtual 39, 3), (4, .istore_n 2, 1), (5, .iload_n 2, 1), (6, .ifCond .ge 7, 3)], [(9, .iconst (-1), 1), (10, .goto 10, 3), (13, .ldc 54, 2), (15, .iload_n 2, 1)], [(16, .i2c, 1), (17, .invokevirtual 56, 3), (20, .istore_n 3, 1), (21, .iload_n 2, 1), (22, .bipush 48, 2)], [(24, .if_icmp .lt 16, 3), (27, .iload_n 2, 1), (28, .bipush 57, 2), (30, .if_icmp .gt 10, 3)], [(33, .aload_n 0, 1), (34, .invokevirtual 62, 3), (37, .goto 145, 3)], [(40, .iload_n 3, 1), (41, .ifCond .lt 23, 3), (44, .aload_n 0, 1), (45, .dup, 1), (46, .getfield 22, 3)], [(49, .iconst 1, 1), (50, .iadd, 1), (51, .putfield 22, 3), (54, .aload_n 0, 1), (55, .iconst (-1), 1)], [(56, .iload_n 3, 1), (57, .isub, 1), (58, .invokevirtual 43, 3), (61, .goto 121, 3)], [(64, .iload_n 2, 1), (65, .bipush 33, 2), (67, .if_icmp .ne 35, 3), (70, .iload_n 1, 1), (71, .bipush 8, 2)], [(73, .if_icmp .ge 29, 3), (76, .aload_n 0, 1), (77, .dup, 1), (78, .getfield 22, 3)], [(81, .iconst 1, 1), (82, .iadd, 1), (83, .putfield 22, 3), (86, .aload_n 0, 1), (87, .iload_n 1, 1)], [(88, .iconst 1, 1), (89, .iadd, 1), (90, .invokevirtual 47, 3), (93, .aload_n 0, 1), (94, .bipush (-33), 2)], [(96, .invokevirtual 43, 3), (99, .goto 83, 3), (102, .iload_n 2, 1), (103, .bipush 40, 2)], [(105, .if_icmp .ne 72, 3), (108, .iload_n 1, 1), (109, .bipush 8, 2), (111, .if_icmp .ge 66, 3)], [(114, .aload_n 0, 1), (115, .dup, 1), (116, .getfield 22, 3), (119, .iconst 1, 1)], [(120, .iadd, 1), (121, .putfield 22, 3), (124, .aload_n 0, 1), (125, .iconst 0, 1), (126, .iload_n 1, 1), (127, .iconst 1, 1)], [(128, .iadd, 1), (129, .invokevirtual 35, 3), (132, .aload_n 0, 1), (133, .aload_n 0, 1), (134, .getfield 28, 3)], [(137, .ifCond .eq 16, 3), (140, .aload_n 0, 1), (141, .invokevirtual 39, 3)], [(144, .bipush 41, 2), (146, .if_icmp .ne 7, 3), (149, .iconst 1, 1), (150, .goto 4, 3)], [(153, .iconst 0, 1), (154, .putfield 28, 3), (157, .aload_n 0, 1), (158, .getfield 28, 3)], [(161, .ifCond .eq 21, 3), (164, .aload_n 0, 1), (165, .dup, 1), (166, .getfield 22, 3)], [(169, .iconst 1, 1), (170, .iadd, 1), (171, .putfield 22, 3), (174, .goto 8, 3)], [(177, .aload_n 0, 1), (178, .iconst 0, 1), (179, .putfield 28, 3), (182, .return_, 1)]]
def pgc89 : List (List (Nat × Instr × Nat)) := [[(0, .iconst 0, 1), (1, .istore_n 1, 1), (2, .iconst 0, 1), (3, .istore_n 2, 1), (4, .iload_n 2, 1), (5, .bipush 6, 2), (7, .if_icmp .ge 50, 3)], [(10, .aload_n 0, 1), (11, .invokevirtual 39, 3), (14, .bipush 48, 2)], [(16, .if_icmp .lt 41, 3), (19, .aload_n 0, 1), (20, .invokevirtual 39, 3), (23, .bipush 57, 2)], [(25, .if_icmp .gt 32, 3), (28, .iload_n 1, 1), (29, .bipush 10, 2), (31, .imul, 1)], [(32, .aload_n 0, 1), (33, .invokevirtual 39, 3), (36, .iadd, 1), (37, .bipush 48, 2), (39, .isub, 1)], [(40, .istore_n 1, 1), (41, .aload_n 0, 1), (42, .dup, 1), (43, .getfield 22, 3), (46, .iconst 1, 1), (47, .iadd, 1)], [(48, .putfield 22, 3), (51, .iinc 2 1, 3), (54, .goto (-50), 3)], [(57, .aload_n 0, 1), (58, .iload_n 1, 1), (59, .invokevirtual 43, 3), (62, .return_, 1)]]
def pgc90 : List (List (Nat × Instr × Nat)) := [[(0, .aload_n 0, 1), (1, .invokespecial 3, 3), (4, .aload_n 0, 1), (5, .bipush 9, 2), (7, .newarray .int, 2)], [(9, .putfield 11, 3), (12, .aload_n 0, 1), (13, .bipush 9, 2), (15, .newarray .int, 2)], [(17, .putfield 15, 3), (20, .aload_n 0, 1), (21, .bipush 9, 2), (23, .newarray .int, 2)], [(25, .putfield 18, 3), (28, .aload_n 0, 1), (29, .iconst 3, 1), (30, .newarray .int, 2)], [(32, .putfield 21, 3), (35, .aload_n 0, 1), (36, .iconst 3, 1), (37, .newarray .int, 2), (39, .putfield 24, 3)], [(42, .aload_n 0, 1), (43, .iconst 3, 1), (44, .newarray .int, 2), (46, .putfield 27, 3)], [(49, .aload_n 0, 1), (50, .bipush 9, 2), (52, .newarray .int, 2), (54, .putfield 30, 3)], [(57, .aload_n 0, 1), (58, .aload_n 1, 1), (59, .putfield 33, 3), (62, .return_, 1)]]
def pgc91 : List (List (Nat × Instr × Nat)) := [[(0, .aload_n 0, 1), (1, .getfield 37, 3), (4, .bipush 9, 2), (6, .if_icmp .lt 6, 3)], [(9, .bipush (-2), 2), (11, .ireturn, 1), (12, .aload_n 0, 1), (13, .getfield 11, 3)], [(16, .aload_n 0, 1), (17, .getfield 37, 3), (20, .iload_n 1, 1), (21, .iastore, 1), (22, .aload_n 0, 1), (23, .getfield 15, 3)], [(26, .aload_n 0, 1), (27, .getfield 37, 3), (30, .iload_n 2, 1), (31, .iastore, 1)], [(32, .aload_n 0, 1), (33, .dup, 1), (34, .getfield 37, 3), (37, .iconst 1, 1), (38, .iadd, 1), (39, .putfield 37, 3)], [(42, .aload_n 0, 1), (43, .getfield 37, 3), (46, .ireturn, 1)]]
def pgc92 : List (List (Nat × Instr × Nat)) := [[(0, .aload_n 0, 1), (1, .getfield 37, 3), (4, .ifCond .ne 6, 3), (7, .bipush (-3), 2)], [(9, .ireturn, 1), (10, .aload_n 0, 1), (11, .iload_n 1, 1), (12, .iload_n 2, 1), (13, .iload 4, 2), (15, .invokevirtual 41, 3)], [(18, .iconst 1, 1), (19, .istore 5, 2), (21, .iconst 0, 1), (22, .istore 6, 2)], [(24, .iload 6, 2), (26, .aload_n 0, 1), (27, .getfield 37, 3), (30, .if_icmp .ge 18, 3)], [(33, .iload 5, 2), (35, .aload_n 0, 1), (36, .getfield 45, 3), (39, .imul, 1)], [(40, .istore 5, 2), (42, .iinc 6 1, 3), (45, .goto (-21), 3)], [(48, .iconst (-1), 1), (49, .istore 6, 2), (51, .iconst 0, 1), (52, .istore 7, 2), (54, .iconst (-1), 1), (55, .istore 8, 2)], [(57, .iconst 0, 1), (58, .istore 9, 2), (60, .iload 9, 2), (62, .iload 5, 2)], [(64, .if_icmp .ge 49, 3), (67, .aload_n 0, 1), (68, .iload 9, 2), (70, .invokevirtual 48, 3)], [(73, .istore 10, 2), (75, .iload 8, 2), (77, .iload 10, 2), (79, .invokestatic 52, 3)], [(82, .istore 8, 2), (84, .iload 10, 2), (86, .iload 6, 2)], [(88, .if_icmp .le 19, 3), (91, .aload_n 0, 1), (92, .iload_n 3, 1), (93, .invokevirtual 58, 3)], [(96, .ifCond .eq 11, 3), (99, .iload 10, 2), (101, .istore 6, 2), (103, .iload 9, 2)], [(105, .istore 7, 2), (107, .iinc 9 1, 3), (110, .goto (-50), 3)], [(113, .iload 6, 2), (115, .ifCond .ge 6, 3), (118, .bipush (-4), 2)], [(120, .ireturn, 1), (121, .aload_n 0, 1), (122, .iload 7, 2), (124, .invokevirtual 62, 3), (127, .iconst 0, 1)], [(128, .istore 9, 2), (130, .iload 9, 2), (132, .aload_n 0, 1), (133, .getfield 37, 3)], [(136, .if_icmp .ge 28, 3), (139, .aload_n 0, 1), (140, .getfield 18, 3), (143, .iload 9, 2)], [(145, .aload_n 0, 1), (146, .getfield 21, 3), (149, .aload_n 0, 1), (150, .getfield 30, 3)], [(153, .iload 9, 2), (155, .iaload, 1), (156, .iaload, 1), (157, .iastore, 1), (158, .iinc 9 1, 3)], [(161, .goto (-31), 3), (164, .aload_n 0, 1), (165, .aload_n 0, 1), (166, .getfield 37, 3)], [(169, .putfield 66, 3), (172, .aload_n 0, 1), (173, .iload 8, 2), (175, .iload 6, 2)], [(177, .isub, 1), (178, .putfield 69, 3), (181, .aload_n 0, 1), (182, .iconst 0, 1), (183, .putfield 37, 3)], [(186, .iload 6, 2), (188, .ireturn, 1)]]
def pgc93 : List (List (Nat × Instr × Nat)) := [[(0, .aload_n 0, 1), (1, .iconst 0, 1), (2, .putfield 45, 3), (5, .iconst 0, 1), (6, .istore 4, 2)], [(8, .iload 4, 2), (10, .bipush 6, 2), (12, .if_icmp .ge 70, 3), (15, .aload_n 0, 1)], [(16, .getfield 45, 3), (19, .iconst 3, 1), (20, .if_icmp .ge 62, 3), (23, .iload_n 2, 1)], [(24, .iload 4, 2), (26, .ishr, 1), (27, .iconst 1, 1), (28, .iand, 1), (29, .iconst 1, 1), (30, .if_icmp .ne 46, 3)], [(33, .aload_n 0, 1), (34, .getfield 21, 3), (37, .aload_n 0, 1), (38, .getfield 45, 3)], [(41, .iload 4, 2), (43, .iastore, 1), (44, .aload_n 0, 1), (45, .getfield 24, 3)], [(48, .aload_n 0, 1), (49, .getfield 45, 3), (52, .aload_n 0, 1), (53, .getfield 33, 3)], [(56, .iconst 1, 1), (57, .iload 4, 2), (59, .iload_n 1, 1), (60, .iload_n 3, 1), (61, .iload_n 3, 1), (62, .invokevirtual 72, 3)], [(65, .iastore, 1), (66, .aload_n 0, 1), (67, .dup, 1), (68, .getfield 45, 3), (71, .iconst 1, 1)], [(72, .iadd, 1), (73, .putfield 45, 3), (76, .iinc 4 1, 3), (79, .goto (-71), 3)], [(82, .return_, 1)]]
def pgc94 : List (List (Nat × Instr × Nat)) := [[(0, .iload_n 1, 1), (1, .istore_n 2, 1), (2, .aload_n 0, 1), (3, .getfield 37, 3), (6, .iconst 1, 1), (7, .isub, 1)], [(8, .istore_n 3, 1), (9, .iload_n 3, 1), (10, .ifCond .lt 35, 3), (13, .aload_n 0, 1), (14, .getfield 45, 3)], [(17, .ifCond .le 28, 3), (20, .aload_n 0, 1), (21, .getfield 30, 3)], [(24, .iload_n 3, 1), (25, .iload_n 2, 1), (26, .aload_n 0, 1), (27, .getfield 45, 3), (30, .irem, 1), (31, .iastore, 1)], [(32, .iload_n 2, 1), (33, .aload_n 0, 1), (34, .getfield 45, 3), (37, .idiv, 1), (38, .istore_n 2, 1), (39, .iinc 3 (-1), 3)], [(42, .goto (-33), 3), (45, .return_, 1)]]
def pgc95 : List (List (Nat × Instr × Nat)) := [[(0, .aload_n 0, 1), (1, .iload_n 1, 1), (2, .invokevirtual 62, 3), (5, .aload_n 0, 1), (6, .getfield 27, 3)], [(9, .iconst 0, 1), (10, .invokestatic 78, 3), (13, .iconst 0, 1), (14, .istore_n 2, 1), (15, .iload_n 2, 1)], [(16, .aload_n 0, 1), (17, .getfield 37, 3), (20, .if_icmp .ge 54, 3), (23, .aload_n 0, 1)], [(24, .getfield 15, 3), (27, .iload_n 2, 1), (28, .iaload, 1), (29, .aload_n 0, 1), (30, .getfield 21, 3)], [(33, .aload_n 0, 1), (34, .getfield 30, 3), (37, .iload_n 2, 1), (38, .iaload, 1), (39, .iaload, 1)], [(40, .ishr, 1), (41, .iconst 1, 1), (42, .iand, 1), (43, .ifCond .ne 5, 3), (46, .iconst (-1), 1), (47, .ireturn, 1)], [(48, .aload_n 0, 1), (49, .getfield 27, 3), (52, .aload_n 0, 1), (53, .getfield 30, 3)], [(56, .iload_n 2, 1), (57, .iaload, 1), (58, .dup2, 1), (59, .iaload, 1), (60, .aload_n 0, 1), (61, .getfield 11, 3)], [(64, .iload_n 2, 1), (65, .iaload, 1), (66, .iadd, 1), (67, .iastore, 1), (68, .iinc 2 1, 3), (71, .goto (-56), 3)], [(74, .iconst 0, 1), (75, .istore_n 2, 1), (76, .iconst 0, 1), (77, .istore_n 3, 1), (78, .iload_n 3, 1), (79, .aload_n 0, 1)], [(80, .getfield 45, 3), (83, .if_icmp .ge 28, 3), (86, .iload_n 2, 1), (87, .aload_n 0, 1)], [(88, .getfield 24, 3), (91, .iload_n 3, 1), (92, .iaload, 1), (93, .aload_n 0, 1), (94, .getfield 27, 3)], [(97, .iload_n 3, 1), (98, .iaload, 1), (99, .imul, 1), (100, .bipush 100, 2), (102, .idiv, 1), (103, .iadd, 1)], [(104, .istore_n 2, 1), (105, .iinc 3 1, 3), (108, .goto (-30), 3), (111, .iload_n 2, 1)], [(112, .ireturn, 1)]]
def pgc96 : List (List (Nat × Instr × Nat)) := [[(0, .iconst 0, 1), (1, .istore_n 2, 1), (2, .iconst 0, 1), (3, .istore_n 3, 1), (4, .iload_n 3, 1), (5, .aload_n 0, 1), (6, .getfield 45, 3)], [(9, .if_icmp .ge 18, 3), (12, .iload_n 2, 1), (13, .aload_n 0, 1), (14, .getfield 27, 3)], [(17, .iload_n 3, 1), (18, .iaload, 1), (19, .iadd, 1), (20, .istore_n 2, 1), (21, .iinc 3 1, 3)], [(24, .goto (-20), 3), (27, .iconst 0, 1), (28, .istore_n 3, 1), (29, .iload_n 3, 1), (30, .aload_n 0, 1), (31, .getfield 45, 3)], [(34, .if_icmp .ge 26, 3), (37, .aload_n 0, 1), (38, .getfield 27, 3)], [(41, .iload_n 3, 1), (42, .iaload, 1), (43, .bipush 100, 2), (45, .imul, 1), (46, .iload_n 1, 1), (47, .iload_n 2, 1)], [(48, .imul, 1), (49, .if_icmp .ge 5, 3), (52, .iconst 0, 1), (53, .ireturn, 1), (54, .iinc 3 1, 3)], [(57, .goto (-28), 3), (60, .iconst 1, 1), (61, .ireturn, 1)]]
def pgc97 : List (List (Nat × Instr × Nat)) := [[(0, .aload_n 0, 1), (1, .invokespecial 1, 3), (4, .aload_n 0, 1), (5, .new 7, 3)], [(8, .dup, 1), (9, .invokespecial 9, 3), (12, .putfield 10, 3), (15, .aload_n 0, 1)], [(16, .new 16, 3), (19, .dup, 1), (20, .invokespecial 18, 3), (23, .putfield 19, 3)], [(26, .aload_n 0, 1), (27, .new 23, 3), (30, .dup, 1), (31, .invokespecial 25, 3)], [(34, .putfield 26, 3), (37, .aload_n 0, 1), (38, .new 30, 3)], [(41, .dup, 1), (42, .invokespecial 32, 3), (45, .putfield 33, 3)], [(48, .aload_n 0, 1), (49, .new 37, 3), (52, .dup, 1), (53, .invokespecial 39, 3)], [(56, .putfield 40, 3), (59, .aload_n 0, 1), (60, .new 44, 3), (63, .dup, 1)], [(64, .invokespecial 46, 3), (67, .putfield 47, 3), (70, .aload_n 0, 1), (71, .new 51, 3)], [(74, .dup, 1), (75, .invokespecial 53, 3), (78, .putfield 54, 3)], [(81, .aload_n 0, 1), (82, .new 58, 3), (85, .dup, 1), (86, .aload_n 0, 1), (87, .getfield 10, 3)], [(90, .aload_n 0, 1), (91, .getfield 19, 3), (94, .aload_n 0, 1), (95, .getfield 26, 3)], [(98, .aload_n 0, 1), (99, .getfield 33, 3), (102, .aload_n 0, 1), (103, .getfield 40, 3)], [(106, .aload_n 0, 1), (107, .getfield 54, 3), (110, .invokespecial 60, 3)], [(113, .putfield 63, 3), (116, .aload_n 0, 1), (117, .new 67, 3)], [(120, .dup, 1), (121, .aload_n 0, 1), (122, .getfield 10, 3), (125, .aload_n 0, 1), (126, .getfield 19, 3)], [(129, .aload_n 0, 1), (130, .getfield 63, 3), (133, .invokespecial 69, 3)], [(136, .putfield 72, 3), (139, .aload_n 0, 1), (140, .new 76, 3), (143, .dup, 1)], [(144, .aload_n 0, 1), (145, .getfield 63, 3), (148, .invokespecial 78, 3), (151, .putfield 81, 3)], [(154, .return_, 1)]]
def pgc98 : List (List (Nat × Instr × Nat)) := [[(0, .iload_n 1, 1), (1, .iconst 1, 1), (2, .sipush 360, 3), (5, .invokestatic 85, 3)], [(8, .ifCond .eq 15, 3), (11, .aload_n 0, 1), (12, .getfield 89, 3), (15, .iload_n 1, 1)], [(16, .iadd, 1), (17, .sipush 3599, 3), (20, .if_icmp .le 5, 3), (23, .iconst (-1), 1)], [(24, .ireturn, 1), (25, .aload_n 0, 1), (26, .dup, 1), (27, .getfield 89, 3), (30, .iload_n 1, 1), (31, .iadd, 1)], [(32, .putfield 89, 3), (35, .aload_n 0, 1), (36, .getfield 89, 3), (39, .ireturn, 1)]]
def pgc99 : List (List (Nat × Instr × Nat)) := [[(0, .iload_n 1, 1), (1, .invokestatic 93, 3), (4, .ifCond .eq 20, 3), (7, .iload_n 2, 1)], [(8, .invokestatic 97, 3), (11, .ifCond .eq 13, 3), (14, .iload_n 3, 1), (15, .iconst 1, 1)], [(16, .ldc 100, 2), (18, .invokestatic 85, 3), (21, .ifCond .ne 5, 3)], [(24, .iconst (-1), 1), (25, .ireturn, 1), (26, .aload_n 0, 1), (27, .getfield 33, 3), (30, .iload_n 1, 1), (31, .iload_n 2, 1)], [(32, .iload_n 3, 1), (33, .invokevirtual 101, 3), (36, .ireturn, 1)]]
def pgc100 : List (List (Nat × Instr × Nat)) := [[(0, .iload_n 1, 1), (1, .invokestatic 93, 3), (4, .ifCond .eq 10, 3), (7, .iload_n 2, 1)], [(8, .invokestatic 97, 3), (11, .ifCond .ne 5, 3), (14, .iconst (-1), 1), (15, .ireturn, 1)], [(16, .aload_n 0, 1), (17, .getfield 33, 3), (20, .iload_n 1, 1), (21, .iload_n 2, 1), (22, .invokevirtual 105, 3)], [(25, .ireturn, 1)]]
def pgc101 : List (List (Nat × Instr × Nat)) := [[(0, .iload_n 1, 1), (1, .invokestatic 93, 3), (4, .ifCond .ne 5, 3), (7, .iconst (-1), 1)], [(8, .ireturn, 1), (9, .aload_n 0, 1), (10, .getfield 10, 3), (13, .iload_n 1, 1), (14, .invokevirtual 109, 3)], [(17, .ireturn, 1)]]
def pgc102 : List (List (Nat × Instr × Nat)) := [[(0, .aload_n 0, 1), (1, .getfield 10, 3), (4, .iload_n 1, 1), (5, .invokevirtual 113, 3)], [(8, .ifCond .eq 19, 3), (11, .aload_n 0, 1), (12, .getfield 10, 3), (15, .iload_n 2, 1)], [(16, .invokevirtual 113, 3), (19, .ifCond .eq 8, 3), (22, .iload_n 1, 1), (23, .iload_n 2, 1)], [(24, .if_icmp .ne 5, 3), (27, .iconst (-1), 1), (28, .ireturn, 1), (29, .aload_n 0, 1), (30, .getfield 10, 3)], [(33, .iload_n 1, 1), (34, .iload_n 2, 1), (35, .aload_n 0, 1), (36, .getfield 89, 3), (39, .invokevirtual 116, 3)], [(42, .ireturn, 1)]]
def pgc103 : List (List (Nat × Instr × Nat)) := [[(0, .aload_n 0, 1), (1, .getfield 10, 3), (4, .iload_n 1, 1), (5, .invokevirtual 113, 3)], [(8, .ifCond .eq 13, 3), (11, .iload_n 2, 1), (12, .iconst 1, 1), (13, .bipush 9, 2), (15, .invokestatic 85, 3)], [(18, .ifCond .ne 5, 3), (21, .iconst (-1), 1), (22, .ireturn, 1), (23, .aload_n 0, 1)], [(24, .getfield 19, 3), (27, .iload_n 1, 1), (28, .iload_n 2, 1), (29, .invokevirtual 119, 3)], [(32, .ireturn, 1)]]
def pgc104 : List (List (Nat × Instr × Nat)) := [[(0, .aload_n 0, 1), (1, .getfield 19, 3), (4, .iload_n 1, 1), (5, .invokevirtual 121, 3)], [(8, .ifCond .eq 27, 3), (11, .aload_n 0, 1), (12, .getfield 10, 3), (15, .iload_n 2, 1)], [(16, .invokevirtual 113, 3), (19, .ifCond .eq 16, 3), (22, .aload_n 0, 1), (23, .getfield 19, 3)], [(26, .getfield 122, 3), (29, .iload_n 1, 1), (30, .iaload, 1), (31, .iload_n 2, 1)], [(32, .if_icmp .ne 5, 3), (35, .iconst (-1), 1), (36, .ireturn, 1), (37, .aload_n 0, 1), (38, .getfield 19, 3)], [(41, .getfield 122, 3), (44, .iload_n 1, 1), (45, .iaload, 1), (46, .istore_n 3, 1), (47, .aload_n 0, 1)], [(48, .getfield 19, 3), (51, .getfield 122, 3), (54, .iload_n 1, 1), (55, .iload_n 2, 1)], [(56, .iastore, 1), (57, .iload_n 3, 1), (58, .ireturn, 1)]]
def pgc105 : List (List (Nat × Instr × Nat)) := [[(0, .iload_n 1, 1), (1, .invokestatic 93, 3), (4, .ifCond .ne 5, 3), (7, .iconst (-1), 1)], [(8, .ireturn, 1), (9, .aload_n 0, 1), (10, .getfield 26, 3), (13, .iload_n 1, 1), (14, .invokevirtual 126, 3)], [(17, .ireturn, 1)]]
def pgc106 : List (List (Nat × Instr × Nat)) := [[(0, .aload_n 0, 1), (1, .getfield 26, 3), (4, .iload_n 1, 1), (5, .invokevirtual 127, 3)], [(8, .ifCond .eq 31, 3), (11, .iload_n 2, 1), (12, .invokestatic 93, 3), (15, .ifCond .eq 24, 3)], [(18, .iload_n 3, 1), (19, .invokestatic 97, 3), (22, .ifCond .eq 17, 3)], [(25, .iload 4, 2), (27, .invokestatic 97, 3), (30, .ifCond .eq 9, 3)], [(33, .iload_n 3, 1), (34, .iload 4, 2), (36, .if_icmp .le 5, 3), (39, .iconst (-1), 1)], [(40, .ireturn, 1), (41, .aload_n 0, 1), (42, .getfield 26, 3), (45, .iload_n 1, 1), (46, .iload_n 2, 1), (47, .iload_n 3, 1)], [(48, .iload 4, 2), (50, .aload_n 0, 1), (51, .getfield 89, 3), (54, .invokevirtual 128, 3)], [(57, .ireturn, 1)]]
def pgc107 : List (List (Nat × Instr × Nat)) := [[(0, .aload_n 0, 1), (1, .getfield 26, 3), (4, .iload_n 1, 1), (5, .invokevirtual 127, 3)], [(8, .ifCond .eq 25, 3), (11, .iload_n 2, 1), (12, .invokestatic 93, 3), (15, .ifCond .eq 18, 3)], [(18, .iload_n 3, 1), (19, .invokestatic 97, 3), (22, .ifCond .eq 11, 3)], [(25, .iload 4, 2), (27, .invokestatic 97, 3), (30, .ifCond .ne 5, 3)], [(33, .iconst (-1), 1), (34, .ireturn, 1), (35, .aload_n 0, 1), (36, .getfield 26, 3), (39, .iload_n 1, 1)], [(40, .iload_n 2, 1), (41, .iload_n 3, 1), (42, .iload 4, 2), (44, .invokevirtual 132, 3), (47, .ifCond .eq 7, 3)], [(50, .iconst 1, 1), (51, .goto 4, 3), (54, .iconst 0, 1), (55, .ireturn, 1)]]
def pgc108 : List (List (Nat × Instr × Nat)) := [[(0, .aload_n 0, 1), (1, .getfield 19, 3), (4, .iload_n 1, 1), (5, .invokevirtual 121, 3)], [(8, .ifCond .eq 20, 3), (11, .iload_n 2, 1), (12, .invokestatic 93, 3), (15, .ifCond .eq 13, 3)], [(18, .iload_n 3, 1), (19, .iconst 1, 1), (20, .bipush 20, 2), (22, .invokestatic 85, 3)], [(25, .ifCond .ne 5, 3), (28, .iconst (-1), 1), (29, .ireturn, 1), (30, .aload_n 0, 1), (31, .getfield 19, 3)], [(34, .iload_n 1, 1), (35, .iload_n 2, 1), (36, .iload_n 3, 1), (37, .invokevirtual 136, 3)], [(40, .ireturn, 1)]]
def pgc109 : List (List (Nat × Instr × Nat)) := [[(0, .aload_n 0, 1), (1, .getfield 19, 3), (4, .iload_n 1, 1), (5, .invokevirtual 139, 3)], [(8, .ifCond .ne 5, 3), (11, .iconst (-1), 1), (12, .ireturn, 1), (13, .aload_n 0, 1), (14, .getfield 19, 3)], [(17, .iload_n 1, 1), (18, .aload_n 0, 1), (19, .getfield 89, 3), (22, .invokevirtual 142, 3)], [(25, .ireturn, 1)]]
def pgc110 : List (List (Nat × Instr × Nat)) := [[(0, .aload_n 0, 1), (1, .getfield 19, 3), (4, .iload_n 1, 1), (5, .invokevirtual 121, 3)], [(8, .ifCond .eq 17, 3), (11, .iload_n 2, 1), (12, .invokestatic 93, 3), (15, .ifCond .eq 10, 3)], [(18, .iload_n 3, 1), (19, .invokestatic 97, 3), (22, .ifCond .ne 5, 3)], [(25, .iconst (-1), 1), (26, .ireturn, 1), (27, .aload_n 0, 1), (28, .getfield 19, 3), (31, .iload_n 1, 1)], [(32, .iload_n 2, 1), (33, .iload_n 3, 1), (34, .invokevirtual 145, 3), (37, .ireturn, 1)]]
def pgc111 : List (List (Nat × Instr × Nat)) := [[(0, .iload_n 1, 1), (1, .iconst 0, 1), (2, .bipush 6, 2), (4, .invokestatic 85, 3), (7, .ifCond .eq 13, 3)], [(10, .iload_n 2, 1), (11, .iconst 0, 1), (12, .ldc 100, 2), (14, .invokestatic 85, 3)], [(17, .ifCond .ne 5, 3), (20, .iconst (-1), 1), (21, .ireturn, 1), (22, .aload_n 0, 1), (23, .getfield 40, 3)], [(26, .getfield 148, 3), (29, .iload_n 1, 1), (30, .iaload, 1), (31, .istore_n 3, 1)], [(32, .aload_n 0, 1), (33, .getfield 40, 3), (36, .getfield 148, 3), (39, .iload_n 1, 1)], [(40, .iload_n 2, 1), (41, .iastore, 1), (42, .iload_n 3, 1), (43, .ireturn, 1)]]
def pgc112 : List (List (Nat × Instr × Nat)) := [[(0, .iload_n 1, 1), (1, .iconst 1, 1), (2, .bipush 6, 2), (4, .invokestatic 85, 3), (7, .ifCond .eq 21, 3)], [(10, .iload_n 2, 1), (11, .iconst 1, 1), (12, .ldc 100, 2), (14, .invokestatic 85, 3)], [(17, .ifCond .eq 11, 3), (20, .aload_n 0, 1), (21, .iload_n 1, 1), (22, .invokevirtual 151, 3)], [(25, .ifCond .ne 5, 3), (28, .iconst (-1), 1), (29, .ireturn, 1), (30, .aload_n 0, 1), (31, .getfield 40, 3)], [(34, .iload_n 1, 1), (35, .iload_n 2, 1), (36, .invokevirtual 154, 3), (39, .ireturn, 1)]]
def pgc113 : List (List (Nat × Instr × Nat)) := [[(0, .aload_n 0, 1), (1, .getfield 40, 3), (4, .iload_n 1, 1), (5, .invokevirtual 155, 3)], [(8, .astore_n 3, 1), (9, .aload_n 3, 1), (10, .ifnonnull 6, 3), (13, .ldc 159, 2), (15, .ireturn, 1)], [(16, .iload_n 2, 1), (17, .tableswitch 109 0 9 #[55, 60, 65, 70, 75, 84, 89, 94, 99, 104], 55)], [], [], [], [], [], [], [(72, .aload_n 3, 1), (73, .getfield 160, 3), (76, .ireturn, 1), (77, .aload_n 3, 1), (78, .getfield 165, 3)], [(81, .ireturn, 1), (82, .aload_n 3, 1), (83, .getfield 168, 3), (86, .ireturn, 1), (87, .aload_n 3, 1)], [(88, .getfield 171, 3), (91, .ireturn, 1), (92, .aload_n 3, 1), (93, .aload_n 0, 1), (94, .getfield 89, 3)], [(97, .invokevirtual 174, 3), (100, .ireturn, 1), (101, .aload_n 3, 1), (102, .getfield 177, 3)], [(105, .ireturn, 1), (106, .aload_n 3, 1), (107, .getfield 180, 3), (110, .ireturn, 1), (111, .aload_n 3, 1)], [(112, .getfield 183, 3), (115, .ireturn, 1), (116, .aload_n 3, 1), (117, .getfield 186, 3)], [(120, .ireturn, 1), (121, .aload_n 3, 1), (122, .invokevirtual 189, 3), (125, .ireturn, 1), (126, .ldc 159, 2)], [(128, .ireturn, 1)]]
def pgc114 : List (List (Nat × Instr × Nat)) := [[(0, .iload_n 1, 1), (1, .iconst 0, 1), (2, .bipush 19, 2), (4, .invokestatic 85, 3), (7, .ifCond .eq 33, 3)], [(10, .iload_n 2, 1), (11, .invokestatic 93, 3), (14, .ifCond .eq 26, 3)], [(17, .iload_n 3, 1), (18, .iconst 0, 1), (19, .aload_n 0, 1), (20, .getfield 89, 3), (23, .invokestatic 85, 3)], [(26, .ifCond .eq 14, 3), (29, .iload 4, 2), (31, .iconst 1, 1)], [(32, .ldc 100, 2), (34, .invokestatic 85, 3), (37, .ifCond .ne 5, 3)], [(40, .iconst (-1), 1), (41, .ireturn, 1), (42, .aload_n 0, 1), (43, .getfield 33, 3), (46, .iload_n 1, 1), (47, .iload_n 2, 1)], [(48, .iload_n 3, 1), (49, .iload 4, 2), (51, .aload_n 0, 1), (52, .getfield 89, 3), (55, .invokevirtual 193, 3)], [(58, .ireturn, 1)]]
def pgc115 : List (List (Nat × Instr × Nat)) := [[(0, .aload_n 0, 1), (1, .getfield 40, 3), (4, .iload_n 1, 1), (5, .invokevirtual 155, 3)], [(8, .astore 4, 2), (10, .aload 4, 2), (12, .ifnull 19, 3), (15, .iload_n 2, 1)], [(16, .invokestatic 97, 3), (19, .ifCond .eq 12, 3), (22, .iload_n 3, 1), (23, .iconst 0, 1)], [(24, .iconst 3, 1), (25, .invokestatic 85, 3), (28, .ifCond .ne 5, 3), (31, .iconst (-1), 1)], [(32, .ireturn, 1), (33, .aload_n 0, 1), (34, .getfield 33, 3), (37, .aload 4, 2), (39, .getfield 186, 3)], [(42, .aload 4, 2), (44, .getfield 171, 3), (47, .aload 4, 2)], [(49, .getfield 177, 3), (52, .iload_n 2, 1), (53, .invokevirtual 196, 3)], [(56, .istore 5, 2), (58, .iload_n 3, 1), (59, .iconst 3, 1), (60, .if_icmp .ne 6, 3), (63, .iload 5, 2)], [(65, .ireturn, 1), (66, .iload 5, 2), (68, .iconst 1, 1), (69, .if_icmp .ge 6, 3)], [(72, .bipush (-4), 2), (74, .ireturn, 1), (75, .iload_n 3, 1), (76, .iconst 2, 1), (77, .if_icmp .ne 11, 3)], [(80, .aload_n 0, 1), (81, .getfield 33, 3), (84, .invokevirtual 200, 3), (87, .ireturn, 1)], [(88, .aload_n 0, 1), (89, .getfield 33, 3), (92, .getfield 203, 3), (95, .iload_n 3, 1)], [(96, .ifCond .ne 7, 3), (99, .iconst 0, 1), (100, .goto 7, 3), (103, .iload 5, 2)], [(105, .iconst 1, 1), (106, .isub, 1), (107, .iaload, 1), (108, .ireturn, 1)]]
def pgc116 : List (List (Nat × Instr × Nat)) := [[(0, .aload_n 0, 1), (1, .getfield 40, 3), (4, .iload_n 1, 1), (5, .invokevirtual 155, 3)], [(8, .astore 4, 2), (10, .aload 4, 2), (12, .ifnull 10, 3), (15, .iload_n 2, 1)], [(16, .invokestatic 97, 3), (19, .ifCond .ne 5, 3), (22, .iconst (-1), 1), (23, .ireturn, 1)], [(24, .iload_n 3, 1), (25, .tableswitch 90 0 3 #[31, 42, 60, 71], 31)], [], [], [], [(56, .aload_n 0, 1), (57, .getfield 63, 3), (60, .aload 4, 2), (62, .iload_n 2, 1), (63, .invokevirtual 206, 3)], [(66, .ireturn, 1), (67, .aload_n 0, 1), (68, .getfield 40, 3), (71, .aload 4, 2)], [(73, .invokevirtual 210, 3), (76, .ifCond .eq 7, 3), (79, .iconst 1, 1)], [(80, .goto 4, 3), (83, .iconst 0, 1), (84, .ireturn, 1), (85, .aload_n 0, 1), (86, .getfield 63, 3)], [(89, .aload 4, 2), (91, .iload_n 2, 1), (92, .invokevirtual 214, 3), (95, .ireturn, 1)], [(96, .aload_n 0, 1), (97, .getfield 63, 3), (100, .aload 4, 2), (102, .iload_n 2, 1), (103, .invokevirtual 214, 3)], [(106, .pop, 1), (107, .aload_n 0, 1), (108, .getfield 63, 3), (111, .getfield 217, 3)], [(114, .ireturn, 1), (115, .iconst (-1), 1), (116, .ireturn, 1)]]
def pgc117 : List (List (Nat × Instr × Nat)) := [[(0, .aload_n 0, 1), (1, .getfield 19, 3), (4, .iload_n 1, 1), (5, .invokevirtual 121, 3)], [(8, .ifCond .eq 18, 3), (11, .iload_n 2, 1), (12, .invokestatic 93, 3), (15, .ifCond .eq 11, 3)], [(18, .iload 4, 2), (20, .invokestatic 97, 3), (23, .ifCond .ne 5, 3)], [(26, .iconst (-1), 1), (27, .ireturn, 1), (28, .iload_n 3, 1), (29, .iconst (-1), 1), (30, .aload_n 0, 1), (31, .getfield 19, 3)], [(34, .getfield 220, 3), (37, .iload_n 1, 1), (38, .iaload, 1), (39, .iconst 1, 1)], [(40, .isub, 1), (41, .invokestatic 85, 3), (44, .ifCond .ne 5, 3), (47, .iconst (-1), 1)], [(48, .ireturn, 1), (49, .iload 5, 2), (51, .ifCond .ne 17, 3), (54, .aload_n 0, 1), (55, .getfield 63, 3)], [(58, .iload_n 1, 1), (59, .iload_n 2, 1), (60, .iload_n 3, 1), (61, .iconst (-1), 1), (62, .iload 4, 2)], [(64, .invokevirtual 223, 3), (67, .ireturn, 1), (68, .iload 5, 2), (70, .iconst 1, 1), (71, .if_icmp .ne 20, 3)], [(74, .iload_n 3, 1), (75, .iconst (-1), 1), (76, .if_icmp .ne 15, 3), (79, .aload_n 0, 1)], [(80, .getfield 63, 3), (83, .iload_n 1, 1), (84, .iload_n 2, 1), (85, .iload 4, 2), (87, .invokevirtual 226, 3)], [(90, .ireturn, 1), (91, .iconst (-1), 1), (92, .ireturn, 1)]]
def pgc118 : List (List (Nat × Instr × Nat)) := [[(0, .iload_n 1, 1), (1, .iconst 1, 1), (2, .iconst 4, 1), (3, .invokestatic 85, 3), (6, .ifCond .ne 5, 3)], [(9, .iconst (-1), 1), (10, .ireturn, 1), (11, .aload_n 0, 1), (12, .getfield 47, 3), (15, .iload_n 1, 1)], [(16, .iload_n 2, 1), (17, .invokevirtual 229, 3), (20, .ireturn, 1)]]
def pgc119 : List (List (Nat × Instr × Nat)) := [[(0, .iload_n 1, 1), (1, .invokestatic 232, 3), (4, .ifCond .eq 10, 3), (7, .iload_n 2, 1)], [(8, .invokestatic 97, 3), (11, .ifCond .ne 5, 3), (14, .iconst (-1), 1), (15, .ireturn, 1)], [(16, .aload_n 0, 1), (17, .getfield 54, 3), (20, .getfield 235, 3), (23, .bipush 20, 2)], [(25, .if_icmp .lt 6, 3), (28, .bipush (-2), 2), (30, .ireturn, 1), (31, .aload_n 0, 1)], [(32, .getfield 47, 3), (35, .invokevirtual 238, 3), (38, .istore_n 3, 1), (39, .aload_n 0, 1)], [(40, .getfield 47, 3), (43, .iconst 0, 1), (44, .putfield 241, 3), (47, .iload_n 3, 1)], [(48, .ifCond .lt 8, 3), (51, .bipush (-100), 2), (53, .iload_n 3, 1), (54, .isub, 1), (55, .ireturn, 1)], [(56, .aload_n 0, 1), (57, .getfield 54, 3), (60, .iload_n 1, 1), (61, .aload_n 0, 1), (62, .getfield 89, 3)], [(65, .iload_n 2, 1), (66, .aload_n 0, 1), (67, .getfield 47, 3), (70, .invokevirtual 244, 3)], [(73, .ireturn, 1)]]
def pgc120 : List (List (Nat × Instr × Nat)) := [[(0, .iload_n 1, 1), (1, .invokestatic 232, 3), (4, .ifCond .eq 17, 3), (7, .iload_n 2, 1)], [(8, .invokestatic 97, 3), (11, .ifCond .eq 10, 3), (14, .iload_n 3, 1), (15, .invokestatic 97, 3)], [(18, .ifCond .ne 5, 3), (21, .iconst (-1), 1), (22, .ireturn, 1), (23, .aload_n 0, 1)], [(24, .getfield 54, 3), (27, .iload_n 1, 1), (28, .iload_n 2, 1), (29, .iload_n 3, 1), (30, .invokevirtual 247, 3)], [(33, .ireturn, 1)]]
def pgc121 : List (List (Nat × Instr × Nat)) := [[(0, .iload_n 1, 1), (1, .invokestatic 93, 3), (4, .ifCond .eq 39, 3), (7, .aload_n 0, 1)], [(8, .getfield 19, 3), (11, .iload_n 2, 1), (12, .invokevirtual 121, 3), (15, .ifCond .eq 28, 3)], [(18, .iload_n 3, 1), (19, .invokestatic 97, 3), (22, .ifCond .eq 21, 3)], [(25, .iload 4, 2), (27, .invokestatic 97, 3), (30, .ifCond .eq 13, 3)], [(33, .iload 5, 2), (35, .iconst 1, 1), (36, .iconst 3, 1), (37, .invokestatic 85, 3)], [(40, .ifCond .ne 5, 3), (43, .iconst (-1), 1), (44, .ireturn, 1), (45, .aload_n 0, 1), (46, .getfield 63, 3)], [(49, .iload 5, 2), (51, .iload_n 1, 1), (52, .iload_n 2, 1), (53, .iload_n 3, 1), (54, .iload 4, 2)], [(56, .invokevirtual 250, 3), (59, .ireturn, 1)]]
def pgc122 : List (List (Nat × Instr × Nat)) := [[(0, .iload_n 1, 1), (1, .invokestatic 93, 3), (4, .ifCond .eq 23, 3), (7, .iload_n 2, 1)], [(8, .iconst 0, 1), (9, .bipush 9, 2), (11, .invokestatic 85, 3), (14, .ifCond .eq 13, 3)], [(17, .iload_n 3, 1), (18, .iconst 0, 1), (19, .ldc 253, 2), (21, .invokestatic 85, 3)], [(24, .ifCond .ne 5, 3), (27, .iconst (-1), 1), (28, .ireturn, 1), (29, .iload_n 1, 1), (30, .bipush 10, 2)], [(32, .imul, 1), (33, .iload_n 2, 1), (34, .iadd, 1), (35, .istore 4, 2), (37, .aload_n 0, 1), (38, .getfield 72, 3)], [(41, .getfield 254, 3), (44, .iload 4, 2), (46, .iaload, 1), (47, .istore 5, 2)], [(49, .aload_n 0, 1), (50, .getfield 72, 3), (53, .getfield 254, 3)], [(56, .iload 4, 2), (58, .iload_n 3, 1), (59, .iastore, 1), (60, .iload 5, 2), (62, .ireturn, 1)]]
def pgc123 : List (List (Nat × Instr × Nat)) := [[(0, .aload_n 0, 1), (1, .getfield 19, 3), (4, .iload_n 1, 1), (5, .invokevirtual 121, 3)], [(8, .ifCond .eq 10, 3), (11, .iload_n 2, 1), (12, .invokestatic 93, 3), (15, .ifCond .ne 5, 3)], [(18, .iconst (-1), 1), (19, .ireturn, 1), (20, .aload_n 0, 1), (21, .getfield 72, 3)], [(24, .iload_n 1, 1), (25, .iload_n 2, 1), (26, .aload_n 0, 1), (27, .getfield 89, 3), (30, .invokevirtual 257, 3)], [(33, .ireturn, 1)]]
def pgc124 : List (List (Nat × Instr × Nat)) := [[(0, .aload_n 0, 1), (1, .getfield 89, 3), (4, .sipush 360, 3), (7, .idiv, 1)], [(8, .istore_n 3, 1), (9, .aload_n 0, 1), (10, .getfield 72, 3), (13, .iload_n 1, 1), (14, .invokevirtual 259, 3)], [(17, .ifCond .eq 12, 3), (20, .iload_n 2, 1), (21, .iconst (-1), 1), (22, .iload_n 3, 1), (23, .invokestatic 85, 3)], [(26, .ifCond .ne 5, 3), (29, .iconst (-1), 1), (30, .ireturn, 1), (31, .aload_n 0, 1)], [(32, .getfield 72, 3), (35, .iload_n 1, 1), (36, .iload_n 3, 1), (37, .aload_n 0, 1), (38, .getfield 89, 3)], [(41, .invokevirtual 260, 3), (44, .istore 4, 2), (46, .iload_n 2, 1), (47, .iconst (-1), 1)], [(48, .if_icmp .ne 8, 3), (51, .iload 4, 2), (53, .goto 12, 3)], [(56, .aload_n 0, 1), (57, .getfield 72, 3), (60, .getfield 263, 3), (63, .iload_n 2, 1)], [(64, .iaload, 1), (65, .ireturn, 1)]]
def pgc125 : List (List (Nat × Instr × Nat)) := [[(0, .aload_n 0, 1), (1, .getfield 72, 3), (4, .iload_n 1, 1), (5, .invokevirtual 259, 3)], [(8, .ifCond .ne 5, 3), (11, .iconst (-1), 1), (12, .ireturn, 1), (13, .aload_n 0, 1), (14, .getfield 72, 3)], [(17, .iload_n 1, 1), (18, .bipush 9, 2), (20, .aload_n 0, 1), (21, .getfield 89, 3)], [(24, .invokevirtual 260, 3), (27, .pop, 1), (28, .aload_n 0, 1), (29, .getfield 72, 3)], [(32, .getfield 266, 3), (35, .ireturn, 1)]]
def pgc126 : List (List (Nat × Instr × Nat)) := [[(0, .aload_n 0, 1), (1, .getfield 72, 3), (4, .iload_n 1, 1), (5, .invokevirtual 259, 3)], [(8, .ifCond .eq 13, 3), (11, .iload_n 2, 1), (12, .iconst 0, 1), (13, .bipush 19, 2), (15, .invokestatic 85, 3)], [(18, .ifCond .ne 5, 3), (21, .iconst (-1), 1), (22, .ireturn, 1), (23, .iload_n 3, 1)], [(24, .iconst 1, 1), (25, .ldc 253, 2), (27, .invokestatic 85, 3), (30, .ifCond .eq 13, 3)], [(33, .iload 4, 2), (35, .iconst 0, 1), (36, .iconst 2, 1), (37, .invokestatic 85, 3)], [(40, .ifCond .ne 5, 3), (43, .iconst (-1), 1), (44, .ireturn, 1), (45, .aload_n 0, 1), (46, .getfield 72, 3)], [(49, .iload_n 1, 1), (50, .iload_n 3, 1), (51, .iload 4, 2), (53, .invokevirtual 269, 3)], [(56, .ireturn, 1)]]
def pgc127 : List (List (Nat × Instr × Nat)) := [[(0, .aload_n 0, 1), (1, .getfield 72, 3), (4, .iload_n 1, 1), (5, .invokevirtual 259, 3)], [(8, .ifCond .ne 5, 3), (11, .iconst (-1), 1), (12, .ireturn, 1), (13, .aload_n 0, 1), (14, .getfield 72, 3)], [(17, .getfield 272, 3), (20, .iload_n 1, 1), (21, .iaload, 1), (22, .ifCond .ge 15, 3)], [(25, .aload_n 0, 1), (26, .getfield 72, 3), (29, .getfield 275, 3)], [(32, .iload_n 1, 1), (33, .baload, 1), (34, .ifCond .eq 6, 3), (37, .bipush (-3), 2), (39, .ireturn, 1)], [(40, .aload_n 0, 1), (41, .getfield 72, 3), (44, .iload_n 1, 1), (45, .aload_n 0, 1), (46, .getfield 89, 3)], [(49, .invokevirtual 279, 3), (52, .ireturn, 1)]]
def pgc128 : List (List (Nat × Instr × Nat)) := [[(0, .aload_n 0, 1), (1, .getfield 72, 3), (4, .iload_n 1, 1), (5, .invokevirtual 259, 3)], [(8, .ifCond .ne 5, 3), (11, .iconst (-1), 1), (12, .ireturn, 1), (13, .aload_n 0, 1), (14, .getfield 72, 3)], [(17, .getfield 275, 3), (20, .iload_n 1, 1), (21, .baload, 1), (22, .ifCond .eq 6, 3)], [(25, .bipush (-3), 2), (27, .ireturn, 1), (28, .aload_n 0, 1), (29, .getfield 72, 3)], [(32, .iload_n 1, 1), (33, .aload_n 0, 1), (34, .getfield 89, 3), (37, .sipush 360, 3)], [(40, .idiv, 1), (41, .aload_n 0, 1), (42, .getfield 89, 3), (45, .invokevirtual 260, 3)], [(48, .istore_n 2, 1), (49, .aload_n 0, 1), (50, .getfield 72, 3), (53, .iload_n 1, 1), (54, .iload_n 2, 1), (55, .invokevirtual 282, 3)], [(58, .ireturn, 1)]]
def pgc129 : List (List (Nat × Instr × Nat)) := [[(0, .iload_n 1, 1), (1, .iconst 0, 1), (2, .aload_n 0, 1), (3, .getfield 72, 3), (6, .getfield 285, 3)], [(9, .iconst 1, 1), (10, .isub, 1), (11, .invokestatic 85, 3), (14, .ifCond .eq 12, 3)], [(17, .iload_n 2, 1), (18, .iconst 0, 1), (19, .iconst 1, 1), (20, .invokestatic 85, 3), (23, .ifCond .ne 5, 3)], [(26, .iconst (-1), 1), (27, .ireturn, 1), (28, .iload_n 2, 1), (29, .ifCond .ne 15, 3)], [(32, .aload_n 0, 1), (33, .getfield 72, 3), (36, .getfield 288, 3), (39, .iload_n 1, 1)], [(40, .iaload, 1), (41, .goto 22, 3), (44, .aload_n 0, 1), (45, .getfield 72, 3)], [(48, .getfield 291, 3), (51, .iload_n 1, 1), (52, .iaload, 1), (53, .aload_n 0, 1), (54, .getfield 72, 3)], [(57, .getfield 288, 3), (60, .iload_n 1, 1), (61, .iaload, 1), (62, .isub, 1), (63, .ireturn, 1)]]
def pgc130 : List (List (Nat × Instr × Nat)) := [[(0, .aload_n 0, 1), (1, .getfield 10, 3), (4, .iload_n 1, 1), (5, .invokevirtual 113, 3)], [(8, .ifCond .ne 5, 3), (11, .iconst (-1), 1), (12, .ireturn, 1), (13, .aload_n 0, 1), (14, .getfield 10, 3)], [(17, .getfield 294, 3), (20, .iload_n 1, 1), (21, .iaload, 1), (22, .ireturn, 1)]]
def pgc131 : List (List (Nat × Instr × Nat)) := [[(0, .iload_n 1, 1), (1, .iconst 1, 1), (2, .sipush 9999, 3), (5, .invokestatic 85, 3)], [(8, .ifCond .eq 13, 3), (11, .iload_n 2, 1), (12, .iconst 1, 1), (13, .bipush 63, 2), (15, .invokestatic 85, 3)], [(18, .ifCond .ne 5, 3), (21, .iconst (-1), 1), (22, .ireturn, 1), (23, .aload_n 0, 1)], [(24, .getfield 81, 3), (27, .iload_n 1, 1), (28, .iload_n 2, 1), (29, .invokevirtual 297, 3)], [(32, .ireturn, 1)]]
def pgc132 : List (List (Nat × Instr × Nat)) := [[(0, .aload_n 0, 1), (1, .getfield 19, 3), (4, .iload_n 1, 1), (5, .invokevirtual 121, 3)], [(8, .ifCond .eq 23, 3), (11, .iload_n 2, 1), (12, .iconst 1, 1), (13, .bipush 63, 2), (15, .invokestatic 85, 3)], [(18, .ifCond .eq 13, 3), (21, .iload_n 3, 1), (22, .iconst 0, 1), (23, .bipush 50, 2)], [(25, .invokestatic 85, 3), (28, .ifCond .ne 5, 3), (31, .iconst (-1), 1)], [(32, .ireturn, 1), (33, .iload_n 2, 1), (34, .invokestatic 298, 3), (37, .iconst 2, 1), (38, .iconst 3, 1), (39, .invokestatic 85, 3)], [(42, .ifCond .ne 5, 3), (45, .iconst (-1), 1), (46, .ireturn, 1), (47, .aload_n 0, 1)], [(48, .getfield 81, 3), (51, .iload_n 1, 1), (52, .iload_n 2, 1), (53, .iload_n 3, 1), (54, .aload_n 0, 1), (55, .getfield 89, 3)], [(58, .invokevirtual 303, 3), (61, .ireturn, 1)]]
def pgc133 : List (List (Nat × Instr × Nat)) := [[(0, .iload_n 1, 1), (1, .iconst 0, 1), (2, .aload_n 0, 1), (3, .getfield 81, 3), (6, .getfield 306, 3)], [(9, .iconst 1, 1), (10, .isub, 1), (11, .invokestatic 85, 3), (14, .ifCond .ne 5, 3)], [(17, .iconst (-1), 1), (18, .ireturn, 1), (19, .aload_n 0, 1), (20, .getfield 81, 3), (23, .getfield 309, 3)], [(26, .iload_n 1, 1), (27, .iaload, 1), (28, .ireturn, 1)]]
def pgc134 : List (List (Nat × Instr × Nat)) := [[(0, .aload_n 0, 1), (1, .getfield 81, 3), (4, .getfield 306, 3), (7, .ifCond .ne 7, 3)], [(10, .iconst (-1), 1), (11, .goto 10, 3), (14, .aload_n 0, 1), (15, .getfield 81, 3)], [(18, .getfield 312, 3), (21, .ireturn, 1)]]
def pgc135 : List (List (Nat × Instr × Nat)) := [[(0, .iload_n 1, 1), (1, .invokestatic 93, 3), (4, .ifCond .eq 34, 3), (7, .iload_n 2, 1)], [(8, .iconst 0, 1), (9, .bipush 9, 2), (11, .invokestatic 85, 3), (14, .ifCond .eq 24, 3)], [(17, .iload 4, 2), (19, .iconst 0, 1), (20, .bipush 100, 2), (22, .invokestatic 85, 3)], [(25, .ifCond .eq 13, 3), (28, .iload 5, 2), (30, .iconst 0, 1), (31, .iconst 1, 1)], [(32, .invokestatic 85, 3), (35, .ifCond .ne 6, 3), (38, .ldc 159, 2)], [(40, .ireturn, 1), (41, .iload_n 3, 1), (42, .sipush 1000, 3), (45, .idiv, 1), (46, .istore 6, 2)], [(48, .iload_n 3, 1), (49, .sipush 1000, 3), (52, .irem, 1), (53, .istore 7, 2), (55, .iload 6, 2)], [(57, .iconst 0, 1), (58, .bipush 100, 2), (60, .invokestatic 85, 3), (63, .ifCond .eq 14, 3)], [(66, .iload 7, 2), (68, .iconst 0, 1), (69, .bipush 100, 2), (71, .invokestatic 85, 3)], [(74, .ifCond .ne 6, 3), (77, .ldc 159, 2), (79, .ireturn, 1)], [(80, .aload_n 0, 1), (81, .getfield 63, 3), (84, .iload_n 1, 1), (85, .iload_n 2, 1), (86, .iload 5, 2)], [(88, .ifCond .ne 8, 3), (91, .iload 6, 2), (93, .goto 5, 3)], [(96, .iload 7, 2), (98, .iload 4, 2), (100, .aload_n 0, 1), (101, .getfield 89, 3)], [(104, .invokevirtual 315, 3), (107, .ireturn, 1)]]
def pgc136 : List (List (Nat × Instr × Nat)) := [[(0, .aload_n 0, 1), (1, .getfield 40, 3), (4, .iload_n 1, 1), (5, .invokevirtual 155, 3)], [(8, .astore_n 3, 1), (9, .aload_n 3, 1), (10, .ifnull 17, 3), (13, .iload_n 2, 1), (14, .iconst 0, 1), (15, .aload_n 3, 1)], [(16, .getfield 318, 3), (19, .iconst 1, 1), (20, .isub, 1), (21, .invokestatic 85, 3)], [(24, .ifCond .ne 5, 3), (27, .iconst (-1), 1), (28, .ireturn, 1), (29, .aload_n 0, 1), (30, .getfield 40, 3)], [(33, .aload_n 3, 1), (34, .iload_n 2, 1), (35, .aload_n 0, 1), (36, .getfield 89, 3), (39, .invokevirtual 321, 3)], [(42, .ireturn, 1)]]
def pgc137 : List (List (Nat × Instr × Nat)) := [[(0, .aload_n 0, 1), (1, .getfield 40, 3), (4, .iload_n 1, 1), (5, .putfield 324, 3)], [(8, .iconst 1, 1), (9, .ireturn, 1)]]
def pgc138 : List (List (Nat × Instr × Nat)) := [[(0, .aload_n 0, 1), (1, .getfield 19, 3), (4, .iload_n 1, 1), (5, .invokevirtual 121, 3)], [(8, .ifCond .ne 5, 3), (11, .iconst (-1), 1), (12, .ireturn, 1), (13, .aload_n 0, 1), (14, .getfield 40, 3)], [(17, .iload_n 1, 1), (18, .invokevirtual 327, 3), (21, .ireturn, 1)]]
def pgc139 : List (List (Nat × Instr × Nat)) := [[(0, .aload_n 0, 1), (1, .getfield 19, 3), (4, .iload_n 1, 1), (5, .invokevirtual 121, 3)], [(8, .ifCond .ne 5, 3), (11, .iconst (-1), 1), (12, .ireturn, 1), (13, .aload_n 0, 1), (14, .getfield 40, 3)], [(17, .iload_n 1, 1), (18, .invokevirtual 330, 3), (21, .ireturn, 1)]]
def pgc140 : List (List (Nat × Instr × Nat)) := [[(0, .aload_n 0, 1), (1, .getfield 54, 3), (4, .iload_n 1, 1), (5, .invokevirtual 333, 3)], [(8, .ifCond .eq 19, 3), (11, .aload_n 0, 1), (12, .getfield 54, 3), (15, .getfield 334, 3)], [(18, .iload_n 1, 1), (19, .iaload, 1), (20, .bipush 10, 2), (22, .irem, 1), (23, .iconst 1, 1)], [(24, .if_icmp .le 5, 3), (27, .iconst (-1), 1), (28, .ireturn, 1), (29, .aload_n 0, 1), (30, .getfield 54, 3)], [(33, .iload_n 1, 1), (34, .putfield 337, 3), (37, .lconst 0, 1), (38, .lstore_n 2, 1), (39, .iconst 0, 1)], [(40, .istore 4, 2), (42, .iload 4, 2), (44, .aload_n 0, 1), (45, .getfield 19, 3)], [(48, .getfield 340, 3), (51, .if_icmp .ge 38, 3), (54, .lload_n 2, 1), (55, .aload_n 0, 1)], [(56, .getfield 63, 3), (59, .iload 4, 2), (61, .aload_n 0, 1), (62, .getfield 54, 3)], [(65, .getfield 334, 3), (68, .iload_n 1, 1), (69, .iaload, 1), (70, .bipush 10, 2)], [(72, .idiv, 1), (73, .aload_n 0, 1), (74, .getfield 89, 3), (77, .invokevirtual 226, 3)], [(80, .i2l, 1), (81, .ladd, 1), (82, .lstore_n 2, 1), (83, .iinc 4 1, 3), (86, .goto (-44), 3)], [(89, .aload_n 0, 1), (90, .getfield 54, 3), (93, .iconst (-1), 1), (94, .putfield 337, 3)], [(97, .lload_n 2, 1), (98, .ldc2_w 341, 3), (101, .invokestatic 343, 3)], [(104, .l2i, 1), (105, .ireturn, 1)]]
def pgc141 : List (List (Nat × Instr × Nat)) := [[(0, .iload_n 1, 1), (1, .iconst 0, 1), (2, .iconst 2, 1), (3, .invokestatic 85, 3), (6, .ifCond .ne 5, 3)], [(9, .iconst (-1), 1), (10, .ireturn, 1), (11, .aload_n 0, 1), (12, .getfield 40, 3), (15, .iload_n 1, 1)], [(16, .invokevirtual 349, 3), (19, .ireturn, 1)]]
def pgc142 : List (List (Nat × Instr × Nat)) := [[(0, .aload_n 0, 1), (1, .getfield 40, 3), (4, .iload_n 1, 1), (5, .invokevirtual 155, 3)], [(8, .astore 4, 2), (10, .aload 4, 2), (12, .ifnull 12, 3), (15, .iload_n 2, 1)], [(16, .iconst 0, 1), (17, .iconst 2, 1), (18, .invokestatic 85, 3), (21, .ifCond .ne 6, 3)], [(24, .ldc 159, 2), (26, .ireturn, 1), (27, .aload_n 0, 1), (28, .getfield 40, 3), (31, .iconst 0, 1)], [(32, .putfield 352, 3), (35, .aload_n 0, 1), (36, .getfield 40, 3), (39, .aload 4, 2)], [(41, .iload_n 2, 1), (42, .aload 4, 2), (44, .getfield 160, 3), (47, .iload_n 3, 1)], [(48, .aload 4, 2), (50, .aload_n 0, 1), (51, .getfield 89, 3), (54, .invokevirtual 174, 3)], [(57, .iconst 0, 1), (58, .invokevirtual 355, 3), (61, .ireturn, 1)]]
def pgc143 : List (List (Nat × Instr × Nat)) := [[(0, .iload_n 1, 1), (1, .iconst 0, 1), (2, .aload_n 0, 1), (3, .getfield 40, 3), (6, .getfield 352, 3)], [(9, .iconst 1, 1), (10, .isub, 1), (11, .invokestatic 85, 3), (14, .ifCond .ne 5, 3)], [(17, .iconst (-1), 1), (18, .ireturn, 1), (19, .aload_n 0, 1), (20, .getfield 40, 3), (23, .getfield 359, 3)], [(26, .iload_n 1, 1), (27, .iaload, 1), (28, .ireturn, 1)]]
def pgc144 : List (List (Nat × Instr × Nat)) := [[(0, .aload_n 0, 1), (1, .getfield 40, 3), (4, .iload_n 1, 1), (5, .invokevirtual 155, 3)], [(8, .astore_n 3, 1), (9, .aload_n 3, 1), (10, .ifnull 13, 3), (13, .iload_n 2, 1), (14, .iconst 0, 1), (15, .bipush 6, 2)], [(17, .invokestatic 85, 3), (20, .ifCond .ne 5, 3), (23, .iconst (-1), 1)], [(24, .ireturn, 1), (25, .aload_n 3, 1), (26, .getfield 160, 3), (29, .iload_n 2, 1), (30, .invokestatic 362, 3)], [(33, .ifCond .eq 10, 3), (36, .aload_n 3, 1), (37, .getfield 160, 3)], [(40, .goto 5, 3), (43, .bipush (-6), 2), (45, .ireturn, 1)]]
def pgc145 : List (List (Nat × Instr × Nat)) := [[(0, .iload_n 1, 1), (1, .tableswitch 180 0 13 #[71, 79, 87, 95, 100, 108, 116, 124, 132, 140, 148, 156, 164, 172], 71)], [], [], [], [], [], [], [], [], [(72, .aload_n 0, 1), (73, .getfield 10, 3), (76, .getfield 366, 3), (79, .ireturn, 1)], [(80, .aload_n 0, 1), (81, .getfield 19, 3), (84, .getfield 340, 3), (87, .ireturn, 1)], [(88, .aload_n 0, 1), (89, .getfield 26, 3), (92, .getfield 367, 3), (95, .ireturn, 1)], [(96, .aload_n 0, 1), (97, .getfield 89, 3), (100, .ireturn, 1), (101, .aload_n 0, 1), (102, .getfield 40, 3)], [(105, .getfield 368, 3), (108, .ireturn, 1), (109, .aload_n 0, 1), (110, .getfield 26, 3)], [(113, .getfield 369, 3), (116, .ireturn, 1), (117, .aload_n 0, 1), (118, .getfield 33, 3)], [(121, .getfield 372, 3), (124, .ireturn, 1), (125, .aload_n 0, 1), (126, .getfield 54, 3)], [(129, .getfield 235, 3), (132, .ireturn, 1), (133, .aload_n 0, 1), (134, .getfield 47, 3)], [(137, .getfield 241, 3), (140, .ireturn, 1), (141, .aload_n 0, 1), (142, .getfield 72, 3)], [(145, .getfield 375, 3), (148, .ireturn, 1), (149, .aload_n 0, 1), (150, .getfield 72, 3)], [(153, .getfield 285, 3), (156, .ireturn, 1), (157, .aload_n 0, 1), (158, .getfield 40, 3)], [(161, .getfield 376, 3), (164, .ireturn, 1), (165, .aload_n 0, 1), (166, .getfield 10, 3)], [(169, .invokevirtual 379, 3), (172, .ireturn, 1), (173, .aload_n 0, 1), (174, .getfield 72, 3)], [(177, .invokevirtual 382, 3), (180, .ireturn, 1), (181, .iconst (-1), 1), (182, .ireturn, 1)]]
def pgc146 : List (List (Nat × Instr × Nat)) := [[(0, .iload_n 0, 1), (1, .iload_n 1, 1), (2, .if_icmp .lt 12, 3), (5, .iload_n 0, 1), (6, .iload_n 2, 1), (7, .if_icmp .gt 7, 3)], [(10, .iconst 1, 1), (11, .goto 4, 3), (14, .iconst 0, 1), (15, .ireturn, 1)]]
def pgc147 : List (List (Nat × Instr × Nat)) := [[(0, .iload_n 0, 1), (1, .iconst 0, 1), (2, .iconst 5, 1), (3, .invokestatic 85, 3), (6, .ireturn, 1)]]
def pgc148 : List (List (Nat × Instr × Nat)) := [[(0, .iload_n 0, 1), (1, .iconst 0, 1), (2, .sipush 3599, 3), (5, .invokestatic 85, 3)], [(8, .ireturn, 1)]]
def pgc149 : List (List (Nat × Instr × Nat)) := [[(0, .iload_n 0, 1), (1, .iconst 0, 1), (2, .bipush 59, 2), (4, .invokestatic 85, 3), (7, .ifCond .eq 15, 3)], [(10, .iload_n 0, 1), (11, .bipush 10, 2), (13, .irem, 1), (14, .iconst 4, 1), (15, .if_icmp .gt 7, 3)], [(18, .iconst 1, 1), (19, .goto 4, 3), (22, .iconst 0, 1), (23, .ireturn, 1)]]
def pgc150 : List (List (Nat × Instr × Nat)) := [[(0, .aload_n 0, 1), (1, .getfield 40, 3), (4, .getfield 148, 3), (7, .iconst 0, 1)], [(8, .iaload, 1), (9, .istore_n 2, 1), (10, .aload_n 0, 1), (11, .getfield 19, 3), (14, .iload_n 2, 1), (15, .invokevirtual 121, 3)], [(18, .ifCond .eq 24, 3), (21, .aload_n 0, 1), (22, .getfield 40, 3)], [(25, .getfield 148, 3), (28, .iconst 1, 1), (29, .iaload, 1), (30, .aload_n 0, 1), (31, .getfield 19, 3)], [(34, .getfield 220, 3), (37, .iload_n 2, 1), (38, .iaload, 1), (39, .if_icmp .lt 5, 3)], [(42, .iconst 0, 1), (43, .ireturn, 1), (44, .aload_n 0, 1), (45, .getfield 40, 3)], [(48, .getfield 148, 3), (51, .iconst 2, 1), (52, .iaload, 1), (53, .invokestatic 93, 3)], [(56, .ifCond .eq 19, 3), (59, .aload_n 0, 1), (60, .getfield 40, 3), (63, .getfield 148, 3)], [(66, .iconst 3, 1), (67, .iaload, 1), (68, .aload_n 0, 1), (69, .getfield 89, 3)], [(72, .if_icmp .le 5, 3), (75, .iconst 0, 1), (76, .ireturn, 1), (77, .aload_n 0, 1), (78, .getfield 40, 3)], [(81, .getfield 148, 3), (84, .iconst 5, 1), (85, .iaload, 1), (86, .iconst 1, 1), (87, .if_icmp .lt 18, 3)], [(90, .aload_n 0, 1), (91, .getfield 40, 3), (94, .getfield 148, 3)], [(97, .bipush 6, 2), (99, .iaload, 1), (100, .bipush 19, 2), (102, .if_icmp .le 5, 3)], [(105, .iconst 0, 1), (106, .ireturn, 1), (107, .aload_n 0, 1), (108, .getfield 40, 3), (111, .getfield 148, 3)], [(114, .iconst 4, 1), (115, .iaload, 1), (116, .istore_n 3, 1), (117, .iload_n 1, 1), (118, .iconst 2, 1), (119, .invokestatic 362, 3)], [(122, .ifCond .eq 14, 3), (125, .aload_n 0, 1), (126, .getfield 10, 3)], [(129, .iload_n 3, 1), (130, .invokevirtual 113, 3), (133, .goto 11, 3)], [(136, .aload_n 0, 1), (137, .getfield 26, 3), (140, .iload_n 3, 1), (141, .invokevirtual 127, 3)], [(144, .ireturn, 1)]]
def pgc151 : List (List (Nat × Instr × Nat)) := [[(0, .aload_n 0, 1), (1, .invokespecial 1, 3), (4, .aload_n 0, 1), (5, .iconst 1, 1), (6, .putfield 7, 3)], [(9, .aload_n 0, 1), (10, .bipush 120, 2), (12, .newarray .int, 2), (14, .putfield 13, 3)], [(17, .aload_n 0, 1), (18, .bipush 120, 2), (20, .newarray .int, 2), (22, .putfield 17, 3)], [(25, .aload_n 0, 1), (26, .bipush 6, 2), (28, .newarray .int, 2), (30, .putfield 20, 3)], [(33, .aload_n 0, 1), (34, .bipush 20, 2), (36, .newarray .int, 2), (38, .putfield 23, 3)], [(41, .aload_n 0, 1), (42, .bipush 20, 2), (44, .newarray .int, 2), (46, .putfield 26, 3)], [(49, .aload_n 0, 1), (50, .sipush 400, 3), (53, .newarray .int, 2), (55, .putfield 29, 3)], [(58, .aload_n 0, 1), (59, .bipush 20, 2), (61, .newarray .int, 2), (63, .putfield 32, 3)], [(66, .aload_n 0, 1), (67, .bipush 20, 2), (69, .newarray .int, 2), (71, .putfield 35, 3)], [(74, .aload_n 0, 1), (75, .bipush 60, 2), (77, .newarray .int, 2), (79, .putfield 38, 3)], [(82, .aload_n 0, 1), (83, .sipush 200, 3), (86, .newarray .int, 2)], [(88, .putfield 41, 3), (91, .aload_n 0, 1), (92, .sipush 200, 3), (95, .newarray .int, 2)], [(97, .putfield 44, 3), (100, .aload_n 0, 1), (101, .sipush 200, 3)], [(104, .newarray .int, 2), (106, .putfield 47, 3), (109, .aload_n 0, 1), (110, .sipush 200, 3)], [(113, .newarray .int, 2), (115, .putfield 50, 3), (118, .aload_n 0, 1), (119, .sipush 200, 3)], [(122, .newarray .int, 2), (124, .putfield 53, 3), (127, .aload_n 0, 1)], [(128, .bipush 100, 2), (130, .newarray .int, 2), (132, .putfield 56, 3), (135, .aload_n 0, 1)], [(136, .bipush 100, 2), (138, .newarray .int, 2), (140, .putfield 59, 3), (143, .aload_n 0, 1)], [(144, .bipush 100, 2), (146, .newarray .int, 2), (148, .putfield 62, 3), (151, .aload_n 0, 1)], [(152, .bipush 100, 2), (154, .newarray .int, 2), (156, .putfield 65, 3), (159, .aload_n 0, 1)], [(160, .bipush 7, 2), (162, .newarray .int, 2), (164, .putfield 68, 3), (167, .aload_n 0, 1)], [(168, .sipush 150, 3), (171, .newarray .int, 2), (173, .putfield 71, 3)], [(176, .aload_n 0, 1), (177, .sipush 1050, 3), (180, .newarray .int, 2), (182, .putfield 74, 3)], [(185, .aload_n 0, 1), (186, .sipush 150, 3), (189, .newarray .int, 2), (191, .putfield 77, 3)], [(194, .aload_n 0, 1), (195, .sipush 150, 3), (198, .newarray .int, 2)], [(200, .putfield 80, 3), (203, .aload_n 0, 1), (204, .sipush 150, 3), (207, .newarray .int, 2)], [(209, .putfield 83, 3), (212, .aload_n 0, 1), (213, .bipush 120, 2), (215, .newarray .int, 2)], [(217, .putfield 86, 3), (220, .aload_n 0, 1), (221, .bipush 120, 2), (223, .newarray .int, 2)], [(225, .putfield 89, 3), (228, .aload_n 0, 1), (229, .bipush 120, 2), (231, .newarray .int, 2)], [(233, .putfield 92, 3), (236, .aload_n 0, 1), (237, .bipush 120, 2), (239, .newarray .int, 2)], [(241, .putfield 95, 3), (244, .aload_n 0, 1), (245, .bipush 120, 2), (247, .newarray .int, 2)], [(249, .putfield 98, 3), (252, .aload_n 0, 1), (253, .sipush 160, 3)], [(256, .newarray .int, 2), (258, .putfield 101, 3), (261, .aload_n 0, 1), (262, .sipush 3200, 3)], [(265, .newarray .int, 2), (267, .putfield 104, 3), (270, .aload_n 0, 1), (271, .bipush 20, 2)], [(273, .newarray .int, 2), (275, .putfield 107, 3), (278, .aload_n 0, 1), (279, .bipush 20, 2)], [(281, .newarray .int, 2), (283, .putfield 110, 3), (286, .aload_n 0, 1), (287, .bipush 20, 2)], [(289, .newarray .int, 2), (291, .putfield 113, 3), (294, .aload_n 0, 1), (295, .bipush 20, 2)], [(297, .newarray .int, 2), (299, .putfield 116, 3), (302, .aload_n 0, 1), (303, .bipush 60, 2)], [(305, .newarray .int, 2), (307, .putfield 119, 3), (310, .aload_n 0, 1), (311, .bipush 60, 2)], [(313, .newarray .int, 2), (315, .putfield 122, 3), (318, .aload_n 0, 1), (319, .bipush 60, 2)], [(321, .newarray .int, 2), (323, .putfield 125, 3), (326, .aload_n 0, 1), (327, .bipush 60, 2)], [(329, .newarray .int, 2), (331, .putfield 128, 3), (334, .aload_n 0, 1), (335, .bipush 60, 2)], [(337, .newarray .int, 2), (339, .putfield 131, 3), (342, .aload_n 0, 1), (343, .bipush 60, 2)], [(345, .newarray .boolean, 2), (347, .putfield 134, 3), (350, .aload_n 0, 1), (351, .bipush 60, 2)], [(353, .newarray .int, 2), (355, .putfield 138, 3), (358, .aload_n 0, 1), (359, .bipush 60, 2)], [(361, .newarray .int, 2), (363, .putfield 141, 3), (366, .aload_n 0, 1), (367, .bipush 60, 2)], [(369, .newarray .int, 2), (371, .putfield 144, 3), (374, .aload_n 0, 1), (375, .bipush 60, 2)], [(377, .newarray .int, 2), (379, .putfield 147, 3), (382, .aload_n 0, 1), (383, .sipush 360, 3)], [(386, .newarray .int, 2), (388, .putfield 150, 3), (391, .aload_n 0, 1)], [(392, .bipush 120, 2), (394, .newarray .int, 2), (396, .putfield 153, 3), (399, .aload_n 0, 1)], [(400, .bipush 10, 2), (402, .newarray .int, 2), (404, .putfield 156, 3), (407, .aload_n 0, 1)], [(408, .iconst (-1), 1), (409, .putfield 159, 3), (412, .aload_n 0, 1), (413, .iconst (-1), 1), (414, .putfield 162, 3)], [(417, .aload_n 0, 1), (418, .bipush 60, 2), (420, .newarray .int, 2), (422, .putfield 165, 3)], [(425, .aload_n 0, 1), (426, .bipush 60, 2), (428, .newarray .int, 2), (430, .putfield 168, 3)], [(433, .aload_n 0, 1), (434, .bipush 60, 2), (436, .newarray .int, 2), (438, .putfield 171, 3)], [(441, .aload_n 0, 1), (442, .bipush 60, 2), (444, .newarray .long, 2), (446, .putfield 174, 3)], [(449, .aload_n 0, 1), (450, .bipush 9, 2), (452, .newarray .int, 2), (454, .putfield 178, 3)], [(457, .aload_n 0, 1), (458, .bipush 9, 2), (460, .newarray .int, 2), (462, .putfield 181, 3)], [(465, .aload_n 0, 1), (466, .bipush 9, 2), (468, .newarray .int, 2), (470, .putfield 184, 3)], [(473, .aload_n 0, 1), (474, .bipush 9, 2), (476, .newarray .int, 2), (478, .putfield 187, 3)], [(481, .aload_n 0, 1), (482, .iconst (-1), 1), (483, .putfield 190, 3), (486, .aload_n 0, 1), (487, .bipush 6, 2)], [(489, .newarray .int, 2), (491, .putfield 193, 3), (494, .aload_n 0, 1), (495, .bipush 6, 2)], [(497, .newarray .int, 2), (499, .putfield 196, 3), (502, .aload_n 0, 1), (503, .bipush 24, 2)], [(505, .newarray .int, 2), (507, .putfield 199, 3), (510, .iconst 0, 1), (511, .istore_n 1, 1)], [(512, .iload_n 1, 1), (513, .bipush 60, 2), (515, .if_icmp .ge 17, 3), (518, .aload_n 0, 1), (519, .getfield 119, 3)], [(522, .iload_n 1, 1), (523, .ldc 202, 2), (525, .iastore, 1), (526, .iinc 1 1, 3)], [(529, .goto (-17), 3), (532, .return_, 1)]]
def pgc152 : List (List (Nat × Instr × Nat)) := [[(0, .iload_n 0, 1), (1, .iload_n 1, 1), (2, .if_icmp .lt 12, 3), (5, .iload_n 0, 1), (6, .iload_n 2, 1), (7, .if_icmp .gt 7, 3)], [(10, .iconst 1, 1), (11, .goto 4, 3), (14, .iconst 0, 1), (15, .ireturn, 1)]]
def pgc153 : List (List (Nat × Instr × Nat)) := [[(0, .iload_n 0, 1), (1, .iconst 0, 1), (2, .sipush 3599, 3), (5, .invokestatic 203, 3)], [(8, .ireturn, 1)]]
def pgc154 : List (List (Nat × Instr × Nat)) := [[(0, .iload_n 0, 1), (1, .iconst 0, 1), (2, .iconst 5, 1), (3, .invokestatic 203, 3), (6, .ireturn, 1)]]
def pgc155 : List (List (Nat × Instr × Nat)) := [[(0, .iload_n 0, 1), (1, .iconst 0, 1), (2, .bipush 9, 2), (4, .invokestatic 203, 3), (7, .ireturn, 1)]]
def pgc156 : List (List (Nat × Instr × Nat)) := [[(0, .iload_n 1, 1), (1, .ifCond .lt 15, 3), (4, .iload_n 1, 1), (5, .aload_n 0, 1), (6, .getfield 207, 3)], [(9, .if_icmp .ge 7, 3), (12, .iconst 1, 1), (13, .goto 4, 3)], [(16, .iconst 0, 1), (17, .ireturn, 1)]]
def pgc157 : List (List (Nat × Instr × Nat)) := [[(0, .iload_n 1, 1), (1, .ifCond .lt 15, 3), (4, .iload_n 1, 1), (5, .aload_n 0, 1), (6, .getfield 210, 3)], [(9, .if_icmp .ge 7, 3), (12, .iconst 1, 1), (13, .goto 4, 3)], [(16, .iconst 0, 1), (17, .ireturn, 1)]]
def pgc158 : List (List (Nat × Instr × Nat)) := [[(0, .iload_n 1, 1), (1, .ifCond .lt 15, 3), (4, .iload_n 1, 1), (5, .aload_n 0, 1), (6, .getfield 213, 3)], [(9, .if_icmp .ge 7, 3), (12, .iconst 1, 1), (13, .goto 4, 3)], [(16, .iconst 0, 1), (17, .ireturn, 1)]]
def pgc159 : List (List (Nat × Instr × Nat)) := [[(0, .iload_n 1, 1), (1, .ifCond .lt 15, 3), (4, .iload_n 1, 1), (5, .aload_n 0, 1), (6, .getfield 216, 3)], [(9, .if_icmp .ge 7, 3), (12, .iconst 1, 1), (13, .goto 4, 3)], [(16, .iconst 0, 1), (17, .ireturn, 1)]]
def pgc160 : List (List (Nat × Instr × Nat)) := [[(0, .iload_n 1, 1), (1, .iconst 1, 1), (2, .sipush 360, 3), (5, .invokestatic 203, 3)], [(8, .ifCond .eq 15, 3), (11, .aload_n 0, 1), (12, .getfield 219, 3), (15, .iload_n 1, 1)], [(16, .iadd, 1), (17, .sipush 3599, 3), (20, .if_icmp .le 5, 3), (23, .iconst (-1), 1)], [(24, .ireturn, 1), (25, .aload_n 0, 1), (26, .dup, 1), (27, .getfield 219, 3), (30, .iload_n 1, 1), (31, .iadd, 1)], [(32, .putfield 219, 3), (35, .aload_n 0, 1), (36, .getfield 219, 3), (39, .ireturn, 1)]]
def pgc161 : List (List (Nat × Instr × Nat)) := [[(0, .iload_n 1, 1), (1, .invokestatic 222, 3), (4, .ifCond .eq 20, 3), (7, .iload_n 2, 1)], [(8, .invokestatic 226, 3), (11, .ifCond .eq 13, 3), (14, .iload_n 3, 1), (15, .iconst 1, 1)], [(16, .ldc 229, 2), (18, .invokestatic 203, 3), (21, .ifCond .ne 5, 3)], [(24, .iconst (-1), 1), (25, .ireturn, 1), (26, .aload_n 0, 1), (27, .getfield 20, 3), (30, .iload_n 1, 1), (31, .iaload, 1)], [(32, .bipush 20, 2), (34, .if_icmp .ne 6, 3), (37, .bipush (-2), 2), (39, .ireturn, 1)], [(40, .aload_n 0, 1), (41, .getfield 13, 3), (44, .bipush 20, 2), (46, .iload_n 1, 1), (47, .imul, 1)], [(48, .aload_n 0, 1), (49, .getfield 20, 3), (52, .iload_n 1, 1), (53, .iaload, 1), (54, .iadd, 1), (55, .iload_n 2, 1)], [(56, .iastore, 1), (57, .aload_n 0, 1), (58, .getfield 17, 3), (61, .bipush 20, 2), (63, .iload_n 1, 1)], [(64, .imul, 1), (65, .aload_n 0, 1), (66, .getfield 20, 3), (69, .iload_n 1, 1), (70, .iaload, 1), (71, .iadd, 1)], [(72, .iload_n 3, 1), (73, .iastore, 1), (74, .aload_n 0, 1), (75, .getfield 20, 3), (78, .iload_n 1, 1), (79, .dup2, 1)], [(80, .iaload, 1), (81, .iconst 1, 1), (82, .iadd, 1), (83, .iastore, 1), (84, .aload_n 0, 1), (85, .getfield 20, 3)], [(88, .iload_n 1, 1), (89, .iaload, 1), (90, .ireturn, 1)]]
def pgc162 : List (List (Nat × Instr × Nat)) := [[(0, .iconst (-1), 1), (1, .istore_n 3, 1), (2, .bipush 20, 2), (4, .iload_n 1, 1), (5, .imul, 1), (6, .istore 4, 2)], [(8, .iload 4, 2), (10, .bipush 20, 2), (12, .iload_n 1, 1), (13, .imul, 1), (14, .aload_n 0, 1), (15, .getfield 20, 3)], [(18, .iload_n 1, 1), (19, .iaload, 1), (20, .iadd, 1), (21, .if_icmp .ge 47, 3)], [(24, .aload_n 0, 1), (25, .getfield 13, 3), (28, .iload 4, 2), (30, .iaload, 1), (31, .iload_n 2, 1)], [(32, .if_icmp .gt 28, 3), (35, .iload_n 3, 1), (36, .ifCond .lt 19, 3), (39, .aload_n 0, 1)], [(40, .getfield 13, 3), (43, .iload 4, 2), (45, .iaload, 1), (46, .aload_n 0, 1), (47, .getfield 13, 3)], [(50, .iload_n 3, 1), (51, .iaload, 1), (52, .if_icmp .lt 8, 3), (55, .iload 4, 2)], [(57, .goto 4, 3), (60, .iload_n 3, 1), (61, .istore_n 3, 1), (62, .iinc 4 1, 3)], [(65, .goto (-57), 3), (68, .iload_n 3, 1), (69, .ifCond .ge 9, 3)], [(72, .sipush 1000, 3), (75, .goto 9, 3), (78, .aload_n 0, 1), (79, .getfield 17, 3)], [(82, .iload_n 3, 1), (83, .iaload, 1), (84, .ireturn, 1)]]
def pgc163 : List (List (Nat × Instr × Nat)) := [[(0, .iload_n 1, 1), (1, .invokestatic 222, 3), (4, .ifCond .eq 19, 3), (7, .iload_n 2, 1)], [(8, .invokestatic 226, 3), (11, .ifCond .eq 12, 3), (14, .aload_n 0, 1), (15, .iload_n 1, 1)], [(16, .iload_n 2, 1), (17, .invokevirtual 230, 3), (20, .goto 4, 3), (23, .iconst (-1), 1)], [(24, .ireturn, 1)]]
def pgc164 : List (List (Nat × Instr × Nat)) := [[(0, .iload_n 1, 1), (1, .invokestatic 222, 3), (4, .ifCond .ne 5, 3), (7, .iconst (-1), 1)], [(8, .ireturn, 1), (9, .aload_n 0, 1), (10, .getfield 207, 3), (13, .bipush 20, 2), (15, .if_icmp .ne 6, 3)], [(18, .bipush (-2), 2), (20, .ireturn, 1), (21, .aload_n 0, 1), (22, .getfield 23, 3)], [(25, .aload_n 0, 1), (26, .getfield 207, 3), (29, .iload_n 1, 1), (30, .iastore, 1), (31, .aload_n 0, 1)], [(32, .dup, 1), (33, .getfield 207, 3), (36, .iconst 1, 1), (37, .iadd, 1), (38, .putfield 207, 3)], [(41, .aload_n 0, 1), (42, .getfield 207, 3), (45, .iconst 1, 1), (46, .isub, 1), (47, .ireturn, 1)]]
def pgc165 : List (List (Nat × Instr × Nat)) := [[(0, .aload_n 0, 1), (1, .iload_n 1, 1), (2, .invokevirtual 234, 3), (5, .ifCond .eq 16, 3)], [(8, .aload_n 0, 1), (9, .iload_n 2, 1), (10, .invokevirtual 234, 3), (13, .ifCond .eq 8, 3)], [(16, .iload_n 1, 1), (17, .iload_n 2, 1), (18, .if_icmp .ne 5, 3), (21, .iconst (-1), 1), (22, .ireturn, 1), (23, .aload_n 0, 1)], [(24, .getfield 29, 3), (27, .bipush 20, 2), (29, .iload_n 1, 1), (30, .imul, 1), (31, .iload_n 2, 1)], [(32, .iadd, 1), (33, .iaload, 1), (34, .ifCond .le 6, 3), (37, .bipush (-3), 2), (39, .ireturn, 1)], [(40, .aload_n 0, 1), (41, .getfield 29, 3), (44, .bipush 20, 2), (46, .iload_n 1, 1), (47, .imul, 1)], [(48, .iload_n 2, 1), (49, .iadd, 1), (50, .aload_n 0, 1), (51, .getfield 219, 3), (54, .iconst 1, 1), (55, .iadd, 1)], [(56, .iastore, 1), (57, .aload_n 0, 1), (58, .getfield 29, 3), (61, .bipush 20, 2), (63, .iload_n 2, 1)], [(64, .imul, 1), (65, .iload_n 1, 1), (66, .iadd, 1), (67, .aload_n 0, 1), (68, .getfield 219, 3), (71, .iconst 1, 1)], [(72, .iadd, 1), (73, .iastore, 1), (74, .iconst 1, 1), (75, .ireturn, 1)]]
def pgc166 : List (List (Nat × Instr × Nat)) := [[(0, .aload_n 0, 1), (1, .getfield 29, 3), (4, .bipush 20, 2), (6, .iload_n 1, 1), (7, .imul, 1)], [(8, .iload_n 2, 1), (9, .iadd, 1), (10, .iaload, 1), (11, .iconst 1, 1), (12, .iload_n 3, 1), (13, .iconst 1, 1), (14, .iadd, 1), (15, .invokestatic 203, 3)], [(18, .ireturn, 1)]]
def pgc167 : List (List (Nat × Instr × Nat)) := [[(0, .aload_n 0, 1), (1, .iload_n 1, 1), (2, .invokevirtual 234, 3), (5, .ifCond .eq 13, 3)], [(8, .iload_n 2, 1), (9, .iconst 1, 1), (10, .bipush 9, 2), (12, .invokestatic 203, 3), (15, .ifCond .ne 5, 3)], [(18, .iconst (-1), 1), (19, .ireturn, 1), (20, .aload_n 0, 1), (21, .getfield 210, 3)], [(24, .bipush 20, 2), (26, .if_icmp .ne 6, 3), (29, .bipush (-2), 2), (31, .ireturn, 1)], [(32, .aload_n 0, 1), (33, .getfield 32, 3), (36, .aload_n 0, 1), (37, .getfield 210, 3)], [(40, .iload_n 1, 1), (41, .iastore, 1), (42, .aload_n 0, 1), (43, .getfield 35, 3), (46, .aload_n 0, 1), (47, .getfield 210, 3)], [(50, .iload_n 2, 1), (51, .iastore, 1), (52, .aload_n 0, 1), (53, .dup, 1), (54, .getfield 210, 3)], [(57, .iconst 1, 1), (58, .iadd, 1), (59, .putfield 210, 3), (62, .aload_n 0, 1), (63, .getfield 210, 3)], [(66, .iconst 1, 1), (67, .isub, 1), (68, .ireturn, 1)]]
def pgc168 : List (List (Nat × Instr × Nat)) := [[(0, .aload_n 0, 1), (1, .iload_n 1, 1), (2, .invokevirtual 237, 3), (5, .ifCond .eq 21, 3)], [(8, .aload_n 0, 1), (9, .iload_n 2, 1), (10, .invokevirtual 234, 3), (13, .ifCond .eq 13, 3)], [(16, .aload_n 0, 1), (17, .getfield 32, 3), (20, .iload_n 1, 1), (21, .iaload, 1), (22, .iload_n 2, 1), (23, .if_icmp .ne 5, 3)], [(26, .iconst (-1), 1), (27, .ireturn, 1), (28, .aload_n 0, 1), (29, .getfield 32, 3)], [(32, .iload_n 1, 1), (33, .iaload, 1), (34, .istore_n 3, 1), (35, .aload_n 0, 1), (36, .getfield 32, 3), (39, .iload_n 1, 1)], [(40, .iload_n 2, 1), (41, .iastore, 1), (42, .iload_n 3, 1), (43, .ireturn, 1)]]
def pgc169 : List (List (Nat × Instr × Nat)) := [[(0, .iload_n 1, 1), (1, .invokestatic 222, 3), (4, .ifCond .ne 5, 3), (7, .iconst (-1), 1)], [(8, .ireturn, 1), (9, .aload_n 0, 1), (10, .getfield 213, 3), (13, .bipush 60, 2), (15, .if_icmp .ne 6, 3)], [(18, .bipush (-2), 2), (20, .ireturn, 1), (21, .aload_n 0, 1), (22, .getfield 38, 3)], [(25, .aload_n 0, 1), (26, .getfield 213, 3), (29, .iload_n 1, 1), (30, .iastore, 1), (31, .aload_n 0, 1)], [(32, .dup, 1), (33, .getfield 213, 3), (36, .iconst 1, 1), (37, .iadd, 1), (38, .putfield 213, 3)], [(41, .aload_n 0, 1), (42, .getfield 213, 3), (45, .iconst 1, 1), (46, .isub, 1), (47, .ireturn, 1)]]
def pgc170 : List (List (Nat × Instr × Nat)) := [[(0, .aload_n 0, 1), (1, .iload_n 1, 1), (2, .invokevirtual 240, 3), (5, .ifCond .eq 31, 3)], [(8, .iload_n 2, 1), (9, .invokestatic 222, 3), (12, .ifCond .eq 24, 3), (15, .iload_n 3, 1)], [(16, .invokestatic 226, 3), (19, .ifCond .eq 17, 3), (22, .iload 4, 2)], [(24, .invokestatic 226, 3), (27, .ifCond .eq 9, 3), (30, .iload_n 3, 1), (31, .iload 4, 2)], [(33, .if_icmp .le 5, 3), (36, .iconst (-1), 1), (37, .ireturn, 1), (38, .aload_n 0, 1), (39, .getfield 243, 3)], [(42, .sipush 200, 3), (45, .if_icmp .ne 6, 3)], [(48, .bipush (-2), 2), (50, .ireturn, 1), (51, .aload_n 0, 1), (52, .getfield 41, 3), (55, .aload_n 0, 1)], [(56, .getfield 243, 3), (59, .iload_n 1, 1), (60, .iastore, 1), (61, .aload_n 0, 1), (62, .getfield 44, 3)], [(65, .aload_n 0, 1), (66, .getfield 243, 3), (69, .iload_n 2, 1), (70, .iastore, 1), (71, .aload_n 0, 1)], [(72, .getfield 47, 3), (75, .aload_n 0, 1), (76, .getfield 243, 3), (79, .iload_n 3, 1)], [(80, .iastore, 1), (81, .aload_n 0, 1), (82, .getfield 50, 3), (85, .aload_n 0, 1), (86, .getfield 243, 3)], [(89, .iload 4, 2), (91, .iastore, 1), (92, .aload_n 0, 1), (93, .getfield 53, 3)], [(96, .aload_n 0, 1), (97, .getfield 243, 3), (100, .aload_n 0, 1), (101, .getfield 219, 3)], [(104, .iastore, 1), (105, .aload_n 0, 1), (106, .dup, 1), (107, .getfield 243, 3), (110, .iconst 1, 1), (111, .iadd, 1)], [(112, .putfield 243, 3), (115, .aload_n 0, 1), (116, .getfield 243, 3), (119, .ireturn, 1)]]
def pgc171 : List (List (Nat × Instr × Nat)) := [[(0, .iload_n 3, 1), (1, .sipush 360, 3), (4, .isub, 1), (5, .iconst 1, 1), (6, .iadd, 1), (7, .istore 5, 2)], [(9, .iconst 0, 1), (10, .istore 6, 2), (12, .iload 6, 2), (14, .sipush 360, 3)], [(17, .if_icmp .ge 22, 3), (20, .aload_n 0, 1), (21, .getfield 150, 3)], [(24, .iload 6, 2), (26, .aload_n 0, 1), (27, .getfield 38, 3), (30, .iload_n 1, 1), (31, .iaload, 1)], [(32, .iastore, 1), (33, .iinc 6 1, 3), (36, .goto (-24), 3), (39, .iconst 0, 1)], [(40, .istore 6, 2), (42, .iload 6, 2), (44, .aload_n 0, 1), (45, .getfield 243, 3)], [(48, .if_icmp .ge 116, 3), (51, .aload_n 0, 1), (52, .getfield 41, 3), (55, .iload 6, 2)], [(57, .iaload, 1), (58, .iload_n 1, 1), (59, .if_icmp .ne 99, 3), (62, .aload_n 0, 1), (63, .getfield 53, 3)], [(66, .iload 6, 2), (68, .iaload, 1), (69, .iload 4, 2), (71, .if_icmp .gt 87, 3)], [(74, .aload_n 0, 1), (75, .getfield 47, 3), (78, .iload 6, 2)], [(80, .iaload, 1), (81, .iload 5, 2), (83, .if_icmp .le 13, 3), (86, .aload_n 0, 1), (87, .getfield 47, 3)], [(90, .iload 6, 2), (92, .iaload, 1), (93, .goto 5, 3)], [(96, .iload 5, 2), (98, .istore 7, 2), (100, .aload_n 0, 1), (101, .getfield 50, 3)], [(104, .iload 6, 2), (106, .iaload, 1), (107, .iload_n 3, 1), (108, .if_icmp .ge 13, 3), (111, .aload_n 0, 1)], [(112, .getfield 50, 3), (115, .iload 6, 2), (117, .iaload, 1), (118, .goto 4, 3)], [(121, .iload_n 3, 1), (122, .istore 8, 2), (124, .iload 7, 2), (126, .istore 9, 2)], [(128, .iload 9, 2), (130, .iload 8, 2), (132, .if_icmp .gt 26, 3), (135, .aload_n 0, 1)], [(136, .getfield 150, 3), (139, .iload 9, 2), (141, .iload 5, 2), (143, .isub, 1)], [(144, .aload_n 0, 1), (145, .getfield 44, 3), (148, .iload 6, 2), (150, .iaload, 1), (151, .iastore, 1)], [(152, .iinc 9 1, 3), (155, .goto (-27), 3), (158, .iinc 6 1, 3)], [(161, .goto (-119), 3), (164, .iconst 0, 1), (165, .istore 6, 2), (167, .iconst 0, 1)], [(168, .istore 7, 2), (170, .iload 7, 2), (172, .sipush 360, 3), (175, .if_icmp .ge 30, 3)], [(178, .iload 6, 2), (180, .aload_n 0, 1), (181, .getfield 150, 3)], [(184, .iload 7, 2), (186, .iaload, 1), (187, .iload_n 2, 1), (188, .if_icmp .ne 7, 3), (191, .iconst 1, 1)], [(192, .goto 4, 3), (195, .iconst 0, 1), (196, .iadd, 1), (197, .istore 6, 2), (199, .iinc 7 1, 3)], [(202, .goto (-32), 3), (205, .iload 6, 2), (207, .sipush 183, 3)], [(210, .if_icmp .lt 7, 3), (213, .iconst 1, 1), (214, .goto 4, 3)], [(217, .iconst 0, 1), (218, .ireturn, 1)]]
def pgc172 : List (List (Nat × Instr × Nat)) := [[(0, .aload_n 0, 1), (1, .iload_n 1, 1), (2, .invokevirtual 240, 3), (5, .ifCond .eq 25, 3)], [(8, .iload_n 2, 1), (9, .invokestatic 222, 3), (12, .ifCond .eq 18, 3), (15, .iload_n 3, 1)], [(16, .invokestatic 226, 3), (19, .ifCond .eq 11, 3), (22, .iload 4, 2)], [(24, .invokestatic 226, 3), (27, .ifCond .ne 5, 3), (30, .iconst (-1), 1), (31, .ireturn, 1)], [(32, .aload_n 0, 1), (33, .iload_n 1, 1), (34, .iload_n 2, 1), (35, .iload_n 3, 1), (36, .iload 4, 2), (38, .invokevirtual 246, 3)], [(41, .ifCond .eq 7, 3), (44, .iconst 1, 1), (45, .goto 4, 3)], [(48, .iconst 0, 1), (49, .ireturn, 1)]]
def pgc173 : List (List (Nat × Instr × Nat)) := [[(0, .aload_n 0, 1), (1, .iload_n 1, 1), (2, .invokevirtual 237, 3), (5, .ifCond .eq 20, 3)], [(8, .iload_n 2, 1), (9, .invokestatic 222, 3), (12, .ifCond .eq 13, 3), (15, .iload_n 3, 1)], [(16, .iconst 1, 1), (17, .bipush 20, 2), (19, .invokestatic 203, 3), (22, .ifCond .ne 5, 3)], [(25, .iconst (-1), 1), (26, .ireturn, 1), (27, .aload_n 0, 1), (28, .getfield 250, 3), (31, .bipush 100, 2)], [(33, .if_icmp .ne 6, 3), (36, .bipush (-2), 2), (38, .ireturn, 1), (39, .aload_n 0, 1)], [(40, .getfield 56, 3), (43, .aload_n 0, 1), (44, .getfield 250, 3), (47, .iload_n 1, 1)], [(48, .iastore, 1), (49, .aload_n 0, 1), (50, .getfield 59, 3), (53, .aload_n 0, 1), (54, .getfield 250, 3)], [(57, .iload_n 2, 1), (58, .iastore, 1), (59, .aload_n 0, 1), (60, .getfield 62, 3), (63, .aload_n 0, 1)], [(64, .getfield 250, 3), (67, .iload_n 3, 1), (68, .iastore, 1), (69, .aload_n 0, 1), (70, .getfield 65, 3)], [(73, .aload_n 0, 1), (74, .getfield 250, 3), (77, .iconst (-1), 1), (78, .iastore, 1), (79, .aload_n 0, 1)], [(80, .dup, 1), (81, .getfield 250, 3), (84, .iconst 1, 1), (85, .iadd, 1), (86, .putfield 250, 3)], [(89, .aload_n 0, 1), (90, .getfield 250, 3), (93, .iconst 1, 1), (94, .isub, 1), (95, .ireturn, 1)]]
def pgc174 : List (List (Nat × Instr × Nat)) := [[(0, .iload_n 1, 1), (1, .ifCond .lt 11, 3), (4, .iload_n 1, 1), (5, .aload_n 0, 1), (6, .getfield 250, 3)], [(9, .if_icmp .lt 5, 3), (12, .iconst (-1), 1), (13, .ireturn, 1), (14, .aload_n 0, 1), (15, .getfield 65, 3)], [(18, .iload_n 1, 1), (19, .iaload, 1), (20, .ifCond .lt 6, 3), (23, .bipush (-3), 2)], [(25, .ireturn, 1), (26, .aload_n 0, 1), (27, .getfield 65, 3), (30, .iload_n 1, 1), (31, .aload_n 0, 1)], [(32, .getfield 219, 3), (35, .iastore, 1), (36, .iconst 1, 1), (37, .ireturn, 1)]]
def pgc175 : List (List (Nat × Instr × Nat)) := [[(0, .iconst 0, 1), (1, .istore 4, 2), (3, .iconst 0, 1), (4, .istore 5, 2), (6, .iload 5, 2)], [(8, .aload_n 0, 1), (9, .getfield 250, 3), (12, .if_icmp .ge 62, 3), (15, .iload 4, 2)], [(17, .aload_n 0, 1), (18, .getfield 56, 3), (21, .iload 5, 2), (23, .iaload, 1)], [(24, .iload_n 1, 1), (25, .if_icmp .ne 39, 3), (28, .aload_n 0, 1), (29, .getfield 59, 3)], [(32, .iload 5, 2), (34, .iaload, 1), (35, .iload_n 2, 1), (36, .if_icmp .ne 28, 3), (39, .aload_n 0, 1)], [(40, .getfield 65, 3), (43, .iload 5, 2), (45, .iaload, 1), (46, .iconst 0, 1), (47, .iload_n 3, 1)], [(48, .invokestatic 203, 3), (51, .ifCond .eq 13, 3), (54, .aload_n 0, 1), (55, .getfield 62, 3)], [(58, .iload 5, 2), (60, .iaload, 1), (61, .goto 4, 3)], [(64, .iconst 0, 1), (65, .iadd, 1), (66, .istore 4, 2), (68, .iinc 5 1, 3), (71, .goto (-65), 3)], [(74, .iload 4, 2), (76, .ireturn, 1)]]
def pgc176 : List (List (Nat × Instr × Nat)) := [[(0, .aload_n 0, 1), (1, .iload_n 1, 1), (2, .invokevirtual 237, 3), (5, .ifCond .eq 27, 3)], [(8, .iload_n 2, 1), (9, .invokestatic 222, 3), (12, .ifCond .eq 20, 3), (15, .iload_n 3, 1)], [(16, .invokestatic 226, 3), (19, .ifCond .eq 13, 3), (22, .aload_n 0, 1), (23, .iload_n 1, 1)], [(24, .iload_n 2, 1), (25, .iload_n 3, 1), (26, .invokevirtual 253, 3), (29, .goto 4, 3)], [(32, .iconst (-1), 1), (33, .ireturn, 1)]]
def pgc177 : List (List (Nat × Instr × Nat)) := [[(0, .iload_n 1, 1), (1, .iconst 0, 1), (2, .bipush 6, 2), (4, .invokestatic 203, 3), (7, .ifCond .eq 13, 3)], [(10, .iload_n 2, 1), (11, .iconst 0, 1), (12, .ldc 229, 2), (14, .invokestatic 203, 3)], [(17, .ifCond .ne 5, 3), (20, .iconst (-1), 1), (21, .ireturn, 1), (22, .aload_n 0, 1), (23, .getfield 68, 3)], [(26, .iload_n 1, 1), (27, .iaload, 1), (28, .istore_n 3, 1), (29, .aload_n 0, 1), (30, .getfield 68, 3)], [(33, .iload_n 1, 1), (34, .iload_n 2, 1), (35, .iastore, 1), (36, .iload_n 3, 1), (37, .ireturn, 1)]]
def pgc178 : List (List (Nat × Instr × Nat)) := [[(0, .iload_n 0, 1), (1, .iconst 2, 1), (2, .if_icmp .eq 13, 3), (5, .iload_n 0, 1), (6, .iconst 3, 1), (7, .if_icmp .eq 8, 3)], [(10, .iload_n 0, 1), (11, .iconst 5, 1), (12, .if_icmp .ne 7, 3), (15, .iconst 1, 1)], [(16, .goto 4, 3), (19, .iconst 0, 1), (20, .ireturn, 1)]]
def pgc179 : List (List (Nat × Instr × Nat)) := [[(0, .iload_n 1, 1), (1, .iconst 1, 1), (2, .bipush 6, 2), (4, .invokestatic 203, 3), (7, .ifCond .eq 92, 3)], [(10, .iload_n 2, 1), (11, .iconst 1, 1), (12, .ldc 229, 2), (14, .invokestatic 203, 3)], [(17, .ifCond .eq 82, 3), (20, .aload_n 0, 1), (21, .aload_n 0, 1), (22, .getfield 68, 3)], [(25, .iconst 0, 1), (26, .iaload, 1), (27, .invokevirtual 237, 3), (30, .ifCond .eq 69, 3)], [(33, .aload_n 0, 1), (34, .getfield 68, 3), (37, .iconst 1, 1), (38, .iaload, 1), (39, .aload_n 0, 1)], [(40, .getfield 35, 3), (43, .aload_n 0, 1), (44, .aload_n 0, 1), (45, .getfield 68, 3)], [(48, .iconst 0, 1), (49, .iaload, 1), (50, .invokevirtual 237, 3), (53, .ifCond .eq 12, 3)], [(56, .aload_n 0, 1), (57, .getfield 68, 3), (60, .iconst 0, 1), (61, .iaload, 1), (62, .goto 4, 3)], [(65, .iconst 0, 1), (66, .iaload, 1), (67, .if_icmp .ge 32, 3), (70, .aload_n 0, 1), (71, .getfield 68, 3)], [(74, .iconst 2, 1), (75, .iaload, 1), (76, .invokestatic 222, 3), (79, .ifCond .eq 20, 3)], [(82, .aload_n 0, 1), (83, .getfield 68, 3), (86, .iconst 3, 1), (87, .iaload, 1)], [(88, .aload_n 0, 1), (89, .getfield 219, 3), (92, .if_icmp .gt 7, 3), (95, .iconst 1, 1)], [(96, .goto 4, 3), (99, .iconst 0, 1), (100, .istore_n 3, 1), (101, .iload_n 3, 1), (102, .ifCond .eq 61, 3)], [(105, .iload_n 1, 1), (106, .invokestatic 257, 3), (109, .ifCond .eq 19, 3)], [(112, .aload_n 0, 1), (113, .aload_n 0, 1), (114, .getfield 68, 3), (117, .iconst 4, 1), (118, .iaload, 1), (119, .invokevirtual 234, 3)], [(122, .ifCond .eq 41, 3), (125, .goto 16, 3)], [(128, .aload_n 0, 1), (129, .aload_n 0, 1), (130, .getfield 68, 3), (133, .iconst 4, 1), (134, .iaload, 1), (135, .invokevirtual 240, 3)], [(138, .ifCond .eq 25, 3), (141, .aload_n 0, 1), (142, .getfield 68, 3)], [(145, .iconst 5, 1), (146, .iaload, 1), (147, .iconst 1, 1), (148, .if_icmp .lt 15, 3), (151, .aload_n 0, 1)], [(152, .getfield 68, 3), (155, .bipush 6, 2), (157, .iaload, 1), (158, .bipush 19, 2)], [(160, .if_icmp .le 5, 3), (163, .iconst (-1), 1), (164, .ireturn, 1), (165, .aload_n 0, 1), (166, .getfield 216, 3)], [(169, .sipush 150, 3), (172, .if_icmp .ne 6, 3), (175, .bipush (-2), 2)], [(177, .ireturn, 1), (178, .aload_n 0, 1), (179, .getfield 71, 3), (182, .aload_n 0, 1), (183, .getfield 216, 3)], [(186, .iload_n 1, 1), (187, .iastore, 1), (188, .iconst 0, 1), (189, .istore 4, 2), (191, .iload 4, 2)], [(193, .bipush 7, 2), (195, .if_icmp .ge 31, 3), (198, .aload_n 0, 1), (199, .getfield 74, 3)], [(202, .bipush 7, 2), (204, .aload_n 0, 1), (205, .getfield 216, 3)], [(208, .imul, 1), (209, .iload 4, 2), (211, .iadd, 1), (212, .aload_n 0, 1), (213, .getfield 68, 3)], [(216, .iload 4, 2), (218, .iaload, 1), (219, .iastore, 1), (220, .iinc 4 1, 3), (223, .goto (-32), 3)], [(226, .aload_n 0, 1), (227, .getfield 77, 3), (230, .aload_n 0, 1), (231, .getfield 216, 3)], [(234, .iload_n 2, 1), (235, .iastore, 1), (236, .aload_n 0, 1), (237, .getfield 83, 3)], [(240, .aload_n 0, 1), (241, .getfield 216, 3), (244, .iconst (-1), 1), (245, .iastore, 1), (246, .aload_n 0, 1), (247, .dup, 1)], [(248, .getfield 216, 3), (251, .iconst 1, 1), (252, .iadd, 1), (253, .putfield 216, 3)], [(256, .aload_n 0, 1), (257, .getfield 216, 3), (260, .iconst 1, 1), (261, .isub, 1), (262, .ireturn, 1)]]
def pgc180 : List (List (Nat × Instr × Nat)) := [[(0, .aload_n 0, 1), (1, .getfield 77, 3), (4, .iload_n 1, 1), (5, .iaload, 1), (6, .aload_n 0, 1), (7, .getfield 83, 3)], [(10, .iload_n 1, 1), (11, .iaload, 1), (12, .iconst 0, 1), (13, .iload_n 2, 1), (14, .invokestatic 203, 3)], [(17, .ifCond .eq 12, 3), (20, .aload_n 0, 1), (21, .getfield 80, 3)], [(24, .iload_n 1, 1), (25, .iaload, 1), (26, .goto 4, 3), (29, .iconst 0, 1), (30, .isub, 1), (31, .ireturn, 1)]]
def pgc181 : List (List (Nat × Instr × Nat)) := [[(0, .aload_n 0, 1), (1, .getfield 74, 3), (4, .bipush 7, 2), (6, .iload_n 1, 1), (7, .imul, 1)], [(8, .iload_n 2, 1), (9, .iadd, 1), (10, .iaload, 1), (11, .ireturn, 1)]]
def pgc182 : List (List (Nat × Instr × Nat)) := [[(0, .aload_n 0, 1), (1, .iload_n 1, 1), (2, .invokevirtual 260, 3), (5, .ifCond .ne 7, 3)], [(8, .ldc_w 263, 3), (11, .ireturn, 1), (12, .iload_n 2, 1), (13, .tableswitch 150 0 9 #[55, 62, 69, 76, 83, 93, 100, 107, 114, 122], 55)], [], [], [], [], [], [], [(68, .aload_n 0, 1), (69, .getfield 71, 3)], [(72, .iload_n 1, 1), (73, .iaload, 1), (74, .ireturn, 1), (75, .aload_n 0, 1), (76, .iload_n 1, 1), (77, .iconst 0, 1), (78, .invokevirtual 264, 3)], [(81, .ireturn, 1), (82, .aload_n 0, 1), (83, .iload_n 1, 1), (84, .iconst 1, 1), (85, .invokevirtual 264, 3)], [(88, .ireturn, 1), (89, .aload_n 0, 1), (90, .iload_n 1, 1), (91, .iconst 2, 1), (92, .invokevirtual 264, 3), (95, .ireturn, 1)], [(96, .aload_n 0, 1), (97, .iload_n 1, 1), (98, .aload_n 0, 1), (99, .getfield 219, 3), (102, .invokevirtual 267, 3)], [(105, .ireturn, 1), (106, .aload_n 0, 1), (107, .iload_n 1, 1), (108, .iconst 3, 1), (109, .invokevirtual 264, 3)], [(112, .ireturn, 1), (113, .aload_n 0, 1), (114, .iload_n 1, 1), (115, .iconst 4, 1), (116, .invokevirtual 264, 3), (119, .ireturn, 1)], [(120, .aload_n 0, 1), (121, .iload_n 1, 1), (122, .iconst 5, 1), (123, .invokevirtual 264, 3), (126, .ireturn, 1), (127, .aload_n 0, 1)], [(128, .iload_n 1, 1), (129, .bipush 6, 2), (131, .invokevirtual 264, 3), (134, .ireturn, 1), (135, .aload_n 0, 1)], [(136, .getfield 83, 3), (139, .iload_n 1, 1), (140, .iaload, 1), (141, .ifCond .ge 7, 3)], [(144, .iconst 0, 1), (145, .goto 17, 3), (148, .aload_n 0, 1), (149, .getfield 80, 3)], [(152, .iload_n 1, 1), (153, .iaload, 1), (154, .ifCond .ne 7, 3), (157, .iconst 1, 1), (158, .goto 4, 3)], [(161, .iconst 2, 1), (162, .ireturn, 1), (163, .ldc_w 263, 3), (166, .ireturn, 1)]]
def pgc183 : List (List (Nat × Instr × Nat)) := [[(0, .iload_n 1, 1), (1, .iconst 0, 1), (2, .bipush 19, 2), (4, .invokestatic 203, 3), (7, .ifCond .eq 33, 3)], [(10, .iload_n 2, 1), (11, .invokestatic 222, 3), (14, .ifCond .eq 26, 3)], [(17, .iload_n 3, 1), (18, .iconst 0, 1), (19, .aload_n 0, 1), (20, .getfield 219, 3), (23, .invokestatic 203, 3)], [(26, .ifCond .eq 14, 3), (29, .iload 4, 2), (31, .iconst 1, 1)], [(32, .ldc 229, 2), (34, .invokestatic 203, 3), (37, .ifCond .ne 5, 3)], [(40, .iconst (-1), 1), (41, .ireturn, 1), (42, .aload_n 0, 1), (43, .getfield 270, 3), (46, .bipush 120, 2)], [(48, .if_icmp .ne 6, 3), (51, .bipush (-2), 2), (53, .ireturn, 1), (54, .aload_n 0, 1), (55, .getfield 86, 3)], [(58, .aload_n 0, 1), (59, .getfield 270, 3), (62, .iload_n 1, 1), (63, .iastore, 1)], [(64, .aload_n 0, 1), (65, .getfield 89, 3), (68, .aload_n 0, 1), (69, .getfield 270, 3)], [(72, .iload_n 2, 1), (73, .iastore, 1), (74, .aload_n 0, 1), (75, .getfield 92, 3), (78, .aload_n 0, 1), (79, .getfield 270, 3)], [(82, .iload_n 3, 1), (83, .iastore, 1), (84, .aload_n 0, 1), (85, .getfield 95, 3)], [(88, .aload_n 0, 1), (89, .getfield 270, 3), (92, .iload 4, 2), (94, .iastore, 1), (95, .aload_n 0, 1)], [(96, .getfield 98, 3), (99, .aload_n 0, 1), (100, .getfield 270, 3), (103, .aload_n 0, 1)], [(104, .getfield 219, 3), (107, .iastore, 1), (108, .aload_n 0, 1), (109, .dup, 1), (110, .getfield 270, 3)], [(113, .iconst 1, 1), (114, .iadd, 1), (115, .putfield 270, 3), (118, .aload_n 0, 1), (119, .getfield 270, 3)], [(122, .ireturn, 1)]]
def pgc184 : List (List (Nat × Instr × Nat)) := [[(0, .iconst 0, 1), (1, .istore_n 3, 1), (2, .iconst 0, 1), (3, .istore 4, 2), (5, .iload 4, 2), (7, .aload_n 0, 1)], [(8, .getfield 270, 3), (11, .if_icmp .ge 147, 3), (14, .aload_n 0, 1), (15, .getfield 92, 3)], [(18, .iload 4, 2), (20, .iaload, 1), (21, .aload_n 0, 1), (22, .iload_n 1, 1), (23, .iconst 3, 1)], [(24, .invokevirtual 264, 3), (27, .isub, 1), (28, .istore 5, 2), (30, .aload_n 0, 1), (31, .getfield 86, 3)], [(34, .iload 4, 2), (36, .iaload, 1), (37, .aload_n 0, 1), (38, .iload_n 1, 1), (39, .bipush 6, 2)], [(41, .invokevirtual 264, 3), (44, .if_icmp .ne 108, 3), (47, .aload_n 0, 1)], [(48, .getfield 89, 3), (51, .iload 4, 2), (53, .iaload, 1), (54, .aload_n 0, 1), (55, .iload_n 1, 1)], [(56, .iconst 2, 1), (57, .invokevirtual 264, 3), (60, .if_icmp .ne 92, 3), (63, .iload 5, 2)], [(65, .bipush (-90), 2), (67, .bipush 90, 2), (69, .invokestatic 203, 3)], [(72, .ifCond .eq 80, 3), (75, .aload_n 0, 1), (76, .getfield 98, 3), (79, .iload 4, 2)], [(81, .iaload, 1), (82, .iload_n 2, 1), (83, .if_icmp .gt 69, 3), (86, .iload_n 3, 1), (87, .istore 6, 2)], [(89, .iload 6, 2), (91, .ifCond .le 44, 3), (94, .aload_n 0, 1), (95, .getfield 153, 3)], [(98, .iload 6, 2), (100, .iconst 1, 1), (101, .isub, 1), (102, .iaload, 1), (103, .aload_n 0, 1)], [(104, .getfield 95, 3), (107, .iload 4, 2), (109, .iaload, 1), (110, .if_icmp .le 25, 3)], [(113, .aload_n 0, 1), (114, .getfield 153, 3), (117, .iload 6, 2), (119, .aload_n 0, 1)], [(120, .getfield 153, 3), (123, .iload 6, 2), (125, .iconst 1, 1), (126, .isub, 1), (127, .iaload, 1)], [(128, .iastore, 1), (129, .iinc 6 (-1), 3), (132, .goto (-43), 3), (135, .aload_n 0, 1)], [(136, .getfield 153, 3), (139, .iload 6, 2), (141, .aload_n 0, 1), (142, .getfield 95, 3)], [(145, .iload 4, 2), (147, .iaload, 1), (148, .iastore, 1), (149, .iinc 3 1, 3)], [(152, .iinc 4 1, 3), (155, .goto (-150), 3), (158, .iload_n 3, 1), (159, .ireturn, 1)]]
def pgc185 : List (List (Nat × Instr × Nat)) := [[(0, .aload_n 0, 1), (1, .iload_n 1, 1), (2, .invokevirtual 260, 3), (5, .ifCond .eq 19, 3)], [(8, .iload_n 2, 1), (9, .invokestatic 226, 3), (12, .ifCond .eq 12, 3), (15, .iload_n 3, 1)], [(16, .iconst 0, 1), (17, .iconst 3, 1), (18, .invokestatic 203, 3), (21, .ifCond .ne 5, 3)], [(24, .iconst (-1), 1), (25, .ireturn, 1), (26, .aload_n 0, 1), (27, .iload_n 1, 1), (28, .iload_n 2, 1), (29, .invokevirtual 273, 3)], [(32, .istore 4, 2), (34, .iload_n 3, 1), (35, .iconst 3, 1), (36, .if_icmp .ne 6, 3), (39, .iload 4, 2)], [(41, .ireturn, 1), (42, .iload 4, 2), (44, .ifCond .ne 8, 3), (47, .bipush (-4), 2)], [(49, .goto 44, 3), (52, .iload_n 3, 1), (53, .ifCond .ne 12, 3)], [(56, .aload_n 0, 1), (57, .getfield 153, 3), (60, .iconst 0, 1), (61, .iaload, 1), (62, .goto 31, 3)], [(65, .iload_n 3, 1), (66, .iconst 1, 1), (67, .if_icmp .ne 15, 3), (70, .aload_n 0, 1), (71, .getfield 153, 3)], [(74, .iload 4, 2), (76, .iconst 1, 1), (77, .isub, 1), (78, .iaload, 1), (79, .goto 14, 3)], [(82, .aload_n 0, 1), (83, .getfield 153, 3), (86, .iload 4, 2)], [(88, .iconst 1, 1), (89, .isub, 1), (90, .iconst 2, 1), (91, .idiv, 1), (92, .iaload, 1), (93, .ireturn, 1)]]
def pgc186 : List (List (Nat × Instr × Nat)) := [[(0, .aload_n 0, 1), (1, .getfield 71, 3), (4, .iload_n 1, 1), (5, .iaload, 1), (6, .invokestatic 257, 3)], [(9, .ifCond .eq 32, 3), (12, .aload_n 0, 1), (13, .aload_n 0, 1), (14, .iload_n 1, 1), (15, .iconst 4, 1)], [(16, .invokevirtual 264, 3), (19, .aload_n 0, 1), (20, .getfield 32, 3), (23, .aload_n 0, 1)], [(24, .iload_n 1, 1), (25, .iconst 0, 1), (26, .invokevirtual 264, 3), (29, .iaload, 1), (30, .iload_n 2, 1), (31, .invokevirtual 276, 3)], [(34, .ifCond .eq 7, 3), (37, .iconst 1, 1), (38, .goto 4, 3)], [(41, .iconst 0, 1), (42, .ireturn, 1)]]
def pgc187 : List (List (Nat × Instr × Nat)) := [[(0, .aload_n 0, 1), (1, .iload_n 1, 1), (2, .iload_n 2, 1), (3, .invokevirtual 267, 3), (6, .istore_n 3, 1), (7, .aload_n 0, 1)], [(8, .iload_n 1, 1), (9, .iload_n 2, 1), (10, .invokevirtual 279, 3), (13, .ifCond .ne 5, 3)], [(16, .iload_n 3, 1), (17, .ireturn, 1), (18, .aload_n 0, 1), (19, .iload_n 1, 1), (20, .iload_n 2, 1), (21, .invokevirtual 273, 3)], [(24, .istore 4, 2), (26, .iload 4, 2), (28, .ifCond .ne 7, 3), (31, .iconst 0, 1)], [(32, .goto 14, 3), (35, .aload_n 0, 1), (36, .getfield 153, 3), (39, .iload 4, 2)], [(41, .iconst 1, 1), (42, .isub, 1), (43, .iconst 2, 1), (44, .idiv, 1), (45, .iaload, 1), (46, .istore 5, 2)], [(48, .iload_n 3, 1), (49, .iload 5, 2), (51, .if_icmp .ge 7, 3), (54, .iload_n 3, 1), (55, .goto 5, 3)], [(58, .iload 5, 2), (60, .ireturn, 1)]]
def pgc188 : List (List (Nat × Instr × Nat)) := [[(0, .aload_n 0, 1), (1, .iload_n 1, 1), (2, .iconst 0, 1), (3, .invokevirtual 264, 3), (6, .aload_n 0, 1), (7, .iload_n 2, 1)], [(8, .iconst 0, 1), (9, .invokevirtual 264, 3), (12, .if_icmp .ne 18, 3), (15, .aload_n 0, 1)], [(16, .iload_n 1, 1), (17, .iconst 2, 1), (18, .invokevirtual 264, 3), (21, .aload_n 0, 1), (22, .iload_n 2, 1), (23, .iconst 2, 1)], [(24, .invokevirtual 264, 3), (27, .if_icmp .eq 7, 3), (30, .iconst 1, 1), (31, .goto 4, 3)], [(34, .iconst 0, 1), (35, .istore_n 3, 1), (36, .iload_n 3, 1), (37, .ifCond .eq 22, 3)], [(40, .aload_n 0, 1), (41, .iload_n 1, 1), (42, .iconst 5, 1), (43, .invokevirtual 264, 3), (46, .aload_n 0, 1), (47, .iload_n 2, 1)], [(48, .iconst 5, 1), (49, .invokevirtual 264, 3), (52, .if_icmp .ne 7, 3), (55, .iconst 1, 1)], [(56, .goto 4, 3), (59, .iconst 0, 1), (60, .ireturn, 1)]]
def pgc189 : List (List (Nat × Instr × Nat)) := [[(0, .iconst 0, 1), (1, .istore_n 2, 1), (2, .iconst 0, 1), (3, .istore_n 3, 1), (4, .iload_n 3, 1), (5, .iload_n 1, 1), (6, .if_icmp .ge 28, 3)], [(9, .iload_n 2, 1), (10, .ifCond .ne 12, 3), (13, .aload_n 0, 1), (14, .iload_n 1, 1), (15, .iload_n 3, 1)], [(16, .invokevirtual 283, 3), (19, .ifCond .eq 7, 3), (22, .iconst 1, 1), (23, .goto 4, 3)], [(26, .iconst 0, 1), (27, .istore_n 2, 1), (28, .iinc 3 1, 3), (31, .goto (-27), 3)], [(34, .iload_n 2, 1), (35, .ireturn, 1)]]
def pgc190 : List (List (Nat × Instr × Nat)) := [[(0, .iload_n 1, 1), (1, .iconst 1, 1), (2, .iconst 4, 1), (3, .invokestatic 203, 3), (6, .ifCond .ne 5, 3)], [(9, .iconst (-1), 1), (10, .ireturn, 1), (11, .aload_n 0, 1), (12, .getfield 286, 3), (15, .iload_n 1, 1)], [(16, .iadd, 1), (17, .sipush 160, 3), (20, .if_icmp .le 6, 3), (23, .bipush (-2), 2)], [(25, .ireturn, 1), (26, .iconst 0, 1), (27, .istore_n 3, 1), (28, .iload_n 3, 1), (29, .iload_n 1, 1), (30, .if_icmp .ge 38, 3)], [(33, .aload_n 0, 1), (34, .getfield 101, 3), (37, .aload_n 0, 1), (38, .getfield 286, 3)], [(41, .iload_n 2, 1), (42, .bipush 8, 2), (44, .iload_n 3, 1), (45, .imul, 1), (46, .ishr, 1), (47, .sipush 255, 3)], [(50, .iand, 1), (51, .iastore, 1), (52, .aload_n 0, 1), (53, .dup, 1), (54, .getfield 286, 3)], [(57, .iconst 1, 1), (58, .iadd, 1), (59, .putfield 286, 3), (62, .iinc 3 1, 3)], [(65, .goto (-37), 3), (68, .aload_n 0, 1), (69, .getfield 286, 3)], [(72, .ireturn, 1)]]
def pgc191 : List (List (Nat × Instr × Nat)) := [[(0, .aload_n 0, 1), (1, .getfield 289, 3), (4, .aload_n 0, 1), (5, .getfield 292, 3)], [(8, .if_icmp .ge 39, 3), (11, .aload_n 0, 1), (12, .getfield 295, 3), (15, .ifCond .ge 15, 3)], [(18, .aload_n 0, 1), (19, .getfield 101, 3), (22, .aload_n 0, 1), (23, .getfield 289, 3)], [(26, .iaload, 1), (27, .goto 21, 3), (30, .aload_n 0, 1), (31, .getfield 104, 3)], [(34, .aload_n 0, 1), (35, .getfield 295, 3), (38, .aload_n 0, 1), (39, .getfield 289, 3)], [(42, .iadd, 1), (43, .iaload, 1), (44, .goto 4, 3), (47, .iconst 0, 1)], [(48, .ireturn, 1)]]
def pgc192 : List (List (Nat × Instr × Nat)) := [[(0, .aload_n 0, 1), (1, .aload_n 0, 1), (2, .getfield 298, 3), (5, .ifCond .ge 10, 3)], [(8, .aload_n 0, 1), (9, .getfield 289, 3), (12, .goto 7, 3), (15, .aload_n 0, 1)], [(16, .getfield 298, 3), (19, .putfield 298, 3), (22, .iconst 0, 1), (23, .ireturn, 1)]]
def pgc193 : List (List (Nat × Instr × Nat)) := [[(0, .aload_n 0, 1), (1, .getfield 298, 3), (4, .ifCond .ge 11, 3), (7, .aload_n 0, 1)], [(8, .invokevirtual 301, 3), (11, .iload_n 1, 1), (12, .if_icmp .eq 5, 3), (15, .iconst 0, 1)], [(16, .ireturn, 1), (17, .aload_n 0, 1), (18, .dup, 1), (19, .getfield 289, 3), (22, .iconst 1, 1), (23, .iadd, 1)], [(24, .putfield 289, 3), (27, .iconst 1, 1), (28, .ireturn, 1)]]
def pgc194 : List (List (Nat × Instr × Nat)) := [[(0, .aload_n 0, 1), (1, .invokevirtual 305, 3), (4, .istore_n 1, 1), (5, .aload_n 0, 1), (6, .bipush 124, 2)], [(8, .invokevirtual 308, 3), (11, .ifCond .eq 25, 3), (14, .aload_n 0, 1), (15, .invokevirtual 305, 3)], [(18, .istore_n 2, 1), (19, .iload_n 1, 1), (20, .ifCond .ne 7, 3), (23, .iload_n 2, 1)], [(24, .ifCond .eq 7, 3), (27, .iconst 1, 1), (28, .goto 4, 3), (31, .iconst 0, 1)], [(32, .istore_n 1, 1), (33, .goto (-28), 3), (36, .iload_n 1, 1), (37, .ireturn, 1)]]
def pgc195 : List (List (Nat × Instr × Nat)) := [[(0, .aload_n 0, 1), (1, .invokevirtual 311, 3), (4, .istore_n 1, 1), (5, .aload_n 0, 1), (6, .bipush 38, 2)], [(8, .invokevirtual 308, 3), (11, .ifCond .eq 25, 3), (14, .aload_n 0, 1), (15, .invokevirtual 311, 3)], [(18, .istore_n 2, 1), (19, .iload_n 1, 1), (20, .ifCond .eq 11, 3), (23, .iload_n 2, 1)], [(24, .ifCond .eq 7, 3), (27, .iconst 1, 1), (28, .goto 4, 3), (31, .iconst 0, 1)], [(32, .istore_n 1, 1), (33, .goto (-28), 3), (36, .iload_n 1, 1), (37, .ireturn, 1)]]
def pgc196 : List (List (Nat × Instr × Nat)) := [[(0, .aload_n 0, 1), (1, .invokevirtual 314, 3), (4, .istore_n 1, 1), (5, .aload_n 0, 1), (6, .invokevirtual 301, 3)], [(9, .istore_n 2, 1), (10, .aload_n 0, 1), (11, .getfield 298, 3), (14, .ifCond .ge 21, 3)], [(17, .iload_n 2, 1), (18, .bipush 60, 2), (20, .if_icmp .eq 17, 3), (23, .iload_n 2, 1)], [(24, .bipush 61, 2), (26, .if_icmp .eq 11, 3), (29, .iload_n 2, 1), (30, .bipush 62, 2)], [(32, .if_icmp .eq 5, 3), (35, .iload_n 1, 1), (36, .ireturn, 1), (37, .aload_n 0, 1), (38, .dup, 1), (39, .getfield 289, 3)], [(42, .iconst 1, 1), (43, .iadd, 1), (44, .putfield 289, 3), (47, .aload_n 0, 1)], [(48, .invokevirtual 314, 3), (51, .istore_n 3, 1), (52, .iload_n 2, 1), (53, .bipush 60, 2), (55, .if_icmp .ne 11, 3)], [(58, .iload_n 1, 1), (59, .iload_n 3, 1), (60, .if_icmp .ge 29, 3), (63, .goto 22, 3)], [(66, .iload_n 2, 1), (67, .bipush 61, 2), (69, .if_icmp .ne 11, 3)], [(72, .iload_n 1, 1), (73, .iload_n 3, 1), (74, .if_icmp .ne 15, 3), (77, .goto 8, 3)], [(80, .iload_n 1, 1), (81, .iload_n 3, 1), (82, .if_icmp .le 7, 3), (85, .iconst 1, 1), (86, .goto 4, 3)], [(89, .iconst 0, 1), (90, .ireturn, 1)]]
def pgc197 : List (List (Nat × Instr × Nat)) := [[(0, .aload_n 0, 1), (1, .invokevirtual 317, 3), (4, .istore_n 1, 1), (5, .aload_n 0, 1), (6, .getfield 298, 3)], [(9, .ifCond .ge 68, 3), (12, .aload_n 0, 1), (13, .invokevirtual 301, 3)], [(16, .bipush 43, 2), (18, .if_icmp .eq 12, 3), (21, .aload_n 0, 1), (22, .invokevirtual 301, 3)], [(25, .bipush 45, 2), (27, .if_icmp .ne 50, 3), (30, .aload_n 0, 1), (31, .invokevirtual 301, 3)], [(34, .bipush 43, 2), (36, .if_icmp .ne 7, 3), (39, .iconst 1, 1)], [(40, .goto 4, 3), (43, .iconst 0, 1), (44, .istore_n 2, 1), (45, .aload_n 0, 1), (46, .dup, 1), (47, .getfield 289, 3)], [(50, .iconst 1, 1), (51, .iadd, 1), (52, .putfield 289, 3), (55, .aload_n 0, 1)], [(56, .invokevirtual 317, 3), (59, .istore_n 3, 1), (60, .iload_n 2, 1), (61, .ifCond .eq 9, 3)], [(64, .iload_n 1, 1), (65, .iload_n 3, 1), (66, .iadd, 1), (67, .goto 6, 3), (70, .iload_n 1, 1), (71, .iload_n 3, 1)], [(72, .isub, 1), (73, .istore_n 1, 1), (74, .goto (-69), 3), (77, .iload_n 1, 1), (78, .ireturn, 1)]]
def pgc198 : List (List (Nat × Instr × Nat)) := [[(0, .aload_n 0, 1), (1, .invokevirtual 320, 3), (4, .istore_n 1, 1), (5, .aload_n 0, 1), (6, .invokevirtual 301, 3)], [(9, .istore_n 2, 1), (10, .aload_n 0, 1), (11, .getfield 298, 3), (14, .ifCond .ge 80, 3)], [(17, .iload_n 2, 1), (18, .bipush 42, 2), (20, .if_icmp .eq 15, 3), (23, .iload_n 2, 1)], [(24, .bipush 47, 2), (26, .if_icmp .eq 9, 3), (29, .iload_n 2, 1), (30, .bipush 37, 2)], [(32, .if_icmp .ne 62, 3), (35, .aload_n 0, 1), (36, .dup, 1), (37, .getfield 289, 3)], [(40, .iconst 1, 1), (41, .iadd, 1), (42, .putfield 289, 3), (45, .aload_n 0, 1), (46, .invokevirtual 320, 3)], [(49, .istore_n 3, 1), (50, .iload_n 2, 1), (51, .bipush 42, 2), (53, .if_icmp .ne 9, 3)], [(56, .iload_n 1, 1), (57, .iload_n 3, 1), (58, .imul, 1), (59, .goto 26, 3), (62, .iload_n 3, 1), (63, .ifCond .ne 7, 3)], [(66, .iconst 0, 1), (67, .goto 18, 3), (70, .iload_n 2, 1), (71, .bipush 47, 2)], [(73, .if_icmp .ne 9, 3), (76, .iload_n 1, 1), (77, .iload_n 3, 1), (78, .idiv, 1), (79, .goto 6, 3)], [(82, .iload_n 1, 1), (83, .iload_n 3, 1), (84, .irem, 1), (85, .istore_n 1, 1), (86, .aload_n 0, 1), (87, .invokevirtual 301, 3)], [(90, .istore_n 2, 1), (91, .goto (-81), 3), (94, .iload_n 1, 1), (95, .ireturn, 1)]]
def pgc199 : List (List (Nat × Instr × Nat)) := [[(0, .iload_n 0, 1), (1, .tableswitch 131 99 121 #[111, 131, 117, 131, 131, 131, 131, 128, 107, 113, 131, 125, 131, 122, 131, 115, 109, 131, 131, 131, 131, 131, 119], 107)], [], [], [], [], [], [], [], [], [], [], [], [], [(108, .iconst 0, 1), (109, .ireturn, 1), (110, .iconst 1, 1), (111, .ireturn, 1)], [(112, .iconst 2, 1), (113, .ireturn, 1), (114, .iconst 3, 1), (115, .ireturn, 1), (116, .iconst 4, 1), (117, .ireturn, 1), (118, .iconst 5, 1), (119, .ireturn, 1)], [(120, .bipush 6, 2), (122, .ireturn, 1), (123, .bipush 7, 2), (125, .ireturn, 1), (126, .bipush 8, 2)], [(128, .ireturn, 1), (129, .bipush 9, 2), (131, .ireturn, 1), (132, .iconst (-1), 1), (133, .ireturn, 1)]]
def pgc200 : List (List (Nat × Instr × Nat)) := [[(0, .iload_n 1, 1), (1, .iconst 3, 1), (2, .if_icmp .ne 41, 3), (5, .aload_n 0, 1), (6, .getfield 159, 3)], [(9, .ifCond .lt 34, 3), (12, .aload_n 0, 1), (13, .getfield 156, 3)], [(16, .iconst 3, 1), (17, .aload_n 0, 1), (18, .aload_n 0, 1), (19, .getfield 159, 3), (22, .aload_n 0, 1), (23, .getfield 323, 3)], [(26, .invokevirtual 326, 3), (29, .ifCond .eq 7, 3)], [(32, .iconst 1, 1), (33, .goto 4, 3), (36, .iconst 0, 1), (37, .iastore, 1), (38, .aload_n 0, 1), (39, .iconst (-1), 1)], [(40, .putfield 159, 3), (43, .aload_n 0, 1), (44, .getfield 156, 3), (47, .iload_n 1, 1)], [(48, .iaload, 1), (49, .ireturn, 1)]]
def pgc201 : List (List (Nat × Instr × Nat)) := [[(0, .aload_n 0, 1), (1, .getfield 298, 3), (4, .ifCond .lt 5, 3), (7, .iconst 0, 1)], [(8, .ireturn, 1), (9, .aload_n 0, 1), (10, .invokevirtual 301, 3), (13, .istore_n 1, 1), (14, .iload_n 1, 1), (15, .bipush 33, 2)], [(17, .if_icmp .eq 9, 3), (20, .iload_n 1, 1), (21, .bipush 40, 2), (23, .if_icmp .ne 105, 3)], [(26, .aload_n 0, 1), (27, .getfield 329, 3), (30, .bipush 8, 2)], [(32, .if_icmp .ne 8, 3), (35, .aload_n 0, 1), (36, .invokevirtual 332, 3), (39, .ireturn, 1)], [(40, .aload_n 0, 1), (41, .dup, 1), (42, .getfield 329, 3), (45, .iconst 1, 1), (46, .iadd, 1), (47, .putfield 329, 3)], [(50, .aload_n 0, 1), (51, .dup, 1), (52, .getfield 289, 3), (55, .iconst 1, 1)], [(56, .iadd, 1), (57, .putfield 289, 3), (60, .iload_n 1, 1), (61, .bipush 40, 2), (63, .if_icmp .ne 10, 3)], [(66, .aload_n 0, 1), (67, .invokevirtual 335, 3), (70, .goto 7, 3)], [(73, .aload_n 0, 1), (74, .invokevirtual 320, 3), (77, .istore_n 2, 1), (78, .iload_n 1, 1), (79, .bipush 40, 2)], [(81, .if_icmp .ne 17, 3), (84, .aload_n 0, 1), (85, .bipush 41, 2), (87, .invokevirtual 308, 3)], [(90, .ifCond .ne 8, 3), (93, .aload_n 0, 1), (94, .invokevirtual 332, 3)], [(97, .ireturn, 1), (98, .aload_n 0, 1), (99, .dup, 1), (100, .getfield 329, 3), (103, .iconst 1, 1)], [(104, .isub, 1), (105, .putfield 329, 3), (108, .iload_n 1, 1), (109, .bipush 40, 2), (111, .if_icmp .ne 7, 3)], [(114, .iload_n 2, 1), (115, .goto 12, 3), (118, .iload_n 2, 1), (119, .ifCond .ne 7, 3)], [(122, .iconst 1, 1), (123, .goto 4, 3), (126, .iconst 0, 1), (127, .ireturn, 1)], [(128, .iload_n 1, 1), (129, .invokestatic 338, 3), (132, .istore_n 2, 1), (133, .iload_n 2, 1), (134, .ifCond .lt 19, 3)], [(137, .aload_n 0, 1), (138, .dup, 1), (139, .getfield 289, 3), (142, .iconst 1, 1), (143, .iadd, 1)], [(144, .putfield 289, 3), (147, .aload_n 0, 1), (148, .iload_n 2, 1), (149, .invokevirtual 342, 3)], [(152, .ireturn, 1), (153, .iconst 0, 1), (154, .istore_n 3, 1), (155, .iconst 0, 1), (156, .istore 4, 2), (158, .iload 4, 2)], [(160, .bipush 6, 2), (162, .if_icmp .ge 50, 3), (165, .aload_n 0, 1), (166, .invokevirtual 301, 3)], [(169, .bipush 48, 2), (171, .if_icmp .lt 41, 3), (174, .aload_n 0, 1), (175, .invokevirtual 301, 3)], [(178, .bipush 57, 2), (180, .if_icmp .gt 32, 3), (183, .bipush 10, 2)], [(185, .iload_n 3, 1), (186, .imul, 1), (187, .aload_n 0, 1), (188, .invokevirtual 301, 3), (191, .iadd, 1)], [(192, .bipush 48, 2), (194, .isub, 1), (195, .istore_n 3, 1), (196, .iinc 4 1, 3), (199, .aload_n 0, 1)], [(200, .dup, 1), (201, .getfield 289, 3), (204, .iconst 1, 1), (205, .iadd, 1), (206, .putfield 289, 3)], [(209, .goto (-51), 3), (212, .iload 4, 2), (214, .ifCond .ne 10, 3)], [(217, .aload_n 0, 1), (218, .invokevirtual 332, 3), (221, .goto 4, 3)], [(224, .iload_n 3, 1), (225, .ireturn, 1)]]
def pgc202 : List (List (Nat × Instr × Nat)) := [[(0, .aload_n 0, 1), (1, .iload_n 1, 1), (2, .putfield 295, 3), (5, .aload_n 0, 1), (6, .iconst 0, 1), (7, .putfield 289, 3)], [(10, .aload_n 0, 1), (11, .iload_n 2, 1), (12, .putfield 292, 3), (15, .aload_n 0, 1)], [(16, .iconst (-1), 1), (17, .putfield 298, 3), (20, .aload_n 0, 1), (21, .iconst 0, 1), (22, .putfield 329, 3)], [(25, .aload_n 0, 1), (26, .iconst (-1), 1), (27, .putfield 345, 3), (30, .iconst 0, 1), (31, .istore_n 3, 1)], [(32, .iconst 0, 1), (33, .istore 4, 2), (35, .iconst 1, 1), (36, .istore 5, 2), (38, .iload 5, 2)], [(40, .ifCond .eq 81, 3), (43, .aload_n 0, 1), (44, .invokevirtual 335, 3), (47, .istore 6, 2)], [(49, .iconst 1, 1), (50, .istore 7, 2), (52, .aload_n 0, 1), (53, .bipush 63, 2), (55, .invokevirtual 308, 3)], [(58, .ifCond .eq 21, 3), (61, .iload 6, 2), (63, .ifCond .eq 7, 3)], [(66, .iconst 1, 1), (67, .goto 4, 3), (70, .iconst 0, 1), (71, .istore 7, 2)], [(73, .aload_n 0, 1), (74, .invokevirtual 335, 3), (77, .istore 6, 2), (79, .aload_n 0, 1)], [(80, .getfield 298, 3), (83, .ifCond .ge 24, 3), (86, .iload 7, 2)], [(88, .ifCond .eq 19, 3), (91, .aload_n 0, 1), (92, .getfield 345, 3), (95, .ifCond .ge 12, 3)], [(98, .aload_n 0, 1), (99, .iload 4, 2), (101, .putfield 345, 3)], [(104, .iload 6, 2), (106, .istore_n 3, 1), (107, .iinc 4 1, 3), (110, .aload_n 0, 1), (111, .bipush 59, 2)], [(113, .invokevirtual 308, 3), (116, .istore 5, 2), (118, .goto (-80), 3)], [(121, .aload_n 0, 1), (122, .getfield 298, 3), (125, .ifCond .ge 19, 3)], [(128, .aload_n 0, 1), (129, .getfield 289, 3), (132, .aload_n 0, 1), (133, .getfield 292, 3)], [(136, .if_icmp .ge 8, 3), (139, .aload_n 0, 1), (140, .invokevirtual 332, 3), (143, .ireturn, 1)], [(144, .iload_n 3, 1), (145, .ireturn, 1)]]
def pgc203 : List (List (Nat × Instr × Nat)) := [[(0, .iload_n 0, 1), (1, .ifCond .lt 24, 3), (4, .iload_n 0, 1), (5, .bipush 10, 2), (7, .idiv, 1)], [(8, .bipush 6, 2), (10, .if_icmp .ge 15, 3), (13, .iload_n 0, 1), (14, .bipush 10, 2)], [(16, .irem, 1), (17, .iconst 4, 1), (18, .if_icmp .gt 7, 3), (21, .iconst 1, 1), (22, .goto 4, 3)], [(25, .iconst 0, 1), (26, .ireturn, 1)]]
def pgc204 : List (List (Nat × Instr × Nat)) := [[(0, .iload_n 1, 1), (1, .invokestatic 348, 3), (4, .ifCond .eq 10, 3), (7, .iload_n 2, 1)], [(8, .invokestatic 226, 3), (11, .ifCond .ne 5, 3), (14, .iconst (-1), 1), (15, .ireturn, 1)], [(16, .aload_n 0, 1), (17, .getfield 351, 3), (20, .bipush 20, 2), (22, .if_icmp .ne 6, 3)], [(25, .bipush (-2), 2), (27, .ireturn, 1), (28, .aload_n 0, 1), (29, .iconst (-1), 1), (30, .putfield 159, 3)], [(33, .aload_n 0, 1), (34, .iconst (-1), 1), (35, .aload_n 0, 1), (36, .getfield 286, 3), (39, .invokevirtual 354, 3)], [(42, .istore_n 3, 1), (43, .aload_n 0, 1), (44, .getfield 286, 3), (47, .istore 4, 2)], [(49, .aload_n 0, 1), (50, .iconst 0, 1), (51, .putfield 286, 3), (54, .aload_n 0, 1), (55, .getfield 298, 3)], [(58, .ifCond .lt 11, 3), (61, .bipush (-100), 2), (63, .aload_n 0, 1)], [(64, .getfield 298, 3), (67, .isub, 1), (68, .ireturn, 1), (69, .iconst 0, 1), (70, .istore 5, 2)], [(72, .iload 5, 2), (74, .iload 4, 2), (76, .if_icmp .ge 32, 3), (79, .aload_n 0, 1)], [(80, .getfield 104, 3), (83, .sipush 160, 3), (86, .aload_n 0, 1), (87, .getfield 351, 3)], [(90, .imul, 1), (91, .iload 5, 2), (93, .iadd, 1), (94, .aload_n 0, 1), (95, .getfield 101, 3)], [(98, .iload 5, 2), (100, .iaload, 1), (101, .iastore, 1), (102, .iinc 5 1, 3)], [(105, .goto (-33), 3), (108, .aload_n 0, 1), (109, .getfield 107, 3)], [(112, .aload_n 0, 1), (113, .getfield 351, 3), (116, .iload 4, 2), (118, .iastore, 1), (119, .aload_n 0, 1)], [(120, .getfield 110, 3), (123, .aload_n 0, 1), (124, .getfield 351, 3), (127, .iload_n 1, 1)], [(128, .iastore, 1), (129, .aload_n 0, 1), (130, .getfield 113, 3), (133, .aload_n 0, 1), (134, .getfield 351, 3)], [(137, .aload_n 0, 1), (138, .getfield 219, 3), (141, .iastore, 1), (142, .aload_n 0, 1), (143, .getfield 116, 3)], [(146, .aload_n 0, 1), (147, .getfield 351, 3), (150, .iload_n 2, 1), (151, .iastore, 1)], [(152, .aload_n 0, 1), (153, .dup, 1), (154, .getfield 351, 3), (157, .iconst 1, 1), (158, .iadd, 1), (159, .putfield 351, 3)], [(162, .aload_n 0, 1), (163, .getfield 351, 3), (166, .iconst 1, 1), (167, .isub, 1)], [(168, .ireturn, 1)]]
def pgc205 : List (List (Nat × Instr × Nat)) := [[(0, .aload_n 0, 1), (1, .getfield 162, 3), (4, .ifCond .lt 21, 3), (7, .aload_n 0, 1)], [(8, .getfield 110, 3), (11, .aload_n 0, 1), (12, .getfield 162, 3), (15, .iaload, 1)], [(16, .iload_n 1, 1), (17, .if_icmp .ne 8, 3), (20, .aload_n 0, 1), (21, .getfield 162, 3)], [(24, .ireturn, 1), (25, .iconst (-1), 1), (26, .istore 4, 2), (28, .iconst 0, 1), (29, .istore 5, 2), (31, .iload 5, 2)], [(33, .aload_n 0, 1), (34, .getfield 351, 3), (37, .if_icmp .ge 51, 3)], [(40, .aload_n 0, 1), (41, .getfield 110, 3), (44, .iload 5, 2), (46, .iaload, 1), (47, .iload_n 1, 1)], [(48, .if_icmp .ne 30, 3), (51, .aload_n 0, 1), (52, .getfield 113, 3), (55, .iload 5, 2)], [(57, .iaload, 1), (58, .iload_n 3, 1), (59, .if_icmp .gt 19, 3), (62, .aload_n 0, 1), (63, .getfield 116, 3)], [(66, .iload 5, 2), (68, .iaload, 1), (69, .iload_n 2, 1), (70, .if_icmp .gt 8, 3)], [(73, .iload 5, 2), (75, .goto 5, 3), (78, .iload 4, 2)], [(80, .istore 4, 2), (82, .iinc 5 1, 3), (85, .goto (-54), 3)], [(88, .iload 4, 2), (90, .ireturn, 1)]]
def pgc206 : List (List (Nat × Instr × Nat)) := [[(0, .iload_n 1, 1), (1, .invokestatic 348, 3), (4, .ifCond .eq 17, 3), (7, .iload_n 2, 1)], [(8, .invokestatic 226, 3), (11, .ifCond .eq 10, 3), (14, .iload_n 3, 1), (15, .invokestatic 226, 3)], [(18, .ifCond .ne 5, 3), (21, .iconst (-1), 1), (22, .ireturn, 1), (23, .aload_n 0, 1)], [(24, .iload_n 1, 1), (25, .iload_n 2, 1), (26, .iload_n 3, 1), (27, .invokevirtual 357, 3), (30, .istore 4, 2)], [(32, .iload 4, 2), (34, .ifCond .ge 8, 3), (37, .bipush (-4), 2), (39, .goto 5, 3)], [(42, .iload 4, 2), (44, .ireturn, 1)]]
def pgc207 : List (List (Nat × Instr × Nat)) := [[(0, .iconst 0, 1), (1, .istore_n 2, 1), (2, .iconst 0, 1), (3, .istore_n 3, 1), (4, .iload_n 3, 1), (5, .aload_n 0, 1), (6, .getfield 216, 3)], [(9, .if_icmp .ge 34, 3), (12, .iload_n 2, 1), (13, .aload_n 0, 1), (14, .iload_n 3, 1), (15, .iconst 0, 1)], [(16, .invokevirtual 264, 3), (19, .iload_n 1, 1), (20, .if_icmp .ne 14, 3), (23, .iconst 1, 1)], [(24, .aload_n 0, 1), (25, .iload_n 3, 1), (26, .iconst 2, 1), (27, .invokevirtual 264, 3), (30, .ishl, 1), (31, .goto 4, 3)], [(34, .iconst 0, 1), (35, .ior, 1), (36, .istore_n 2, 1), (37, .iinc 3 1, 3)], [(40, .goto (-36), 3), (43, .iload_n 2, 1), (44, .invokestatic 360, 3), (47, .ireturn, 1)]]
def pgc208 : List (List (Nat × Instr × Nat)) := [[(0, .iconst 0, 1), (1, .istore_n 1, 1), (2, .iconst 0, 1), (3, .istore_n 2, 1), (4, .iload_n 2, 1), (5, .bipush 31, 2), (7, .if_icmp .ge 17, 3)], [(10, .iload_n 1, 1), (11, .iload_n 0, 1), (12, .iload_n 2, 1), (13, .ishr, 1), (14, .iconst 1, 1), (15, .iand, 1)], [(16, .iadd, 1), (17, .istore_n 1, 1), (18, .iinc 2 1, 3), (21, .goto (-17), 3)], [(24, .iload_n 1, 1), (25, .ireturn, 1)]]
def pgc209 : List (List (Nat × Instr × Nat)) := [[(0, .iconst 0, 1), (1, .istore 5, 2), (3, .iload 5, 2), (5, .bipush 6, 2), (7, .if_icmp .ge 17, 3)], [(10, .aload_n 0, 1), (11, .getfield 156, 3), (14, .iload 5, 2)], [(16, .iconst 0, 1), (17, .iastore, 1), (18, .iinc 5 1, 3), (21, .goto (-18), 3)], [(24, .aload_n 0, 1), (25, .iconst (-1), 1), (26, .putfield 159, 3), (29, .aload_n 0, 1), (30, .getfield 156, 3)], [(33, .bipush 6, 2), (35, .iload_n 3, 1), (36, .sipush 360, 3), (39, .idiv, 1)], [(40, .iastore, 1), (41, .aload_n 0, 1), (42, .getfield 156, 3), (45, .bipush 7, 2), (47, .aload_n 0, 1)], [(48, .iload_n 2, 1), (49, .iload_n 1, 1), (50, .iload 4, 2), (52, .invokevirtual 253, 3), (55, .iastore, 1)], [(56, .aload_n 0, 1), (57, .getfield 156, 3), (60, .bipush 8, 2), (62, .aload_n 0, 1), (63, .getfield 35, 3)], [(66, .iload_n 2, 1), (67, .iaload, 1), (68, .iastore, 1), (69, .aload_n 0, 1), (70, .getfield 156, 3)], [(73, .bipush 9, 2), (75, .aload_n 0, 1), (76, .iload_n 2, 1), (77, .invokevirtual 363, 3)], [(80, .iastore, 1), (81, .return_, 1)]]
def pgc210 : List (List (Nat × Instr × Nat)) := [[(0, .aload_n 0, 1), (1, .bipush 10, 2), (3, .iload_n 1, 1), (4, .imul, 1), (5, .iload_n 2, 1), (6, .iadd, 1), (7, .iload_n 3, 1)], [(8, .iload 4, 2), (10, .invokevirtual 357, 3), (13, .istore 7, 2), (15, .aload_n 0, 1)], [(16, .iconst (-1), 1), (17, .putfield 345, 3), (20, .iload 7, 2), (22, .ifCond .ge 6, 3)], [(25, .iload 5, 2), (27, .ireturn, 1), (28, .aload_n 0, 1), (29, .sipush 160, 3)], [(32, .iload 7, 2), (34, .imul, 1), (35, .aload_n 0, 1), (36, .getfield 107, 3), (39, .iload 7, 2)], [(41, .iaload, 1), (42, .invokevirtual 354, 3), (45, .istore 8, 2), (47, .iload 8, 2)], [(49, .ifCond .ge 7, 3), (52, .iconst 0, 1), (53, .goto 17, 3)], [(56, .iload 8, 2), (58, .iload 6, 2), (60, .if_icmp .le 8, 3), (63, .iload 6, 2)], [(65, .goto 5, 3), (68, .iload 8, 2), (70, .ireturn, 1)]]
def pgc211 : List (List (Nat × Instr × Nat)) := [[(0, .aload_n 0, 1), (1, .iload_n 1, 1), (2, .iload_n 2, 1), (3, .iload_n 3, 1), (4, .iload 4, 2), (6, .invokevirtual 366, 3)], [(9, .iload 5, 2), (11, .iconst 1, 1), (12, .if_icmp .ne 19, 3), (15, .aload_n 0, 1)], [(16, .iload_n 1, 1), (17, .iconst 1, 1), (18, .iload_n 3, 1), (19, .iload 4, 2), (21, .bipush 30, 2), (23, .bipush 100, 2)], [(25, .invokevirtual 370, 3), (28, .goto 37, 3), (31, .iload 5, 2)], [(33, .iconst 2, 1), (34, .if_icmp .ne 18, 3), (37, .aload_n 0, 1), (38, .iload_n 1, 1), (39, .iconst 2, 1)], [(40, .iload_n 3, 1), (41, .iload 4, 2), (43, .iconst 0, 1), (44, .ldc 202, 2), (46, .invokevirtual 370, 3)], [(49, .goto 16, 3), (52, .aload_n 0, 1), (53, .iload_n 1, 1), (54, .iconst 3, 1), (55, .iload_n 3, 1)], [(56, .iload 4, 2), (58, .ldc 202, 2), (60, .ldc 202, 2), (62, .invokevirtual 370, 3)], [(65, .ireturn, 1)]]
def pgc212 : List (List (Nat × Instr × Nat)) := [[(0, .iload_n 1, 1), (1, .invokestatic 222, 3), (4, .ifCond .eq 50, 3), (7, .aload_n 0, 1)], [(8, .iload_n 2, 1), (9, .invokevirtual 237, 3), (12, .ifCond .eq 42, 3), (15, .iload_n 3, 1)], [(16, .invokestatic 226, 3), (19, .ifCond .eq 35, 3), (22, .iload 4, 2)], [(24, .invokestatic 226, 3), (27, .ifCond .eq 27, 3), (30, .iload 5, 2)], [(32, .iconst 1, 1), (33, .iconst 3, 1), (34, .invokestatic 203, 3), (37, .ifCond .eq 17, 3)], [(40, .aload_n 0, 1), (41, .iload_n 1, 1), (42, .iload_n 2, 1), (43, .iload_n 3, 1), (44, .iload 4, 2), (46, .iload 5, 2)], [(48, .invokevirtual 374, 3), (51, .goto 4, 3), (54, .iconst (-1), 1), (55, .ireturn, 1)]]
def pgc213 : List (List (Nat × Instr × Nat)) := [[(0, .aload_n 0, 1), (1, .iload_n 1, 1), (2, .iconst 2, 1), (3, .invokevirtual 264, 3), (6, .istore_n 3, 1), (7, .aload_n 0, 1)], [(8, .getfield 71, 3), (11, .iload_n 1, 1), (12, .iaload, 1), (13, .invokestatic 257, 3)], [(16, .ifCond .eq 26, 3), (19, .aload_n 0, 1), (20, .getfield 23, 3), (23, .aload_n 0, 1)], [(24, .iload_n 1, 1), (25, .iconst 4, 1), (26, .invokevirtual 264, 3), (29, .iaload, 1), (30, .iload_n 3, 1), (31, .if_icmp .ne 7, 3)], [(34, .iconst 1, 1), (35, .goto 25, 3), (38, .iconst 0, 1), (39, .goto 21, 3)], [(42, .aload_n 0, 1), (43, .aload_n 0, 1), (44, .iload_n 1, 1), (45, .iconst 4, 1), (46, .invokevirtual 264, 3)], [(49, .iload_n 3, 1), (50, .aload_n 0, 1), (51, .iload_n 1, 1), (52, .iconst 3, 1), (53, .invokevirtual 264, 3)], [(56, .iload_n 2, 1), (57, .invokevirtual 246, 3), (60, .ireturn, 1)]]
def pgc214 : List (List (Nat × Instr × Nat)) := [[(0, .aload_n 0, 1), (1, .iload_n 1, 1), (2, .iconst 2, 1), (3, .invokevirtual 264, 3), (6, .istore_n 3, 1), (7, .aload_n 0, 1)], [(8, .iload_n 1, 1), (9, .iconst 3, 1), (10, .invokevirtual 264, 3), (13, .istore 4, 2), (15, .aload_n 0, 1)], [(16, .iload_n 3, 1), (17, .aload_n 0, 1), (18, .iload_n 1, 1), (19, .iconst 0, 1), (20, .invokevirtual 264, 3), (23, .iload 4, 2)], [(25, .iload_n 2, 1), (26, .invokevirtual 366, 3), (29, .aload_n 0, 1), (30, .bipush 10, 2)], [(32, .iload_n 3, 1), (33, .imul, 1), (34, .iconst 4, 1), (35, .iadd, 1), (36, .iload 4, 2), (38, .iload_n 2, 1), (39, .invokevirtual 357, 3)], [(42, .istore 5, 2), (44, .iload 5, 2), (46, .ifCond .lt 27, 3)], [(49, .aload_n 0, 1), (50, .sipush 160, 3), (53, .iload 5, 2), (55, .imul, 1)], [(56, .aload_n 0, 1), (57, .getfield 107, 3), (60, .iload 5, 2), (62, .iaload, 1), (63, .invokevirtual 354, 3)], [(66, .ifCond .eq 7, 3), (69, .iconst 1, 1), (70, .goto 4, 3)], [(73, .iconst 0, 1), (74, .ireturn, 1)]]
def pgc215 : List (List (Nat × Instr × Nat)) := [[(0, .aload_n 0, 1), (1, .iload_n 1, 1), (2, .iconst 2, 1), (3, .invokevirtual 264, 3), (6, .istore_n 3, 1), (7, .aload_n 0, 1)], [(8, .iload_n 1, 1), (9, .iconst 3, 1), (10, .invokevirtual 264, 3), (13, .istore 4, 2), (15, .aload_n 0, 1)], [(16, .iload_n 1, 1), (17, .invokevirtual 378, 3), (20, .ifCond .eq 16, 3), (23, .aload_n 0, 1)], [(24, .iload_n 1, 1), (25, .iload_n 2, 1), (26, .invokevirtual 381, 3), (29, .ifCond .ne 7, 3)], [(32, .iconst 1, 1), (33, .goto 4, 3), (36, .iconst 0, 1), (37, .istore 5, 2), (39, .aload_n 0, 1)], [(40, .iload_n 3, 1), (41, .aload_n 0, 1), (42, .iload_n 1, 1), (43, .iconst 0, 1), (44, .invokevirtual 264, 3), (47, .iload 4, 2)], [(49, .iload_n 2, 1), (50, .invokevirtual 366, 3), (53, .aload_n 0, 1), (54, .getfield 156, 3)], [(57, .iconst 0, 1), (58, .aload_n 0, 1), (59, .getfield 71, 3), (62, .iload_n 1, 1), (63, .iaload, 1)], [(64, .iastore, 1), (65, .aload_n 0, 1), (66, .getfield 156, 3), (69, .iconst 1, 1), (70, .aload_n 0, 1), (71, .iload_n 1, 1)], [(72, .bipush 6, 2), (74, .invokevirtual 264, 3), (77, .iastore, 1), (78, .aload_n 0, 1), (79, .getfield 156, 3)], [(82, .iconst 2, 1), (83, .aload_n 0, 1), (84, .iload_n 1, 1), (85, .iload_n 2, 1), (86, .invokevirtual 267, 3)], [(89, .iastore, 1), (90, .aload_n 0, 1), (91, .getfield 156, 3), (94, .iconst 4, 1), (95, .aload_n 0, 1)], [(96, .iload_n 1, 1), (97, .iload_n 2, 1), (98, .invokevirtual 279, 3), (101, .ifCond .eq 7, 3)], [(104, .iconst 1, 1), (105, .goto 4, 3), (108, .iconst 0, 1), (109, .iastore, 1), (110, .aload_n 0, 1), (111, .getfield 156, 3)], [(114, .iconst 5, 1), (115, .aload_n 0, 1), (116, .iload_n 1, 1), (117, .iconst 1, 1), (118, .invokevirtual 264, 3)], [(121, .iastore, 1), (122, .aload_n 0, 1), (123, .iload_n 1, 1), (124, .putfield 159, 3), (127, .aload_n 0, 1)], [(128, .iload_n 2, 1), (129, .putfield 323, 3), (132, .aload_n 0, 1), (133, .iload_n 3, 1), (134, .iconst 0, 1), (135, .iload 4, 2)], [(137, .iload_n 2, 1), (138, .bipush 100, 2), (140, .bipush 100, 2), (142, .invokevirtual 370, 3)], [(145, .istore 6, 2), (147, .aload_n 0, 1), (148, .iload_n 1, 1), (149, .iload_n 2, 1), (150, .invokevirtual 384, 3)], [(153, .i2l, 1), (154, .aload_n 0, 1), (155, .iload_n 3, 1), (156, .iload 4, 2), (158, .invokevirtual 230, 3)], [(161, .i2l, 1), (162, .lmul, 1), (163, .ldc2_w 387, 3), (166, .ldiv, 1), (167, .lstore 7, 2)], [(169, .lload 7, 2), (171, .iload 6, 2), (173, .i2l, 1), (174, .lmul, 1), (175, .ldc2_w 389, 3)], [(178, .ldiv, 1), (179, .lstore 7, 2), (181, .aload_n 0, 1), (182, .iload 5, 2)], [(184, .ifCond .eq 7, 3), (187, .iconst (-1), 1), (188, .goto 7, 3), (191, .aload_n 0, 1)], [(192, .getfield 345, 3), (195, .putfield 345, 3), (198, .iload 5, 2)], [(200, .ifCond .eq 7, 3), (203, .iconst 0, 1), (204, .goto 21, 3), (207, .lload 7, 2)], [(209, .ldc2_w 391, 3), (212, .lcmp, 1), (213, .ifCond .le 9, 3)], [(216, .ldc2_w 391, 3), (219, .goto 5, 3), (222, .lload 7, 2)], [(224, .l2i, 1), (225, .ireturn, 1)]]
def pgc216 : List (List (Nat × Instr × Nat)) := [[(0, .aload_n 0, 1), (1, .iload_n 1, 1), (2, .invokevirtual 260, 3), (5, .ifCond .eq 19, 3)], [(8, .iload_n 2, 1), (9, .invokestatic 226, 3), (12, .ifCond .eq 12, 3), (15, .iload_n 3, 1)], [(16, .iconst 0, 1), (17, .iconst 3, 1), (18, .invokestatic 203, 3), (21, .ifCond .ne 5, 3)], [(24, .iconst (-1), 1), (25, .ireturn, 1), (26, .aload_n 0, 1), (27, .iload_n 1, 1), (28, .iload_n 2, 1), (29, .invokevirtual 393, 3)], [(32, .istore 4, 2), (34, .iload_n 3, 1), (35, .ifCond .ne 12, 3), (38, .aload_n 0, 1), (39, .iload_n 1, 1)], [(40, .iload_n 2, 1), (41, .invokevirtual 384, 3), (44, .goto 38, 3), (47, .iload_n 3, 1)], [(48, .iconst 1, 1), (49, .if_icmp .ne 19, 3), (52, .aload_n 0, 1), (53, .iload_n 1, 1), (54, .invokevirtual 378, 3)], [(57, .ifCond .eq 7, 3), (60, .iconst 1, 1), (61, .goto 21, 3)], [(64, .iconst 0, 1), (65, .goto 17, 3), (68, .iload_n 3, 1), (69, .iconst 2, 1), (70, .if_icmp .ne 8, 3)], [(73, .iload 4, 2), (75, .goto 7, 3), (78, .aload_n 0, 1), (79, .getfield 345, 3)], [(82, .ireturn, 1)]]
def pgc217 : List (List (Nat × Instr × Nat)) := [[(0, .lconst 0, 1), (1, .lstore 5, 2), (3, .iconst 0, 1), (4, .istore 7, 2), (6, .iload 7, 2)], [(8, .aload_n 0, 1), (9, .getfield 216, 3), (12, .if_icmp .ge 60, 3), (15, .aload_n 0, 1)], [(16, .iload 7, 2), (18, .iconst 0, 1), (19, .invokevirtual 264, 3), (22, .iload_n 1, 1), (23, .if_icmp .ne 43, 3)], [(26, .aload_n 0, 1), (27, .iload 7, 2), (29, .iconst 2, 1), (30, .invokevirtual 264, 3)], [(33, .iload_n 2, 1), (34, .if_icmp .ne 32, 3), (37, .iload_n 3, 1), (38, .ifCond .lt 14, 3)], [(41, .aload_n 0, 1), (42, .iload 7, 2), (44, .iconst 1, 1), (45, .invokevirtual 264, 3)], [(48, .iload_n 3, 1), (49, .if_icmp .ne 17, 3), (52, .lload 5, 2), (54, .aload_n 0, 1), (55, .iload 7, 2)], [(57, .iload 4, 2), (59, .invokevirtual 393, 3), (62, .i2l, 1), (63, .ladd, 1)], [(64, .lstore 5, 2), (66, .iinc 7 1, 3), (69, .goto (-63), 3)], [(72, .lload 5, 2), (74, .ldc2_w 391, 3), (77, .lcmp, 1), (78, .ifCond .le 9, 3)], [(81, .ldc2_w 391, 3), (84, .goto 5, 3), (87, .lload 5, 2)], [(89, .l2i, 1), (90, .ireturn, 1)]]
def pgc218 : List (List (Nat × Instr × Nat)) := [[(0, .aload_n 0, 1), (1, .iload_n 2, 1), (2, .iload_n 1, 1), (3, .iload_n 3, 1), (4, .iload_n 3, 1), (5, .iconst 1, 1), (6, .invokevirtual 374, 3)], [(9, .istore 4, 2), (11, .aload_n 0, 1), (12, .iload_n 2, 1), (13, .iload_n 1, 1), (14, .iload_n 3, 1), (15, .iload_n 3, 1)], [(16, .iconst 2, 1), (17, .invokevirtual 374, 3), (20, .istore 5, 2), (22, .aload_n 0, 1), (23, .iload_n 2, 1)], [(24, .iload_n 1, 1), (25, .iload_n 3, 1), (26, .iload_n 3, 1), (27, .iconst 3, 1), (28, .invokevirtual 374, 3), (31, .istore 6, 2)], [(33, .aload_n 0, 1), (34, .iload_n 1, 1), (35, .iload_n 2, 1), (36, .iload_n 3, 1), (37, .invokevirtual 253, 3)], [(40, .iload 5, 2), (42, .if_icmp .ge 5, 3), (45, .iconst 0, 1), (46, .ireturn, 1), (47, .aload_n 0, 1)], [(48, .iload_n 1, 1), (49, .iload_n 2, 1), (50, .iconst (-1), 1), (51, .iload_n 3, 1), (52, .invokevirtual 396, 3), (55, .i2l, 1)], [(56, .iload 4, 2), (58, .i2l, 1), (59, .lmul, 1), (60, .ldc2_w 389, 3), (63, .ldiv, 1)], [(64, .lstore 7, 2), (66, .lload 7, 2), (68, .iload 6, 2), (70, .i2l, 1), (71, .lcmp, 1)], [(72, .ifCond .ge 8, 3), (75, .lload 7, 2), (77, .goto 6, 3)], [(80, .iload 6, 2), (82, .i2l, 1), (83, .l2i, 1), (84, .ireturn, 1)]]
def pgc219 : List (List (Nat × Instr × Nat)) := [[(0, .aload_n 0, 1), (1, .iload_n 1, 1), (2, .invokevirtual 237, 3), (5, .ifCond .eq 66, 3)], [(8, .iload_n 2, 1), (9, .invokestatic 222, 3), (12, .ifCond .eq 59, 3), (15, .iload_n 3, 1)], [(16, .iconst (-1), 1), (17, .aload_n 0, 1), (18, .getfield 35, 3), (21, .aload_n 0, 1), (22, .iload_n 1, 1), (23, .invokevirtual 237, 3)], [(26, .ifCond .eq 7, 3), (29, .iload_n 1, 1), (30, .goto 4, 3)], [(33, .iconst 0, 1), (34, .iaload, 1), (35, .iconst 1, 1), (36, .isub, 1), (37, .invokestatic 203, 3)], [(40, .ifCond .eq 31, 3), (43, .iload 4, 2), (45, .invokestatic 226, 3)], [(48, .ifCond .eq 23, 3), (51, .iload 5, 2), (53, .iconst 0, 1), (54, .iconst 1, 1), (55, .invokestatic 203, 3)], [(58, .ifCond .eq 13, 3), (61, .iload 5, 2), (63, .iconst 1, 1)], [(64, .if_icmp .ne 9, 3), (67, .iload_n 3, 1), (68, .ifCond .lt 5, 3), (71, .iconst (-1), 1)], [(72, .ireturn, 1), (73, .iload 5, 2), (75, .ifCond .ne 15, 3), (78, .aload_n 0, 1), (79, .iload_n 1, 1)], [(80, .iload_n 2, 1), (81, .iload_n 3, 1), (82, .iload 4, 2), (84, .invokevirtual 396, 3), (87, .goto 11, 3)], [(90, .aload_n 0, 1), (91, .iload_n 1, 1), (92, .iload_n 2, 1), (93, .iload 4, 2), (95, .invokevirtual 400, 3)], [(98, .ireturn, 1)]]
def pgc220 : List (List (Nat × Instr × Nat)) := [[(0, .iload_n 1, 1), (1, .invokestatic 222, 3), (4, .ifCond .eq 20, 3), (7, .iload_n 2, 1)], [(8, .invokestatic 403, 3), (11, .ifCond .eq 13, 3), (14, .iload_n 3, 1), (15, .iconst 0, 1)], [(16, .ldc 202, 2), (18, .invokestatic 203, 3), (21, .ifCond .ne 5, 3)], [(24, .iconst (-1), 1), (25, .ireturn, 1), (26, .aload_n 0, 1), (27, .getfield 119, 3), (30, .bipush 10, 2)], [(32, .iload_n 1, 1), (33, .imul, 1), (34, .iload_n 2, 1), (35, .iadd, 1), (36, .iaload, 1), (37, .istore 4, 2), (39, .aload_n 0, 1)], [(40, .getfield 119, 3), (43, .bipush 10, 2), (45, .iload_n 1, 1), (46, .imul, 1), (47, .iload_n 2, 1)], [(48, .iadd, 1), (49, .iload_n 3, 1), (50, .iastore, 1), (51, .iload 4, 2), (53, .ireturn, 1)]]
def pgc221 : List (List (Nat × Instr × Nat)) := [[(0, .aload_n 0, 1), (1, .iload_n 1, 1), (2, .invokevirtual 237, 3), (5, .ifCond .eq 10, 3)], [(8, .iload_n 2, 1), (9, .invokestatic 222, 3), (12, .ifCond .ne 5, 3), (15, .iconst (-1), 1)], [(16, .ireturn, 1), (17, .iconst 0, 1), (18, .istore_n 3, 1), (19, .iload_n 3, 1), (20, .aload_n 0, 1), (21, .getfield 406, 3)], [(24, .if_icmp .ge 32, 3), (27, .aload_n 0, 1), (28, .getfield 122, 3), (31, .iload_n 3, 1)], [(32, .iaload, 1), (33, .iload_n 1, 1), (34, .if_icmp .ne 16, 3), (37, .aload_n 0, 1), (38, .getfield 125, 3)], [(41, .iload_n 3, 1), (42, .iaload, 1), (43, .iload_n 2, 1), (44, .if_icmp .ne 6, 3), (47, .bipush (-3), 2)], [(49, .ireturn, 1), (50, .iinc 3 1, 3), (53, .goto (-34), 3)], [(56, .aload_n 0, 1), (57, .getfield 406, 3), (60, .bipush 60, 2), (62, .if_icmp .ne 6, 3)], [(65, .bipush (-2), 2), (67, .ireturn, 1), (68, .aload_n 0, 1), (69, .getfield 122, 3)], [(72, .aload_n 0, 1), (73, .getfield 406, 3), (76, .iload_n 1, 1), (77, .iastore, 1), (78, .aload_n 0, 1), (79, .getfield 125, 3)], [(82, .aload_n 0, 1), (83, .getfield 406, 3), (86, .iload_n 2, 1), (87, .iastore, 1)], [(88, .aload_n 0, 1), (89, .getfield 128, 3), (92, .aload_n 0, 1), (93, .getfield 406, 3)], [(96, .aload_n 0, 1), (97, .getfield 219, 3), (100, .iastore, 1), (101, .aload_n 0, 1), (102, .getfield 131, 3)], [(105, .aload_n 0, 1), (106, .getfield 406, 3), (109, .iconst (-1), 1), (110, .iastore, 1), (111, .aload_n 0, 1)], [(112, .dup, 1), (113, .getfield 406, 3), (116, .iconst 1, 1), (117, .iadd, 1), (118, .putfield 406, 3)], [(121, .aload_n 0, 1), (122, .getfield 406, 3), (125, .iconst 1, 1), (126, .isub, 1), (127, .ireturn, 1)]]
def pgc222 : List (List (Nat × Instr × Nat)) := [[(0, .iconst 0, 1), (1, .istore_n 2, 1), (2, .iload_n 2, 1), (3, .aload_n 0, 1), (4, .getfield 406, 3), (7, .if_icmp .ge 51, 3)], [(10, .aload_n 0, 1), (11, .getfield 165, 3), (14, .iload_n 2, 1), (15, .aload_n 0, 1)], [(16, .getfield 125, 3), (19, .iload_n 2, 1), (20, .iaload, 1), (21, .iload_n 1, 1), (22, .if_icmp .ne 21, 3)], [(25, .aload_n 0, 1), (26, .aload_n 0, 1), (27, .getfield 122, 3), (30, .iload_n 2, 1), (31, .iaload, 1)], [(32, .iload_n 1, 1), (33, .aload_n 0, 1), (34, .getfield 219, 3), (37, .invokevirtual 400, 3)], [(40, .goto 4, 3), (43, .iconst 0, 1), (44, .iastore, 1), (45, .aload_n 0, 1), (46, .getfield 168, 3)], [(49, .iload_n 2, 1), (50, .iconst 0, 1), (51, .iastore, 1), (52, .iinc 2 1, 3), (55, .goto (-53), 3)], [(58, .return_, 1)]]
def pgc223 : List (List (Nat × Instr × Nat)) := [[(0, .aload_n 0, 1), (1, .getfield 119, 3), (4, .bipush 10, 2), (6, .iload_n 1, 1), (7, .imul, 1)], [(8, .iload_n 2, 1), (9, .iadd, 1), (10, .iaload, 1), (11, .istore_n 3, 1), (12, .iconst 0, 1), (13, .istore 4, 2), (15, .iload 4, 2)], [(17, .aload_n 0, 1), (18, .getfield 406, 3), (21, .if_icmp .ge 100, 3)], [(24, .aload_n 0, 1), (25, .getfield 171, 3), (28, .iload 4, 2), (30, .iconst 0, 1), (31, .iastore, 1)], [(32, .aload_n 0, 1), (33, .getfield 125, 3), (36, .iload 4, 2), (38, .iaload, 1), (39, .iload_n 1, 1)], [(40, .if_icmp .ne 75, 3), (43, .aload_n 0, 1), (44, .getfield 128, 3), (47, .iload 4, 2)], [(49, .iaload, 1), (50, .sipush 360, 3), (53, .idiv, 1), (54, .iload_n 2, 1), (55, .if_icmp .gt 60, 3)], [(58, .aload_n 0, 1), (59, .getfield 165, 3), (62, .iload 4, 2)], [(64, .iaload, 1), (65, .aload_n 0, 1), (66, .getfield 168, 3), (69, .iload 4, 2), (71, .iaload, 1)], [(72, .isub, 1), (73, .istore 5, 2), (75, .iload 5, 2), (77, .iload_n 3, 1), (78, .if_icmp .ge 8, 3)], [(81, .iload 5, 2), (83, .goto 4, 3), (86, .iload_n 3, 1), (87, .istore 5, 2)], [(89, .aload_n 0, 1), (90, .getfield 171, 3), (93, .iload 4, 2), (95, .iload 5, 2)], [(97, .iastore, 1), (98, .aload_n 0, 1), (99, .getfield 168, 3), (102, .iload 4, 2)], [(104, .dup2, 1), (105, .iaload, 1), (106, .iload 5, 2), (108, .iadd, 1), (109, .iastore, 1), (110, .iload_n 3, 1), (111, .iload 5, 2)], [(113, .isub, 1), (114, .istore_n 3, 1), (115, .iinc 4 1, 3), (118, .goto (-103), 3)], [(121, .return_, 1)]]
def pgc224 : List (List (Nat × Instr × Nat)) := [[(0, .iload_n 1, 1), (1, .ifCond .lt 15, 3), (4, .iload_n 1, 1), (5, .aload_n 0, 1), (6, .getfield 406, 3)], [(9, .if_icmp .ge 7, 3), (12, .iconst 1, 1), (13, .goto 4, 3)], [(16, .iconst 0, 1), (17, .ireturn, 1)]]
def pgc225 : List (List (Nat × Instr × Nat)) := [[(0, .aload_n 0, 1), (1, .aload_n 0, 1), (2, .getfield 125, 3), (5, .iload_n 1, 1), (6, .iaload, 1), (7, .invokevirtual 409, 3)], [(10, .iconst 0, 1), (11, .istore_n 2, 1), (12, .iload_n 2, 1), (13, .aload_n 0, 1), (14, .getfield 219, 3)], [(17, .sipush 360, 3), (20, .idiv, 1), (21, .if_icmp .gt 20, 3)], [(24, .aload_n 0, 1), (25, .aload_n 0, 1), (26, .getfield 125, 3), (29, .iload_n 1, 1), (30, .iaload, 1), (31, .iload_n 2, 1)], [(32, .invokevirtual 413, 3), (35, .iinc 2 1, 3), (38, .goto (-26), 3)], [(41, .aload_n 0, 1), (42, .getfield 168, 3), (45, .iload_n 1, 1), (46, .iaload, 1), (47, .ireturn, 1)]]
def pgc226 : List (List (Nat × Instr × Nat)) := [[(0, .aload_n 0, 1), (1, .iload_n 1, 1), (2, .invokevirtual 417, 3), (5, .ifCond .eq 19, 3)], [(8, .iload_n 2, 1), (9, .iconst (-1), 1), (10, .aload_n 0, 1), (11, .getfield 219, 3), (14, .sipush 360, 3)], [(17, .idiv, 1), (18, .invokestatic 203, 3), (21, .ifCond .ne 5, 3)], [(24, .iconst (-1), 1), (25, .ireturn, 1), (26, .iload_n 2, 1), (27, .ifCond .ge 9, 3), (30, .aload_n 0, 1), (31, .iload_n 1, 1)], [(32, .invokevirtual 420, 3), (35, .ireturn, 1), (36, .aload_n 0, 1), (37, .aload_n 0, 1), (38, .getfield 125, 3)], [(41, .iload_n 1, 1), (42, .iaload, 1), (43, .invokevirtual 409, 3), (46, .iconst 0, 1), (47, .istore_n 3, 1)], [(48, .iload_n 3, 1), (49, .iload_n 2, 1), (50, .if_icmp .gt 20, 3), (53, .aload_n 0, 1), (54, .aload_n 0, 1), (55, .getfield 125, 3)], [(58, .iload_n 1, 1), (59, .iaload, 1), (60, .iload_n 3, 1), (61, .invokevirtual 413, 3)], [(64, .iinc 3 1, 3), (67, .goto (-19), 3), (70, .aload_n 0, 1), (71, .getfield 171, 3)], [(74, .iload_n 1, 1), (75, .iaload, 1), (76, .ireturn, 1)]]
def pgc227 : List (List (Nat × Instr × Nat)) := [[(0, .aload_n 0, 1), (1, .iload_n 1, 1), (2, .invokevirtual 417, 3), (5, .ifCond .ne 5, 3)], [(8, .iconst (-1), 1), (9, .ireturn, 1), (10, .aload_n 0, 1), (11, .aload_n 0, 1), (12, .getfield 125, 3), (15, .iload_n 1, 1)], [(16, .iaload, 1), (17, .invokevirtual 409, 3), (20, .iconst 0, 1), (21, .istore_n 2, 1), (22, .iload_n 2, 1), (23, .bipush 10, 2)], [(25, .if_icmp .ge 51, 3), (28, .aload_n 0, 1), (29, .aload_n 0, 1), (30, .getfield 125, 3)], [(33, .iload_n 1, 1), (34, .iaload, 1), (35, .iload_n 2, 1), (36, .invokevirtual 413, 3), (39, .aload_n 0, 1)], [(40, .getfield 128, 3), (43, .iload_n 1, 1), (44, .iaload, 1), (45, .sipush 360, 3)], [(48, .idiv, 1), (49, .iload_n 2, 1), (50, .if_icmp .gt 20, 3), (53, .aload_n 0, 1), (54, .getfield 168, 3)], [(57, .iload_n 1, 1), (58, .iaload, 1), (59, .aload_n 0, 1), (60, .getfield 165, 3), (63, .iload_n 1, 1)], [(64, .iaload, 1), (65, .if_icmp .ne 5, 3), (68, .iload_n 2, 1), (69, .ireturn, 1), (70, .iinc 2 1, 3)], [(73, .goto (-51), 3), (76, .bipush (-4), 2), (78, .ireturn, 1)]]
def pgc228 : List (List (Nat × Instr × Nat)) := [[(0, .aload_n 0, 1), (1, .iload_n 1, 1), (2, .invokevirtual 417, 3), (5, .ifCond .eq 33, 3)], [(8, .iload_n 2, 1), (9, .iconst 0, 1), (10, .bipush 19, 2), (12, .invokestatic 203, 3), (15, .ifCond .eq 23, 3)], [(18, .iload_n 3, 1), (19, .iconst 1, 1), (20, .ldc 202, 2), (22, .invokestatic 203, 3)], [(25, .ifCond .eq 13, 3), (28, .iload 4, 2), (30, .iconst 0, 1), (31, .iconst 2, 1)], [(32, .invokestatic 203, 3), (35, .ifCond .ne 5, 3), (38, .iconst (-1), 1), (39, .ireturn, 1)], [(40, .aload_n 0, 1), (41, .getfield 134, 3), (44, .iload_n 1, 1), (45, .baload, 1), (46, .ifCond .eq 6, 3)], [(49, .bipush (-3), 2), (51, .ireturn, 1), (52, .aload_n 0, 1), (53, .getfield 423, 3)], [(56, .bipush 60, 2), (58, .if_icmp .ne 6, 3), (61, .bipush (-2), 2), (63, .ireturn, 1)], [(64, .aload_n 0, 1), (65, .getfield 138, 3), (68, .aload_n 0, 1), (69, .getfield 423, 3)], [(72, .iload_n 1, 1), (73, .iastore, 1), (74, .aload_n 0, 1), (75, .getfield 141, 3), (78, .aload_n 0, 1), (79, .getfield 423, 3)], [(82, .iload_n 3, 1), (83, .iastore, 1), (84, .aload_n 0, 1), (85, .getfield 144, 3)], [(88, .aload_n 0, 1), (89, .getfield 423, 3), (92, .iload 4, 2), (94, .iastore, 1), (95, .aload_n 0, 1)], [(96, .dup, 1), (97, .getfield 423, 3), (100, .iconst 1, 1), (101, .iadd, 1), (102, .putfield 423, 3)], [(105, .aload_n 0, 1), (106, .getfield 423, 3), (109, .iconst 1, 1), (110, .isub, 1), (111, .ireturn, 1)]]
def pgc229 : List (List (Nat × Instr × Nat)) := [[(0, .lconst 0, 1), (1, .lstore 4, 2), (3, .iconst 0, 1), (4, .istore 6, 2), (6, .iload 6, 2)], [(8, .aload_n 0, 1), (9, .getfield 423, 3), (12, .if_icmp .ge 56, 3), (15, .lload 4, 2)], [(17, .aload_n 0, 1), (18, .getfield 138, 3), (21, .iload 6, 2), (23, .iaload, 1)], [(24, .iload_n 1, 1), (25, .if_icmp .ne 33, 3), (28, .aload_n 0, 1), (29, .getfield 144, 3)], [(32, .iload 6, 2), (34, .iaload, 1), (35, .iload_n 2, 1), (36, .if_icmp .ne 22, 3), (39, .aload_n 0, 1)], [(40, .getfield 141, 3), (43, .iload 6, 2), (45, .iaload, 1), (46, .aload_n 0, 1), (47, .getfield 147, 3)], [(50, .iload 6, 2), (52, .iaload, 1), (53, .isub, 1), (54, .i2l, 1), (55, .goto 4, 3)], [(58, .lconst 0, 1), (59, .ladd, 1), (60, .lstore 4, 2), (62, .iinc 6 1, 3)], [(65, .goto (-59), 3), (68, .lload 4, 2), (70, .lconst 0, 1), (71, .lcmp, 1)], [(72, .ifCond .ne 5, 3), (75, .iconst 0, 1), (76, .ireturn, 1), (77, .lload 4, 2), (79, .iload_n 3, 1)], [(80, .i2l, 1), (81, .lcmp, 1), (82, .ifCond .ge 9, 3), (85, .lload 4, 2), (87, .l2i, 1)], [(88, .goto 4, 3), (91, .iload_n 3, 1), (92, .istore 6, 2), (94, .iload 6, 2)], [(96, .istore 7, 2), (98, .iconst 0, 1), (99, .istore 8, 2), (101, .iload 8, 2), (103, .aload_n 0, 1)], [(104, .getfield 423, 3), (107, .if_icmp .ge 102, 3), (110, .aload_n 0, 1), (111, .getfield 174, 3)], [(114, .iload 8, 2), (116, .ldc2_w 426, 3), (119, .lastore, 1)], [(120, .aload_n 0, 1), (121, .getfield 138, 3), (124, .iload 8, 2), (126, .iaload, 1), (127, .iload_n 1, 1)], [(128, .if_icmp .ne 75, 3), (131, .aload_n 0, 1), (132, .getfield 144, 3), (135, .iload 8, 2)], [(137, .iaload, 1), (138, .iload_n 2, 1), (139, .if_icmp .ne 64, 3), (142, .iload 6, 2)], [(144, .i2l, 1), (145, .aload_n 0, 1), (146, .getfield 141, 3), (149, .iload 8, 2), (151, .iaload, 1)], [(152, .aload_n 0, 1), (153, .getfield 147, 3), (156, .iload 8, 2), (158, .iaload, 1), (159, .isub, 1)], [(160, .i2l, 1), (161, .lmul, 1), (162, .lstore 9, 2), (164, .lload 9, 2), (166, .lload 4, 2)], [(168, .ldiv, 1), (169, .l2i, 1), (170, .istore 11, 2), (172, .aload_n 0, 1), (173, .getfield 174, 3)], [(176, .iload 8, 2), (178, .lload 9, 2), (180, .lload 4, 2), (182, .lrem, 1), (183, .lastore, 1)], [(184, .aload_n 0, 1), (185, .getfield 147, 3), (188, .iload 8, 2), (190, .dup2, 1), (191, .iaload, 1)], [(192, .iload 11, 2), (194, .iadd, 1), (195, .iastore, 1), (196, .iload 7, 2), (198, .iload 11, 2)], [(200, .isub, 1), (201, .istore 7, 2), (203, .iinc 8 1, 3), (206, .goto (-105), 3)], [(209, .iload 7, 2), (211, .ifCond .le 78, 3), (214, .iconst 0, 1), (215, .istore 8, 2)], [(217, .iconst 1, 1), (218, .istore 9, 2), (220, .iload 9, 2), (222, .aload_n 0, 1), (223, .getfield 423, 3)], [(226, .if_icmp .ge 36, 3), (229, .aload_n 0, 1), (230, .getfield 174, 3)], [(233, .iload 9, 2), (235, .laload, 1), (236, .aload_n 0, 1), (237, .getfield 174, 3)], [(240, .iload 8, 2), (242, .laload, 1), (243, .lcmp, 1), (244, .ifCond .le 8, 3), (247, .iload 9, 2)], [(249, .goto 5, 3), (252, .iload 8, 2), (254, .istore 8, 2)], [(256, .iinc 9 1, 3), (259, .goto (-39), 3), (262, .aload_n 0, 1), (263, .getfield 147, 3)], [(266, .iload 8, 2), (268, .dup2, 1), (269, .iaload, 1), (270, .iconst 1, 1), (271, .iadd, 1)], [(272, .iastore, 1), (273, .aload_n 0, 1), (274, .getfield 174, 3), (277, .iload 8, 2), (279, .ldc2_w 426, 3)], [(282, .lastore, 1), (283, .iinc 7 (-1), 3), (286, .goto (-77), 3)], [(289, .iload 6, 2), (291, .ireturn, 1)]]
def pgc230 : List (List (Nat × Instr × Nat)) := [[(0, .iload_n 2, 1), (1, .istore_n 3, 1), (2, .iconst 0, 1), (3, .istore 4, 2), (5, .iload 4, 2), (7, .iconst 3, 1)], [(8, .if_icmp .ge 20, 3), (11, .iload_n 3, 1), (12, .aload_n 0, 1), (13, .iload_n 1, 1), (14, .iload 4, 2)], [(16, .iload_n 3, 1), (17, .invokevirtual 428, 3), (20, .isub, 1), (21, .istore_n 3, 1), (22, .iinc 4 1, 3)], [(25, .goto (-20), 3), (28, .aload_n 0, 1), (29, .getfield 26, 3)], [(32, .aload_n 0, 1), (33, .getfield 32, 3), (36, .aload_n 0, 1), (37, .getfield 122, 3)], [(40, .iload_n 1, 1), (41, .iaload, 1), (42, .iaload, 1), (43, .dup2, 1), (44, .iaload, 1), (45, .iload_n 3, 1), (46, .iadd, 1), (47, .iastore, 1)], [(48, .return_, 1)]]
def pgc231 : List (List (Nat × Instr × Nat)) := [[(0, .aload_n 0, 1), (1, .iload_n 1, 1), (2, .invokevirtual 417, 3), (5, .ifCond .ne 5, 3)], [(8, .iconst (-1), 1), (9, .ireturn, 1), (10, .aload_n 0, 1), (11, .getfield 131, 3), (14, .iload_n 1, 1), (15, .iaload, 1)], [(16, .ifCond .ge 12, 3), (19, .aload_n 0, 1), (20, .getfield 134, 3), (23, .iload_n 1, 1)], [(24, .baload, 1), (25, .ifCond .eq 6, 3), (28, .bipush (-3), 2), (30, .ireturn, 1), (31, .aload_n 0, 1)], [(32, .getfield 131, 3), (35, .iload_n 1, 1), (36, .aload_n 0, 1), (37, .aload_n 0, 1), (38, .getfield 122, 3)], [(41, .iload_n 1, 1), (42, .iaload, 1), (43, .aload_n 0, 1), (44, .getfield 125, 3), (47, .iload_n 1, 1)], [(48, .iaload, 1), (49, .aload_n 0, 1), (50, .getfield 219, 3), (53, .invokevirtual 400, 3)], [(56, .iconst 2, 1), (57, .idiv, 1), (58, .iastore, 1), (59, .aload_n 0, 1), (60, .iload_n 1, 1), (61, .aload_n 0, 1), (62, .getfield 131, 3)], [(65, .iload_n 1, 1), (66, .iaload, 1), (67, .invokevirtual 431, 3), (70, .aload_n 0, 1), (71, .getfield 131, 3)], [(74, .iload_n 1, 1), (75, .iaload, 1), (76, .ireturn, 1)]]
def pgc232 : List (List (Nat × Instr × Nat)) := [[(0, .aload_n 0, 1), (1, .iload_n 1, 1), (2, .invokevirtual 417, 3), (5, .ifCond .ne 5, 3)], [(8, .iconst (-1), 1), (9, .ireturn, 1), (10, .aload_n 0, 1), (11, .getfield 134, 3), (14, .iload_n 1, 1), (15, .baload, 1)], [(16, .ifCond .eq 6, 3), (19, .bipush (-3), 2), (21, .ireturn, 1), (22, .aload_n 0, 1), (23, .iload_n 1, 1)], [(24, .invokevirtual 420, 3), (27, .aload_n 0, 1), (28, .getfield 131, 3), (31, .iload_n 1, 1)], [(32, .iaload, 1), (33, .ifCond .ge 7, 3), (36, .iconst 0, 1), (37, .goto 9, 3)], [(40, .aload_n 0, 1), (41, .getfield 131, 3), (44, .iload_n 1, 1), (45, .iaload, 1), (46, .isub, 1), (47, .istore_n 2, 1)], [(48, .aload_n 0, 1), (49, .getfield 134, 3), (52, .iload_n 1, 1), (53, .iconst 1, 1), (54, .bastore, 1), (55, .iload_n 2, 1)], [(56, .ifCond .le 9, 3), (59, .aload_n 0, 1), (60, .iload_n 1, 1), (61, .iload_n 2, 1), (62, .invokevirtual 431, 3)], [(65, .iload_n 2, 1), (66, .ireturn, 1)]]
def pgc233 : List (List (Nat × Instr × Nat)) := [[(0, .iload_n 1, 1), (1, .ifCond .lt 20, 3), (4, .iload_n 1, 1), (5, .aload_n 0, 1), (6, .getfield 423, 3)], [(9, .if_icmp .ge 12, 3), (12, .iload_n 2, 1), (13, .iconst 0, 1), (14, .iconst 1, 1), (15, .invokestatic 203, 3)], [(18, .ifCond .ne 5, 3), (21, .iconst (-1), 1), (22, .ireturn, 1), (23, .iload_n 2, 1)], [(24, .ifCond .ne 12, 3), (27, .aload_n 0, 1), (28, .getfield 147, 3), (31, .iload_n 1, 1)], [(32, .iaload, 1), (33, .goto 16, 3), (36, .aload_n 0, 1), (37, .getfield 141, 3)], [(40, .iload_n 1, 1), (41, .iaload, 1), (42, .aload_n 0, 1), (43, .getfield 147, 3), (46, .iload_n 1, 1), (47, .iaload, 1)], [(48, .isub, 1), (49, .ireturn, 1)]]
def pgc234 : List (List (Nat × Instr × Nat)) := [[(0, .aload_n 0, 1), (1, .iload_n 1, 1), (2, .invokevirtual 234, 3), (5, .ifCond .eq 12, 3)], [(8, .aload_n 0, 1), (9, .getfield 26, 3), (12, .iload_n 1, 1), (13, .iaload, 1), (14, .goto 4, 3)], [(17, .iconst (-1), 1), (18, .ireturn, 1)]]
def pgc235 : List (List (Nat × Instr × Nat)) := [[(0, .iload_n 1, 1), (1, .iconst 1, 1), (2, .sipush 9999, 3), (5, .invokestatic 203, 3)], [(8, .ifCond .eq 13, 3), (11, .iload_n 2, 1), (12, .iconst 1, 1), (13, .bipush 63, 2), (15, .invokestatic 203, 3)], [(18, .ifCond .ne 5, 3), (21, .iconst (-1), 1), (22, .ireturn, 1), (23, .aload_n 0, 1)], [(24, .getfield 434, 3), (27, .bipush 9, 2), (29, .if_icmp .ne 6, 3)], [(32, .bipush (-2), 2), (34, .ireturn, 1), (35, .aload_n 0, 1), (36, .getfield 178, 3), (39, .aload_n 0, 1)], [(40, .getfield 434, 3), (43, .iload_n 1, 1), (44, .iastore, 1), (45, .aload_n 0, 1), (46, .getfield 181, 3)], [(49, .aload_n 0, 1), (50, .getfield 434, 3), (53, .iload_n 2, 1), (54, .iastore, 1), (55, .aload_n 0, 1)], [(56, .dup, 1), (57, .getfield 434, 3), (60, .iconst 1, 1), (61, .iadd, 1), (62, .putfield 434, 3)], [(65, .aload_n 0, 1), (66, .getfield 434, 3), (69, .ireturn, 1)]]
def pgc236 : List (List (Nat × Instr × Nat)) := [[(0, .iload_n 1, 1), (1, .aload_n 0, 1), (2, .getfield 434, 3), (5, .if_icmp .ne 144, 3)], [(8, .iconst 0, 1), (9, .istore 6, 2), (11, .iconst 1, 1), (12, .istore 7, 2), (14, .iconst 0, 1), (15, .istore 8, 2)], [(17, .iload 8, 2), (19, .bipush 6, 2), (21, .if_icmp .ge 70, 3)], [(24, .iload 6, 2), (26, .aload_n 0, 1), (27, .getfield 193, 3), (30, .iload 8, 2)], [(32, .iaload, 1), (33, .aload_n 0, 1), (34, .getfield 196, 3), (37, .iload 8, 2), (39, .iaload, 1)], [(40, .imul, 1), (41, .bipush 100, 2), (43, .idiv, 1), (44, .iadd, 1), (45, .istore 6, 2), (47, .iload 7, 2)], [(49, .ifCond .eq 33, 3), (52, .iload_n 2, 1), (53, .iload 8, 2), (55, .ishr, 1)], [(56, .iconst 1, 1), (57, .iand, 1), (58, .ifCond .eq 20, 3), (61, .bipush 100, 2), (63, .aload_n 0, 1)], [(64, .getfield 196, 3), (67, .iload 8, 2), (69, .iaload, 1), (70, .imul, 1), (71, .iload_n 3, 1)], [(72, .iload 4, 2), (74, .imul, 1), (75, .if_icmp .lt 7, 3), (78, .iconst 1, 1), (79, .goto 4, 3)], [(82, .iconst 0, 1), (83, .istore 7, 2), (85, .iinc 8 1, 3)], [(88, .goto (-71), 3), (91, .iload 7, 2), (93, .ifCond .eq 55, 3)], [(96, .iload 6, 2), (98, .aload_n 0, 1), (99, .getfield 437, 3), (102, .if_icmp .le 46, 3)], [(105, .aload_n 0, 1), (106, .iload 6, 2), (108, .putfield 437, 3), (111, .iconst 0, 1)], [(112, .istore 8, 2), (114, .iload 8, 2), (116, .aload_n 0, 1), (117, .getfield 434, 3)], [(120, .if_icmp .ge 28, 3), (123, .iload 5, 2), (125, .ifCond .eq 23, 3)], [(128, .aload_n 0, 1), (129, .getfield 187, 3), (132, .iload 8, 2), (134, .aload_n 0, 1), (135, .getfield 184, 3)], [(138, .iload 8, 2), (140, .iaload, 1), (141, .iastore, 1), (142, .iinc 8 1, 3)], [(145, .goto (-31), 3), (148, .return_, 1), (149, .iconst 0, 1), (150, .istore 6, 2)], [(152, .iload 6, 2), (154, .bipush 6, 2), (156, .if_icmp .ge 78, 3), (159, .iload_n 2, 1)], [(160, .aload_n 0, 1), (161, .getfield 181, 3), (164, .iload_n 1, 1), (165, .iaload, 1), (166, .iand, 1), (167, .iconst 1, 1)], [(168, .iload 6, 2), (170, .ishl, 1), (171, .iand, 1), (172, .ifCond .eq 56, 3), (175, .aload_n 0, 1)], [(176, .getfield 184, 3), (179, .iload_n 1, 1), (180, .iload 6, 2), (182, .iastore, 1), (183, .aload_n 0, 1)], [(184, .getfield 196, 3), (187, .iload 6, 2), (189, .dup2, 1), (190, .iaload, 1), (191, .aload_n 0, 1)], [(192, .getfield 178, 3), (195, .iload_n 1, 1), (196, .iaload, 1), (197, .iadd, 1), (198, .iastore, 1), (199, .aload_n 0, 1)], [(200, .iload_n 1, 1), (201, .iconst 1, 1), (202, .iadd, 1), (203, .iload_n 2, 1), (204, .iload_n 3, 1), (205, .iload 4, 2), (207, .iload 5, 2)], [(209, .invokevirtual 440, 3), (212, .aload_n 0, 1), (213, .getfield 196, 3)], [(216, .iload 6, 2), (218, .dup2, 1), (219, .iaload, 1), (220, .aload_n 0, 1), (221, .getfield 178, 3)], [(224, .iload_n 1, 1), (225, .iaload, 1), (226, .isub, 1), (227, .iastore, 1), (228, .iinc 6 1, 3), (231, .goto (-79), 3)], [(234, .return_, 1)]]
def pgc237 : List (List (Nat × Instr × Nat)) := [[(0, .aload_n 0, 1), (1, .iload_n 1, 1), (2, .invokevirtual 237, 3), (5, .ifCond .eq 35, 3)], [(8, .iload_n 2, 1), (9, .iconst 0, 1), (10, .bipush 63, 2), (12, .invokestatic 203, 3), (15, .ifCond .eq 25, 3)], [(18, .iload_n 2, 1), (19, .invokestatic 360, 3), (22, .iconst 2, 1), (23, .iconst 3, 1)], [(24, .invokestatic 203, 3), (27, .ifCond .eq 13, 3), (30, .iload_n 3, 1), (31, .iconst 0, 1)], [(32, .bipush 50, 2), (34, .invokestatic 203, 3), (37, .ifCond .ne 5, 3)], [(40, .iconst (-1), 1), (41, .ireturn, 1), (42, .aload_n 0, 1), (43, .getfield 434, 3), (46, .ifCond .ne 6, 3)], [(49, .bipush (-3), 2), (51, .ireturn, 1), (52, .iconst 0, 1), (53, .istore 4, 2), (55, .iconst 0, 1)], [(56, .istore 5, 2), (58, .iload 5, 2), (60, .aload_n 0, 1), (61, .getfield 434, 3)], [(64, .if_icmp .ge 21, 3), (67, .iload 4, 2), (69, .aload_n 0, 1), (70, .getfield 178, 3)], [(73, .iload 5, 2), (75, .iaload, 1), (76, .iadd, 1), (77, .istore 4, 2), (79, .iinc 5 1, 3)], [(82, .goto (-24), 3), (85, .iconst 0, 1), (86, .istore 5, 2)], [(88, .iload 5, 2), (90, .bipush 6, 2), (92, .if_icmp .ge 40, 3), (95, .aload_n 0, 1)], [(96, .getfield 193, 3), (99, .iload 5, 2), (101, .aload_n 0, 1), (102, .iload 5, 2)], [(104, .iload_n 1, 1), (105, .aload_n 0, 1), (106, .getfield 219, 3), (109, .aload_n 0, 1), (110, .getfield 219, 3)], [(113, .iconst 1, 1), (114, .invokevirtual 374, 3), (117, .iastore, 1), (118, .aload_n 0, 1), (119, .getfield 196, 3)], [(122, .iload 5, 2), (124, .iconst 0, 1), (125, .iastore, 1), (126, .iinc 5 1, 3)], [(129, .goto (-41), 3), (132, .aload_n 0, 1), (133, .iconst (-1), 1), (134, .putfield 437, 3)], [(137, .aload_n 0, 1), (138, .iconst 0, 1), (139, .iload_n 2, 1), (140, .iconst 0, 1), (141, .iload 4, 2), (143, .iconst 0, 1)], [(144, .invokevirtual 440, 3), (147, .aload_n 0, 1), (148, .getfield 437, 3), (151, .istore 5, 2)], [(153, .aload_n 0, 1), (154, .iconst (-1), 1), (155, .putfield 437, 3), (158, .aload_n 0, 1), (159, .iconst 0, 1)], [(160, .iload_n 2, 1), (161, .iload_n 3, 1), (162, .iload 4, 2), (164, .iconst 1, 1), (165, .invokevirtual 440, 3)], [(168, .aload_n 0, 1), (169, .getfield 437, 3), (172, .ifCond .ge 6, 3), (175, .bipush (-4), 2)], [(177, .ireturn, 1), (178, .aload_n 0, 1), (179, .iload 5, 2), (181, .aload_n 0, 1), (182, .getfield 437, 3)], [(185, .isub, 1), (186, .putfield 190, 3), (189, .aload_n 0, 1), (190, .aload_n 0, 1), (191, .getfield 434, 3)], [(194, .putfield 444, 3), (197, .aload_n 0, 1), (198, .iconst 0, 1), (199, .putfield 434, 3)], [(202, .aload_n 0, 1), (203, .getfield 437, 3), (206, .ireturn, 1)]]
def pgc238 : List (List (Nat × Instr × Nat)) := [[(0, .iload_n 1, 1), (1, .ifCond .lt 20, 3), (4, .iload_n 1, 1), (5, .aload_n 0, 1), (6, .getfield 444, 3)], [(9, .if_icmp .ge 12, 3), (12, .aload_n 0, 1), (13, .getfield 187, 3)], [(16, .iload_n 1, 1), (17, .iaload, 1), (18, .goto 4, 3), (21, .iconst (-1), 1), (22, .ireturn, 1)]]
def pgc239 : List (List (Nat × Instr × Nat)) := [[(0, .aload_n 0, 1), (1, .getfield 190, 3), (4, .ireturn, 1)]]
def pgc240 : List (List (Nat × Instr × Nat)) := [[(0, .iload_n 1, 1), (1, .invokestatic 222, 3), (4, .ifCond .eq 55, 3), (7, .iload_n 2, 1)], [(8, .invokestatic 403, 3), (11, .ifCond .eq 48, 3), (14, .iload_n 3, 1), (15, .ifCond .lt 44, 3)], [(18, .iload_n 3, 1), (19, .sipush 1000, 3), (22, .idiv, 1), (23, .bipush 100, 2)], [(25, .if_icmp .gt 34, 3), (28, .iload_n 3, 1), (29, .sipush 1000, 3)], [(32, .irem, 1), (33, .bipush 100, 2), (35, .if_icmp .gt 24, 3), (38, .iload 4, 2)], [(40, .iconst 0, 1), (41, .bipush 100, 2), (43, .invokestatic 203, 3), (46, .ifCond .eq 13, 3)], [(49, .iload 5, 2), (51, .iconst 0, 1), (52, .iconst 1, 1), (53, .invokestatic 203, 3)], [(56, .ifCond .ne 7, 3), (59, .ldc_w 263, 3), (62, .ireturn, 1), (63, .lconst 0, 1)], [(64, .lstore 6, 2), (66, .lconst 0, 1), (67, .lstore 8, 2), (69, .iconst 0, 1), (70, .istore 10, 2)], [(72, .iload 10, 2), (74, .aload_n 0, 1), (75, .getfield 210, 3), (78, .if_icmp .ge 150, 3)], [(81, .lconst 0, 1), (82, .lstore 11, 2), (84, .iconst 0, 1), (85, .istore 13, 2), (87, .iload 13, 2)], [(89, .aload_n 0, 1), (90, .getfield 216, 3), (93, .if_icmp .ge 67, 3)], [(96, .lload 11, 2), (98, .aload_n 0, 1), (99, .iload 13, 2), (101, .iconst 0, 1), (102, .invokevirtual 264, 3)], [(105, .iload 10, 2), (107, .if_icmp .ne 43, 3), (110, .aload_n 0, 1), (111, .iload 13, 2)], [(113, .iconst 2, 1), (114, .invokevirtual 264, 3), (117, .iload_n 1, 1), (118, .if_icmp .ne 32, 3)], [(121, .aload_n 0, 1), (122, .iload 13, 2), (124, .iconst 3, 1), (125, .invokevirtual 264, 3)], [(128, .sipush 360, 3), (131, .idiv, 1), (132, .iload_n 2, 1), (133, .if_icmp .ne 17, 3)], [(136, .aload_n 0, 1), (137, .iload 13, 2), (139, .aload_n 0, 1), (140, .getfield 219, 3), (143, .invokevirtual 393, 3)], [(146, .i2l, 1), (147, .goto 4, 3), (150, .lconst 0, 1), (151, .ladd, 1)], [(152, .lstore 11, 2), (154, .iinc 13 1, 3), (157, .goto (-70), 3)], [(160, .lload 11, 2), (162, .ldc2_w 391, 3), (165, .lcmp, 1), (166, .ifCond .le 9, 3)], [(169, .ldc2_w 391, 3), (172, .goto 5, 3), (175, .lload 11, 2)], [(177, .lstore 11, 2), (179, .lload 6, 2), (181, .lload 11, 2), (183, .ladd, 1)], [(184, .lstore 6, 2), (186, .lload 8, 2), (188, .lload 11, 2), (190, .aload_n 0, 1), (191, .iload_n 1, 1)], [(192, .iload 10, 2), (194, .sipush 360, 3), (197, .iload_n 2, 1), (198, .imul, 1), (199, .sipush 360, 3)], [(202, .iadd, 1), (203, .iconst 1, 1), (204, .isub, 1), (205, .aload_n 0, 1), (206, .getfield 219, 3)], [(209, .iconst 1, 1), (210, .invokevirtual 374, 3), (213, .i2l, 1), (214, .lmul, 1), (215, .ldc2_w 389, 3)], [(218, .ldiv, 1), (219, .ladd, 1), (220, .lstore 8, 2), (222, .iinc 10 1, 3)], [(225, .goto (-153), 3), (228, .lload 6, 2), (230, .ldc2_w 391, 3)], [(233, .lcmp, 1), (234, .ifCond .le 9, 3), (237, .ldc2_w 391, 3)], [(240, .goto 5, 3), (243, .lload 6, 2), (245, .lstore 6, 2), (247, .iload 5, 2)], [(249, .ifCond .ne 11, 3), (252, .iload_n 3, 1), (253, .sipush 1000, 3)], [(256, .idiv, 1), (257, .goto 8, 3), (260, .iload_n 3, 1), (261, .sipush 1000, 3)], [(264, .irem, 1), (265, .istore 10, 2), (267, .lload 6, 2), (269, .iload 10, 2), (271, .i2l, 1)], [(272, .lmul, 1), (273, .ldc2_w 389, 3), (276, .ldiv, 1), (277, .iload 4, 2), (279, .i2l, 1)], [(280, .lmul, 1), (281, .ldc2_w 389, 3), (284, .ldiv, 1), (285, .lload 8, 2), (287, .lsub, 1)], [(288, .l2i, 1), (289, .ireturn, 1)]]
def pgc241 : List (List (Nat × Instr × Nat)) := [[(0, .iconst 0, 1), (1, .istore_n 2, 1), (2, .iconst 0, 1), (3, .istore_n 3, 1), (4, .iload_n 3, 1), (5, .aload_n 0, 1), (6, .getfield 216, 3)], [(9, .if_icmp .ge 40, 3), (12, .iload_n 2, 1), (13, .iload_n 1, 1), (14, .ifCond .lt 13, 3)], [(17, .aload_n 0, 1), (18, .iload_n 3, 1), (19, .iconst 0, 1), (20, .invokevirtual 264, 3), (23, .iload_n 1, 1)], [(24, .if_icmp .ne 16, 3), (27, .aload_n 0, 1), (28, .getfield 83, 3), (31, .iload_n 3, 1)], [(32, .iaload, 1), (33, .ifCond .lt 7, 3), (36, .iconst 1, 1), (37, .goto 4, 3)], [(40, .iconst 0, 1), (41, .iadd, 1), (42, .istore_n 2, 1), (43, .iinc 3 1, 3), (46, .goto (-42), 3)], [(49, .iload_n 2, 1), (50, .ireturn, 1)]]
def pgc242 : List (List (Nat × Instr × Nat)) := [[(0, .aload_n 0, 1), (1, .iload_n 1, 1), (2, .invokevirtual 260, 3), (5, .ifCond .eq 31, 3)], [(8, .iload_n 2, 1), (9, .iconst 0, 1), (10, .aload_n 0, 1), (11, .getfield 77, 3), (14, .aload_n 0, 1), (15, .iload_n 1, 1)], [(16, .invokevirtual 260, 3), (19, .ifCond .eq 7, 3), (22, .iload_n 1, 1), (23, .goto 4, 3)], [(26, .iconst 0, 1), (27, .iaload, 1), (28, .iconst 1, 1), (29, .isub, 1), (30, .invokestatic 203, 3)], [(33, .ifCond .ne 5, 3), (36, .iconst (-1), 1), (37, .ireturn, 1), (38, .aload_n 0, 1), (39, .getfield 83, 3)], [(42, .iload_n 1, 1), (43, .iaload, 1), (44, .ifCond .lt 6, 3), (47, .bipush (-3), 2)], [(49, .ireturn, 1), (50, .aload_n 0, 1), (51, .getfield 83, 3), (54, .iload_n 1, 1), (55, .aload_n 0, 1)], [(56, .getfield 219, 3), (59, .iastore, 1), (60, .aload_n 0, 1), (61, .getfield 80, 3)], [(64, .iload_n 1, 1), (65, .iload_n 2, 1), (66, .iastore, 1), (67, .aload_n 0, 1), (68, .iconst (-1), 1), (69, .invokevirtual 447, 3)], [(72, .ireturn, 1)]]
def pgc243 : List (List (Nat × Instr × Nat)) := [[(0, .aload_n 0, 1), (1, .iload_n 1, 1), (2, .putfield 7, 3), (5, .iconst 1, 1), (6, .ireturn, 1)]]
def pgc244 : List (List (Nat × Instr × Nat)) := [[(0, .iconst 0, 1), (1, .istore_n 2, 1), (2, .iconst 0, 1), (3, .istore_n 3, 1), (4, .iload_n 3, 1), (5, .aload_n 0, 1), (6, .getfield 216, 3)], [(9, .if_icmp .ge 27, 3), (12, .iload_n 2, 1), (13, .aload_n 0, 1), (14, .iload_n 3, 1), (15, .iconst 0, 1)], [(16, .invokevirtual 264, 3), (19, .iload_n 1, 1), (20, .if_icmp .ne 7, 3), (23, .iconst 1, 1)], [(24, .goto 4, 3), (27, .iconst 0, 1), (28, .iadd, 1), (29, .istore_n 2, 1), (30, .iinc 3 1, 3)], [(33, .goto (-29), 3), (36, .iload_n 2, 1), (37, .ireturn, 1)]]
def pgc245 : List (List (Nat × Instr × Nat)) := [[(0, .aload_n 0, 1), (1, .iload_n 1, 1), (2, .invokevirtual 237, 3), (5, .ifCond .ne 5, 3)], [(8, .iconst (-1), 1), (9, .ireturn, 1), (10, .aload_n 0, 1), (11, .iload_n 1, 1), (12, .invokevirtual 450, 3), (15, .aload_n 0, 1)], [(16, .iload_n 1, 1), (17, .invokevirtual 447, 3), (20, .isub, 1), (21, .istore_n 2, 1), (22, .iload_n 2, 1), (23, .ifCond .ne 6, 3)], [(26, .bipush (-4), 2), (28, .ireturn, 1), (29, .aload_n 0, 1), (30, .aload_n 0, 1), (31, .getfield 7, 3)], [(34, .ldc_w 453, 3), (37, .imul, 1), (38, .sipush 12345, 3)], [(41, .iadd, 1), (42, .putfield 7, 3), (45, .aload_n 0, 1), (46, .getfield 7, 3)], [(49, .bipush 8, 2), (51, .iushr, 1), (52, .iload_n 2, 1), (53, .irem, 1), (54, .istore_n 3, 1), (55, .iconst 0, 1)], [(56, .istore 4, 2), (58, .aload_n 0, 1), (59, .iload 4, 2), (61, .iconst 0, 1), (62, .invokevirtual 264, 3)], [(65, .iload_n 1, 1), (66, .if_icmp .ne 17, 3), (69, .aload_n 0, 1), (70, .getfield 83, 3)], [(73, .iload 4, 2), (75, .iaload, 1), (76, .ifCond .ge 7, 3), (79, .iload_n 3, 1)], [(80, .ifCond .le 38, 3), (83, .iload_n 3, 1), (84, .aload_n 0, 1), (85, .iload 4, 2), (87, .iconst 0, 1)], [(88, .invokevirtual 264, 3), (91, .iload_n 1, 1), (92, .if_icmp .ne 17, 3), (95, .aload_n 0, 1)], [(96, .getfield 83, 3), (99, .iload 4, 2), (101, .iaload, 1), (102, .ifCond .ge 7, 3)], [(105, .iconst 1, 1), (106, .goto 4, 3), (109, .iconst 0, 1), (110, .isub, 1), (111, .istore_n 3, 1)], [(112, .iinc 4 1, 3), (115, .goto (-57), 3), (118, .iload 4, 2)], [(120, .ireturn, 1)]]
def pgc246 : List (List (Nat × Instr × Nat)) := [[(0, .iload_n 1, 1), (1, .ifCond .lt 8, 3), (4, .iload_n 1, 1), (5, .iload_n 0, 1), (6, .if_icmp .le 5, 3)], [(9, .lconst 0, 1), (10, .lreturn, 1), (11, .lconst 1, 1), (12, .lstore_n 2, 1), (13, .iconst 1, 1), (14, .istore 4, 2)], [(16, .iload 4, 2), (18, .iload_n 1, 1), (19, .if_icmp .gt 23, 3), (22, .lload_n 2, 1), (23, .iload_n 0, 1)], [(24, .iload_n 1, 1), (25, .isub, 1), (26, .iload 4, 2), (28, .iadd, 1), (29, .i2l, 1), (30, .lmul, 1), (31, .iload 4, 2)], [(33, .i2l, 1), (34, .ldiv, 1), (35, .lstore_n 2, 1), (36, .iinc 4 1, 3), (39, .goto (-23), 3)], [(42, .lload_n 2, 1), (43, .lreturn, 1)]]
def pgc247 : List (List (Nat × Instr × Nat)) := [[(0, .aload_n 0, 1), (1, .iload_n 1, 1), (2, .invokevirtual 237, 3), (5, .ifCond .ne 5, 3)], [(8, .iconst (-1), 1), (9, .ireturn, 1), (10, .aload_n 0, 1), (11, .iload_n 1, 1), (12, .invokevirtual 450, 3), (15, .istore_n 2, 1)], [(16, .iload_n 2, 1), (17, .bipush 30, 2), (19, .if_icmp .le 6, 3), (22, .bipush (-5), 2)], [(24, .ireturn, 1), (25, .aload_n 0, 1), (26, .iload_n 1, 1), (27, .invokevirtual 447, 3), (30, .istore_n 3, 1), (31, .iconst 0, 1)], [(32, .istore 4, 2), (34, .iconst 0, 1), (35, .istore 5, 2), (37, .iload 5, 2), (39, .aload_n 0, 1)], [(40, .getfield 216, 3), (43, .if_icmp .ge 50, 3), (46, .iload 4, 2)], [(48, .aload_n 0, 1), (49, .iload 5, 2), (51, .iconst 0, 1), (52, .invokevirtual 264, 3), (55, .iload_n 1, 1)], [(56, .if_icmp .ne 27, 3), (59, .aload_n 0, 1), (60, .getfield 83, 3), (63, .iload 5, 2)], [(65, .iaload, 1), (66, .ifCond .lt 17, 3), (69, .aload_n 0, 1), (70, .getfield 80, 3)], [(73, .iload 5, 2), (75, .iaload, 1), (76, .ifCond .le 7, 3), (79, .iconst 1, 1)], [(80, .goto 4, 3), (83, .iconst 0, 1), (84, .iadd, 1), (85, .istore 4, 2), (87, .iinc 5 1, 3)], [(90, .goto (-53), 3), (93, .iload 4, 2), (95, .istore 5, 2)], [(97, .iload 4, 2), (99, .istore 6, 2), (101, .iload 6, 2), (103, .iload_n 2, 1)], [(104, .iload_n 3, 1), (105, .isub, 1), (106, .iload 4, 2), (108, .iadd, 1), (109, .if_icmp .gt 80, 3)], [(112, .lconst 0, 1), (113, .lstore 7, 2), (115, .iconst 0, 1), (116, .istore 9, 2), (118, .iload 9, 2)], [(120, .iload 4, 2), (122, .if_icmp .gt 33, 3), (125, .lload 7, 2), (127, .iload 6, 2)], [(129, .iload 9, 2), (131, .invokestatic 454, 3), (134, .iload_n 2, 1), (135, .iload 6, 2)], [(137, .isub, 1), (138, .iload_n 3, 1), (139, .iload 9, 2), (141, .isub, 1), (142, .invokestatic 454, 3)], [(145, .lmul, 1), (146, .ladd, 1), (147, .lstore 7, 2), (149, .iinc 9 1, 3)], [(152, .goto (-34), 3), (155, .lload 7, 2), (157, .ldc2_w 389, 3)], [(160, .lmul, 1), (161, .ldc2_w 458, 3), (164, .iload_n 2, 1), (165, .iload_n 3, 1), (166, .invokestatic 454, 3)], [(169, .lmul, 1), (170, .lcmp, 1), (171, .ifCond .lt 8, 3), (174, .iload 6, 2)], [(176, .goto 5, 3), (179, .iload 5, 2), (181, .istore 5, 2), (183, .iinc 6 1, 3)], [(186, .goto (-85), 3), (189, .iload 5, 2), (191, .ireturn, 1)]]
def pgc248 : List (List (Nat × Instr × Nat)) := [[(0, .iload_n 1, 1), (1, .ifCond .lt 24, 3), (4, .iload_n 1, 1), (5, .aload_n 0, 1), (6, .getfield 351, 3)], [(9, .if_icmp .ge 16, 3), (12, .aload_n 0, 1), (13, .getfield 110, 3)], [(16, .iload_n 1, 1), (17, .iaload, 1), (18, .bipush 10, 2), (20, .irem, 1), (21, .iconst 1, 1), (22, .if_icmp .le 5, 3)], [(25, .iconst (-1), 1), (26, .ireturn, 1), (27, .aload_n 0, 1), (28, .iload_n 1, 1), (29, .putfield 162, 3)], [(32, .lconst 0, 1), (33, .lstore_n 2, 1), (34, .iconst 0, 1), (35, .istore 4, 2), (37, .iload 4, 2), (39, .aload_n 0, 1)], [(40, .getfield 210, 3), (43, .if_icmp .ge 32, 3), (46, .lload_n 2, 1), (47, .aload_n 0, 1)], [(48, .iload 4, 2), (50, .aload_n 0, 1), (51, .getfield 110, 3), (54, .iload_n 1, 1), (55, .iaload, 1)], [(56, .bipush 10, 2), (58, .idiv, 1), (59, .aload_n 0, 1), (60, .getfield 219, 3), (63, .invokevirtual 400, 3)], [(66, .i2l, 1), (67, .ladd, 1), (68, .lstore_n 2, 1), (69, .iinc 4 1, 3)], [(72, .goto (-35), 3), (75, .aload_n 0, 1), (76, .iconst (-1), 1), (77, .putfield 162, 3)], [(80, .lload_n 2, 1), (81, .ldc2_w 391, 3), (84, .lcmp, 1), (85, .ifCond .le 9, 3)], [(88, .ldc2_w 391, 3), (91, .goto 4, 3), (94, .lload_n 2, 1), (95, .l2i, 1)], [(96, .ireturn, 1)]]
def pgc249 : List (List (Nat × Instr × Nat)) := [[(0, .iload_n 1, 1), (1, .iconst 0, 1), (2, .iconst 2, 1), (3, .invokestatic 203, 3), (6, .ifCond .ne 5, 3)], [(9, .iconst (-1), 1), (10, .ireturn, 1), (11, .iconst 0, 1), (12, .istore_n 2, 1), (13, .bipush (-4), 2), (15, .istore_n 3, 1)], [(16, .bipush (-4), 2), (18, .istore 4, 2), (20, .iconst 0, 1), (21, .istore 5, 2), (23, .iload 5, 2)], [(25, .aload_n 0, 1), (26, .getfield 216, 3), (29, .if_icmp .ge 68, 3)], [(32, .iload 5, 2), (34, .iconst 1, 1), (35, .iadd, 1), (36, .istore 6, 2), (38, .iload 6, 2)], [(40, .aload_n 0, 1), (41, .getfield 216, 3), (44, .if_icmp .ge 47, 3), (47, .aload_n 0, 1)], [(48, .iload 5, 2), (50, .iload 6, 2), (52, .invokevirtual 283, 3), (55, .ifCond .eq 30, 3)], [(58, .iload_n 2, 1), (59, .ifCond .ne 8, 3), (62, .iload 5, 2)], [(64, .goto 4, 3), (67, .iload_n 3, 1), (68, .istore_n 3, 1), (69, .iload_n 2, 1), (70, .ifCond .ne 8, 3)], [(73, .iload 6, 2), (75, .goto 5, 3), (78, .iload 4, 2)], [(80, .istore 4, 2), (82, .iinc 2 1, 3), (85, .iinc 6 1, 3)], [(88, .goto (-50), 3), (91, .iinc 5 1, 3), (94, .goto (-71), 3)], [(97, .iload_n 1, 1), (98, .ifCond .ne 7, 3), (101, .iload_n 2, 1), (102, .goto 14, 3)], [(105, .iload_n 1, 1), (106, .iconst 1, 1), (107, .if_icmp .ne 7, 3), (110, .iload_n 3, 1), (111, .goto 5, 3)], [(114, .iload 4, 2), (116, .ireturn, 1)]]
def pgc250 : List (List (Nat × Instr × Nat)) := [[(0, .iload_n 0, 1), (1, .iconst 5, 1), (2, .if_icmp .eq 8, 3), (5, .iload_n 0, 1), (6, .iconst 3, 1), (7, .if_icmp .ne 7, 3)], [(10, .iconst 2, 1), (11, .goto 14, 3), (14, .iload_n 0, 1), (15, .bipush 6, 2)], [(17, .if_icmp .ne 7, 3), (20, .iconst 4, 1), (21, .goto 4, 3)], [(24, .iconst 0, 1), (25, .ireturn, 1)]]
def pgc251 : List (List (Nat × Instr × Nat)) := [[(0, .aload_n 0, 1), (1, .getfield 460, 3), (4, .bipush 24, 2), (6, .if_icmp .ge 13, 3)], [(9, .aload_n 0, 1), (10, .getfield 199, 3), (13, .aload_n 0, 1), (14, .getfield 460, 3)], [(17, .iload_n 1, 1), (18, .iastore, 1), (19, .aload_n 0, 1), (20, .dup, 1), (21, .getfield 460, 3)], [(24, .iconst 1, 1), (25, .iadd, 1), (26, .putfield 460, 3), (29, .return_, 1)]]
def pgc252 : List (List (Nat × Instr × Nat)) := [[(0, .iload_n 1, 1), (1, .lookupswitch 92 #[(0, 35), (2, 56), (5, 74)], 35)], [], [], [], [(36, .aload_n 0, 1), (37, .bipush 10, 2), (39, .invokevirtual 463, 3)], [(42, .iload_n 2, 1), (43, .aload_n 0, 1), (44, .aload_n 0, 1), (45, .getfield 466, 3)], [(48, .aload_n 0, 1), (49, .getfield 219, 3), (52, .invokevirtual 267, 3), (55, .iadd, 1)], [(56, .ireturn, 1), (57, .aload_n 0, 1), (58, .bipush 30, 2), (60, .invokevirtual 463, 3), (63, .aload_n 0, 1)], [(64, .iconst 2, 1), (65, .invokestatic 469, 3), (68, .iload_n 2, 1), (69, .invokevirtual 472, 3)], [(72, .iconst 4, 1), (73, .isub, 1), (74, .ireturn, 1), (75, .aload_n 0, 1), (76, .bipush 60, 2), (78, .invokevirtual 463, 3)], [(81, .aload_n 0, 1), (82, .iconst 5, 1), (83, .invokestatic 469, 3), (86, .iload_n 2, 1), (87, .iconst 1, 1)], [(88, .iadd, 1), (89, .invokevirtual 472, 3), (92, .ireturn, 1), (93, .aload_n 0, 1), (94, .iload_n 1, 1), (95, .invokestatic 469, 3)], [(98, .iload_n 2, 1), (99, .invokevirtual 472, 3), (102, .ireturn, 1)]]
def pgc253 : List (List (Nat × Instr × Nat)) := [[(0, .iload_n 1, 1), (1, .tableswitch 136 0 6 #[43, 66, 136, 136, 85, 136, 102], 43)], [], [], [], [], [(44, .aload_n 0, 1), (45, .bipush 11, 2), (47, .invokevirtual 463, 3)], [(50, .aload_n 0, 1), (51, .aload_n 0, 1), (52, .getfield 71, 3), (55, .aload_n 0, 1)], [(56, .getfield 466, 3), (59, .iaload, 1), (60, .iload_n 2, 1), (61, .invokevirtual 472, 3)], [(64, .iconst 2, 1), (65, .imul, 1), (66, .ireturn, 1), (67, .aload_n 0, 1), (68, .bipush 20, 2), (70, .invokevirtual 463, 3)], [(73, .aload_n 0, 1), (74, .iconst 1, 1), (75, .invokestatic 469, 3), (78, .iload_n 2, 1), (79, .invokevirtual 475, 3)], [(82, .bipush 9, 2), (84, .ixor, 1), (85, .ireturn, 1), (86, .aload_n 0, 1), (87, .bipush 50, 2)], [(89, .invokevirtual 463, 3), (92, .aload_n 0, 1), (93, .iconst 4, 1), (94, .invokestatic 469, 3)], [(97, .iload_n 2, 1), (98, .invokevirtual 475, 3), (101, .ineg, 1), (102, .ireturn, 1), (103, .aload_n 0, 1)], [(104, .bipush 70, 2), (106, .invokevirtual 463, 3), (109, .aload_n 0, 1), (110, .bipush 6, 2)], [(112, .invokestatic 469, 3), (115, .iload_n 2, 1), (116, .invokevirtual 475, 3), (119, .istore_n 3, 1)], [(120, .iload_n 3, 1), (121, .aload_n 0, 1), (122, .aload_n 0, 1), (123, .getfield 71, 3), (126, .aload_n 0, 1), (127, .getfield 466, 3)], [(130, .iaload, 1), (131, .iconst 2, 1), (132, .invokevirtual 472, 3), (135, .isub, 1)], [(136, .ireturn, 1), (137, .aload_n 0, 1), (138, .iload_n 1, 1), (139, .invokestatic 469, 3), (142, .iload_n 2, 1), (143, .invokevirtual 475, 3)], [(146, .ireturn, 1)]]
def pgc254 : List (List (Nat × Instr × Nat)) := [[(0, .iload_n 1, 1), (1, .lookupswitch 112 #[(0, 35), (3, 61), (5, 94)], 35)], [], [], [], [(36, .aload_n 0, 1), (37, .bipush 12, 2), (39, .invokevirtual 463, 3)], [(42, .aload_n 0, 1), (43, .aload_n 0, 1), (44, .getfield 71, 3), (47, .aload_n 0, 1)], [(48, .getfield 466, 3), (51, .iaload, 1), (52, .iload_n 2, 1), (53, .invokevirtual 475, 3)], [(56, .aload_n 0, 1), (57, .getfield 466, 3), (60, .isub, 1), (61, .ireturn, 1), (62, .aload_n 0, 1), (63, .bipush 40, 2)], [(65, .invokevirtual 463, 3), (68, .aload_n 0, 1), (69, .iconst 3, 1), (70, .invokestatic 469, 3)], [(73, .iload_n 2, 1), (74, .invokevirtual 478, 3), (77, .istore_n 3, 1), (78, .iload_n 3, 1), (79, .aload_n 0, 1)], [(80, .aload_n 0, 1), (81, .getfield 71, 3), (84, .aload_n 0, 1), (85, .getfield 466, 3)], [(88, .iaload, 1), (89, .iconst 1, 1), (90, .invokevirtual 475, 3), (93, .iadd, 1), (94, .ireturn, 1), (95, .aload_n 0, 1)], [(96, .bipush 61, 2), (98, .invokevirtual 463, 3), (101, .aload_n 0, 1), (102, .iconst 5, 1), (103, .invokestatic 469, 3)], [(106, .iload_n 2, 1), (107, .invokevirtual 478, 3), (110, .iconst 3, 1), (111, .imul, 1)], [(112, .ireturn, 1), (113, .aload_n 0, 1), (114, .iload_n 1, 1), (115, .invokestatic 469, 3), (118, .iload_n 2, 1), (119, .invokevirtual 478, 3)], [(122, .ireturn, 1)]]
def pgc255 : List (List (Nat × Instr × Nat)) := [[(0, .aload_n 0, 1), (1, .iload_n 1, 1), (2, .invokevirtual 260, 3), (5, .ifCond .eq 12, 3)], [(8, .iload_n 2, 1), (9, .iconst 0, 1), (10, .iconst 2, 1), (11, .invokestatic 203, 3), (14, .ifCond .ne 7, 3)], [(17, .ldc_w 263, 3), (20, .ireturn, 1), (21, .aload_n 0, 1), (22, .iconst 0, 1), (23, .putfield 460, 3)], [(26, .aload_n 0, 1), (27, .iload_n 1, 1), (28, .putfield 466, 3), (31, .iload_n 2, 1)], [(32, .ifCond .ne 17, 3), (35, .aload_n 0, 1), (36, .aload_n 0, 1), (37, .getfield 71, 3)], [(40, .iload_n 1, 1), (41, .iaload, 1), (42, .iload_n 3, 1), (43, .invokevirtual 472, 3), (46, .goto 33, 3)], [(49, .iload_n 2, 1), (50, .iconst 1, 1), (51, .if_icmp .ne 17, 3), (54, .aload_n 0, 1), (55, .aload_n 0, 1)], [(56, .getfield 71, 3), (59, .iload_n 1, 1), (60, .iaload, 1), (61, .iload_n 3, 1), (62, .invokevirtual 475, 3)], [(65, .goto 14, 3), (68, .aload_n 0, 1), (69, .aload_n 0, 1), (70, .getfield 71, 3)], [(73, .iload_n 1, 1), (74, .iaload, 1), (75, .iload_n 3, 1), (76, .invokevirtual 478, 3), (79, .ireturn, 1)]]
def pgc256 : List (List (Nat × Instr × Nat)) := [[(0, .iload_n 1, 1), (1, .ifCond .lt 26, 3), (4, .iload_n 1, 1), (5, .aload_n 0, 1), (6, .getfield 460, 3)], [(9, .if_icmp .ge 18, 3), (12, .iload_n 1, 1), (13, .bipush 24, 2), (15, .if_icmp .ge 12, 3)], [(18, .aload_n 0, 1), (19, .getfield 199, 3), (22, .iload_n 1, 1), (23, .iaload, 1)], [(24, .goto 4, 3), (27, .iconst (-1), 1), (28, .ireturn, 1)]]
def pgc257 : List (List (Nat × Instr × Nat)) := [[(0, .aload_n 0, 1), (1, .iload_n 1, 1), (2, .invokevirtual 260, 3), (5, .ifCond .eq 13, 3)], [(8, .iload_n 2, 1), (9, .iconst 0, 1), (10, .bipush 6, 2), (12, .invokestatic 203, 3), (15, .ifCond .ne 5, 3)], [(18, .iconst (-1), 1), (19, .ireturn, 1), (20, .iload_n 2, 1), (21, .ifCond .eq 26, 3)], [(24, .aload_n 0, 1), (25, .getfield 71, 3), (28, .iload_n 1, 1), (29, .iaload, 1), (30, .iload_n 2, 1), (31, .if_icmp .eq 16, 3)], [(34, .aload_n 0, 1), (35, .getfield 71, 3), (38, .iload_n 1, 1), (39, .iaload, 1)], [(40, .invokestatic 469, 3), (43, .iload_n 2, 1), (44, .if_icmp .ne 12, 3), (47, .aload_n 0, 1)], [(48, .getfield 71, 3), (51, .iload_n 1, 1), (52, .iaload, 1), (53, .goto 5, 3)], [(56, .bipush (-6), 2), (58, .ireturn, 1)]]
def pgc258 : List (List (Nat × Instr × Nat)) := [[(0, .iconst 0, 1), (1, .istore_n 2, 1), (2, .iconst 0, 1), (3, .istore_n 3, 1), (4, .iload_n 3, 1), (5, .aload_n 0, 1), (6, .getfield 207, 3)], [(9, .if_icmp .ge 18, 3), (12, .iload_n 2, 1), (13, .aload_n 0, 1), (14, .getfield 26, 3)], [(17, .iload_n 3, 1), (18, .iaload, 1), (19, .iadd, 1), (20, .istore_n 2, 1), (21, .iinc 3 1, 3)], [(24, .goto (-20), 3), (27, .iconst 0, 1), (28, .istore_n 3, 1), (29, .iconst 0, 1), (30, .istore 4, 2)], [(32, .iload 4, 2), (34, .aload_n 0, 1), (35, .getfield 423, 3), (38, .if_icmp .ge 19, 3)], [(41, .iload_n 3, 1), (42, .aload_n 0, 1), (43, .getfield 147, 3), (46, .iload 4, 2)], [(48, .iaload, 1), (49, .iadd, 1), (50, .istore_n 3, 1), (51, .iinc 4 1, 3), (54, .goto (-22), 3)], [(57, .iload_n 1, 1), (58, .tableswitch 135 0 13 #[70, 75, 80, 85, 90, 95, 100, 105, 110, 115, 120, 125, 131, 133], 70)], [], [], [], [], [], [], [], [], [(128, .aload_n 0, 1), (129, .getfield 207, 3), (132, .ireturn, 1), (133, .aload_n 0, 1), (134, .getfield 210, 3)], [(137, .ireturn, 1), (138, .aload_n 0, 1), (139, .getfield 213, 3), (142, .ireturn, 1), (143, .aload_n 0, 1)], [(144, .getfield 219, 3), (147, .ireturn, 1), (148, .aload_n 0, 1), (149, .getfield 216, 3)], [(152, .ireturn, 1), (153, .aload_n 0, 1), (154, .getfield 243, 3), (157, .ireturn, 1), (158, .aload_n 0, 1), (159, .getfield 270, 3)], [(162, .ireturn, 1), (163, .aload_n 0, 1), (164, .getfield 351, 3), (167, .ireturn, 1)], [(168, .aload_n 0, 1), (169, .getfield 286, 3), (172, .ireturn, 1), (173, .aload_n 0, 1), (174, .getfield 406, 3)], [(177, .ireturn, 1), (178, .aload_n 0, 1), (179, .getfield 423, 3), (182, .ireturn, 1), (183, .aload_n 0, 1)], [(184, .iconst (-1), 1), (185, .invokevirtual 447, 3), (188, .ireturn, 1), (189, .iload_n 2, 1), (190, .ireturn, 1), (191, .iload_n 3, 1)], [(192, .ireturn, 1), (193, .iconst (-1), 1), (194, .ireturn, 1)]]
def pgc259 : List (List (Nat × Instr × Nat)) := [[(0, .iload_n 0, 1), (1, .iload_n 0, 1), (2, .iconst 1, 1), (3, .iushr, 1), (4, .ldc_w 265, 3), (7, .iand, 1)], [(8, .isub, 1), (9, .istore_n 0, 1), (10, .iload_n 0, 1), (11, .ldc_w 266, 3), (14, .iand, 1), (15, .iload_n 0, 1)], [(16, .iconst 2, 1), (17, .iushr, 1), (18, .ldc_w 266, 3), (21, .iand, 1), (22, .iadd, 1), (23, .istore_n 0, 1)], [(24, .iload_n 0, 1), (25, .iload_n 0, 1), (26, .iconst 4, 1), (27, .iushr, 1), (28, .iadd, 1), (29, .ldc_w 267, 3)], [(32, .iand, 1), (33, .istore_n 0, 1), (34, .iload_n 0, 1), (35, .iload_n 0, 1), (36, .bipush 8, 2), (38, .iushr, 1), (39, .iadd, 1)], [(40, .istore_n 0, 1), (41, .iload_n 0, 1), (42, .iload_n 0, 1), (43, .bipush 16, 2), (45, .iushr, 1), (46, .iadd, 1), (47, .istore_n 0, 1)], [(48, .iload_n 0, 1), (49, .bipush 63, 2), (51, .iand, 1), (52, .ireturn, 1)]]
def pgc260 : List (List (Nat × Instr × Nat)) := [[(0, .iload_n 0, 1), (1, .ifCond .ge 8, 3), (4, .iload_n 0, 1), (5, .ineg, 1), (6, .goto 4, 3)], [(9, .iload_n 0, 1), (10, .ireturn, 1)]]
def pgc261 : List (List (Nat × Instr × Nat)) := [[(0, .iload_n 0, 1), (1, .iload_n 1, 1), (2, .if_icmp .lt 7, 3), (5, .iload_n 0, 1), (6, .goto 4, 3)], [(9, .iload_n 1, 1), (10, .ireturn, 1)]]
def pgc262 : List (List (Nat × Instr × Nat)) := [[(0, .iload_n 0, 1), (1, .iload_n 1, 1), (2, .if_icmp .gt 7, 3), (5, .iload_n 0, 1), (6, .goto 4, 3)], [(9, .iload_n 1, 1), (10, .ireturn, 1)]]
def pgc263 : List (List (Nat × Instr × Nat)) := [[(0, .lload_n 0, 1), (1, .lload_n 2, 1), (2, .lcmp, 1), (3, .ifCond .gt 7, 3), (6, .lload_n 0, 1), (7, .goto 4, 3)], [(10, .lload_n 2, 1), (11, .lreturn, 1)]]
def pgc264 : List (List (Nat × Instr × Nat)) := [[(0, .aload_n 0, 1), (1, .getfield 9, 3), (4, .arraylength, 1), (5, .aload_n 0, 1), (6, .invokevirtual 335, 3)], [(9, .ishr, 1), (10, .ireturn, 1)]]
def pgc265 : List (List (Nat × Instr × Nat)) := [[(0, .aload_n 0, 1), (1, .iload_n 1, 1), (2, .iconst 0, 1), (3, .invokevirtual 633, 3), (6, .ireturn, 1)]]
def pgc266 : List (List (Nat × Instr × Nat)) := [[(0, .aload_n 0, 1), (1, .invokevirtual 492, 3), (4, .ifCond .eq 19, 3), (7, .aload_n 0, 1)], [(8, .getfield 9, 3), (11, .iload_n 1, 1), (12, .iload_n 2, 1), (13, .aload_n 0, 1), (14, .invokevirtual 505, 3)], [(17, .invokestatic 637, 3), (20, .goto 16, 3), (23, .aload_n 0, 1)], [(24, .getfield 9, 3), (27, .iload_n 1, 1), (28, .iload_n 2, 1), (29, .aload_n 0, 1), (30, .invokevirtual 505, 3)], [(33, .invokestatic 640, 3), (36, .ireturn, 1)]]
def pgc267 : List (List (Nat × Instr × Nat)) := [[(0, .getstatic 38, 3), (3, .ifCond .eq 10, 3), (6, .aload_n 0, 1), (7, .getfield 15, 3)], [(10, .goto 4, 3), (13, .iconst 1, 1), (14, .ireturn, 1)]]
def pgc268 : List (List (Nat × Instr × Nat)) := [[(0, .getstatic 38, 3), (3, .ifCond .eq 14, 3), (6, .aload_n 0, 1), (7, .getfield 15, 3)], [(10, .ifCond .ne 7, 3), (13, .iconst 1, 1), (14, .goto 4, 3)], [(17, .iconst 0, 1), (18, .ireturn, 1)]]
def pgc269 : List (List (Nat × Instr × Nat)) := [[(0, .iload_n 0, 1), (1, .ifCond .lt 14, 3), (4, .iload_n 0, 1), (5, .sipush 255, 3)], [(8, .if_icmp .gt 7, 3), (11, .iconst 1, 1), (12, .goto 4, 3), (15, .iconst 0, 1)], [(16, .ireturn, 1)]]
def pgc270 : List (List (Nat × Instr × Nat)) := [[(0, .iload_n 1, 1), (1, .invokestatic 88, 3), (4, .ifCond .ne 5, 3), (7, .iconst (-1), 1)], [(8, .ireturn, 1), (9, .iload_n 2, 1), (10, .iconst 0, 1), (11, .invokestatic 92, 3), (14, .istore_n 2, 1), (15, .iload_n 3, 1)], [(16, .aload_n 0, 1), (17, .arraylength, 1), (18, .invokestatic 38, 3), (21, .istore_n 3, 1), (22, .iload_n 2, 1), (23, .iload_n 3, 1)], [(24, .if_icmp .lt 5, 3), (27, .iconst (-1), 1), (28, .ireturn, 1), (29, .aload_n 0, 1), (30, .iload_n 1, 1), (31, .iload_n 2, 1)], [(32, .iload_n 3, 1), (33, .invokestatic 95, 3), (36, .ireturn, 1)]]
def pgc271 : List (List (Nat × Instr × Nat)) := [[(0, .iload_n 1, 1), (1, .i2b, 1), (2, .istore 4, 2), (4, .iload_n 2, 1), (5, .istore 5, 2), (7, .iload 5, 2)], [(9, .iload_n 3, 1), (10, .if_icmp .ge 21, 3), (13, .aload_n 0, 1), (14, .iload 5, 2)], [(16, .baload, 1), (17, .iload 4, 2), (19, .if_icmp .ne 6, 3), (22, .iload 5, 2)], [(24, .ireturn, 1), (25, .iinc 5 1, 3), (28, .goto (-21), 3), (31, .iconst (-1), 1)], [(32, .ireturn, 1)]]
def pgc272 : List (List (Nat × Instr × Nat)) := [[(0, .iconst 0, 1), (1, .istore_n 2, 1), (2, .aload_n 0, 1), (3, .arraylength, 1), (4, .istore_n 3, 1), (5, .iload_n 2, 1), (6, .iload_n 3, 1), (7, .if_icmp .ge 13, 3)], [(10, .aload_n 0, 1), (11, .iload_n 2, 1), (12, .iload_n 1, 1), (13, .iastore, 1), (14, .iinc 2 1, 3)], [(17, .goto (-12), 3), (20, .return_, 1)]]
def pgc273 : List (List (Nat × Instr × Nat)) := [[(0, .iload_n 1, 1), (1, .aload_n 0, 1), (2, .arraylength, 1), (3, .if_icmp .ne 11, 3), (6, .aload_n 0, 1), (7, .invokevirtual 316, 3)], [(10, .checkcast 317, 3), (13, .areturn, 1), (14, .iload_n 1, 1), (15, .newarray .int, 2)], [(17, .astore_n 2, 1), (18, .aload_n 0, 1), (19, .iconst 0, 1), (20, .aload_n 2, 1), (21, .iconst 0, 1), (22, .aload_n 0, 1), (23, .arraylength, 1)], [(24, .iload_n 1, 1), (25, .invokestatic 304, 3), (28, .invokestatic 150, 3), (31, .aload_n 2, 1)], [(32, .areturn, 1)]]
set_option maxRecDepth 100000 in
def pgc274 : List (List (Nat × Instr × Nat)) := [[(0, .new 7, 3), (3, .dup, 1), (4, .invokespecial 9, 3), (7, .astore_n 1, 1)], [(8, .new 10, 3), (11, .dup, 1), (12, .invokespecial 12, 3), (15, .astore_n 2, 1)], [(16, .iconst 0, 1), (17, .istore_n 3, 1), (18, .iload_n 3, 1), (19, .aload_n 0, 1), (20, .arraylength, 1), (21, .bipush 6, 2), (23, .isub, 1)], [(24, .if_icmp .gt 1886, 3), (27, .aload_n 0, 1), (28, .iload_n 3, 1), (29, .iaload, 1), (30, .bipush 63, 2)], [(32, .iand, 1), (33, .tableswitch 1871 0 47 #[207, 230, 273, 306, 329, 362, 395, 428, 451, 504, 557, 600, 623, 666, 699, 732, 765, 818, 861, 904, 967, 1000, 1033, 1076, 1139, 1182, 1215, 1248, 1271, 1324, 1347, 1370, 1403, 1426, 1459, 1502, 1525, 1538, 1601, 1634, 1657, 1680, 1703, 1726, 1749, 1792, 1815, 1848], 207)], [], [], [], [], [], [], [], [], [], [], [], [], [], [], [], [], [], [], [], [], [], [], [], [], [], [(240, .aload_n 1, 1), (241, .aload_n 0, 1), (242, .iload_n 3, 1), (243, .iconst 1, 1), (244, .iadd, 1), (245, .iaload, 1), (246, .invokevirtual 13, 3)], [(249, .pop, 1), (250, .aload_n 2, 1), (251, .aload_n 0, 1), (252, .iload_n 3, 1), (253, .iconst 1, 1), (254, .iadd, 1), (255, .iaload, 1)], [(256, .invokevirtual 17, 3), (259, .pop, 1), (260, .goto 1644, 3), (263, .aload_n 1, 1)], [(264, .aload_n 0, 1), (265, .iload_n 3, 1), (266, .iconst 1, 1), (267, .iadd, 1), (268, .iaload, 1), (269, .aload_n 0, 1), (270, .iload_n 3, 1), (271, .iconst 2, 1)], [(272, .iadd, 1), (273, .iaload, 1), (274, .aload_n 0, 1), (275, .iload_n 3, 1), (276, .iconst 3, 1), (277, .iadd, 1), (278, .iaload, 1), (279, .invokevirtual 18, 3)], [(282, .pop, 1), (283, .aload_n 2, 1), (284, .aload_n 0, 1), (285, .iload_n 3, 1), (286, .iconst 1, 1), (287, .iadd, 1)], [(288, .iaload, 1), (289, .aload_n 0, 1), (290, .iload_n 3, 1), (291, .iconst 2, 1), (292, .iadd, 1), (293, .iaload, 1), (294, .aload_n 0, 1), (295, .iload_n 3, 1)], [(296, .iconst 3, 1), (297, .iadd, 1), (298, .iaload, 1), (299, .invokevirtual 22, 3), (302, .pop, 1), (303, .goto 1601, 3)], [(306, .aload_n 1, 1), (307, .aload_n 0, 1), (308, .iload_n 3, 1), (309, .iconst 1, 1), (310, .iadd, 1), (311, .iaload, 1)], [(312, .aload_n 0, 1), (313, .iload_n 3, 1), (314, .iconst 2, 1), (315, .iadd, 1), (316, .iaload, 1), (317, .invokevirtual 23, 3)], [(320, .pop, 1), (321, .aload_n 2, 1), (322, .aload_n 0, 1), (323, .iload_n 3, 1), (324, .iconst 1, 1), (325, .iadd, 1), (326, .iaload, 1), (327, .aload_n 0, 1)], [(328, .iload_n 3, 1), (329, .iconst 2, 1), (330, .iadd, 1), (331, .iaload, 1), (332, .invokevirtual 27, 3), (335, .pop, 1)], [(336, .goto 1568, 3), (339, .aload_n 1, 1), (340, .aload_n 0, 1), (341, .iload_n 3, 1), (342, .iconst 1, 1), (343, .iadd, 1)], [(344, .iaload, 1), (345, .invokevirtual 28, 3), (348, .pop, 1), (349, .aload_n 2, 1), (350, .aload_n 0, 1), (351, .iload_n 3, 1)], [(352, .iconst 1, 1), (353, .iadd, 1), (354, .iaload, 1), (355, .invokevirtual 31, 3), (358, .pop, 1), (359, .goto 1545, 3)], [(362, .aload_n 1, 1), (363, .aload_n 0, 1), (364, .iload_n 3, 1), (365, .iconst 1, 1), (366, .iadd, 1), (367, .iaload, 1)], [(368, .aload_n 0, 1), (369, .iload_n 3, 1), (370, .iconst 2, 1), (371, .iadd, 1), (372, .iaload, 1), (373, .invokevirtual 32, 3)], [(376, .pop, 1), (377, .aload_n 2, 1), (378, .aload_n 0, 1), (379, .iload_n 3, 1), (380, .iconst 1, 1), (381, .iadd, 1), (382, .iaload, 1), (383, .aload_n 0, 1)], [(384, .iload_n 3, 1), (385, .iconst 2, 1), (386, .iadd, 1), (387, .iaload, 1), (388, .invokevirtual 35, 3), (391, .pop, 1)], [(392, .goto 1512, 3), (395, .aload_n 1, 1), (396, .aload_n 0, 1), (397, .iload_n 3, 1), (398, .iconst 1, 1), (399, .iadd, 1)], [(400, .iaload, 1), (401, .aload_n 0, 1), (402, .iload_n 3, 1), (403, .iconst 2, 1), (404, .iadd, 1), (405, .iaload, 1), (406, .invokevirtual 36, 3)], [(409, .pop, 1), (410, .aload_n 2, 1), (411, .aload_n 0, 1), (412, .iload_n 3, 1), (413, .iconst 1, 1), (414, .iadd, 1), (415, .iaload, 1)], [(416, .aload_n 0, 1), (417, .iload_n 3, 1), (418, .iconst 2, 1), (419, .iadd, 1), (420, .iaload, 1), (421, .invokevirtual 39, 3)], [(424, .pop, 1), (425, .goto 1479, 3), (428, .aload_n 1, 1), (429, .aload_n 0, 1), (430, .iload_n 3, 1), (431, .iconst 1, 1)], [(432, .iadd, 1), (433, .iaload, 1), (434, .aload_n 0, 1), (435, .iload_n 3, 1), (436, .iconst 2, 1), (437, .iadd, 1), (438, .iaload, 1), (439, .invokevirtual 40, 3)], [(442, .pop, 1), (443, .aload_n 2, 1), (444, .aload_n 0, 1), (445, .iload_n 3, 1), (446, .iconst 1, 1), (447, .iadd, 1)], [(448, .iaload, 1), (449, .aload_n 0, 1), (450, .iload_n 3, 1), (451, .iconst 2, 1), (452, .iadd, 1), (453, .iaload, 1), (454, .invokevirtual 43, 3)], [(457, .pop, 1), (458, .goto 1446, 3), (461, .aload_n 1, 1), (462, .aload_n 0, 1), (463, .iload_n 3, 1)], [(464, .iconst 1, 1), (465, .iadd, 1), (466, .iaload, 1), (467, .invokevirtual 44, 3), (470, .pop, 1), (471, .aload_n 2, 1)], [(472, .aload_n 0, 1), (473, .iload_n 3, 1), (474, .iconst 1, 1), (475, .iadd, 1), (476, .iaload, 1), (477, .invokevirtual 47, 3)], [(480, .pop, 1), (481, .goto 1423, 3), (484, .aload_n 1, 1), (485, .aload_n 0, 1), (486, .iload_n 3, 1), (487, .iconst 1, 1)], [(488, .iadd, 1), (489, .iaload, 1), (490, .aload_n 0, 1), (491, .iload_n 3, 1), (492, .iconst 2, 1), (493, .iadd, 1), (494, .iaload, 1), (495, .aload_n 0, 1)], [(496, .iload_n 3, 1), (497, .iconst 3, 1), (498, .iadd, 1), (499, .iaload, 1), (500, .aload_n 0, 1), (501, .iload_n 3, 1), (502, .iconst 4, 1), (503, .iadd, 1)], [(504, .iaload, 1), (505, .invokevirtual 48, 3), (508, .pop, 1), (509, .aload_n 2, 1), (510, .aload_n 0, 1), (511, .iload_n 3, 1)], [(512, .iconst 1, 1), (513, .iadd, 1), (514, .iaload, 1), (515, .aload_n 0, 1), (516, .iload_n 3, 1), (517, .iconst 2, 1), (518, .iadd, 1), (519, .iaload, 1)], [(520, .aload_n 0, 1), (521, .iload_n 3, 1), (522, .iconst 3, 1), (523, .iadd, 1), (524, .iaload, 1), (525, .aload_n 0, 1), (526, .iload_n 3, 1), (527, .iconst 4, 1)], [(528, .iadd, 1), (529, .iaload, 1), (530, .invokevirtual 52, 3), (533, .pop, 1), (534, .goto 1370, 3)], [(537, .aload_n 1, 1), (538, .aload_n 0, 1), (539, .iload_n 3, 1), (540, .iconst 1, 1), (541, .iadd, 1), (542, .iaload, 1), (543, .aload_n 0, 1)], [(544, .iload_n 3, 1), (545, .iconst 2, 1), (546, .iadd, 1), (547, .iaload, 1), (548, .aload_n 0, 1), (549, .iload_n 3, 1), (550, .iconst 3, 1), (551, .iadd, 1)], [(552, .iaload, 1), (553, .aload_n 0, 1), (554, .iload_n 3, 1), (555, .iconst 4, 1), (556, .iadd, 1), (557, .iaload, 1), (558, .invokevirtual 53, 3)], [(561, .pop, 1), (562, .aload_n 2, 1), (563, .aload_n 0, 1), (564, .iload_n 3, 1), (565, .iconst 1, 1), (566, .iadd, 1), (567, .iaload, 1)], [(568, .aload_n 0, 1), (569, .iload_n 3, 1), (570, .iconst 2, 1), (571, .iadd, 1), (572, .iaload, 1), (573, .aload_n 0, 1), (574, .iload_n 3, 1), (575, .iconst 3, 1)], [(576, .iadd, 1), (577, .iaload, 1), (578, .aload_n 0, 1), (579, .iload_n 3, 1), (580, .iconst 4, 1), (581, .iadd, 1), (582, .iaload, 1), (583, .invokevirtual 56, 3)], [(586, .pop, 1), (587, .goto 1317, 3), (590, .aload_n 1, 1), (591, .aload_n 0, 1)], [(592, .iload_n 3, 1), (593, .iconst 1, 1), (594, .iadd, 1), (595, .iaload, 1), (596, .aload_n 0, 1), (597, .iload_n 3, 1), (598, .iconst 2, 1), (599, .iadd, 1)], [(600, .iaload, 1), (601, .aload_n 0, 1), (602, .iload_n 3, 1), (603, .iconst 3, 1), (604, .iadd, 1), (605, .iaload, 1), (606, .invokevirtual 57, 3)], [(609, .pop, 1), (610, .aload_n 2, 1), (611, .aload_n 0, 1), (612, .iload_n 3, 1), (613, .iconst 1, 1), (614, .iadd, 1), (615, .iaload, 1)], [(616, .aload_n 0, 1), (617, .iload_n 3, 1), (618, .iconst 2, 1), (619, .iadd, 1), (620, .iaload, 1), (621, .aload_n 0, 1), (622, .iload_n 3, 1), (623, .iconst 3, 1)], [(624, .iadd, 1), (625, .iaload, 1), (626, .invokevirtual 60, 3), (629, .pop, 1), (630, .goto 1274, 3)], [(633, .aload_n 1, 1), (634, .aload_n 0, 1), (635, .iload_n 3, 1), (636, .iconst 1, 1), (637, .iadd, 1), (638, .iaload, 1), (639, .invokevirtual 61, 3)], [(642, .pop, 1), (643, .aload_n 2, 1), (644, .aload_n 0, 1), (645, .iload_n 3, 1), (646, .iconst 1, 1), (647, .iadd, 1)], [(648, .iaload, 1), (649, .invokevirtual 64, 3), (652, .pop, 1), (653, .goto 1251, 3)], [(656, .aload_n 1, 1), (657, .aload_n 0, 1), (658, .iload_n 3, 1), (659, .iconst 1, 1), (660, .iadd, 1), (661, .iaload, 1), (662, .aload_n 0, 1), (663, .iload_n 3, 1)], [(664, .iconst 2, 1), (665, .iadd, 1), (666, .iaload, 1), (667, .aload_n 0, 1), (668, .iload_n 3, 1), (669, .iconst 3, 1), (670, .iadd, 1), (671, .iaload, 1)], [(672, .invokevirtual 65, 3), (675, .pop, 1), (676, .aload_n 2, 1), (677, .aload_n 0, 1), (678, .iload_n 3, 1), (679, .iconst 1, 1)], [(680, .iadd, 1), (681, .iaload, 1), (682, .aload_n 0, 1), (683, .iload_n 3, 1), (684, .iconst 2, 1), (685, .iadd, 1), (686, .iaload, 1), (687, .aload_n 0, 1)], [(688, .iload_n 3, 1), (689, .iconst 3, 1), (690, .iadd, 1), (691, .iaload, 1), (692, .invokevirtual 68, 3), (695, .pop, 1)], [(696, .goto 1208, 3), (699, .aload_n 1, 1), (700, .aload_n 0, 1), (701, .iload_n 3, 1), (702, .iconst 1, 1), (703, .iadd, 1)], [(704, .iaload, 1), (705, .aload_n 0, 1), (706, .iload_n 3, 1), (707, .iconst 2, 1), (708, .iadd, 1), (709, .iaload, 1), (710, .invokevirtual 69, 3)], [(713, .pop, 1), (714, .aload_n 2, 1), (715, .aload_n 0, 1), (716, .iload_n 3, 1), (717, .iconst 1, 1), (718, .iadd, 1), (719, .iaload, 1)], [(720, .aload_n 0, 1), (721, .iload_n 3, 1), (722, .iconst 2, 1), (723, .iadd, 1), (724, .iaload, 1), (725, .invokevirtual 72, 3)], [(728, .pop, 1), (729, .goto 1175, 3), (732, .aload_n 1, 1), (733, .aload_n 0, 1), (734, .iload_n 3, 1), (735, .iconst 1, 1)], [(736, .iadd, 1), (737, .iaload, 1), (738, .aload_n 0, 1), (739, .iload_n 3, 1), (740, .iconst 2, 1), (741, .iadd, 1), (742, .iaload, 1), (743, .invokevirtual 73, 3)], [(746, .pop, 1), (747, .aload_n 2, 1), (748, .aload_n 0, 1), (749, .iload_n 3, 1), (750, .iconst 1, 1), (751, .iadd, 1)], [(752, .iaload, 1), (753, .aload_n 0, 1), (754, .iload_n 3, 1), (755, .iconst 2, 1), (756, .iadd, 1), (757, .iaload, 1), (758, .invokevirtual 76, 3)], [(761, .pop, 1), (762, .goto 1142, 3), (765, .aload_n 1, 1), (766, .aload_n 0, 1), (767, .iload_n 3, 1)], [(768, .iconst 1, 1), (769, .iadd, 1), (770, .iaload, 1), (771, .aload_n 0, 1), (772, .iload_n 3, 1), (773, .iconst 2, 1), (774, .iadd, 1), (775, .iaload, 1)], [(776, .invokevirtual 77, 3), (779, .pop, 1), (780, .aload_n 2, 1), (781, .aload_n 0, 1), (782, .iload_n 3, 1), (783, .iconst 1, 1)], [(784, .iadd, 1), (785, .iaload, 1), (786, .aload_n 0, 1), (787, .iload_n 3, 1), (788, .iconst 2, 1), (789, .iadd, 1), (790, .iaload, 1), (791, .invokevirtual 80, 3)], [(794, .pop, 1), (795, .goto 1109, 3), (798, .aload_n 1, 1), (799, .aload_n 0, 1)], [(800, .iload_n 3, 1), (801, .iconst 1, 1), (802, .iadd, 1), (803, .iaload, 1), (804, .aload_n 0, 1), (805, .iload_n 3, 1), (806, .iconst 2, 1), (807, .iadd, 1)], [(808, .iaload, 1), (809, .aload_n 0, 1), (810, .iload_n 3, 1), (811, .iconst 3, 1), (812, .iadd, 1), (813, .iaload, 1), (814, .aload_n 0, 1), (815, .iload_n 3, 1)], [(816, .iconst 4, 1), (817, .iadd, 1), (818, .iaload, 1), (819, .invokevirtual 81, 3), (822, .pop, 1), (823, .aload_n 2, 1)], [(824, .aload_n 0, 1), (825, .iload_n 3, 1), (826, .iconst 1, 1), (827, .iadd, 1), (828, .iaload, 1), (829, .aload_n 0, 1), (830, .iload_n 3, 1), (831, .iconst 2, 1)], [(832, .iadd, 1), (833, .iaload, 1), (834, .aload_n 0, 1), (835, .iload_n 3, 1), (836, .iconst 3, 1), (837, .iadd, 1), (838, .iaload, 1), (839, .aload_n 0, 1)], [(840, .iload_n 3, 1), (841, .iconst 4, 1), (842, .iadd, 1), (843, .iaload, 1), (844, .invokevirtual 84, 3), (847, .pop, 1)], [(848, .goto 1056, 3), (851, .aload_n 1, 1), (852, .aload_n 0, 1), (853, .iload_n 3, 1), (854, .iconst 1, 1), (855, .iadd, 1)], [(856, .iaload, 1), (857, .aload_n 0, 1), (858, .iload_n 3, 1), (859, .iconst 2, 1), (860, .iadd, 1), (861, .iaload, 1), (862, .aload_n 0, 1), (863, .iload_n 3, 1)], [(864, .iconst 3, 1), (865, .iadd, 1), (866, .iaload, 1), (867, .invokevirtual 85, 3), (870, .pop, 1), (871, .aload_n 2, 1)], [(872, .aload_n 0, 1), (873, .iload_n 3, 1), (874, .iconst 1, 1), (875, .iadd, 1), (876, .iaload, 1), (877, .aload_n 0, 1), (878, .iload_n 3, 1), (879, .iconst 2, 1)], [(880, .iadd, 1), (881, .iaload, 1), (882, .aload_n 0, 1), (883, .iload_n 3, 1), (884, .iconst 3, 1), (885, .iadd, 1), (886, .iaload, 1), (887, .invokevirtual 88, 3)], [(890, .pop, 1), (891, .goto 1013, 3), (894, .aload_n 1, 1), (895, .aload_n 0, 1)], [(896, .iload_n 3, 1), (897, .iconst 1, 1), (898, .iadd, 1), (899, .iaload, 1), (900, .aload_n 0, 1), (901, .iload_n 3, 1), (902, .iconst 2, 1), (903, .iadd, 1)], [(904, .iaload, 1), (905, .aload_n 0, 1), (906, .iload_n 3, 1), (907, .iconst 3, 1), (908, .iadd, 1), (909, .iaload, 1), (910, .invokevirtual 89, 3)], [(913, .pop, 1), (914, .aload_n 2, 1), (915, .aload_n 0, 1), (916, .iload_n 3, 1), (917, .iconst 1, 1), (918, .iadd, 1), (919, .iaload, 1)], [(920, .aload_n 0, 1), (921, .iload_n 3, 1), (922, .iconst 2, 1), (923, .iadd, 1), (924, .iaload, 1), (925, .aload_n 0, 1), (926, .iload_n 3, 1), (927, .iconst 3, 1)], [(928, .iadd, 1), (929, .iaload, 1), (930, .invokevirtual 92, 3), (933, .pop, 1), (934, .goto 970, 3)], [(937, .aload_n 1, 1), (938, .aload_n 0, 1), (939, .iload_n 3, 1), (940, .iconst 1, 1), (941, .iadd, 1), (942, .iaload, 1), (943, .aload_n 0, 1)], [(944, .iload_n 3, 1), (945, .iconst 2, 1), (946, .iadd, 1), (947, .iaload, 1), (948, .aload_n 0, 1), (949, .iload_n 3, 1), (950, .iconst 3, 1), (951, .iadd, 1)], [(952, .iaload, 1), (953, .aload_n 0, 1), (954, .iload_n 3, 1), (955, .iconst 4, 1), (956, .iadd, 1), (957, .iaload, 1), (958, .aload_n 0, 1), (959, .iload_n 3, 1)], [(960, .iconst 5, 1), (961, .iadd, 1), (962, .iaload, 1), (963, .invokevirtual 93, 3), (966, .pop, 1), (967, .aload_n 2, 1)], [(968, .aload_n 0, 1), (969, .iload_n 3, 1), (970, .iconst 1, 1), (971, .iadd, 1), (972, .iaload, 1), (973, .aload_n 0, 1), (974, .iload_n 3, 1), (975, .iconst 2, 1)], [(976, .iadd, 1), (977, .iaload, 1), (978, .aload_n 0, 1), (979, .iload_n 3, 1), (980, .iconst 3, 1), (981, .iadd, 1), (982, .iaload, 1), (983, .aload_n 0, 1)], [(984, .iload_n 3, 1), (985, .iconst 4, 1), (986, .iadd, 1), (987, .iaload, 1), (988, .aload_n 0, 1), (989, .iload_n 3, 1), (990, .iconst 5, 1), (991, .iadd, 1)], [(992, .iaload, 1), (993, .invokevirtual 97, 3), (996, .pop, 1), (997, .goto 907, 3)], [(1000, .aload_n 1, 1), (1001, .aload_n 0, 1), (1002, .iload_n 3, 1), (1003, .iconst 1, 1), (1004, .iadd, 1), (1005, .iaload, 1), (1006, .aload_n 0, 1), (1007, .iload_n 3, 1)], [(1008, .iconst 2, 1), (1009, .iadd, 1), (1010, .iaload, 1), (1011, .invokevirtual 98, 3), (1014, .pop, 1), (1015, .aload_n 2, 1)], [(1016, .aload_n 0, 1), (1017, .iload_n 3, 1), (1018, .iconst 1, 1), (1019, .iadd, 1), (1020, .iaload, 1), (1021, .aload_n 0, 1), (1022, .iload_n 3, 1), (1023, .iconst 2, 1)], [(1024, .iadd, 1), (1025, .iaload, 1), (1026, .invokevirtual 101, 3), (1029, .pop, 1), (1030, .goto 874, 3)], [(1033, .aload_n 1, 1), (1034, .aload_n 0, 1), (1035, .iload_n 3, 1), (1036, .iconst 1, 1), (1037, .iadd, 1), (1038, .iaload, 1), (1039, .aload_n 0, 1)], [(1040, .iload_n 3, 1), (1041, .iconst 2, 1), (1042, .iadd, 1), (1043, .iaload, 1), (1044, .invokevirtual 102, 3), (1047, .pop, 1)], [(1048, .aload_n 2, 1), (1049, .aload_n 0, 1), (1050, .iload_n 3, 1), (1051, .iconst 1, 1), (1052, .iadd, 1), (1053, .iaload, 1), (1054, .aload_n 0, 1), (1055, .iload_n 3, 1)], [(1056, .iconst 2, 1), (1057, .iadd, 1), (1058, .iaload, 1), (1059, .invokevirtual 105, 3), (1062, .pop, 1), (1063, .goto 841, 3)], [(1066, .aload_n 1, 1), (1067, .aload_n 0, 1), (1068, .iload_n 3, 1), (1069, .iconst 1, 1), (1070, .iadd, 1), (1071, .iaload, 1)], [(1072, .aload_n 0, 1), (1073, .iload_n 3, 1), (1074, .iconst 2, 1), (1075, .iadd, 1), (1076, .iaload, 1), (1077, .aload_n 0, 1), (1078, .iload_n 3, 1), (1079, .iconst 3, 1)], [(1080, .iadd, 1), (1081, .iaload, 1), (1082, .invokevirtual 106, 3), (1085, .pop, 1), (1086, .aload_n 2, 1), (1087, .aload_n 0, 1)], [(1088, .iload_n 3, 1), (1089, .iconst 1, 1), (1090, .iadd, 1), (1091, .iaload, 1), (1092, .aload_n 0, 1), (1093, .iload_n 3, 1), (1094, .iconst 2, 1), (1095, .iadd, 1)], [(1096, .iaload, 1), (1097, .aload_n 0, 1), (1098, .iload_n 3, 1), (1099, .iconst 3, 1), (1100, .iadd, 1), (1101, .iaload, 1), (1102, .invokevirtual 109, 3)], [(1105, .pop, 1), (1106, .goto 798, 3), (1109, .aload_n 1, 1), (1110, .aload_n 0, 1), (1111, .iload_n 3, 1)], [(1112, .iconst 1, 1), (1113, .iadd, 1), (1114, .iaload, 1), (1115, .aload_n 0, 1), (1116, .iload_n 3, 1), (1117, .iconst 2, 1), (1118, .iadd, 1), (1119, .iaload, 1)], [(1120, .aload_n 0, 1), (1121, .iload_n 3, 1), (1122, .iconst 3, 1), (1123, .iadd, 1), (1124, .iaload, 1), (1125, .aload_n 0, 1), (1126, .iload_n 3, 1), (1127, .iconst 4, 1)], [(1128, .iadd, 1), (1129, .iaload, 1), (1130, .aload_n 0, 1), (1131, .iload_n 3, 1), (1132, .iconst 5, 1), (1133, .iadd, 1), (1134, .iaload, 1), (1135, .invokevirtual 110, 3)], [(1138, .pop, 1), (1139, .aload_n 2, 1), (1140, .aload_n 0, 1), (1141, .iload_n 3, 1), (1142, .iconst 1, 1), (1143, .iadd, 1)], [(1144, .iaload, 1), (1145, .aload_n 0, 1), (1146, .iload_n 3, 1), (1147, .iconst 2, 1), (1148, .iadd, 1), (1149, .iaload, 1), (1150, .aload_n 0, 1), (1151, .iload_n 3, 1)], [(1152, .iconst 3, 1), (1153, .iadd, 1), (1154, .iaload, 1), (1155, .aload_n 0, 1), (1156, .iload_n 3, 1), (1157, .iconst 4, 1), (1158, .iadd, 1), (1159, .iaload, 1)], [(1160, .aload_n 0, 1), (1161, .iload_n 3, 1), (1162, .iconst 5, 1), (1163, .iadd, 1), (1164, .iaload, 1), (1165, .invokevirtual 113, 3)], [(1168, .pop, 1), (1169, .goto 735, 3), (1172, .aload_n 1, 1), (1173, .aload_n 0, 1), (1174, .iload_n 3, 1), (1175, .iconst 1, 1)], [(1176, .iadd, 1), (1177, .iaload, 1), (1178, .aload_n 0, 1), (1179, .iload_n 3, 1), (1180, .iconst 2, 1), (1181, .iadd, 1), (1182, .iaload, 1), (1183, .aload_n 0, 1)], [(1184, .iload_n 3, 1), (1185, .iconst 3, 1), (1186, .iadd, 1), (1187, .iaload, 1), (1188, .invokevirtual 114, 3), (1191, .pop, 1)], [(1192, .aload_n 2, 1), (1193, .aload_n 0, 1), (1194, .iload_n 3, 1), (1195, .iconst 1, 1), (1196, .iadd, 1), (1197, .iaload, 1), (1198, .aload_n 0, 1), (1199, .iload_n 3, 1)], [(1200, .iconst 2, 1), (1201, .iadd, 1), (1202, .iaload, 1), (1203, .aload_n 0, 1), (1204, .iload_n 3, 1), (1205, .iconst 3, 1), (1206, .iadd, 1), (1207, .iaload, 1)], [(1208, .invokevirtual 117, 3), (1211, .pop, 1), (1212, .goto 692, 3), (1215, .aload_n 1, 1)], [(1216, .aload_n 0, 1), (1217, .iload_n 3, 1), (1218, .iconst 1, 1), (1219, .iadd, 1), (1220, .iaload, 1), (1221, .aload_n 0, 1), (1222, .iload_n 3, 1), (1223, .iconst 2, 1)], [(1224, .iadd, 1), (1225, .iaload, 1), (1226, .invokevirtual 118, 3), (1229, .pop, 1), (1230, .aload_n 2, 1), (1231, .aload_n 0, 1)], [(1232, .iload_n 3, 1), (1233, .iconst 1, 1), (1234, .iadd, 1), (1235, .iaload, 1), (1236, .aload_n 0, 1), (1237, .iload_n 3, 1), (1238, .iconst 2, 1), (1239, .iadd, 1)], [(1240, .iaload, 1), (1241, .invokevirtual 121, 3), (1244, .pop, 1), (1245, .goto 659, 3)], [(1248, .aload_n 1, 1), (1249, .aload_n 0, 1), (1250, .iload_n 3, 1), (1251, .iconst 1, 1), (1252, .iadd, 1), (1253, .iaload, 1), (1254, .aload_n 0, 1), (1255, .iload_n 3, 1)], [(1256, .iconst 2, 1), (1257, .iadd, 1), (1258, .iaload, 1), (1259, .invokevirtual 122, 3), (1262, .pop, 1), (1263, .aload_n 2, 1)], [(1264, .aload_n 0, 1), (1265, .iload_n 3, 1), (1266, .iconst 1, 1), (1267, .iadd, 1), (1268, .iaload, 1), (1269, .aload_n 0, 1), (1270, .iload_n 3, 1), (1271, .iconst 2, 1)], [(1272, .iadd, 1), (1273, .iaload, 1), (1274, .invokevirtual 125, 3), (1277, .pop, 1), (1278, .goto 626, 3)], [(1281, .aload_n 1, 1), (1282, .aload_n 0, 1), (1283, .iload_n 3, 1), (1284, .iconst 1, 1), (1285, .iadd, 1), (1286, .iaload, 1), (1287, .invokevirtual 126, 3)], [(1290, .pop, 1), (1291, .aload_n 2, 1), (1292, .aload_n 0, 1), (1293, .iload_n 3, 1), (1294, .iconst 1, 1), (1295, .iadd, 1)], [(1296, .iaload, 1), (1297, .invokevirtual 129, 3), (1300, .pop, 1), (1301, .goto 603, 3)], [(1304, .aload_n 1, 1), (1305, .aload_n 0, 1), (1306, .iload_n 3, 1), (1307, .iconst 1, 1), (1308, .iadd, 1), (1309, .iaload, 1), (1310, .aload_n 0, 1), (1311, .iload_n 3, 1)], [(1312, .iconst 2, 1), (1313, .iadd, 1), (1314, .iaload, 1), (1315, .aload_n 0, 1), (1316, .iload_n 3, 1), (1317, .iconst 3, 1), (1318, .iadd, 1), (1319, .iaload, 1)], [(1320, .aload_n 0, 1), (1321, .iload_n 3, 1), (1322, .iconst 4, 1), (1323, .iadd, 1), (1324, .iaload, 1), (1325, .invokevirtual 130, 3)], [(1328, .pop, 1), (1329, .aload_n 2, 1), (1330, .aload_n 0, 1), (1331, .iload_n 3, 1), (1332, .iconst 1, 1), (1333, .iadd, 1), (1334, .iaload, 1), (1335, .aload_n 0, 1)], [(1336, .iload_n 3, 1), (1337, .iconst 2, 1), (1338, .iadd, 1), (1339, .iaload, 1), (1340, .aload_n 0, 1), (1341, .iload_n 3, 1), (1342, .iconst 3, 1), (1343, .iadd, 1)], [(1344, .iaload, 1), (1345, .aload_n 0, 1), (1346, .iload_n 3, 1), (1347, .iconst 4, 1), (1348, .iadd, 1), (1349, .iaload, 1), (1350, .invokevirtual 133, 3)], [(1353, .pop, 1), (1354, .goto 550, 3), (1357, .aload_n 1, 1), (1358, .aload_n 0, 1), (1359, .iload_n 3, 1)], [(1360, .iconst 1, 1), (1361, .iadd, 1), (1362, .iaload, 1), (1363, .invokevirtual 134, 3), (1366, .pop, 1), (1367, .aload_n 2, 1)], [(1368, .aload_n 0, 1), (1369, .iload_n 3, 1), (1370, .iconst 1, 1), (1371, .iadd, 1), (1372, .iaload, 1), (1373, .invokevirtual 137, 3)], [(1376, .pop, 1), (1377, .goto 527, 3), (1380, .aload_n 1, 1), (1381, .aload_n 0, 1), (1382, .iload_n 3, 1), (1383, .iconst 1, 1)], [(1384, .iadd, 1), (1385, .iaload, 1), (1386, .invokevirtual 138, 3), (1389, .pop, 1), (1390, .aload_n 2, 1), (1391, .aload_n 0, 1)], [(1392, .iload_n 3, 1), (1393, .iconst 1, 1), (1394, .iadd, 1), (1395, .iaload, 1), (1396, .invokevirtual 141, 3), (1399, .pop, 1)], [(1400, .goto 504, 3), (1403, .aload_n 1, 1), (1404, .aload_n 0, 1), (1405, .iload_n 3, 1), (1406, .iconst 1, 1), (1407, .iadd, 1)], [(1408, .iaload, 1), (1409, .aload_n 0, 1), (1410, .iload_n 3, 1), (1411, .iconst 2, 1), (1412, .iadd, 1), (1413, .iaload, 1), (1414, .invokevirtual 142, 3)], [(1417, .pop, 1), (1418, .aload_n 2, 1), (1419, .aload_n 0, 1), (1420, .iload_n 3, 1), (1421, .iconst 1, 1), (1422, .iadd, 1), (1423, .iaload, 1)], [(1424, .aload_n 0, 1), (1425, .iload_n 3, 1), (1426, .iconst 2, 1), (1427, .iadd, 1), (1428, .iaload, 1), (1429, .invokevirtual 145, 3)], [(1432, .pop, 1), (1433, .goto 471, 3), (1436, .aload_n 1, 1), (1437, .aload_n 0, 1), (1438, .iload_n 3, 1), (1439, .iconst 1, 1)], [(1440, .iadd, 1), (1441, .iaload, 1), (1442, .invokevirtual 146, 3), (1445, .pop, 1), (1446, .aload_n 2, 1), (1447, .aload_n 0, 1)], [(1448, .iload_n 3, 1), (1449, .iconst 1, 1), (1450, .iadd, 1), (1451, .iaload, 1), (1452, .invokevirtual 149, 3), (1455, .pop, 1)], [(1456, .goto 448, 3), (1459, .aload_n 1, 1), (1460, .aload_n 0, 1), (1461, .iload_n 3, 1), (1462, .iconst 1, 1), (1463, .iadd, 1)], [(1464, .iaload, 1), (1465, .aload_n 0, 1), (1466, .iload_n 3, 1), (1467, .iconst 2, 1), (1468, .iadd, 1), (1469, .iaload, 1), (1470, .invokevirtual 150, 3)], [(1473, .pop, 1), (1474, .aload_n 2, 1), (1475, .aload_n 0, 1), (1476, .iload_n 3, 1), (1477, .iconst 1, 1), (1478, .iadd, 1), (1479, .iaload, 1)], [(1480, .aload_n 0, 1), (1481, .iload_n 3, 1), (1482, .iconst 2, 1), (1483, .iadd, 1), (1484, .iaload, 1), (1485, .invokevirtual 153, 3)], [(1488, .pop, 1), (1489, .goto 415, 3), (1492, .aload_n 1, 1), (1493, .aload_n 0, 1), (1494, .iload_n 3, 1), (1495, .iconst 1, 1)], [(1496, .iadd, 1), (1497, .iaload, 1), (1498, .aload_n 0, 1), (1499, .iload_n 3, 1), (1500, .iconst 2, 1), (1501, .iadd, 1), (1502, .iaload, 1), (1503, .aload_n 0, 1)], [(1504, .iload_n 3, 1), (1505, .iconst 3, 1), (1506, .iadd, 1), (1507, .iaload, 1), (1508, .invokevirtual 154, 3), (1511, .pop, 1)], [(1512, .aload_n 2, 1), (1513, .aload_n 0, 1), (1514, .iload_n 3, 1), (1515, .iconst 1, 1), (1516, .iadd, 1), (1517, .iaload, 1), (1518, .aload_n 0, 1), (1519, .iload_n 3, 1)], [(1520, .iconst 2, 1), (1521, .iadd, 1), (1522, .iaload, 1), (1523, .aload_n 0, 1), (1524, .iload_n 3, 1), (1525, .iconst 3, 1), (1526, .iadd, 1), (1527, .iaload, 1)], [(1528, .invokevirtual 157, 3), (1531, .pop, 1), (1532, .goto 372, 3), (1535, .aload_n 1, 1)], [(1536, .aload_n 0, 1), (1537, .iload_n 3, 1), (1538, .iconst 1, 1), (1539, .iadd, 1), (1540, .iaload, 1), (1541, .invokevirtual 158, 3)], [(1544, .pop, 1), (1545, .aload_n 2, 1), (1546, .aload_n 0, 1), (1547, .iload_n 3, 1), (1548, .iconst 1, 1), (1549, .iadd, 1), (1550, .iaload, 1), (1551, .invokevirtual 161, 3)], [(1554, .pop, 1), (1555, .goto 349, 3), (1558, .aload_n 1, 1), (1559, .invokevirtual 162, 3)], [(1562, .pop, 1), (1563, .aload_n 2, 1), (1564, .invokevirtual 166, 3), (1567, .pop, 1)], [(1568, .goto 336, 3), (1571, .aload_n 1, 1), (1572, .aload_n 0, 1), (1573, .iload_n 3, 1), (1574, .iconst 1, 1), (1575, .iadd, 1)], [(1576, .iaload, 1), (1577, .aload_n 0, 1), (1578, .iload_n 3, 1), (1579, .iconst 2, 1), (1580, .iadd, 1), (1581, .iaload, 1), (1582, .aload_n 0, 1), (1583, .iload_n 3, 1)], [(1584, .iconst 3, 1), (1585, .iadd, 1), (1586, .iaload, 1), (1587, .aload_n 0, 1), (1588, .iload_n 3, 1), (1589, .iconst 4, 1), (1590, .iadd, 1), (1591, .iaload, 1)], [(1592, .aload_n 0, 1), (1593, .iload_n 3, 1), (1594, .iconst 5, 1), (1595, .iadd, 1), (1596, .iaload, 1), (1597, .invokevirtual 167, 3)], [(1600, .pop, 1), (1601, .aload_n 2, 1), (1602, .aload_n 0, 1), (1603, .iload_n 3, 1), (1604, .iconst 1, 1), (1605, .iadd, 1), (1606, .iaload, 1), (1607, .aload_n 0, 1)], [(1608, .iload_n 3, 1), (1609, .iconst 2, 1), (1610, .iadd, 1), (1611, .iaload, 1), (1612, .aload_n 0, 1), (1613, .iload_n 3, 1), (1614, .iconst 3, 1), (1615, .iadd, 1)], [(1616, .iaload, 1), (1617, .aload_n 0, 1), (1618, .iload_n 3, 1), (1619, .iconst 4, 1), (1620, .iadd, 1), (1621, .iaload, 1), (1622, .aload_n 0, 1), (1623, .iload_n 3, 1)], [(1624, .iconst 5, 1), (1625, .iadd, 1), (1626, .iaload, 1), (1627, .invokevirtual 170, 3), (1630, .pop, 1), (1631, .goto 273, 3)], [(1634, .aload_n 1, 1), (1635, .aload_n 0, 1), (1636, .iload_n 3, 1), (1637, .iconst 1, 1), (1638, .iadd, 1), (1639, .iaload, 1)], [(1640, .aload_n 0, 1), (1641, .iload_n 3, 1), (1642, .iconst 2, 1), (1643, .iadd, 1), (1644, .iaload, 1), (1645, .invokevirtual 171, 3)], [(1648, .pop, 1), (1649, .aload_n 2, 1), (1650, .aload_n 0, 1), (1651, .iload_n 3, 1), (1652, .iconst 1, 1), (1653, .iadd, 1), (1654, .iaload, 1), (1655, .aload_n 0, 1)], [(1656, .iload_n 3, 1), (1657, .iconst 2, 1), (1658, .iadd, 1), (1659, .iaload, 1), (1660, .invokevirtual 174, 3), (1663, .pop, 1)], [(1664, .goto 240, 3), (1667, .aload_n 1, 1), (1668, .aload_n 0, 1), (1669, .iload_n 3, 1), (1670, .iconst 1, 1), (1671, .iadd, 1)], [(1672, .iaload, 1), (1673, .invokevirtual 175, 3), (1676, .aload_n 2, 1), (1677, .aload_n 0, 1), (1678, .iload_n 3, 1), (1679, .iconst 1, 1)], [(1680, .iadd, 1), (1681, .iaload, 1), (1682, .invokevirtual 178, 3), (1685, .if_icmp .eq 219, 3)], [(1688, .iconst 0, 1), (1689, .ireturn, 1), (1690, .aload_n 1, 1), (1691, .aload_n 0, 1), (1692, .iload_n 3, 1), (1693, .iconst 1, 1), (1694, .iadd, 1), (1695, .iaload, 1)], [(1696, .invokevirtual 179, 3), (1699, .pop, 1), (1700, .aload_n 2, 1), (1701, .aload_n 0, 1), (1702, .iload_n 3, 1), (1703, .iconst 1, 1)], [(1704, .iadd, 1), (1705, .iaload, 1), (1706, .invokevirtual 182, 3), (1709, .pop, 1), (1710, .goto 194, 3)], [(1713, .aload_n 1, 1), (1714, .aload_n 0, 1), (1715, .iload_n 3, 1), (1716, .iconst 1, 1), (1717, .iadd, 1), (1718, .iaload, 1), (1719, .invokevirtual 183, 3)], [(1722, .pop, 1), (1723, .aload_n 2, 1), (1724, .aload_n 0, 1), (1725, .iload_n 3, 1), (1726, .iconst 1, 1), (1727, .iadd, 1)], [(1728, .iaload, 1), (1729, .invokevirtual 186, 3), (1732, .pop, 1), (1733, .goto 171, 3)], [(1736, .aload_n 1, 1), (1737, .aload_n 0, 1), (1738, .iload_n 3, 1), (1739, .iconst 1, 1), (1740, .iadd, 1), (1741, .iaload, 1), (1742, .invokevirtual 187, 3)], [(1745, .pop, 1), (1746, .aload_n 2, 1), (1747, .aload_n 0, 1), (1748, .iload_n 3, 1), (1749, .iconst 1, 1), (1750, .iadd, 1), (1751, .iaload, 1)], [(1752, .invokevirtual 190, 3), (1755, .pop, 1), (1756, .goto 148, 3), (1759, .aload_n 1, 1)], [(1760, .aload_n 0, 1), (1761, .iload_n 3, 1), (1762, .iconst 1, 1), (1763, .iadd, 1), (1764, .iaload, 1), (1765, .invokevirtual 191, 3)], [(1768, .pop, 1), (1769, .aload_n 2, 1), (1770, .aload_n 0, 1), (1771, .iload_n 3, 1), (1772, .iconst 1, 1), (1773, .iadd, 1), (1774, .iaload, 1), (1775, .invokevirtual 194, 3)], [(1778, .pop, 1), (1779, .goto 125, 3), (1782, .aload_n 1, 1), (1783, .aload_n 0, 1)], [(1784, .iload_n 3, 1), (1785, .iconst 1, 1), (1786, .iadd, 1), (1787, .iaload, 1), (1788, .aload_n 0, 1), (1789, .iload_n 3, 1), (1790, .iconst 2, 1), (1791, .iadd, 1)], [(1792, .iaload, 1), (1793, .aload_n 0, 1), (1794, .iload_n 3, 1), (1795, .iconst 3, 1), (1796, .iadd, 1), (1797, .iaload, 1), (1798, .invokevirtual 195, 3)], [(1801, .pop, 1), (1802, .aload_n 2, 1), (1803, .aload_n 0, 1), (1804, .iload_n 3, 1), (1805, .iconst 1, 1), (1806, .iadd, 1), (1807, .iaload, 1)], [(1808, .aload_n 0, 1), (1809, .iload_n 3, 1), (1810, .iconst 2, 1), (1811, .iadd, 1), (1812, .iaload, 1), (1813, .aload_n 0, 1), (1814, .iload_n 3, 1), (1815, .iconst 3, 1)], [(1816, .iadd, 1), (1817, .iaload, 1), (1818, .invokevirtual 198, 3), (1821, .pop, 1), (1822, .goto 82, 3)], [(1825, .aload_n 1, 1), (1826, .aload_n 0, 1), (1827, .iload_n 3, 1), (1828, .iconst 1, 1), (1829, .iadd, 1), (1830, .iaload, 1), (1831, .invokevirtual 199, 3)], [(1834, .pop, 1), (1835, .aload_n 2, 1), (1836, .aload_n 0, 1), (1837, .iload_n 3, 1), (1838, .iconst 1, 1), (1839, .iadd, 1)], [(1840, .iaload, 1), (1841, .invokevirtual 202, 3), (1844, .pop, 1), (1845, .goto 59, 3)], [(1848, .aload_n 1, 1), (1849, .aload_n 0, 1), (1850, .iload_n 3, 1), (1851, .iconst 1, 1), (1852, .iadd, 1), (1853, .iaload, 1), (1854, .aload_n 0, 1), (1855, .iload_n 3, 1)], [(1856, .iconst 2, 1), (1857, .iadd, 1), (1858, .iaload, 1), (1859, .invokevirtual 203, 3), (1862, .pop, 1), (1863, .aload_n 2, 1)], [(1864, .aload_n 0, 1), (1865, .iload_n 3, 1), (1866, .iconst 1, 1), (1867, .iadd, 1), (1868, .iaload, 1), (1869, .aload_n 0, 1), (1870, .iload_n 3, 1), (1871, .iconst 2, 1)], [(1872, .iadd, 1), (1873, .iaload, 1), (1874, .invokevirtual 206, 3), (1877, .pop, 1), (1878, .goto 26, 3)], [(1881, .aload_n 1, 1), (1882, .aload_n 0, 1), (1883, .iload_n 3, 1), (1884, .iconst 1, 1), (1885, .iadd, 1), (1886, .iaload, 1), (1887, .invokevirtual 207, 3)], [(1890, .pop, 1), (1891, .aload_n 2, 1), (1892, .aload_n 0, 1), (1893, .iload_n 3, 1), (1894, .iconst 1, 1), (1895, .iadd, 1)], [(1896, .iaload, 1), (1897, .invokevirtual 210, 3), (1900, .pop, 1), (1901, .goto 3, 3)], [(1904, .iinc 3 6, 3), (1907, .goto (-1889), 3), (1910, .iconst 1, 1), (1911, .ireturn, 1)]]
def pgC_0 : List (List (List (Nat × Instr × Nat))) := [pgc0, pgc1, pgc2, pgc3, pgc4, pgc5, pgc6, pgc7, pgc8, pgc9, pgc10, pgc11, pgc12, pgc13, pgc14, pgc15]
def pgC_1 : List (List (List (Nat × Instr × Nat))) := [pgc16, pgc17, pgc18, pgc19, pgc20, pgc21, pgc22, pgc23, pgc24, pgc25, pgc26, pgc27, pgc28, pgc29, pgc30, pgc31]
def pgC_2 : List (List (List (Nat × Instr × Nat))) := [pgc32, pgc33, pgc34, pgc35, pgc36, pgc37, pgc38, pgc39, pgc40, pgc41, pgc42, pgc43, pgc44, pgc45, pgc46, pgc47]
def pgC_3 : List (List (List (Nat × Instr × Nat))) := [pgc48, pgc49, pgc50, pgc51, pgc52, pgc53, pgc54, pgc55, pgc56, pgc57, pgc58, pgc59, pgc60, pgc61, pgc62, pgc63]
def pgC_4 : List (List (List (Nat × Instr × Nat))) := [pgc64, pgc65, pgc66, pgc67, pgc68, pgc69, pgc70, pgc71, pgc72, pgc73, pgc74, pgc75, pgc76, pgc77, pgc78, pgc79]
def pgC_5 : List (List (List (Nat × Instr × Nat))) := [pgc80, pgc81, pgc82, pgc83, pgc84, pgc85, pgc86, pgc87, pgc88, pgc89, pgc90, pgc91, pgc92, pgc93, pgc94, pgc95]
def pgC_6 : List (List (List (Nat × Instr × Nat))) := [pgc96, pgc97, pgc98, pgc99, pgc100, pgc101, pgc102, pgc103, pgc104, pgc105, pgc106, pgc107, pgc108, pgc109, pgc110, pgc111]
def pgC_7 : List (List (List (Nat × Instr × Nat))) := [pgc112, pgc113, pgc114, pgc115, pgc116, pgc117, pgc118, pgc119, pgc120, pgc121, pgc122, pgc123, pgc124, pgc125, pgc126, pgc127]
def pgC_8 : List (List (List (Nat × Instr × Nat))) := [pgc128, pgc129, pgc130, pgc131, pgc132, pgc133, pgc134, pgc135, pgc136, pgc137, pgc138, pgc139, pgc140, pgc141, pgc142, pgc143]
def pgC_9 : List (List (List (Nat × Instr × Nat))) := [pgc144, pgc145, pgc146, pgc147, pgc148, pgc149, pgc150, pgc151, pgc152, pgc153, pgc154, pgc155, pgc156, pgc157, pgc158, pgc159]
def pgC_10 : List (List (List (Nat × Instr × Nat))) := [pgc160, pgc161, pgc162, pgc163, pgc164, pgc165, pgc166, pgc167, pgc168, pgc169, pgc170, pgc171, pgc172, pgc173, pgc174, pgc175]
def pgC_11 : List (List (List (Nat × Instr × Nat))) := [pgc176, pgc177, pgc178, pgc179, pgc180, pgc181, pgc182, pgc183, pgc184, pgc185, pgc186, pgc187, pgc188, pgc189, pgc190, pgc191]
def pgC_12 : List (List (List (Nat × Instr × Nat))) := [pgc192, pgc193, pgc194, pgc195, pgc196, pgc197, pgc198, pgc199, pgc200, pgc201, pgc202, pgc203, pgc204, pgc205, pgc206, pgc207]
def pgC_13 : List (List (List (Nat × Instr × Nat))) := [pgc208, pgc209, pgc210, pgc211, pgc212, pgc213, pgc214, pgc215, pgc216, pgc217, pgc218, pgc219, pgc220, pgc221, pgc222, pgc223]
def pgC_14 : List (List (List (Nat × Instr × Nat))) := [pgc224, pgc225, pgc226, pgc227, pgc228, pgc229, pgc230, pgc231, pgc232, pgc233, pgc234, pgc235, pgc236, pgc237, pgc238, pgc239]
def pgC_15 : List (List (List (Nat × Instr × Nat))) := [pgc240, pgc241, pgc242, pgc243, pgc244, pgc245, pgc246, pgc247, pgc248, pgc249, pgc250, pgc251, pgc252, pgc253, pgc254, pgc255]
def pgC_16 : List (List (List (Nat × Instr × Nat))) := [pgc256, pgc257, pgc258, pgc259, pgc260, pgc261, pgc262, pgc263, pgc264, pgc265, pgc266, pgc267, pgc268, pgc269, pgc270, pgc271]
def pgC_17 : List (List (List (Nat × Instr × Nat))) := [pgc272, pgc273, pgc274]
def pgCs : List (List (List (List (Nat × Instr × Nat)))) := [pgC_0, pgC_1, pgC_2, pgC_3, pgC_4, pgC_5, pgC_6, pgC_7, pgC_8, pgC_9, pgC_10, pgC_11, pgC_12, pgC_13, pgC_14, pgC_15, pgC_16, pgC_17]
def pgr0 : List (Nat × (Nat × Nat × Int) × Nat) := [(3, (10, 0, 0), 372), (11, (14, 4, 0), 373), (13, (0, 0, 0), 375), (17, (0, 0, 1), 376), (20, (0, 0, 2), 378), (23, (0, 0, 3), 379), (26, (0, 0, 4), 380), (30, (0, 0, 5), 382), (35, (0, 0, 6), 384), (38, (0, 0, 8), 387), (42, (0, 0, 7), 385), (45, (1, 9, 1), 347), (47, (1, 9, 3), 351), (48, (4, 273, 0), 1120), (54, (6, 1, 0), 916), (58, (0, 0, 9), 389), (61, (0, 0, 10), 391), (64, (6, 6, 0), 938), (68, (6, 7, 0), 942), (72, (4, 5, 0), 946), (76, (4, 8, 0), 949)]
def pgr1 : List (Nat × (Nat × Nat × Int) × Nat) := [(3, (10, 0, 0), 421), (9, (0, 1, 0), 422), (15, (0, 1, 1), 423), (19, (0, 1, 2), 424), (23, (0, 1, 3), 425), (27, (0, 1, 4), 426), (31, (0, 1, 5), 427), (35, (1, 2, 3), 775), (41, (1, 2, 4), 777), (45, (7, 41, 0), 886), (51, (1, 2, 8), 791), (54, (1, 4, 0), 189), (58, (7, 51, 0), 887), (64, (7, 20, 0), 881), (68, (6, 10, 0), 882), (72, (1, 2, 10), 796), (75, (1, 2, 6), 784), (78, (1, 2, 7), 788), (81, (7, 64, 0), 888), (87, (7, 66, 0), 889), (91, (4, 262, 0), 890), (97, (0, 1, 6), 428), (100, (7, 28, 0), 907), (106, (6, 15, 0), 908), (110, (6, 11, 0), 954), (114, (7, 62, 0), 955), (117, (17, 0, 1000), 956), (119, (6, 13, 0), 957), (122, (17, 0, 100), 967), (124, (7, 3, 0), 912), (130, (2, 3, 0), 920), (133, (1, 0, 5), 383), (136, (1, 2, 1), 769), (139, (1, 2, 5), 781), (142, (7, 49, 0), 961), (146, (1, 0, 4), 381), (150, (7, 59, 0), 966), (156, (6, 14, 0), 923), (160, (7, 4, 0), 934), (163, (1, 0, 9), 390), (164, (4, 261, 0), 953), (167, (7, 46, 0), 927), (170, (1, 4, 1), 193), (173, (1, 3, 3), 312), (176, (4, 259, 0), 928), (181, (4, 272, 0), 922), (187, (16, 0, 99999999), 952), (188, (1, 3, 4), 314), (191, (7, 26, 0), 976), (195, (6, 12, 0), 977), (198, (17, 0, 1999999999), 978), (200, (4, 263, 0), 979), (203, (6, 16, 0), 986), (206, (1, 4, 6), 200)]
def pgr2 : List (Nat × (Nat × Nat × Int) × Nat) := [(1, (10, 0, 0), 764), (7, (0, 2, 11), 798), (13, (0, 2, 0), 766), (16, (0, 2, 1), 768), (19, (0, 2, 2), 772), (24, (5, 25, 0), 765), (28, (0, 2, 3), 774), (32, (0, 2, 4), 776), (35, (0, 2, 5), 780), (38, (0, 2, 6), 783), (41, (0, 2, 7), 787), (44, (0, 2, 8), 790), (47, (0, 2, 9), 793), (50, (0, 2, 10), 795), (53, (0, 2, 12), 800)]
def pgr3 : List (Nat × (Nat × Nat × Int) × Nat) := [(3, (10, 0, 0), 303), (11, (14, 3, 0), 304), (13, (0, 3, 0), 306), (17, (0, 3, 1), 307), (21, (0, 3, 2), 309), (26, (0, 3, 3), 311), (29, (0, 3, 7), 320), (33, (2, 1, 0), 754), (36, (4, 24, 0), 751), (40, (0, 3, 4), 313), (43, (9, 19, 0), 761), (46, (1, 2, 4), 778), (49, (1, 2, 6), 785), (52, (1, 2, 0), 767), (55, (6, 26, 0), 895), (59, (4, 29, 0), 896), (63, (7, 22, 0), 899), (67, (1, 2, 11), 799), (70, (1, 2, 12), 801), (73, (0, 3, 5), 316), (76, (6, 32, 0), 1307), (80, (16, 0, 1103515245), 1311), (81, (7, 21, 0), 1320), (85, (4, 35, 0), 1321), (89, (4, 36, 0), 1324), (93, (17, 0, 100), 1327), (95, (17, 0, 5), 1328), (97, (2, 2, 0), 1358), (100, (4, 37, 0), 1355), (104, (4, 38, 0), 1352), (107, (0, 3, 6), 318), (110, (1, 2, 1), 771), (113, (6, 39, 0), 1360)]
def pgr4 : List (Nat × (Nat × Nat × Int) × Nat) := [(3, (10, 0, 0), 187), (11, (0, 4, 0), 188), (15, (0, 4, 1), 192), (18, (0, 4, 2), 195), (21, (0, 4, 3), 196), (24, (0, 4, 4), 197), (27, (0, 4, 5), 198), (30, (0, 4, 6), 199), (34, (0, 4, 7), 202)]
def pgr5 : List (Nat × (Nat × Nat × Int) × Nat) := [(3, (10, 0, 0), 162), (11, (0, 5, 0), 166), (15, (0, 5, 1), 167), (18, (0, 5, 2), 169), (21, (4, 272, 0), 163), (27, (0, 5, 3), 170), (31, (6, 48, 0), 965), (35, (6, 51, 0), 652)]
def pgr6 : List (Nat × (Nat × Nat × Int) × Nat) := [(3, (10, 0, 0), 225), (11, (0, 6, 0), 226), (15, (0, 6, 1), 227), (18, (0, 6, 2), 228), (21, (0, 6, 3), 229), (24, (0, 6, 4), 230), (27, (0, 6, 5), 231), (30, (0, 6, 6), 232), (33, (0, 6, 7), 233), (37, (0, 6, 8), 235), (40, (6, 56, 0), 700), (44, (4, 272, 0), 701), (50, (4, 261, 0), 702), (56, (4, 262, 0), 705)]
def pgr7 : List (Nat × (Nat × Nat × Int) × Nat) := [(3, (10, 0, 0), 261), (11, (0, 7, 0), 262), (15, (0, 7, 1), 263), (18, (0, 7, 2), 264), (21, (0, 7, 3), 265), (24, (0, 7, 4), 266), (27, (0, 7, 5), 267), (30, (0, 7, 6), 268), (33, (0, 7, 7), 269), (36, (0, 7, 8), 270), (39, (5, 147, 0), 631), (43, (0, 7, 9), 272), (47, (0, 7, 10), 274), (50, (4, 260, 0), 862), (56, (6, 65, 0), 865)]
def pgr8 : List (Nat × (Nat × Nat × Int) × Nat) := [(3, (10, 0, 0), 450), (9, (0, 8, 3), 456), (15, (0, 8, 4), 458), (18, (0, 8, 5), 459), (21, (0, 8, 6), 460), (24, (0, 8, 7), 461), (27, (0, 8, 8), 463), (31, (0, 8, 9), 465), (34, (0, 8, 10), 466), (37, (0, 8, 11), 468), (40, (0, 8, 12), 469), (43, (0, 8, 13), 471), (46, (0, 8, 14), 472), (49, (0, 8, 15), 474), (53, (0, 8, 0), 453), (57, (0, 8, 1), 454), (61, (0, 8, 2), 455), (65, (16, 0, 99999999), 451), (66, (4, 272, 0), 452), (72, (0, 8, 16), 475), (76, (7, 17, 0), 1170), (82, (0, 8, 18), 479), (85, (6, 71, 0), 1171), (88, (4, 262, 0), 1175), (94, (0, 8, 17), 477), (97, (6, 75, 0), 1196), (101, (4, 261, 0), 1226), (104, (6, 77, 0), 1200), (107, (7, 41, 0), 1213), (113, (1, 4, 0), 191), (116, (7, 53, 0), 1214), (121, (6, 76, 0), 1204), (125, (4, 263, 0), 1208), (128, (6, 78, 0), 1209)]
def pgr9 : List (Nat × (Nat × Nat × Int) × Nat) := [(3, (10, 0, 0), 344), (11, (0, 9, 0), 345), (15, (0, 9, 1), 346), (18, (0, 9, 2), 348), (22, (0, 9, 4), 352), (25, (0, 9, 3), 350), (28, (0, 9, 5), 353), (32, (6, 85, 0), 1006), (35, (6, 86, 0), 1010), (39, (6, 83, 0), 1018), (43, (6, 84, 0), 1109), (47, (6, 88, 0), 1014), (50, (4, 87, 0), 1113), (54, (18, 4, 0), 1022), (56, (6, 265, 0), 1023), (62, (6, 89, 0), 1105)]
def pgr10 : List (Nat × (Nat × Nat × Int) × Nat) := [(3, (10, 0, 0), 526), (11, (0, 10, 1), 528), (15, (0, 10, 2), 529), (18, (0, 10, 3), 530), (21, (0, 10, 4), 532), (24, (0, 10, 5), 533), (27, (0, 10, 6), 534), (30, (0, 10, 7), 535), (33, (0, 10, 0), 527), (37, (0, 10, 9), 537), (41, (6, 93, 0), 1252), (45, (0, 10, 8), 536), (48, (6, 95, 0), 1257), (52, (4, 261, 0), 1266), (58, (6, 96, 0), 1267), (62, (6, 94, 0), 1261), (66, (0, 10, 10), 538), (69, (0, 10, 11), 540), (72, (7, 15, 0), 1256), (78, (4, 272, 0), 1265)]
def pgr11 : List (Nat × (Nat × Nat × Int) × Nat) := [(1, (10, 0, 0), 154), (7, (13, 5, 0), 157), (9, (9, 47, 0), 159), (10, (0, 11, 0), 567), (16, (13, 4, 0), 182), (18, (9, 40, 0), 184), (19, (0, 11, 1), 568), (23, (13, 6, 0), 220), (25, (9, 55, 0), 222), (26, (0, 11, 2), 569), (30, (13, 7, 0), 256), (32, (9, 60, 0), 258), (33, (0, 11, 3), 570), (37, (13, 3, 0), 298), (39, (9, 23, 0), 300), (40, (0, 11, 4), 571), (44, (13, 9, 0), 339), (46, (9, 80, 0), 341), (47, (0, 11, 5), 572), (51, (13, 0, 0), 367), (53, (9, 0, 0), 369), (54, (0, 11, 6), 573), (58, (13, 1, 0), 416), (60, (9, 9, 0), 418), (63, (0, 11, 7), 574), (67, (13, 8, 0), 445), (69, (9, 67, 0), 447), (72, (0, 11, 8), 575), (76, (13, 10, 0), 521), (78, (9, 90, 0), 523), (81, (0, 11, 9), 576), (85, (4, 146, 0), 605), (89, (0, 11, 10), 577), (93, (4, 147, 0), 612), (97, (4, 148, 0), 615), (100, (16, 0, 99999), 618), (101, (7, 61, 0), 619), (105, (7, 62, 0), 627), (109, (7, 50, 0), 636), (113, (7, 48, 0), 644), (116, (7, 52, 0), 648), (119, (7, 42, 0), 660), (121, (7, 41, 0), 668), (122, (1, 4, 0), 190), (126, (7, 57, 0), 676), (127, (7, 56, 0), 684), (128, (7, 58, 0), 688), (132, (7, 59, 0), 696), (136, (7, 44, 0), 712), (139, (7, 43, 0), 720), (142, (7, 45, 0), 724), (145, (7, 46, 0), 732), (148, (1, 3, 1), 308), (151, (6, 150, 0), 744), (154, (7, 27, 0), 756), (155, (7, 26, 0), 833), (159, (16, 0, -2000000000), 837), (160, (1, 2, 1), 770), (165, (1, 2, 4), 779), (168, (1, 2, 5), 782), (171, (1, 2, 6), 786), (174, (7, 20, 0), 838), (177, (1, 2, 7), 789), (180, (1, 2, 8), 792), (183, (1, 2, 9), 794), (186, (1, 2, 10), 797), (189, (7, 21, 0), 842), (193, (7, 63, 0), 850), (196, (7, 64, 0), 858), (200, (7, 66, 0), 869), (203, (1, 7, 8), 271), (206, (7, 11, 0), 877), (210, (7, 28, 0), 891), (214, (7, 12, 0), 903), (217, (1, 1, 6), 429), (220, (1, 4, 1), 194), (223, (7, 16, 0), 972), (226, (7, 17, 0), 982), (229, (7, 81, 0), 991), (232, (4, 149, 0), 999), (235, (1, 0, 7), 386), (238, (7, 82, 0), 1002), (241, (1, 9, 2), 349), (244, (7, 2, 0), 1116), (247, (7, 3, 0), 1139), (250, (7, 15, 0), 1144), (253, (16, 0, 99999999), 1149), (254, (1, 8, 3), 457), (257, (7, 69, 0), 1154), (259, (7, 68, 0), 1162), (260, (7, 70, 0), 1166), (263, (1, 8, 10), 467), (266, (1, 8, 18), 480), (269, (7, 72, 0), 1184), (272, (1, 8, 7), 462), (275, (1, 8, 8), 464), (279, (7, 73, 0), 1192), (282, (7, 74, 0), 1222), (285, (1, 8, 17), 478), (288, (1, 8, 14), 473), (291, (1, 8, 12), 470), (294, (1, 5, 1), 168), (297, (7, 91, 0), 1239), (298, (4, 259, 0), 1247), (303, (7, 92, 0), 1248), (306, (1, 10, 10), 539), (309, (1, 10, 3), 531), (312, (1, 10, 11), 541), (315, (7, 18, 0), 1283), (318, (1, 2, 2), 773), (321, (7, 31, 0), 1291), (324, (1, 3, 7), 321), (327, (7, 33, 0), 1303), (330, (7, 34, 0), 1316), (333, (7, 1, 0), 1333), (334, (1, 0, 1), 377), (337, (1, 0, 8), 388), (340, (1, 4, 6), 201), (341, (17, 0, 1999999999), 1334), (343, (4, 263, 0), 1335), (349, (7, 30, 0), 1340), (352, (1, 3, 6), 319), (355, (7, 39, 0), 1348), (359, (1, 3, 2), 310), (362, (5, 25, 0), 748), (366, (1, 5, 3), 171), (367, (1, 6, 7), 234), (368, (1, 3, 4), 315), (369, (1, 6, 8), 236), (372, (1, 7, 9), 273), (375, (1, 8, 16), 476), (376, (1, 3, 5), 317), (379, (7, 54, 0), 1373), (382, (7, 79, 0), 1377)]
def pgr12 : List (Nat × (Nat × Nat × Int) × Nat) := [(1, (10, 0, 0), 1386), (7, (0, 12, 1), 1389), (13, (0, 12, 2), 1390), (17, (0, 12, 3), 1391), (20, (0, 12, 4), 1392), (23, (0, 12, 5), 1393), (26, (0, 12, 6), 1394), (29, (0, 12, 8), 1396), (32, (0, 12, 9), 1397), (35, (0, 12, 10), 1398), (38, (0, 12, 12), 1400), (41, (0, 12, 14), 1402), (44, (0, 12, 15), 1403), (47, (0, 12, 16), 1404), (50, (0, 12, 17), 1405), (53, (0, 12, 18), 1406), (56, (0, 12, 20), 1408), (59, (0, 12, 21), 1409), (62, (0, 12, 22), 1410), (65, (0, 12, 23), 1411), (68, (0, 12, 25), 1413), (71, (0, 12, 26), 1414), (74, (0, 12, 27), 1415), (77, (0, 12, 28), 1416), (80, (0, 12, 29), 1417), (83, (0, 12, 30), 1418), (86, (0, 12, 32), 1420), (89, (0, 12, 33), 1421), (92, (0, 12, 34), 1422), (95, (0, 12, 35), 1423), (98, (0, 12, 36), 1424), (101, (0, 12, 38), 1426), (104, (0, 12, 40), 1428), (107, (0, 12, 41), 1429), (110, (0, 12, 42), 1430), (113, (0, 12, 43), 1431), (116, (0, 12, 44), 1432), (119, (0, 12, 46), 1434), (122, (0, 12, 47), 1435), (125, (0, 12, 48), 1436), (128, (0, 12, 49), 1437), (131, (0, 12, 50), 1438), (134, (0, 12, 51), 1439), (138, (0, 12, 53), 1441), (141, (0, 12, 54), 1442), (144, (0, 12, 55), 1443), (147, (0, 12, 56), 1444), (150, (0, 12, 58), 1446), (153, (0, 12, 59), 1447), (156, (0, 12, 65), 1453), (159, (0, 12, 66), 1454), (162, (0, 12, 69), 1457), (165, (0, 12, 70), 1458), (168, (0, 12, 71), 1459), (171, (0, 12, 72), 1460), (174, (0, 12, 73), 1461), (178, (0, 12, 74), 1462), (181, (0, 12, 75), 1463), (184, (0, 12, 77), 1465), (187, (0, 12, 78), 1466), (190, (0, 12, 80), 1468), (193, (0, 12, 81), 1469), (196, (0, 12, 82), 1470), (199, (0, 12, 84), 1472), (202, (16, 0, 99999999), 1387), (203, (4, 152, 0), 1654), (207, (0, 12, 7), 1395), (210, (0, 12, 11), 1399), (213, (0, 12, 13), 1401), (216, (0, 12, 31), 1419), (219, (0, 12, 0), 1388), (222, (4, 154, 0), 1661), (226, (4, 153, 0), 1664), (229, (16, 0, 99999), 1667), (230, (6, 162, 0), 1672), (234, (6, 156, 0), 1684), (237, (6, 157, 0), 1696), (240, (6, 158, 0), 1708), (243, (0, 12, 19), 1407), (246, (6, 171, 0), 1716), (250, (0, 12, 24), 1412), (253, (6, 175, 0), 1732), (257, (4, 178, 0), 1744), (260, (6, 159, 0), 1751), (263, (16, 0, -2000000000), 1755), (264, (6, 181, 0), 1756), (267, (6, 180, 0), 1760), (270, (0, 12, 37), 1425), (273, (6, 184, 0), 1772), (276, (6, 166, 0), 1893), (279, (6, 186, 0), 1889), (283, (6, 188, 0), 1881), (286, (0, 12, 39), 1427), (289, (0, 12, 61), 1449), (292, (0, 12, 62), 1450), (295, (0, 12, 60), 1448), (298, (0, 12, 63), 1451), (301, (6, 191, 0), 1815), (305, (6, 195, 0), 1795), (308, (6, 193, 0), 1823), (311, (6, 196, 0), 1799), (314, (6, 197, 0), 1803), (317, (6, 198, 0), 1807), (320, (6, 201, 0), 1811), (323, (0, 12, 67), 1455), (326, (6, 213, 0), 1834), (329, (0, 12, 64), 1452), (332, (6, 192, 0), 1819), (335, (6, 194, 0), 1791), (338, (4, 199, 0), 1827), (342, (6, 200, 0), 1830), (345, (0, 12, 68), 1456), (348, (4, 203, 0), 1784), (351, (0, 12, 45), 1433), (354, (6, 202, 0), 1787), (357, (6, 205, 0), 1842), (360, (4, 208, 0), 1862), (363, (6, 207, 0), 1858), (366, (6, 209, 0), 1854), (370, (6, 210, 0), 1865), (374, (6, 211, 0), 1850), (378, (6, 189, 0), 1877), (381, (6, 214, 0), 1885), (384, (6, 187, 0), 1897), (387, (17, 0, 1000), 1901), (389, (17, 0, 100), 1902), (391, (17, 0, 1999999999), 1903), (393, (6, 215, 0), 1873), (396, (6, 217, 0), 1908), (400, (6, 218, 0), 1912), (403, (4, 155, 0), 1920), (406, (0, 12, 52), 1440), (409, (6, 222, 0), 1939), (413, (6, 223, 0), 1943), (417, (6, 224, 0), 1931), (420, (6, 225, 0), 1935), (423, (0, 12, 57), 1445), (426, (17, 0, -1), 1967), (428, (6, 229, 0), 1963), (431, (6, 230, 0), 1959), (434, (0, 12, 76), 1464), (437, (0, 12, 83), 1471), (440, (6, 236, 0), 1988), (444, (0, 12, 79), 1467), (447, (6, 241, 0), 2008), (450, (6, 244, 0), 2020), (453, (16, 0, 1103515245), 2024), (454, (4, 246, 0), 2029), (458, (17, 0, 5), 2032), (460, (0, 12, 85), 1473), (463, (6, 251, 0), 2049), (466, (0, 12, 86), 1474), (469, (4, 250, 0), 2053), (472, (6, 252, 0), 2045), (475, (6, 253, 0), 2056), (478, (6, 254, 0), 2060)]
def pgr13 : List (Nat × (Nat × Nat × Int) × Nat) := []
def pgr14 : List (Nat × (Nat × Nat × Int) × Nat) := [(265, (16, 0, 1431655765), 931), (266, (16, 0, 858993459), 932), (267, (16, 0, 252645135), 933)]
def pgr15 : List (Nat × (Nat × Nat × Int) × Nat) := []
def pgr16 : List (Nat × (Nat × Nat × Int) × Nat) := [(9, (20, 0, 0), 2077), (15, (21, 0, 0), 2076), (38, (3, 0, 1), 1035), (335, (6, 267, 0), 1041), (492, (6, 268, 0), 1031), (505, (6, 264, 0), 1037), (633, (6, 266, 0), 1027), (637, (4, 270, 0), 1045)]
def pgr17 : List (Nat × (Nat × Nat × Int) × Nat) := [(38, (4, 262, 0), 1052), (88, (4, 269, 0), 1048), (92, (4, 261, 0), 1051), (95, (4, 271, 0), 1053)]
def pgr18 : List (Nat × (Nat × Nat × Int) × Nat) := []
def pgr19 : List (Nat × (Nat × Nat × Int) × Nat) := [(150, (12, 0, 0), 1131), (304, (4, 262, 0), 1130), (316, (11, 0, 0), 1123), (317, (15, 0, 0), 1129)]
def pgr20 : List (Nat × (Nat × Nat × Int) × Nat) := []
def pgr21 : List (Nat × (Nat × Nat × Int) × Nat) := [(7, (13, 11, 0), 149), (9, (8, 97, 0), 151), (10, (13, 12, 0), 1381), (12, (8, 151, 0), 1383), (13, (6, 98, 0), 601), (17, (6, 160, 0), 1650), (18, (6, 99, 0), 608), (22, (6, 161, 0), 1657), (23, (6, 100, 0), 623), (27, (6, 163, 0), 1668), (28, (6, 101, 0), 632), (31, (6, 164, 0), 1676), (32, (6, 102, 0), 640), (35, (6, 165, 0), 1680), (36, (6, 103, 0), 656), (39, (6, 167, 0), 1688), (40, (6, 104, 0), 664), (43, (6, 168, 0), 1692), (44, (6, 105, 0), 672), (47, (6, 169, 0), 1700), (48, (6, 106, 0), 680), (52, (6, 170, 0), 1704), (53, (6, 107, 0), 692), (56, (6, 172, 0), 1712), (57, (6, 108, 0), 708), (60, (6, 173, 0), 1720), (61, (6, 109, 0), 716), (64, (6, 174, 0), 1724), (65, (6, 110, 0), 728), (68, (6, 176, 0), 1728), (69, (6, 111, 0), 736), (72, (6, 177, 0), 1736), (73, (6, 112, 0), 740), (76, (6, 179, 0), 1740), (77, (6, 113, 0), 829), (80, (6, 182, 0), 1747), (81, (6, 114, 0), 846), (84, (6, 183, 0), 1764), (85, (6, 115, 0), 854), (88, (6, 185, 0), 1768), (89, (6, 116, 0), 873), (92, (6, 216, 0), 1869), (93, (6, 117, 0), 968), (97, (6, 219, 0), 1904), (98, (6, 118, 0), 987), (101, (6, 190, 0), 1776), (102, (6, 119, 0), 995), (105, (6, 204, 0), 1780), (106, (6, 120, 0), 1135), (109, (6, 206, 0), 1838), (110, (6, 121, 0), 1140), (113, (6, 212, 0), 1846), (114, (6, 122, 0), 1145), (117, (6, 220, 0), 1916), (118, (6, 123, 0), 1150), (121, (6, 221, 0), 1923), (122, (6, 124, 0), 1158), (125, (6, 226, 0), 1927), (126, (6, 125, 0), 1176), (129, (6, 227, 0), 1947), (130, (6, 126, 0), 1180), (133, (6, 228, 0), 1951), (134, (6, 127, 0), 1188), (137, (6, 231, 0), 1955), (138, (6, 128, 0), 1218), (141, (6, 232, 0), 1968), (142, (6, 129, 0), 1227), (145, (6, 233, 0), 1972), (146, (6, 130, 0), 1231), (149, (6, 234, 0), 1976), (150, (6, 131, 0), 1235), (153, (6, 235, 0), 1980), (154, (6, 132, 0), 1243), (157, (6, 237, 0), 1984), (158, (6, 133, 0), 1271), (161, (6, 238, 0), 1992), (162, (6, 134, 0), 1275), (166, (6, 239, 0), 1996), (167, (6, 135, 0), 1279), (170, (6, 240, 0), 2000), (171, (6, 136, 0), 1287), (174, (6, 242, 0), 2004), (175, (6, 137, 0), 1295), (178, (6, 243, 0), 2012), (179, (6, 138, 0), 1299), (182, (6, 245, 0), 2016), (183, (6, 139, 0), 1312), (186, (6, 247, 0), 2025), (187, (6, 140, 0), 1329), (190, (6, 248, 0), 2033), (191, (6, 141, 0), 1336), (194, (6, 249, 0), 2037), (195, (6, 142, 0), 1344), (198, (6, 255, 0), 2041), (199, (6, 143, 0), 1361), (202, (6, 256, 0), 2064), (203, (6, 144, 0), 1365), (206, (6, 257, 0), 2068), (207, (6, 145, 0), 1369), (210, (6, 258, 0), 2072)]
def pgLay : List (Nat × Nat × List Nat) := [(368, 135, [392, 394, 396, 398, 400, 402, 404, 406, 408, 410, 412]), (417, 136, [430, 432, 434, 436, 438, 440, 442]), (760, 141, [802, 804, 806, 808, 810, 812, 814, 816, 818, 820, 822, 824, 826]), (299, 133, [322, 324, 326, 328, 330, 332, 334, 336]), (183, 130, [203, 205, 207, 209, 211, 213, 215, 217]), (158, 128, [172, 174, 176, 178]), (221, 131, [237, 239, 241, 243, 245, 247, 249, 251, 253]), (257, 132, [275, 277, 279, 281, 283, 285, 287, 289, 291, 293, 295]), (446, 137, [481, 483, 485, 487, 489, 491, 493, 495, 497, 499, 501, 503, 505, 507, 509, 511, 513, 515, 517]), (340, 134, [354, 356, 358, 360, 362, 364]), (522, 138, [542, 544, 546, 548, 550, 552, 554, 556, 558, 560, 562, 564]), (150, 127, [578, 580, 582, 584, 586, 588, 590, 592, 594, 596, 598]), (1382, 139, [1475, 1477, 1479, 1481, 1483, 1485, 1487, 1489, 1491, 1493, 1495, 1497, 1499, 1501, 1503, 1505, 1507, 1509, 1511, 1513, 1515, 1517, 1519, 1521, 1523, 1525, 1527, 1529, 1531, 1533, 1535, 1537, 1539, 1541, 1543, 1545, 1547, 1549, 1551, 1553, 1555, 1557, 1559, 1561, 1563, 1565, 1567, 1569, 1571, 1573, 1575, 1577, 1579, 1581, 1583, 1585, 1587, 1589, 1591, 1593, 1595, 1597, 1599, 1601, 1603, 1605, 1607, 1609, 1611, 1613, 1615, 1617, 1619, 1621, 1623, 1625, 1627, 1629, 1631, 1633, 1635, 1637, 1639, 1641, 1643, 1645, 1647])]
def pgObj : List Nat := [155, 156]
def pgR : List (List (Nat × (Nat × Nat × Int) × Nat)) := [pgr0, pgr1, pgr2, pgr3, pgr4, pgr5, pgr6, pgr7, pgr8, pgr9, pgr10, pgr11, pgr12, pgr13, pgr14, pgr15, pgr16, pgr17, pgr18, pgr19, pgr20, pgr21]
end
section
/-! THE SMALL MACHINE: cells by their places (a reference is a place in the world; retAddr k is an outer cell k), one list of locals, one stack. It is a program (a total function with fuel); what it answers the machine does (part 03, 04). -/
abbrev mE : Type := (Nat × vp_A) ⊕ (Nat × List Value)
abbrev mWd : Type := List mE
abbrev mL : Type := List (Nat × Value)
def mv (B : Nat) (X : Nat → Nat) (v : Value) : Value := match v with
  | .ref i => .ref (B + i)
  | .retAddr k => .ref (X k)
  | .int x => .int x
  | .long x => .long x
  | .float x => .float x
  | .double x => .double x
  | .null => .null
theorem mv_cat (B : Nat) (X : Nat → Nat) (v : Value) : (mv B X v).category = v.category := by cases v <;> rfl
def m_get : mL → Nat → Option Value
  | [], _ => none
  | (j, v) :: l, i => bif Nat.beq j i then some v else m_get l i
theorem m_get_mem {lv : mL} {i : Nat} {v : Value} (h : m_get lv i = some v) : (i, v) ∈ lv := by
  induction lv with
  | nil => cases h
  | cons q l ih =>
    obtain ⟨j, u⟩ := q
    simp only [m_get] at h
    cases hb : Nat.beq j i with
    | true =>
      rw [hb] at h
      cases h
      have := Nat.eq_of_beq_eq_true hb
      subst this
      exact List.mem_cons_self
    | false =>
      rw [hb] at h
      exact List.mem_cons_of_mem _ (ih h)
def m_put1 (l : mL) (i : Nat) (v : Value) : mL := (i, v) :: l.filter (fun q => !(q.1 == i) && !(q.1 + 1 == i && q.2.category == 2))
def m_put2 (l : mL) (i : Nat) (v : Value) : mL := (i, v) :: l.filter (fun q => !(q.1 == i) && (!(q.1 == i + 1) && !(q.1 + 1 == i && q.2.category == 2)))
def mlv (B : Nat) (X : Nat → Nat) (l : mL) : List (Nat × Value) := l.map (fun q => (q.1, mv B X q.2))
theorem mlv_put1 (B : Nat) (X : Nat → Nat) (l : mL) (i : Nat) (v : Value) : (i, mv B X v) :: (mlv B X l).filter (fun q => !(q.1 == i) && !(q.1 + 1 == i && q.2.category == 2)) = mlv B X (m_put1 l i v) := by
  unfold mlv m_put1
  rw [List.map_cons, List.filter_map]
  congr 2
  apply List.filter_congr
  intro q _
  simp [mv_cat]
theorem mlv_put2 (B : Nat) (X : Nat → Nat) (l : mL) (i : Nat) (v : Value) : (i, mv B X v) :: (mlv B X l).filter (fun q => !(q.1 == i) && (!(q.1 == i + 1) && !(q.1 + 1 == i && q.2.category == 2))) = mlv B X (m_put2 l i v) := by
  unfold mlv m_put2
  rw [List.map_cons, List.filter_map]
  congr 2
  apply List.filter_congr
  intro q _
  simp [mv_cat]
theorem mlv_get {B : Nat} {X : Nat → Nat} {ls : Array Slot} {nL : Nat} {l : mL} {i : Nat} {v : Value} (h : lv_has ls nL (mlv B X l)) (hg : m_get l i = some v) : ls[i]? = some (.val (mv B X v)) :=
  h.2.2 (i, mv B X v) (List.mem_map.mpr ⟨(i, v), m_get_mem hg, rfl⟩)
theorem mlv_at {B : Nat} {X : Nat → Nat} {l : mL} {i : Nat} {v : Value} (hg : m_get l i = some v) : ∃ k : Nat, (mlv B X l)[k]? = some (i, mv B X v) := by
  obtain ⟨k, hk⟩ := List.getElem?_of_mem (m_get_mem hg)
  exact ⟨k, by unfold mlv; rw [List.getElem?_map, hk]; rfl⟩
def m_tgt (pc : Nat) (off : Int) : Option Nat := match (pc : Int) + off with
  | .ofNat n => some n
  | .negSucc _ => none
theorem m_tgt_ok {pc : Nat} {off : Int} {t : Nat} (h : m_tgt pc off = some t) : (pc : Int) + off = (t : Int) := by
  unfold m_tgt at h
  split at h
  next n e => cases h; exact e
  next => cases h
def m_cmp (cd : Jvm.ClassFile.Cond) (x y : Int32) : Bool := match cd with
  | .eq => decide (x = y)
  | .ne => !decide (x = y)
  | .lt => decide (x < y)
  | .ge => decide (y ≤ x)
  | .gt => decide (y < x)
  | .le => decide (x ≤ y)
def m_i2 (ins : Instr) (x y : Int32) : Option Int32 := match ins with
  | .iadd => some (x + y)
  | .isub => some (x - y)
  | .imul => some (x * y)
  | .iand => some (x &&& y)
  | .ior => some (x ||| y)
  | .ixor => some (x ^^^ y)
  | .idiv => if y = 0 then none else some (x / y)
  | .irem => if y = 0 then none else some (x - x / y * y)
  | .ishl => some (x <<< (y &&& 31))
  | .ishr => some (x >>> (y &&& 31))
  | .iushr => some ((x.toUInt32 >>> (y.toUInt32 &&& Int32.toUInt32 31)).toInt32)
  | _ => none
def m_l2 (ins : Instr) (x y : Int64) : Option Value := match ins with
  | .ladd => some (.long (x + y))
  | .lsub => some (.long (x - y))
  | .lmul => some (.long (x * y))
  | .land => some (.long (x &&& y))
  | .lor => some (.long (x ||| y))
  | .lxor => some (.long (x ^^^ y))
  | .ldiv => if y = 0 then none else some (.long (x / y))
  | .lrem => if y = 0 then none else some (.long (x - x / y * y))
  | .lcmp => some (.int (lg_cmp x y))
  | _ => none
def m_isl2 (ins : Instr) : Bool := match ins with
  | .ladd | .lsub | .lmul | .land | .lor | .lxor | .ldiv | .lrem | .lcmp => true
  | _ => false
def m_cv (ins : Instr) (v : Value) : Option Value := match ins, v with
  | .ineg, .int x => some (.int (-x))
  | .lneg, .long x => some (.long (-x))
  | .i2l, .int x => some (.long x.toInt64)
  | .l2i, .long x => some (.int x.toInt32)
  | .i2b, .int x => some (.int x.toInt8.toInt32)
  | .i2s, .int x => some (.int x.toInt16.toInt32)
  | .i2c, .int x => some (.int (x.toUInt32 % 65536).toInt32)
  | _, _ => none
def m_ld (ty : Nat) (l : mL) (i : Nat) (pc : Nat) (st : List Value) : Option (Nat × mL × List Value) := match m_get l i with
  | some (.int x) => if ty = 0 then some (pc, l, .int x :: st) else none
  | some (.long x) => if ty = 1 then some (pc, l, .long x :: st) else none
  | some (.ref x) => if ty = 2 then some (pc, l, .ref x :: st) else none
  | some (.retAddr x) => if ty = 2 then some (pc, l, .retAddr x :: st) else none
  | some .null => if ty = 2 then some (pc, l, .null :: st) else none
  | _ => none
def m_st (nL ty : Nat) (l : mL) (i : Nat) (pc : Nat) (st : List Value) : Option (Nat × mL × List Value) := match st with
  | .int x :: r => if ty = 0 ∧ i < nL then some (pc, m_put1 l i (.int x), r) else none
  | .long x :: r => if ty = 1 ∧ i + 1 < nL then some (pc, m_put2 l i (.long x), r) else none
  | .ref x :: r => if ty = 2 ∧ i < nL then some (pc, m_put1 l i (.ref x), r) else none
  | .retAddr x :: r => if ty = 2 ∧ i < nL then some (pc, m_put1 l i (.retAddr x), r) else none
  | .null :: r => if ty = 2 ∧ i < nL then some (pc, m_put1 l i .null, r) else none
  | _ => none
def m_c1 (v : Value) : Bool := match v with
  | .long _ => false
  | .double _ => false
  | _ => true
theorem m_c1_ok {v : Value} (h : m_c1 v = true) (B : Nat) (X : Nat → Nat) : (mv B X v).category = 1 := by
  cases v <;> first | rfl | cases h
def m_br (b : Bool) (pc : Nat) (off : Int) (l : mL) (st : List Value) : Option (Nat × mL × List Value) := match m_tgt pc off with
  | some t => some (bif b then t else pc + 3, l, st)
  | none => none
def m_jmp (pc : Nat) (off : Int) (l : mL) (st : List Value) : Option (Nat × mL × List Value) := match m_tgt pc off with
  | some t => some (t, l, st)
  | none => none
def m_bi (ins : Instr) (pc : Nat) (l : mL) (st : List Value) : Option (Nat × mL × List Value) := match st with
  | .int y :: .int x :: r => (match m_i2 ins x y with
    | some z => some (pc + 1, l, .int z :: r)
    | none => none)
  | _ => none
def m_bl (ins : Instr) (pc : Nat) (l : mL) (st : List Value) : Option (Nat × mL × List Value) := match st with
  | .long y :: .long x :: r => (match m_l2 ins x y with
    | some z => some (pc + 1, l, z :: r)
    | none => none)
  | _ => none
def m_un (ins : Instr) (pc : Nat) (l : mL) (st : List Value) : Option (Nat × mL × List Value) := match st with
  | v :: r => (match m_cv ins v with
    | some z => some (pc + 1, l, z :: r)
    | none => none)
  | _ => none
def m_nul (b : Bool) (pc : Nat) (off : Int) (l : mL) (st : List Value) : Option (Nat × mL × List Value) := match st with
  | .null :: r => m_br b pc off l r
  | .ref _ :: r => m_br (!b) pc off l r
  | .retAddr _ :: r => m_br (!b) pc off l r
  | _ => none
def m_acm (b : Bool) (pc : Nat) (off : Int) (l : mL) (st : List Value) : Option (Nat × mL × List Value) := match st with
  | .null :: .null :: r => m_br b pc off l r
  | .ref _ :: .null :: r => m_br (!b) pc off l r
  | .null :: .ref _ :: r => m_br (!b) pc off l r
  | .ref x :: .ref y :: r => m_br (if x = y then b else !b) pc off l r
  | _ => none
def m_srt (ps : List (Int × Int)) : Bool := (ps.zip (ps.drop 1)).all (fun (a, next) => a.1 < next.1)
/-- the instructions that touch locals and stack alone -/
def m_pure (nL : Nat) (ins : Instr) (pc : Nat) (l : mL) (st : List Value) : Option (Nat × mL × List Value) := match ins with
  | .iconst n => some (pc + 1, l, .int (Int32.ofInt n) :: st)
  | .bipush n => some (pc + 2, l, .int (Int8.ofInt n).toInt32 :: st)
  | .sipush n => some (pc + 3, l, .int (Int16.ofInt n).toInt32 :: st)
  | .lconst n => some (pc + 1, l, .long (Int64.ofNat (n : Nat)) :: st)
  | .aconst_null => some (pc + 1, l, .null :: st)
  | .iload_n k => m_ld 0 l k (pc + 1) st
  | .iload k => m_ld 0 l k (pc + 2) st
  | .lload_n k => m_ld 1 l k (pc + 1) st
  | .lload k => m_ld 1 l k (pc + 2) st
  | .aload_n k => m_ld 2 l k (pc + 1) st
  | .aload k => m_ld 2 l k (pc + 2) st
  | .istore_n k => m_st nL 0 l k (pc + 1) st
  | .istore k => m_st nL 0 l k (pc + 2) st
  | .lstore_n k => m_st nL 1 l k (pc + 1) st
  | .lstore k => m_st nL 1 l k (pc + 2) st
  | .astore_n k => m_st nL 2 l k (pc + 1) st
  | .astore k => m_st nL 2 l k (pc + 2) st
  | .iinc i n => (match m_get l i with
    | some (.int x) => if i < nL then some (pc + 3, m_put1 l i (.int (x + Int32.ofInt n)), st) else none
    | _ => none)
  | .iadd => m_bi .iadd pc l st
  | .isub => m_bi .isub pc l st
  | .imul => m_bi .imul pc l st
  | .iand => m_bi .iand pc l st
  | .ior => m_bi .ior pc l st
  | .ixor => m_bi .ixor pc l st
  | .idiv => m_bi .idiv pc l st
  | .irem => m_bi .irem pc l st
  | .ishl => m_bi .ishl pc l st
  | .ishr => m_bi .ishr pc l st
  | .iushr => m_bi .iushr pc l st
  | .ladd => m_bl .ladd pc l st
  | .lsub => m_bl .lsub pc l st
  | .lmul => m_bl .lmul pc l st
  | .land => m_bl .land pc l st
  | .lor => m_bl .lor pc l st
  | .lxor => m_bl .lxor pc l st
  | .ldiv => m_bl .ldiv pc l st
  | .lrem => m_bl .lrem pc l st
  | .lcmp => m_bl .lcmp pc l st
  | .ineg => m_un .ineg pc l st
  | .lneg => m_un .lneg pc l st
  | .i2l => m_un .i2l pc l st
  | .l2i => m_un .l2i pc l st
  | .i2b => m_un .i2b pc l st
  | .i2s => m_un .i2s pc l st
  | .i2c => m_un .i2c pc l st
  | .dup => (match st with
    | a :: r => if m_c1 a = true then some (pc + 1, l, a :: a :: r) else none
    | _ => none)
  | .pop => (match st with
    | a :: r => if m_c1 a = true then some (pc + 1, l, r) else none
    | _ => none)
  | .dup_x1 => (match st with
    | a :: b :: r => if m_c1 a = true ∧ m_c1 b = true then some (pc + 1, l, a :: b :: a :: r) else none
    | _ => none)
  | .dup_x2 => (match st with
    | a :: b :: d :: r => if m_c1 a = true ∧ m_c1 b = true ∧ m_c1 d = true then some (pc + 1, l, a :: b :: d :: a :: r) else none
    | _ => none)
  | .dup2 => (match st with
    | .long x :: r => some (pc + 1, l, .long x :: .long x :: r)
    | a :: b :: r => if m_c1 a = true ∧ m_c1 b = true then some (pc + 1, l, a :: b :: a :: b :: r) else none
    | _ => none)
  | .pop2 => (match st with
    | .long _ :: r => some (pc + 1, l, r)
    | a :: b :: r => if m_c1 a = true ∧ m_c1 b = true then some (pc + 1, l, r) else none
    | _ => none)
  | .ifCond cd off => (match st with
    | .int x :: r => m_br (m_cmp cd x 0) pc off l r
    | _ => none)
  | .if_icmp cd off => (match st with
    | .int y :: .int x :: r => m_br (m_cmp cd x y) pc off l r
    | _ => none)
  | .ifnull off => m_nul true pc off l st
  | .ifnonnull off => m_nul false pc off l st
  | .if_acmp .eq off => m_acm true pc off l st
  | .if_acmp .ne off => m_acm false pc off l st
  | .goto off => m_jmp pc off l st
  | .tableswitch d lo hi offs => (match st with
    | .int x :: r => if x.toInt < lo ∨ hi < x.toInt then m_jmp pc d l r else (match offs[(x.toInt - lo).toNat]? with
      | some off => m_jmp pc off l r
      | none => none)
    | _ => none)
  | .lookupswitch d ps => (match st with
    | .int x :: r => if m_srt ps.toList = true then m_jmp pc (Op.lookupswitch.offset ps.toList d x.toInt) l r else none
    | _ => none)
  | _ => none
/-- the length of an instruction in its plain form (a switch's is told beside it) -/
def m_len (ins : Instr) (n : Nat) : Nat := match ins with
  | .bipush _ | .iload _ | .lload _ | .aload _ | .istore _ | .lstore _ | .astore _ | .ldc _ | .newarray _ => 2
  | .sipush _ | .iinc _ _ | .ifCond _ _ | .if_icmp _ _ | .ifnull _ | .ifnonnull _ | .if_acmp _ _ | .goto _ | .getfield _ | .putfield _ | .getstatic _ | .invokevirtual _ | .invokespecial _ | .invokestatic _ | .new _ | .anewarray _ | .ldc_w _ | .ldc2_w _ | .checkcast _ | .instanceof _ => 3
  | .tableswitch _ _ _ _ | .lookupswitch _ _ => n
  | _ => 1
end
section
section MP
variable {p : Program} {l : Launch} {e : Env} {R : Room} {s : State} {m : MethodId} {args : Array Value} {below : List Frame} {meth : Method} {c : Code} {H : Heap} {locs : List Loc} {cells slots : Nat} {Q : State → Prop}
variable {cc : ByteArray} {pc : Nat} {ls : Array Slot} {B nL n : Nat} {X : Nat → Nat} {lv lv' : mL} {st st' : List Value} {pc' : Nat}
theorem m_tgt_jmp {off : Int} {lv0 : mL} {st0 : List Value} (h : m_jmp pc off lv0 st0 = some (pc', lv', st')) : (pc : Int) + off = (pc' : Int) ∧ lv0 = lv' ∧ st0 = st' := by
  unfold m_jmp at h
  cases ht : m_tgt pc off with
  | none => rw [ht] at h; cases h
  | some t => rw [ht] at h; cases h; exact ⟨m_tgt_ok ht, rfl, rfl⟩
theorem m_br_ok {b : Bool} {off : Int} {lv0 : mL} {st0 : List Value} (h : m_br b pc off lv0 st0 = some (pc', lv', st')) : ∃ t : Nat, (pc : Int) + off = (t : Int) ∧ lv0 = lv' ∧ st0 = st' ∧ (b = true → pc' = t) ∧ (b = false → pc' = pc + 3) := by
  unfold m_br at h
  cases ht : m_tgt pc off with
  | none => rw [ht] at h; cases h
  | some t =>
    rw [ht] at h
    cases h
    exact ⟨t, m_tgt_ok ht, rfl, rfl, fun q => by rw [q]; rfl, fun q => by rw [q]; rfl⟩
theorem m_pure_ld (hx : p.tables.exec = Jvm.exec) (hb : c.code = cc) {k : Nat} {ty : Nat} {pc1 : Nat} (hl : lv_has ls nL (mlv B X lv)) (h : m_ld ty lv k pc1 st = some (pc', lv', st'))
    (ri : ∀ x, ty = 0 → ls[k]? = some (.val (.int x)) → W p l e R s m args below meth c H locs cells slots Q (F0 m pc1 ls (.int x :: st.map (mv B X))) → W p l e R s m args below meth c H locs cells slots Q (F0 m pc ls (st.map (mv B X))))
    (rl : ∀ x, ty = 1 → ls[k]? = some (.val (.long x)) → W p l e R s m args below meth c H locs cells slots Q (F0 m pc1 ls (.long x :: st.map (mv B X))) → W p l e R s m args below meth c H locs cells slots Q (F0 m pc ls (st.map (mv B X))))
    (rr : ∀ x, ty = 2 → ls[k]? = some (.val (.ref x)) → W p l e R s m args below meth c H locs cells slots Q (F0 m pc1 ls (.ref x :: st.map (mv B X))) → W p l e R s m args below meth c H locs cells slots Q (F0 m pc ls (st.map (mv B X))))
    (rn : ty = 2 → ls[k]? = some (.val .null) → W p l e R s m args below meth c H locs cells slots Q (F0 m pc1 ls (.null :: st.map (mv B X))) → W p l e R s m args below meth c H locs cells slots Q (F0 m pc ls (st.map (mv B X))))
    (kk : ∀ ls', lv_has ls' nL (mlv B X lv') → W p l e R s m args below meth c H locs cells slots Q (F0 m pc' ls' (st'.map (mv B X)))) : W p l e R s m args below meth c H locs cells slots Q (F0 m pc ls (st.map (mv B X))) := by
  unfold m_ld at h
  cases hg : m_get lv k with
  | none => rw [hg] at h; cases h
  | some v =>
    have hv := mlv_get hl hg
    rw [hg] at h
    cases v with
    | int x =>
      simp only [] at h
      split at h
      next ht => cases h; exact ri x ht hv (kk ls hl)
      next => cases h
    | long x =>
      simp only [] at h
      split at h
      next ht => cases h; exact rl x ht hv (kk ls hl)
      next => cases h
    | ref x =>
      simp only [] at h
      split at h
      next ht => cases h; exact rr _ ht hv (kk ls hl)
      next => cases h
    | retAddr x =>
      simp only [] at h
      split at h
      next ht => cases h; exact rr _ ht hv (kk ls hl)
      next => cases h
    | null =>
      simp only [] at h
      split at h
      next ht => cases h; exact rn ht hv (kk ls hl)
      next => cases h
    | float x => cases h
    | double x => cases h
theorem m_pure_st (hx : p.tables.exec = Jvm.exec) (hb : c.code = cc) {k : Nat} {ty : Nat} {pc1 : Nat} (hl : lv_has ls nL (mlv B X lv)) (h : m_st nL ty lv k pc1 st = some (pc', lv', st'))
    (ri : ∀ x r, ty = 0 → k < nL → st = .int x :: r → (∀ ls', lv_has ls' nL (mlv B X (m_put1 lv k (.int x))) → W p l e R s m args below meth c H locs cells slots Q (F0 m pc1 ls' (r.map (mv B X)))) → W p l e R s m args below meth c H locs cells slots Q (F0 m pc ls (st.map (mv B X))))
    (rl : ∀ x r, ty = 1 → k + 1 < nL → st = .long x :: r → (∀ ls', lv_has ls' nL (mlv B X (m_put2 lv k (.long x))) → W p l e R s m args below meth c H locs cells slots Q (F0 m pc1 ls' (r.map (mv B X)))) → W p l e R s m args below meth c H locs cells slots Q (F0 m pc ls (st.map (mv B X))))
    (rr : ∀ x y r, ty = 2 → k < nL → st = x :: r → mv B X x = .ref y → (∀ ls', lv_has ls' nL (mlv B X (m_put1 lv k x)) → W p l e R s m args below meth c H locs cells slots Q (F0 m pc1 ls' (r.map (mv B X)))) → W p l e R s m args below meth c H locs cells slots Q (F0 m pc ls (st.map (mv B X))))
    (rn : ∀ r, ty = 2 → k < nL → st = .null :: r → (∀ ls', lv_has ls' nL (mlv B X (m_put1 lv k .null)) → W p l e R s m args below meth c H locs cells slots Q (F0 m pc1 ls' (r.map (mv B X)))) → W p l e R s m args below meth c H locs cells slots Q (F0 m pc ls (st.map (mv B X))))
    (kk : ∀ ls', lv_has ls' nL (mlv B X lv') → W p l e R s m args below meth c H locs cells slots Q (F0 m pc' ls' (st'.map (mv B X)))) : W p l e R s m args below meth c H locs cells slots Q (F0 m pc ls (st.map (mv B X))) := by
  unfold m_st at h
  split at h
  next x r =>
    split at h
    next ht => cases h; exact ri x _ ht.1 ht.2 rfl kk
    next => cases h
  next x r =>
    split at h
    next ht => cases h; exact rl x _ ht.1 ht.2 rfl kk
    next => cases h
  next x r =>
    split at h
    next ht => cases h; exact rr (.ref x) _ _ ht.1 ht.2 rfl rfl kk
    next => cases h
  next x r =>
    split at h
    next ht => cases h; exact rr (.retAddr x) _ _ ht.1 ht.2 rfl rfl kk
    next => cases h
  next r =>
    split at h
    next ht => cases h; exact rn _ ht.1 ht.2 rfl kk
    next => cases h
  next => cases h
theorem m_bi_ok {ins : Instr} (h : m_bi ins pc lv st = some (pc', lv', st')) : ∃ x y z r, st = .int y :: .int x :: r ∧ m_i2 ins x y = some z ∧ pc' = pc + 1 ∧ lv' = lv ∧ st' = .int z :: r := by
  unfold m_bi at h
  split at h
  next y x r =>
    split at h
    next z hz => cases h; exact ⟨x, y, z, r, rfl, hz, rfl, rfl, rfl⟩
    next => cases h
  next => cases h
theorem m_bl_ok {ins : Instr} (h : m_bl ins pc lv st = some (pc', lv', st')) : ∃ x y z r, st = .long y :: .long x :: r ∧ m_l2 ins x y = some z ∧ pc' = pc + 1 ∧ lv' = lv ∧ st' = z :: r := by
  unfold m_bl at h
  split at h
  next y x r =>
    split at h
    next z hz => cases h; exact ⟨x, y, z, r, rfl, hz, rfl, rfl, rfl⟩
    next => cases h
  next => cases h
theorem m_un_ok {ins : Instr} (h : m_un ins pc lv st = some (pc', lv', st')) : ∃ v z r, st = v :: r ∧ m_cv ins v = some z ∧ pc' = pc + 1 ∧ lv' = lv ∧ st' = z :: r := by
  unfold m_un at h
  split at h
  next v r =>
    split at h
    next z hz => cases h; exact ⟨v, z, r, rfl, hz, rfl, rfl, rfl⟩
    next => cases h
  next => cases h
set_option maxHeartbeats 4000000 in
theorem m_pure_ok {ins : Instr} (hx : p.tables.exec = Jvm.exec) (hb : c.code = cc) (hdg : decode cc pc = .ok (ins, m_len ins n)) (hl : lv_has ls nL (mlv B X lv)) (h : m_pure nL ins pc lv st = some (pc', lv', st'))
    (kk : ∀ ls', lv_has ls' nL (mlv B X lv') → W p l e R s m args below meth c H locs cells slots Q (F0 m pc' ls' (st'.map (mv B X)))) : W p l e R s m args below meth c H locs cells slots Q (F0 m pc ls (st.map (mv B X))) := by
  cases ins
  case iconst n =>
    cases h
    exact lv_iconst hx hb hdg rfl (kk ls hl)
  case bipush n =>
    cases h
    exact lv_bipush hx hb hdg rfl (kk ls hl)
  case sipush n =>
    cases h
    exact lv_sipush hx hb hdg rfl (kk ls hl)
  case lconst n =>
    cases h
    exact lv_lconst hx hb hdg rfl (kk ls hl)
  case aconst_null =>
    cases h
    exact lv_null hx hb hdg (kk ls hl)
  case iload_n k =>
    exact m_pure_ld hx hb hl h (fun x _ hv k1 => lv_iload_n hx hb hdg rfl hv k1) (fun x ht => absurd ht (by decide)) (fun x ht => absurd ht (by decide)) (fun ht => absurd ht (by decide)) kk
  case lload_n k =>
    exact m_pure_ld hx hb hl h (fun x ht => absurd ht (by decide)) (fun x _ hv k1 => lv_lload_n hx hb hdg rfl hv k1) (fun x ht => absurd ht (by decide)) (fun ht => absurd ht (by decide)) kk
  case aload_n k =>
    exact m_pure_ld hx hb hl h (fun x ht => absurd ht (by decide)) (fun x ht => absurd ht (by decide)) (fun x _ hv k1 => lv_aload_n hx hb hdg rfl hv k1) (fun _ hv k1 => lv_aload_nN hx hb hdg rfl hv k1) kk
  case iload k =>
    exact m_pure_ld hx hb hl h (fun x _ hv k1 => lv_iload hx hb hdg hv k1) (fun x ht => absurd ht (by decide)) (fun x ht => absurd ht (by decide)) (fun ht => absurd ht (by decide)) kk
  case lload k =>
    exact m_pure_ld hx hb hl h (fun x ht => absurd ht (by decide)) (fun x _ hv k1 => lv_lload hx hb hdg hv k1) (fun x ht => absurd ht (by decide)) (fun ht => absurd ht (by decide)) kk
  case aload k =>
    exact m_pure_ld hx hb hl h (fun x ht => absurd ht (by decide)) (fun x ht => absurd ht (by decide)) (fun x _ hv k1 => lv_aload hx hb hdg hv k1) (fun _ hv k1 => lv_aloadN hx hb hdg hv k1) kk
  case istore_n k =>
    exact m_pure_st hx hb hl h (fun x r _ hk e1 k1 => by subst e1; exact lv_istore_n hx hb hdg rfl hl hk (mlv_put1 B X lv _ (.int x)) k1) (fun x r ht => absurd ht (by decide)) (fun x y r ht => absurd ht (by decide)) (fun r ht => absurd ht (by decide)) kk
  case lstore_n k =>
    exact m_pure_st hx hb hl h (fun x r ht => absurd ht (by decide)) (fun x r _ hk e1 k1 => by subst e1; exact lv_lstore_n hx hb hdg rfl hl hk (mlv_put2 B X lv _ (.long x)) k1) (fun x y r ht => absurd ht (by decide)) (fun r ht => absurd ht (by decide)) kk
  case astore_n k =>
    exact m_pure_st hx hb hl h (fun x r ht => absurd ht (by decide)) (fun x r ht => absurd ht (by decide)) (fun x y r _ hk e1 e2 k1 => by subst e1; rw [List.map_cons, e2]; exact lv_astore_n hx hb hdg rfl hl hk (by rw [← e2]; exact mlv_put1 B X lv _ x) k1) (fun r _ hk e1 k1 => by subst e1; exact lv_astore_nN hx hb hdg rfl hl hk (mlv_put1 B X lv _ .null) k1) kk
  case istore k =>
    exact m_pure_st hx hb hl h (fun x r _ hk e1 k1 => by subst e1; exact lv_istore hx hb hdg hl hk (mlv_put1 B X lv _ (.int x)) k1) (fun x r ht => absurd ht (by decide)) (fun x y r ht => absurd ht (by decide)) (fun r ht => absurd ht (by decide)) kk
  case lstore k =>
    exact m_pure_st hx hb hl h (fun x r ht => absurd ht (by decide)) (fun x r _ hk e1 k1 => by subst e1; exact lv_lstore hx hb hdg hl hk (mlv_put2 B X lv _ (.long x)) k1) (fun x y r ht => absurd ht (by decide)) (fun r ht => absurd ht (by decide)) kk
  case astore k =>
    exact m_pure_st hx hb hl h (fun x r ht => absurd ht (by decide)) (fun x r ht => absurd ht (by decide)) (fun x y r _ hk e1 e2 k1 => by subst e1; rw [List.map_cons, e2]; exact lv_astore hx hb hdg hl hk (by rw [← e2]; exact mlv_put1 B X lv _ x) k1) (fun r _ hk e1 k1 => by subst e1; exact lv_astoreN hx hb hdg hl hk (mlv_put1 B X lv _ .null) k1) kk
  case iinc i k =>
    simp only [m_pure] at h
    split at h
    next x hg =>
      split at h
      next hk =>
        cases h
        obtain ⟨j, hj⟩ := mlv_at (B := B) (X := X) hg
        exact lv_iinc hx hb hdg hl hj rfl hk (mlv_put1 B X lv _ (.int _)) kk
      next => cases h
    next => cases h
  case iadd =>
    have h : m_bi .iadd pc lv st = some (pc', lv', st') := h
    obtain ⟨x, y, z, r, rfl, hz, rfl, rfl, rfl⟩ := m_bi_ok h
    cases hz
    exact lv_iadd hx hb hdg (kk ls hl)
  case isub =>
    have h : m_bi .isub pc lv st = some (pc', lv', st') := h
    obtain ⟨x, y, z, r, rfl, hz, rfl, rfl, rfl⟩ := m_bi_ok h
    cases hz
    exact lv_isub hx hb hdg (kk ls hl)
  case imul =>
    have h : m_bi .imul pc lv st = some (pc', lv', st') := h
    obtain ⟨x, y, z, r, rfl, hz, rfl, rfl, rfl⟩ := m_bi_ok h
    cases hz
    exact lv_imul hx hb hdg (kk ls hl)
  case iand =>
    have h : m_bi .iand pc lv st = some (pc', lv', st') := h
    obtain ⟨x, y, z, r, rfl, hz, rfl, rfl, rfl⟩ := m_bi_ok h
    cases hz
    exact lv_iand hx hb hdg (kk ls hl)
  case ior =>
    have h : m_bi .ior pc lv st = some (pc', lv', st') := h
    obtain ⟨x, y, z, r, rfl, hz, rfl, rfl, rfl⟩ := m_bi_ok h
    cases hz
    exact lv_ior hx hb hdg (kk ls hl)
  case ixor =>
    have h : m_bi .ixor pc lv st = some (pc', lv', st') := h
    obtain ⟨x, y, z, r, rfl, hz, rfl, rfl, rfl⟩ := m_bi_ok h
    cases hz
    exact lv_ixor hx hb hdg (kk ls hl)
  case ishl =>
    have h : m_bi .ishl pc lv st = some (pc', lv', st') := h
    obtain ⟨x, y, z, r, rfl, hz, rfl, rfl, rfl⟩ := m_bi_ok h
    cases hz
    exact lv_ishl hx hb hdg (kk ls hl)
  case ishr =>
    have h : m_bi .ishr pc lv st = some (pc', lv', st') := h
    obtain ⟨x, y, z, r, rfl, hz, rfl, rfl, rfl⟩ := m_bi_ok h
    cases hz
    exact lv_ishr hx hb hdg (kk ls hl)
  case iushr =>
    have h : m_bi .iushr pc lv st = some (pc', lv', st') := h
    obtain ⟨x, y, z, r, rfl, hz, rfl, rfl, rfl⟩ := m_bi_ok h
    cases hz
    exact lv_iushr hx hb hdg rfl (kk ls hl)
  case idiv =>
    have h : m_bi .idiv pc lv st = some (pc', lv', st') := h
    obtain ⟨x, y, z, r, rfl, hz, rfl, rfl, rfl⟩ := m_bi_ok h
    simp only [m_i2] at hz
    split at hz
    next => cases hz
    next hn => cases hz; exact lv_idiv hx hb hdg hn (kk ls hl)
  case irem =>
    have h : m_bi .irem pc lv st = some (pc', lv', st') := h
    obtain ⟨x, y, z, r, rfl, hz, rfl, rfl, rfl⟩ := m_bi_ok h
    simp only [m_i2] at hz
    split at hz
    next => cases hz
    next hn => cases hz; exact lv_irem hx hb hdg hn (kk ls hl)
  case ladd =>
    have h : m_bl .ladd pc lv st = some (pc', lv', st') := h
    obtain ⟨x, y, z, r, rfl, hz, rfl, rfl, rfl⟩ := m_bl_ok h
    cases hz
    exact lv_ladd hx hb hdg (kk ls hl)
  case lsub =>
    have h : m_bl .lsub pc lv st = some (pc', lv', st') := h
    obtain ⟨x, y, z, r, rfl, hz, rfl, rfl, rfl⟩ := m_bl_ok h
    cases hz
    exact lv_lsub hx hb hdg (kk ls hl)
  case lmul =>
    have h : m_bl .lmul pc lv st = some (pc', lv', st') := h
    obtain ⟨x, y, z, r, rfl, hz, rfl, rfl, rfl⟩ := m_bl_ok h
    cases hz
    exact lv_lmul hx hb hdg (kk ls hl)
  case land =>
    have h : m_bl .land pc lv st = some (pc', lv', st') := h
    obtain ⟨x, y, z, r, rfl, hz, rfl, rfl, rfl⟩ := m_bl_ok h
    cases hz
    exact lv_land hx hb hdg (kk ls hl)
  case lor =>
    have h : m_bl .lor pc lv st = some (pc', lv', st') := h
    obtain ⟨x, y, z, r, rfl, hz, rfl, rfl, rfl⟩ := m_bl_ok h
    cases hz
    exact lv_lor hx hb hdg (kk ls hl)
  case lxor =>
    have h : m_bl .lxor pc lv st = some (pc', lv', st') := h
    obtain ⟨x, y, z, r, rfl, hz, rfl, rfl, rfl⟩ := m_bl_ok h
    cases hz
    exact lv_lxor hx hb hdg (kk ls hl)
  case lcmp =>
    have h : m_bl .lcmp pc lv st = some (pc', lv', st') := h
    obtain ⟨x, y, z, r, rfl, hz, rfl, rfl, rfl⟩ := m_bl_ok h
    cases hz
    exact W.lcmp hx hb hdg (kk ls hl)
  case ldiv =>
    have h : m_bl .ldiv pc lv st = some (pc', lv', st') := h
    obtain ⟨x, y, z, r, rfl, hz, rfl, rfl, rfl⟩ := m_bl_ok h
    simp only [m_l2] at hz
    split at hz
    next => cases hz
    next hn => cases hz; exact lv_ldiv hx hb hdg hn (kk ls hl)
  case lrem =>
    have h : m_bl .lrem pc lv st = some (pc', lv', st') := h
    obtain ⟨x, y, z, r, rfl, hz, rfl, rfl, rfl⟩ := m_bl_ok h
    simp only [m_l2] at hz
    split at hz
    next => cases hz
    next hn => cases hz; exact lv_lrem hx hb hdg hn (kk ls hl)
  case ineg =>
    have h : m_un .ineg pc lv st = some (pc', lv', st') := h
    obtain ⟨v, z, r, rfl, hz, rfl, rfl, rfl⟩ := m_un_ok h
    cases v <;> first | (cases hz; done) | (cases hz; exact lv_ineg hx hb hdg (kk ls hl))
  case lneg =>
    have h : m_un .lneg pc lv st = some (pc', lv', st') := h
    obtain ⟨v, z, r, rfl, hz, rfl, rfl, rfl⟩ := m_un_ok h
    cases v <;> first | (cases hz; done) | (cases hz; exact lv_lneg hx hb hdg (kk ls hl))
  case i2l =>
    have h : m_un .i2l pc lv st = some (pc', lv', st') := h
    obtain ⟨v, z, r, rfl, hz, rfl, rfl, rfl⟩ := m_un_ok h
    cases v <;> first | (cases hz; done) | (cases hz; exact lv_i2l hx hb hdg rfl (kk ls hl))
  case l2i =>
    have h : m_un .l2i pc lv st = some (pc', lv', st') := h
    obtain ⟨v, z, r, rfl, hz, rfl, rfl, rfl⟩ := m_un_ok h
    cases v <;> first | (cases hz; done) | (cases hz; exact lv_l2i hx hb hdg rfl (kk ls hl))
  case i2b =>
    have h : m_un .i2b pc lv st = some (pc', lv', st') := h
    obtain ⟨v, z, r, rfl, hz, rfl, rfl, rfl⟩ := m_un_ok h
    cases v <;> first | (cases hz; done) | (cases hz; exact lv_i2b hx hb hdg rfl (kk ls hl))
  case i2s =>
    have h : m_un .i2s pc lv st = some (pc', lv', st') := h
    obtain ⟨v, z, r, rfl, hz, rfl, rfl, rfl⟩ := m_un_ok h
    cases v <;> first | (cases hz; done) | (cases hz; exact lv_i2s hx hb hdg rfl (kk ls hl))
  case i2c =>
    have h : m_un .i2c pc lv st = some (pc', lv', st') := h
    obtain ⟨v, z, r, rfl, hz, rfl, rfl, rfl⟩ := m_un_ok h
    cases v <;> first | (cases hz; done) | (cases hz; exact lv_i2c hx hb hdg rfl (kk ls hl))
  case dup =>
    simp only [m_pure] at h
    split at h
    next v r =>
      split at h
      next hc => cases h; exact lv_dup hx hb hdg (m_c1_ok hc B X) (kk ls hl)
      next => cases h
    next => cases h
  case pop =>
    simp only [m_pure] at h
    split at h
    next v r =>
      split at h
      next hc => cases h; exact lv_pop hx hb hdg (m_c1_ok hc B X) (kk ls hl)
      next => cases h
    next => cases h
  case dup_x1 =>
    simp only [m_pure] at h
    split at h
    next v u r =>
      split at h
      next hc => cases h; exact lv_dup_x1 hx hb hdg (m_c1_ok hc.1 B X) (m_c1_ok hc.2 B X) (kk ls hl)
      next => cases h
    next => cases h
  case dup_x2 =>
    simp only [m_pure] at h
    split at h
    next v u w r =>
      split at h
      next hc => cases h; exact lv_dup_x2 hx hb hdg (m_c1_ok hc.1 B X) (m_c1_ok hc.2.1 B X) (m_c1_ok hc.2.2 B X) (kk ls hl)
      next => cases h
    next => cases h
  case dup2 =>
    simp only [m_pure] at h
    split at h
    next x r => cases h; exact lv_dup2_2 hx hb hdg rfl (kk ls hl)
    next v u r _ =>
      split at h
      next hc => cases h; exact lv_dup2_11 hx hb hdg (m_c1_ok hc.1 B X) (m_c1_ok hc.2 B X) (kk ls hl)
      next => cases h
    next => cases h
  case pop2 =>
    simp only [m_pure] at h
    split at h
    next x r => cases h; exact lv_pop2_2 hx hb hdg rfl (kk ls hl)
    next v u r _ =>
      split at h
      next hc => cases h; exact lv_pop2_11 hx hb hdg (m_c1_ok hc.1 B X) (m_c1_ok hc.2 B X) (kk ls hl)
      next => cases h
    next => cases h
  case ifCond cd off =>
    simp only [m_pure] at h
    split at h
    next x r =>
      obtain ⟨t, ht, rfl, rfl, h1, h2⟩ := m_br_ok h
      cases cd
      · exact lv_if_eq hx hb hdg ht (fun q => by rw [← h1 (by simp [m_cmp, q])]; exact kk ls hl) (fun q => by rw [← h2 (by simp [m_cmp, q])]; exact kk ls hl)
      · exact lv_if_ne hx hb hdg ht (fun q => by rw [← h1 (by simp [m_cmp, q])]; exact kk ls hl) (fun q => by rw [← h2 (by simp [m_cmp, q])]; exact kk ls hl)
      · exact lv_if_lt hx hb hdg ht (fun q => by rw [← h1 (by simp [m_cmp, q])]; exact kk ls hl) (fun q => by rw [← h2 (by simp [m_cmp, q])]; exact kk ls hl)
      · exact lv_if_ge hx hb hdg ht (fun q => by rw [← h1 (by simp [m_cmp, q])]; exact kk ls hl) (fun q => by rw [← h2 (by simp [m_cmp, q])]; exact kk ls hl)
      · exact lv_if_gt hx hb hdg ht (fun q => by rw [← h1 (by simp [m_cmp, q])]; exact kk ls hl) (fun q => by rw [← h2 (by simp [m_cmp, q])]; exact kk ls hl)
      · exact lv_if_le hx hb hdg ht (fun q => by rw [← h1 (by simp [m_cmp, q])]; exact kk ls hl) (fun q => by rw [← h2 (by simp [m_cmp, q])]; exact kk ls hl)
    next => cases h
  case if_icmp cd off =>
    simp only [m_pure] at h
    split at h
    next y x r =>
      obtain ⟨t, ht, rfl, rfl, h1, h2⟩ := m_br_ok h
      cases cd
      · exact lv_icmp_eq hx hb hdg ht (fun q => by rw [← h1 (by simp [m_cmp, q])]; exact kk ls hl) (fun q => by rw [← h2 (by simp [m_cmp, q])]; exact kk ls hl)
      · exact lv_icmp_ne hx hb hdg ht (fun q => by rw [← h1 (by simp [m_cmp, q])]; exact kk ls hl) (fun q => by rw [← h2 (by simp [m_cmp, q])]; exact kk ls hl)
      · exact lv_icmp_lt hx hb hdg ht (fun q => by rw [← h1 (by simp [m_cmp, q])]; exact kk ls hl) (fun q => by rw [← h2 (by simp [m_cmp, q])]; exact kk ls hl)
      · exact lv_icmp_ge hx hb hdg ht (fun q => by rw [← h1 (by simp [m_cmp, q])]; exact kk ls hl) (fun q => by rw [← h2 (by simp [m_cmp, q])]; exact kk ls hl)
      · exact lv_icmp_gt hx hb hdg ht (fun q => by rw [← h1 (by simp [m_cmp, q])]; exact kk ls hl) (fun q => by rw [← h2 (by simp [m_cmp, q])]; exact kk ls hl)
      · exact lv_icmp_le hx hb hdg ht (fun q => by rw [← h1 (by simp [m_cmp, q])]; exact kk ls hl) (fun q => by rw [← h2 (by simp [m_cmp, q])]; exact kk ls hl)
    next => cases h
  case ifnull off =>
    simp only [m_pure, m_nul] at h
    split at h
    next r => obtain ⟨t, ht, rfl, rfl, h1, h2⟩ := m_br_ok h; cases h1 rfl; exact lv_ifnullN hx hb hdg ht (kk ls hl)
    next x r => obtain ⟨t, ht, rfl, rfl, h1, h2⟩ := m_br_ok h; cases h2 rfl; exact lv_ifnull hx hb hdg (kk ls hl)
    next x r => obtain ⟨t, ht, rfl, rfl, h1, h2⟩ := m_br_ok h; cases h2 rfl; exact lv_ifnull hx hb hdg (kk ls hl)
    next => cases h
  case ifnonnull off =>
    simp only [m_pure, m_nul] at h
    split at h
    next r => obtain ⟨t, ht, rfl, rfl, h1, h2⟩ := m_br_ok h; cases h2 rfl; exact lv_ifnonnullN hx hb hdg (kk ls hl)
    next x r => obtain ⟨t, ht, rfl, rfl, h1, h2⟩ := m_br_ok h; cases h1 rfl; exact lv_ifnonnull hx hb hdg ht (kk ls hl)
    next x r => obtain ⟨t, ht, rfl, rfl, h1, h2⟩ := m_br_ok h; cases h1 rfl; exact lv_ifnonnull hx hb hdg ht (kk ls hl)
    next => cases h
  case if_acmp cd off =>
    cases cd <;> simp only [m_pure, m_acm] at h <;> split at h
    · next r => obtain ⟨t, ht, rfl, rfl, h1, h2⟩ := m_br_ok h; exact lv_acmp_eq (rx := none) (ry := none) hx hb hdg ht (fun q => by have e := h1 rfl; rw [← e]; exact kk ls hl) (fun q => absurd rfl q)
    · next x r => obtain ⟨t, ht, rfl, rfl, h1, h2⟩ := m_br_ok h; exact lv_acmp_eq (rx := none) (ry := (some (B + x))) hx hb hdg ht (fun q => absurd q (by simp)) (fun q => by have e := h2 rfl; rw [← e]; exact kk ls hl)
    · next x r => obtain ⟨t, ht, rfl, rfl, h1, h2⟩ := m_br_ok h; exact lv_acmp_eq (rx := (some (B + x))) (ry := none) hx hb hdg ht (fun q => absurd q (by simp)) (fun q => by have e := h2 rfl; rw [← e]; exact kk ls hl)
    · next x y r =>
        by_cases hxy : x = y
        · rw [if_pos hxy] at h; subst hxy
          obtain ⟨t, ht, rfl, rfl, h1, h2⟩ := m_br_ok h; exact lv_acmp_eq (rx := (some (B + x))) (ry := (some (B + x))) hx hb hdg ht (fun q => by have e := h1 rfl; rw [← e]; exact kk ls hl) (fun q => absurd rfl q)
        · rw [if_neg hxy] at h
          have hne : ¬ (some (B + y) : Option Nat) = some (B + x) := fun q => hxy (Nat.add_left_cancel (Option.some.inj q)).symm
          obtain ⟨t, ht, rfl, rfl, h1, h2⟩ := m_br_ok h; exact lv_acmp_eq (rx := (some (B + y))) (ry := (some (B + x))) hx hb hdg ht (fun q => absurd q hne) (fun q => by have e := h2 rfl; rw [← e]; exact kk ls hl)
    · cases h
    · next r => obtain ⟨t, ht, rfl, rfl, h1, h2⟩ := m_br_ok h; exact lv_acmp_ne (rx := none) (ry := none) hx hb hdg ht (fun q => absurd rfl q) (fun q => by have e := h2 rfl; rw [← e]; exact kk ls hl)
    · next x r => obtain ⟨t, ht, rfl, rfl, h1, h2⟩ := m_br_ok h; exact lv_acmp_ne (rx := none) (ry := (some (B + x))) hx hb hdg ht (fun q => by have e := h1 rfl; rw [← e]; exact kk ls hl) (fun q => absurd q (by simp))
    · next x r => obtain ⟨t, ht, rfl, rfl, h1, h2⟩ := m_br_ok h; exact lv_acmp_ne (rx := (some (B + x))) (ry := none) hx hb hdg ht (fun q => by have e := h1 rfl; rw [← e]; exact kk ls hl) (fun q => absurd q (by simp))
    · next x y r =>
        by_cases hxy : x = y
        · rw [if_pos hxy] at h; subst hxy
          obtain ⟨t, ht, rfl, rfl, h1, h2⟩ := m_br_ok h; exact lv_acmp_ne (rx := (some (B + x))) (ry := (some (B + x))) hx hb hdg ht (fun q => absurd rfl q) (fun q => by have e := h2 rfl; rw [← e]; exact kk ls hl)
        · rw [if_neg hxy] at h
          have hne : ¬ (some (B + y) : Option Nat) = some (B + x) := fun q => hxy (Nat.add_left_cancel (Option.some.inj q)).symm
          obtain ⟨t, ht, rfl, rfl, h1, h2⟩ := m_br_ok h; exact lv_acmp_ne (rx := (some (B + y))) (ry := (some (B + x))) hx hb hdg ht (fun q => by have e := h1 rfl; rw [← e]; exact kk ls hl) (fun q => absurd q hne)
    · cases h
  case goto off =>
    obtain ⟨ht, rfl, rfl⟩ := m_tgt_jmp h
    exact lv_goto hx hb hdg ht (kk ls hl)
  case tableswitch d lo hi offs =>
    simp only [m_pure] at h
    split at h
    next x r =>
      split at h
      next ho => obtain ⟨ht, rfl, rfl⟩ := m_tgt_jmp h; exact lv_tableOut hx hb hdg ho ht (kk ls hl)
      next ho =>
        split at h
        next off hoff => obtain ⟨ht, rfl, rfl⟩ := m_tgt_jmp h; exact lv_tableIn hx hb hdg (fun q => ho (Or.inl q)) (fun q => ho (Or.inr q)) hoff ht (kk ls hl)
        next => cases h
    next => cases h
  case lookupswitch d ps =>
    simp only [m_pure] at h
    split at h
    next x r =>
      split at h
      next hp => obtain ⟨ht, rfl, rfl⟩ := m_tgt_jmp h; exact lv_lookup hx hb hdg hp rfl ht (kk ls hl)
      next => cases h
    next => cases h
  all_goals exact nomatch (show (none : Option (Nat × mL × List Value)) = some _ from h)
end MP
end
section
/-! what a program decides of the tables: each row is held by the Statement's words and bytes -/
def pgD : pgRow := (⟨"", "", ""⟩, ⟨#[]⟩, 0, none, 0, false, 0, 0, 0, 0, 0)
def pgRw (k : Nat) : pgRow := (pgMs.getD (k / 16) []).getD (k % 16) pgD
def pgN (k : Nat) : MethodName := (pgRw k).1
def pgB (k : Nat) : ByteArray := (pgRw k).2.1
def pgL (k : Nat) : Nat := (pgRw k).2.2.1
def pgT (k : Nat) : Option FieldType := (pgRw k).2.2.2.1
def pgA (k : Nat) : Nat := (pgRw k).2.2.2.2.1
def pgS (k : Nat) : Bool := (pgRw k).2.2.2.2.2.1
def pgOw (k : Nat) : Nat := (pgRw k).2.2.2.2.2.2.1
def pgCd (k : Nat) : List (List (Nat × Instr × Nat)) := (pgCs.getD (k / 16) []).getD (k % 16) []
def m_find : List (Nat × Instr × Nat) → Nat → Option (Instr × Nat)
  | [], _ => none
  | (j, x) :: l, i => bif Nat.beq j i then some x else m_find l i
/-- the instruction at a place of a method, and a switch's length -/
def pgF (k pc : Nat) : Option (Instr × Nat) := bif Nat.blt k 275 then m_find ((pgCd k).getD (pc / 8) []) pc else none
def okM (r : pgRow) : Bool := match r with
  | (y, b, ml, ret, n, st, o, p1, p2, p3, p4) =>
    decide (lw_tbl[p1]? = some (Jvm.Cond.code y b ml ret)) && decide (lw_tbl[p2]? = some (Jvm.Cond.initialized y.cls)) && (if st then decide (lw_tbl[p3]? = some (Jvm.Cond.static y)) else decide (lw_tbl[p3]? = some (Jvm.Cond.instanceMethod y))) &&
    (st || decide (y.name = "<init>") || decide (lw_tbl[p4]? = some (Jvm.Cond.selects y.cls y y))) && decide (y.cls ≠ "java/lang/invoke/MethodHandle" ∧ y.cls ≠ "java/lang/invoke/VarHandle" ∧ (parseMethodDescriptor y.desc).map (fun d => d.parameters.length) = some n) && plainName y.cls && decide (pgO.getD o "" = y.cls) && decide (ml ≤ 60)
def okC (b : ByteArray) (L : List (List (Nat × Instr × Nat))) : Bool := L.all (fun bk => bk.all (fun q => decide (decode b q.1 = .ok (q.2.1, m_len q.2.1 q.2.2))))
def okMid (k : Nat) : Bool := (Nat.beq k 274 || okM (pgRw k)) && okC (pgB k) (pgCd k)
theorem okC_cat (b : ByteArray) (n a : Nat) (L : List (List (Nat × Instr × Nat))) (h1 : okC b ((L.drop a).take n) = true) (h2 : okC b (L.drop (a + n)) = true) : okC b (L.drop a) = true := by
  unfold okC at h1 h2 ⊢
  rw [← List.take_append_drop n (L.drop a), List.all_append, h1, List.drop_drop, h2]; rfl
end
section
theorem okS_0_0 : okC (pgB 0) (((pgCd 0).drop 0).take 4) = true := by decide +kernel
theorem okS_0_1 : okC (pgB 0) (((pgCd 0).drop 4).take 4) = true := by decide +kernel
theorem okS_0_2 : okC (pgB 0) (((pgCd 0).drop 8).take 1) = true := by decide +kernel
theorem okM_0 : okM (pgRw 0) = true := by decide +kernel
theorem okCd_0 : okC (pgB 0) (pgCd 0) = true := by
  have hz : okC (pgB 0) ((pgCd 0).drop 9) = true := by decide +kernel
  have hz : okC (pgB 0) ((pgCd 0).drop 8) = true := okC_cat _ 1 8 _ okS_0_2 hz
  have hz : okC (pgB 0) ((pgCd 0).drop 4) = true := okC_cat _ 4 4 _ okS_0_1 hz
  have hz : okC (pgB 0) ((pgCd 0).drop 0) = true := okC_cat _ 4 0 _ okS_0_0 hz
  exact hz
theorem okMid_0 : okMid 0 = true := by unfold okMid; rw [okCd_0, okM_0]; rfl
theorem okMid_1 : okMid 1 = true := by decide +kernel
theorem okS_2_0 : okC (pgB 2) (((pgCd 2).drop 0).take 4) = true := by decide +kernel
theorem okS_2_1 : okC (pgB 2) (((pgCd 2).drop 4).take 4) = true := by decide +kernel
theorem okS_2_2 : okC (pgB 2) (((pgCd 2).drop 8).take 4) = true := by decide +kernel
theorem okS_2_3 : okC (pgB 2) (((pgCd 2).drop 12).take 2) = true := by decide +kernel
theorem okM_2 : okM (pgRw 2) = true := by decide +kernel
theorem okCd_2 : okC (pgB 2) (pgCd 2) = true := by
  have hz : okC (pgB 2) ((pgCd 2).drop 14) = true := by decide +kernel
  have hz : okC (pgB 2) ((pgCd 2).drop 12) = true := okC_cat _ 2 12 _ okS_2_3 hz
  have hz : okC (pgB 2) ((pgCd 2).drop 8) = true := okC_cat _ 4 8 _ okS_2_2 hz
  have hz : okC (pgB 2) ((pgCd 2).drop 4) = true := okC_cat _ 4 4 _ okS_2_1 hz
  have hz : okC (pgB 2) ((pgCd 2).drop 0) = true := okC_cat _ 4 0 _ okS_2_0 hz
  exact hz
theorem okMid_2 : okMid 2 = true := by unfold okMid; rw [okCd_2, okM_2]; rfl
theorem okS_3_0 : okC (pgB 3) (((pgCd 3).drop 0).take 4) = true := by decide +kernel
theorem okS_3_1 : okC (pgB 3) (((pgCd 3).drop 4).take 4) = true := by decide +kernel
theorem okS_3_2 : okC (pgB 3) (((pgCd 3).drop 8).take 3) = true := by decide +kernel
theorem okM_3 : okM (pgRw 3) = true := by decide +kernel
theorem okCd_3 : okC (pgB 3) (pgCd 3) = true := by
  have hz : okC (pgB 3) ((pgCd 3).drop 11) = true := by decide +kernel
  have hz : okC (pgB 3) ((pgCd 3).drop 8) = true := okC_cat _ 3 8 _ okS_3_2 hz
  have hz : okC (pgB 3) ((pgCd 3).drop 4) = true := okC_cat _ 4 4 _ okS_3_1 hz
  have hz : okC (pgB 3) ((pgCd 3).drop 0) = true := okC_cat _ 4 0 _ okS_3_0 hz
  exact hz
theorem okMid_3 : okMid 3 = true := by unfold okMid; rw [okCd_3, okM_3]; rfl
theorem okS_4_0 : okC (pgB 4) (((pgCd 4).drop 0).take 4) = true := by decide +kernel
theorem okS_4_1 : okC (pgB 4) (((pgCd 4).drop 4).take 4) = true := by decide +kernel
theorem okS_4_2 : okC (pgB 4) (((pgCd 4).drop 8).take 4) = true := by decide +kernel
theorem okS_4_3 : okC (pgB 4) (((pgCd 4).drop 12).take 4) = true := by decide +kernel
theorem okS_4_4 : okC (pgB 4) (((pgCd 4).drop 16).take 4) = true := by decide +kernel
theorem okS_4_5 : okC (pgB 4) (((pgCd 4).drop 20).take 4) = true := by decide +kernel
theorem okM_4 : okM (pgRw 4) = true := by decide +kernel
theorem okCd_4 : okC (pgB 4) (pgCd 4) = true := by
  have hz : okC (pgB 4) ((pgCd 4).drop 24) = true := by decide +kernel
  have hz : okC (pgB 4) ((pgCd 4).drop 20) = true := okC_cat _ 4 20 _ okS_4_5 hz
  have hz : okC (pgB 4) ((pgCd 4).drop 16) = true := okC_cat _ 4 16 _ okS_4_4 hz
  have hz : okC (pgB 4) ((pgCd 4).drop 12) = true := okC_cat _ 4 12 _ okS_4_3 hz
  have hz : okC (pgB 4) ((pgCd 4).drop 8) = true := okC_cat _ 4 8 _ okS_4_2 hz
  have hz : okC (pgB 4) ((pgCd 4).drop 4) = true := okC_cat _ 4 4 _ okS_4_1 hz
  have hz : okC (pgB 4) ((pgCd 4).drop 0) = true := okC_cat _ 4 0 _ okS_4_0 hz
  exact hz
theorem okMid_4 : okMid 4 = true := by unfold okMid; rw [okCd_4, okM_4]; rfl
theorem okMid_5 : okMid 5 = true := by decide +kernel
theorem okMid_6 : okMid 6 = true := by decide +kernel
theorem okMid_7 : okMid 7 = true := by decide +kernel
theorem okS_8_0 : okC (pgB 8) (((pgCd 8).drop 0).take 4) = true := by decide +kernel
theorem okS_8_1 : okC (pgB 8) (((pgCd 8).drop 4).take 4) = true := by decide +kernel
theorem okS_8_2 : okC (pgB 8) (((pgCd 8).drop 8).take 4) = true := by decide +kernel
theorem okS_8_3 : okC (pgB 8) (((pgCd 8).drop 12).take 4) = true := by decide +kernel
theorem okS_8_4 : okC (pgB 8) (((pgCd 8).drop 16).take 4) = true := by decide +kernel
theorem okS_8_5 : okC (pgB 8) (((pgCd 8).drop 20).take 4) = true := by decide +kernel
theorem okM_8 : okM (pgRw 8) = true := by decide +kernel
theorem okCd_8 : okC (pgB 8) (pgCd 8) = true := by
  have hz : okC (pgB 8) ((pgCd 8).drop 24) = true := by decide +kernel
  have hz : okC (pgB 8) ((pgCd 8).drop 20) = true := okC_cat _ 4 20 _ okS_8_5 hz
  have hz : okC (pgB 8) ((pgCd 8).drop 16) = true := okC_cat _ 4 16 _ okS_8_4 hz
  have hz : okC (pgB 8) ((pgCd 8).drop 12) = true := okC_cat _ 4 12 _ okS_8_3 hz
  have hz : okC (pgB 8) ((pgCd 8).drop 8) = true := okC_cat _ 4 8 _ okS_8_2 hz
  have hz : okC (pgB 8) ((pgCd 8).drop 4) = true := okC_cat _ 4 4 _ okS_8_1 hz
  have hz : okC (pgB 8) ((pgCd 8).drop 0) = true := okC_cat _ 4 0 _ okS_8_0 hz
  exact hz
theorem okMid_8 : okMid 8 = true := by unfold okMid; rw [okCd_8, okM_8]; rfl
theorem okMid_9 : okMid 9 = true := by decide +kernel
theorem okMid_10 : okMid 10 = true := by decide +kernel
theorem okMid_11 : okMid 11 = true := by decide +kernel
theorem okS_12_0 : okC (pgB 12) (((pgCd 12).drop 0).take 4) = true := by decide +kernel
theorem okS_12_1 : okC (pgB 12) (((pgCd 12).drop 4).take 4) = true := by decide +kernel
theorem okS_12_2 : okC (pgB 12) (((pgCd 12).drop 8).take 3) = true := by decide +kernel
theorem okM_12 : okM (pgRw 12) = true := by decide +kernel
theorem okCd_12 : okC (pgB 12) (pgCd 12) = true := by
  have hz : okC (pgB 12) ((pgCd 12).drop 11) = true := by decide +kernel
  have hz : okC (pgB 12) ((pgCd 12).drop 8) = true := okC_cat _ 3 8 _ okS_12_2 hz
  have hz : okC (pgB 12) ((pgCd 12).drop 4) = true := okC_cat _ 4 4 _ okS_12_1 hz
  have hz : okC (pgB 12) ((pgCd 12).drop 0) = true := okC_cat _ 4 0 _ okS_12_0 hz
  exact hz
theorem okMid_12 : okMid 12 = true := by unfold okMid; rw [okCd_12, okM_12]; rfl
theorem okS_13_0 : okC (pgB 13) (((pgCd 13).drop 0).take 4) = true := by decide +kernel
theorem okS_13_1 : okC (pgB 13) (((pgCd 13).drop 4).take 4) = true := by decide +kernel
theorem okS_13_2 : okC (pgB 13) (((pgCd 13).drop 8).take 4) = true := by decide +kernel
theorem okS_13_3 : okC (pgB 13) (((pgCd 13).drop 12).take 4) = true := by decide +kernel
theorem okS_13_4 : okC (pgB 13) (((pgCd 13).drop 16).take 4) = true := by decide +kernel
theorem okS_13_5 : okC (pgB 13) (((pgCd 13).drop 20).take 4) = true := by decide +kernel
theorem okS_13_6 : okC (pgB 13) (((pgCd 13).drop 24).take 4) = true := by decide +kernel
theorem okM_13 : okM (pgRw 13) = true := by decide +kernel
theorem okCd_13 : okC (pgB 13) (pgCd 13) = true := by
  have hz : okC (pgB 13) ((pgCd 13).drop 28) = true := by decide +kernel
  have hz : okC (pgB 13) ((pgCd 13).drop 24) = true := okC_cat _ 4 24 _ okS_13_6 hz
  have hz : okC (pgB 13) ((pgCd 13).drop 20) = true := okC_cat _ 4 20 _ okS_13_5 hz
  have hz : okC (pgB 13) ((pgCd 13).drop 16) = true := okC_cat _ 4 16 _ okS_13_4 hz
  have hz : okC (pgB 13) ((pgCd 13).drop 12) = true := okC_cat _ 4 12 _ okS_13_3 hz
  have hz : okC (pgB 13) ((pgCd 13).drop 8) = true := okC_cat _ 4 8 _ okS_13_2 hz
  have hz : okC (pgB 13) ((pgCd 13).drop 4) = true := okC_cat _ 4 4 _ okS_13_1 hz
  have hz : okC (pgB 13) ((pgCd 13).drop 0) = true := okC_cat _ 4 0 _ okS_13_0 hz
  exact hz
theorem okMid_13 : okMid 13 = true := by unfold okMid; rw [okCd_13, okM_13]; rfl
theorem okS_14_0 : okC (pgB 14) (((pgCd 14).drop 0).take 4) = true := by decide +kernel
theorem okS_14_1 : okC (pgB 14) (((pgCd 14).drop 4).take 4) = true := by decide +kernel
theorem okS_14_2 : okC (pgB 14) (((pgCd 14).drop 8).take 4) = true := by decide +kernel
theorem okS_14_3 : okC (pgB 14) (((pgCd 14).drop 12).take 2) = true := by decide +kernel
theorem okM_14 : okM (pgRw 14) = true := by decide +kernel
theorem okCd_14 : okC (pgB 14) (pgCd 14) = true := by
  have hz : okC (pgB 14) ((pgCd 14).drop 14) = true := by decide +kernel
  have hz : okC (pgB 14) ((pgCd 14).drop 12) = true := okC_cat _ 2 12 _ okS_14_3 hz
  have hz : okC (pgB 14) ((pgCd 14).drop 8) = true := okC_cat _ 4 8 _ okS_14_2 hz
  have hz : okC (pgB 14) ((pgCd 14).drop 4) = true := okC_cat _ 4 4 _ okS_14_1 hz
  have hz : okC (pgB 14) ((pgCd 14).drop 0) = true := okC_cat _ 4 0 _ okS_14_0 hz
  exact hz
theorem okMid_14 : okMid 14 = true := by unfold okMid; rw [okCd_14, okM_14]; rfl
theorem okS_15_0 : okC (pgB 15) (((pgCd 15).drop 0).take 4) = true := by decide +kernel
theorem okS_15_1 : okC (pgB 15) (((pgCd 15).drop 4).take 4) = true := by decide +kernel
theorem okS_15_2 : okC (pgB 15) (((pgCd 15).drop 8).take 4) = true := by decide +kernel
theorem okM_15 : okM (pgRw 15) = true := by decide +kernel
theorem okCd_15 : okC (pgB 15) (pgCd 15) = true := by
  have hz : okC (pgB 15) ((pgCd 15).drop 12) = true := by decide +kernel
  have hz : okC (pgB 15) ((pgCd 15).drop 8) = true := okC_cat _ 4 8 _ okS_15_2 hz
  have hz : okC (pgB 15) ((pgCd 15).drop 4) = true := okC_cat _ 4 4 _ okS_15_1 hz
  have hz : okC (pgB 15) ((pgCd 15).drop 0) = true := okC_cat _ 4 0 _ okS_15_0 hz
  exact hz
theorem okMid_15 : okMid 15 = true := by unfold okMid; rw [okCd_15, okM_15]; rfl
theorem okS_16_0 : okC (pgB 16) (((pgCd 16).drop 0).take 4) = true := by decide +kernel
theorem okS_16_1 : okC (pgB 16) (((pgCd 16).drop 4).take 4) = true := by decide +kernel
theorem okS_16_2 : okC (pgB 16) (((pgCd 16).drop 8).take 4) = true := by decide +kernel
theorem okS_16_3 : okC (pgB 16) (((pgCd 16).drop 12).take 4) = true := by decide +kernel
theorem okS_16_4 : okC (pgB 16) (((pgCd 16).drop 16).take 1) = true := by decide +kernel
theorem okM_16 : okM (pgRw 16) = true := by decide +kernel
theorem okCd_16 : okC (pgB 16) (pgCd 16) = true := by
  have hz : okC (pgB 16) ((pgCd 16).drop 17) = true := by decide +kernel
  have hz : okC (pgB 16) ((pgCd 16).drop 16) = true := okC_cat _ 1 16 _ okS_16_4 hz
  have hz : okC (pgB 16) ((pgCd 16).drop 12) = true := okC_cat _ 4 12 _ okS_16_3 hz
  have hz : okC (pgB 16) ((pgCd 16).drop 8) = true := okC_cat _ 4 8 _ okS_16_2 hz
  have hz : okC (pgB 16) ((pgCd 16).drop 4) = true := okC_cat _ 4 4 _ okS_16_1 hz
  have hz : okC (pgB 16) ((pgCd 16).drop 0) = true := okC_cat _ 4 0 _ okS_16_0 hz
  exact hz
theorem okMid_16 : okMid 16 = true := by unfold okMid; rw [okCd_16, okM_16]; rfl
theorem okS_17_0 : okC (pgB 17) (((pgCd 17).drop 0).take 4) = true := by decide +kernel
theorem okS_17_1 : okC (pgB 17) (((pgCd 17).drop 4).take 4) = true := by decide +kernel
theorem okS_17_2 : okC (pgB 17) (((pgCd 17).drop 8).take 1) = true := by decide +kernel
theorem okM_17 : okM (pgRw 17) = true := by decide +kernel
theorem okCd_17 : okC (pgB 17) (pgCd 17) = true := by
  have hz : okC (pgB 17) ((pgCd 17).drop 9) = true := by decide +kernel
  have hz : okC (pgB 17) ((pgCd 17).drop 8) = true := okC_cat _ 1 8 _ okS_17_2 hz
  have hz : okC (pgB 17) ((pgCd 17).drop 4) = true := okC_cat _ 4 4 _ okS_17_1 hz
  have hz : okC (pgB 17) ((pgCd 17).drop 0) = true := okC_cat _ 4 0 _ okS_17_0 hz
  exact hz
theorem okMid_17 : okMid 17 = true := by unfold okMid; rw [okCd_17, okM_17]; rfl
theorem okS_18_0 : okC (pgB 18) (((pgCd 18).drop 0).take 4) = true := by decide +kernel
theorem okS_18_1 : okC (pgB 18) (((pgCd 18).drop 4).take 4) = true := by decide +kernel
theorem okS_18_2 : okC (pgB 18) (((pgCd 18).drop 8).take 4) = true := by decide +kernel
theorem okS_18_3 : okC (pgB 18) (((pgCd 18).drop 12).take 2) = true := by decide +kernel
theorem okM_18 : okM (pgRw 18) = true := by decide +kernel
theorem okCd_18 : okC (pgB 18) (pgCd 18) = true := by
  have hz : okC (pgB 18) ((pgCd 18).drop 14) = true := by decide +kernel
  have hz : okC (pgB 18) ((pgCd 18).drop 12) = true := okC_cat _ 2 12 _ okS_18_3 hz
  have hz : okC (pgB 18) ((pgCd 18).drop 8) = true := okC_cat _ 4 8 _ okS_18_2 hz
  have hz : okC (pgB 18) ((pgCd 18).drop 4) = true := okC_cat _ 4 4 _ okS_18_1 hz
  have hz : okC (pgB 18) ((pgCd 18).drop 0) = true := okC_cat _ 4 0 _ okS_18_0 hz
  exact hz
theorem okMid_18 : okMid 18 = true := by unfold okMid; rw [okCd_18, okM_18]; rfl
theorem okS_19_0 : okC (pgB 19) (((pgCd 19).drop 0).take 4) = true := by decide +kernel
theorem okS_19_1 : okC (pgB 19) (((pgCd 19).drop 4).take 4) = true := by decide +kernel
theorem okS_19_2 : okC (pgB 19) (((pgCd 19).drop 8).take 4) = true := by decide +kernel
theorem okM_19 : okM (pgRw 19) = true := by decide +kernel
theorem okCd_19 : okC (pgB 19) (pgCd 19) = true := by
  have hz : okC (pgB 19) ((pgCd 19).drop 12) = true := by decide +kernel
  have hz : okC (pgB 19) ((pgCd 19).drop 8) = true := okC_cat _ 4 8 _ okS_19_2 hz
  have hz : okC (pgB 19) ((pgCd 19).drop 4) = true := okC_cat _ 4 4 _ okS_19_1 hz
  have hz : okC (pgB 19) ((pgCd 19).drop 0) = true := okC_cat _ 4 0 _ okS_19_0 hz
  exact hz
theorem okMid_19 : okMid 19 = true := by unfold okMid; rw [okCd_19, okM_19]; rfl
theorem okMid_20 : okMid 20 = true := by decide +kernel
theorem okMid_21 : okMid 21 = true := by decide +kernel
theorem okMid_22 : okMid 22 = true := by decide +kernel
theorem okMid_23 : okMid 23 = true := by decide +kernel
theorem okMid_24 : okMid 24 = true := by decide +kernel
theorem okMid_25 : okMid 25 = true := by decide +kernel
theorem okMid_26 : okMid 26 = true := by decide +kernel
theorem okS_27_0 : okC (pgB 27) (((pgCd 27).drop 0).take 4) = true := by decide +kernel
theorem okS_27_1 : okC (pgB 27) (((pgCd 27).drop 4).take 4) = true := by decide +kernel
theorem okS_27_2 : okC (pgB 27) (((pgCd 27).drop 8).take 2) = true := by decide +kernel
theorem okM_27 : okM (pgRw 27) = true := by decide +kernel
theorem okCd_27 : okC (pgB 27) (pgCd 27) = true := by
  have hz : okC (pgB 27) ((pgCd 27).drop 10) = true := by decide +kernel
  have hz : okC (pgB 27) ((pgCd 27).drop 8) = true := okC_cat _ 2 8 _ okS_27_2 hz
  have hz : okC (pgB 27) ((pgCd 27).drop 4) = true := okC_cat _ 4 4 _ okS_27_1 hz
  have hz : okC (pgB 27) ((pgCd 27).drop 0) = true := okC_cat _ 4 0 _ okS_27_0 hz
  exact hz
theorem okMid_27 : okMid 27 = true := by unfold okMid; rw [okCd_27, okM_27]; rfl
theorem okMid_28 : okMid 28 = true := by decide +kernel
theorem okMid_29 : okMid 29 = true := by decide +kernel
theorem okS_30_0 : okC (pgB 30) (((pgCd 30).drop 0).take 4) = true := by decide +kernel
theorem okS_30_1 : okC (pgB 30) (((pgCd 30).drop 4).take 4) = true := by decide +kernel
theorem okS_30_2 : okC (pgB 30) (((pgCd 30).drop 8).take 4) = true := by decide +kernel
theorem okS_30_3 : okC (pgB 30) (((pgCd 30).drop 12).take 2) = true := by decide +kernel
theorem okM_30 : okM (pgRw 30) = true := by decide +kernel
theorem okCd_30 : okC (pgB 30) (pgCd 30) = true := by
  have hz : okC (pgB 30) ((pgCd 30).drop 14) = true := by decide +kernel
  have hz : okC (pgB 30) ((pgCd 30).drop 12) = true := okC_cat _ 2 12 _ okS_30_3 hz
  have hz : okC (pgB 30) ((pgCd 30).drop 8) = true := okC_cat _ 4 8 _ okS_30_2 hz
  have hz : okC (pgB 30) ((pgCd 30).drop 4) = true := okC_cat _ 4 4 _ okS_30_1 hz
  have hz : okC (pgB 30) ((pgCd 30).drop 0) = true := okC_cat _ 4 0 _ okS_30_0 hz
  exact hz
theorem okMid_30 : okMid 30 = true := by unfold okMid; rw [okCd_30, okM_30]; rfl
theorem okMid_31 : okMid 31 = true := by decide +kernel
theorem okMid_32 : okMid 32 = true := by decide +kernel
theorem okS_33_0 : okC (pgB 33) (((pgCd 33).drop 0).take 4) = true := by decide +kernel
theorem okS_33_1 : okC (pgB 33) (((pgCd 33).drop 4).take 4) = true := by decide +kernel
theorem okS_33_2 : okC (pgB 33) (((pgCd 33).drop 8).take 4) = true := by decide +kernel
theorem okS_33_3 : okC (pgB 33) (((pgCd 33).drop 12).take 1) = true := by decide +kernel
theorem okM_33 : okM (pgRw 33) = true := by decide +kernel
theorem okCd_33 : okC (pgB 33) (pgCd 33) = true := by
  have hz : okC (pgB 33) ((pgCd 33).drop 13) = true := by decide +kernel
  have hz : okC (pgB 33) ((pgCd 33).drop 12) = true := okC_cat _ 1 12 _ okS_33_3 hz
  have hz : okC (pgB 33) ((pgCd 33).drop 8) = true := okC_cat _ 4 8 _ okS_33_2 hz
  have hz : okC (pgB 33) ((pgCd 33).drop 4) = true := okC_cat _ 4 4 _ okS_33_1 hz
  have hz : okC (pgB 33) ((pgCd 33).drop 0) = true := okC_cat _ 4 0 _ okS_33_0 hz
  exact hz
theorem okMid_33 : okMid 33 = true := by unfold okMid; rw [okCd_33, okM_33]; rfl
theorem okS_34_0 : okC (pgB 34) (((pgCd 34).drop 0).take 4) = true := by decide +kernel
theorem okS_34_1 : okC (pgB 34) (((pgCd 34).drop 4).take 4) = true := by decide +kernel
theorem okS_34_2 : okC (pgB 34) (((pgCd 34).drop 8).take 4) = true := by decide +kernel
theorem okS_34_3 : okC (pgB 34) (((pgCd 34).drop 12).take 4) = true := by decide +kernel
theorem okS_34_4 : okC (pgB 34) (((pgCd 34).drop 16).take 2) = true := by decide +kernel
theorem okM_34 : okM (pgRw 34) = true := by decide +kernel
theorem okCd_34 : okC (pgB 34) (pgCd 34) = true := by
  have hz : okC (pgB 34) ((pgCd 34).drop 18) = true := by decide +kernel
  have hz : okC (pgB 34) ((pgCd 34).drop 16) = true := okC_cat _ 2 16 _ okS_34_4 hz
  have hz : okC (pgB 34) ((pgCd 34).drop 12) = true := okC_cat _ 4 12 _ okS_34_3 hz
  have hz : okC (pgB 34) ((pgCd 34).drop 8) = true := okC_cat _ 4 8 _ okS_34_2 hz
  have hz : okC (pgB 34) ((pgCd 34).drop 4) = true := okC_cat _ 4 4 _ okS_34_1 hz
  have hz : okC (pgB 34) ((pgCd 34).drop 0) = true := okC_cat _ 4 0 _ okS_34_0 hz
  exact hz
theorem okMid_34 : okMid 34 = true := by unfold okMid; rw [okCd_34, okM_34]; rfl
end
section
theorem okS_35_0 : okC (pgB 35) (((pgCd 35).drop 0).take 4) = true := by decide +kernel
theorem okS_35_1 : okC (pgB 35) (((pgCd 35).drop 4).take 4) = true := by decide +kernel
theorem okS_35_2 : okC (pgB 35) (((pgCd 35).drop 8).take 1) = true := by decide +kernel
theorem okM_35 : okM (pgRw 35) = true := by decide +kernel
theorem okCd_35 : okC (pgB 35) (pgCd 35) = true := by
  have hz : okC (pgB 35) ((pgCd 35).drop 9) = true := by decide +kernel
  have hz : okC (pgB 35) ((pgCd 35).drop 8) = true := okC_cat _ 1 8 _ okS_35_2 hz
  have hz : okC (pgB 35) ((pgCd 35).drop 4) = true := okC_cat _ 4 4 _ okS_35_1 hz
  have hz : okC (pgB 35) ((pgCd 35).drop 0) = true := okC_cat _ 4 0 _ okS_35_0 hz
  exact hz
theorem okMid_35 : okMid 35 = true := by unfold okMid; rw [okCd_35, okM_35]; rfl
theorem okMid_36 : okMid 36 = true := by decide +kernel
theorem okMid_37 : okMid 37 = true := by decide +kernel
theorem okMid_38 : okMid 38 = true := by decide +kernel
theorem okS_39_0 : okC (pgB 39) (((pgCd 39).drop 0).take 4) = true := by decide +kernel
theorem okS_39_1 : okC (pgB 39) (((pgCd 39).drop 4).take 4) = true := by decide +kernel
theorem okS_39_2 : okC (pgB 39) (((pgCd 39).drop 8).take 4) = true := by decide +kernel
theorem okS_39_3 : okC (pgB 39) (((pgCd 39).drop 12).take 4) = true := by decide +kernel
theorem okS_39_4 : okC (pgB 39) (((pgCd 39).drop 16).take 4) = true := by decide +kernel
theorem okS_39_5 : okC (pgB 39) (((pgCd 39).drop 20).take 4) = true := by decide +kernel
theorem okS_39_6 : okC (pgB 39) (((pgCd 39).drop 24).take 4) = true := by decide +kernel
theorem okS_39_7 : okC (pgB 39) (((pgCd 39).drop 28).take 4) = true := by decide +kernel
theorem okS_39_8 : okC (pgB 39) (((pgCd 39).drop 32).take 4) = true := by decide +kernel
theorem okS_39_9 : okC (pgB 39) (((pgCd 39).drop 36).take 4) = true := by decide +kernel
theorem okS_39_10 : okC (pgB 39) (((pgCd 39).drop 40).take 4) = true := by decide +kernel
theorem okS_39_11 : okC (pgB 39) (((pgCd 39).drop 44).take 2) = true := by decide +kernel
theorem okM_39 : okM (pgRw 39) = true := by decide +kernel
theorem okCd_39 : okC (pgB 39) (pgCd 39) = true := by
  have hz : okC (pgB 39) ((pgCd 39).drop 46) = true := by decide +kernel
  have hz : okC (pgB 39) ((pgCd 39).drop 44) = true := okC_cat _ 2 44 _ okS_39_11 hz
  have hz : okC (pgB 39) ((pgCd 39).drop 40) = true := okC_cat _ 4 40 _ okS_39_10 hz
  have hz : okC (pgB 39) ((pgCd 39).drop 36) = true := okC_cat _ 4 36 _ okS_39_9 hz
  have hz : okC (pgB 39) ((pgCd 39).drop 32) = true := okC_cat _ 4 32 _ okS_39_8 hz
  have hz : okC (pgB 39) ((pgCd 39).drop 28) = true := okC_cat _ 4 28 _ okS_39_7 hz
  have hz : okC (pgB 39) ((pgCd 39).drop 24) = true := okC_cat _ 4 24 _ okS_39_6 hz
  have hz : okC (pgB 39) ((pgCd 39).drop 20) = true := okC_cat _ 4 20 _ okS_39_5 hz
  have hz : okC (pgB 39) ((pgCd 39).drop 16) = true := okC_cat _ 4 16 _ okS_39_4 hz
  have hz : okC (pgB 39) ((pgCd 39).drop 12) = true := okC_cat _ 4 12 _ okS_39_3 hz
  have hz : okC (pgB 39) ((pgCd 39).drop 8) = true := okC_cat _ 4 8 _ okS_39_2 hz
  have hz : okC (pgB 39) ((pgCd 39).drop 4) = true := okC_cat _ 4 4 _ okS_39_1 hz
  have hz : okC (pgB 39) ((pgCd 39).drop 0) = true := okC_cat _ 4 0 _ okS_39_0 hz
  exact hz
theorem okMid_39 : okMid 39 = true := by unfold okMid; rw [okCd_39, okM_39]; rfl
theorem okMid_40 : okMid 40 = true := by decide +kernel
theorem okMid_41 : okMid 41 = true := by decide +kernel
theorem okMid_42 : okMid 42 = true := by decide +kernel
theorem okMid_43 : okMid 43 = true := by decide +kernel
theorem okS_44_0 : okC (pgB 44) (((pgCd 44).drop 0).take 4) = true := by decide +kernel
theorem okS_44_1 : okC (pgB 44) (((pgCd 44).drop 4).take 4) = true := by decide +kernel
theorem okS_44_2 : okC (pgB 44) (((pgCd 44).drop 8).take 1) = true := by decide +kernel
theorem okM_44 : okM (pgRw 44) = true := by decide +kernel
theorem okCd_44 : okC (pgB 44) (pgCd 44) = true := by
  have hz : okC (pgB 44) ((pgCd 44).drop 9) = true := by decide +kernel
  have hz : okC (pgB 44) ((pgCd 44).drop 8) = true := okC_cat _ 1 8 _ okS_44_2 hz
  have hz : okC (pgB 44) ((pgCd 44).drop 4) = true := okC_cat _ 4 4 _ okS_44_1 hz
  have hz : okC (pgB 44) ((pgCd 44).drop 0) = true := okC_cat _ 4 0 _ okS_44_0 hz
  exact hz
theorem okMid_44 : okMid 44 = true := by unfold okMid; rw [okCd_44, okM_44]; rfl
theorem okMid_45 : okMid 45 = true := by decide +kernel
theorem okS_46_0 : okC (pgB 46) (((pgCd 46).drop 0).take 4) = true := by decide +kernel
theorem okS_46_1 : okC (pgB 46) (((pgCd 46).drop 4).take 4) = true := by decide +kernel
theorem okS_46_2 : okC (pgB 46) (((pgCd 46).drop 8).take 1) = true := by decide +kernel
theorem okM_46 : okM (pgRw 46) = true := by decide +kernel
theorem okCd_46 : okC (pgB 46) (pgCd 46) = true := by
  have hz : okC (pgB 46) ((pgCd 46).drop 9) = true := by decide +kernel
  have hz : okC (pgB 46) ((pgCd 46).drop 8) = true := okC_cat _ 1 8 _ okS_46_2 hz
  have hz : okC (pgB 46) ((pgCd 46).drop 4) = true := okC_cat _ 4 4 _ okS_46_1 hz
  have hz : okC (pgB 46) ((pgCd 46).drop 0) = true := okC_cat _ 4 0 _ okS_46_0 hz
  exact hz
theorem okMid_46 : okMid 46 = true := by unfold okMid; rw [okCd_46, okM_46]; rfl
theorem okMid_47 : okMid 47 = true := by decide +kernel
theorem okMid_48 : okMid 48 = true := by decide +kernel
theorem okMid_49 : okMid 49 = true := by decide +kernel
theorem okMid_50 : okMid 50 = true := by decide +kernel
theorem okMid_51 : okMid 51 = true := by decide +kernel
theorem okMid_52 : okMid 52 = true := by decide +kernel
theorem okMid_53 : okMid 53 = true := by decide +kernel
theorem okMid_54 : okMid 54 = true := by decide +kernel
theorem okS_55_0 : okC (pgB 55) (((pgCd 55).drop 0).take 4) = true := by decide +kernel
theorem okS_55_1 : okC (pgB 55) (((pgCd 55).drop 4).take 4) = true := by decide +kernel
theorem okS_55_2 : okC (pgB 55) (((pgCd 55).drop 8).take 1) = true := by decide +kernel
theorem okM_55 : okM (pgRw 55) = true := by decide +kernel
theorem okCd_55 : okC (pgB 55) (pgCd 55) = true := by
  have hz : okC (pgB 55) ((pgCd 55).drop 9) = true := by decide +kernel
  have hz : okC (pgB 55) ((pgCd 55).drop 8) = true := okC_cat _ 1 8 _ okS_55_2 hz
  have hz : okC (pgB 55) ((pgCd 55).drop 4) = true := okC_cat _ 4 4 _ okS_55_1 hz
  have hz : okC (pgB 55) ((pgCd 55).drop 0) = true := okC_cat _ 4 0 _ okS_55_0 hz
  exact hz
theorem okMid_55 : okMid 55 = true := by unfold okMid; rw [okCd_55, okM_55]; rfl
theorem okMid_56 : okMid 56 = true := by decide +kernel
theorem okMid_57 : okMid 57 = true := by decide +kernel
theorem okS_58_0 : okC (pgB 58) (((pgCd 58).drop 0).take 4) = true := by decide +kernel
theorem okS_58_1 : okC (pgB 58) (((pgCd 58).drop 4).take 4) = true := by decide +kernel
theorem okS_58_2 : okC (pgB 58) (((pgCd 58).drop 8).take 2) = true := by decide +kernel
theorem okM_58 : okM (pgRw 58) = true := by decide +kernel
theorem okCd_58 : okC (pgB 58) (pgCd 58) = true := by
  have hz : okC (pgB 58) ((pgCd 58).drop 10) = true := by decide +kernel
  have hz : okC (pgB 58) ((pgCd 58).drop 8) = true := okC_cat _ 2 8 _ okS_58_2 hz
  have hz : okC (pgB 58) ((pgCd 58).drop 4) = true := okC_cat _ 4 4 _ okS_58_1 hz
  have hz : okC (pgB 58) ((pgCd 58).drop 0) = true := okC_cat _ 4 0 _ okS_58_0 hz
  exact hz
theorem okMid_58 : okMid 58 = true := by unfold okMid; rw [okCd_58, okM_58]; rfl
theorem okS_59_0 : okC (pgB 59) (((pgCd 59).drop 0).take 4) = true := by decide +kernel
theorem okS_59_1 : okC (pgB 59) (((pgCd 59).drop 4).take 4) = true := by decide +kernel
theorem okS_59_2 : okC (pgB 59) (((pgCd 59).drop 8).take 4) = true := by decide +kernel
theorem okS_59_3 : okC (pgB 59) (((pgCd 59).drop 12).take 4) = true := by decide +kernel
theorem okS_59_4 : okC (pgB 59) (((pgCd 59).drop 16).take 4) = true := by decide +kernel
theorem okS_59_5 : okC (pgB 59) (((pgCd 59).drop 20).take 3) = true := by decide +kernel
theorem okM_59 : okM (pgRw 59) = true := by decide +kernel
theorem okCd_59 : okC (pgB 59) (pgCd 59) = true := by
  have hz : okC (pgB 59) ((pgCd 59).drop 23) = true := by decide +kernel
  have hz : okC (pgB 59) ((pgCd 59).drop 20) = true := okC_cat _ 3 20 _ okS_59_5 hz
  have hz : okC (pgB 59) ((pgCd 59).drop 16) = true := okC_cat _ 4 16 _ okS_59_4 hz
  have hz : okC (pgB 59) ((pgCd 59).drop 12) = true := okC_cat _ 4 12 _ okS_59_3 hz
  have hz : okC (pgB 59) ((pgCd 59).drop 8) = true := okC_cat _ 4 8 _ okS_59_2 hz
  have hz : okC (pgB 59) ((pgCd 59).drop 4) = true := okC_cat _ 4 4 _ okS_59_1 hz
  have hz : okC (pgB 59) ((pgCd 59).drop 0) = true := okC_cat _ 4 0 _ okS_59_0 hz
  exact hz
theorem okMid_59 : okMid 59 = true := by unfold okMid; rw [okCd_59, okM_59]; rfl
theorem okS_60_0 : okC (pgB 60) (((pgCd 60).drop 0).take 4) = true := by decide +kernel
theorem okS_60_1 : okC (pgB 60) (((pgCd 60).drop 4).take 4) = true := by decide +kernel
theorem okS_60_2 : okC (pgB 60) (((pgCd 60).drop 8).take 2) = true := by decide +kernel
theorem okM_60 : okM (pgRw 60) = true := by decide +kernel
theorem okCd_60 : okC (pgB 60) (pgCd 60) = true := by
  have hz : okC (pgB 60) ((pgCd 60).drop 10) = true := by decide +kernel
  have hz : okC (pgB 60) ((pgCd 60).drop 8) = true := okC_cat _ 2 8 _ okS_60_2 hz
  have hz : okC (pgB 60) ((pgCd 60).drop 4) = true := okC_cat _ 4 4 _ okS_60_1 hz
  have hz : okC (pgB 60) ((pgCd 60).drop 0) = true := okC_cat _ 4 0 _ okS_60_0 hz
  exact hz
theorem okMid_60 : okMid 60 = true := by unfold okMid; rw [okCd_60, okM_60]; rfl
theorem okS_61_0 : okC (pgB 61) (((pgCd 61).drop 0).take 4) = true := by decide +kernel
theorem okS_61_1 : okC (pgB 61) (((pgCd 61).drop 4).take 4) = true := by decide +kernel
theorem okM_61 : okM (pgRw 61) = true := by decide +kernel
theorem okCd_61 : okC (pgB 61) (pgCd 61) = true := by
  have hz : okC (pgB 61) ((pgCd 61).drop 8) = true := by decide +kernel
  have hz : okC (pgB 61) ((pgCd 61).drop 4) = true := okC_cat _ 4 4 _ okS_61_1 hz
  have hz : okC (pgB 61) ((pgCd 61).drop 0) = true := okC_cat _ 4 0 _ okS_61_0 hz
  exact hz
theorem okMid_61 : okMid 61 = true := by unfold okMid; rw [okCd_61, okM_61]; rfl
theorem okS_62_0 : okC (pgB 62) (((pgCd 62).drop 0).take 4) = true := by decide +kernel
theorem okS_62_1 : okC (pgB 62) (((pgCd 62).drop 4).take 4) = true := by decide +kernel
theorem okS_62_2 : okC (pgB 62) (((pgCd 62).drop 8).take 4) = true := by decide +kernel
theorem okM_62 : okM (pgRw 62) = true := by decide +kernel
theorem okCd_62 : okC (pgB 62) (pgCd 62) = true := by
  have hz : okC (pgB 62) ((pgCd 62).drop 12) = true := by decide +kernel
  have hz : okC (pgB 62) ((pgCd 62).drop 8) = true := okC_cat _ 4 8 _ okS_62_2 hz
  have hz : okC (pgB 62) ((pgCd 62).drop 4) = true := okC_cat _ 4 4 _ okS_62_1 hz
  have hz : okC (pgB 62) ((pgCd 62).drop 0) = true := okC_cat _ 4 0 _ okS_62_0 hz
  exact hz
theorem okMid_62 : okMid 62 = true := by unfold okMid; rw [okCd_62, okM_62]; rfl
theorem okS_63_0 : okC (pgB 63) (((pgCd 63).drop 0).take 4) = true := by decide +kernel
theorem okS_63_1 : okC (pgB 63) (((pgCd 63).drop 4).take 4) = true := by decide +kernel
theorem okS_63_2 : okC (pgB 63) (((pgCd 63).drop 8).take 2) = true := by decide +kernel
theorem okM_63 : okM (pgRw 63) = true := by decide +kernel
theorem okCd_63 : okC (pgB 63) (pgCd 63) = true := by
  have hz : okC (pgB 63) ((pgCd 63).drop 10) = true := by decide +kernel
  have hz : okC (pgB 63) ((pgCd 63).drop 8) = true := okC_cat _ 2 8 _ okS_63_2 hz
  have hz : okC (pgB 63) ((pgCd 63).drop 4) = true := okC_cat _ 4 4 _ okS_63_1 hz
  have hz : okC (pgB 63) ((pgCd 63).drop 0) = true := okC_cat _ 4 0 _ okS_63_0 hz
  exact hz
theorem okMid_63 : okMid 63 = true := by unfold okMid; rw [okCd_63, okM_63]; rfl
theorem okS_64_0 : okC (pgB 64) (((pgCd 64).drop 0).take 4) = true := by decide +kernel
theorem okS_64_1 : okC (pgB 64) (((pgCd 64).drop 4).take 4) = true := by decide +kernel
theorem okS_64_2 : okC (pgB 64) (((pgCd 64).drop 8).take 4) = true := by decide +kernel
theorem okS_64_3 : okC (pgB 64) (((pgCd 64).drop 12).take 1) = true := by decide +kernel
theorem okM_64 : okM (pgRw 64) = true := by decide +kernel
theorem okCd_64 : okC (pgB 64) (pgCd 64) = true := by
  have hz : okC (pgB 64) ((pgCd 64).drop 13) = true := by decide +kernel
  have hz : okC (pgB 64) ((pgCd 64).drop 12) = true := okC_cat _ 1 12 _ okS_64_3 hz
  have hz : okC (pgB 64) ((pgCd 64).drop 8) = true := okC_cat _ 4 8 _ okS_64_2 hz
  have hz : okC (pgB 64) ((pgCd 64).drop 4) = true := okC_cat _ 4 4 _ okS_64_1 hz
  have hz : okC (pgB 64) ((pgCd 64).drop 0) = true := okC_cat _ 4 0 _ okS_64_0 hz
  exact hz
theorem okMid_64 : okMid 64 = true := by unfold okMid; rw [okCd_64, okM_64]; rfl
theorem okS_65_0 : okC (pgB 65) (((pgCd 65).drop 0).take 4) = true := by decide +kernel
theorem okS_65_1 : okC (pgB 65) (((pgCd 65).drop 4).take 4) = true := by decide +kernel
theorem okM_65 : okM (pgRw 65) = true := by decide +kernel
theorem okCd_65 : okC (pgB 65) (pgCd 65) = true := by
  have hz : okC (pgB 65) ((pgCd 65).drop 8) = true := by decide +kernel
  have hz : okC (pgB 65) ((pgCd 65).drop 4) = true := okC_cat _ 4 4 _ okS_65_1 hz
  have hz : okC (pgB 65) ((pgCd 65).drop 0) = true := okC_cat _ 4 0 _ okS_65_0 hz
  exact hz
theorem okMid_65 : okMid 65 = true := by unfold okMid; rw [okCd_65, okM_65]; rfl
theorem okMid_66 : okMid 66 = true := by decide +kernel
theorem okS_67_0 : okC (pgB 67) (((pgCd 67).drop 0).take 4) = true := by decide +kernel
theorem okS_67_1 : okC (pgB 67) (((pgCd 67).drop 4).take 4) = true := by decide +kernel
theorem okS_67_2 : okC (pgB 67) (((pgCd 67).drop 8).take 4) = true := by decide +kernel
theorem okS_67_3 : okC (pgB 67) (((pgCd 67).drop 12).take 4) = true := by decide +kernel
theorem okS_67_4 : okC (pgB 67) (((pgCd 67).drop 16).take 1) = true := by decide +kernel
theorem okM_67 : okM (pgRw 67) = true := by decide +kernel
theorem okCd_67 : okC (pgB 67) (pgCd 67) = true := by
  have hz : okC (pgB 67) ((pgCd 67).drop 17) = true := by decide +kernel
  have hz : okC (pgB 67) ((pgCd 67).drop 16) = true := okC_cat _ 1 16 _ okS_67_4 hz
  have hz : okC (pgB 67) ((pgCd 67).drop 12) = true := okC_cat _ 4 12 _ okS_67_3 hz
  have hz : okC (pgB 67) ((pgCd 67).drop 8) = true := okC_cat _ 4 8 _ okS_67_2 hz
  have hz : okC (pgB 67) ((pgCd 67).drop 4) = true := okC_cat _ 4 4 _ okS_67_1 hz
  have hz : okC (pgB 67) ((pgCd 67).drop 0) = true := okC_cat _ 4 0 _ okS_67_0 hz
  exact hz
theorem okMid_67 : okMid 67 = true := by unfold okMid; rw [okCd_67, okM_67]; rfl
theorem okMid_68 : okMid 68 = true := by decide +kernel
theorem okS_69_0 : okC (pgB 69) (((pgCd 69).drop 0).take 4) = true := by decide +kernel
theorem okS_69_1 : okC (pgB 69) (((pgCd 69).drop 4).take 4) = true := by decide +kernel
theorem okS_69_2 : okC (pgB 69) (((pgCd 69).drop 8).take 4) = true := by decide +kernel
theorem okS_69_3 : okC (pgB 69) (((pgCd 69).drop 12).take 3) = true := by decide +kernel
theorem okM_69 : okM (pgRw 69) = true := by decide +kernel
theorem okCd_69 : okC (pgB 69) (pgCd 69) = true := by
  have hz : okC (pgB 69) ((pgCd 69).drop 15) = true := by decide +kernel
  have hz : okC (pgB 69) ((pgCd 69).drop 12) = true := okC_cat _ 3 12 _ okS_69_3 hz
  have hz : okC (pgB 69) ((pgCd 69).drop 8) = true := okC_cat _ 4 8 _ okS_69_2 hz
  have hz : okC (pgB 69) ((pgCd 69).drop 4) = true := okC_cat _ 4 4 _ okS_69_1 hz
  have hz : okC (pgB 69) ((pgCd 69).drop 0) = true := okC_cat _ 4 0 _ okS_69_0 hz
  exact hz
theorem okMid_69 : okMid 69 = true := by unfold okMid; rw [okCd_69, okM_69]; rfl
theorem okS_70_0 : okC (pgB 70) (((pgCd 70).drop 0).take 4) = true := by decide +kernel
theorem okS_70_1 : okC (pgB 70) (((pgCd 70).drop 4).take 4) = true := by decide +kernel
theorem okS_70_2 : okC (pgB 70) (((pgCd 70).drop 8).take 4) = true := by decide +kernel
theorem okS_70_3 : okC (pgB 70) (((pgCd 70).drop 12).take 4) = true := by decide +kernel
theorem okS_70_4 : okC (pgB 70) (((pgCd 70).drop 16).take 4) = true := by decide +kernel
theorem okM_70 : okM (pgRw 70) = true := by decide +kernel
theorem okCd_70 : okC (pgB 70) (pgCd 70) = true := by
  have hz : okC (pgB 70) ((pgCd 70).drop 20) = true := by decide +kernel
  have hz : okC (pgB 70) ((pgCd 70).drop 16) = true := okC_cat _ 4 16 _ okS_70_4 hz
  have hz : okC (pgB 70) ((pgCd 70).drop 12) = true := okC_cat _ 4 12 _ okS_70_3 hz
  have hz : okC (pgB 70) ((pgCd 70).drop 8) = true := okC_cat _ 4 8 _ okS_70_2 hz
  have hz : okC (pgB 70) ((pgCd 70).drop 4) = true := okC_cat _ 4 4 _ okS_70_1 hz
  have hz : okC (pgB 70) ((pgCd 70).drop 0) = true := okC_cat _ 4 0 _ okS_70_0 hz
  exact hz
theorem okMid_70 : okMid 70 = true := by unfold okMid; rw [okCd_70, okM_70]; rfl
end
section
theorem okS_71_0 : okC (pgB 71) (((pgCd 71).drop 0).take 4) = true := by decide +kernel
theorem okS_71_1 : okC (pgB 71) (((pgCd 71).drop 4).take 4) = true := by decide +kernel
theorem okS_71_2 : okC (pgB 71) (((pgCd 71).drop 8).take 4) = true := by decide +kernel
theorem okM_71 : okM (pgRw 71) = true := by decide +kernel
theorem okCd_71 : okC (pgB 71) (pgCd 71) = true := by
  have hz : okC (pgB 71) ((pgCd 71).drop 12) = true := by decide +kernel
  have hz : okC (pgB 71) ((pgCd 71).drop 8) = true := okC_cat _ 4 8 _ okS_71_2 hz
  have hz : okC (pgB 71) ((pgCd 71).drop 4) = true := okC_cat _ 4 4 _ okS_71_1 hz
  have hz : okC (pgB 71) ((pgCd 71).drop 0) = true := okC_cat _ 4 0 _ okS_71_0 hz
  exact hz
theorem okMid_71 : okMid 71 = true := by unfold okMid; rw [okCd_71, okM_71]; rfl
theorem okS_72_0 : okC (pgB 72) (((pgCd 72).drop 0).take 4) = true := by decide +kernel
theorem okS_72_1 : okC (pgB 72) (((pgCd 72).drop 4).take 4) = true := by decide +kernel
theorem okS_72_2 : okC (pgB 72) (((pgCd 72).drop 8).take 1) = true := by decide +kernel
theorem okM_72 : okM (pgRw 72) = true := by decide +kernel
theorem okCd_72 : okC (pgB 72) (pgCd 72) = true := by
  have hz : okC (pgB 72) ((pgCd 72).drop 9) = true := by decide +kernel
  have hz : okC (pgB 72) ((pgCd 72).drop 8) = true := okC_cat _ 1 8 _ okS_72_2 hz
  have hz : okC (pgB 72) ((pgCd 72).drop 4) = true := okC_cat _ 4 4 _ okS_72_1 hz
  have hz : okC (pgB 72) ((pgCd 72).drop 0) = true := okC_cat _ 4 0 _ okS_72_0 hz
  exact hz
theorem okMid_72 : okMid 72 = true := by unfold okMid; rw [okCd_72, okM_72]; rfl
theorem okMid_73 : okMid 73 = true := by decide +kernel
theorem okMid_74 : okMid 74 = true := by decide +kernel
theorem okS_75_0 : okC (pgB 75) (((pgCd 75).drop 0).take 4) = true := by decide +kernel
theorem okS_75_1 : okC (pgB 75) (((pgCd 75).drop 4).take 4) = true := by decide +kernel
theorem okS_75_2 : okC (pgB 75) (((pgCd 75).drop 8).take 1) = true := by decide +kernel
theorem okM_75 : okM (pgRw 75) = true := by decide +kernel
theorem okCd_75 : okC (pgB 75) (pgCd 75) = true := by
  have hz : okC (pgB 75) ((pgCd 75).drop 9) = true := by decide +kernel
  have hz : okC (pgB 75) ((pgCd 75).drop 8) = true := okC_cat _ 1 8 _ okS_75_2 hz
  have hz : okC (pgB 75) ((pgCd 75).drop 4) = true := okC_cat _ 4 4 _ okS_75_1 hz
  have hz : okC (pgB 75) ((pgCd 75).drop 0) = true := okC_cat _ 4 0 _ okS_75_0 hz
  exact hz
theorem okMid_75 : okMid 75 = true := by unfold okMid; rw [okCd_75, okM_75]; rfl
theorem okMid_76 : okMid 76 = true := by decide +kernel
theorem okS_77_0 : okC (pgB 77) (((pgCd 77).drop 0).take 4) = true := by decide +kernel
theorem okS_77_1 : okC (pgB 77) (((pgCd 77).drop 4).take 4) = true := by decide +kernel
theorem okS_77_2 : okC (pgB 77) (((pgCd 77).drop 8).take 4) = true := by decide +kernel
theorem okS_77_3 : okC (pgB 77) (((pgCd 77).drop 12).take 4) = true := by decide +kernel
theorem okS_77_4 : okC (pgB 77) (((pgCd 77).drop 16).take 4) = true := by decide +kernel
theorem okS_77_5 : okC (pgB 77) (((pgCd 77).drop 20).take 4) = true := by decide +kernel
theorem okS_77_6 : okC (pgB 77) (((pgCd 77).drop 24).take 1) = true := by decide +kernel
theorem okM_77 : okM (pgRw 77) = true := by decide +kernel
theorem okCd_77 : okC (pgB 77) (pgCd 77) = true := by
  have hz : okC (pgB 77) ((pgCd 77).drop 25) = true := by decide +kernel
  have hz : okC (pgB 77) ((pgCd 77).drop 24) = true := okC_cat _ 1 24 _ okS_77_6 hz
  have hz : okC (pgB 77) ((pgCd 77).drop 20) = true := okC_cat _ 4 20 _ okS_77_5 hz
  have hz : okC (pgB 77) ((pgCd 77).drop 16) = true := okC_cat _ 4 16 _ okS_77_4 hz
  have hz : okC (pgB 77) ((pgCd 77).drop 12) = true := okC_cat _ 4 12 _ okS_77_3 hz
  have hz : okC (pgB 77) ((pgCd 77).drop 8) = true := okC_cat _ 4 8 _ okS_77_2 hz
  have hz : okC (pgB 77) ((pgCd 77).drop 4) = true := okC_cat _ 4 4 _ okS_77_1 hz
  have hz : okC (pgB 77) ((pgCd 77).drop 0) = true := okC_cat _ 4 0 _ okS_77_0 hz
  exact hz
theorem okMid_77 : okMid 77 = true := by unfold okMid; rw [okCd_77, okM_77]; rfl
theorem okS_78_0 : okC (pgB 78) (((pgCd 78).drop 0).take 4) = true := by decide +kernel
theorem okS_78_1 : okC (pgB 78) (((pgCd 78).drop 4).take 4) = true := by decide +kernel
theorem okS_78_2 : okC (pgB 78) (((pgCd 78).drop 8).take 2) = true := by decide +kernel
theorem okM_78 : okM (pgRw 78) = true := by decide +kernel
theorem okCd_78 : okC (pgB 78) (pgCd 78) = true := by
  have hz : okC (pgB 78) ((pgCd 78).drop 10) = true := by decide +kernel
  have hz : okC (pgB 78) ((pgCd 78).drop 8) = true := okC_cat _ 2 8 _ okS_78_2 hz
  have hz : okC (pgB 78) ((pgCd 78).drop 4) = true := okC_cat _ 4 4 _ okS_78_1 hz
  have hz : okC (pgB 78) ((pgCd 78).drop 0) = true := okC_cat _ 4 0 _ okS_78_0 hz
  exact hz
theorem okMid_78 : okMid 78 = true := by unfold okMid; rw [okCd_78, okM_78]; rfl
theorem okMid_79 : okMid 79 = true := by decide +kernel
theorem okMid_80 : okMid 80 = true := by decide +kernel
theorem okS_81_0 : okC (pgB 81) (((pgCd 81).drop 0).take 4) = true := by decide +kernel
theorem okS_81_1 : okC (pgB 81) (((pgCd 81).drop 4).take 4) = true := by decide +kernel
theorem okM_81 : okM (pgRw 81) = true := by decide +kernel
theorem okCd_81 : okC (pgB 81) (pgCd 81) = true := by
  have hz : okC (pgB 81) ((pgCd 81).drop 8) = true := by decide +kernel
  have hz : okC (pgB 81) ((pgCd 81).drop 4) = true := okC_cat _ 4 4 _ okS_81_1 hz
  have hz : okC (pgB 81) ((pgCd 81).drop 0) = true := okC_cat _ 4 0 _ okS_81_0 hz
  exact hz
theorem okMid_81 : okMid 81 = true := by unfold okMid; rw [okCd_81, okM_81]; rfl
theorem okS_82_0 : okC (pgB 82) (((pgCd 82).drop 0).take 4) = true := by decide +kernel
theorem okS_82_1 : okC (pgB 82) (((pgCd 82).drop 4).take 4) = true := by decide +kernel
theorem okS_82_2 : okC (pgB 82) (((pgCd 82).drop 8).take 4) = true := by decide +kernel
theorem okM_82 : okM (pgRw 82) = true := by decide +kernel
theorem okCd_82 : okC (pgB 82) (pgCd 82) = true := by
  have hz : okC (pgB 82) ((pgCd 82).drop 12) = true := by decide +kernel
  have hz : okC (pgB 82) ((pgCd 82).drop 8) = true := okC_cat _ 4 8 _ okS_82_2 hz
  have hz : okC (pgB 82) ((pgCd 82).drop 4) = true := okC_cat _ 4 4 _ okS_82_1 hz
  have hz : okC (pgB 82) ((pgCd 82).drop 0) = true := okC_cat _ 4 0 _ okS_82_0 hz
  exact hz
theorem okMid_82 : okMid 82 = true := by unfold okMid; rw [okCd_82, okM_82]; rfl
theorem okMid_83 : okMid 83 = true := by decide +kernel
theorem okMid_84 : okMid 84 = true := by decide +kernel
theorem okMid_85 : okMid 85 = true := by decide +kernel
theorem okS_86_0 : okC (pgB 86) (((pgCd 86).drop 0).take 4) = true := by decide +kernel
theorem okS_86_1 : okC (pgB 86) (((pgCd 86).drop 4).take 4) = true := by decide +kernel
theorem okS_86_2 : okC (pgB 86) (((pgCd 86).drop 8).take 4) = true := by decide +kernel
theorem okS_86_3 : okC (pgB 86) (((pgCd 86).drop 12).take 1) = true := by decide +kernel
theorem okM_86 : okM (pgRw 86) = true := by decide +kernel
theorem okCd_86 : okC (pgB 86) (pgCd 86) = true := by
  have hz : okC (pgB 86) ((pgCd 86).drop 13) = true := by decide +kernel
  have hz : okC (pgB 86) ((pgCd 86).drop 12) = true := okC_cat _ 1 12 _ okS_86_3 hz
  have hz : okC (pgB 86) ((pgCd 86).drop 8) = true := okC_cat _ 4 8 _ okS_86_2 hz
  have hz : okC (pgB 86) ((pgCd 86).drop 4) = true := okC_cat _ 4 4 _ okS_86_1 hz
  have hz : okC (pgB 86) ((pgCd 86).drop 0) = true := okC_cat _ 4 0 _ okS_86_0 hz
  exact hz
theorem okMid_86 : okMid 86 = true := by unfold okMid; rw [okCd_86, okM_86]; rfl
theorem okS_87_0 : okC (pgB 87) (((pgCd 87).drop 0).take 4) = true := by decide +kernel
theorem okS_87_1 : okC (pgB 87) (((pgCd 87).drop 4).take 4) = true := by decide +kernel
theorem okS_87_2 : okC (pgB 87) (((pgCd 87).drop 8).take 4) = true := by decide +kernel
theorem okS_87_3 : okC (pgB 87) (((pgCd 87).drop 12).take 4) = true := by decide +kernel
theorem okM_87 : okM (pgRw 87) = true := by decide +kernel
theorem okCd_87 : okC (pgB 87) (pgCd 87) = true := by
  have hz : okC (pgB 87) ((pgCd 87).drop 16) = true := by decide +kernel
  have hz : okC (pgB 87) ((pgCd 87).drop 12) = true := okC_cat _ 4 12 _ okS_87_3 hz
  have hz : okC (pgB 87) ((pgCd 87).drop 8) = true := okC_cat _ 4 8 _ okS_87_2 hz
  have hz : okC (pgB 87) ((pgCd 87).drop 4) = true := okC_cat _ 4 4 _ okS_87_1 hz
  have hz : okC (pgB 87) ((pgCd 87).drop 0) = true := okC_cat _ 4 0 _ okS_87_0 hz
  exact hz
theorem okMid_87 : okMid 87 = true := by unfold okMid; rw [okCd_87, okM_87]; rfl
theorem okS_88_0 : okC (pgB 88) (((pgCd 88).drop 0).take 4) = true := by decide +kernel
theorem okS_88_1 : okC (pgB 88) (((pgCd 88).drop 4).take 4) = true := by decide +kernel
theorem okS_88_2 : okC (pgB 88) (((pgCd 88).drop 8).take 4) = true := by decide +kernel
theorem okS_88_3 : okC (pgB 88) (((pgCd 88).drop 12).take 4) = true := by decide +kernel
theorem okS_88_4 : okC (pgB 88) (((pgCd 88).drop 16).take 4) = true := by decide +kernel
theorem okS_88_5 : okC (pgB 88) (((pgCd 88).drop 20).take 3) = true := by decide +kernel
theorem okM_88 : okM (pgRw 88) = true := by decide +kernel
theorem okCd_88 : okC (pgB 88) (pgCd 88) = true := by
  have hz : okC (pgB 88) ((pgCd 88).drop 23) = true := by decide +kernel
  have hz : okC (pgB 88) ((pgCd 88).drop 20) = true := okC_cat _ 3 20 _ okS_88_5 hz
  have hz : okC (pgB 88) ((pgCd 88).drop 16) = true := okC_cat _ 4 16 _ okS_88_4 hz
  have hz : okC (pgB 88) ((pgCd 88).drop 12) = true := okC_cat _ 4 12 _ okS_88_3 hz
  have hz : okC (pgB 88) ((pgCd 88).drop 8) = true := okC_cat _ 4 8 _ okS_88_2 hz
  have hz : okC (pgB 88) ((pgCd 88).drop 4) = true := okC_cat _ 4 4 _ okS_88_1 hz
  have hz : okC (pgB 88) ((pgCd 88).drop 0) = true := okC_cat _ 4 0 _ okS_88_0 hz
  exact hz
theorem okMid_88 : okMid 88 = true := by unfold okMid; rw [okCd_88, okM_88]; rfl
theorem okS_89_0 : okC (pgB 89) (((pgCd 89).drop 0).take 4) = true := by decide +kernel
theorem okS_89_1 : okC (pgB 89) (((pgCd 89).drop 4).take 4) = true := by decide +kernel
theorem okM_89 : okM (pgRw 89) = true := by decide +kernel
theorem okCd_89 : okC (pgB 89) (pgCd 89) = true := by
  have hz : okC (pgB 89) ((pgCd 89).drop 8) = true := by decide +kernel
  have hz : okC (pgB 89) ((pgCd 89).drop 4) = true := okC_cat _ 4 4 _ okS_89_1 hz
  have hz : okC (pgB 89) ((pgCd 89).drop 0) = true := okC_cat _ 4 0 _ okS_89_0 hz
  exact hz
theorem okMid_89 : okMid 89 = true := by unfold okMid; rw [okCd_89, okM_89]; rfl
theorem okS_90_0 : okC (pgB 90) (((pgCd 90).drop 0).take 4) = true := by decide +kernel
theorem okS_90_1 : okC (pgB 90) (((pgCd 90).drop 4).take 4) = true := by decide +kernel
theorem okM_90 : okM (pgRw 90) = true := by decide +kernel
theorem okCd_90 : okC (pgB 90) (pgCd 90) = true := by
  have hz : okC (pgB 90) ((pgCd 90).drop 8) = true := by decide +kernel
  have hz : okC (pgB 90) ((pgCd 90).drop 4) = true := okC_cat _ 4 4 _ okS_90_1 hz
  have hz : okC (pgB 90) ((pgCd 90).drop 0) = true := okC_cat _ 4 0 _ okS_90_0 hz
  exact hz
theorem okMid_90 : okMid 90 = true := by unfold okMid; rw [okCd_90, okM_90]; rfl
theorem okMid_91 : okMid 91 = true := by decide +kernel
theorem okS_92_0 : okC (pgB 92) (((pgCd 92).drop 0).take 4) = true := by decide +kernel
theorem okS_92_1 : okC (pgB 92) (((pgCd 92).drop 4).take 4) = true := by decide +kernel
theorem okS_92_2 : okC (pgB 92) (((pgCd 92).drop 8).take 4) = true := by decide +kernel
theorem okS_92_3 : okC (pgB 92) (((pgCd 92).drop 12).take 4) = true := by decide +kernel
theorem okS_92_4 : okC (pgB 92) (((pgCd 92).drop 16).take 4) = true := by decide +kernel
theorem okS_92_5 : okC (pgB 92) (((pgCd 92).drop 20).take 4) = true := by decide +kernel
theorem okM_92 : okM (pgRw 92) = true := by decide +kernel
theorem okCd_92 : okC (pgB 92) (pgCd 92) = true := by
  have hz : okC (pgB 92) ((pgCd 92).drop 24) = true := by decide +kernel
  have hz : okC (pgB 92) ((pgCd 92).drop 20) = true := okC_cat _ 4 20 _ okS_92_5 hz
  have hz : okC (pgB 92) ((pgCd 92).drop 16) = true := okC_cat _ 4 16 _ okS_92_4 hz
  have hz : okC (pgB 92) ((pgCd 92).drop 12) = true := okC_cat _ 4 12 _ okS_92_3 hz
  have hz : okC (pgB 92) ((pgCd 92).drop 8) = true := okC_cat _ 4 8 _ okS_92_2 hz
  have hz : okC (pgB 92) ((pgCd 92).drop 4) = true := okC_cat _ 4 4 _ okS_92_1 hz
  have hz : okC (pgB 92) ((pgCd 92).drop 0) = true := okC_cat _ 4 0 _ okS_92_0 hz
  exact hz
theorem okMid_92 : okMid 92 = true := by unfold okMid; rw [okCd_92, okM_92]; rfl
theorem okS_93_0 : okC (pgB 93) (((pgCd 93).drop 0).take 4) = true := by decide +kernel
theorem okS_93_1 : okC (pgB 93) (((pgCd 93).drop 4).take 4) = true := by decide +kernel
theorem okS_93_2 : okC (pgB 93) (((pgCd 93).drop 8).take 3) = true := by decide +kernel
theorem okM_93 : okM (pgRw 93) = true := by decide +kernel
theorem okCd_93 : okC (pgB 93) (pgCd 93) = true := by
  have hz : okC (pgB 93) ((pgCd 93).drop 11) = true := by decide +kernel
  have hz : okC (pgB 93) ((pgCd 93).drop 8) = true := okC_cat _ 3 8 _ okS_93_2 hz
  have hz : okC (pgB 93) ((pgCd 93).drop 4) = true := okC_cat _ 4 4 _ okS_93_1 hz
  have hz : okC (pgB 93) ((pgCd 93).drop 0) = true := okC_cat _ 4 0 _ okS_93_0 hz
  exact hz
theorem okMid_93 : okMid 93 = true := by unfold okMid; rw [okCd_93, okM_93]; rfl
theorem okMid_94 : okMid 94 = true := by decide +kernel
theorem okS_95_0 : okC (pgB 95) (((pgCd 95).drop 0).take 4) = true := by decide +kernel
theorem okS_95_1 : okC (pgB 95) (((pgCd 95).drop 4).take 4) = true := by decide +kernel
theorem okS_95_2 : okC (pgB 95) (((pgCd 95).drop 8).take 4) = true := by decide +kernel
theorem okS_95_3 : okC (pgB 95) (((pgCd 95).drop 12).take 3) = true := by decide +kernel
theorem okM_95 : okM (pgRw 95) = true := by decide +kernel
theorem okCd_95 : okC (pgB 95) (pgCd 95) = true := by
  have hz : okC (pgB 95) ((pgCd 95).drop 15) = true := by decide +kernel
  have hz : okC (pgB 95) ((pgCd 95).drop 12) = true := okC_cat _ 3 12 _ okS_95_3 hz
  have hz : okC (pgB 95) ((pgCd 95).drop 8) = true := okC_cat _ 4 8 _ okS_95_2 hz
  have hz : okC (pgB 95) ((pgCd 95).drop 4) = true := okC_cat _ 4 4 _ okS_95_1 hz
  have hz : okC (pgB 95) ((pgCd 95).drop 0) = true := okC_cat _ 4 0 _ okS_95_0 hz
  exact hz
theorem okMid_95 : okMid 95 = true := by unfold okMid; rw [okCd_95, okM_95]; rfl
theorem okS_96_0 : okC (pgB 96) (((pgCd 96).drop 0).take 4) = true := by decide +kernel
theorem okS_96_1 : okC (pgB 96) (((pgCd 96).drop 4).take 4) = true := by decide +kernel
theorem okM_96 : okM (pgRw 96) = true := by decide +kernel
theorem okCd_96 : okC (pgB 96) (pgCd 96) = true := by
  have hz : okC (pgB 96) ((pgCd 96).drop 8) = true := by decide +kernel
  have hz : okC (pgB 96) ((pgCd 96).drop 4) = true := okC_cat _ 4 4 _ okS_96_1 hz
  have hz : okC (pgB 96) ((pgCd 96).drop 0) = true := okC_cat _ 4 0 _ okS_96_0 hz
  exact hz
theorem okMid_96 : okMid 96 = true := by unfold okMid; rw [okCd_96, okM_96]; rfl
theorem okS_97_0 : okC (pgB 97) (((pgCd 97).drop 0).take 4) = true := by decide +kernel
theorem okS_97_1 : okC (pgB 97) (((pgCd 97).drop 4).take 4) = true := by decide +kernel
theorem okS_97_2 : okC (pgB 97) (((pgCd 97).drop 8).take 4) = true := by decide +kernel
theorem okS_97_3 : okC (pgB 97) (((pgCd 97).drop 12).take 4) = true := by decide +kernel
theorem okS_97_4 : okC (pgB 97) (((pgCd 97).drop 16).take 4) = true := by decide +kernel
theorem okM_97 : okM (pgRw 97) = true := by decide +kernel
theorem okCd_97 : okC (pgB 97) (pgCd 97) = true := by
  have hz : okC (pgB 97) ((pgCd 97).drop 20) = true := by decide +kernel
  have hz : okC (pgB 97) ((pgCd 97).drop 16) = true := okC_cat _ 4 16 _ okS_97_4 hz
  have hz : okC (pgB 97) ((pgCd 97).drop 12) = true := okC_cat _ 4 12 _ okS_97_3 hz
  have hz : okC (pgB 97) ((pgCd 97).drop 8) = true := okC_cat _ 4 8 _ okS_97_2 hz
  have hz : okC (pgB 97) ((pgCd 97).drop 4) = true := okC_cat _ 4 4 _ okS_97_1 hz
  have hz : okC (pgB 97) ((pgCd 97).drop 0) = true := okC_cat _ 4 0 _ okS_97_0 hz
  exact hz
theorem okMid_97 : okMid 97 = true := by unfold okMid; rw [okCd_97, okM_97]; rfl
theorem okMid_98 : okMid 98 = true := by decide +kernel
theorem okMid_99 : okMid 99 = true := by decide +kernel
theorem okMid_100 : okMid 100 = true := by decide +kernel
theorem okMid_101 : okMid 101 = true := by decide +kernel
theorem okMid_102 : okMid 102 = true := by decide +kernel
theorem okMid_103 : okMid 103 = true := by decide +kernel
theorem okS_104_0 : okC (pgB 104) (((pgCd 104).drop 0).take 4) = true := by decide +kernel
theorem okS_104_1 : okC (pgB 104) (((pgCd 104).drop 4).take 4) = true := by decide +kernel
theorem okM_104 : okM (pgRw 104) = true := by decide +kernel
theorem okCd_104 : okC (pgB 104) (pgCd 104) = true := by
  have hz : okC (pgB 104) ((pgCd 104).drop 8) = true := by decide +kernel
  have hz : okC (pgB 104) ((pgCd 104).drop 4) = true := okC_cat _ 4 4 _ okS_104_1 hz
  have hz : okC (pgB 104) ((pgCd 104).drop 0) = true := okC_cat _ 4 0 _ okS_104_0 hz
  exact hz
theorem okMid_104 : okMid 104 = true := by unfold okMid; rw [okCd_104, okM_104]; rfl
end
section
theorem okMid_105 : okMid 105 = true := by decide +kernel
theorem okMid_106 : okMid 106 = true := by decide +kernel
theorem okMid_107 : okMid 107 = true := by decide +kernel
theorem okMid_108 : okMid 108 = true := by decide +kernel
theorem okMid_109 : okMid 109 = true := by decide +kernel
theorem okMid_110 : okMid 110 = true := by decide +kernel
theorem okMid_111 : okMid 111 = true := by decide +kernel
theorem okMid_112 : okMid 112 = true := by decide +kernel
theorem okS_113_0 : okC (pgB 113) (((pgCd 113).drop 0).take 4) = true := by decide +kernel
theorem okS_113_1 : okC (pgB 113) (((pgCd 113).drop 4).take 4) = true := by decide +kernel
theorem okS_113_2 : okC (pgB 113) (((pgCd 113).drop 8).take 4) = true := by decide +kernel
theorem okS_113_3 : okC (pgB 113) (((pgCd 113).drop 12).take 4) = true := by decide +kernel
theorem okS_113_4 : okC (pgB 113) (((pgCd 113).drop 16).take 1) = true := by decide +kernel
theorem okM_113 : okM (pgRw 113) = true := by decide +kernel
theorem okCd_113 : okC (pgB 113) (pgCd 113) = true := by
  have hz : okC (pgB 113) ((pgCd 113).drop 17) = true := by decide +kernel
  have hz : okC (pgB 113) ((pgCd 113).drop 16) = true := okC_cat _ 1 16 _ okS_113_4 hz
  have hz : okC (pgB 113) ((pgCd 113).drop 12) = true := okC_cat _ 4 12 _ okS_113_3 hz
  have hz : okC (pgB 113) ((pgCd 113).drop 8) = true := okC_cat _ 4 8 _ okS_113_2 hz
  have hz : okC (pgB 113) ((pgCd 113).drop 4) = true := okC_cat _ 4 4 _ okS_113_1 hz
  have hz : okC (pgB 113) ((pgCd 113).drop 0) = true := okC_cat _ 4 0 _ okS_113_0 hz
  exact hz
theorem okMid_113 : okMid 113 = true := by unfold okMid; rw [okCd_113, okM_113]; rfl
theorem okS_114_0 : okC (pgB 114) (((pgCd 114).drop 0).take 4) = true := by decide +kernel
theorem okS_114_1 : okC (pgB 114) (((pgCd 114).drop 4).take 4) = true := by decide +kernel
theorem okM_114 : okM (pgRw 114) = true := by decide +kernel
theorem okCd_114 : okC (pgB 114) (pgCd 114) = true := by
  have hz : okC (pgB 114) ((pgCd 114).drop 8) = true := by decide +kernel
  have hz : okC (pgB 114) ((pgCd 114).drop 4) = true := okC_cat _ 4 4 _ okS_114_1 hz
  have hz : okC (pgB 114) ((pgCd 114).drop 0) = true := okC_cat _ 4 0 _ okS_114_0 hz
  exact hz
theorem okMid_114 : okMid 114 = true := by unfold okMid; rw [okCd_114, okM_114]; rfl
theorem okS_115_0 : okC (pgB 115) (((pgCd 115).drop 0).take 4) = true := by decide +kernel
theorem okS_115_1 : okC (pgB 115) (((pgCd 115).drop 4).take 4) = true := by decide +kernel
theorem okS_115_2 : okC (pgB 115) (((pgCd 115).drop 8).take 4) = true := by decide +kernel
theorem okS_115_3 : okC (pgB 115) (((pgCd 115).drop 12).take 2) = true := by decide +kernel
theorem okM_115 : okM (pgRw 115) = true := by decide +kernel
theorem okCd_115 : okC (pgB 115) (pgCd 115) = true := by
  have hz : okC (pgB 115) ((pgCd 115).drop 14) = true := by decide +kernel
  have hz : okC (pgB 115) ((pgCd 115).drop 12) = true := okC_cat _ 2 12 _ okS_115_3 hz
  have hz : okC (pgB 115) ((pgCd 115).drop 8) = true := okC_cat _ 4 8 _ okS_115_2 hz
  have hz : okC (pgB 115) ((pgCd 115).drop 4) = true := okC_cat _ 4 4 _ okS_115_1 hz
  have hz : okC (pgB 115) ((pgCd 115).drop 0) = true := okC_cat _ 4 0 _ okS_115_0 hz
  exact hz
theorem okMid_115 : okMid 115 = true := by unfold okMid; rw [okCd_115, okM_115]; rfl
theorem okS_116_0 : okC (pgB 116) (((pgCd 116).drop 0).take 4) = true := by decide +kernel
theorem okS_116_1 : okC (pgB 116) (((pgCd 116).drop 4).take 4) = true := by decide +kernel
theorem okS_116_2 : okC (pgB 116) (((pgCd 116).drop 8).take 4) = true := by decide +kernel
theorem okS_116_3 : okC (pgB 116) (((pgCd 116).drop 12).take 3) = true := by decide +kernel
theorem okM_116 : okM (pgRw 116) = true := by decide +kernel
theorem okCd_116 : okC (pgB 116) (pgCd 116) = true := by
  have hz : okC (pgB 116) ((pgCd 116).drop 15) = true := by decide +kernel
  have hz : okC (pgB 116) ((pgCd 116).drop 12) = true := okC_cat _ 3 12 _ okS_116_3 hz
  have hz : okC (pgB 116) ((pgCd 116).drop 8) = true := okC_cat _ 4 8 _ okS_116_2 hz
  have hz : okC (pgB 116) ((pgCd 116).drop 4) = true := okC_cat _ 4 4 _ okS_116_1 hz
  have hz : okC (pgB 116) ((pgCd 116).drop 0) = true := okC_cat _ 4 0 _ okS_116_0 hz
  exact hz
theorem okMid_116 : okMid 116 = true := by unfold okMid; rw [okCd_116, okM_116]; rfl
theorem okS_117_0 : okC (pgB 117) (((pgCd 117).drop 0).take 4) = true := by decide +kernel
theorem okS_117_1 : okC (pgB 117) (((pgCd 117).drop 4).take 4) = true := by decide +kernel
theorem okS_117_2 : okC (pgB 117) (((pgCd 117).drop 8).take 4) = true := by decide +kernel
theorem okM_117 : okM (pgRw 117) = true := by decide +kernel
theorem okCd_117 : okC (pgB 117) (pgCd 117) = true := by
  have hz : okC (pgB 117) ((pgCd 117).drop 12) = true := by decide +kernel
  have hz : okC (pgB 117) ((pgCd 117).drop 8) = true := okC_cat _ 4 8 _ okS_117_2 hz
  have hz : okC (pgB 117) ((pgCd 117).drop 4) = true := okC_cat _ 4 4 _ okS_117_1 hz
  have hz : okC (pgB 117) ((pgCd 117).drop 0) = true := okC_cat _ 4 0 _ okS_117_0 hz
  exact hz
theorem okMid_117 : okMid 117 = true := by unfold okMid; rw [okCd_117, okM_117]; rfl
theorem okMid_118 : okMid 118 = true := by decide +kernel
theorem okS_119_0 : okC (pgB 119) (((pgCd 119).drop 0).take 4) = true := by decide +kernel
theorem okS_119_1 : okC (pgB 119) (((pgCd 119).drop 4).take 4) = true := by decide +kernel
theorem okS_119_2 : okC (pgB 119) (((pgCd 119).drop 8).take 2) = true := by decide +kernel
theorem okM_119 : okM (pgRw 119) = true := by decide +kernel
theorem okCd_119 : okC (pgB 119) (pgCd 119) = true := by
  have hz : okC (pgB 119) ((pgCd 119).drop 10) = true := by decide +kernel
  have hz : okC (pgB 119) ((pgCd 119).drop 8) = true := okC_cat _ 2 8 _ okS_119_2 hz
  have hz : okC (pgB 119) ((pgCd 119).drop 4) = true := okC_cat _ 4 4 _ okS_119_1 hz
  have hz : okC (pgB 119) ((pgCd 119).drop 0) = true := okC_cat _ 4 0 _ okS_119_0 hz
  exact hz
theorem okMid_119 : okMid 119 = true := by unfold okMid; rw [okCd_119, okM_119]; rfl
theorem okMid_120 : okMid 120 = true := by decide +kernel
theorem okMid_121 : okMid 121 = true := by decide +kernel
theorem okS_122_0 : okC (pgB 122) (((pgCd 122).drop 0).take 4) = true := by decide +kernel
theorem okS_122_1 : okC (pgB 122) (((pgCd 122).drop 4).take 4) = true := by decide +kernel
theorem okM_122 : okM (pgRw 122) = true := by decide +kernel
theorem okCd_122 : okC (pgB 122) (pgCd 122) = true := by
  have hz : okC (pgB 122) ((pgCd 122).drop 8) = true := by decide +kernel
  have hz : okC (pgB 122) ((pgCd 122).drop 4) = true := okC_cat _ 4 4 _ okS_122_1 hz
  have hz : okC (pgB 122) ((pgCd 122).drop 0) = true := okC_cat _ 4 0 _ okS_122_0 hz
  exact hz
theorem okMid_122 : okMid 122 = true := by unfold okMid; rw [okCd_122, okM_122]; rfl
theorem okMid_123 : okMid 123 = true := by decide +kernel
theorem okS_124_0 : okC (pgB 124) (((pgCd 124).drop 0).take 4) = true := by decide +kernel
theorem okS_124_1 : okC (pgB 124) (((pgCd 124).drop 4).take 4) = true := by decide +kernel
theorem okS_124_2 : okC (pgB 124) (((pgCd 124).drop 8).take 1) = true := by decide +kernel
theorem okM_124 : okM (pgRw 124) = true := by decide +kernel
theorem okCd_124 : okC (pgB 124) (pgCd 124) = true := by
  have hz : okC (pgB 124) ((pgCd 124).drop 9) = true := by decide +kernel
  have hz : okC (pgB 124) ((pgCd 124).drop 8) = true := okC_cat _ 1 8 _ okS_124_2 hz
  have hz : okC (pgB 124) ((pgCd 124).drop 4) = true := okC_cat _ 4 4 _ okS_124_1 hz
  have hz : okC (pgB 124) ((pgCd 124).drop 0) = true := okC_cat _ 4 0 _ okS_124_0 hz
  exact hz
theorem okMid_124 : okMid 124 = true := by unfold okMid; rw [okCd_124, okM_124]; rfl
theorem okMid_125 : okMid 125 = true := by decide +kernel
theorem okS_126_0 : okC (pgB 126) (((pgCd 126).drop 0).take 4) = true := by decide +kernel
theorem okS_126_1 : okC (pgB 126) (((pgCd 126).drop 4).take 4) = true := by decide +kernel
theorem okM_126 : okM (pgRw 126) = true := by decide +kernel
theorem okCd_126 : okC (pgB 126) (pgCd 126) = true := by
  have hz : okC (pgB 126) ((pgCd 126).drop 8) = true := by decide +kernel
  have hz : okC (pgB 126) ((pgCd 126).drop 4) = true := okC_cat _ 4 4 _ okS_126_1 hz
  have hz : okC (pgB 126) ((pgCd 126).drop 0) = true := okC_cat _ 4 0 _ okS_126_0 hz
  exact hz
theorem okMid_126 : okMid 126 = true := by unfold okMid; rw [okCd_126, okM_126]; rfl
theorem okMid_127 : okMid 127 = true := by decide +kernel
theorem okS_128_0 : okC (pgB 128) (((pgCd 128).drop 0).take 4) = true := by decide +kernel
theorem okS_128_1 : okC (pgB 128) (((pgCd 128).drop 4).take 4) = true := by decide +kernel
theorem okM_128 : okM (pgRw 128) = true := by decide +kernel
theorem okCd_128 : okC (pgB 128) (pgCd 128) = true := by
  have hz : okC (pgB 128) ((pgCd 128).drop 8) = true := by decide +kernel
  have hz : okC (pgB 128) ((pgCd 128).drop 4) = true := okC_cat _ 4 4 _ okS_128_1 hz
  have hz : okC (pgB 128) ((pgCd 128).drop 0) = true := okC_cat _ 4 0 _ okS_128_0 hz
  exact hz
theorem okMid_128 : okMid 128 = true := by unfold okMid; rw [okCd_128, okM_128]; rfl
theorem okS_129_0 : okC (pgB 129) (((pgCd 129).drop 0).take 4) = true := by decide +kernel
theorem okS_129_1 : okC (pgB 129) (((pgCd 129).drop 4).take 4) = true := by decide +kernel
theorem okM_129 : okM (pgRw 129) = true := by decide +kernel
theorem okCd_129 : okC (pgB 129) (pgCd 129) = true := by
  have hz : okC (pgB 129) ((pgCd 129).drop 8) = true := by decide +kernel
  have hz : okC (pgB 129) ((pgCd 129).drop 4) = true := okC_cat _ 4 4 _ okS_129_1 hz
  have hz : okC (pgB 129) ((pgCd 129).drop 0) = true := okC_cat _ 4 0 _ okS_129_0 hz
  exact hz
theorem okMid_129 : okMid 129 = true := by unfold okMid; rw [okCd_129, okM_129]; rfl
theorem okMid_130 : okMid 130 = true := by decide +kernel
theorem okMid_131 : okMid 131 = true := by decide +kernel
theorem okS_132_0 : okC (pgB 132) (((pgCd 132).drop 0).take 4) = true := by decide +kernel
theorem okS_132_1 : okC (pgB 132) (((pgCd 132).drop 4).take 4) = true := by decide +kernel
theorem okM_132 : okM (pgRw 132) = true := by decide +kernel
theorem okCd_132 : okC (pgB 132) (pgCd 132) = true := by
  have hz : okC (pgB 132) ((pgCd 132).drop 8) = true := by decide +kernel
  have hz : okC (pgB 132) ((pgCd 132).drop 4) = true := okC_cat _ 4 4 _ okS_132_1 hz
  have hz : okC (pgB 132) ((pgCd 132).drop 0) = true := okC_cat _ 4 0 _ okS_132_0 hz
  exact hz
theorem okMid_132 : okMid 132 = true := by unfold okMid; rw [okCd_132, okM_132]; rfl
theorem okMid_133 : okMid 133 = true := by decide +kernel
theorem okMid_134 : okMid 134 = true := by decide +kernel
theorem okS_135_0 : okC (pgB 135) (((pgCd 135).drop 0).take 4) = true := by decide +kernel
theorem okS_135_1 : okC (pgB 135) (((pgCd 135).drop 4).take 4) = true := by decide +kernel
theorem okS_135_2 : okC (pgB 135) (((pgCd 135).drop 8).take 4) = true := by decide +kernel
theorem okS_135_3 : okC (pgB 135) (((pgCd 135).drop 12).take 2) = true := by decide +kernel
theorem okM_135 : okM (pgRw 135) = true := by decide +kernel
theorem okCd_135 : okC (pgB 135) (pgCd 135) = true := by
  have hz : okC (pgB 135) ((pgCd 135).drop 14) = true := by decide +kernel
  have hz : okC (pgB 135) ((pgCd 135).drop 12) = true := okC_cat _ 2 12 _ okS_135_3 hz
  have hz : okC (pgB 135) ((pgCd 135).drop 8) = true := okC_cat _ 4 8 _ okS_135_2 hz
  have hz : okC (pgB 135) ((pgCd 135).drop 4) = true := okC_cat _ 4 4 _ okS_135_1 hz
  have hz : okC (pgB 135) ((pgCd 135).drop 0) = true := okC_cat _ 4 0 _ okS_135_0 hz
  exact hz
theorem okMid_135 : okMid 135 = true := by unfold okMid; rw [okCd_135, okM_135]; rfl
theorem okMid_136 : okMid 136 = true := by decide +kernel
theorem okMid_137 : okMid 137 = true := by decide +kernel
theorem okMid_138 : okMid 138 = true := by decide +kernel
theorem okMid_139 : okMid 139 = true := by decide +kernel
theorem okS_140_0 : okC (pgB 140) (((pgCd 140).drop 0).take 4) = true := by decide +kernel
theorem okS_140_1 : okC (pgB 140) (((pgCd 140).drop 4).take 4) = true := by decide +kernel
theorem okS_140_2 : okC (pgB 140) (((pgCd 140).drop 8).take 4) = true := by decide +kernel
theorem okS_140_3 : okC (pgB 140) (((pgCd 140).drop 12).take 2) = true := by decide +kernel
theorem okM_140 : okM (pgRw 140) = true := by decide +kernel
theorem okCd_140 : okC (pgB 140) (pgCd 140) = true := by
  have hz : okC (pgB 140) ((pgCd 140).drop 14) = true := by decide +kernel
  have hz : okC (pgB 140) ((pgCd 140).drop 12) = true := okC_cat _ 2 12 _ okS_140_3 hz
  have hz : okC (pgB 140) ((pgCd 140).drop 8) = true := okC_cat _ 4 8 _ okS_140_2 hz
  have hz : okC (pgB 140) ((pgCd 140).drop 4) = true := okC_cat _ 4 4 _ okS_140_1 hz
  have hz : okC (pgB 140) ((pgCd 140).drop 0) = true := okC_cat _ 4 0 _ okS_140_0 hz
  exact hz
theorem okMid_140 : okMid 140 = true := by unfold okMid; rw [okCd_140, okM_140]; rfl
theorem okMid_141 : okMid 141 = true := by decide +kernel
theorem okS_142_0 : okC (pgB 142) (((pgCd 142).drop 0).take 4) = true := by decide +kernel
theorem okS_142_1 : okC (pgB 142) (((pgCd 142).drop 4).take 4) = true := by decide +kernel
theorem okM_142 : okM (pgRw 142) = true := by decide +kernel
theorem okCd_142 : okC (pgB 142) (pgCd 142) = true := by
  have hz : okC (pgB 142) ((pgCd 142).drop 8) = true := by decide +kernel
  have hz : okC (pgB 142) ((pgCd 142).drop 4) = true := okC_cat _ 4 4 _ okS_142_1 hz
  have hz : okC (pgB 142) ((pgCd 142).drop 0) = true := okC_cat _ 4 0 _ okS_142_0 hz
  exact hz
theorem okMid_142 : okMid 142 = true := by unfold okMid; rw [okCd_142, okM_142]; rfl
theorem okMid_143 : okMid 143 = true := by decide +kernel
theorem okMid_144 : okMid 144 = true := by decide +kernel
theorem okS_145_0 : okC (pgB 145) (((pgCd 145).drop 0).take 4) = true := by decide +kernel
theorem okS_145_1 : okC (pgB 145) (((pgCd 145).drop 4).take 4) = true := by decide +kernel
theorem okS_145_2 : okC (pgB 145) (((pgCd 145).drop 8).take 4) = true := by decide +kernel
theorem okS_145_3 : okC (pgB 145) (((pgCd 145).drop 12).take 4) = true := by decide +kernel
theorem okS_145_4 : okC (pgB 145) (((pgCd 145).drop 16).take 4) = true := by decide +kernel
theorem okS_145_5 : okC (pgB 145) (((pgCd 145).drop 20).take 3) = true := by decide +kernel
theorem okM_145 : okM (pgRw 145) = true := by decide +kernel
theorem okCd_145 : okC (pgB 145) (pgCd 145) = true := by
  have hz : okC (pgB 145) ((pgCd 145).drop 23) = true := by decide +kernel
  have hz : okC (pgB 145) ((pgCd 145).drop 20) = true := okC_cat _ 3 20 _ okS_145_5 hz
  have hz : okC (pgB 145) ((pgCd 145).drop 16) = true := okC_cat _ 4 16 _ okS_145_4 hz
  have hz : okC (pgB 145) ((pgCd 145).drop 12) = true := okC_cat _ 4 12 _ okS_145_3 hz
  have hz : okC (pgB 145) ((pgCd 145).drop 8) = true := okC_cat _ 4 8 _ okS_145_2 hz
  have hz : okC (pgB 145) ((pgCd 145).drop 4) = true := okC_cat _ 4 4 _ okS_145_1 hz
  have hz : okC (pgB 145) ((pgCd 145).drop 0) = true := okC_cat _ 4 0 _ okS_145_0 hz
  exact hz
theorem okMid_145 : okMid 145 = true := by unfold okMid; rw [okCd_145, okM_145]; rfl
theorem okMid_146 : okMid 146 = true := by decide +kernel
theorem okMid_147 : okMid 147 = true := by decide +kernel
theorem okMid_148 : okMid 148 = true := by decide +kernel
theorem okMid_149 : okMid 149 = true := by decide +kernel
theorem okS_150_0 : okC (pgB 150) (((pgCd 150).drop 0).take 4) = true := by decide +kernel
theorem okS_150_1 : okC (pgB 150) (((pgCd 150).drop 4).take 4) = true := by decide +kernel
theorem okS_150_2 : okC (pgB 150) (((pgCd 150).drop 8).take 4) = true := by decide +kernel
theorem okS_150_3 : okC (pgB 150) (((pgCd 150).drop 12).take 4) = true := by decide +kernel
theorem okS_150_4 : okC (pgB 150) (((pgCd 150).drop 16).take 3) = true := by decide +kernel
theorem okM_150 : okM (pgRw 150) = true := by decide +kernel
theorem okCd_150 : okC (pgB 150) (pgCd 150) = true := by
  have hz : okC (pgB 150) ((pgCd 150).drop 19) = true := by decide +kernel
  have hz : okC (pgB 150) ((pgCd 150).drop 16) = true := okC_cat _ 3 16 _ okS_150_4 hz
  have hz : okC (pgB 150) ((pgCd 150).drop 12) = true := okC_cat _ 4 12 _ okS_150_3 hz
  have hz : okC (pgB 150) ((pgCd 150).drop 8) = true := okC_cat _ 4 8 _ okS_150_2 hz
  have hz : okC (pgB 150) ((pgCd 150).drop 4) = true := okC_cat _ 4 4 _ okS_150_1 hz
  have hz : okC (pgB 150) ((pgCd 150).drop 0) = true := okC_cat _ 4 0 _ okS_150_0 hz
  exact hz
theorem okMid_150 : okMid 150 = true := by unfold okMid; rw [okCd_150, okM_150]; rfl
theorem okS_151_0 : okC (pgB 151) (((pgCd 151).drop 0).take 4) = true := by decide +kernel
theorem okS_151_1 : okC (pgB 151) (((pgCd 151).drop 4).take 4) = true := by decide +kernel
theorem okS_151_2 : okC (pgB 151) (((pgCd 151).drop 8).take 4) = true := by decide +kernel
theorem okS_151_3 : okC (pgB 151) (((pgCd 151).drop 12).take 4) = true := by decide +kernel
theorem okS_151_4 : okC (pgB 151) (((pgCd 151).drop 16).take 4) = true := by decide +kernel
theorem okS_151_5 : okC (pgB 151) (((pgCd 151).drop 20).take 4) = true := by decide +kernel
theorem okS_151_6 : okC (pgB 151) (((pgCd 151).drop 24).take 4) = true := by decide +kernel
theorem okS_151_7 : okC (pgB 151) (((pgCd 151).drop 28).take 4) = true := by decide +kernel
theorem okS_151_8 : okC (pgB 151) (((pgCd 151).drop 32).take 4) = true := by decide +kernel
theorem okS_151_9 : okC (pgB 151) (((pgCd 151).drop 36).take 4) = true := by decide +kernel
theorem okS_151_10 : okC (pgB 151) (((pgCd 151).drop 40).take 4) = true := by decide +kernel
theorem okS_151_11 : okC (pgB 151) (((pgCd 151).drop 44).take 4) = true := by decide +kernel
theorem okS_151_12 : okC (pgB 151) (((pgCd 151).drop 48).take 4) = true := by decide +kernel
theorem okS_151_13 : okC (pgB 151) (((pgCd 151).drop 52).take 4) = true := by decide +kernel
theorem okS_151_14 : okC (pgB 151) (((pgCd 151).drop 56).take 4) = true := by decide +kernel
theorem okS_151_15 : okC (pgB 151) (((pgCd 151).drop 60).take 4) = true := by decide +kernel
theorem okS_151_16 : okC (pgB 151) (((pgCd 151).drop 64).take 3) = true := by decide +kernel
theorem okM_151 : okM (pgRw 151) = true := by decide +kernel
theorem okCd_151 : okC (pgB 151) (pgCd 151) = true := by
  have hz : okC (pgB 151) ((pgCd 151).drop 67) = true := by decide +kernel
  have hz : okC (pgB 151) ((pgCd 151).drop 64) = true := okC_cat _ 3 64 _ okS_151_16 hz
  have hz : okC (pgB 151) ((pgCd 151).drop 60) = true := okC_cat _ 4 60 _ okS_151_15 hz
  have hz : okC (pgB 151) ((pgCd 151).drop 56) = true := okC_cat _ 4 56 _ okS_151_14 hz
  have hz : okC (pgB 151) ((pgCd 151).drop 52) = true := okC_cat _ 4 52 _ okS_151_13 hz
  have hz : okC (pgB 151) ((pgCd 151).drop 48) = true := okC_cat _ 4 48 _ okS_151_12 hz
  have hz : okC (pgB 151) ((pgCd 151).drop 44) = true := okC_cat _ 4 44 _ okS_151_11 hz
  have hz : okC (pgB 151) ((pgCd 151).drop 40) = true := okC_cat _ 4 40 _ okS_151_10 hz
  have hz : okC (pgB 151) ((pgCd 151).drop 36) = true := okC_cat _ 4 36 _ okS_151_9 hz
  have hz : okC (pgB 151) ((pgCd 151).drop 32) = true := okC_cat _ 4 32 _ okS_151_8 hz
  have hz : okC (pgB 151) ((pgCd 151).drop 28) = true := okC_cat _ 4 28 _ okS_151_7 hz
  have hz : okC (pgB 151) ((pgCd 151).drop 24) = true := okC_cat _ 4 24 _ okS_151_6 hz
  have hz : okC (pgB 151) ((pgCd 151).drop 20) = true := okC_cat _ 4 20 _ okS_151_5 hz
  have hz : okC (pgB 151) ((pgCd 151).drop 16) = true := okC_cat _ 4 16 _ okS_151_4 hz
  have hz : okC (pgB 151) ((pgCd 151).drop 12) = true := okC_cat _ 4 12 _ okS_151_3 hz
  have hz : okC (pgB 151) ((pgCd 151).drop 8) = true := okC_cat _ 4 8 _ okS_151_2 hz
  have hz : okC (pgB 151) ((pgCd 151).drop 4) = true := okC_cat _ 4 4 _ okS_151_1 hz
  have hz : okC (pgB 151) ((pgCd 151).drop 0) = true := okC_cat _ 4 0 _ okS_151_0 hz
  exact hz
theorem okMid_151 : okMid 151 = true := by unfold okMid; rw [okCd_151, okM_151]; rfl
end
section
theorem okMid_152 : okMid 152 = true := by decide +kernel
theorem okMid_153 : okMid 153 = true := by decide +kernel
theorem okMid_154 : okMid 154 = true := by decide +kernel
theorem okMid_155 : okMid 155 = true := by decide +kernel
theorem okMid_156 : okMid 156 = true := by decide +kernel
theorem okMid_157 : okMid 157 = true := by decide +kernel
theorem okMid_158 : okMid 158 = true := by decide +kernel
theorem okMid_159 : okMid 159 = true := by decide +kernel
theorem okMid_160 : okMid 160 = true := by decide +kernel
theorem okS_161_0 : okC (pgB 161) (((pgCd 161).drop 0).take 4) = true := by decide +kernel
theorem okS_161_1 : okC (pgB 161) (((pgCd 161).drop 4).take 4) = true := by decide +kernel
theorem okS_161_2 : okC (pgB 161) (((pgCd 161).drop 8).take 4) = true := by decide +kernel
theorem okM_161 : okM (pgRw 161) = true := by decide +kernel
theorem okCd_161 : okC (pgB 161) (pgCd 161) = true := by
  have hz : okC (pgB 161) ((pgCd 161).drop 12) = true := by decide +kernel
  have hz : okC (pgB 161) ((pgCd 161).drop 8) = true := okC_cat _ 4 8 _ okS_161_2 hz
  have hz : okC (pgB 161) ((pgCd 161).drop 4) = true := okC_cat _ 4 4 _ okS_161_1 hz
  have hz : okC (pgB 161) ((pgCd 161).drop 0) = true := okC_cat _ 4 0 _ okS_161_0 hz
  exact hz
theorem okMid_161 : okMid 161 = true := by unfold okMid; rw [okCd_161, okM_161]; rfl
theorem okS_162_0 : okC (pgB 162) (((pgCd 162).drop 0).take 4) = true := by decide +kernel
theorem okS_162_1 : okC (pgB 162) (((pgCd 162).drop 4).take 4) = true := by decide +kernel
theorem okS_162_2 : okC (pgB 162) (((pgCd 162).drop 8).take 3) = true := by decide +kernel
theorem okM_162 : okM (pgRw 162) = true := by decide +kernel
theorem okCd_162 : okC (pgB 162) (pgCd 162) = true := by
  have hz : okC (pgB 162) ((pgCd 162).drop 11) = true := by decide +kernel
  have hz : okC (pgB 162) ((pgCd 162).drop 8) = true := okC_cat _ 3 8 _ okS_162_2 hz
  have hz : okC (pgB 162) ((pgCd 162).drop 4) = true := okC_cat _ 4 4 _ okS_162_1 hz
  have hz : okC (pgB 162) ((pgCd 162).drop 0) = true := okC_cat _ 4 0 _ okS_162_0 hz
  exact hz
theorem okMid_162 : okMid 162 = true := by unfold okMid; rw [okCd_162, okM_162]; rfl
theorem okMid_163 : okMid 163 = true := by decide +kernel
theorem okMid_164 : okMid 164 = true := by decide +kernel
theorem okS_165_0 : okC (pgB 165) (((pgCd 165).drop 0).take 4) = true := by decide +kernel
theorem okS_165_1 : okC (pgB 165) (((pgCd 165).drop 4).take 4) = true := by decide +kernel
theorem okS_165_2 : okC (pgB 165) (((pgCd 165).drop 8).take 2) = true := by decide +kernel
theorem okM_165 : okM (pgRw 165) = true := by decide +kernel
theorem okCd_165 : okC (pgB 165) (pgCd 165) = true := by
  have hz : okC (pgB 165) ((pgCd 165).drop 10) = true := by decide +kernel
  have hz : okC (pgB 165) ((pgCd 165).drop 8) = true := okC_cat _ 2 8 _ okS_165_2 hz
  have hz : okC (pgB 165) ((pgCd 165).drop 4) = true := okC_cat _ 4 4 _ okS_165_1 hz
  have hz : okC (pgB 165) ((pgCd 165).drop 0) = true := okC_cat _ 4 0 _ okS_165_0 hz
  exact hz
theorem okMid_165 : okMid 165 = true := by unfold okMid; rw [okCd_165, okM_165]; rfl
theorem okMid_166 : okMid 166 = true := by decide +kernel
theorem okS_167_0 : okC (pgB 167) (((pgCd 167).drop 0).take 4) = true := by decide +kernel
theorem okS_167_1 : okC (pgB 167) (((pgCd 167).drop 4).take 4) = true := by decide +kernel
theorem okS_167_2 : okC (pgB 167) (((pgCd 167).drop 8).take 1) = true := by decide +kernel
theorem okM_167 : okM (pgRw 167) = true := by decide +kernel
theorem okCd_167 : okC (pgB 167) (pgCd 167) = true := by
  have hz : okC (pgB 167) ((pgCd 167).drop 9) = true := by decide +kernel
  have hz : okC (pgB 167) ((pgCd 167).drop 8) = true := okC_cat _ 1 8 _ okS_167_2 hz
  have hz : okC (pgB 167) ((pgCd 167).drop 4) = true := okC_cat _ 4 4 _ okS_167_1 hz
  have hz : okC (pgB 167) ((pgCd 167).drop 0) = true := okC_cat _ 4 0 _ okS_167_0 hz
  exact hz
theorem okMid_167 : okMid 167 = true := by unfold okMid; rw [okCd_167, okM_167]; rfl
theorem okMid_168 : okMid 168 = true := by decide +kernel
theorem okMid_169 : okMid 169 = true := by decide +kernel
theorem okS_170_0 : okC (pgB 170) (((pgCd 170).drop 0).take 4) = true := by decide +kernel
theorem okS_170_1 : okC (pgB 170) (((pgCd 170).drop 4).take 4) = true := by decide +kernel
theorem okS_170_2 : okC (pgB 170) (((pgCd 170).drop 8).take 4) = true := by decide +kernel
theorem okS_170_3 : okC (pgB 170) (((pgCd 170).drop 12).take 3) = true := by decide +kernel
theorem okM_170 : okM (pgRw 170) = true := by decide +kernel
theorem okCd_170 : okC (pgB 170) (pgCd 170) = true := by
  have hz : okC (pgB 170) ((pgCd 170).drop 15) = true := by decide +kernel
  have hz : okC (pgB 170) ((pgCd 170).drop 12) = true := okC_cat _ 3 12 _ okS_170_3 hz
  have hz : okC (pgB 170) ((pgCd 170).drop 8) = true := okC_cat _ 4 8 _ okS_170_2 hz
  have hz : okC (pgB 170) ((pgCd 170).drop 4) = true := okC_cat _ 4 4 _ okS_170_1 hz
  have hz : okC (pgB 170) ((pgCd 170).drop 0) = true := okC_cat _ 4 0 _ okS_170_0 hz
  exact hz
theorem okMid_170 : okMid 170 = true := by unfold okMid; rw [okCd_170, okM_170]; rfl
theorem okS_171_0 : okC (pgB 171) (((pgCd 171).drop 0).take 4) = true := by decide +kernel
theorem okS_171_1 : okC (pgB 171) (((pgCd 171).drop 4).take 4) = true := by decide +kernel
theorem okS_171_2 : okC (pgB 171) (((pgCd 171).drop 8).take 4) = true := by decide +kernel
theorem okS_171_3 : okC (pgB 171) (((pgCd 171).drop 12).take 4) = true := by decide +kernel
theorem okS_171_4 : okC (pgB 171) (((pgCd 171).drop 16).take 4) = true := by decide +kernel
theorem okS_171_5 : okC (pgB 171) (((pgCd 171).drop 20).take 4) = true := by decide +kernel
theorem okS_171_6 : okC (pgB 171) (((pgCd 171).drop 24).take 4) = true := by decide +kernel
theorem okM_171 : okM (pgRw 171) = true := by decide +kernel
theorem okCd_171 : okC (pgB 171) (pgCd 171) = true := by
  have hz : okC (pgB 171) ((pgCd 171).drop 28) = true := by decide +kernel
  have hz : okC (pgB 171) ((pgCd 171).drop 24) = true := okC_cat _ 4 24 _ okS_171_6 hz
  have hz : okC (pgB 171) ((pgCd 171).drop 20) = true := okC_cat _ 4 20 _ okS_171_5 hz
  have hz : okC (pgB 171) ((pgCd 171).drop 16) = true := okC_cat _ 4 16 _ okS_171_4 hz
  have hz : okC (pgB 171) ((pgCd 171).drop 12) = true := okC_cat _ 4 12 _ okS_171_3 hz
  have hz : okC (pgB 171) ((pgCd 171).drop 8) = true := okC_cat _ 4 8 _ okS_171_2 hz
  have hz : okC (pgB 171) ((pgCd 171).drop 4) = true := okC_cat _ 4 4 _ okS_171_1 hz
  have hz : okC (pgB 171) ((pgCd 171).drop 0) = true := okC_cat _ 4 0 _ okS_171_0 hz
  exact hz
theorem okMid_171 : okMid 171 = true := by unfold okMid; rw [okCd_171, okM_171]; rfl
theorem okMid_172 : okMid 172 = true := by decide +kernel
theorem okS_173_0 : okC (pgB 173) (((pgCd 173).drop 0).take 4) = true := by decide +kernel
theorem okS_173_1 : okC (pgB 173) (((pgCd 173).drop 4).take 4) = true := by decide +kernel
theorem okS_173_2 : okC (pgB 173) (((pgCd 173).drop 8).take 4) = true := by decide +kernel
theorem okM_173 : okM (pgRw 173) = true := by decide +kernel
theorem okCd_173 : okC (pgB 173) (pgCd 173) = true := by
  have hz : okC (pgB 173) ((pgCd 173).drop 12) = true := by decide +kernel
  have hz : okC (pgB 173) ((pgCd 173).drop 8) = true := okC_cat _ 4 8 _ okS_173_2 hz
  have hz : okC (pgB 173) ((pgCd 173).drop 4) = true := okC_cat _ 4 4 _ okS_173_1 hz
  have hz : okC (pgB 173) ((pgCd 173).drop 0) = true := okC_cat _ 4 0 _ okS_173_0 hz
  exact hz
theorem okMid_173 : okMid 173 = true := by unfold okMid; rw [okCd_173, okM_173]; rfl
theorem okMid_174 : okMid 174 = true := by decide +kernel
theorem okS_175_0 : okC (pgB 175) (((pgCd 175).drop 0).take 4) = true := by decide +kernel
theorem okS_175_1 : okC (pgB 175) (((pgCd 175).drop 4).take 4) = true := by decide +kernel
theorem okS_175_2 : okC (pgB 175) (((pgCd 175).drop 8).take 2) = true := by decide +kernel
theorem okM_175 : okM (pgRw 175) = true := by decide +kernel
theorem okCd_175 : okC (pgB 175) (pgCd 175) = true := by
  have hz : okC (pgB 175) ((pgCd 175).drop 10) = true := by decide +kernel
  have hz : okC (pgB 175) ((pgCd 175).drop 8) = true := okC_cat _ 2 8 _ okS_175_2 hz
  have hz : okC (pgB 175) ((pgCd 175).drop 4) = true := okC_cat _ 4 4 _ okS_175_1 hz
  have hz : okC (pgB 175) ((pgCd 175).drop 0) = true := okC_cat _ 4 0 _ okS_175_0 hz
  exact hz
theorem okMid_175 : okMid 175 = true := by unfold okMid; rw [okCd_175, okM_175]; rfl
theorem okMid_176 : okMid 176 = true := by decide +kernel
theorem okMid_177 : okMid 177 = true := by decide +kernel
theorem okMid_178 : okMid 178 = true := by decide +kernel
theorem okS_179_0 : okC (pgB 179) (((pgCd 179).drop 0).take 4) = true := by decide +kernel
theorem okS_179_1 : okC (pgB 179) (((pgCd 179).drop 4).take 4) = true := by decide +kernel
theorem okS_179_2 : okC (pgB 179) (((pgCd 179).drop 8).take 4) = true := by decide +kernel
theorem okS_179_3 : okC (pgB 179) (((pgCd 179).drop 12).take 4) = true := by decide +kernel
theorem okS_179_4 : okC (pgB 179) (((pgCd 179).drop 16).take 4) = true := by decide +kernel
theorem okS_179_5 : okC (pgB 179) (((pgCd 179).drop 20).take 4) = true := by decide +kernel
theorem okS_179_6 : okC (pgB 179) (((pgCd 179).drop 24).take 4) = true := by decide +kernel
theorem okS_179_7 : okC (pgB 179) (((pgCd 179).drop 28).take 4) = true := by decide +kernel
theorem okS_179_8 : okC (pgB 179) (((pgCd 179).drop 32).take 1) = true := by decide +kernel
theorem okM_179 : okM (pgRw 179) = true := by decide +kernel
theorem okCd_179 : okC (pgB 179) (pgCd 179) = true := by
  have hz : okC (pgB 179) ((pgCd 179).drop 33) = true := by decide +kernel
  have hz : okC (pgB 179) ((pgCd 179).drop 32) = true := okC_cat _ 1 32 _ okS_179_8 hz
  have hz : okC (pgB 179) ((pgCd 179).drop 28) = true := okC_cat _ 4 28 _ okS_179_7 hz
  have hz : okC (pgB 179) ((pgCd 179).drop 24) = true := okC_cat _ 4 24 _ okS_179_6 hz
  have hz : okC (pgB 179) ((pgCd 179).drop 20) = true := okC_cat _ 4 20 _ okS_179_5 hz
  have hz : okC (pgB 179) ((pgCd 179).drop 16) = true := okC_cat _ 4 16 _ okS_179_4 hz
  have hz : okC (pgB 179) ((pgCd 179).drop 12) = true := okC_cat _ 4 12 _ okS_179_3 hz
  have hz : okC (pgB 179) ((pgCd 179).drop 8) = true := okC_cat _ 4 8 _ okS_179_2 hz
  have hz : okC (pgB 179) ((pgCd 179).drop 4) = true := okC_cat _ 4 4 _ okS_179_1 hz
  have hz : okC (pgB 179) ((pgCd 179).drop 0) = true := okC_cat _ 4 0 _ okS_179_0 hz
  exact hz
theorem okMid_179 : okMid 179 = true := by unfold okMid; rw [okCd_179, okM_179]; rfl
theorem okMid_180 : okMid 180 = true := by decide +kernel
theorem okMid_181 : okMid 181 = true := by decide +kernel
theorem okS_182_0 : okC (pgB 182) (((pgCd 182).drop 0).take 4) = true := by decide +kernel
theorem okS_182_1 : okC (pgB 182) (((pgCd 182).drop 4).take 4) = true := by decide +kernel
theorem okS_182_2 : okC (pgB 182) (((pgCd 182).drop 8).take 4) = true := by decide +kernel
theorem okS_182_3 : okC (pgB 182) (((pgCd 182).drop 12).take 4) = true := by decide +kernel
theorem okS_182_4 : okC (pgB 182) (((pgCd 182).drop 16).take 4) = true := by decide +kernel
theorem okS_182_5 : okC (pgB 182) (((pgCd 182).drop 20).take 1) = true := by decide +kernel
theorem okM_182 : okM (pgRw 182) = true := by decide +kernel
theorem okCd_182 : okC (pgB 182) (pgCd 182) = true := by
  have hz : okC (pgB 182) ((pgCd 182).drop 21) = true := by decide +kernel
  have hz : okC (pgB 182) ((pgCd 182).drop 20) = true := okC_cat _ 1 20 _ okS_182_5 hz
  have hz : okC (pgB 182) ((pgCd 182).drop 16) = true := okC_cat _ 4 16 _ okS_182_4 hz
  have hz : okC (pgB 182) ((pgCd 182).drop 12) = true := okC_cat _ 4 12 _ okS_182_3 hz
  have hz : okC (pgB 182) ((pgCd 182).drop 8) = true := okC_cat _ 4 8 _ okS_182_2 hz
  have hz : okC (pgB 182) ((pgCd 182).drop 4) = true := okC_cat _ 4 4 _ okS_182_1 hz
  have hz : okC (pgB 182) ((pgCd 182).drop 0) = true := okC_cat _ 4 0 _ okS_182_0 hz
  exact hz
theorem okMid_182 : okMid 182 = true := by unfold okMid; rw [okCd_182, okM_182]; rfl
theorem okS_183_0 : okC (pgB 183) (((pgCd 183).drop 0).take 4) = true := by decide +kernel
theorem okS_183_1 : okC (pgB 183) (((pgCd 183).drop 4).take 4) = true := by decide +kernel
theorem okS_183_2 : okC (pgB 183) (((pgCd 183).drop 8).take 4) = true := by decide +kernel
theorem okS_183_3 : okC (pgB 183) (((pgCd 183).drop 12).take 4) = true := by decide +kernel
theorem okM_183 : okM (pgRw 183) = true := by decide +kernel
theorem okCd_183 : okC (pgB 183) (pgCd 183) = true := by
  have hz : okC (pgB 183) ((pgCd 183).drop 16) = true := by decide +kernel
  have hz : okC (pgB 183) ((pgCd 183).drop 12) = true := okC_cat _ 4 12 _ okS_183_3 hz
  have hz : okC (pgB 183) ((pgCd 183).drop 8) = true := okC_cat _ 4 8 _ okS_183_2 hz
  have hz : okC (pgB 183) ((pgCd 183).drop 4) = true := okC_cat _ 4 4 _ okS_183_1 hz
  have hz : okC (pgB 183) ((pgCd 183).drop 0) = true := okC_cat _ 4 0 _ okS_183_0 hz
  exact hz
theorem okMid_183 : okMid 183 = true := by unfold okMid; rw [okCd_183, okM_183]; rfl
theorem okS_184_0 : okC (pgB 184) (((pgCd 184).drop 0).take 4) = true := by decide +kernel
theorem okS_184_1 : okC (pgB 184) (((pgCd 184).drop 4).take 4) = true := by decide +kernel
theorem okS_184_2 : okC (pgB 184) (((pgCd 184).drop 8).take 4) = true := by decide +kernel
theorem okS_184_3 : okC (pgB 184) (((pgCd 184).drop 12).take 4) = true := by decide +kernel
theorem okS_184_4 : okC (pgB 184) (((pgCd 184).drop 16).take 4) = true := by decide +kernel
theorem okM_184 : okM (pgRw 184) = true := by decide +kernel
theorem okCd_184 : okC (pgB 184) (pgCd 184) = true := by
  have hz : okC (pgB 184) ((pgCd 184).drop 20) = true := by decide +kernel
  have hz : okC (pgB 184) ((pgCd 184).drop 16) = true := okC_cat _ 4 16 _ okS_184_4 hz
  have hz : okC (pgB 184) ((pgCd 184).drop 12) = true := okC_cat _ 4 12 _ okS_184_3 hz
  have hz : okC (pgB 184) ((pgCd 184).drop 8) = true := okC_cat _ 4 8 _ okS_184_2 hz
  have hz : okC (pgB 184) ((pgCd 184).drop 4) = true := okC_cat _ 4 4 _ okS_184_1 hz
  have hz : okC (pgB 184) ((pgCd 184).drop 0) = true := okC_cat _ 4 0 _ okS_184_0 hz
  exact hz
theorem okMid_184 : okMid 184 = true := by unfold okMid; rw [okCd_184, okM_184]; rfl
theorem okS_185_0 : okC (pgB 185) (((pgCd 185).drop 0).take 4) = true := by decide +kernel
theorem okS_185_1 : okC (pgB 185) (((pgCd 185).drop 4).take 4) = true := by decide +kernel
theorem okS_185_2 : okC (pgB 185) (((pgCd 185).drop 8).take 4) = true := by decide +kernel
theorem okM_185 : okM (pgRw 185) = true := by decide +kernel
theorem okCd_185 : okC (pgB 185) (pgCd 185) = true := by
  have hz : okC (pgB 185) ((pgCd 185).drop 12) = true := by decide +kernel
  have hz : okC (pgB 185) ((pgCd 185).drop 8) = true := okC_cat _ 4 8 _ okS_185_2 hz
  have hz : okC (pgB 185) ((pgCd 185).drop 4) = true := okC_cat _ 4 4 _ okS_185_1 hz
  have hz : okC (pgB 185) ((pgCd 185).drop 0) = true := okC_cat _ 4 0 _ okS_185_0 hz
  exact hz
theorem okMid_185 : okMid 185 = true := by unfold okMid; rw [okCd_185, okM_185]; rfl
theorem okMid_186 : okMid 186 = true := by decide +kernel
theorem okS_187_0 : okC (pgB 187) (((pgCd 187).drop 0).take 4) = true := by decide +kernel
theorem okS_187_1 : okC (pgB 187) (((pgCd 187).drop 4).take 4) = true := by decide +kernel
theorem okM_187 : okM (pgRw 187) = true := by decide +kernel
theorem okCd_187 : okC (pgB 187) (pgCd 187) = true := by
  have hz : okC (pgB 187) ((pgCd 187).drop 8) = true := by decide +kernel
  have hz : okC (pgB 187) ((pgCd 187).drop 4) = true := okC_cat _ 4 4 _ okS_187_1 hz
  have hz : okC (pgB 187) ((pgCd 187).drop 0) = true := okC_cat _ 4 0 _ okS_187_0 hz
  exact hz
theorem okMid_187 : okMid 187 = true := by unfold okMid; rw [okCd_187, okM_187]; rfl
theorem okS_188_0 : okC (pgB 188) (((pgCd 188).drop 0).take 4) = true := by decide +kernel
theorem okS_188_1 : okC (pgB 188) (((pgCd 188).drop 4).take 4) = true := by decide +kernel
theorem okM_188 : okM (pgRw 188) = true := by decide +kernel
theorem okCd_188 : okC (pgB 188) (pgCd 188) = true := by
  have hz : okC (pgB 188) ((pgCd 188).drop 8) = true := by decide +kernel
  have hz : okC (pgB 188) ((pgCd 188).drop 4) = true := okC_cat _ 4 4 _ okS_188_1 hz
  have hz : okC (pgB 188) ((pgCd 188).drop 0) = true := okC_cat _ 4 0 _ okS_188_0 hz
  exact hz
theorem okMid_188 : okMid 188 = true := by unfold okMid; rw [okCd_188, okM_188]; rfl
end
section
theorem okMid_189 : okMid 189 = true := by decide +kernel
theorem okS_190_0 : okC (pgB 190) (((pgCd 190).drop 0).take 4) = true := by decide +kernel
theorem okS_190_1 : okC (pgB 190) (((pgCd 190).drop 4).take 4) = true := by decide +kernel
theorem okS_190_2 : okC (pgB 190) (((pgCd 190).drop 8).take 2) = true := by decide +kernel
theorem okM_190 : okM (pgRw 190) = true := by decide +kernel
theorem okCd_190 : okC (pgB 190) (pgCd 190) = true := by
  have hz : okC (pgB 190) ((pgCd 190).drop 10) = true := by decide +kernel
  have hz : okC (pgB 190) ((pgCd 190).drop 8) = true := okC_cat _ 2 8 _ okS_190_2 hz
  have hz : okC (pgB 190) ((pgCd 190).drop 4) = true := okC_cat _ 4 4 _ okS_190_1 hz
  have hz : okC (pgB 190) ((pgCd 190).drop 0) = true := okC_cat _ 4 0 _ okS_190_0 hz
  exact hz
theorem okMid_190 : okMid 190 = true := by unfold okMid; rw [okCd_190, okM_190]; rfl
theorem okMid_191 : okMid 191 = true := by decide +kernel
theorem okMid_192 : okMid 192 = true := by decide +kernel
theorem okMid_193 : okMid 193 = true := by decide +kernel
theorem okMid_194 : okMid 194 = true := by decide +kernel
theorem okMid_195 : okMid 195 = true := by decide +kernel
theorem okS_196_0 : okC (pgB 196) (((pgCd 196).drop 0).take 4) = true := by decide +kernel
theorem okS_196_1 : okC (pgB 196) (((pgCd 196).drop 4).take 4) = true := by decide +kernel
theorem okS_196_2 : okC (pgB 196) (((pgCd 196).drop 8).take 4) = true := by decide +kernel
theorem okM_196 : okM (pgRw 196) = true := by decide +kernel
theorem okCd_196 : okC (pgB 196) (pgCd 196) = true := by
  have hz : okC (pgB 196) ((pgCd 196).drop 12) = true := by decide +kernel
  have hz : okC (pgB 196) ((pgCd 196).drop 8) = true := okC_cat _ 4 8 _ okS_196_2 hz
  have hz : okC (pgB 196) ((pgCd 196).drop 4) = true := okC_cat _ 4 4 _ okS_196_1 hz
  have hz : okC (pgB 196) ((pgCd 196).drop 0) = true := okC_cat _ 4 0 _ okS_196_0 hz
  exact hz
theorem okMid_196 : okMid 196 = true := by unfold okMid; rw [okCd_196, okM_196]; rfl
theorem okS_197_0 : okC (pgB 197) (((pgCd 197).drop 0).take 4) = true := by decide +kernel
theorem okS_197_1 : okC (pgB 197) (((pgCd 197).drop 4).take 4) = true := by decide +kernel
theorem okS_197_2 : okC (pgB 197) (((pgCd 197).drop 8).take 2) = true := by decide +kernel
theorem okM_197 : okM (pgRw 197) = true := by decide +kernel
theorem okCd_197 : okC (pgB 197) (pgCd 197) = true := by
  have hz : okC (pgB 197) ((pgCd 197).drop 10) = true := by decide +kernel
  have hz : okC (pgB 197) ((pgCd 197).drop 8) = true := okC_cat _ 2 8 _ okS_197_2 hz
  have hz : okC (pgB 197) ((pgCd 197).drop 4) = true := okC_cat _ 4 4 _ okS_197_1 hz
  have hz : okC (pgB 197) ((pgCd 197).drop 0) = true := okC_cat _ 4 0 _ okS_197_0 hz
  exact hz
theorem okMid_197 : okMid 197 = true := by unfold okMid; rw [okCd_197, okM_197]; rfl
theorem okS_198_0 : okC (pgB 198) (((pgCd 198).drop 0).take 4) = true := by decide +kernel
theorem okS_198_1 : okC (pgB 198) (((pgCd 198).drop 4).take 4) = true := by decide +kernel
theorem okS_198_2 : okC (pgB 198) (((pgCd 198).drop 8).take 4) = true := by decide +kernel
theorem okM_198 : okM (pgRw 198) = true := by decide +kernel
theorem okCd_198 : okC (pgB 198) (pgCd 198) = true := by
  have hz : okC (pgB 198) ((pgCd 198).drop 12) = true := by decide +kernel
  have hz : okC (pgB 198) ((pgCd 198).drop 8) = true := okC_cat _ 4 8 _ okS_198_2 hz
  have hz : okC (pgB 198) ((pgCd 198).drop 4) = true := okC_cat _ 4 4 _ okS_198_1 hz
  have hz : okC (pgB 198) ((pgCd 198).drop 0) = true := okC_cat _ 4 0 _ okS_198_0 hz
  exact hz
theorem okMid_198 : okMid 198 = true := by unfold okMid; rw [okCd_198, okM_198]; rfl
theorem okMid_199 : okMid 199 = true := by decide +kernel
theorem okMid_200 : okMid 200 = true := by decide +kernel
theorem okS_201_0 : okC (pgB 201) (((pgCd 201).drop 0).take 4) = true := by decide +kernel
theorem okS_201_1 : okC (pgB 201) (((pgCd 201).drop 4).take 4) = true := by decide +kernel
theorem okS_201_2 : okC (pgB 201) (((pgCd 201).drop 8).take 4) = true := by decide +kernel
theorem okS_201_3 : okC (pgB 201) (((pgCd 201).drop 12).take 4) = true := by decide +kernel
theorem okS_201_4 : okC (pgB 201) (((pgCd 201).drop 16).take 4) = true := by decide +kernel
theorem okS_201_5 : okC (pgB 201) (((pgCd 201).drop 20).take 4) = true := by decide +kernel
theorem okS_201_6 : okC (pgB 201) (((pgCd 201).drop 24).take 4) = true := by decide +kernel
theorem okS_201_7 : okC (pgB 201) (((pgCd 201).drop 28).take 1) = true := by decide +kernel
theorem okM_201 : okM (pgRw 201) = true := by decide +kernel
theorem okCd_201 : okC (pgB 201) (pgCd 201) = true := by
  have hz : okC (pgB 201) ((pgCd 201).drop 29) = true := by decide +kernel
  have hz : okC (pgB 201) ((pgCd 201).drop 28) = true := okC_cat _ 1 28 _ okS_201_7 hz
  have hz : okC (pgB 201) ((pgCd 201).drop 24) = true := okC_cat _ 4 24 _ okS_201_6 hz
  have hz : okC (pgB 201) ((pgCd 201).drop 20) = true := okC_cat _ 4 20 _ okS_201_5 hz
  have hz : okC (pgB 201) ((pgCd 201).drop 16) = true := okC_cat _ 4 16 _ okS_201_4 hz
  have hz : okC (pgB 201) ((pgCd 201).drop 12) = true := okC_cat _ 4 12 _ okS_201_3 hz
  have hz : okC (pgB 201) ((pgCd 201).drop 8) = true := okC_cat _ 4 8 _ okS_201_2 hz
  have hz : okC (pgB 201) ((pgCd 201).drop 4) = true := okC_cat _ 4 4 _ okS_201_1 hz
  have hz : okC (pgB 201) ((pgCd 201).drop 0) = true := okC_cat _ 4 0 _ okS_201_0 hz
  exact hz
theorem okMid_201 : okMid 201 = true := by unfold okMid; rw [okCd_201, okM_201]; rfl
theorem okS_202_0 : okC (pgB 202) (((pgCd 202).drop 0).take 4) = true := by decide +kernel
theorem okS_202_1 : okC (pgB 202) (((pgCd 202).drop 4).take 4) = true := by decide +kernel
theorem okS_202_2 : okC (pgB 202) (((pgCd 202).drop 8).take 4) = true := by decide +kernel
theorem okS_202_3 : okC (pgB 202) (((pgCd 202).drop 12).take 4) = true := by decide +kernel
theorem okS_202_4 : okC (pgB 202) (((pgCd 202).drop 16).take 3) = true := by decide +kernel
theorem okM_202 : okM (pgRw 202) = true := by decide +kernel
theorem okCd_202 : okC (pgB 202) (pgCd 202) = true := by
  have hz : okC (pgB 202) ((pgCd 202).drop 19) = true := by decide +kernel
  have hz : okC (pgB 202) ((pgCd 202).drop 16) = true := okC_cat _ 3 16 _ okS_202_4 hz
  have hz : okC (pgB 202) ((pgCd 202).drop 12) = true := okC_cat _ 4 12 _ okS_202_3 hz
  have hz : okC (pgB 202) ((pgCd 202).drop 8) = true := okC_cat _ 4 8 _ okS_202_2 hz
  have hz : okC (pgB 202) ((pgCd 202).drop 4) = true := okC_cat _ 4 4 _ okS_202_1 hz
  have hz : okC (pgB 202) ((pgCd 202).drop 0) = true := okC_cat _ 4 0 _ okS_202_0 hz
  exact hz
theorem okMid_202 : okMid 202 = true := by unfold okMid; rw [okCd_202, okM_202]; rfl
theorem okMid_203 : okMid 203 = true := by decide +kernel
theorem okS_204_0 : okC (pgB 204) (((pgCd 204).drop 0).take 4) = true := by decide +kernel
theorem okS_204_1 : okC (pgB 204) (((pgCd 204).drop 4).take 4) = true := by decide +kernel
theorem okS_204_2 : okC (pgB 204) (((pgCd 204).drop 8).take 4) = true := by decide +kernel
theorem okS_204_3 : okC (pgB 204) (((pgCd 204).drop 12).take 4) = true := by decide +kernel
theorem okS_204_4 : okC (pgB 204) (((pgCd 204).drop 16).take 4) = true := by decide +kernel
theorem okS_204_5 : okC (pgB 204) (((pgCd 204).drop 20).take 2) = true := by decide +kernel
theorem okM_204 : okM (pgRw 204) = true := by decide +kernel
theorem okCd_204 : okC (pgB 204) (pgCd 204) = true := by
  have hz : okC (pgB 204) ((pgCd 204).drop 22) = true := by decide +kernel
  have hz : okC (pgB 204) ((pgCd 204).drop 20) = true := okC_cat _ 2 20 _ okS_204_5 hz
  have hz : okC (pgB 204) ((pgCd 204).drop 16) = true := okC_cat _ 4 16 _ okS_204_4 hz
  have hz : okC (pgB 204) ((pgCd 204).drop 12) = true := okC_cat _ 4 12 _ okS_204_3 hz
  have hz : okC (pgB 204) ((pgCd 204).drop 8) = true := okC_cat _ 4 8 _ okS_204_2 hz
  have hz : okC (pgB 204) ((pgCd 204).drop 4) = true := okC_cat _ 4 4 _ okS_204_1 hz
  have hz : okC (pgB 204) ((pgCd 204).drop 0) = true := okC_cat _ 4 0 _ okS_204_0 hz
  exact hz
theorem okMid_204 : okMid 204 = true := by unfold okMid; rw [okCd_204, okM_204]; rfl
theorem okS_205_0 : okC (pgB 205) (((pgCd 205).drop 0).take 4) = true := by decide +kernel
theorem okS_205_1 : okC (pgB 205) (((pgCd 205).drop 4).take 4) = true := by decide +kernel
theorem okS_205_2 : okC (pgB 205) (((pgCd 205).drop 8).take 4) = true := by decide +kernel
theorem okM_205 : okM (pgRw 205) = true := by decide +kernel
theorem okCd_205 : okC (pgB 205) (pgCd 205) = true := by
  have hz : okC (pgB 205) ((pgCd 205).drop 12) = true := by decide +kernel
  have hz : okC (pgB 205) ((pgCd 205).drop 8) = true := okC_cat _ 4 8 _ okS_205_2 hz
  have hz : okC (pgB 205) ((pgCd 205).drop 4) = true := okC_cat _ 4 4 _ okS_205_1 hz
  have hz : okC (pgB 205) ((pgCd 205).drop 0) = true := okC_cat _ 4 0 _ okS_205_0 hz
  exact hz
theorem okMid_205 : okMid 205 = true := by unfold okMid; rw [okCd_205, okM_205]; rfl
theorem okMid_206 : okMid 206 = true := by decide +kernel
theorem okMid_207 : okMid 207 = true := by decide +kernel
theorem okMid_208 : okMid 208 = true := by decide +kernel
theorem okS_209_0 : okC (pgB 209) (((pgCd 209).drop 0).take 4) = true := by decide +kernel
theorem okS_209_1 : okC (pgB 209) (((pgCd 209).drop 4).take 4) = true := by decide +kernel
theorem okS_209_2 : okC (pgB 209) (((pgCd 209).drop 8).take 3) = true := by decide +kernel
theorem okM_209 : okM (pgRw 209) = true := by decide +kernel
theorem okCd_209 : okC (pgB 209) (pgCd 209) = true := by
  have hz : okC (pgB 209) ((pgCd 209).drop 11) = true := by decide +kernel
  have hz : okC (pgB 209) ((pgCd 209).drop 8) = true := okC_cat _ 3 8 _ okS_209_2 hz
  have hz : okC (pgB 209) ((pgCd 209).drop 4) = true := okC_cat _ 4 4 _ okS_209_1 hz
  have hz : okC (pgB 209) ((pgCd 209).drop 0) = true := okC_cat _ 4 0 _ okS_209_0 hz
  exact hz
theorem okMid_209 : okMid 209 = true := by unfold okMid; rw [okCd_209, okM_209]; rfl
theorem okS_210_0 : okC (pgB 210) (((pgCd 210).drop 0).take 4) = true := by decide +kernel
theorem okS_210_1 : okC (pgB 210) (((pgCd 210).drop 4).take 4) = true := by decide +kernel
theorem okS_210_2 : okC (pgB 210) (((pgCd 210).drop 8).take 1) = true := by decide +kernel
theorem okM_210 : okM (pgRw 210) = true := by decide +kernel
theorem okCd_210 : okC (pgB 210) (pgCd 210) = true := by
  have hz : okC (pgB 210) ((pgCd 210).drop 9) = true := by decide +kernel
  have hz : okC (pgB 210) ((pgCd 210).drop 8) = true := okC_cat _ 1 8 _ okS_210_2 hz
  have hz : okC (pgB 210) ((pgCd 210).drop 4) = true := okC_cat _ 4 4 _ okS_210_1 hz
  have hz : okC (pgB 210) ((pgCd 210).drop 0) = true := okC_cat _ 4 0 _ okS_210_0 hz
  exact hz
theorem okMid_210 : okMid 210 = true := by unfold okMid; rw [okCd_210, okM_210]; rfl
theorem okS_211_0 : okC (pgB 211) (((pgCd 211).drop 0).take 4) = true := by decide +kernel
theorem okS_211_1 : okC (pgB 211) (((pgCd 211).drop 4).take 4) = true := by decide +kernel
theorem okS_211_2 : okC (pgB 211) (((pgCd 211).drop 8).take 1) = true := by decide +kernel
theorem okM_211 : okM (pgRw 211) = true := by decide +kernel
theorem okCd_211 : okC (pgB 211) (pgCd 211) = true := by
  have hz : okC (pgB 211) ((pgCd 211).drop 9) = true := by decide +kernel
  have hz : okC (pgB 211) ((pgCd 211).drop 8) = true := okC_cat _ 1 8 _ okS_211_2 hz
  have hz : okC (pgB 211) ((pgCd 211).drop 4) = true := okC_cat _ 4 4 _ okS_211_1 hz
  have hz : okC (pgB 211) ((pgCd 211).drop 0) = true := okC_cat _ 4 0 _ okS_211_0 hz
  exact hz
theorem okMid_211 : okMid 211 = true := by unfold okMid; rw [okCd_211, okM_211]; rfl
theorem okMid_212 : okMid 212 = true := by decide +kernel
theorem okS_213_0 : okC (pgB 213) (((pgCd 213).drop 0).take 4) = true := by decide +kernel
theorem okS_213_1 : okC (pgB 213) (((pgCd 213).drop 4).take 4) = true := by decide +kernel
theorem okM_213 : okM (pgRw 213) = true := by decide +kernel
theorem okCd_213 : okC (pgB 213) (pgCd 213) = true := by
  have hz : okC (pgB 213) ((pgCd 213).drop 8) = true := by decide +kernel
  have hz : okC (pgB 213) ((pgCd 213).drop 4) = true := okC_cat _ 4 4 _ okS_213_1 hz
  have hz : okC (pgB 213) ((pgCd 213).drop 0) = true := okC_cat _ 4 0 _ okS_213_0 hz
  exact hz
theorem okMid_213 : okMid 213 = true := by unfold okMid; rw [okCd_213, okM_213]; rfl
theorem okS_214_0 : okC (pgB 214) (((pgCd 214).drop 0).take 4) = true := by decide +kernel
theorem okS_214_1 : okC (pgB 214) (((pgCd 214).drop 4).take 4) = true := by decide +kernel
theorem okS_214_2 : okC (pgB 214) (((pgCd 214).drop 8).take 2) = true := by decide +kernel
theorem okM_214 : okM (pgRw 214) = true := by decide +kernel
theorem okCd_214 : okC (pgB 214) (pgCd 214) = true := by
  have hz : okC (pgB 214) ((pgCd 214).drop 10) = true := by decide +kernel
  have hz : okC (pgB 214) ((pgCd 214).drop 8) = true := okC_cat _ 2 8 _ okS_214_2 hz
  have hz : okC (pgB 214) ((pgCd 214).drop 4) = true := okC_cat _ 4 4 _ okS_214_1 hz
  have hz : okC (pgB 214) ((pgCd 214).drop 0) = true := okC_cat _ 4 0 _ okS_214_0 hz
  exact hz
theorem okMid_214 : okMid 214 = true := by unfold okMid; rw [okCd_214, okM_214]; rfl
theorem okS_215_0 : okC (pgB 215) (((pgCd 215).drop 0).take 4) = true := by decide +kernel
theorem okS_215_1 : okC (pgB 215) (((pgCd 215).drop 4).take 4) = true := by decide +kernel
theorem okS_215_2 : okC (pgB 215) (((pgCd 215).drop 8).take 4) = true := by decide +kernel
theorem okS_215_3 : okC (pgB 215) (((pgCd 215).drop 12).take 4) = true := by decide +kernel
theorem okS_215_4 : okC (pgB 215) (((pgCd 215).drop 16).take 4) = true := by decide +kernel
theorem okS_215_5 : okC (pgB 215) (((pgCd 215).drop 20).take 4) = true := by decide +kernel
theorem okS_215_6 : okC (pgB 215) (((pgCd 215).drop 24).take 4) = true := by decide +kernel
theorem okS_215_7 : okC (pgB 215) (((pgCd 215).drop 28).take 1) = true := by decide +kernel
theorem okM_215 : okM (pgRw 215) = true := by decide +kernel
theorem okCd_215 : okC (pgB 215) (pgCd 215) = true := by
  have hz : okC (pgB 215) ((pgCd 215).drop 29) = true := by decide +kernel
  have hz : okC (pgB 215) ((pgCd 215).drop 28) = true := okC_cat _ 1 28 _ okS_215_7 hz
  have hz : okC (pgB 215) ((pgCd 215).drop 24) = true := okC_cat _ 4 24 _ okS_215_6 hz
  have hz : okC (pgB 215) ((pgCd 215).drop 20) = true := okC_cat _ 4 20 _ okS_215_5 hz
  have hz : okC (pgB 215) ((pgCd 215).drop 16) = true := okC_cat _ 4 16 _ okS_215_4 hz
  have hz : okC (pgB 215) ((pgCd 215).drop 12) = true := okC_cat _ 4 12 _ okS_215_3 hz
  have hz : okC (pgB 215) ((pgCd 215).drop 8) = true := okC_cat _ 4 8 _ okS_215_2 hz
  have hz : okC (pgB 215) ((pgCd 215).drop 4) = true := okC_cat _ 4 4 _ okS_215_1 hz
  have hz : okC (pgB 215) ((pgCd 215).drop 0) = true := okC_cat _ 4 0 _ okS_215_0 hz
  exact hz
theorem okMid_215 : okMid 215 = true := by unfold okMid; rw [okCd_215, okM_215]; rfl
theorem okS_216_0 : okC (pgB 216) (((pgCd 216).drop 0).take 4) = true := by decide +kernel
theorem okS_216_1 : okC (pgB 216) (((pgCd 216).drop 4).take 4) = true := by decide +kernel
theorem okS_216_2 : okC (pgB 216) (((pgCd 216).drop 8).take 3) = true := by decide +kernel
theorem okM_216 : okM (pgRw 216) = true := by decide +kernel
theorem okCd_216 : okC (pgB 216) (pgCd 216) = true := by
  have hz : okC (pgB 216) ((pgCd 216).drop 11) = true := by decide +kernel
  have hz : okC (pgB 216) ((pgCd 216).drop 8) = true := okC_cat _ 3 8 _ okS_216_2 hz
  have hz : okC (pgB 216) ((pgCd 216).drop 4) = true := okC_cat _ 4 4 _ okS_216_1 hz
  have hz : okC (pgB 216) ((pgCd 216).drop 0) = true := okC_cat _ 4 0 _ okS_216_0 hz
  exact hz
theorem okMid_216 : okMid 216 = true := by unfold okMid; rw [okCd_216, okM_216]; rfl
theorem okS_217_0 : okC (pgB 217) (((pgCd 217).drop 0).take 4) = true := by decide +kernel
theorem okS_217_1 : okC (pgB 217) (((pgCd 217).drop 4).take 4) = true := by decide +kernel
theorem okS_217_2 : okC (pgB 217) (((pgCd 217).drop 8).take 4) = true := by decide +kernel
theorem okM_217 : okM (pgRw 217) = true := by decide +kernel
theorem okCd_217 : okC (pgB 217) (pgCd 217) = true := by
  have hz : okC (pgB 217) ((pgCd 217).drop 12) = true := by decide +kernel
  have hz : okC (pgB 217) ((pgCd 217).drop 8) = true := okC_cat _ 4 8 _ okS_217_2 hz
  have hz : okC (pgB 217) ((pgCd 217).drop 4) = true := okC_cat _ 4 4 _ okS_217_1 hz
  have hz : okC (pgB 217) ((pgCd 217).drop 0) = true := okC_cat _ 4 0 _ okS_217_0 hz
  exact hz
theorem okMid_217 : okMid 217 = true := by unfold okMid; rw [okCd_217, okM_217]; rfl
theorem okS_218_0 : okC (pgB 218) (((pgCd 218).drop 0).take 4) = true := by decide +kernel
theorem okS_218_1 : okC (pgB 218) (((pgCd 218).drop 4).take 4) = true := by decide +kernel
theorem okS_218_2 : okC (pgB 218) (((pgCd 218).drop 8).take 3) = true := by decide +kernel
theorem okM_218 : okM (pgRw 218) = true := by decide +kernel
theorem okCd_218 : okC (pgB 218) (pgCd 218) = true := by
  have hz : okC (pgB 218) ((pgCd 218).drop 11) = true := by decide +kernel
  have hz : okC (pgB 218) ((pgCd 218).drop 8) = true := okC_cat _ 3 8 _ okS_218_2 hz
  have hz : okC (pgB 218) ((pgCd 218).drop 4) = true := okC_cat _ 4 4 _ okS_218_1 hz
  have hz : okC (pgB 218) ((pgCd 218).drop 0) = true := okC_cat _ 4 0 _ okS_218_0 hz
  exact hz
theorem okMid_218 : okMid 218 = true := by unfold okMid; rw [okCd_218, okM_218]; rfl
end
section
theorem okS_219_0 : okC (pgB 219) (((pgCd 219).drop 0).take 4) = true := by decide +kernel
theorem okS_219_1 : okC (pgB 219) (((pgCd 219).drop 4).take 4) = true := by decide +kernel
theorem okS_219_2 : okC (pgB 219) (((pgCd 219).drop 8).take 4) = true := by decide +kernel
theorem okS_219_3 : okC (pgB 219) (((pgCd 219).drop 12).take 1) = true := by decide +kernel
theorem okM_219 : okM (pgRw 219) = true := by decide +kernel
theorem okCd_219 : okC (pgB 219) (pgCd 219) = true := by
  have hz : okC (pgB 219) ((pgCd 219).drop 13) = true := by decide +kernel
  have hz : okC (pgB 219) ((pgCd 219).drop 12) = true := okC_cat _ 1 12 _ okS_219_3 hz
  have hz : okC (pgB 219) ((pgCd 219).drop 8) = true := okC_cat _ 4 8 _ okS_219_2 hz
  have hz : okC (pgB 219) ((pgCd 219).drop 4) = true := okC_cat _ 4 4 _ okS_219_1 hz
  have hz : okC (pgB 219) ((pgCd 219).drop 0) = true := okC_cat _ 4 0 _ okS_219_0 hz
  exact hz
theorem okMid_219 : okMid 219 = true := by unfold okMid; rw [okCd_219, okM_219]; rfl
theorem okS_220_0 : okC (pgB 220) (((pgCd 220).drop 0).take 4) = true := by decide +kernel
theorem okS_220_1 : okC (pgB 220) (((pgCd 220).drop 4).take 3) = true := by decide +kernel
theorem okM_220 : okM (pgRw 220) = true := by decide +kernel
theorem okCd_220 : okC (pgB 220) (pgCd 220) = true := by
  have hz : okC (pgB 220) ((pgCd 220).drop 7) = true := by decide +kernel
  have hz : okC (pgB 220) ((pgCd 220).drop 4) = true := okC_cat _ 3 4 _ okS_220_1 hz
  have hz : okC (pgB 220) ((pgCd 220).drop 0) = true := okC_cat _ 4 0 _ okS_220_0 hz
  exact hz
theorem okMid_220 : okMid 220 = true := by unfold okMid; rw [okCd_220, okM_220]; rfl
theorem okS_221_0 : okC (pgB 221) (((pgCd 221).drop 0).take 4) = true := by decide +kernel
theorem okS_221_1 : okC (pgB 221) (((pgCd 221).drop 4).take 4) = true := by decide +kernel
theorem okS_221_2 : okC (pgB 221) (((pgCd 221).drop 8).take 4) = true := by decide +kernel
theorem okS_221_3 : okC (pgB 221) (((pgCd 221).drop 12).take 4) = true := by decide +kernel
theorem okM_221 : okM (pgRw 221) = true := by decide +kernel
theorem okCd_221 : okC (pgB 221) (pgCd 221) = true := by
  have hz : okC (pgB 221) ((pgCd 221).drop 16) = true := by decide +kernel
  have hz : okC (pgB 221) ((pgCd 221).drop 12) = true := okC_cat _ 4 12 _ okS_221_3 hz
  have hz : okC (pgB 221) ((pgCd 221).drop 8) = true := okC_cat _ 4 8 _ okS_221_2 hz
  have hz : okC (pgB 221) ((pgCd 221).drop 4) = true := okC_cat _ 4 4 _ okS_221_1 hz
  have hz : okC (pgB 221) ((pgCd 221).drop 0) = true := okC_cat _ 4 0 _ okS_221_0 hz
  exact hz
theorem okMid_221 : okMid 221 = true := by unfold okMid; rw [okCd_221, okM_221]; rfl
theorem okS_222_0 : okC (pgB 222) (((pgCd 222).drop 0).take 4) = true := by decide +kernel
theorem okS_222_1 : okC (pgB 222) (((pgCd 222).drop 4).take 4) = true := by decide +kernel
theorem okM_222 : okM (pgRw 222) = true := by decide +kernel
theorem okCd_222 : okC (pgB 222) (pgCd 222) = true := by
  have hz : okC (pgB 222) ((pgCd 222).drop 8) = true := by decide +kernel
  have hz : okC (pgB 222) ((pgCd 222).drop 4) = true := okC_cat _ 4 4 _ okS_222_1 hz
  have hz : okC (pgB 222) ((pgCd 222).drop 0) = true := okC_cat _ 4 0 _ okS_222_0 hz
  exact hz
theorem okMid_222 : okMid 222 = true := by unfold okMid; rw [okCd_222, okM_222]; rfl
theorem okS_223_0 : okC (pgB 223) (((pgCd 223).drop 0).take 4) = true := by decide +kernel
theorem okS_223_1 : okC (pgB 223) (((pgCd 223).drop 4).take 4) = true := by decide +kernel
theorem okS_223_2 : okC (pgB 223) (((pgCd 223).drop 8).take 4) = true := by decide +kernel
theorem okS_223_3 : okC (pgB 223) (((pgCd 223).drop 12).take 4) = true := by decide +kernel
theorem okM_223 : okM (pgRw 223) = true := by decide +kernel
theorem okCd_223 : okC (pgB 223) (pgCd 223) = true := by
  have hz : okC (pgB 223) ((pgCd 223).drop 16) = true := by decide +kernel
  have hz : okC (pgB 223) ((pgCd 223).drop 12) = true := okC_cat _ 4 12 _ okS_223_3 hz
  have hz : okC (pgB 223) ((pgCd 223).drop 8) = true := okC_cat _ 4 8 _ okS_223_2 hz
  have hz : okC (pgB 223) ((pgCd 223).drop 4) = true := okC_cat _ 4 4 _ okS_223_1 hz
  have hz : okC (pgB 223) ((pgCd 223).drop 0) = true := okC_cat _ 4 0 _ okS_223_0 hz
  exact hz
theorem okMid_223 : okMid 223 = true := by unfold okMid; rw [okCd_223, okM_223]; rfl
theorem okMid_224 : okMid 224 = true := by decide +kernel
theorem okMid_225 : okMid 225 = true := by decide +kernel
theorem okS_226_0 : okC (pgB 226) (((pgCd 226).drop 0).take 4) = true := by decide +kernel
theorem okS_226_1 : okC (pgB 226) (((pgCd 226).drop 4).take 4) = true := by decide +kernel
theorem okS_226_2 : okC (pgB 226) (((pgCd 226).drop 8).take 2) = true := by decide +kernel
theorem okM_226 : okM (pgRw 226) = true := by decide +kernel
theorem okCd_226 : okC (pgB 226) (pgCd 226) = true := by
  have hz : okC (pgB 226) ((pgCd 226).drop 10) = true := by decide +kernel
  have hz : okC (pgB 226) ((pgCd 226).drop 8) = true := okC_cat _ 2 8 _ okS_226_2 hz
  have hz : okC (pgB 226) ((pgCd 226).drop 4) = true := okC_cat _ 4 4 _ okS_226_1 hz
  have hz : okC (pgB 226) ((pgCd 226).drop 0) = true := okC_cat _ 4 0 _ okS_226_0 hz
  exact hz
theorem okMid_226 : okMid 226 = true := by unfold okMid; rw [okCd_226, okM_226]; rfl
theorem okS_227_0 : okC (pgB 227) (((pgCd 227).drop 0).take 4) = true := by decide +kernel
theorem okS_227_1 : okC (pgB 227) (((pgCd 227).drop 4).take 4) = true := by decide +kernel
theorem okS_227_2 : okC (pgB 227) (((pgCd 227).drop 8).take 2) = true := by decide +kernel
theorem okM_227 : okM (pgRw 227) = true := by decide +kernel
theorem okCd_227 : okC (pgB 227) (pgCd 227) = true := by
  have hz : okC (pgB 227) ((pgCd 227).drop 10) = true := by decide +kernel
  have hz : okC (pgB 227) ((pgCd 227).drop 8) = true := okC_cat _ 2 8 _ okS_227_2 hz
  have hz : okC (pgB 227) ((pgCd 227).drop 4) = true := okC_cat _ 4 4 _ okS_227_1 hz
  have hz : okC (pgB 227) ((pgCd 227).drop 0) = true := okC_cat _ 4 0 _ okS_227_0 hz
  exact hz
theorem okMid_227 : okMid 227 = true := by unfold okMid; rw [okCd_227, okM_227]; rfl
theorem okS_228_0 : okC (pgB 228) (((pgCd 228).drop 0).take 4) = true := by decide +kernel
theorem okS_228_1 : okC (pgB 228) (((pgCd 228).drop 4).take 4) = true := by decide +kernel
theorem okS_228_2 : okC (pgB 228) (((pgCd 228).drop 8).take 4) = true := by decide +kernel
theorem okS_228_3 : okC (pgB 228) (((pgCd 228).drop 12).take 2) = true := by decide +kernel
theorem okM_228 : okM (pgRw 228) = true := by decide +kernel
theorem okCd_228 : okC (pgB 228) (pgCd 228) = true := by
  have hz : okC (pgB 228) ((pgCd 228).drop 14) = true := by decide +kernel
  have hz : okC (pgB 228) ((pgCd 228).drop 12) = true := okC_cat _ 2 12 _ okS_228_3 hz
  have hz : okC (pgB 228) ((pgCd 228).drop 8) = true := okC_cat _ 4 8 _ okS_228_2 hz
  have hz : okC (pgB 228) ((pgCd 228).drop 4) = true := okC_cat _ 4 4 _ okS_228_1 hz
  have hz : okC (pgB 228) ((pgCd 228).drop 0) = true := okC_cat _ 4 0 _ okS_228_0 hz
  exact hz
theorem okMid_228 : okMid 228 = true := by unfold okMid; rw [okCd_228, okM_228]; rfl
theorem okS_229_0 : okC (pgB 229) (((pgCd 229).drop 0).take 4) = true := by decide +kernel
theorem okS_229_1 : okC (pgB 229) (((pgCd 229).drop 4).take 4) = true := by decide +kernel
theorem okS_229_2 : okC (pgB 229) (((pgCd 229).drop 8).take 4) = true := by decide +kernel
theorem okS_229_3 : okC (pgB 229) (((pgCd 229).drop 12).take 4) = true := by decide +kernel
theorem okS_229_4 : okC (pgB 229) (((pgCd 229).drop 16).take 4) = true := by decide +kernel
theorem okS_229_5 : okC (pgB 229) (((pgCd 229).drop 20).take 4) = true := by decide +kernel
theorem okS_229_6 : okC (pgB 229) (((pgCd 229).drop 24).take 4) = true := by decide +kernel
theorem okS_229_7 : okC (pgB 229) (((pgCd 229).drop 28).take 4) = true := by decide +kernel
theorem okS_229_8 : okC (pgB 229) (((pgCd 229).drop 32).take 4) = true := by decide +kernel
theorem okS_229_9 : okC (pgB 229) (((pgCd 229).drop 36).take 1) = true := by decide +kernel
theorem okM_229 : okM (pgRw 229) = true := by decide +kernel
theorem okCd_229 : okC (pgB 229) (pgCd 229) = true := by
  have hz : okC (pgB 229) ((pgCd 229).drop 37) = true := by decide +kernel
  have hz : okC (pgB 229) ((pgCd 229).drop 36) = true := okC_cat _ 1 36 _ okS_229_9 hz
  have hz : okC (pgB 229) ((pgCd 229).drop 32) = true := okC_cat _ 4 32 _ okS_229_8 hz
  have hz : okC (pgB 229) ((pgCd 229).drop 28) = true := okC_cat _ 4 28 _ okS_229_7 hz
  have hz : okC (pgB 229) ((pgCd 229).drop 24) = true := okC_cat _ 4 24 _ okS_229_6 hz
  have hz : okC (pgB 229) ((pgCd 229).drop 20) = true := okC_cat _ 4 20 _ okS_229_5 hz
  have hz : okC (pgB 229) ((pgCd 229).drop 16) = true := okC_cat _ 4 16 _ okS_229_4 hz
  have hz : okC (pgB 229) ((pgCd 229).drop 12) = true := okC_cat _ 4 12 _ okS_229_3 hz
  have hz : okC (pgB 229) ((pgCd 229).drop 8) = true := okC_cat _ 4 8 _ okS_229_2 hz
  have hz : okC (pgB 229) ((pgCd 229).drop 4) = true := okC_cat _ 4 4 _ okS_229_1 hz
  have hz : okC (pgB 229) ((pgCd 229).drop 0) = true := okC_cat _ 4 0 _ okS_229_0 hz
  exact hz
theorem okMid_229 : okMid 229 = true := by unfold okMid; rw [okCd_229, okM_229]; rfl
theorem okS_230_0 : okC (pgB 230) (((pgCd 230).drop 0).take 4) = true := by decide +kernel
theorem okS_230_1 : okC (pgB 230) (((pgCd 230).drop 4).take 3) = true := by decide +kernel
theorem okM_230 : okM (pgRw 230) = true := by decide +kernel
theorem okCd_230 : okC (pgB 230) (pgCd 230) = true := by
  have hz : okC (pgB 230) ((pgCd 230).drop 7) = true := by decide +kernel
  have hz : okC (pgB 230) ((pgCd 230).drop 4) = true := okC_cat _ 3 4 _ okS_230_1 hz
  have hz : okC (pgB 230) ((pgCd 230).drop 0) = true := okC_cat _ 4 0 _ okS_230_0 hz
  exact hz
theorem okMid_230 : okMid 230 = true := by unfold okMid; rw [okCd_230, okM_230]; rfl
theorem okS_231_0 : okC (pgB 231) (((pgCd 231).drop 0).take 4) = true := by decide +kernel
theorem okS_231_1 : okC (pgB 231) (((pgCd 231).drop 4).take 4) = true := by decide +kernel
theorem okS_231_2 : okC (pgB 231) (((pgCd 231).drop 8).take 2) = true := by decide +kernel
theorem okM_231 : okM (pgRw 231) = true := by decide +kernel
theorem okCd_231 : okC (pgB 231) (pgCd 231) = true := by
  have hz : okC (pgB 231) ((pgCd 231).drop 10) = true := by decide +kernel
  have hz : okC (pgB 231) ((pgCd 231).drop 8) = true := okC_cat _ 2 8 _ okS_231_2 hz
  have hz : okC (pgB 231) ((pgCd 231).drop 4) = true := okC_cat _ 4 4 _ okS_231_1 hz
  have hz : okC (pgB 231) ((pgCd 231).drop 0) = true := okC_cat _ 4 0 _ okS_231_0 hz
  exact hz
theorem okMid_231 : okMid 231 = true := by unfold okMid; rw [okCd_231, okM_231]; rfl
theorem okS_232_0 : okC (pgB 232) (((pgCd 232).drop 0).take 4) = true := by decide +kernel
theorem okS_232_1 : okC (pgB 232) (((pgCd 232).drop 4).take 4) = true := by decide +kernel
theorem okS_232_2 : okC (pgB 232) (((pgCd 232).drop 8).take 1) = true := by decide +kernel
theorem okM_232 : okM (pgRw 232) = true := by decide +kernel
theorem okCd_232 : okC (pgB 232) (pgCd 232) = true := by
  have hz : okC (pgB 232) ((pgCd 232).drop 9) = true := by decide +kernel
  have hz : okC (pgB 232) ((pgCd 232).drop 8) = true := okC_cat _ 1 8 _ okS_232_2 hz
  have hz : okC (pgB 232) ((pgCd 232).drop 4) = true := okC_cat _ 4 4 _ okS_232_1 hz
  have hz : okC (pgB 232) ((pgCd 232).drop 0) = true := okC_cat _ 4 0 _ okS_232_0 hz
  exact hz
theorem okMid_232 : okMid 232 = true := by unfold okMid; rw [okCd_232, okM_232]; rfl
theorem okMid_233 : okMid 233 = true := by decide +kernel
theorem okMid_234 : okMid 234 = true := by decide +kernel
theorem okS_235_0 : okC (pgB 235) (((pgCd 235).drop 0).take 4) = true := by decide +kernel
theorem okS_235_1 : okC (pgB 235) (((pgCd 235).drop 4).take 4) = true := by decide +kernel
theorem okS_235_2 : okC (pgB 235) (((pgCd 235).drop 8).take 1) = true := by decide +kernel
theorem okM_235 : okM (pgRw 235) = true := by decide +kernel
theorem okCd_235 : okC (pgB 235) (pgCd 235) = true := by
  have hz : okC (pgB 235) ((pgCd 235).drop 9) = true := by decide +kernel
  have hz : okC (pgB 235) ((pgCd 235).drop 8) = true := okC_cat _ 1 8 _ okS_235_2 hz
  have hz : okC (pgB 235) ((pgCd 235).drop 4) = true := okC_cat _ 4 4 _ okS_235_1 hz
  have hz : okC (pgB 235) ((pgCd 235).drop 0) = true := okC_cat _ 4 0 _ okS_235_0 hz
  exact hz
theorem okMid_235 : okMid 235 = true := by unfold okMid; rw [okCd_235, okM_235]; rfl
theorem okS_236_0 : okC (pgB 236) (((pgCd 236).drop 0).take 4) = true := by decide +kernel
theorem okS_236_1 : okC (pgB 236) (((pgCd 236).drop 4).take 4) = true := by decide +kernel
theorem okS_236_2 : okC (pgB 236) (((pgCd 236).drop 8).take 4) = true := by decide +kernel
theorem okS_236_3 : okC (pgB 236) (((pgCd 236).drop 12).take 4) = true := by decide +kernel
theorem okS_236_4 : okC (pgB 236) (((pgCd 236).drop 16).take 4) = true := by decide +kernel
theorem okS_236_5 : okC (pgB 236) (((pgCd 236).drop 20).take 4) = true := by decide +kernel
theorem okS_236_6 : okC (pgB 236) (((pgCd 236).drop 24).take 4) = true := by decide +kernel
theorem okS_236_7 : okC (pgB 236) (((pgCd 236).drop 28).take 2) = true := by decide +kernel
theorem okM_236 : okM (pgRw 236) = true := by decide +kernel
theorem okCd_236 : okC (pgB 236) (pgCd 236) = true := by
  have hz : okC (pgB 236) ((pgCd 236).drop 30) = true := by decide +kernel
  have hz : okC (pgB 236) ((pgCd 236).drop 28) = true := okC_cat _ 2 28 _ okS_236_7 hz
  have hz : okC (pgB 236) ((pgCd 236).drop 24) = true := okC_cat _ 4 24 _ okS_236_6 hz
  have hz : okC (pgB 236) ((pgCd 236).drop 20) = true := okC_cat _ 4 20 _ okS_236_5 hz
  have hz : okC (pgB 236) ((pgCd 236).drop 16) = true := okC_cat _ 4 16 _ okS_236_4 hz
  have hz : okC (pgB 236) ((pgCd 236).drop 12) = true := okC_cat _ 4 12 _ okS_236_3 hz
  have hz : okC (pgB 236) ((pgCd 236).drop 8) = true := okC_cat _ 4 8 _ okS_236_2 hz
  have hz : okC (pgB 236) ((pgCd 236).drop 4) = true := okC_cat _ 4 4 _ okS_236_1 hz
  have hz : okC (pgB 236) ((pgCd 236).drop 0) = true := okC_cat _ 4 0 _ okS_236_0 hz
  exact hz
theorem okMid_236 : okMid 236 = true := by unfold okMid; rw [okCd_236, okM_236]; rfl
theorem okS_237_0 : okC (pgB 237) (((pgCd 237).drop 0).take 4) = true := by decide +kernel
theorem okS_237_1 : okC (pgB 237) (((pgCd 237).drop 4).take 4) = true := by decide +kernel
theorem okS_237_2 : okC (pgB 237) (((pgCd 237).drop 8).take 4) = true := by decide +kernel
theorem okS_237_3 : okC (pgB 237) (((pgCd 237).drop 12).take 4) = true := by decide +kernel
theorem okS_237_4 : okC (pgB 237) (((pgCd 237).drop 16).take 4) = true := by decide +kernel
theorem okS_237_5 : okC (pgB 237) (((pgCd 237).drop 20).take 4) = true := by decide +kernel
theorem okS_237_6 : okC (pgB 237) (((pgCd 237).drop 24).take 2) = true := by decide +kernel
theorem okM_237 : okM (pgRw 237) = true := by decide +kernel
theorem okCd_237 : okC (pgB 237) (pgCd 237) = true := by
  have hz : okC (pgB 237) ((pgCd 237).drop 26) = true := by decide +kernel
  have hz : okC (pgB 237) ((pgCd 237).drop 24) = true := okC_cat _ 2 24 _ okS_237_6 hz
  have hz : okC (pgB 237) ((pgCd 237).drop 20) = true := okC_cat _ 4 20 _ okS_237_5 hz
  have hz : okC (pgB 237) ((pgCd 237).drop 16) = true := okC_cat _ 4 16 _ okS_237_4 hz
  have hz : okC (pgB 237) ((pgCd 237).drop 12) = true := okC_cat _ 4 12 _ okS_237_3 hz
  have hz : okC (pgB 237) ((pgCd 237).drop 8) = true := okC_cat _ 4 8 _ okS_237_2 hz
  have hz : okC (pgB 237) ((pgCd 237).drop 4) = true := okC_cat _ 4 4 _ okS_237_1 hz
  have hz : okC (pgB 237) ((pgCd 237).drop 0) = true := okC_cat _ 4 0 _ okS_237_0 hz
  exact hz
theorem okMid_237 : okMid 237 = true := by unfold okMid; rw [okCd_237, okM_237]; rfl
theorem okMid_238 : okMid 238 = true := by decide +kernel
theorem okMid_239 : okMid 239 = true := by decide +kernel
theorem okS_240_0 : okC (pgB 240) (((pgCd 240).drop 0).take 4) = true := by decide +kernel
theorem okS_240_1 : okC (pgB 240) (((pgCd 240).drop 4).take 4) = true := by decide +kernel
theorem okS_240_2 : okC (pgB 240) (((pgCd 240).drop 8).take 4) = true := by decide +kernel
theorem okS_240_3 : okC (pgB 240) (((pgCd 240).drop 12).take 4) = true := by decide +kernel
theorem okS_240_4 : okC (pgB 240) (((pgCd 240).drop 16).take 4) = true := by decide +kernel
theorem okS_240_5 : okC (pgB 240) (((pgCd 240).drop 20).take 4) = true := by decide +kernel
theorem okS_240_6 : okC (pgB 240) (((pgCd 240).drop 24).take 4) = true := by decide +kernel
theorem okS_240_7 : okC (pgB 240) (((pgCd 240).drop 28).take 4) = true := by decide +kernel
theorem okS_240_8 : okC (pgB 240) (((pgCd 240).drop 32).take 4) = true := by decide +kernel
theorem okS_240_9 : okC (pgB 240) (((pgCd 240).drop 36).take 1) = true := by decide +kernel
theorem okM_240 : okM (pgRw 240) = true := by decide +kernel
theorem okCd_240 : okC (pgB 240) (pgCd 240) = true := by
  have hz : okC (pgB 240) ((pgCd 240).drop 37) = true := by decide +kernel
  have hz : okC (pgB 240) ((pgCd 240).drop 36) = true := okC_cat _ 1 36 _ okS_240_9 hz
  have hz : okC (pgB 240) ((pgCd 240).drop 32) = true := okC_cat _ 4 32 _ okS_240_8 hz
  have hz : okC (pgB 240) ((pgCd 240).drop 28) = true := okC_cat _ 4 28 _ okS_240_7 hz
  have hz : okC (pgB 240) ((pgCd 240).drop 24) = true := okC_cat _ 4 24 _ okS_240_6 hz
  have hz : okC (pgB 240) ((pgCd 240).drop 20) = true := okC_cat _ 4 20 _ okS_240_5 hz
  have hz : okC (pgB 240) ((pgCd 240).drop 16) = true := okC_cat _ 4 16 _ okS_240_4 hz
  have hz : okC (pgB 240) ((pgCd 240).drop 12) = true := okC_cat _ 4 12 _ okS_240_3 hz
  have hz : okC (pgB 240) ((pgCd 240).drop 8) = true := okC_cat _ 4 8 _ okS_240_2 hz
  have hz : okC (pgB 240) ((pgCd 240).drop 4) = true := okC_cat _ 4 4 _ okS_240_1 hz
  have hz : okC (pgB 240) ((pgCd 240).drop 0) = true := okC_cat _ 4 0 _ okS_240_0 hz
  exact hz
theorem okMid_240 : okMid 240 = true := by unfold okMid; rw [okCd_240, okM_240]; rfl
theorem okS_241_0 : okC (pgB 241) (((pgCd 241).drop 0).take 4) = true := by decide +kernel
theorem okS_241_1 : okC (pgB 241) (((pgCd 241).drop 4).take 3) = true := by decide +kernel
theorem okM_241 : okM (pgRw 241) = true := by decide +kernel
theorem okCd_241 : okC (pgB 241) (pgCd 241) = true := by
  have hz : okC (pgB 241) ((pgCd 241).drop 7) = true := by decide +kernel
  have hz : okC (pgB 241) ((pgCd 241).drop 4) = true := okC_cat _ 3 4 _ okS_241_1 hz
  have hz : okC (pgB 241) ((pgCd 241).drop 0) = true := okC_cat _ 4 0 _ okS_241_0 hz
  exact hz
theorem okMid_241 : okMid 241 = true := by unfold okMid; rw [okCd_241, okM_241]; rfl
theorem okS_242_0 : okC (pgB 242) (((pgCd 242).drop 0).take 4) = true := by decide +kernel
theorem okS_242_1 : okC (pgB 242) (((pgCd 242).drop 4).take 4) = true := by decide +kernel
theorem okS_242_2 : okC (pgB 242) (((pgCd 242).drop 8).take 2) = true := by decide +kernel
theorem okM_242 : okM (pgRw 242) = true := by decide +kernel
theorem okCd_242 : okC (pgB 242) (pgCd 242) = true := by
  have hz : okC (pgB 242) ((pgCd 242).drop 10) = true := by decide +kernel
  have hz : okC (pgB 242) ((pgCd 242).drop 8) = true := okC_cat _ 2 8 _ okS_242_2 hz
  have hz : okC (pgB 242) ((pgCd 242).drop 4) = true := okC_cat _ 4 4 _ okS_242_1 hz
  have hz : okC (pgB 242) ((pgCd 242).drop 0) = true := okC_cat _ 4 0 _ okS_242_0 hz
  exact hz
theorem okMid_242 : okMid 242 = true := by unfold okMid; rw [okCd_242, okM_242]; rfl
end
section
theorem okMid_243 : okMid 243 = true := by decide +kernel
theorem okMid_244 : okMid 244 = true := by decide +kernel
theorem okS_245_0 : okC (pgB 245) (((pgCd 245).drop 0).take 4) = true := by decide +kernel
theorem okS_245_1 : okC (pgB 245) (((pgCd 245).drop 4).take 4) = true := by decide +kernel
theorem okS_245_2 : okC (pgB 245) (((pgCd 245).drop 8).take 4) = true := by decide +kernel
theorem okS_245_3 : okC (pgB 245) (((pgCd 245).drop 12).take 4) = true := by decide +kernel
theorem okM_245 : okM (pgRw 245) = true := by decide +kernel
theorem okCd_245 : okC (pgB 245) (pgCd 245) = true := by
  have hz : okC (pgB 245) ((pgCd 245).drop 16) = true := by decide +kernel
  have hz : okC (pgB 245) ((pgCd 245).drop 12) = true := okC_cat _ 4 12 _ okS_245_3 hz
  have hz : okC (pgB 245) ((pgCd 245).drop 8) = true := okC_cat _ 4 8 _ okS_245_2 hz
  have hz : okC (pgB 245) ((pgCd 245).drop 4) = true := okC_cat _ 4 4 _ okS_245_1 hz
  have hz : okC (pgB 245) ((pgCd 245).drop 0) = true := okC_cat _ 4 0 _ okS_245_0 hz
  exact hz
theorem okMid_245 : okMid 245 = true := by unfold okMid; rw [okCd_245, okM_245]; rfl
theorem okMid_246 : okMid 246 = true := by decide +kernel
theorem okS_247_0 : okC (pgB 247) (((pgCd 247).drop 0).take 4) = true := by decide +kernel
theorem okS_247_1 : okC (pgB 247) (((pgCd 247).drop 4).take 4) = true := by decide +kernel
theorem okS_247_2 : okC (pgB 247) (((pgCd 247).drop 8).take 4) = true := by decide +kernel
theorem okS_247_3 : okC (pgB 247) (((pgCd 247).drop 12).take 4) = true := by decide +kernel
theorem okS_247_4 : okC (pgB 247) (((pgCd 247).drop 16).take 4) = true := by decide +kernel
theorem okS_247_5 : okC (pgB 247) (((pgCd 247).drop 20).take 4) = true := by decide +kernel
theorem okM_247 : okM (pgRw 247) = true := by decide +kernel
theorem okCd_247 : okC (pgB 247) (pgCd 247) = true := by
  have hz : okC (pgB 247) ((pgCd 247).drop 24) = true := by decide +kernel
  have hz : okC (pgB 247) ((pgCd 247).drop 20) = true := okC_cat _ 4 20 _ okS_247_5 hz
  have hz : okC (pgB 247) ((pgCd 247).drop 16) = true := okC_cat _ 4 16 _ okS_247_4 hz
  have hz : okC (pgB 247) ((pgCd 247).drop 12) = true := okC_cat _ 4 12 _ okS_247_3 hz
  have hz : okC (pgB 247) ((pgCd 247).drop 8) = true := okC_cat _ 4 8 _ okS_247_2 hz
  have hz : okC (pgB 247) ((pgCd 247).drop 4) = true := okC_cat _ 4 4 _ okS_247_1 hz
  have hz : okC (pgB 247) ((pgCd 247).drop 0) = true := okC_cat _ 4 0 _ okS_247_0 hz
  exact hz
theorem okMid_247 : okMid 247 = true := by unfold okMid; rw [okCd_247, okM_247]; rfl
theorem okS_248_0 : okC (pgB 248) (((pgCd 248).drop 0).take 4) = true := by decide +kernel
theorem okS_248_1 : okC (pgB 248) (((pgCd 248).drop 4).take 4) = true := by decide +kernel
theorem okS_248_2 : okC (pgB 248) (((pgCd 248).drop 8).take 4) = true := by decide +kernel
theorem okS_248_3 : okC (pgB 248) (((pgCd 248).drop 12).take 1) = true := by decide +kernel
theorem okM_248 : okM (pgRw 248) = true := by decide +kernel
theorem okCd_248 : okC (pgB 248) (pgCd 248) = true := by
  have hz : okC (pgB 248) ((pgCd 248).drop 13) = true := by decide +kernel
  have hz : okC (pgB 248) ((pgCd 248).drop 12) = true := okC_cat _ 1 12 _ okS_248_3 hz
  have hz : okC (pgB 248) ((pgCd 248).drop 8) = true := okC_cat _ 4 8 _ okS_248_2 hz
  have hz : okC (pgB 248) ((pgCd 248).drop 4) = true := okC_cat _ 4 4 _ okS_248_1 hz
  have hz : okC (pgB 248) ((pgCd 248).drop 0) = true := okC_cat _ 4 0 _ okS_248_0 hz
  exact hz
theorem okMid_248 : okMid 248 = true := by unfold okMid; rw [okCd_248, okM_248]; rfl
theorem okS_249_0 : okC (pgB 249) (((pgCd 249).drop 0).take 4) = true := by decide +kernel
theorem okS_249_1 : okC (pgB 249) (((pgCd 249).drop 4).take 4) = true := by decide +kernel
theorem okS_249_2 : okC (pgB 249) (((pgCd 249).drop 8).take 4) = true := by decide +kernel
theorem okS_249_3 : okC (pgB 249) (((pgCd 249).drop 12).take 3) = true := by decide +kernel
theorem okM_249 : okM (pgRw 249) = true := by decide +kernel
theorem okCd_249 : okC (pgB 249) (pgCd 249) = true := by
  have hz : okC (pgB 249) ((pgCd 249).drop 15) = true := by decide +kernel
  have hz : okC (pgB 249) ((pgCd 249).drop 12) = true := okC_cat _ 3 12 _ okS_249_3 hz
  have hz : okC (pgB 249) ((pgCd 249).drop 8) = true := okC_cat _ 4 8 _ okS_249_2 hz
  have hz : okC (pgB 249) ((pgCd 249).drop 4) = true := okC_cat _ 4 4 _ okS_249_1 hz
  have hz : okC (pgB 249) ((pgCd 249).drop 0) = true := okC_cat _ 4 0 _ okS_249_0 hz
  exact hz
theorem okMid_249 : okMid 249 = true := by unfold okMid; rw [okCd_249, okM_249]; rfl
theorem okMid_250 : okMid 250 = true := by decide +kernel
theorem okMid_251 : okMid 251 = true := by decide +kernel
theorem okS_252_0 : okC (pgB 252) (((pgCd 252).drop 0).take 4) = true := by decide +kernel
theorem okS_252_1 : okC (pgB 252) (((pgCd 252).drop 4).take 4) = true := by decide +kernel
theorem okS_252_2 : okC (pgB 252) (((pgCd 252).drop 8).take 4) = true := by decide +kernel
theorem okS_252_3 : okC (pgB 252) (((pgCd 252).drop 12).take 1) = true := by decide +kernel
theorem okM_252 : okM (pgRw 252) = true := by decide +kernel
theorem okCd_252 : okC (pgB 252) (pgCd 252) = true := by
  have hz : okC (pgB 252) ((pgCd 252).drop 13) = true := by decide +kernel
  have hz : okC (pgB 252) ((pgCd 252).drop 12) = true := okC_cat _ 1 12 _ okS_252_3 hz
  have hz : okC (pgB 252) ((pgCd 252).drop 8) = true := okC_cat _ 4 8 _ okS_252_2 hz
  have hz : okC (pgB 252) ((pgCd 252).drop 4) = true := okC_cat _ 4 4 _ okS_252_1 hz
  have hz : okC (pgB 252) ((pgCd 252).drop 0) = true := okC_cat _ 4 0 _ okS_252_0 hz
  exact hz
theorem okMid_252 : okMid 252 = true := by unfold okMid; rw [okCd_252, okM_252]; rfl
theorem okS_253_0 : okC (pgB 253) (((pgCd 253).drop 0).take 4) = true := by decide +kernel
theorem okS_253_1 : okC (pgB 253) (((pgCd 253).drop 4).take 4) = true := by decide +kernel
theorem okS_253_2 : okC (pgB 253) (((pgCd 253).drop 8).take 4) = true := by decide +kernel
theorem okS_253_3 : okC (pgB 253) (((pgCd 253).drop 12).take 4) = true := by decide +kernel
theorem okS_253_4 : okC (pgB 253) (((pgCd 253).drop 16).take 3) = true := by decide +kernel
theorem okM_253 : okM (pgRw 253) = true := by decide +kernel
theorem okCd_253 : okC (pgB 253) (pgCd 253) = true := by
  have hz : okC (pgB 253) ((pgCd 253).drop 19) = true := by decide +kernel
  have hz : okC (pgB 253) ((pgCd 253).drop 16) = true := okC_cat _ 3 16 _ okS_253_4 hz
  have hz : okC (pgB 253) ((pgCd 253).drop 12) = true := okC_cat _ 4 12 _ okS_253_3 hz
  have hz : okC (pgB 253) ((pgCd 253).drop 8) = true := okC_cat _ 4 8 _ okS_253_2 hz
  have hz : okC (pgB 253) ((pgCd 253).drop 4) = true := okC_cat _ 4 4 _ okS_253_1 hz
  have hz : okC (pgB 253) ((pgCd 253).drop 0) = true := okC_cat _ 4 0 _ okS_253_0 hz
  exact hz
theorem okMid_253 : okMid 253 = true := by unfold okMid; rw [okCd_253, okM_253]; rfl
theorem okS_254_0 : okC (pgB 254) (((pgCd 254).drop 0).take 4) = true := by decide +kernel
theorem okS_254_1 : okC (pgB 254) (((pgCd 254).drop 4).take 4) = true := by decide +kernel
theorem okS_254_2 : okC (pgB 254) (((pgCd 254).drop 8).take 4) = true := by decide +kernel
theorem okS_254_3 : okC (pgB 254) (((pgCd 254).drop 12).take 4) = true := by decide +kernel
theorem okM_254 : okM (pgRw 254) = true := by decide +kernel
theorem okCd_254 : okC (pgB 254) (pgCd 254) = true := by
  have hz : okC (pgB 254) ((pgCd 254).drop 16) = true := by decide +kernel
  have hz : okC (pgB 254) ((pgCd 254).drop 12) = true := okC_cat _ 4 12 _ okS_254_3 hz
  have hz : okC (pgB 254) ((pgCd 254).drop 8) = true := okC_cat _ 4 8 _ okS_254_2 hz
  have hz : okC (pgB 254) ((pgCd 254).drop 4) = true := okC_cat _ 4 4 _ okS_254_1 hz
  have hz : okC (pgB 254) ((pgCd 254).drop 0) = true := okC_cat _ 4 0 _ okS_254_0 hz
  exact hz
theorem okMid_254 : okMid 254 = true := by unfold okMid; rw [okCd_254, okM_254]; rfl
theorem okS_255_0 : okC (pgB 255) (((pgCd 255).drop 0).take 4) = true := by decide +kernel
theorem okS_255_1 : okC (pgB 255) (((pgCd 255).drop 4).take 4) = true := by decide +kernel
theorem okS_255_2 : okC (pgB 255) (((pgCd 255).drop 8).take 2) = true := by decide +kernel
theorem okM_255 : okM (pgRw 255) = true := by decide +kernel
theorem okCd_255 : okC (pgB 255) (pgCd 255) = true := by
  have hz : okC (pgB 255) ((pgCd 255).drop 10) = true := by decide +kernel
  have hz : okC (pgB 255) ((pgCd 255).drop 8) = true := okC_cat _ 2 8 _ okS_255_2 hz
  have hz : okC (pgB 255) ((pgCd 255).drop 4) = true := okC_cat _ 4 4 _ okS_255_1 hz
  have hz : okC (pgB 255) ((pgCd 255).drop 0) = true := okC_cat _ 4 0 _ okS_255_0 hz
  exact hz
theorem okMid_255 : okMid 255 = true := by unfold okMid; rw [okCd_255, okM_255]; rfl
theorem okMid_256 : okMid 256 = true := by decide +kernel
theorem okS_257_0 : okC (pgB 257) (((pgCd 257).drop 0).take 4) = true := by decide +kernel
theorem okS_257_1 : okC (pgB 257) (((pgCd 257).drop 4).take 4) = true := by decide +kernel
theorem okM_257 : okM (pgRw 257) = true := by decide +kernel
theorem okCd_257 : okC (pgB 257) (pgCd 257) = true := by
  have hz : okC (pgB 257) ((pgCd 257).drop 8) = true := by decide +kernel
  have hz : okC (pgB 257) ((pgCd 257).drop 4) = true := okC_cat _ 4 4 _ okS_257_1 hz
  have hz : okC (pgB 257) ((pgCd 257).drop 0) = true := okC_cat _ 4 0 _ okS_257_0 hz
  exact hz
theorem okMid_257 : okMid 257 = true := by unfold okMid; rw [okCd_257, okM_257]; rfl
theorem okS_258_0 : okC (pgB 258) (((pgCd 258).drop 0).take 4) = true := by decide +kernel
theorem okS_258_1 : okC (pgB 258) (((pgCd 258).drop 4).take 4) = true := by decide +kernel
theorem okS_258_2 : okC (pgB 258) (((pgCd 258).drop 8).take 4) = true := by decide +kernel
theorem okS_258_3 : okC (pgB 258) (((pgCd 258).drop 12).take 4) = true := by decide +kernel
theorem okS_258_4 : okC (pgB 258) (((pgCd 258).drop 16).take 4) = true := by decide +kernel
theorem okS_258_5 : okC (pgB 258) (((pgCd 258).drop 20).take 4) = true := by decide +kernel
theorem okS_258_6 : okC (pgB 258) (((pgCd 258).drop 24).take 1) = true := by decide +kernel
theorem okM_258 : okM (pgRw 258) = true := by decide +kernel
theorem okCd_258 : okC (pgB 258) (pgCd 258) = true := by
  have hz : okC (pgB 258) ((pgCd 258).drop 25) = true := by decide +kernel
  have hz : okC (pgB 258) ((pgCd 258).drop 24) = true := okC_cat _ 1 24 _ okS_258_6 hz
  have hz : okC (pgB 258) ((pgCd 258).drop 20) = true := okC_cat _ 4 20 _ okS_258_5 hz
  have hz : okC (pgB 258) ((pgCd 258).drop 16) = true := okC_cat _ 4 16 _ okS_258_4 hz
  have hz : okC (pgB 258) ((pgCd 258).drop 12) = true := okC_cat _ 4 12 _ okS_258_3 hz
  have hz : okC (pgB 258) ((pgCd 258).drop 8) = true := okC_cat _ 4 8 _ okS_258_2 hz
  have hz : okC (pgB 258) ((pgCd 258).drop 4) = true := okC_cat _ 4 4 _ okS_258_1 hz
  have hz : okC (pgB 258) ((pgCd 258).drop 0) = true := okC_cat _ 4 0 _ okS_258_0 hz
  exact hz
theorem okMid_258 : okMid 258 = true := by unfold okMid; rw [okCd_258, okM_258]; rfl
theorem okS_259_0 : okC (pgB 259) (((pgCd 259).drop 0).take 4) = true := by decide +kernel
theorem okS_259_1 : okC (pgB 259) (((pgCd 259).drop 4).take 3) = true := by decide +kernel
theorem okM_259 : okM (pgRw 259) = true := by decide +kernel
theorem okCd_259 : okC (pgB 259) (pgCd 259) = true := by
  have hz : okC (pgB 259) ((pgCd 259).drop 7) = true := by decide +kernel
  have hz : okC (pgB 259) ((pgCd 259).drop 4) = true := okC_cat _ 3 4 _ okS_259_1 hz
  have hz : okC (pgB 259) ((pgCd 259).drop 0) = true := okC_cat _ 4 0 _ okS_259_0 hz
  exact hz
theorem okMid_259 : okMid 259 = true := by unfold okMid; rw [okCd_259, okM_259]; rfl
theorem okCx_260 : okC (pgB 260) (pgCd 260) = true := by decide +kernel
theorem okCx_261 : okC (pgB 261) (pgCd 261) = true := by decide +kernel
theorem okCx_262 : okC (pgB 262) (pgCd 262) = true := by decide +kernel
theorem okCx_263 : okC (pgB 263) (pgCd 263) = true := by decide +kernel
theorem okMid_264 : okMid 264 = true := by decide +kernel
theorem okMid_265 : okMid 265 = true := by decide +kernel
theorem okMid_266 : okMid 266 = true := by decide +kernel
theorem okMid_267 : okMid 267 = true := by decide +kernel
theorem okMid_268 : okMid 268 = true := by decide +kernel
theorem okMid_269 : okMid 269 = true := by decide +kernel
theorem okMid_270 : okMid 270 = true := by decide +kernel
theorem okMid_271 : okMid 271 = true := by decide +kernel
theorem okMid_272 : okMid 272 = true := by decide +kernel
theorem okMid_273 : okMid 273 = true := by decide +kernel
theorem okS_274_0 : okC (pgB 274) (((pgCd 274).drop 0).take 2) = true := by decide +kernel
theorem okS_274_1 : okC (pgB 274) (((pgCd 274).drop 2).take 2) = true := by decide +kernel
theorem okS_274_2 : okC (pgB 274) (((pgCd 274).drop 4).take 2) = true := by decide +kernel
theorem okS_274_3 : okC (pgB 274) (((pgCd 274).drop 6).take 2) = true := by decide +kernel
theorem okS_274_4 : okC (pgB 274) (((pgCd 274).drop 8).take 2) = true := by decide +kernel
theorem okS_274_5 : okC (pgB 274) (((pgCd 274).drop 10).take 2) = true := by decide +kernel
theorem okS_274_6 : okC (pgB 274) (((pgCd 274).drop 12).take 2) = true := by decide +kernel
theorem okS_274_7 : okC (pgB 274) (((pgCd 274).drop 14).take 2) = true := by decide +kernel
theorem okS_274_8 : okC (pgB 274) (((pgCd 274).drop 16).take 2) = true := by decide +kernel
theorem okS_274_9 : okC (pgB 274) (((pgCd 274).drop 18).take 2) = true := by decide +kernel
theorem okS_274_10 : okC (pgB 274) (((pgCd 274).drop 20).take 2) = true := by decide +kernel
theorem okS_274_11 : okC (pgB 274) (((pgCd 274).drop 22).take 2) = true := by decide +kernel
theorem okS_274_12 : okC (pgB 274) (((pgCd 274).drop 24).take 2) = true := by decide +kernel
theorem okS_274_13 : okC (pgB 274) (((pgCd 274).drop 26).take 2) = true := by decide +kernel
theorem okS_274_14 : okC (pgB 274) (((pgCd 274).drop 28).take 2) = true := by decide +kernel
theorem okS_274_15 : okC (pgB 274) (((pgCd 274).drop 30).take 2) = true := by decide +kernel
theorem okS_274_16 : okC (pgB 274) (((pgCd 274).drop 32).take 2) = true := by decide +kernel
theorem okS_274_17 : okC (pgB 274) (((pgCd 274).drop 34).take 2) = true := by decide +kernel
theorem okS_274_18 : okC (pgB 274) (((pgCd 274).drop 36).take 2) = true := by decide +kernel
theorem okS_274_19 : okC (pgB 274) (((pgCd 274).drop 38).take 2) = true := by decide +kernel
theorem okS_274_20 : okC (pgB 274) (((pgCd 274).drop 40).take 2) = true := by decide +kernel
theorem okS_274_21 : okC (pgB 274) (((pgCd 274).drop 42).take 2) = true := by decide +kernel
theorem okS_274_22 : okC (pgB 274) (((pgCd 274).drop 44).take 2) = true := by decide +kernel
theorem okS_274_23 : okC (pgB 274) (((pgCd 274).drop 46).take 2) = true := by decide +kernel
theorem okS_274_24 : okC (pgB 274) (((pgCd 274).drop 48).take 2) = true := by decide +kernel
theorem okS_274_25 : okC (pgB 274) (((pgCd 274).drop 50).take 2) = true := by decide +kernel
theorem okS_274_26 : okC (pgB 274) (((pgCd 274).drop 52).take 2) = true := by decide +kernel
theorem okS_274_27 : okC (pgB 274) (((pgCd 274).drop 54).take 2) = true := by decide +kernel
theorem okS_274_28 : okC (pgB 274) (((pgCd 274).drop 56).take 2) = true := by decide +kernel
theorem okS_274_29 : okC (pgB 274) (((pgCd 274).drop 58).take 2) = true := by decide +kernel
theorem okS_274_30 : okC (pgB 274) (((pgCd 274).drop 60).take 2) = true := by decide +kernel
theorem okS_274_31 : okC (pgB 274) (((pgCd 274).drop 62).take 2) = true := by decide +kernel
theorem okS_274_32 : okC (pgB 274) (((pgCd 274).drop 64).take 2) = true := by decide +kernel
theorem okS_274_33 : okC (pgB 274) (((pgCd 274).drop 66).take 2) = true := by decide +kernel
theorem okS_274_34 : okC (pgB 274) (((pgCd 274).drop 68).take 2) = true := by decide +kernel
theorem okS_274_35 : okC (pgB 274) (((pgCd 274).drop 70).take 2) = true := by decide +kernel
theorem okS_274_36 : okC (pgB 274) (((pgCd 274).drop 72).take 2) = true := by decide +kernel
theorem okS_274_37 : okC (pgB 274) (((pgCd 274).drop 74).take 2) = true := by decide +kernel
theorem okS_274_38 : okC (pgB 274) (((pgCd 274).drop 76).take 2) = true := by decide +kernel
theorem okS_274_39 : okC (pgB 274) (((pgCd 274).drop 78).take 2) = true := by decide +kernel
theorem okS_274_40 : okC (pgB 274) (((pgCd 274).drop 80).take 2) = true := by decide +kernel
theorem okS_274_41 : okC (pgB 274) (((pgCd 274).drop 82).take 2) = true := by decide +kernel
theorem okS_274_42 : okC (pgB 274) (((pgCd 274).drop 84).take 2) = true := by decide +kernel
theorem okS_274_43 : okC (pgB 274) (((pgCd 274).drop 86).take 2) = true := by decide +kernel
theorem okS_274_44 : okC (pgB 274) (((pgCd 274).drop 88).take 2) = true := by decide +kernel
theorem okS_274_45 : okC (pgB 274) (((pgCd 274).drop 90).take 2) = true := by decide +kernel
theorem okS_274_46 : okC (pgB 274) (((pgCd 274).drop 92).take 2) = true := by decide +kernel
theorem okS_274_47 : okC (pgB 274) (((pgCd 274).drop 94).take 2) = true := by decide +kernel
theorem okS_274_48 : okC (pgB 274) (((pgCd 274).drop 96).take 2) = true := by decide +kernel
theorem okS_274_49 : okC (pgB 274) (((pgCd 274).drop 98).take 2) = true := by decide +kernel
theorem okS_274_50 : okC (pgB 274) (((pgCd 274).drop 100).take 2) = true := by decide +kernel
theorem okS_274_51 : okC (pgB 274) (((pgCd 274).drop 102).take 2) = true := by decide +kernel
theorem okS_274_52 : okC (pgB 274) (((pgCd 274).drop 104).take 2) = true := by decide +kernel
theorem okS_274_53 : okC (pgB 274) (((pgCd 274).drop 106).take 2) = true := by decide +kernel
theorem okS_274_54 : okC (pgB 274) (((pgCd 274).drop 108).take 2) = true := by decide +kernel
theorem okS_274_55 : okC (pgB 274) (((pgCd 274).drop 110).take 2) = true := by decide +kernel
theorem okS_274_56 : okC (pgB 274) (((pgCd 274).drop 112).take 2) = true := by decide +kernel
theorem okS_274_57 : okC (pgB 274) (((pgCd 274).drop 114).take 2) = true := by decide +kernel
theorem okS_274_58 : okC (pgB 274) (((pgCd 274).drop 116).take 2) = true := by decide +kernel
theorem okS_274_59 : okC (pgB 274) (((pgCd 274).drop 118).take 2) = true := by decide +kernel
theorem okS_274_60 : okC (pgB 274) (((pgCd 274).drop 120).take 2) = true := by decide +kernel
theorem okS_274_61 : okC (pgB 274) (((pgCd 274).drop 122).take 2) = true := by decide +kernel
theorem okS_274_62 : okC (pgB 274) (((pgCd 274).drop 124).take 2) = true := by decide +kernel
theorem okS_274_63 : okC (pgB 274) (((pgCd 274).drop 126).take 2) = true := by decide +kernel
theorem okS_274_64 : okC (pgB 274) (((pgCd 274).drop 128).take 2) = true := by decide +kernel
theorem okS_274_65 : okC (pgB 274) (((pgCd 274).drop 130).take 2) = true := by decide +kernel
theorem okS_274_66 : okC (pgB 274) (((pgCd 274).drop 132).take 2) = true := by decide +kernel
theorem okS_274_67 : okC (pgB 274) (((pgCd 274).drop 134).take 2) = true := by decide +kernel
theorem okS_274_68 : okC (pgB 274) (((pgCd 274).drop 136).take 2) = true := by decide +kernel
theorem okS_274_69 : okC (pgB 274) (((pgCd 274).drop 138).take 2) = true := by decide +kernel
theorem okS_274_70 : okC (pgB 274) (((pgCd 274).drop 140).take 2) = true := by decide +kernel
theorem okS_274_71 : okC (pgB 274) (((pgCd 274).drop 142).take 2) = true := by decide +kernel
theorem okS_274_72 : okC (pgB 274) (((pgCd 274).drop 144).take 2) = true := by decide +kernel
theorem okS_274_73 : okC (pgB 274) (((pgCd 274).drop 146).take 2) = true := by decide +kernel
theorem okS_274_74 : okC (pgB 274) (((pgCd 274).drop 148).take 2) = true := by decide +kernel
theorem okS_274_75 : okC (pgB 274) (((pgCd 274).drop 150).take 2) = true := by decide +kernel
theorem okS_274_76 : okC (pgB 274) (((pgCd 274).drop 152).take 2) = true := by decide +kernel
theorem okS_274_77 : okC (pgB 274) (((pgCd 274).drop 154).take 2) = true := by decide +kernel
theorem okS_274_78 : okC (pgB 274) (((pgCd 274).drop 156).take 2) = true := by decide +kernel
theorem okS_274_79 : okC (pgB 274) (((pgCd 274).drop 158).take 2) = true := by decide +kernel
theorem okS_274_80 : okC (pgB 274) (((pgCd 274).drop 160).take 2) = true := by decide +kernel
theorem okS_274_81 : okC (pgB 274) (((pgCd 274).drop 162).take 2) = true := by decide +kernel
theorem okS_274_82 : okC (pgB 274) (((pgCd 274).drop 164).take 2) = true := by decide +kernel
theorem okS_274_83 : okC (pgB 274) (((pgCd 274).drop 166).take 2) = true := by decide +kernel
theorem okS_274_84 : okC (pgB 274) (((pgCd 274).drop 168).take 2) = true := by decide +kernel
theorem okS_274_85 : okC (pgB 274) (((pgCd 274).drop 170).take 2) = true := by decide +kernel
theorem okS_274_86 : okC (pgB 274) (((pgCd 274).drop 172).take 2) = true := by decide +kernel
theorem okS_274_87 : okC (pgB 274) (((pgCd 274).drop 174).take 2) = true := by decide +kernel
theorem okS_274_88 : okC (pgB 274) (((pgCd 274).drop 176).take 2) = true := by decide +kernel
theorem okS_274_89 : okC (pgB 274) (((pgCd 274).drop 178).take 2) = true := by decide +kernel
theorem okS_274_90 : okC (pgB 274) (((pgCd 274).drop 180).take 2) = true := by decide +kernel
theorem okS_274_91 : okC (pgB 274) (((pgCd 274).drop 182).take 2) = true := by decide +kernel
theorem okS_274_92 : okC (pgB 274) (((pgCd 274).drop 184).take 2) = true := by decide +kernel
theorem okS_274_93 : okC (pgB 274) (((pgCd 274).drop 186).take 2) = true := by decide +kernel
theorem okS_274_94 : okC (pgB 274) (((pgCd 274).drop 188).take 2) = true := by decide +kernel
theorem okS_274_95 : okC (pgB 274) (((pgCd 274).drop 190).take 2) = true := by decide +kernel
theorem okS_274_96 : okC (pgB 274) (((pgCd 274).drop 192).take 2) = true := by decide +kernel
theorem okS_274_97 : okC (pgB 274) (((pgCd 274).drop 194).take 2) = true := by decide +kernel
theorem okS_274_98 : okC (pgB 274) (((pgCd 274).drop 196).take 2) = true := by decide +kernel
theorem okS_274_99 : okC (pgB 274) (((pgCd 274).drop 198).take 2) = true := by decide +kernel
theorem okS_274_100 : okC (pgB 274) (((pgCd 274).drop 200).take 2) = true := by decide +kernel
theorem okS_274_101 : okC (pgB 274) (((pgCd 274).drop 202).take 2) = true := by decide +kernel
theorem okS_274_102 : okC (pgB 274) (((pgCd 274).drop 204).take 2) = true := by decide +kernel
theorem okS_274_103 : okC (pgB 274) (((pgCd 274).drop 206).take 2) = true := by decide +kernel
theorem okS_274_104 : okC (pgB 274) (((pgCd 274).drop 208).take 2) = true := by decide +kernel
theorem okS_274_105 : okC (pgB 274) (((pgCd 274).drop 210).take 2) = true := by decide +kernel
theorem okS_274_106 : okC (pgB 274) (((pgCd 274).drop 212).take 2) = true := by decide +kernel
theorem okS_274_107 : okC (pgB 274) (((pgCd 274).drop 214).take 2) = true := by decide +kernel
theorem okS_274_108 : okC (pgB 274) (((pgCd 274).drop 216).take 2) = true := by decide +kernel
theorem okS_274_109 : okC (pgB 274) (((pgCd 274).drop 218).take 2) = true := by decide +kernel
theorem okS_274_110 : okC (pgB 274) (((pgCd 274).drop 220).take 2) = true := by decide +kernel
theorem okS_274_111 : okC (pgB 274) (((pgCd 274).drop 222).take 2) = true := by decide +kernel
theorem okS_274_112 : okC (pgB 274) (((pgCd 274).drop 224).take 2) = true := by decide +kernel
theorem okS_274_113 : okC (pgB 274) (((pgCd 274).drop 226).take 2) = true := by decide +kernel
theorem okS_274_114 : okC (pgB 274) (((pgCd 274).drop 228).take 2) = true := by decide +kernel
theorem okS_274_115 : okC (pgB 274) (((pgCd 274).drop 230).take 2) = true := by decide +kernel
theorem okS_274_116 : okC (pgB 274) (((pgCd 274).drop 232).take 2) = true := by decide +kernel
theorem okS_274_117 : okC (pgB 274) (((pgCd 274).drop 234).take 2) = true := by decide +kernel
theorem okS_274_118 : okC (pgB 274) (((pgCd 274).drop 236).take 2) = true := by decide +kernel
theorem okS_274_119 : okC (pgB 274) (((pgCd 274).drop 238).take 1) = true := by decide +kernel
theorem okCd_274 : okC (pgB 274) (pgCd 274) = true := by
  have hz : okC (pgB 274) ((pgCd 274).drop 239) = true := by decide +kernel
  have hz : okC (pgB 274) ((pgCd 274).drop 238) = true := okC_cat _ 1 238 _ okS_274_119 hz
  have hz : okC (pgB 274) ((pgCd 274).drop 236) = true := okC_cat _ 2 236 _ okS_274_118 hz
  have hz : okC (pgB 274) ((pgCd 274).drop 234) = true := okC_cat _ 2 234 _ okS_274_117 hz
  have hz : okC (pgB 274) ((pgCd 274).drop 232) = true := okC_cat _ 2 232 _ okS_274_116 hz
  have hz : okC (pgB 274) ((pgCd 274).drop 230) = true := okC_cat _ 2 230 _ okS_274_115 hz
  have hz : okC (pgB 274) ((pgCd 274).drop 228) = true := okC_cat _ 2 228 _ okS_274_114 hz
  have hz : okC (pgB 274) ((pgCd 274).drop 226) = true := okC_cat _ 2 226 _ okS_274_113 hz
  have hz : okC (pgB 274) ((pgCd 274).drop 224) = true := okC_cat _ 2 224 _ okS_274_112 hz
  have hz : okC (pgB 274) ((pgCd 274).drop 222) = true := okC_cat _ 2 222 _ okS_274_111 hz
  have hz : okC (pgB 274) ((pgCd 274).drop 220) = true := okC_cat _ 2 220 _ okS_274_110 hz
  have hz : okC (pgB 274) ((pgCd 274).drop 218) = true := okC_cat _ 2 218 _ okS_274_109 hz
  have hz : okC (pgB 274) ((pgCd 274).drop 216) = true := okC_cat _ 2 216 _ okS_274_108 hz
  have hz : okC (pgB 274) ((pgCd 274).drop 214) = true := okC_cat _ 2 214 _ okS_274_107 hz
  have hz : okC (pgB 274) ((pgCd 274).drop 212) = true := okC_cat _ 2 212 _ okS_274_106 hz
  have hz : okC (pgB 274) ((pgCd 274).drop 210) = true := okC_cat _ 2 210 _ okS_274_105 hz
  have hz : okC (pgB 274) ((pgCd 274).drop 208) = true := okC_cat _ 2 208 _ okS_274_104 hz
  have hz : okC (pgB 274) ((pgCd 274).drop 206) = true := okC_cat _ 2 206 _ okS_274_103 hz
  have hz : okC (pgB 274) ((pgCd 274).drop 204) = true := okC_cat _ 2 204 _ okS_274_102 hz
  have hz : okC (pgB 274) ((pgCd 274).drop 202) = true := okC_cat _ 2 202 _ okS_274_101 hz
  have hz : okC (pgB 274) ((pgCd 274).drop 200) = true := okC_cat _ 2 200 _ okS_274_100 hz
  have hz : okC (pgB 274) ((pgCd 274).drop 198) = true := okC_cat _ 2 198 _ okS_274_99 hz
  have hz : okC (pgB 274) ((pgCd 274).drop 196) = true := okC_cat _ 2 196 _ okS_274_98 hz
  have hz : okC (pgB 274) ((pgCd 274).drop 194) = true := okC_cat _ 2 194 _ okS_274_97 hz
  have hz : okC (pgB 274) ((pgCd 274).drop 192) = true := okC_cat _ 2 192 _ okS_274_96 hz
  have hz : okC (pgB 274) ((pgCd 274).drop 190) = true := okC_cat _ 2 190 _ okS_274_95 hz
  have hz : okC (pgB 274) ((pgCd 274).drop 188) = true := okC_cat _ 2 188 _ okS_274_94 hz
  have hz : okC (pgB 274) ((pgCd 274).drop 186) = true := okC_cat _ 2 186 _ okS_274_93 hz
  have hz : okC (pgB 274) ((pgCd 274).drop 184) = true := okC_cat _ 2 184 _ okS_274_92 hz
  have hz : okC (pgB 274) ((pgCd 274).drop 182) = true := okC_cat _ 2 182 _ okS_274_91 hz
  have hz : okC (pgB 274) ((pgCd 274).drop 180) = true := okC_cat _ 2 180 _ okS_274_90 hz
  have hz : okC (pgB 274) ((pgCd 274).drop 178) = true := okC_cat _ 2 178 _ okS_274_89 hz
  have hz : okC (pgB 274) ((pgCd 274).drop 176) = true := okC_cat _ 2 176 _ okS_274_88 hz
  have hz : okC (pgB 274) ((pgCd 274).drop 174) = true := okC_cat _ 2 174 _ okS_274_87 hz
  have hz : okC (pgB 274) ((pgCd 274).drop 172) = true := okC_cat _ 2 172 _ okS_274_86 hz
  have hz : okC (pgB 274) ((pgCd 274).drop 170) = true := okC_cat _ 2 170 _ okS_274_85 hz
  have hz : okC (pgB 274) ((pgCd 274).drop 168) = true := okC_cat _ 2 168 _ okS_274_84 hz
  have hz : okC (pgB 274) ((pgCd 274).drop 166) = true := okC_cat _ 2 166 _ okS_274_83 hz
  have hz : okC (pgB 274) ((pgCd 274).drop 164) = true := okC_cat _ 2 164 _ okS_274_82 hz
  have hz : okC (pgB 274) ((pgCd 274).drop 162) = true := okC_cat _ 2 162 _ okS_274_81 hz
  have hz : okC (pgB 274) ((pgCd 274).drop 160) = true := okC_cat _ 2 160 _ okS_274_80 hz
  have hz : okC (pgB 274) ((pgCd 274).drop 158) = true := okC_cat _ 2 158 _ okS_274_79 hz
  have hz : okC (pgB 274) ((pgCd 274).drop 156) = true := okC_cat _ 2 156 _ okS_274_78 hz
  have hz : okC (pgB 274) ((pgCd 274).drop 154) = true := okC_cat _ 2 154 _ okS_274_77 hz
  have hz : okC (pgB 274) ((pgCd 274).drop 152) = true := okC_cat _ 2 152 _ okS_274_76 hz
  have hz : okC (pgB 274) ((pgCd 274).drop 150) = true := okC_cat _ 2 150 _ okS_274_75 hz
  have hz : okC (pgB 274) ((pgCd 274).drop 148) = true := okC_cat _ 2 148 _ okS_274_74 hz
  have hz : okC (pgB 274) ((pgCd 274).drop 146) = true := okC_cat _ 2 146 _ okS_274_73 hz
  have hz : okC (pgB 274) ((pgCd 274).drop 144) = true := okC_cat _ 2 144 _ okS_274_72 hz
  have hz : okC (pgB 274) ((pgCd 274).drop 142) = true := okC_cat _ 2 142 _ okS_274_71 hz
  have hz : okC (pgB 274) ((pgCd 274).drop 140) = true := okC_cat _ 2 140 _ okS_274_70 hz
  have hz : okC (pgB 274) ((pgCd 274).drop 138) = true := okC_cat _ 2 138 _ okS_274_69 hz
  have hz : okC (pgB 274) ((pgCd 274).drop 136) = true := okC_cat _ 2 136 _ okS_274_68 hz
  have hz : okC (pgB 274) ((pgCd 274).drop 134) = true := okC_cat _ 2 134 _ okS_274_67 hz
  have hz : okC (pgB 274) ((pgCd 274).drop 132) = true := okC_cat _ 2 132 _ okS_274_66 hz
  have hz : okC (pgB 274) ((pgCd 274).drop 130) = true := okC_cat _ 2 130 _ okS_274_65 hz
  have hz : okC (pgB 274) ((pgCd 274).drop 128) = true := okC_cat _ 2 128 _ okS_274_64 hz
  have hz : okC (pgB 274) ((pgCd 274).drop 126) = true := okC_cat _ 2 126 _ okS_274_63 hz
  have hz : okC (pgB 274) ((pgCd 274).drop 124) = true := okC_cat _ 2 124 _ okS_274_62 hz
  have hz : okC (pgB 274) ((pgCd 274).drop 122) = true := okC_cat _ 2 122 _ okS_274_61 hz
  have hz : okC (pgB 274) ((pgCd 274).drop 120) = true := okC_cat _ 2 120 _ okS_274_60 hz
  have hz : okC (pgB 274) ((pgCd 274).drop 118) = true := okC_cat _ 2 118 _ okS_274_59 hz
  have hz : okC (pgB 274) ((pgCd 274).drop 116) = true := okC_cat _ 2 116 _ okS_274_58 hz
  have hz : okC (pgB 274) ((pgCd 274).drop 114) = true := okC_cat _ 2 114 _ okS_274_57 hz
  have hz : okC (pgB 274) ((pgCd 274).drop 112) = true := okC_cat _ 2 112 _ okS_274_56 hz
  have hz : okC (pgB 274) ((pgCd 274).drop 110) = true := okC_cat _ 2 110 _ okS_274_55 hz
  have hz : okC (pgB 274) ((pgCd 274).drop 108) = true := okC_cat _ 2 108 _ okS_274_54 hz
  have hz : okC (pgB 274) ((pgCd 274).drop 106) = true := okC_cat _ 2 106 _ okS_274_53 hz
  have hz : okC (pgB 274) ((pgCd 274).drop 104) = true := okC_cat _ 2 104 _ okS_274_52 hz
  have hz : okC (pgB 274) ((pgCd 274).drop 102) = true := okC_cat _ 2 102 _ okS_274_51 hz
  have hz : okC (pgB 274) ((pgCd 274).drop 100) = true := okC_cat _ 2 100 _ okS_274_50 hz
  have hz : okC (pgB 274) ((pgCd 274).drop 98) = true := okC_cat _ 2 98 _ okS_274_49 hz
  have hz : okC (pgB 274) ((pgCd 274).drop 96) = true := okC_cat _ 2 96 _ okS_274_48 hz
  have hz : okC (pgB 274) ((pgCd 274).drop 94) = true := okC_cat _ 2 94 _ okS_274_47 hz
  have hz : okC (pgB 274) ((pgCd 274).drop 92) = true := okC_cat _ 2 92 _ okS_274_46 hz
  have hz : okC (pgB 274) ((pgCd 274).drop 90) = true := okC_cat _ 2 90 _ okS_274_45 hz
  have hz : okC (pgB 274) ((pgCd 274).drop 88) = true := okC_cat _ 2 88 _ okS_274_44 hz
  have hz : okC (pgB 274) ((pgCd 274).drop 86) = true := okC_cat _ 2 86 _ okS_274_43 hz
  have hz : okC (pgB 274) ((pgCd 274).drop 84) = true := okC_cat _ 2 84 _ okS_274_42 hz
  have hz : okC (pgB 274) ((pgCd 274).drop 82) = true := okC_cat _ 2 82 _ okS_274_41 hz
  have hz : okC (pgB 274) ((pgCd 274).drop 80) = true := okC_cat _ 2 80 _ okS_274_40 hz
  have hz : okC (pgB 274) ((pgCd 274).drop 78) = true := okC_cat _ 2 78 _ okS_274_39 hz
  have hz : okC (pgB 274) ((pgCd 274).drop 76) = true := okC_cat _ 2 76 _ okS_274_38 hz
  have hz : okC (pgB 274) ((pgCd 274).drop 74) = true := okC_cat _ 2 74 _ okS_274_37 hz
  have hz : okC (pgB 274) ((pgCd 274).drop 72) = true := okC_cat _ 2 72 _ okS_274_36 hz
  have hz : okC (pgB 274) ((pgCd 274).drop 70) = true := okC_cat _ 2 70 _ okS_274_35 hz
  have hz : okC (pgB 274) ((pgCd 274).drop 68) = true := okC_cat _ 2 68 _ okS_274_34 hz
  have hz : okC (pgB 274) ((pgCd 274).drop 66) = true := okC_cat _ 2 66 _ okS_274_33 hz
  have hz : okC (pgB 274) ((pgCd 274).drop 64) = true := okC_cat _ 2 64 _ okS_274_32 hz
  have hz : okC (pgB 274) ((pgCd 274).drop 62) = true := okC_cat _ 2 62 _ okS_274_31 hz
  have hz : okC (pgB 274) ((pgCd 274).drop 60) = true := okC_cat _ 2 60 _ okS_274_30 hz
  have hz : okC (pgB 274) ((pgCd 274).drop 58) = true := okC_cat _ 2 58 _ okS_274_29 hz
  have hz : okC (pgB 274) ((pgCd 274).drop 56) = true := okC_cat _ 2 56 _ okS_274_28 hz
  have hz : okC (pgB 274) ((pgCd 274).drop 54) = true := okC_cat _ 2 54 _ okS_274_27 hz
  have hz : okC (pgB 274) ((pgCd 274).drop 52) = true := okC_cat _ 2 52 _ okS_274_26 hz
  have hz : okC (pgB 274) ((pgCd 274).drop 50) = true := okC_cat _ 2 50 _ okS_274_25 hz
  have hz : okC (pgB 274) ((pgCd 274).drop 48) = true := okC_cat _ 2 48 _ okS_274_24 hz
  have hz : okC (pgB 274) ((pgCd 274).drop 46) = true := okC_cat _ 2 46 _ okS_274_23 hz
  have hz : okC (pgB 274) ((pgCd 274).drop 44) = true := okC_cat _ 2 44 _ okS_274_22 hz
  have hz : okC (pgB 274) ((pgCd 274).drop 42) = true := okC_cat _ 2 42 _ okS_274_21 hz
  have hz : okC (pgB 274) ((pgCd 274).drop 40) = true := okC_cat _ 2 40 _ okS_274_20 hz
  have hz : okC (pgB 274) ((pgCd 274).drop 38) = true := okC_cat _ 2 38 _ okS_274_19 hz
  have hz : okC (pgB 274) ((pgCd 274).drop 36) = true := okC_cat _ 2 36 _ okS_274_18 hz
  have hz : okC (pgB 274) ((pgCd 274).drop 34) = true := okC_cat _ 2 34 _ okS_274_17 hz
  have hz : okC (pgB 274) ((pgCd 274).drop 32) = true := okC_cat _ 2 32 _ okS_274_16 hz
  have hz : okC (pgB 274) ((pgCd 274).drop 30) = true := okC_cat _ 2 30 _ okS_274_15 hz
  have hz : okC (pgB 274) ((pgCd 274).drop 28) = true := okC_cat _ 2 28 _ okS_274_14 hz
  have hz : okC (pgB 274) ((pgCd 274).drop 26) = true := okC_cat _ 2 26 _ okS_274_13 hz
  have hz : okC (pgB 274) ((pgCd 274).drop 24) = true := okC_cat _ 2 24 _ okS_274_12 hz
  have hz : okC (pgB 274) ((pgCd 274).drop 22) = true := okC_cat _ 2 22 _ okS_274_11 hz
  have hz : okC (pgB 274) ((pgCd 274).drop 20) = true := okC_cat _ 2 20 _ okS_274_10 hz
  have hz : okC (pgB 274) ((pgCd 274).drop 18) = true := okC_cat _ 2 18 _ okS_274_9 hz
  have hz : okC (pgB 274) ((pgCd 274).drop 16) = true := okC_cat _ 2 16 _ okS_274_8 hz
  have hz : okC (pgB 274) ((pgCd 274).drop 14) = true := okC_cat _ 2 14 _ okS_274_7 hz
  have hz : okC (pgB 274) ((pgCd 274).drop 12) = true := okC_cat _ 2 12 _ okS_274_6 hz
  have hz : okC (pgB 274) ((pgCd 274).drop 10) = true := okC_cat _ 2 10 _ okS_274_5 hz
  have hz : okC (pgB 274) ((pgCd 274).drop 8) = true := okC_cat _ 2 8 _ okS_274_4 hz
  have hz : okC (pgB 274) ((pgCd 274).drop 6) = true := okC_cat _ 2 6 _ okS_274_3 hz
  have hz : okC (pgB 274) ((pgCd 274).drop 4) = true := okC_cat _ 2 4 _ okS_274_2 hz
  have hz : okC (pgB 274) ((pgCd 274).drop 2) = true := okC_cat _ 2 2 _ okS_274_1 hz
  have hz : okC (pgB 274) ((pgCd 274).drop 0) = true := okC_cat _ 2 0 _ okS_274_0 hz
  exact hz
theorem okMid_274 : okMid 274 = true := by unfold okMid; rw [okCd_274]; rfl
end
section
/-- not one of java.lang.Math's (which the machine runs by rows of their own) -/
def m_pl (k : Nat) : Bool := !(Nat.blt 259 k && Nat.blt k 264)
theorem okMid_all : ∀ k, k < 275 → m_pl k = true → okMid k = true := by
  intro k hk hp
  have q0 : 0 ≤ k := Nat.zero_le k
  rcases Nat.lt_or_ge k 137 with q | q
  · rcases Nat.lt_or_ge k 68 with q | q
    · rcases Nat.lt_or_ge k 34 with q | q
      · rcases Nat.lt_or_ge k 17 with q | q
        · rcases Nat.lt_or_ge k 8 with q | q
          · rcases Nat.lt_or_ge k 4 with q | q
            · rcases Nat.lt_or_ge k 2 with q | q
              · rcases Nat.lt_or_ge k 1 with q | q
                · have e : k = 0 := by omega
                  subst e; exact okMid_0
                · have e : k = 1 := by omega
                  subst e; exact okMid_1
              · rcases Nat.lt_or_ge k 3 with q | q
                · have e : k = 2 := by omega
                  subst e; exact okMid_2
                · have e : k = 3 := by omega
                  subst e; exact okMid_3
            · rcases Nat.lt_or_ge k 6 with q | q
              · rcases Nat.lt_or_ge k 5 with q | q
                · have e : k = 4 := by omega
                  subst e; exact okMid_4
                · have e : k = 5 := by omega
                  subst e; exact okMid_5
              · rcases Nat.lt_or_ge k 7 with q | q
                · have e : k = 6 := by omega
                  subst e; exact okMid_6
                · have e : k = 7 := by omega
                  subst e; exact okMid_7
          · rcases Nat.lt_or_ge k 12 with q | q
            · rcases Nat.lt_or_ge k 10 with q | q
              · rcases Nat.lt_or_ge k 9 with q | q
                · have e : k = 8 := by omega
                  subst e; exact okMid_8
                · have e : k = 9 := by omega
                  subst e; exact okMid_9
              · rcases Nat.lt_or_ge k 11 with q | q
                · have e : k = 10 := by omega
                  subst e; exact okMid_10
                · have e : k = 11 := by omega
                  subst e; exact okMid_11
            · rcases Nat.lt_or_ge k 14 with q | q
              · rcases Nat.lt_or_ge k 13 with q | q
                · have e : k = 12 := by omega
                  subst e; exact okMid_12
                · have e : k = 13 := by omega
                  subst e; exact okMid_13
              · rcases Nat.lt_or_ge k 15 with q | q
                · have e : k = 14 := by omega
                  subst e; exact okMid_14
                · rcases Nat.lt_or_ge k 16 with q | q
                  · have e : k = 15 := by omega
                    subst e; exact okMid_15
                  · have e : k = 16 := by omega
                    subst e; exact okMid_16
        · rcases Nat.lt_or_ge k 25 with q | q
          · rcases Nat.lt_or_ge k 21 with q | q
            · rcases Nat.lt_or_ge k 19 with q | q
              · rcases Nat.lt_or_ge k 18 with q | q
                · have e : k = 17 := by omega
                  subst e; exact okMid_17
                · have e : k = 18 := by omega
                  subst e; exact okMid_18
              · rcases Nat.lt_or_ge k 20 with q | q
                · have e : k = 19 := by omega
                  subst e; exact okMid_19
                · have e : k = 20 := by omega
                  subst e; exact okMid_20
            · rcases Nat.lt_or_ge k 23 with q | q
              · rcases Nat.lt_or_ge k 22 with q | q
                · have e : k = 21 := by omega
                  subst e; exact okMid_21
                · have e : k = 22 := by omega
                  subst e; exact okMid_22
              · rcases Nat.lt_or_ge k 24 with q | q
                · have e : k = 23 := by omega
                  subst e; exact okMid_23
                · have e : k = 24 := by omega
                  subst e; exact okMid_24
          · rcases Nat.lt_or_ge k 29 with q | q
            · rcases Nat.lt_or_ge k 27 with q | q
              · rcases Nat.lt_or_ge k 26 with q | q
                · have e : k = 25 := by omega
                  subst e; exact okMid_25
                · have e : k = 26 := by omega
                  subst e; exact okMid_26
              · rcases Nat.lt_or_ge k 28 with q | q
                · have e : k = 27 := by omega
                  subst e; exact okMid_27
                · have e : k = 28 := by omega
                  subst e; exact okMid_28
            · rcases Nat.lt_or_ge k 31 with q | q
              · rcases Nat.lt_or_ge k 30 with q | q
                · have e : k = 29 := by omega
                  subst e; exact okMid_29
                · have e : k = 30 := by omega
                  subst e; exact okMid_30
              · rcases Nat.lt_or_ge k 32 with q | q
                · have e : k = 31 := by omega
                  subst e; exact okMid_31
                · rcases Nat.lt_or_ge k 33 with q | q
                  · have e : k = 32 := by omega
                    subst e; exact okMid_32
                  · have e : k = 33 := by omega
                    subst e; exact okMid_33
      · rcases Nat.lt_or_ge k 51 with q | q
        · rcases Nat.lt_or_ge k 42 with q | q
          · rcases Nat.lt_or_ge k 38 with q | q
            · rcases Nat.lt_or_ge k 36 with q | q
              · rcases Nat.lt_or_ge k 35 with q | q
                · have e : k = 34 := by omega
                  subst e; exact okMid_34
                · have e : k = 35 := by omega
                  subst e; exact okMid_35
              · rcases Nat.lt_or_ge k 37 with q | q
                · have e : k = 36 := by omega
                  subst e; exact okMid_36
                · have e : k = 37 := by omega
                  subst e; exact okMid_37
            · rcases Nat.lt_or_ge k 40 with q | q
              · rcases Nat.lt_or_ge k 39 with q | q
                · have e : k = 38 := by omega
                  subst e; exact okMid_38
                · have e : k = 39 := by omega
                  subst e; exact okMid_39
              · rcases Nat.lt_or_ge k 41 with q | q
                · have e : k = 40 := by omega
                  subst e; exact okMid_40
                · have e : k = 41 := by omega
                  subst e; exact okMid_41
          · rcases Nat.lt_or_ge k 46 with q | q
            · rcases Nat.lt_or_ge k 44 with q | q
              · rcases Nat.lt_or_ge k 43 with q | q
                · have e : k = 42 := by omega
                  subst e; exact okMid_42
                · have e : k = 43 := by omega
                  subst e; exact okMid_43
              · rcases Nat.lt_or_ge k 45 with q | q
                · have e : k = 44 := by omega
                  subst e; exact okMid_44
                · have e : k = 45 := by omega
                  subst e; exact okMid_45
            · rcases Nat.lt_or_ge k 48 with q | q
              · rcases Nat.lt_or_ge k 47 with q | q
                · have e : k = 46 := by omega
                  subst e; exact okMid_46
                · have e : k = 47 := by omega
                  subst e; exact okMid_47
              · rcases Nat.lt_or_ge k 49 with q | q
                · have e : k = 48 := by omega
                  subst e; exact okMid_48
                · rcases Nat.lt_or_ge k 50 with q | q
                  · have e : k = 49 := by omega
                    subst e; exact okMid_49
                  · have e : k = 50 := by omega
                    subst e; exact okMid_50
        · rcases Nat.lt_or_ge k 59 with q | q
          · rcases Nat.lt_or_ge k 55 with q | q
            · rcases Nat.lt_or_ge k 53 with q | q
              · rcases Nat.lt_or_ge k 52 with q | q
                · have e : k = 51 := by omega
                  subst e; exact okMid_51
                · have e : k = 52 := by omega
                  subst e; exact okMid_52
              · rcases Nat.lt_or_ge k 54 with q | q
                · have e : k = 53 := by omega
                  subst e; exact okMid_53
                · have e : k = 54 := by omega
                  subst e; exact okMid_54
            · rcases Nat.lt_or_ge k 57 with q | q
              · rcases Nat.lt_or_ge k 56 with q | q
                · have e : k = 55 := by omega
                  subst e; exact okMid_55
                · have e : k = 56 := by omega
                  subst e; exact okMid_56
              · rcases Nat.lt_or_ge k 58 with q | q
                · have e : k = 57 := by omega
                  subst e; exact okMid_57
                · have e : k = 58 := by omega
                  subst e; exact okMid_58
          · rcases Nat.lt_or_ge k 63 with q | q
            · rcases Nat.lt_or_ge k 61 with q | q
              · rcases Nat.lt_or_ge k 60 with q | q
                · have e : k = 59 := by omega
                  subst e; exact okMid_59
                · have e : k = 60 := by omega
                  subst e; exact okMid_60
              · rcases Nat.lt_or_ge k 62 with q | q
                · have e : k = 61 := by omega
                  subst e; exact okMid_61
                · have e : k = 62 := by omega
                  subst e; exact okMid_62
            · rcases Nat.lt_or_ge k 65 with q | q
              · rcases Nat.lt_or_ge k 64 with q | q
                · have e : k = 63 := by omega
                  subst e; exact okMid_63
                · have e : k = 64 := by omega
                  subst e; exact okMid_64
              · rcases Nat.lt_or_ge k 66 with q | q
                · have e : k = 65 := by omega
                  subst e; exact okMid_65
                · rcases Nat.lt_or_ge k 67 with q | q
                  · have e : k = 66 := by omega
                    subst e; exact okMid_66
                  · have e : k = 67 := by omega
                    subst e; exact okMid_67
    · rcases Nat.lt_or_ge k 102 with q | q
      · rcases Nat.lt_or_ge k 85 with q | q
        · rcases Nat.lt_or_ge k 76 with q | q
          · rcases Nat.lt_or_ge k 72 with q | q
            · rcases Nat.lt_or_ge k 70 with q | q
              · rcases Nat.lt_or_ge k 69 with q | q
                · have e : k = 68 := by omega
                  subst e; exact okMid_68
                · have e : k = 69 := by omega
                  subst e; exact okMid_69
              · rcases Nat.lt_or_ge k 71 with q | q
                · have e : k = 70 := by omega
                  subst e; exact okMid_70
                · have e : k = 71 := by omega
                  subst e; exact okMid_71
            · rcases Nat.lt_or_ge k 74 with q | q
              · rcases Nat.lt_or_ge k 73 with q | q
                · have e : k = 72 := by omega
                  subst e; exact okMid_72
                · have e : k = 73 := by omega
                  subst e; exact okMid_73
              · rcases Nat.lt_or_ge k 75 with q | q
                · have e : k = 74 := by omega
                  subst e; exact okMid_74
                · have e : k = 75 := by omega
                  subst e; exact okMid_75
          · rcases Nat.lt_or_ge k 80 with q | q
            · rcases Nat.lt_or_ge k 78 with q | q
              · rcases Nat.lt_or_ge k 77 with q | q
                · have e : k = 76 := by omega
                  subst e; exact okMid_76
                · have e : k = 77 := by omega
                  subst e; exact okMid_77
              · rcases Nat.lt_or_ge k 79 with q | q
                · have e : k = 78 := by omega
                  subst e; exact okMid_78
                · have e : k = 79 := by omega
                  subst e; exact okMid_79
            · rcases Nat.lt_or_ge k 82 with q | q
              · rcases Nat.lt_or_ge k 81 with q | q
                · have e : k = 80 := by omega
                  subst e; exact okMid_80
                · have e : k = 81 := by omega
                  subst e; exact okMid_81
              · rcases Nat.lt_or_ge k 83 with q | q
                · have e : k = 82 := by omega
                  subst e; exact okMid_82
                · rcases Nat.lt_or_ge k 84 with q | q
                  · have e : k = 83 := by omega
                    subst e; exact okMid_83
                  · have e : k = 84 := by omega
                    subst e; exact okMid_84
        · rcases Nat.lt_or_ge k 93 with q | q
          · rcases Nat.lt_or_ge k 89 with q | q
            · rcases Nat.lt_or_ge k 87 with q | q
              · rcases Nat.lt_or_ge k 86 with q | q
                · have e : k = 85 := by omega
                  subst e; exact okMid_85
                · have e : k = 86 := by omega
                  subst e; exact okMid_86
              · rcases Nat.lt_or_ge k 88 with q | q
                · have e : k = 87 := by omega
                  subst e; exact okMid_87
                · have e : k = 88 := by omega
                  subst e; exact okMid_88
            · rcases Nat.lt_or_ge k 91 with q | q
              · rcases Nat.lt_or_ge k 90 with q | q
                · have e : k = 89 := by omega
                  subst e; exact okMid_89
                · have e : k = 90 := by omega
                  subst e; exact okMid_90
              · rcases Nat.lt_or_ge k 92 with q | q
                · have e : k = 91 := by omega
                  subst e; exact okMid_91
                · have e : k = 92 := by omega
                  subst e; exact okMid_92
          · rcases Nat.lt_or_ge k 97 with q | q
            · rcases Nat.lt_or_ge k 95 with q | q
              · rcases Nat.lt_or_ge k 94 with q | q
                · have e : k = 93 := by omega
                  subst e; exact okMid_93
                · have e : k = 94 := by omega
                  subst e; exact okMid_94
              · rcases Nat.lt_or_ge k 96 with q | q
                · have e : k = 95 := by omega
                  subst e; exact okMid_95
                · have e : k = 96 := by omega
                  subst e; exact okMid_96
            · rcases Nat.lt_or_ge k 99 with q | q
              · rcases Nat.lt_or_ge k 98 with q | q
                · have e : k = 97 := by omega
                  subst e; exact okMid_97
                · have e : k = 98 := by omega
                  subst e; exact okMid_98
              · rcases Nat.lt_or_ge k 100 with q | q
                · have e : k = 99 := by omega
                  subst e; exact okMid_99
                · rcases Nat.lt_or_ge k 101 with q | q
                  · have e : k = 100 := by omega
                    subst e; exact okMid_100
                  · have e : k = 101 := by omega
                    subst e; exact okMid_101
      · rcases Nat.lt_or_ge k 119 with q | q
        · rcases Nat.lt_or_ge k 110 with q | q
          · rcases Nat.lt_or_ge k 106 with q | q
            · rcases Nat.lt_or_ge k 104 with q | q
              · rcases Nat.lt_or_ge k 103 with q | q
                · have e : k = 102 := by omega
                  subst e; exact okMid_102
                · have e : k = 103 := by omega
                  subst e; exact okMid_103
              · rcases Nat.lt_or_ge k 105 with q | q
                · have e : k = 104 := by omega
                  subst e; exact okMid_104
                · have e : k = 105 := by omega
                  subst e; exact okMid_105
            · rcases Nat.lt_or_ge k 108 with q | q
              · rcases Nat.lt_or_ge k 107 with q | q
                · have e : k = 106 := by omega
                  subst e; exact okMid_106
                · have e : k = 107 := by omega
                  subst e; exact okMid_107
              · rcases Nat.lt_or_ge k 109 with q | q
                · have e : k = 108 := by omega
                  subst e; exact okMid_108
                · have e : k = 109 := by omega
                  subst e; exact okMid_109
          · rcases Nat.lt_or_ge k 114 with q | q
            · rcases Nat.lt_or_ge k 112 with q | q
              · rcases Nat.lt_or_ge k 111 with q | q
                · have e : k = 110 := by omega
                  subst e; exact okMid_110
                · have e : k = 111 := by omega
                  subst e; exact okMid_111
              · rcases Nat.lt_or_ge k 113 with q | q
                · have e : k = 112 := by omega
                  subst e; exact okMid_112
                · have e : k = 113 := by omega
                  subst e; exact okMid_113
            · rcases Nat.lt_or_ge k 116 with q | q
              · rcases Nat.lt_or_ge k 115 with q | q
                · have e : k = 114 := by omega
                  subst e; exact okMid_114
                · have e : k = 115 := by omega
                  subst e; exact okMid_115
              · rcases Nat.lt_or_ge k 117 with q | q
                · have e : k = 116 := by omega
                  subst e; exact okMid_116
                · rcases Nat.lt_or_ge k 118 with q | q
                  · have e : k = 117 := by omega
                    subst e; exact okMid_117
                  · have e : k = 118 := by omega
                    subst e; exact okMid_118
        · rcases Nat.lt_or_ge k 128 with q | q
          · rcases Nat.lt_or_ge k 123 with q | q
            · rcases Nat.lt_or_ge k 121 with q | q
              · rcases Nat.lt_or_ge k 120 with q | q
                · have e : k = 119 := by omega
                  subst e; exact okMid_119
                · have e : k = 120 := by omega
                  subst e; exact okMid_120
              · rcases Nat.lt_or_ge k 122 with q | q
                · have e : k = 121 := by omega
                  subst e; exact okMid_121
                · have e : k = 122 := by omega
                  subst e; exact okMid_122
            · rcases Nat.lt_or_ge k 125 with q | q
              · rcases Nat.lt_or_ge k 124 with q | q
                · have e : k = 123 := by omega
                  subst e; exact okMid_123
                · have e : k = 124 := by omega
                  subst e; exact okMid_124
              · rcases Nat.lt_or_ge k 126 with q | q
                · have e : k = 125 := by omega
                  subst e; exact okMid_125
                · rcases Nat.lt_or_ge k 127 with q | q
                  · have e : k = 126 := by omega
                    subst e; exact okMid_126
                  · have e : k = 127 := by omega
                    subst e; exact okMid_127
          · rcases Nat.lt_or_ge k 132 with q | q
            · rcases Nat.lt_or_ge k 130 with q | q
              · rcases Nat.lt_or_ge k 129 with q | q
                · have e : k = 128 := by omega
                  subst e; exact okMid_128
                · have e : k = 129 := by omega
                  subst e; exact okMid_129
              · rcases Nat.lt_or_ge k 131 with q | q
                · have e : k = 130 := by omega
                  subst e; exact okMid_130
                · have e : k = 131 := by omega
                  subst e; exact okMid_131
            · rcases Nat.lt_or_ge k 134 with q | q
              · rcases Nat.lt_or_ge k 133 with q | q
                · have e : k = 132 := by omega
                  subst e; exact okMid_132
                · have e : k = 133 := by omega
                  subst e; exact okMid_133
              · rcases Nat.lt_or_ge k 135 with q | q
                · have e : k = 134 := by omega
                  subst e; exact okMid_134
                · rcases Nat.lt_or_ge k 136 with q | q
                  · have e : k = 135 := by omega
                    subst e; exact okMid_135
                  · have e : k = 136 := by omega
                    subst e; exact okMid_136
  · rcases Nat.lt_or_ge k 206 with q | q
    · rcases Nat.lt_or_ge k 171 with q | q
      · rcases Nat.lt_or_ge k 154 with q | q
        · rcases Nat.lt_or_ge k 145 with q | q
          · rcases Nat.lt_or_ge k 141 with q | q
            · rcases Nat.lt_or_ge k 139 with q | q
              · rcases Nat.lt_or_ge k 138 with q | q
                · have e : k = 137 := by omega
                  subst e; exact okMid_137
                · have e : k = 138 := by omega
                  subst e; exact okMid_138
              · rcases Nat.lt_or_ge k 140 with q | q
                · have e : k = 139 := by omega
                  subst e; exact okMid_139
                · have e : k = 140 := by omega
                  subst e; exact okMid_140
            · rcases Nat.lt_or_ge k 143 with q | q
              · rcases Nat.lt_or_ge k 142 with q | q
                · have e : k = 141 := by omega
                  subst e; exact okMid_141
                · have e : k = 142 := by omega
                  subst e; exact okMid_142
              · rcases Nat.lt_or_ge k 144 with q | q
                · have e : k = 143 := by omega
                  subst e; exact okMid_143
                · have e : k = 144 := by omega
                  subst e; exact okMid_144
          · rcases Nat.lt_or_ge k 149 with q | q
            · rcases Nat.lt_or_ge k 147 with q | q
              · rcases Nat.lt_or_ge k 146 with q | q
                · have e : k = 145 := by omega
                  subst e; exact okMid_145
                · have e : k = 146 := by omega
                  subst e; exact okMid_146
              · rcases Nat.lt_or_ge k 148 with q | q
                · have e : k = 147 := by omega
                  subst e; exact okMid_147
                · have e : k = 148 := by omega
                  subst e; exact okMid_148
            · rcases Nat.lt_or_ge k 151 with q | q
              · rcases Nat.lt_or_ge k 150 with q | q
                · have e : k = 149 := by omega
                  subst e; exact okMid_149
                · have e : k = 150 := by omega
                  subst e; exact okMid_150
              · rcases Nat.lt_or_ge k 152 with q | q
                · have e : k = 151 := by omega
                  subst e; exact okMid_151
                · rcases Nat.lt_or_ge k 153 with q | q
                  · have e : k = 152 := by omega
                    subst e; exact okMid_152
                  · have e : k = 153 := by omega
                    subst e; exact okMid_153
        · rcases Nat.lt_or_ge k 162 with q | q
          · rcases Nat.lt_or_ge k 158 with q | q
            · rcases Nat.lt_or_ge k 156 with q | q
              · rcases Nat.lt_or_ge k 155 with q | q
                · have e : k = 154 := by omega
                  subst e; exact okMid_154
                · have e : k = 155 := by omega
                  subst e; exact okMid_155
              · rcases Nat.lt_or_ge k 157 with q | q
                · have e : k = 156 := by omega
                  subst e; exact okMid_156
                · have e : k = 157 := by omega
                  subst e; exact okMid_157
            · rcases Nat.lt_or_ge k 160 with q | q
              · rcases Nat.lt_or_ge k 159 with q | q
                · have e : k = 158 := by omega
                  subst e; exact okMid_158
                · have e : k = 159 := by omega
                  subst e; exact okMid_159
              · rcases Nat.lt_or_ge k 161 with q | q
                · have e : k = 160 := by omega
                  subst e; exact okMid_160
                · have e : k = 161 := by omega
                  subst e; exact okMid_161
          · rcases Nat.lt_or_ge k 166 with q | q
            · rcases Nat.lt_or_ge k 164 with q | q
              · rcases Nat.lt_or_ge k 163 with q | q
                · have e : k = 162 := by omega
                  subst e; exact okMid_162
                · have e : k = 163 := by omega
                  subst e; exact okMid_163
              · rcases Nat.lt_or_ge k 165 with q | q
                · have e : k = 164 := by omega
                  subst e; exact okMid_164
                · have e : k = 165 := by omega
                  subst e; exact okMid_165
            · rcases Nat.lt_or_ge k 168 with q | q
              · rcases Nat.lt_or_ge k 167 with q | q
                · have e : k = 166 := by omega
                  subst e; exact okMid_166
                · have e : k = 167 := by omega
                  subst e; exact okMid_167
              · rcases Nat.lt_or_ge k 169 with q | q
                · have e : k = 168 := by omega
                  subst e; exact okMid_168
                · rcases Nat.lt_or_ge k 170 with q | q
                  · have e : k = 169 := by omega
                    subst e; exact okMid_169
                  · have e : k = 170 := by omega
                    subst e; exact okMid_170
      · rcases Nat.lt_or_ge k 188 with q | q
        · rcases Nat.lt_or_ge k 179 with q | q
          · rcases Nat.lt_or_ge k 175 with q | q
            · rcases Nat.lt_or_ge k 173 with q | q
              · rcases Nat.lt_or_ge k 172 with q | q
                · have e : k = 171 := by omega
                  subst e; exact okMid_171
                · have e : k = 172 := by omega
                  subst e; exact okMid_172
              · rcases Nat.lt_or_ge k 174 with q | q
                · have e : k = 173 := by omega
                  subst e; exact okMid_173
                · have e : k = 174 := by omega
                  subst e; exact okMid_174
            · rcases Nat.lt_or_ge k 177 with q | q
              · rcases Nat.lt_or_ge k 176 with q | q
                · have e : k = 175 := by omega
                  subst e; exact okMid_175
                · have e : k = 176 := by omega
                  subst e; exact okMid_176
              · rcases Nat.lt_or_ge k 178 with q | q
                · have e : k = 177 := by omega
                  subst e; exact okMid_177
                · have e : k = 178 := by omega
                  subst e; exact okMid_178
          · rcases Nat.lt_or_ge k 183 with q | q
            · rcases Nat.lt_or_ge k 181 with q | q
              · rcases Nat.lt_or_ge k 180 with q | q
                · have e : k = 179 := by omega
                  subst e; exact okMid_179
                · have e : k = 180 := by omega
                  subst e; exact okMid_180
              · rcases Nat.lt_or_ge k 182 with q | q
                · have e : k = 181 := by omega
                  subst e; exact okMid_181
                · have e : k = 182 := by omega
                  subst e; exact okMid_182
            · rcases Nat.lt_or_ge k 185 with q | q
              · rcases Nat.lt_or_ge k 184 with q | q
                · have e : k = 183 := by omega
                  subst e; exact okMid_183
                · have e : k = 184 := by omega
                  subst e; exact okMid_184
              · rcases Nat.lt_or_ge k 186 with q | q
                · have e : k = 185 := by omega
                  subst e; exact okMid_185
                · rcases Nat.lt_or_ge k 187 with q | q
                  · have e : k = 186 := by omega
                    subst e; exact okMid_186
                  · have e : k = 187 := by omega
                    subst e; exact okMid_187
        · rcases Nat.lt_or_ge k 197 with q | q
          · rcases Nat.lt_or_ge k 192 with q | q
            · rcases Nat.lt_or_ge k 190 with q | q
              · rcases Nat.lt_or_ge k 189 with q | q
                · have e : k = 188 := by omega
                  subst e; exact okMid_188
                · have e : k = 189 := by omega
                  subst e; exact okMid_189
              · rcases Nat.lt_or_ge k 191 with q | q
                · have e : k = 190 := by omega
                  subst e; exact okMid_190
                · have e : k = 191 := by omega
                  subst e; exact okMid_191
            · rcases Nat.lt_or_ge k 194 with q | q
              · rcases Nat.lt_or_ge k 193 with q | q
                · have e : k = 192 := by omega
                  subst e; exact okMid_192
                · have e : k = 193 := by omega
                  subst e; exact okMid_193
              · rcases Nat.lt_or_ge k 195 with q | q
                · have e : k = 194 := by omega
                  subst e; exact okMid_194
                · rcases Nat.lt_or_ge k 196 with q | q
                  · have e : k = 195 := by omega
                    subst e; exact okMid_195
                  · have e : k = 196 := by omega
                    subst e; exact okMid_196
          · rcases Nat.lt_or_ge k 201 with q | q
            · rcases Nat.lt_or_ge k 199 with q | q
              · rcases Nat.lt_or_ge k 198 with q | q
                · have e : k = 197 := by omega
                  subst e; exact okMid_197
                · have e : k = 198 := by omega
                  subst e; exact okMid_198
              · rcases Nat.lt_or_ge k 200 with q | q
                · have e : k = 199 := by omega
                  subst e; exact okMid_199
                · have e : k = 200 := by omega
                  subst e; exact okMid_200
            · rcases Nat.lt_or_ge k 203 with q | q
              · rcases Nat.lt_or_ge k 202 with q | q
                · have e : k = 201 := by omega
                  subst e; exact okMid_201
                · have e : k = 202 := by omega
                  subst e; exact okMid_202
              · rcases Nat.lt_or_ge k 204 with q | q
                · have e : k = 203 := by omega
                  subst e; exact okMid_203
                · rcases Nat.lt_or_ge k 205 with q | q
                  · have e : k = 204 := by omega
                    subst e; exact okMid_204
                  · have e : k = 205 := by omega
                    subst e; exact okMid_205
    · rcases Nat.lt_or_ge k 240 with q | q
      · rcases Nat.lt_or_ge k 223 with q | q
        · rcases Nat.lt_or_ge k 214 with q | q
          · rcases Nat.lt_or_ge k 210 with q | q
            · rcases Nat.lt_or_ge k 208 with q | q
              · rcases Nat.lt_or_ge k 207 with q | q
                · have e : k = 206 := by omega
                  subst e; exact okMid_206
                · have e : k = 207 := by omega
                  subst e; exact okMid_207
              · rcases Nat.lt_or_ge k 209 with q | q
                · have e : k = 208 := by omega
                  subst e; exact okMid_208
                · have e : k = 209 := by omega
                  subst e; exact okMid_209
            · rcases Nat.lt_or_ge k 212 with q | q
              · rcases Nat.lt_or_ge k 211 with q | q
                · have e : k = 210 := by omega
                  subst e; exact okMid_210
                · have e : k = 211 := by omega
                  subst e; exact okMid_211
              · rcases Nat.lt_or_ge k 213 with q | q
                · have e : k = 212 := by omega
                  subst e; exact okMid_212
                · have e : k = 213 := by omega
                  subst e; exact okMid_213
          · rcases Nat.lt_or_ge k 218 with q | q
            · rcases Nat.lt_or_ge k 216 with q | q
              · rcases Nat.lt_or_ge k 215 with q | q
                · have e : k = 214 := by omega
                  subst e; exact okMid_214
                · have e : k = 215 := by omega
                  subst e; exact okMid_215
              · rcases Nat.lt_or_ge k 217 with q | q
                · have e : k = 216 := by omega
                  subst e; exact okMid_216
                · have e : k = 217 := by omega
                  subst e; exact okMid_217
            · rcases Nat.lt_or_ge k 220 with q | q
              · rcases Nat.lt_or_ge k 219 with q | q
                · have e : k = 218 := by omega
                  subst e; exact okMid_218
                · have e : k = 219 := by omega
                  subst e; exact okMid_219
              · rcases Nat.lt_or_ge k 221 with q | q
                · have e : k = 220 := by omega
                  subst e; exact okMid_220
                · rcases Nat.lt_or_ge k 222 with q | q
                  · have e : k = 221 := by omega
                    subst e; exact okMid_221
                  · have e : k = 222 := by omega
                    subst e; exact okMid_222
        · rcases Nat.lt_or_ge k 231 with q | q
          · rcases Nat.lt_or_ge k 227 with q | q
            · rcases Nat.lt_or_ge k 225 with q | q
              · rcases Nat.lt_or_ge k 224 with q | q
                · have e : k = 223 := by omega
                  subst e; exact okMid_223
                · have e : k = 224 := by omega
                  subst e; exact okMid_224
              · rcases Nat.lt_or_ge k 226 with q | q
                · have e : k = 225 := by omega
                  subst e; exact okMid_225
                · have e : k = 226 := by omega
                  subst e; exact okMid_226
            · rcases Nat.lt_or_ge k 229 with q | q
              · rcases Nat.lt_or_ge k 228 with q | q
                · have e : k = 227 := by omega
                  subst e; exact okMid_227
                · have e : k = 228 := by omega
                  subst e; exact okMid_228
              · rcases Nat.lt_or_ge k 230 with q | q
                · have e : k = 229 := by omega
                  subst e; exact okMid_229
                · have e : k = 230 := by omega
                  subst e; exact okMid_230
          · rcases Nat.lt_or_ge k 235 with q | q
            · rcases Nat.lt_or_ge k 233 with q | q
              · rcases Nat.lt_or_ge k 232 with q | q
                · have e : k = 231 := by omega
                  subst e; exact okMid_231
                · have e : k = 232 := by omega
                  subst e; exact okMid_232
              · rcases Nat.lt_or_ge k 234 with q | q
                · have e : k = 233 := by omega
                  subst e; exact okMid_233
                · have e : k = 234 := by omega
                  subst e; exact okMid_234
            · rcases Nat.lt_or_ge k 237 with q | q
              · rcases Nat.lt_or_ge k 236 with q | q
                · have e : k = 235 := by omega
                  subst e; exact okMid_235
                · have e : k = 236 := by omega
                  subst e; exact okMid_236
              · rcases Nat.lt_or_ge k 238 with q | q
                · have e : k = 237 := by omega
                  subst e; exact okMid_237
                · rcases Nat.lt_or_ge k 239 with q | q
                  · have e : k = 238 := by omega
                    subst e; exact okMid_238
                  · have e : k = 239 := by omega
                    subst e; exact okMid_239
      · rcases Nat.lt_or_ge k 257 with q | q
        · rcases Nat.lt_or_ge k 248 with q | q
          · rcases Nat.lt_or_ge k 244 with q | q
            · rcases Nat.lt_or_ge k 242 with q | q
              · rcases Nat.lt_or_ge k 241 with q | q
                · have e : k = 240 := by omega
                  subst e; exact okMid_240
                · have e : k = 241 := by omega
                  subst e; exact okMid_241
              · rcases Nat.lt_or_ge k 243 with q | q
                · have e : k = 242 := by omega
                  subst e; exact okMid_242
                · have e : k = 243 := by omega
                  subst e; exact okMid_243
            · rcases Nat.lt_or_ge k 246 with q | q
              · rcases Nat.lt_or_ge k 245 with q | q
                · have e : k = 244 := by omega
                  subst e; exact okMid_244
                · have e : k = 245 := by omega
                  subst e; exact okMid_245
              · rcases Nat.lt_or_ge k 247 with q | q
                · have e : k = 246 := by omega
                  subst e; exact okMid_246
                · have e : k = 247 := by omega
                  subst e; exact okMid_247
          · rcases Nat.lt_or_ge k 252 with q | q
            · rcases Nat.lt_or_ge k 250 with q | q
              · rcases Nat.lt_or_ge k 249 with q | q
                · have e : k = 248 := by omega
                  subst e; exact okMid_248
                · have e : k = 249 := by omega
                  subst e; exact okMid_249
              · rcases Nat.lt_or_ge k 251 with q | q
                · have e : k = 250 := by omega
                  subst e; exact okMid_250
                · have e : k = 251 := by omega
                  subst e; exact okMid_251
            · rcases Nat.lt_or_ge k 254 with q | q
              · rcases Nat.lt_or_ge k 253 with q | q
                · have e : k = 252 := by omega
                  subst e; exact okMid_252
                · have e : k = 253 := by omega
                  subst e; exact okMid_253
              · rcases Nat.lt_or_ge k 255 with q | q
                · have e : k = 254 := by omega
                  subst e; exact okMid_254
                · rcases Nat.lt_or_ge k 256 with q | q
                  · have e : k = 255 := by omega
                    subst e; exact okMid_255
                  · have e : k = 256 := by omega
                    subst e; exact okMid_256
        · rcases Nat.lt_or_ge k 266 with q | q
          · rcases Nat.lt_or_ge k 261 with q | q
            · rcases Nat.lt_or_ge k 259 with q | q
              · rcases Nat.lt_or_ge k 258 with q | q
                · have e : k = 257 := by omega
                  subst e; exact okMid_257
                · have e : k = 258 := by omega
                  subst e; exact okMid_258
              · rcases Nat.lt_or_ge k 260 with q | q
                · have e : k = 259 := by omega
                  subst e; exact okMid_259
                · have e : k = 260 := by omega
                  subst e; cases hp
            · rcases Nat.lt_or_ge k 263 with q | q
              · rcases Nat.lt_or_ge k 262 with q | q
                · have e : k = 261 := by omega
                  subst e; cases hp
                · have e : k = 262 := by omega
                  subst e; cases hp
              · rcases Nat.lt_or_ge k 264 with q | q
                · have e : k = 263 := by omega
                  subst e; cases hp
                · rcases Nat.lt_or_ge k 265 with q | q
                  · have e : k = 264 := by omega
                    subst e; exact okMid_264
                  · have e : k = 265 := by omega
                    subst e; exact okMid_265
          · rcases Nat.lt_or_ge k 270 with q | q
            · rcases Nat.lt_or_ge k 268 with q | q
              · rcases Nat.lt_or_ge k 267 with q | q
                · have e : k = 266 := by omega
                  subst e; exact okMid_266
                · have e : k = 267 := by omega
                  subst e; exact okMid_267
              · rcases Nat.lt_or_ge k 269 with q | q
                · have e : k = 268 := by omega
                  subst e; exact okMid_268
                · have e : k = 269 := by omega
                  subst e; exact okMid_269
            · rcases Nat.lt_or_ge k 272 with q | q
              · rcases Nat.lt_or_ge k 271 with q | q
                · have e : k = 270 := by omega
                  subst e; exact okMid_270
                · have e : k = 271 := by omega
                  subst e; exact okMid_271
              · rcases Nat.lt_or_ge k 273 with q | q
                · have e : k = 272 := by omega
                  subst e; exact okMid_272
                · rcases Nat.lt_or_ge k 274 with q | q
                  · have e : k = 273 := by omega
                    subst e; exact okMid_273
                  · have e : k = 274 := by omega
                    subst e; exact okMid_274
theorem okC_all : ∀ k, k < 275 → okC (pgB k) (pgCd k) = true := by
  intro k hk
  cases hp : m_pl k with
  | true =>
    have h1 := okMid_all k hk hp
    unfold okMid at h1
    exact (Bool.and_eq_true _ _ ▸ h1 : _ ∧ okC (pgB k) (pgCd k) = true).2
  | false =>
    unfold m_pl at hp
    simp only [Bool.not_eq_false', Bool.and_eq_true] at hp
    have h1 : 259 < k := Nat.le_of_ble_eq_true hp.1
    have h2 : k < 264 := Nat.le_of_ble_eq_true hp.2
    rcases (by omega : k = 260 ∨ k = 261 ∨ k = 262 ∨ k = 263) with e | e | e | e <;> subst e
    · exact okCx_260
    · exact okCx_261
    · exact okCx_262
    · exact okCx_263
theorem m_find_mem {l : List (Nat × Instr × Nat)} {i : Nat} {x : Instr × Nat} (h : m_find l i = some x) : (i, x) ∈ l := by
  induction l with
  | nil => cases h
  | cons q l ih =>
    obtain ⟨j, u⟩ := q
    simp only [m_find] at h
    cases hb : Nat.beq j i with
    | true =>
      rw [hb] at h
      cases h
      have := Nat.eq_of_beq_eq_true hb
      subst this
      exact List.mem_cons_self
    | false =>
      rw [hb] at h
      exact List.mem_cons_of_mem _ (ih h)
theorem pgF_lt {k pc : Nat} {q : Instr × Nat} (h : pgF k pc = some q) : k < 275 := by
  unfold pgF at h
  cases hb : Nat.blt k 275 with
  | true => exact Nat.le_of_ble_eq_true hb
  | false => rw [hb] at h; cases h
theorem pgF_ok {k pc : Nat} {ins : Instr} {n : Nat} (h : pgF k pc = some (ins, n)) : decode (pgB k) pc = .ok (ins, m_len ins n) := by
  have hk := pgF_lt h
  have h3 := okC_all k hk
  unfold pgF at h
  cases hb : Nat.blt k 275 with
  | false => rw [hb] at h; cases h
  | true =>
    rw [hb] at h
    have h2 := m_find_mem (show m_find ((pgCd k).getD (pc / 8) []) pc = some (ins, n) from h)
    unfold okC at h3
    have hmem : (pgCd k).getD (pc / 8) [] ∈ pgCd k := by
      rw [List.getD_eq_getElem?_getD] at h2 ⊢
      cases hg : (pgCd k)[pc / 8]? with
      | none => rw [hg] at h2; cases h2
      | some b => exact List.mem_of_getElem? hg
    have h4 := List.all_eq_true.mp (List.all_eq_true.mp h3 _ hmem) _ h2
    exact of_decide_eq_true h4
end
section
/-! THE SMALL MACHINE's step over the world, and its run -/
def m_rf : List (Nat × (Nat × Nat × Int) × Nat) → Nat → Option ((Nat × Nat × Int) × Nat)
  | [], _ => none
  | (j, x) :: l, i => bif Nat.beq j i then some x else m_rf l i
theorem m_rf_mem {l : List (Nat × (Nat × Nat × Int) × Nat)} {i : Nat} {x : (Nat × Nat × Int) × Nat} (h : m_rf l i = some x) : (i, x) ∈ l := by
  induction l with
  | nil => cases h
  | cons q l ih =>
    obtain ⟨j, u⟩ := q
    simp only [m_rf] at h
    cases hb : Nat.beq j i with
    | true =>
      rw [hb] at h
      cases h
      have := Nat.eq_of_beq_eq_true hb
      subst this
      exact List.mem_cons_self
    | false =>
      rw [hb] at h
      exact List.mem_cons_of_mem _ (ih h)
/-- what a pool entry of a method's class stands for -/
def pgRs (k ix : Nat) : Option (Nat × Nat × Int) := match m_rf (pgR.getD (pgOw k) []) ix with
  | some x => some x.1
  | none => none
def pgDf (ci : Nat) : List Value := match vwCl[ci]? with
  | some q => (List.range q.2.2).map (fun k => defaultValue ((pgTy.getD ci (fun _ => .int)) k))
  | none => []
def m_in (j : Int32) (n : Nat) : Bool := decide (¬ (j < 0 ∨ n ≤ j.toNatClampNeg))
def m_fits (ty : FieldType) (v : Value) : Bool := match ty, v with
  | .int, .int _ => true
  | .boolean, .int x => decide (x = 0) || decide (x = 1)
  | .long, .long _ => true
  | .object _, .ref _ => true
  | .object _, .null => true
  | .array _, .ref _ => true
  | .array _, .null => true
  | _, _ => false
abbrev mOut : Type := (Nat × mL × List Value × mWd) ⊕ ((Nat × List Value × List Value) ⊕ Option Value)
def mNx (pc : Nat) (l : mL) (st : List Value) (w : mWd) : Option mOut := some (.inl (pc, l, st, w))
/-- the outer cells: 0 the script, 1 to 3 the class's own tables, 4 a text, 5 its bytes: type's place, length, contents -/
def pgX (L : Nat) (xs : Nat → Int32) (k : Nat) : Option (Nat × Nat × (Nat → Int32)) := match k with
  | 0 => some (0, L, xs)
  | 1 => some (0, 7, fun j => ([-1, 0, 0, 2, 0, 2, 4] : List Int32).getD j 0)
  | 2 => some (0, 21, fun j => ([10, 0, 30, 0, 0, 60, 0, 11, 20, 0, 0, 50, 0, 70, 12, 0, 0, 40, 0, 61, 0] : List Int32).getD j 0)
  | 3 => some (0, 5, fun j => ([100, 30, 0, 99999999, 0] : List Int32).getD j 0)
  | 5 => some (5, 10, fun j => ([107, 115, 99, 101, 108, 114, 121, 112, 110, 106] : List Int32).getD j 0)
  | _ => none
def m_getf (ci k i : Nat) (pc : Nat) (l : mL) (r : List Value) (w : mWd) : Option mOut := match w[i]? with
  | some (.inr (cj, fs)) => if cj = ci then (match fs[k]? with
    | some v => mNx (pc + 3) l (v :: r) w
    | none => none) else none
  | _ => none
def m_putf (fin : Bool) (ci k i : Nat) (v : Value) (ty : FieldType) (pc : Nat) (l : mL) (r : List Value) (w : mWd) : Option mOut := match w[i]? with
  | some (.inr (cj, fs)) => if cj = ci ∧ fin = true ∧ m_fits ty v = true ∧ k < fs.length then mNx (pc + 3) l r (w.set i (.inr (cj, fs.set k v))) else none
  | _ => none
/-- may this method write the field: one that isn't final, or its own in a constructor -/
def m_may (mid ci k : Nat) (nest : Bool) : Bool := match vwCl[ci]? with
  | some (_, T, _) => if (T k).2.2.2 = true then (!nest && decide ((pgN mid).name = "<init>") && decide ((T k).1 = (pgN mid).cls)) else true
  | none => false
def m_fty (ci k : Nat) : FieldType := (pgTy.getD ci (fun _ => .int)) k
def m_opt (f : Nat → Option Nat) (j : Nat) : Value := match f j with
  | some a => .ref a
  | none => .null
def m_ald (o i : Nat) (j : Int32) (w : mWd) : Option Value := match w[i]? with
  | some (.inl (t, n, .inl f)) => if m_in j n = true ∧ t = o ∧ o < 2 then some (.int (f j.toNatClampNeg)) else none
  | some (.inl (t, n, .inr (.inl f))) => if m_in j n = true ∧ t = o ∧ o = 2 then some (.long (f j.toNatClampNeg)) else none
  | some (.inl (t, n, .inr (.inr (.inr (.inr f))))) => if m_in j n = true ∧ o = 3 ∧ (t = 3 ∨ t = 4) then some (m_opt f j.toNatClampNeg) else none
  | _ => none
def m_xld (L : Nat) (xs : Nat → Int32) (o k : Nat) (j : Int32) : Option Value := match pgX L xs k with
  | some (t, n, f) => if m_in j n = true ∧ ((o = 0 ∧ t = 0) ∨ (o = 1 ∧ t = 5)) then some (.int (f j.toNatClampNeg)) else none
  | none => none
def m_ast (o i : Nat) (j : Int32) (v : Value) (w : mWd) : Option mE := match w[i]?, v with
  | some (.inl (t, n, .inl f)), .int x => if m_in j n = true ∧ o = 0 ∧ t = 0 then some (.inl (t, n, .inl (upd f j.toNatClampNeg x))) else if m_in j n = true ∧ o = 1 ∧ t = 1 then some (.inl (t, n, .inl (upd f j.toNatClampNeg (vp_nar .boolean x)))) else none
  | some (.inl (t, n, .inr (.inl f))), .long x => if m_in j n = true ∧ o = 2 ∧ t = 2 then some (.inl (t, n, .inr (.inl (vp_updL f j.toNatClampNeg x)))) else none
  | some (.inl (t, n, .inr (.inr (.inr (.inr f))))), .ref a => (match w[a]? with
    | some (.inr (cj, _)) => if m_in j n = true ∧ o = 3 ∧ t = 3 ∧ cj = 2 then some (.inl (t, n, .inr (.inr (.inr (.inr (va_up f j.toNatClampNeg (some a))))))) else none
    | some (.inl (ta, _, .inl _)) => if m_in j n = true ∧ o = 3 ∧ t = 4 ∧ ta = 0 then some (.inl (t, n, .inr (.inr (.inr (.inr (va_up f j.toNatClampNeg (some a))))))) else none
    | _ => none)
  | _, _ => none
def m_arr (t n : Nat) : Option mE := match t with
  | 0 => some (.inl (0, n, .inl (fun _ => 0)))
  | 1 => some (.inl (1, n, .inl (fun _ => 0)))
  | 2 => some (.inl (2, n, .inr (.inl (fun _ => 0))))
  | 3 => some (.inl (3, n, .inr (.inr (.inr (.inr (fun _ => none))))))
  | 4 => some (.inl (4, n, .inr (.inr (.inr (.inr (fun _ => none))))))
  | _ => none
def m_new (t : Nat) (x : Int32) (pc : Nat) (l : mL) (r : List Value) (w : mWd) : Option mOut := if ¬ x < 0 ∧ x.toNatClampNeg ≤ 100000 then (match m_arr t x.toNatClampNeg with
    | some c => mNx pc l (.ref w.length :: r) (w ++ [c])
    | none => none) else none
/-- n arguments off the stack, the last one first -/
def m_pop : Nat → List Value → List Value → Option (List Value × List Value)
  | 0, st, acc => some (acc, st)
  | n + 1, v :: st, acc => m_pop n st (v :: acc)
  | _ + 1, [], _ => none
def m_cat (vs : List Value) : Nat := (vs.map fun v => v.category).sum
def m_call (y : Nat) (args rest : List Value) : Option mOut := if m_cat rest ≤ 8 ∧ m_cat args ≤ pgL y ∧ m_pl y = true then some (.inr (.inl (y, args, rest))) else none
/-- Math's max, min, abs, and min of longs -/
def m_math (y : Nat) (st : List Value) : Option (List Value) := match y, st with
  | 261, .int b :: .int a :: r => if m_cat r ≤ 8 then some (.int (if a < b then b else a) :: r) else none
  | 262, .int b :: .int a :: r => if m_cat r ≤ 8 then some (.int (if b < a then b else a) :: r) else none
  | 260, .int a :: r => if m_cat r ≤ 8 then some (.int (if 0 ≤ a then a else 0 - a) :: r) else none
  | 263, .long b :: .long a :: r => if m_cat r ≤ 8 then some (.long (if b < a then b else a) :: r) else none
  | _, _ => none
/-- is the value an object of the class that has this method -/
def m_rcv (y : Nat) (v : Value) (w : mWd) : Bool := match v with
  | .ref i => (match w[i]? with
    | some (.inr (cj, _)) => Nat.beq (pgOw y) cj && Nat.blt cj 13
    | _ => false)
  | .retAddr k => Nat.beq k 4 && Nat.beq (pgOw y) 16
  | _ => false
def m_copy (a b : mE) (sp dp ln : Int32) : Option mE := match a, b with
  | .inl (t, n, .inl f), .inl (u, k, .inl g) => if t = 0 ∧ u = 0 ∧ ¬ sp < 0 ∧ ¬ dp < 0 ∧ ¬ ln < 0 ∧ sp.toNatClampNeg + ln.toNatClampNeg ≤ n ∧ dp.toNatClampNeg + ln.toNatClampNeg ≤ k then some (.inl (0, k, .inl (va_cpy f g sp.toNatClampNeg dp.toNatClampNeg ln.toNatClampNeg))) else none
  | _, _ => none
def m_ret (ty : Option FieldType) (o : Nat) (st : List Value) : Option (Option Value) := match o, st, ty with
  | 0, [.int x], some .int => some (some (.int x))
  | 0, [.int x], some .boolean => if x = 0 ∨ x = 1 then some (some (.int x)) else none
  | 0, [.int x], some .byte => if x = 0 then some (some (.int x)) else none
  | 1, [.long x], some .long => some (some (.long x))
  | 2, [.ref i], some (.object _) => some (some (.ref i))
  | 2, [.null], some (.object _) => some (some .null)
  | 2, [.ref i], some (.array _) => some (some (.ref i))
  | 3, [], none => some none
  | _, _, _ => none
def m_len1 (L : Nat) (xs : Nat → Int32) (v : Value) (w : mWd) : Option Nat := match v with
  | .ref i => (match w[i]? with
    | some (.inl (t, n, _)) => if t < 5 then some n else none
    | _ => none)
  | .retAddr k => (match pgX L xs k with
    | some (_, n, _) => some n
    | none => none)
  | _ => none
def m_step (L : Nat) (xs : Nat → Int32) (mid pc : Nat) (l : mL) (st : List Value) (w : mWd) (ins : Instr) : Option mOut := match ins with
  | .getfield ix => (match pgRs mid ix, st with
    | some (0, ci, k), .ref i :: r => m_getf ci k.toNat i pc l r w
    | some (1, ci, k), .ref i :: r => m_getf ci k.toNat i pc l r w
    | some (20, _, _), .retAddr 4 :: r => mNx (pc + 3) l (.retAddr 5 :: r) w
    | some (21, _, _), .retAddr 4 :: r => mNx (pc + 3) l (.int 0 :: r) w
    | _, _ => none)
  | .putfield ix => (match pgRs mid ix, st with
    | some (0, ci, k), v :: .ref i :: r => m_putf (m_may mid ci k.toNat false) ci k.toNat i v (m_fty ci k.toNat) pc l r w
    | some (1, ci, k), v :: .ref i :: r => m_putf (m_may mid ci k.toNat true) ci k.toNat i v (m_fty ci k.toNat) pc l r w
    | _, _ => none)
  | .getstatic ix => (match pgRs mid ix with
    | some (2, a, _) => mNx (pc + 3) l (.retAddr a :: st) w
    | some (3, _, b) => mNx (pc + 3) l (.int (Int32.ofInt b) :: st) w
    | _ => none)
  | .ldc ix => (match pgRs mid ix with
    | some (16, _, b) => mNx (pc + 2) l (.int (Int32.ofInt b) :: st) w
    | some (18, a, _) => mNx (pc + 2) l (.retAddr a :: st) w
    | _ => none)
  | .ldc_w ix => (match pgRs mid ix with
    | some (16, _, b) => mNx (pc + 3) l (.int (Int32.ofInt b) :: st) w
    | _ => none)
  | .ldc2_w ix => (match pgRs mid ix with
    | some (17, _, b) => mNx (pc + 3) l (.long (Int64.ofInt b) :: st) w
    | _ => none)
  | .iaload => (match st with
    | .int j :: .ref i :: r => (match m_ald 0 i j w with | some v => mNx (pc + 1) l (v :: r) w | none => none)
    | .int j :: .retAddr k :: r => (match m_xld L xs 0 k j with | some v => mNx (pc + 1) l (v :: r) w | none => none)
    | _ => none)
  | .baload => (match st with
    | .int j :: .ref i :: r => (match m_ald 1 i j w with | some v => mNx (pc + 1) l (v :: r) w | none => none)
    | .int j :: .retAddr k :: r => (match m_xld L xs 1 k j with | some v => mNx (pc + 1) l (v :: r) w | none => none)
    | _ => none)
  | .laload => (match st with
    | .int j :: .ref i :: r => (match m_ald 2 i j w with | some v => mNx (pc + 1) l (v :: r) w | none => none)
    | _ => none)
  | .aaload => (match st with
    | .int j :: .ref i :: r => (match m_ald 3 i j w with | some v => mNx (pc + 1) l (v :: r) w | none => none)
    | _ => none)
  | .iastore => (match st with
    | v :: .int j :: .ref i :: r => (match m_ast 0 i j v w with | some c => mNx (pc + 1) l r (w.set i c) | none => none)
    | _ => none)
  | .bastore => (match st with
    | v :: .int j :: .ref i :: r => (match m_ast 1 i j v w with | some c => mNx (pc + 1) l r (w.set i c) | none => none)
    | _ => none)
  | .lastore => (match st with
    | v :: .int j :: .ref i :: r => (match m_ast 2 i j v w with | some c => mNx (pc + 1) l r (w.set i c) | none => none)
    | _ => none)
  | .aastore => (match st with
    | v :: .int j :: .ref i :: r => (match m_ast 3 i j v w with | some c => mNx (pc + 1) l r (w.set i c) | none => none)
    | _ => none)
  | .arraylength => (match st with
    | v :: r => (match m_len1 L xs v w with | some n => mNx (pc + 1) l (.int (Int32.ofNat n) :: r) w | none => none)
    | _ => none)
  | .newarray a => (match st with
    | .int x :: r => (match a with
      | .int => m_new 0 x (pc + 2) l r w
      | .boolean => m_new 1 x (pc + 2) l r w
      | .long => m_new 2 x (pc + 2) l r w
      | _ => none)
    | _ => none)
  | .anewarray ix => (match pgRs mid ix, st with
    | some (14, t, _), .int x :: r => if t = 3 ∨ t = 4 then m_new t x (pc + 3) l r w else none
    | _, _ => none)
  | .new ix => (match pgRs mid ix with
    | some (13, ci, _) => mNx (pc + 3) l (.ref w.length :: st) (w ++ [.inr (ci, pgDf ci)])
    | _ => none)
  | .checkcast ix => (match pgRs mid ix, st with
    | some (15, _, _), .ref i :: r => (match w[i]? with | some (.inl (0, _, _)) => mNx (pc + 3) l (.ref i :: r) w | _ => none)
    | _, _ => none)
  | .invokestatic ix => (match pgRs mid ix with
    | some (4, y, _) => if m_pl y = true then (match m_pop (pgA y) st [] with | some (as, r) => m_call y as r | none => none) else (match m_math y st with | some st' => mNx (pc + 3) l st' w | none => none)
    | some (5, y, _) => (match m_pop (pgA y) st [] with | some (as, r) => m_call y as r | none => none)
    | some (12, _, _) => (match st with
      | .int ln :: .int dp :: .ref d :: .int sp :: .ref a :: r => (match w[a]?, w[d]? with
        | some ca, some cd => (match m_copy ca cd sp dp ln with | some c => if a ≠ d ∧ m_cat r ≤ 8 then mNx (pc + 3) l r (w.set d c) else none | none => none)
        | _, _ => none)
      | _ => none)
    | _ => none)
  | .invokevirtual ix => (match pgRs mid ix with
    | some (6, y, _) => (match m_pop (pgA y) st [] with | some (as, v :: r) => if m_rcv y v w = true then m_call y (v :: as) r else none | _ => none)
    | some (7, y, _) => (match m_pop (pgA y) st [] with | some (as, v :: r) => if m_rcv y v w = true then m_call y (v :: as) r else none | _ => none)
    | some (11, _, _) => (match st with
      | .ref i :: r => (match w[i]? with | some (.inl (0, n, .inl f)) => if m_cat r ≤ 8 then mNx (pc + 3) l (.ref w.length :: r) (w ++ [.inl (0, n, .inl f)]) else none | _ => none)
      | _ => none)
    | _ => none)
  | .invokespecial ix => (match pgRs mid ix with
    | some (8, y, _) => (match m_pop (pgA y) st [] with | some (as, .ref i :: r) => m_call y (.ref i :: as) r | _ => none)
    | some (9, y, _) => (match m_pop (pgA y) st [] with | some (as, .ref i :: r) => m_call y (.ref i :: as) r | _ => none)
    | some (10, _, _) => (match st with | .ref _ :: r => if m_cat r ≤ 8 then mNx (pc + 3) l r w else none | _ => none)
    | _ => none)
  | .ireturn => (match m_ret (pgT mid) 0 st with | some v => some (.inr (.inr v)) | none => none)
  | .lreturn => (match m_ret (pgT mid) 1 st with | some v => some (.inr (.inr v)) | none => none)
  | .areturn => (match m_ret (pgT mid) 2 st with | some v => some (.inr (.inr v)) | none => none)
  | .return_ => (match m_ret (pgT mid) 3 st with | some v => some (.inr (.inr v)) | none => none)
  | _ => (match m_pure (pgL mid) ins pc l st with
    | some (pc', l', st') => mNx pc' l' st' w
    | none => none)
/-- the run: n steps at most, d calls deep at most; what the method answers, and the world behind it -/
def m_run (L : Nat) (xs : Nat → Int32) : Nat → Nat → Nat → Nat → mL → List Value → mWd → Option (Option Value × mWd)
  | 0, _, _, _, _, _, _ => none
  | _ + 1, 0, _, _, _, _, _ => none
  | n + 1, d + 1, mid, pc, l, st, w => (match pgF mid pc with
    | none => none
    | some (ins, _) => (match m_step L xs mid pc l st w ins with
      | none => none
      | some (.inl (pc', l', st', w')) => m_run L xs n (d + 1) mid pc' l' st' w'
      | some (.inr (.inl (y, as, r))) => (match m_run L xs n d y 0 (lv_args 0 as) [] w with
        | none => none
        | some (v, w1) => m_run L xs n (d + 1) mid (pc + 3) l (v.toList ++ r) w1)
      | some (.inr (.inr v)) => some (v, w)))
end
section
/-- what the tables say of a pool entry -/
def pgStat (a : Nat) : String × String × String := match a with
  | 1 => ("ReelBack$Costs", "ABOVE", "[I")
  | 2 => ("ReelBack$Costs", "BODIES", "[I")
  | _ => ("ReelBack$Claims", "WITHOUT_ACT", "[I")
def pgCln : MethodName := ⟨"[I", "clone", "()Ljava/lang/Object;"⟩
/-- the word that a pool entry's row stands for -/
def pgW (own : String) (idx : Nat) (r : Nat × Nat × Int) : Cond := match r with
  | (0, ci, k) => (match vwCl[ci]? with | some (C, T, _) => .fieldLink own idx C (T k.toNat).2.1 (T k.toNat).2.2.1 | none => .tt)
  | (1, ci, k) => (match vwCl[ci]? with | some (C, T, _) => .fieldLinkNest own idx C (T k.toNat).2.1 (T k.toNat).2.2.1 "ReelBack" | none => .tt)
  | (2, a, _) => .fieldLink own idx (pgStat a).1 (pgStat a).2.1 (pgStat a).2.2
  | (3, _, _) => .fieldLink own idx "java/lang/String" "COMPACT_STRINGS" "Z"
  | (4, y, _) => .methodLink own idx (pgN y)
  | (6, y, _) => .methodLink own idx (pgN y)
  | (8, y, _) => .methodLink own idx (pgN y)
  | (5, y, _) => .methodLinkNest own idx (pgN y) "ReelBack"
  | (7, y, _) => .methodLinkNest own idx (pgN y) "ReelBack"
  | (9, y, _) => .methodLinkNest own idx (pgN y) "ReelBack"
  | (10, _, _) => .methodLink own idx Lib.objectInit
  | (11, _, _) => .methodLink own idx pgCln
  | (12, _, _) => .methodLink own idx arraycopyName
  | (13, ci, _) => (match vwCl[ci]? with | some (C, _, _) => .classLink own idx C | none => .tt)
  | (14, t, _) => .classLink own idx (if t = 3 then "ReelBack$Cost" else "[I")
  | (15, _, _) => .classLink own idx "[I"
  | (16, _, b) => .constant own idx (Int32.ofInt b)
  | (17, _, b) => .constantLong own idx (Int64.ofInt b)
  | (18, _, _) => .stringRef own idx "kscelrypnj"
  | (20, _, _) => .fieldLink own idx "java/lang/String" "value" "[B"
  | (21, _, _) => .fieldLink own idx "java/lang/String" "coder" "B"
  | _ => .tt
def pgKd (r : Nat × Nat × Int) : Bool := match r with
  | (0, ci, k) => (match vwCl[ci]? with | some (C, T, N) => decide (k.toNat < N) && decide ((T k.toNat).1 = C) | none => false)
  | (1, ci, k) => (match vwCl[ci]? with | some (C, T, N) => decide (k.toNat < N) && decide ((T k.toNat).1 = C) | none => false)
  | (2, a, _) => Nat.blt 0 a && Nat.blt a 4
  | (3, _, b) => decide (b = 1)
  | (4, y, _) => Nat.blt y 274 && pgS y
  | (5, y, _) => Nat.blt y 274 && pgS y
  | (6, y, _) => Nat.blt y 274 && !pgS y && !decide ((pgN y).name = "<init>")
  | (7, y, _) => Nat.blt y 274 && !pgS y && !decide ((pgN y).name = "<init>")
  | (8, y, _) => Nat.blt y 274 && !pgS y && decide ((pgN y).name = "<init>") && decide (pgT y = none)
  | (9, y, _) => Nat.blt y 274 && !pgS y && decide ((pgN y).name = "<init>") && decide (pgT y = none)
  | (13, ci, _) => Nat.blt ci 13
  | (14, t, _) => Nat.beq t 3 || Nat.beq t 4
  | (18, a, _) => Nat.beq a 4
  | _ => true
def okR (own : String) (q : Nat × (Nat × Nat × Int) × Nat) : Bool := decide (lw_tbl[q.2.2]? = some (pgW own q.1 q.2.1)) && pgKd q.2.1
theorem okR_0 : (pgR.getD 0 []).all (okR (pgO.getD 0 "")) = true := by decide +kernel
theorem okR_1 : (pgR.getD 1 []).all (okR (pgO.getD 1 "")) = true := by decide +kernel
theorem okR_2 : (pgR.getD 2 []).all (okR (pgO.getD 2 "")) = true := by decide +kernel
theorem okR_3 : (pgR.getD 3 []).all (okR (pgO.getD 3 "")) = true := by decide +kernel
theorem okR_4 : (pgR.getD 4 []).all (okR (pgO.getD 4 "")) = true := by decide +kernel
theorem okR_5 : (pgR.getD 5 []).all (okR (pgO.getD 5 "")) = true := by decide +kernel
theorem okR_6 : (pgR.getD 6 []).all (okR (pgO.getD 6 "")) = true := by decide +kernel
theorem okR_7 : (pgR.getD 7 []).all (okR (pgO.getD 7 "")) = true := by decide +kernel
theorem okR_8 : (pgR.getD 8 []).all (okR (pgO.getD 8 "")) = true := by decide +kernel
theorem okR_9 : (pgR.getD 9 []).all (okR (pgO.getD 9 "")) = true := by decide +kernel
theorem okR_10 : (pgR.getD 10 []).all (okR (pgO.getD 10 "")) = true := by decide +kernel
theorem okR_11 : (pgR.getD 11 []).all (okR (pgO.getD 11 "")) = true := by decide +kernel
theorem okR_12 : (pgR.getD 12 []).all (okR (pgO.getD 12 "")) = true := by decide +kernel
theorem okR_13 : (pgR.getD 13 []).all (okR (pgO.getD 13 "")) = true := by decide +kernel
theorem okR_14 : (pgR.getD 14 []).all (okR (pgO.getD 14 "")) = true := by decide +kernel
theorem okR_15 : (pgR.getD 15 []).all (okR (pgO.getD 15 "")) = true := by decide +kernel
theorem okR_16 : (pgR.getD 16 []).all (okR (pgO.getD 16 "")) = true := by decide +kernel
theorem okR_17 : (pgR.getD 17 []).all (okR (pgO.getD 17 "")) = true := by decide +kernel
theorem okR_18 : (pgR.getD 18 []).all (okR (pgO.getD 18 "")) = true := by decide +kernel
theorem okR_19 : (pgR.getD 19 []).all (okR (pgO.getD 19 "")) = true := by decide +kernel
theorem okR_20 : (pgR.getD 20 []).all (okR (pgO.getD 20 "")) = true := by decide +kernel
theorem okR_21 : (pgR.getD 21 []).all (okR (pgO.getD 21 "")) = true := by decide +kernel
theorem okR_all : ∀ o, (pgR.getD o []).all (okR (pgO.getD o "")) = true := by
  intro o
  rcases Nat.lt_or_ge o 22 with h | h
  · rcases (by omega : o = 0 ∨ o = 1 ∨ o = 2 ∨ o = 3 ∨ o = 4 ∨ o = 5 ∨ o = 6 ∨ o = 7 ∨ o = 8 ∨ o = 9 ∨ o = 10 ∨ o = 11 ∨ o = 12 ∨ o = 13 ∨ o = 14 ∨ o = 15 ∨ o = 16 ∨ o = 17 ∨ o = 18 ∨ o = 19 ∨ o = 20 ∨ o = 21) with h | h | h | h | h | h | h | h | h | h | h | h | h | h | h | h | h | h | h | h | h | h <;> subst h
    · exact okR_0
    · exact okR_1
    · exact okR_2
    · exact okR_3
    · exact okR_4
    · exact okR_5
    · exact okR_6
    · exact okR_7
    · exact okR_8
    · exact okR_9
    · exact okR_10
    · exact okR_11
    · exact okR_12
    · exact okR_13
    · exact okR_14
    · exact okR_15
    · exact okR_16
    · exact okR_17
    · exact okR_18
    · exact okR_19
    · exact okR_20
    · exact okR_21
  · have e : pgR.getD o [] = [] := by
      rw [List.getD_eq_getElem?_getD, List.getElem?_eq_none (show pgR.length ≤ o from h)]; rfl
    rw [e]; rfl
/-- of a class: its words on its fields, that it can be made, that it is initialised -/
def okL (i : Nat) (q : Nat × Nat × List Nat) : Bool := match vwCl[i]? with
  | some (C, T, N) => decide (lw_tbl[q.1]? = some (.instantiable C N)) && decide (lw_tbl[q.2.1]? = some (.initialized C)) && (List.range N).all (fun k => decide (lw_tbl[q.2.2.getD k 0]? = some (u_lay C T k)))
  | none => false
theorem okL_all : (List.range 13).all (fun i => okL i (pgLay.getD i (0, 0, []))) = true := by decide +kernel
theorem pgRs_ok {k ix : Nat} {r : Nat × Nat × Int} (h : pgRs k ix = some r) : pgW (pgO.getD (pgOw k) "") ix r ∈ lw_tbl ∧ pgKd r = true := by
  unfold pgRs at h
  cases hm : m_rf (pgR.getD (pgOw k) []) ix with
  | none => rw [hm] at h; cases h
  | some x =>
    rw [hm] at h
    cases h
    have h1 := List.all_eq_true.mp (okR_all (pgOw k)) _ (m_rf_mem hm)
    unfold okR at h1
    rw [Bool.and_eq_true, decide_eq_true_eq] at h1
    exact ⟨List.mem_of_getElem? h1.1, h1.2⟩
theorem pgLay_ok {i : Nat} {C : String} {T : u_T} {N : Nat} (h : vwCl[i]? = some (C, T, N)) : (∀ w ∈ u_ws C T N, w ∈ lw_tbl) ∧ Cond.instantiable C N ∈ lw_tbl ∧ Cond.initialized C ∈ lw_tbl := by
  have hi : i < 13 := (List.getElem?_eq_some_iff.mp h).1
  have h1 := List.all_eq_true.mp okL_all i (List.mem_range.mpr hi)
  unfold okL at h1
  rw [h] at h1
  simp only [Bool.and_eq_true, decide_eq_true_eq] at h1
  obtain ⟨⟨h2, h3⟩, h4⟩ := h1
  refine ⟨fun w hw => ?_, List.mem_of_getElem? h2, List.mem_of_getElem? h3⟩
  obtain ⟨k, hk, rfl⟩ := List.mem_map.mp hw
  have h5 := List.all_eq_true.mp h4 k hk
  exact List.mem_of_getElem? (of_decide_eq_true h5)
end
section
theorem pgM_all {k : Nat} (hk : k < 274 ∧ m_pl k = true) : Cond.code (pgN k) (pgB k) (pgL k) (pgT k) ∈ lw_tbl ∧ Cond.initialized (pgN k).cls ∈ lw_tbl ∧ (pgS k = true → Cond.static (pgN k) ∈ lw_tbl) ∧ (pgS k = false → Cond.instanceMethod (pgN k) ∈ lw_tbl) ∧
    (pgS k = false → ¬ (pgN k).name = "<init>" → Cond.selects (pgN k).cls (pgN k) (pgN k) ∈ lw_tbl) ∧ ((pgN k).cls ≠ "java/lang/invoke/MethodHandle" ∧ (pgN k).cls ≠ "java/lang/invoke/VarHandle" ∧ (parseMethodDescriptor (pgN k).desc).map (fun d => d.parameters.length) = some (pgA k)) ∧
    plainName (pgN k).cls = true ∧ pgO.getD (pgOw k) "" = (pgN k).cls ∧ pgL k ≤ 60 := by
  obtain ⟨hk, hp⟩ := hk
  have h := okMid_all k (by omega) hp
  unfold okMid at h
  have hne : Nat.beq k 274 = false := by
    cases hb : Nat.beq k 274 with
    | false => rfl
    | true => have := Nat.eq_of_beq_eq_true hb; omega
  rw [hne, Bool.false_or, Bool.and_eq_true] at h
  have h := h.1
  unfold pgN pgB pgL pgT pgA pgS pgOw
  generalize pgRw k = rr at h ⊢
  obtain ⟨y, b, ml, ret, n, st, o, p1, p2, p3, p4⟩ := rr
  simp only [okM, Bool.and_eq_true, decide_eq_true_eq, Bool.or_eq_true] at h
  obtain ⟨⟨⟨⟨⟨⟨⟨h1, h2⟩, h3⟩, h4⟩, h5⟩, h6⟩, h7⟩, h8⟩ := h
  refine ⟨List.mem_of_getElem? h1, List.mem_of_getElem? h2, fun q => ?_, fun q => ?_, fun q1 q2 => ?_, h5, h6, h7, h8⟩
  · dsimp only at q
    rw [if_pos q, decide_eq_true_eq] at h3
    exact List.mem_of_getElem? h3
  · dsimp only at q
    rw [if_neg (by rw [q]; decide), decide_eq_true_eq] at h3
    exact List.mem_of_getElem? h3
  · dsimp only at q1 q2
    rcases h4 with (h4 | h4) | h4
    · rw [q1] at h4; cases h4
    · exact absurd h4 q2
    · exact List.mem_of_getElem? h4
theorem pgOw_ok {k : Nat} (hk : k < 275) : pgO.getD (pgOw k) "" = (pgN k).cls := by
  cases hp : m_pl k with
  | false =>
    unfold m_pl at hp
    simp only [Bool.not_eq_false', Bool.and_eq_true] at hp
    have h1 : 259 < k := Nat.le_of_ble_eq_true hp.1
    have h2 : k < 264 := Nat.le_of_ble_eq_true hp.2
    rcases (by omega : k = 260 ∨ k = 261 ∨ k = 262 ∨ k = 263) with e | e | e | e <;> subst e <;> decide +kernel
  | true =>
    rcases Nat.lt_or_ge k 274 with q | q
    · exact (pgM_all ⟨q, hp⟩).2.2.2.2.2.2.2.1
    · have e : k = 274 := by omega
      subst e
      decide +kernel
end
section
theorem aw_int : Cond.arrayClass .int ∈ lw_tbl := List.mem_of_getElem? (i := 181) (by decide +kernel)
theorem aw_bool : Cond.arrayClass .boolean ∈ lw_tbl := List.mem_of_getElem? (i := 415) (by decide +kernel)
theorem aw_long : Cond.arrayClass .long ∈ lw_tbl := List.mem_of_getElem? (i := 520) (by decide +kernel)
theorem aw_byte : Cond.arrayClass .byte ∈ lw_tbl := List.mem_of_getElem? (i := 1134) (by decide +kernel)
theorem aw_cost : Cond.arrayOver (.object "ReelBack$Cost") ∈ lw_tbl := List.mem_of_getElem? (i := 305) (by decide +kernel)
theorem aw_ints : Cond.arrayOver (.array .int) ∈ lw_tbl := List.mem_of_getElem? (i := 374) (by decide +kernel)
theorem aw_oi : Cond.instanceMethod Lib.objectInit ∈ lw_tbl := List.mem_of_getElem? (i := 155) (by decide +kernel)
theorem aw_oc : Cond.code Lib.objectInit ⟨#[0xb1]⟩ 1 none ∈ lw_tbl := List.mem_of_getElem? (i := 156) (by decide +kernel)
theorem aw_cs : Cond.sameMethod "[I" "java/lang/Object" "clone" "()Ljava/lang/Object;" ∈ lw_tbl := List.mem_of_getElem? (i := 1124) (by decide +kernel)
theorem aw_cn : Cond.native ⟨"java/lang/Object", "clone", "()Ljava/lang/Object;"⟩ ∈ lw_tbl := List.mem_of_getElem? (i := 1125) (by decide +kernel)
theorem aw_ci : Cond.instanceMethod ⟨"java/lang/Object", "clone", "()Ljava/lang/Object;"⟩ ∈ lw_tbl := List.mem_of_getElem? (i := 1126) (by decide +kernel)
theorem aw_cl : Cond.selects "[I" ⟨"[I", "clone", "()Ljava/lang/Object;"⟩ ⟨"java/lang/Object", "clone", "()Ljava/lang/Object;"⟩ ∈ lw_tbl := List.mem_of_getElem? (i := 1127) (by decide +kernel)
theorem aw_cc : Cond.castable "[I" "java/lang/Cloneable" ∈ lw_tbl := List.mem_of_getElem? (i := 1128) (by decide +kernel)
theorem aw_an : Cond.native arraycopyName ∈ lw_tbl := List.mem_of_getElem? (i := 1133) (by decide +kernel)
theorem aw_as : Cond.static arraycopyName ∈ lw_tbl := List.mem_of_getElem? (i := 1132) (by decide +kernel)
theorem aw_ai : Cond.initialized "java/lang/System" ∈ lw_tbl := List.mem_of_getElem? (i := 148) (by decide +kernel)
theorem aw_str : ∀ (own : String) (ix : Nat), Cond.stringRef own ix "kscelrypnj" ∈ lw_tbl → own = "ReelBack$Reader" ∧ ix = 54 := by
  intro own ix h
  have h1 : (lw_tbl.filter (fun w => match w with | .stringRef _ _ _ => true | _ => false)) = [Cond.stringRef "ReelBack$Reader" 54 "kscelrypnj"] := by decide +kernel
  have h2 : Cond.stringRef own ix "kscelrypnj" ∈ lw_tbl.filter (fun w => match w with | .stringRef _ _ _ => true | _ => false) := List.mem_filter.mpr ⟨h, rfl⟩
  rw [h1] at h2
  have h3 := List.mem_singleton.mp h2
  cases h3
  exact ⟨rfl, rfl⟩
theorem aw_n260 : pgN 260 = Lib.Math.abs.name := by decide +kernel
theorem aw_s260 : Cond.static Lib.Math.abs.name ∈ lw_tbl := List.mem_of_getElem? (i := 863) (by decide +kernel)
theorem aw_c260 : Cond.code Lib.Math.abs.name Lib.Math.abs.code 1 (some .int) ∈ lw_tbl := List.mem_of_getElem? (i := 864) (by decide +kernel)
theorem aw_n261 : pgN 261 = Lib.Math.max.name := by decide +kernel
theorem aw_s261 : Cond.static Lib.Math.max.name ∈ lw_tbl := List.mem_of_getElem? (i := 703) (by decide +kernel)
theorem aw_c261 : Cond.code Lib.Math.max.name Lib.Math.max.code 2 (some .int) ∈ lw_tbl := List.mem_of_getElem? (i := 704) (by decide +kernel)
theorem aw_n262 : pgN 262 = Lib.Math.min.name := by decide +kernel
theorem aw_s262 : Cond.static Lib.Math.min.name ∈ lw_tbl := List.mem_of_getElem? (i := 706) (by decide +kernel)
theorem aw_c262 : Cond.code Lib.Math.min.name Lib.Math.min.code 2 (some .int) ∈ lw_tbl := List.mem_of_getElem? (i := 707) (by decide +kernel)
theorem aw_n263 : pgN 263 = Lib.MathLoose.min_long.x := by decide +kernel
theorem aw_s263 : Cond.static Lib.MathLoose.min_long.x ∈ lw_tbl := List.mem_of_getElem? (i := 980) (by decide +kernel)
theorem aw_c263 : Cond.code Lib.MathLoose.min_long.x Lib.MathLoose.min_long.code 4 (some .long) ∈ lw_tbl := List.mem_of_getElem? (i := 981) (by decide +kernel)
theorem aw_im : Cond.initialized "java/lang/Math" ∈ lw_tbl := List.mem_of_getElem? (i := 140) (by decide +kernel)
end
section
/-! THE WORLD of the small machine in the heap: the cell at place i stands at B + i; nothing else was made since B -/
abbrev pgTys (dT : Nat → ClassId) : List (ClassId × FieldType) := [(dT 0, .int), (dT 1, .boolean), (dT 2, .long), (dT 3, .object "ReelBack$Cost"), (dT 4, .array .int)]
def mc (B : Nat) (X : Nat → Nat) (dT : Nat → ClassId) (c : mE) : va_E := match c with
  | .inl (t, n, .inl f) => .inl (dT t, n, .inl f)
  | .inl (t, n, .inr (.inl f)) => .inl (dT t, n, .inr (.inl f))
  | .inl (t, n, .inr (.inr (.inl f))) => .inl (dT t, n, .inr (.inr (.inl f)))
  | .inl (t, n, .inr (.inr (.inr (.inl f)))) => .inl (dT t, n, .inr (.inr (.inr (.inl f))))
  | .inl (t, n, .inr (.inr (.inr (.inr f)))) => .inl (dT t, n, .inr (.inr (.inr (.inr (fun j => (f j).map (fun a => B + a))))))
  | .inr (ci, fs) => .inr (ci, fs.map (mv B X))
def mZ (B : Nat) (X : Nat → Nat) (dT : Nat → ClassId) (w : mWd) : va_W := w.mapIdx (fun i c => (B + i, mc B X dT c))
section MZ
variable {B : Nat} {X : Nat → Nat} {dT : Nat → ClassId} {D : va_G} {w : mWd} {H H1 H0 : Heap} {locs : List Loc}
theorem mZ_get (i : Nat) : (mZ B X dT w)[i]? = (w[i]?).map (fun c => (B + i, mc B X dT c)) := by
  unfold mZ
  rw [List.getElem?_mapIdx]
theorem mZ_at {i : Nat} {c : mE} (h : w[i]? = some c) : (mZ B X dT w)[i]? = some (B + i, mc B X dT c) := by rw [mZ_get, h]; rfl
theorem mZ_len : (mZ B X dT w).length = w.length := by unfold mZ; rw [List.length_mapIdx]
theorem mZ_set {i : Nat} {c0 c : mE} (h : w[i]? = some c0) : (mZ B X dT w).set i (B + i, mc B X dT c) = mZ B X dT (w.set i c) := by
  have hl := (List.getElem?_eq_some_iff.mp h).1
  apply List.ext_getElem?
  intro k
  rw [mZ_get, List.getElem?_set, List.getElem?_set, mZ_get, mZ_len]
  by_cases hk : i = k
  · subst hk
    simp [hl]
  · simp [hk]
theorem mZ_app {c : mE} : mZ B X dT (w ++ [c]) = mZ B X dT w ++ [(B + w.length, mc B X dT c)] := by
  unfold mZ
  rw [List.mapIdx_append]
  simp
theorem mZ_D : va_D (fun q : Nat => B ≤ q) (mZ B X dT w) := by
  refine ⟨fun i j p q hp hq e => ?_, fun k q hq => ?_⟩
  · rw [mZ_get] at hp hq
    obtain ⟨c, -, rfl⟩ := Option.map_eq_some_iff.mp hp
    obtain ⟨c', -, rfl⟩ := Option.map_eq_some_iff.mp hq
    exact Nat.add_left_cancel e
  · rw [mZ_get] at hq
    obtain ⟨c, -, rfl⟩ := Option.map_eq_some_iff.mp hq
    exact Nat.le_add_right B k
def mOK (B : Nat) (X : Nat → Nat) (dT : Nat → ClassId) (D : va_G) (w : mWd) (H : Heap) : Prop := H.size = B + w.length ∧ va_P D vwCl (mZ B X dT w) H
theorem mOK.set (h : mOK B X dT D w H) {i : Nat} {c0 c : mE} (hi : w[i]? = some c0) (he : va_at D vwCl (B + i, mc B X dT c) H1) (z : H1.size = H.size) (oq : ∀ q : Nat, q ≠ B + i → H1[q]? = H[q]?) : mOK B X dT D (w.set i c) H1 :=
  ⟨by rw [List.length_set, z]; exact h.1, by rw [← mZ_set hi]; exact h.2.set mZ_D (mZ_at hi) he oq⟩
theorem mOK.push (h : mOK B X dT D w H) {c : mE} (he : va_at D vwCl (B + w.length, mc B X dT c) H1) (z : H1.size = H.size + 1) (oq : ∀ q : Nat, q < H.size → H1[q]? = H[q]?) : mOK B X dT D (w ++ [c]) H1 := by
  refine ⟨by rw [z, h.1, List.length_append]; rfl, ?_⟩
  rw [mZ_app]
  refine (h.2.kept fun k q hk => oq q.1 (h.2 k q hk).lt).app fun k q hk => ?_
  have hz : k < 1 := (List.getElem?_eq_some_iff.mp hk).1
  rw [show k = 0 by omega] at hk
  cases hk
  exact he
theorem mS_put {i k : Nat} (hS : va_S (fun q : Nat => B ≤ q) H0 H locs) (z : H1.size = H.size) (oq : ∀ q : Nat, q ≠ B + i → H1[q]? = H[q]?) : va_S (fun q : Nat => B ≤ q) H0 H1 (locs ++ [⟨B + i, k⟩]) := hS.put z oq (Nat.le_add_right B i)
theorem mS_push (hS : va_S (fun q : Nat => B ≤ q) H0 H locs) (z : H1.size = H.size + 1) (oq : ∀ q : Nat, q < H.size → H1[q]? = H[q]?) : va_S (fun q : Nat => B ≤ q) H0 H1 locs :=
  ⟨Nat.le_trans hS.1 (by omega), fun q h1 h2 => (oq q (Nat.lt_of_lt_of_le h1 hS.1)).trans (hS.2.1 q h1 h2), hS.2.2⟩
theorem mv_map_get {fs : List Value} {k : Nat} {v : Value} (h : fs[k]? = some v) : (fs.map (mv B X))[k]? = some (mv B X v) := by rw [List.getElem?_map, h]; rfl
theorem mc_set {ci k : Nat} {fs : List Value} {v : Value} : mc B X dT (.inr (ci, fs.set k v)) = .inr (ci, (fs.map (mv B X)).set k (mv B X v)) := by
  show Sum.inr (ci, (fs.set k v).map (mv B X)) = _
  rw [List.map_set]
theorem m_in_ok {j : Int32} {n : Nat} (h : m_in j n = true) : vp_in j n := by
  unfold m_in at h
  rw [decide_eq_true_eq] at h
  exact h
theorem m_fits_ok {ty : FieldType} {v : Value} (h : m_fits ty v = true) : narrow ty (mv B X v) = mv B X v ∧ fits ty (mv B X v) = true := by
  cases ty <;> cases v <;> first | (cases h; done) | exact ⟨rfl, rfl⟩ | skip
  rename_i x
  simp only [m_fits, Bool.or_eq_true, decide_eq_true_eq] at h
  rcases h with rfl | rfl <;> exact ⟨rfl, rfl⟩
end MZ
theorem m_cat_map (B : Nat) (X : Nat → Nat) (vs : List Value) : ((vs.map (mv B X)).map fun v => v.category).sum = m_cat vs := by
  unfold m_cat
  rw [List.map_map]
  congr 1
  apply List.map_congr_left
  intro v _
  exact mv_cat B X v
end
section
/-! WHAT HOLDS AT EVERY FRAME's start: the tables' words, the classes, the outer cells -/
def m_nest (w : Cond) : Bool := match w with
  | .fieldLinkNest .. => true
  | .methodLinkNest .. => true
  | _ => false
def mExt (B L : Nat) (xs : Nat → Int32) (X : Nat → Nat) (s : State) (H : Heap) : Prop :=
  (∀ (k t n : Nat) (f : Nat → Int32), pgX L xs k = some (t, n, f) → va_T (if t = 0 then .int else .byte) (X k) n (fun j => .int (f j)) (fun q : Nat => B ≤ q) s H) ∧
  (∀ a : Nat, 0 < a → a < 4 → va_Z (pgStat a).1 (pgStat a).2.1 (pgStat a).2.2 (.ref (X a)) (fun q : Nat => B ≤ q) s H) ∧
  va_Z "java/lang/String" "COMPACT_STRINGS" "Z" (.int 1) (fun q : Nat => B ≤ q) s H ∧ va_O "java/lang/String" (X 4) (fun q : Nat => B ≤ q) s H ∧
  va_OF "java/lang/String" "coder" "B" (.int 0) (X 4) (fun q : Nat => B ≤ q) s H ∧ va_OF "java/lang/String" "value" "[B" (.ref (X 5)) (X 4) (fun q : Nat => B ≤ q) s H
theorem mExt.moved {B L : Nat} {xs : Nat → Int32} {X : Nat → Nat} {u U : State} {H : Heap} (hvm : u.vm.Alike U.vm) (h : mExt B L xs X u H) : mExt B L xs X U H :=
  ⟨fun k t n f hk => va_T.moved hvm (h.1 k t n f hk), fun a h1 h2 => va_Z.moved hvm (h.2.1 a h1 h2), va_Z.moved hvm h.2.2.1, va_O.moved hvm h.2.2.2.1, va_OF.moved hvm h.2.2.2.2.1, va_OF.moved hvm h.2.2.2.2.2⟩
theorem mExt.kept {B L : Nat} {xs : Nat → Int32} {X : Nat → Nat} {U : State} {H H1 : Heap} (h : mExt B L xs X U H) (hq : ∀ a : Nat, a < H.size → ¬ (B ≤ a) → H1[a]? = H[a]?) : mExt B L xs X U H1 :=
  ⟨fun k t n f hk => va_T.kept (h.1 k t n f hk) hq, fun a h1 h2 => va_Z.kept (h.2.1 a h1 h2) hq, va_Z.kept h.2.2.1 hq, va_O.kept h.2.2.2.1 hq, va_OF.kept h.2.2.2.2.1 hq, va_OF.kept h.2.2.2.2.2 hq⟩
def mCtx (B L : Nat) (xs : Nat → Int32) (X : Nat → Nat) (dT : Nat → ClassId) (D : va_G) (s : State) : Prop :=
  (∀ w ∈ lw_tbl, goodWord w = true → ∀ a : Array Value, w.before a s = true) ∧ (∀ w ∈ lw_tbl, m_nest w = true → va_Nw w s) ∧ va_K D vwCl (pgTys dT) s ∧ mExt B L xs X s s.heap ∧
  va_AO "ReelBack$Cost" s ∧ (Cond.arrayOver (.array .int)).before #[] s = true ∧ va_Nw (.castable "[I" "java/lang/Cloneable") s ∧ (∃ kA : Class, s.vm.classes[dT 4]? = some kA ∧ kA.kind = .array (dT 0) (.array .int)) ∧ vk_R "ReelBack$Reader" 54 "kscelrypnj" (X 4) s
theorem mAO_moved {u U : State} (hvm : u.vm.Alike U.vm) (h : (Cond.arrayOver (.array .int)).before #[] u = true) : (Cond.arrayOver (.array .int)).before #[] U = true := by
  obtain ⟨comp, c, k, h1, h2, h3, h4, h5⟩ := arrayOverA_spec h
  obtain ⟨k', hk', he⟩ := hvm.2.2 _ _ h3
  have hi : (U.vm.classes.findIdx? fun (x : Class) => match x.kind with | .array component _ => component == comp | _ => false) = some c := by
    refine (va_idx_bare U.vm comp).symm.trans ?_
    first | rw [hvm.bare_eq] | rw [← hvm.bare_eq]
    exact (va_idx_bare u.vm comp).trans h2
  have hkind : k'.kind = .array comp (.array .int) := by rw [he]; exact h4
  have f1 : U.vm.findClass (FieldType.array .int).toString = some comp := by rw [hvm.findClass]; exact h1
  have f2 : U.vm.findClass ("[" ++ (FieldType.array .int).toString) = some c := by rw [hvm.findClass]; exact h5
  unfold Cond.before Cond.holds
  simp only [Cond.value]
  rw [f1, Option.bind_some]
  refine (congrArg (fun o : Option Nat => (o.bind (fun c => (U.vm.classes[c]?).map fun (k : Class) => match k.kind with | .array _ ty => decide (ty = FieldType.array .int) && decide (U.vm.findClass ("[" ++ (FieldType.array .int).toString) = some c) | _ => false) == some true)) hi).trans ?_
  simp [hk', hkind, f2]
theorem mCtx.move {B L : Nat} {xs : Nat → Int32} {X : Nat → Nat} {dT : Nat → ClassId} {D : va_G} {s U : State} {locs : List Loc} (h : mCtx B L xs X dT D s) (hW : s.WarmedH U.vm) (hS : va_S (fun q : Nat => B ≤ q) s.heap U.heap locs) : mCtx B L xs X dT D U := by
  obtain ⟨h1, h2, h3, h4, h5, h6, h7, ⟨kA, h8, h9⟩, h10⟩ := h
  refine ⟨fun w hw hg a => word_at hW (good_of_word hg) (h1 w hw hg #[]), fun w hw hn => ?_, va_K.moved hW.alike h3, (h4.moved hW.alike).kept hS.2.1, va_AO.moved hW.alike h5, mAO_moved hW.alike h6, va_Nw.warmC hW h7, ?_, vk_R.warm hW h10⟩
  · have hz := h2 w hw hn
    cases w <;> first | (cases hn; done) | exact va_Nw.warmF hW hz | exact va_Nw.warmM hW hz
  · obtain ⟨k', hk', he⟩ := hW.alike.2.2 _ _ h8
    exact ⟨k', hk', by rw [he]; exact h9⟩
/-- the same state but for its frame -/
theorem mCtx.same {B L : Nat} {xs : Nat → Int32} {X : Nat → Nat} {dT : Nat → ClassId} {D : va_G} {s U : State} (h : mCtx B L xs X dT D s) (hv : U.vm = s.vm) (hh : U.heap = s.heap) : mCtx B L xs X dT D U := by
  have hal : s.vm.Alike U.vm := by rw [hv]; exact Vm.Alike.refl s.vm
  obtain ⟨h1, h2, h3, h4, h5, h6, h7, h8, h10⟩ := h
  refine ⟨fun w hw hg a => ?_, fun w hw hn => ?_, va_K.moved hal h3, by rw [hh]; exact h4.moved hal, va_AO.moved hal h5, mAO_moved hal h6, va_Nw.same rfl hv.symm h7, by rw [hv]; exact h8, vk_R.same hv h10⟩
  · have h9 := h1 w hw hg #[]
    rcases good_of_word hg with hg2 | ⟨ty, rfl⟩
    · rw [Bool.and_eq_true] at hg2
      exact va_tabs hg2.1 hv.symm h9
    · simp only [Cond.before, Cond.holds, Cond.value] at h9 ⊢
      rw [hv]
      exact h9
  · have hz := h2 w hw hn
    cases w <;> first | (cases hn; done) | exact va_Nw.same rfl hv.symm hz
end
section
/-! A STEP OF THE SMALL MACHINE IS A STEP OF THE MACHINE -/
def mFr (p : Program) (s : State) (m : MethodId) (meth : Method) (c : Code) (mid B L : Nat) (xs : Nat → Int32) (X : Nat → Nat) (dT : Nat → ClassId) (D : va_G) : Prop :=
  p.tables.exec = Jvm.exec ∧ c.code = pgB mid ∧ c.maxLocals = pgL mid ∧ meth.sig.returnType = pgT mid ∧ meth.locks = false ∧ s.vm.findClass (pgO.getD (pgOw mid) "") = some m.cls ∧ meth.name = (pgN mid).name ∧ mCtx B L xs X dT D s
def m_sz (c : mE) : Nat := match c with
  | .inl (_, n, _) => n
  | .inr (_, fs) => fs.length
def m_sl (w : mWd) : Nat := (w.map m_sz).sum
theorem m_sl_app (w : mWd) (c : mE) : m_sl (w ++ [c]) = m_sl w + m_sz c := by simp [m_sl]
theorem m_sl_set {w : mWd} {i : Nat} {c0 c : mE} (h : w[i]? = some c0) (e : m_sz c = m_sz c0) : m_sl (w.set i c) = m_sl w := by
  induction w generalizing i with
  | nil => cases h
  | cons a w ih =>
    cases i with
    | zero =>
      cases h
      simp [m_sl, e]
    | succ i =>
      have h1 := ih (i := i) (by simpa using h)
      unfold m_sl at h1 ⊢
      simp only [List.set_cons_succ, List.map_cons, List.sum_cons, h1]
theorem m_layg (C : String) (T : u_T) (k : Nat) : goodWord (u_lay C T k) = true := by
  unfold u_lay
  split <;> rfl
section RW
variable {p : Program} {l : Launch} {e : Env} {R : Room} {s : State} {m : MethodId} {args : Array Value} {below : List Frame} {meth : Method} {c : Code} {H : Heap} {locs : List Loc} {cells slots : Nat} {Q : State → Prop}
variable {pc : Nat} {ls : Array Slot} {B L mid : Nat} {xs : Nat → Int32} {X : Nat → Nat} {dT : Nat → ClassId} {D : va_G} {w : mWd} {rest : List Value}
theorem r_fld {ix ci : Nat} {k : Int} (hr : pgRs mid ix = some (0, ci, k) ∨ pgRs mid ix = some (1, ci, k)) : ∃ (C : String) (T : u_T) (N : Nat), vwCl[ci]? = some (C, T, N) ∧ k.toNat < N ∧ (T k.toNat).1 = C ∧ (∀ w ∈ u_ws C T N, w ∈ lw_tbl) ∧
    ((pgRs mid ix = some (0, ci, k) ∧ Cond.fieldLink (pgO.getD (pgOw mid) "") ix C (T k.toNat).2.1 (T k.toNat).2.2.1 ∈ lw_tbl) ∨ (pgRs mid ix = some (1, ci, k) ∧ (T k.toNat).2.2.2 = false ∧ Cond.fieldLinkNest (pgO.getD (pgOw mid) "") ix C (T k.toNat).2.1 (T k.toNat).2.2.1 "ReelBack" ∈ lw_tbl) ∨ (pgRs mid ix = some (1, ci, k) ∧ Cond.fieldLinkNest (pgO.getD (pgOw mid) "") ix C (T k.toNat).2.1 (T k.toNat).2.2.1 "ReelBack" ∈ lw_tbl)) := by
  rcases hr with hr | hr
  · obtain ⟨hm, hk⟩ := pgRs_ok hr
    simp only [pgW, pgKd] at hm hk
    cases hc : vwCl[ci]? with
    | none => rw [hc] at hk; cases hk
    | some q =>
      obtain ⟨C, T, N⟩ := q
      rw [hc] at hm hk
      simp only [Bool.and_eq_true, decide_eq_true_eq] at hk
      exact ⟨C, T, N, rfl, hk.1, hk.2, (pgLay_ok hc).1, Or.inl ⟨hr, hm⟩⟩
  · obtain ⟨hm, hk⟩ := pgRs_ok hr
    simp only [pgW, pgKd] at hm hk
    cases hc : vwCl[ci]? with
    | none => rw [hc] at hk; cases hk
    | some q =>
      obtain ⟨C, T, N⟩ := q
      rw [hc] at hm hk
      simp only [Bool.and_eq_true, decide_eq_true_eq] at hk
      exact ⟨C, T, N, rfl, hk.1, hk.2, (pgLay_ok hc).1, Or.inr (Or.inr ⟨hr, hm⟩)⟩
theorem r_getf (F : mFr p s m meth c mid B L xs X dT D) (hok : mOK B X dT D w H) {ix ci i : Nat} {k : Int} {fs : List Value} {v : Value} (hr : pgRs mid ix = some (0, ci, k) ∨ pgRs mid ix = some (1, ci, k)) (hw : w[i]? = some (.inr (ci, fs))) (hv : fs[k.toNat]? = some v) (hdg : decode (pgB mid) pc = .ok (.getfield ix, 3))
    (kk : W p l e R s m args below meth c H locs cells slots Q (F0 m (pc + 3) ls (mv B X v :: rest))) : W p l e R s m args below meth c H locs cells slots Q (F0 m pc ls (.ref (B + i) :: rest)) := by
  obtain ⟨hx, hb, -, -, -, hown, -, G, Nw, K, -⟩ := F
  obtain ⟨C, T, N, hc, hk, hT, hlay, h⟩ := r_fld hr
  have hts : ∀ w ∈ u_ws C T N, w.before args s = true := fun w hw => by
    obtain ⟨k, -, rfl⟩ := List.mem_map.mp hw
    exact G _ (hlay _ hw) (m_layg C T k) _
  rcases h with ⟨-, h⟩ | ⟨-, -, h⟩ | ⟨-, h⟩
  · exact va_get (D := D) (Ts := u_ws C T N) hx hb hts (fun _ h => h) hown K hok.2 i (mZ_at hw) hc k.toNat hk (G _ h rfl _) (fun x h => by rw [hT] at h; exact h) (mv_map_get hv) hdg kk
  · exact va_getN (D := D) (Ts := u_ws C T N) hx hb hts (fun _ h => h) hown K hok.2 i (mZ_at hw) hc k.toNat hk (va_Nw.use rfl (Nw _ h rfl)) (fun x h => by rw [hT] at h; exact h) (mv_map_get hv) hdg kk
  · exact va_getN (D := D) (Ts := u_ws C T N) hx hb hts (fun _ h => h) hown K hok.2 i (mZ_at hw) hc k.toNat hk (va_Nw.use rfl (Nw _ h rfl)) (fun x h => by rw [hT] at h; exact h) (mv_map_get hv) hdg kk
end RW
end
section
theorem pgTy_ok {ci : Nat} {C : String} {T : u_T} {N : Nat} (h : vwCl[ci]? = some (C, T, N)) : (∀ k, k < N → parseFieldDescriptor (T k).2.2.1 = some (m_fty ci k)) ∧ (∀ a, a < N → ∀ b, b < N → a ≠ b → (T a).2.1 ≠ (T b).2.1) := by
  have hi : ci < 13 := (List.getElem?_eq_some_iff.mp h).1
  rcases (by omega : ci = 0 ∨ ci = 1 ∨ ci = 2 ∨ ci = 3 ∨ ci = 4 ∨ ci = 5 ∨ ci = 6 ∨ ci = 7 ∨ ci = 8 ∨ ci = 9 ∨ ci = 10 ∨ ci = 11 ∨ ci = 12) with e | e | e | e | e | e | e | e | e | e | e | e | e <;> subst e <;> cases h
  · exact ⟨tyX0_ok, nmX0⟩
  · exact ⟨tyX1_ok, nmX1⟩
  · exact ⟨tyX2_ok, nmX2⟩
  · exact ⟨tyX3_ok, nmX3⟩
  · exact ⟨tyX4_ok, nmX4⟩
  · exact ⟨tyX5_ok, nmX5⟩
  · exact ⟨tyX6_ok, nmX6⟩
  · exact ⟨tyX7_ok, nmX7⟩
  · exact ⟨tyX8_ok, nmX8⟩
  · exact ⟨tyX9_ok, nmX9⟩
  · exact ⟨tyX10_ok, nmX10⟩
  · exact ⟨tyX11_ok, nmX11⟩
  · exact ⟨tyX12_ok, nmX12⟩
section RW2
variable {p : Program} {l : Launch} {e : Env} {R : Room} {s : State} {m : MethodId} {args : Array Value} {below : List Frame} {meth : Method} {c : Code} {H : Heap} {locs : List Loc} {cells slots : Nat} {Q : State → Prop}
variable {pc : Nat} {ls : Array Slot} {B L mid : Nat} {xs : Nat → Int32} {X : Nat → Nat} {dT : Nat → ClassId} {D : va_G} {w : mWd} {rest : List Value}
theorem m_optv (f : Nat → Option Nat) (j : Nat) : va_rf ((f j).map (fun a => B + a)) = mv B X (m_opt f j) := by
  unfold m_opt
  cases f j <;> rfl
theorem r_putf (F : mFr p s m meth c mid B L xs X dT D) (hok : mOK B X dT D w H) (hS : va_S (fun q : Nat => B ≤ q) s.heap H locs) {ix ci i : Nat} {k : Int} {nest : Bool} {fs : List Value} {v : Value} (hr : pgRs mid ix = some (if nest = true then 1 else 0, ci, k)) (hw : w[i]? = some (.inr (ci, fs))) (hmay : m_may mid ci k.toNat nest = true) (hfit : m_fits (m_fty ci k.toNat) v = true) (hl : k.toNat < fs.length) (hdg : decode (pgB mid) pc = .ok (.putfield ix, 3))
    (kk : ∀ (H1 : Heap) (locs1 : List Loc), mOK B X dT D (w.set i (.inr (ci, fs.set k.toNat v))) H1 → va_S (fun q : Nat => B ≤ q) s.heap H1 locs1 → W p l e R s m args below meth c H1 locs1 cells slots Q (F0 m (pc + 3) ls rest)) : W p l e R s m args below meth c H locs cells slots Q (F0 m pc ls (mv B X v :: .ref (B + i) :: rest)) := by
  obtain ⟨hx, hb, -, -, -, hown, hmn, G, Nw, K, -⟩ := F
  obtain ⟨C, T, N, hc, hk, hT, hlay, h⟩ := r_fld (mid := mid) (ix := ix) (ci := ci) (k := k) (by cases nest; exact Or.inl hr; exact Or.inr hr)
  have hts : ∀ w ∈ u_ws C T N, w.before args s = true := fun w hw => by
    obtain ⟨k, -, rfl⟩ := List.mem_map.mp hw
    exact G _ (hlay _ hw) (m_layg C T k) _
  obtain ⟨hty, hnm⟩ := pgTy_ok hc
  have hap := va_apart (own := "") hts (fun _ h => h) (m_fty ci) hty hnm K hc
  obtain ⟨r, h1, cell, q1, q2, q3, q4⟩ := hok.2 i _ (mZ_at hw)
  have hrr : r = (C, T, N) := Option.some.inj (h1.symm.trans hc)
  subst hrr
  obtain ⟨hSl, hfc, kC, hkC, hkind⟩ := K.1 ci _ hc
  obtain ⟨cf, kf, fi, f, hi, hsl⟩ := hSl k.toNat hk
  obtain ⟨hn, hft⟩ := m_fits_ok (B := B) (X := X) hfit
  have hlay1 := hts _ (u_in_lay (C := C) (T := T) hk)
  have hst := (u_facts hfc hkC (u_lays hts (fun _ h => h) hk) hi).1
  have hsame : ∀ x, s.fieldFound? (T k.toNat).1 (T k.toNat).2.1 (T k.toNat).2.2.1 = some x → s.fieldFound? C (T k.toNat).2.1 (T k.toNat).2.2.1 = some x := fun x h => by rw [hT] at h; exact h
  have fin : ∀ H' : Heap, H'[B + i]? = some (cell.setSlot (D.2 ci k.toNat) (mv B X v)) → H'.size = H.size → (∀ q, q ≠ B + i → H'[q]? = H[q]?) → mOK B X dT D (w.set i (.inr (ci, fs.set k.toNat v))) H' := fun H' e1 e2 e3 => by
    refine hok.set hw ?_ e2 e3
    rw [mc_set]
    exact ⟨_, hc, t_OB.to (V := updV (vp_V (fs.map (mv B X))) k.toNat (mv B X v)) ⟨_, e1, q2, q3, t_set q4 hap hk (mv B X v)⟩ (fun j _ => vp_updV_set (by rw [List.length_map]; exact hl) (mv B X v) j)⟩
  unfold m_may at hmay
  rw [hc] at hmay
  dsimp only at hmay
  by_cases hfn : (T k.toNat).2.2.2 = true
  · rw [if_pos hfn] at hmay
    simp only [Bool.and_eq_true, Bool.not_eq_true', decide_eq_true_eq] at hmay
    obtain ⟨⟨hne, hin⟩, hcls⟩ := hmay
    subst hne
    rcases h with ⟨-, h⟩ | ⟨hz, -⟩ | ⟨hz, -⟩
    · unfold u_lay at hlay1
      rw [if_pos hfn] at hlay1
      have hcf : m.cls = cf := by
        obtain ⟨_, _, c', _, _, _, -, -, hf', -, -, -, hown2, -⟩ := Cond.laysFinal_spec hlay1
        have e1 : c' = cf := by have := hi.symm.trans hf'; simp at this; exact this.1.symm
        have hk2 : mid < 275 := by
          rcases Nat.lt_or_ge mid 275 with q | q
          · exact q
          · exfalso
            have hz : pgN mid = pgD.1 := by
              unfold pgN pgRw
              rw [List.getD_eq_getElem?_getD, List.getD_eq_getElem?_getD]
              rcases Nat.lt_or_ge (mid / 16) 18 with q1 | q1
              · have q2 : mid / 16 = 17 := by omega
                have q3 : 3 ≤ mid % 16 := by omega
                rw [q2, List.getElem?_eq_none (show ((pgMs[17]?).getD []).length ≤ mid % 16 from q3)]
                rfl
              · rw [List.getElem?_eq_none (show pgMs.length ≤ mid / 16 from q1)]
                rfl
            rw [hz] at hin
            exact absurd hin (by decide +kernel)
        have ho : pgO.getD (pgOw mid) "" = (pgN mid).cls := pgOw_ok hk2
        rw [ho, ← hcls] at hown
        rw [← e1]; exact Option.some.inj (hown.symm.trans hown2)
      have h6 := u_fits hfc hkC hkind (Or.inr hlay1) hi (hty _ hk) hn hft
      refine W.putFinK hx hb hown (G _ h rfl _) (hsame _ hi) hst hcf (hmn.trans hin) (by rw [q2]; exact h6) q1 q3 (by rw [hsl]; exact k2_hasslot (q4 _ hk)) rfl rfl hdg fun H' e1 e2 e3 => ?_
      rw [hsl] at e1 ⊢
      exact kk H' _ (fin H' e1 e2 e3) (mS_put hS e2 e3)
    · rw [hr] at hz; cases hz
    · rw [hr] at hz; cases hz
  · have hfn2 : (T k.toNat).2.2.2 = false := by simpa using hfn
    unfold u_lay at hlay1
    rw [if_neg hfn] at hlay1
    have h6 := u_store hfc hkC hkind hlay1 hi (hty _ hk) hn hft
    rcases h with ⟨-, h⟩ | ⟨-, -, h⟩ | ⟨-, h⟩
    · refine W.putK hx hb (f := f) ⟨hown, G _ h rfl _, ⟨_, _, _, hsame _ hi⟩, hst⟩ (by rw [q2]; exact h6) q1 q3 (by rw [hsl]; exact k2_hasslot (q4 _ hk)) rfl rfl hdg fun H' e1 e2 e3 => ?_
      rw [hsl] at e1 ⊢
      exact kk H' _ (fin H' e1 e2 e3) (mS_put hS e2 e3)
    · refine va_WputK hx hb (f := f) hown (va_Nw.use rfl (Nw _ h rfl)) (hsame _ hi) hst (by rw [q2]; exact h6) q1 q3 (by rw [hsl]; exact k2_hasslot (q4 _ hk)) rfl rfl hdg fun H' e1 e2 e3 => ?_
      rw [hsl] at e1 ⊢
      exact kk H' _ (fin H' e1 e2 e3) (mS_put hS e2 e3)
    · refine va_WputK hx hb (f := f) hown (va_Nw.use rfl (Nw _ h rfl)) (hsame _ hi) hst (by rw [q2]; exact h6) q1 q3 (by rw [hsl]; exact k2_hasslot (q4 _ hk)) rfl rfl hdg fun H' e1 e2 e3 => ?_
      rw [hsl] at e1 ⊢
      exact kk H' _ (fin H' e1 e2 e3) (mS_put hS e2 e3)
theorem r_ald (F : mFr p s m meth c mid B L xs X dT D) (hok : mOK B X dT D w H) {o i : Nat} {j : Int32} {v : Value} {ins : Instr} (ho : (o = 0 ∧ ins = .iaload) ∨ (o = 1 ∧ ins = .baload) ∨ (o = 2 ∧ ins = .laload) ∨ (o = 3 ∧ ins = .aaload)) (h : m_ald o i j w = some v) (hdg : decode (pgB mid) pc = .ok (ins, 1))
    (kk : W p l e R s m args below meth c H locs cells slots Q (F0 m (pc + 1) ls (mv B X v :: rest))) : W p l e R s m args below meth c H locs cells slots Q (F0 m pc ls (.int j :: .ref (B + i) :: rest)) := by
  obtain ⟨hx, hb, -, -, -, hown, hmn, G, Nw, K, -⟩ := F
  unfold m_ald at h
  split at h
  next t n f hw =>
    split at h
    next hc =>
      obtain ⟨hin, rfl, ht⟩ := hc
      cases h
      rcases ho with ⟨rfl, rfl⟩ | ⟨rfl, rfl⟩ | ⟨rfl, -⟩ | ⟨rfl, -⟩
      · exact va_iald hx hb K hok.2 i 0 (mZ_at hw) rfl (m_in_ok hin) hdg kk
      · exact va_zald hx hb K hok.2 i 1 (mZ_at hw) rfl (m_in_ok hin) hdg kk
      · exact absurd ht (by decide)
      · exact absurd ht (by decide)
    next => cases h
  next t n f hw =>
    split at h
    next hc =>
      obtain ⟨hin, rfl, ht⟩ := hc
      cases h
      subst ht
      rcases ho with ⟨hz, rfl⟩ | ⟨hz, rfl⟩ | ⟨-, rfl⟩ | ⟨hz, -⟩
      · cases hz
      · cases hz
      · exact va_lald hx hb K hok.2 i 2 (mZ_at hw) rfl (m_in_ok hin) hdg kk
      · cases hz
    next => cases h
  next t n f hw =>
    split at h
    next hc =>
      obtain ⟨hin, ht, ht2⟩ := hc
      cases h
      subst ht
      rcases ho with ⟨hz, rfl⟩ | ⟨hz, rfl⟩ | ⟨hz, rfl⟩ | ⟨-, rfl⟩
      · cases hz
      · cases hz
      · cases hz
      · rw [← m_optv] at kk
        rcases ht2 with rfl | rfl
        · exact va_aldq hx hb K hok.2 i 3 (mZ_at hw) rfl (m_in_ok hin) hdg kk
        · have hlt : j.toNatClampNeg < n := Nat.not_le.mp fun q => (m_in_ok hin) (Or.inr q)
          exact W.aald (v := va_rf ((f j.toNatClampNeg).map (fun a => B + a))) (ty := .array .int) hx hb (hok.2 i _ (mZ_at hw)) ((K.2 4 _ rfl).1 n (fun j => va_rf ((f j).map (fun a => B + a)))) rfl (fun q => by cases q) (by show ¬ (j < 0 ∨ (arrV _ _ _).slots.size ≤ _); rw [arrV_size]; exact m_in_ok hin) (by show (arrV _ _ _).slots[_]? = _; rw [arrV_read _ _ hlt]) rfl rfl hdg kk
    next => cases h
  next => cases h
theorem r_xld (F : mFr p s m meth c mid B L xs X dT D) (hS : va_S (fun q : Nat => B ≤ q) s.heap H locs) {o k : Nat} {j : Int32} {v : Value} {ins : Instr} (ho : (o = 0 ∧ ins = .iaload) ∨ (o = 1 ∧ ins = .baload)) (h : m_xld L xs o k j = some v) (hdg : decode (pgB mid) pc = .ok (ins, 1))
    (kk : W p l e R s m args below meth c H locs cells slots Q (F0 m (pc + 1) ls (mv B X v :: rest))) : W p l e R s m args below meth c H locs cells slots Q (F0 m pc ls (.int j :: .ref (X k) :: rest)) := by
  obtain ⟨hx, hb, -, -, -, hown, hmn, G, Nw, K, E, -⟩ := F
  unfold m_xld at h
  split at h
  next t n f hk =>
    split at h
    next hc =>
      obtain ⟨hin, ht⟩ := hc
      cases h
      have hT := E.1 k t n f hk
      rcases ht with ⟨rfl, rfl⟩ | ⟨rfl, rfl⟩
      · rcases ho with ⟨-, rfl⟩ | ⟨hz, -⟩
        · exact va_ti hx hb hT hS (m_in_ok hin) rfl hdg kk
        · cases hz
      · rcases ho with ⟨hz, -⟩ | ⟨-, rfl⟩
        · cases hz
        · exact va_tb hx hb hT hS (m_in_ok hin) rfl hdg kk
    next => cases h
  next => cases h
theorem r_len (F : mFr p s m meth c mid B L xs X dT D) (hok : mOK B X dT D w H) (hS : va_S (fun q : Nat => B ≤ q) s.heap H locs) {n : Nat} {v : Value} (h : m_len1 L xs v w = some n) (hdg : decode (pgB mid) pc = .ok (.arraylength, 1))
    (kk : W p l e R s m args below meth c H locs cells slots Q (F0 m (pc + 1) ls (.int (Int32.ofNat n) :: rest))) : W p l e R s m args below meth c H locs cells slots Q (F0 m pc ls (mv B X v :: rest)) := by
  obtain ⟨hx, hb, -, -, -, hown, hmn, G, Nw, K, E, -⟩ := F
  unfold m_len1 at h
  split at h
  next i =>
    split at h
    next t n f hw =>
      have ht5 : t < 5 := by
        by_cases q : t < 5
        · exact q
        · rw [if_neg q] at h; cases h
      rw [if_pos ht5] at h
      cases h
      have hty : ∃ ty, (pgTys dT)[t]? = some (dT t, ty) := by
        rcases (by omega : t = 0 ∨ t = 1 ∨ t = 2 ∨ t = 3 ∨ t = 4) with e | e | e | e | e <;> subst e <;> exact ⟨_, rfl⟩
      obtain ⟨ty, hty⟩ := hty
      rcases f with f1 | f1 | f1 | f1 | f1
      · exact va_alen hx hb K hok.2 i t (mZ_at hw) hty rfl hdg kk
      · exact va_alen hx hb K hok.2 i t (mZ_at hw) hty rfl hdg kk
      · exact va_alen hx hb K hok.2 i t (mZ_at hw) hty rfl hdg kk
      · exact va_alen hx hb K hok.2 i t (mZ_at hw) hty rfl hdg kk
      · exact va_alen hx hb K hok.2 i t (mZ_at hw) hty rfl hdg kk
    next => cases h
  next k =>
    split at h
    next t n f hk =>
      cases h
      exact va_tlen hx hb (E.1 k t _ f hk) hS rfl hdg kk
    next => cases h
  next => cases h
end RW2
end
section
theorem m_ast_sl {o i : Nat} {j : Int32} {v : Value} {w : mWd} {ce : mE} (h : m_ast o i j v w = some ce) : m_sl (w.set i ce) = m_sl w := by
  unfold m_ast at h
  split at h
  next t n f x hw =>
    split at h
    next => cases h; exact m_sl_set hw rfl
    next =>
      split at h
      next => cases h; exact m_sl_set hw rfl
      next => cases h
  next t n f x hw =>
    split at h
    next => cases h; exact m_sl_set hw rfl
    next => cases h
  next t n f a hw =>
    split at h
    next =>
      split at h
      next => cases h; exact m_sl_set hw rfl
      next => cases h
    next =>
      split at h
      next => cases h; exact m_sl_set hw rfl
      next => cases h
    next => cases h
  next => cases h
section RW3
variable {p : Program} {l : Launch} {e : Env} {R : Room} {s : State} {m : MethodId} {args : Array Value} {below : List Frame} {meth : Method} {c : Code} {H : Heap} {locs : List Loc} {cells slots : Nat} {Q : State → Prop}
variable {pc : Nat} {ls : Array Slot} {B L mid : Nat} {xs : Nat → Int32} {X : Nat → Nat} {dT : Nat → ClassId} {D : va_G} {w : mWd} {rest : List Value}
theorem r_ast (F : mFr p s m meth c mid B L xs X dT D) (hok : mOK B X dT D w H) (hS : va_S (fun q : Nat => B ≤ q) s.heap H locs) {o i : Nat} {j : Int32} {v : Value} {ce : mE} {ins : Instr} (ho : (o = 0 ∧ ins = .iastore) ∨ (o = 1 ∧ ins = .bastore) ∨ (o = 2 ∧ ins = .lastore) ∨ (o = 3 ∧ ins = .aastore)) (h : m_ast o i j v w = some ce) (hdg : decode (pgB mid) pc = .ok (ins, 1))
    (kk : ∀ (H1 : Heap) (locs1 : List Loc), mOK B X dT D (w.set i ce) H1 → va_S (fun q : Nat => B ≤ q) s.heap H1 locs1 → m_sl (w.set i ce) = m_sl w → W p l e R s m args below meth c H1 locs1 cells slots Q (F0 m (pc + 1) ls rest)) : W p l e R s m args below meth c H locs cells slots Q (F0 m pc ls (mv B X v :: .int j :: .ref (B + i) :: rest)) := by
  obtain ⟨hx, hb, -, -, -, hown, hmn, G, Nw, K, -, -, -, -, ⟨kA4, hkA4, hkind4⟩, -⟩ := F
  unfold m_ast at h
  split at h
  next t n f x hw =>
    split at h
    next hc =>
      obtain ⟨hin, rfl, rfl⟩ := hc
      cases h
      rcases ho with ⟨-, rfl⟩ | ⟨hz, -⟩ | ⟨hz, -⟩ | ⟨hz, -⟩
      · refine W.iast hx hb (hok.2 i _ (mZ_at hw)) ((K.2 0 _ rfl).1 n (fun j => .int (f j))) (fun q => by cases q) (by show ¬ (j < 0 ∨ (arrV _ _ _).slots.size ≤ _); rw [arrV_size]; exact m_in_ok hin) rfl rfl hdg fun H1 e z oq => ?_
        refine kk H1 _ (hok.set hw ?_ z oq) (mS_put hS z oq) (m_sl_set hw rfl)
        show H1[B + i]? = some (vp_cell _ _)
        rw [e]
        show some ((vp_cell (dT 0) (n, .inl f)).setSlot _ _) = some (vp_cell (dT 0) (n, .inl (upd f j.toNatClampNeg x)))
        rw [vp_cell_i, vp_cell_i, arrV_store]
        congr 2
        funext q
        by_cases hq : q = j.toNatClampNeg
        · subst hq
          simp [updV, upd]
        · simp [updV, upd, hq]
      · cases hz
      · cases hz
      · cases hz
    next =>
      split at h
      next hc =>
        obtain ⟨hin, rfl, rfl⟩ := hc
        cases h
        rcases ho with ⟨hz, -⟩ | ⟨-, rfl⟩ | ⟨hz, -⟩ | ⟨hz, -⟩
        · cases hz
        · refine W.zast hx hb (hok.2 i _ (mZ_at hw)) ((K.2 1 _ rfl).1 n (fun j => .int (f j))) (fun q => by cases q) (by show ¬ (j < 0 ∨ (arrV _ _ _).slots.size ≤ _); rw [arrV_size]; exact m_in_ok hin) rfl rfl hdg fun H1 e z oq => ?_
          refine kk H1 _ (hok.set hw ?_ z oq) (mS_put hS z oq) (m_sl_set hw rfl)
          show H1[B + i]? = some (vp_cell _ _)
          rw [e]
          show some ((vp_cell (dT 1) (n, .inl f)).setSlot _ _) = some (vp_cell (dT 1) (n, .inl (upd f j.toNatClampNeg (vp_nar .boolean x))))
          rw [vp_cell_i, vp_cell_i, arrV_store]
          congr 2
          funext q
          by_cases hq : q = j.toNatClampNeg
          · subst hq
            simp [updV, upd, vp_nar]
            try rfl
          · simp [updV, upd, hq]
        · cases hz
        · cases hz
      next => cases h
  next t n f x hw =>
    split at h
    next hc =>
      obtain ⟨hin, rfl, rfl⟩ := hc
      cases h
      rcases ho with ⟨hz, -⟩ | ⟨hz, -⟩ | ⟨-, rfl⟩ | ⟨hz, -⟩
      · cases hz
      · cases hz
      · refine W.last hx hb (hok.2 i _ (mZ_at hw)) ((K.2 2 _ rfl).1 n (fun j => .long (f j))) (fun q => by cases q) (by show ¬ (j < 0 ∨ (arrV _ _ _).slots.size ≤ _); rw [arrV_size]; exact m_in_ok hin) rfl rfl hdg fun H1 e z oq => ?_
        refine kk H1 _ (hok.set hw ?_ z oq) (mS_put hS z oq) (m_sl_set hw rfl)
        show H1[B + i]? = some (vp_cell _ _)
        rw [e]
        show some ((vp_cell (dT 2) (n, .inr (.inl f))).setSlot _ _) = some (vp_cell (dT 2) (n, .inr (.inl (vp_updL f j.toNatClampNeg x))))
        rw [vp_cell_l, vp_cell_l, arrV_store]
        congr 2
        funext q
        by_cases hq : q = j.toNatClampNeg
        · subst hq
          simp [updV, vp_updL]
        · simp [updV, vp_updL, hq]
      · cases hz
    next => cases h
  next t n f a hw =>
    have fin : ∀ (H1 : Heap), (t = 3 ∨ t = 4) → H1[B + i]? = some ((vp_cell (dT t) (n, .inr (.inr (.inr (.inr (fun j => (f j).map (fun a => B + a))))))).setSlot j.toNatClampNeg (.ref (B + a))) → va_at D vwCl (B + i, mc B X dT (.inl (t, n, .inr (.inr (.inr (.inr (va_up f j.toNatClampNeg (some a)))))))) H1 := by
      intro H1 ht e
      show H1[B + i]? = some (vp_cell (dT t) (n, .inr (.inr (.inr (.inr (fun q => (va_up f j.toNatClampNeg (some a) q).map (fun a => B + a)))))))
      rw [e, vp_cell_q, vp_cell_q, arrV_store]
      congr 2
      funext q
      by_cases hq : q = j.toNatClampNeg
      · subst hq
        simp [updV, va_up, va_rf]
      · simp [updV, va_up, hq]
    split at h
    next cj fs ha =>
      split at h
      next hc =>
        obtain ⟨hin, rfl, rfl, rfl⟩ := hc
        cases h
        have hlt : j.toNatClampNeg < n := Nat.not_le.mp fun q => m_in_ok hin (Or.inr q)
        have h0 : ¬ j < 0 := fun q => m_in_ok hin (Or.inl q)
        rcases ho with ⟨hz, -⟩ | ⟨hz, -⟩ | ⟨hz, -⟩ | ⟨-, rfl⟩
        · cases hz
        · cases hz
        · cases hz
        · obtain ⟨r', hr', cellV, g1, g2, g3, -⟩ := hok.2 a _ (mZ_at ha)
          have hcls := (K.1 2 (RX2, TX2, 13) rfl).2
          obtain ⟨kA, comp, k1, k2, k3, -⟩ := (K.2 3 _ rfl).2
          have hcomp : comp = D.1 2 := Option.some.inj (k3.symm.trans hcls.1)
          subst hcomp
          obtain ⟨kC, hkC, -⟩ := hcls.2
          refine W.aast hx hb (hok.2 i _ (mZ_at hw)) (fun q h => by cases h) (fun h => by cases h) k1 k2 rfl hkC ⟨h0, by show _ < (arrV _ _ _).slots.size; rw [arrV_size]; exact hlt⟩ g1 (fun q h => by rw [g3] at h; cases h) (by rw [g2]; exact hkC) (by rw [g2]; exact va_assign hcls) rfl rfl hdg fun H1 e z oq => ?_
          exact kk H1 _ (hok.set hw (fin H1 (Or.inl rfl) e) z oq) (mS_put hS z oq) (m_sl_set hw rfl)
      next => cases h
    next ta na fa ha =>
      split at h
      next hc =>
        obtain ⟨hin, rfl, rfl, rfl⟩ := hc
        cases h
        have hlt : j.toNatClampNeg < n := Nat.not_le.mp fun q => m_in_ok hin (Or.inr q)
        have h0 : ¬ j < 0 := fun q => m_in_ok hin (Or.inl q)
        rcases ho with ⟨hz, -⟩ | ⟨hz, -⟩ | ⟨hz, -⟩ | ⟨-, rfl⟩
        · cases hz
        · cases hz
        · cases hz
        · obtain ⟨-, kI, hkI, compI, hkindI⟩ := (K.2 0 _ rfl).1 0 (fun _ => .null)
          have g1 := hok.2 a _ (mZ_at ha)
          have hasg : s.vm.assignable (dT 0) (dT 0) = true := va_asg _ _
          refine W.aast hx hb (hok.2 i _ (mZ_at hw)) (fun q h => by cases h) (fun h => by cases h) hkA4 hkind4 rfl hkI ⟨h0, by show _ < (arrV _ _ _).slots.size; rw [arrV_size]; exact hlt⟩ g1 (fun q h => by cases h) hkI hasg rfl rfl hdg fun H1 e z oq => ?_
          exact kk H1 _ (hok.set hw (fin H1 (Or.inr rfl) e) z oq) (mS_put hS z oq) (m_sl_set hw rfl)
      next => cases h
    next => cases h
  next => cases h
end RW3
end
section
theorem mAO_use {A : Array Value} {U : State} (h : (Cond.arrayOver (.array .int)).before #[] U = true) : (Cond.arrayOver (.array .int)).before A U = true := h
theorem mv_dflt (B : Nat) (X : Nat → Nat) (ty : FieldType) : mv B X (defaultValue ty) = defaultValue ty := by cases ty <;> rfl
theorem pgDf_len {ci : Nat} {C : String} {T : u_T} {N : Nat} (h : vwCl[ci]? = some (C, T, N)) : (pgDf ci).length = N := by
  unfold pgDf
  rw [h]
  simp
theorem pgDf_at {ci : Nat} {C : String} {T : u_T} {N : Nat} (h : vwCl[ci]? = some (C, T, N)) (B : Nat) (X : Nat → Nat) (j : Nat) (hj : j < N) : defaultValue (m_fty ci j) = vp_V ((pgDf ci).map (mv B X)) j := by
  unfold pgDf vp_V
  rw [h, List.getD_eq_getElem?_getD, List.getElem?_map, List.getElem?_map, List.getElem?_range hj]
  show _ = mv B X (defaultValue _)
  rw [mv_dflt]
  rfl
section RW4
variable {p : Program} {l : Launch} {e : Env} {R : Room} {s : State} {m : MethodId} {args : Array Value} {below : List Frame} {meth : Method} {c : Code} {H : Heap} {locs : List Loc} {cells slots : Nat} {Q : State → Prop}
variable {pc : Nat} {ls : Array Slot} {B L mid : Nat} {xs : Nat → Int32} {X : Nat → Nat} {dT : Nat → ClassId} {D : va_G} {w : mWd} {rest : List Value}
theorem r_new (F : mFr p s m meth c mid B L xs X dT D) (hok : mOK B X dT D w H) (hS : va_S (fun q : Nat => B ≤ q) s.heap H locs) {ix ci : Nat} {b : Int} (hr : pgRs mid ix = some (13, ci, b)) (hcells : cells + 1 ≤ R.cells) (hslots : slots + (pgDf ci).length ≤ R.slots) (hdg : decode (pgB mid) pc = .ok (.new ix, 3))
    (kk : ∀ (H1 : Heap), mOK B X dT D (w ++ [.inr (ci, pgDf ci)]) H1 → va_S (fun q : Nat => B ≤ q) s.heap H1 locs → W p l e R s m args below meth c H1 locs (cells + 1) (slots + (pgDf ci).length) Q (F0 m (pc + 3) ls (.ref (B + w.length) :: rest))) : W p l e R s m args below meth c H locs cells slots Q (F0 m pc ls rest) := by
  obtain ⟨hx, hb, -, -, -, hown, -, G, Nw, K, -⟩ := F
  obtain ⟨hm, hk⟩ := pgRs_ok hr
  simp only [pgW, pgKd] at hm hk
  cases hc : vwCl[ci]? with
  | none =>
    rw [List.getElem?_eq_none_iff] at hc
    exact absurd (Nat.le_of_ble_eq_true hk) (by have : vwCl.length = 13 := rfl; omega)
  | some q =>
    obtain ⟨C, T, N⟩ := q
    rw [hc] at hm
    dsimp only at hm
    obtain ⟨hlay, hins, hini⟩ := pgLay_ok hc
    have hts : ∀ w ∈ u_ws C T N, w.before args s = true := fun w hw => by
      obtain ⟨k, -, rfl⟩ := List.mem_map.mp hw
      exact G _ (hlay _ hw) (m_layg C T k) _
    have hln := pgDf_len hc
    rw [hln] at hslots kk
    have hKn := K.1 ci _ hc
    refine W.newcK hx hb hown (G _ hm rfl _) (G _ hins rfl _) (G _ hini rfl _) rfl hdg hcells hslots hKn.2.1 hok.1 fun H1 kC hkC e1 z1 o1 => ?_
    rw [← hok.1] at z1 o1
    refine kk H1 (hok.push ?_ z1 o1) (mS_push hS z1 o1)
    exact ⟨_, hc, (u_born (m_fty ci) hts (fun _ h => h) hKn hkC e1 (pgTy_ok hc).1).to (fun j hj => pgDf_at hc B X j hj)⟩
theorem r_newa (F : mFr p s m meth c mid B L xs X dT D) (hok : mOK B X dT D w H) (hS : va_S (fun q : Nat => B ≤ q) s.heap H locs) {t : Nat} {a : ArrayType} {x : Int32} {ce : mE} (hta : (t = 0 ∧ a = .int) ∨ (t = 1 ∧ a = .boolean) ∨ (t = 2 ∧ a = .long)) (hn : ¬ x < 0) (hle : x.toNatClampNeg ≤ 100000) (hce : m_arr t x.toNatClampNeg = some ce) (hcells : cells + 1 ≤ R.cells) (hslots : slots + m_sz ce ≤ R.slots) (hdg : decode (pgB mid) pc = .ok (.newarray a, 2))
    (kk : ∀ (H1 : Heap), mOK B X dT D (w ++ [ce]) H1 → va_S (fun q : Nat => B ≤ q) s.heap H1 locs → W p l e R s m args below meth c H1 locs (cells + 1) (slots + m_sz ce) Q (F0 m (pc + 2) ls (.ref (B + w.length) :: rest))) : W p l e R s m args below meth c H locs cells slots Q (F0 m pc ls (.int x :: rest)) := by
  obtain ⟨hx, hb, -, -, -, hown, -, G, Nw, K, -⟩ := F
  rcases hta with ⟨rfl, rfl⟩ | ⟨rfl, rfl⟩ | ⟨rfl, rfl⟩
  · cases hce
    refine va_newaK (atype := .int) hx hb (G _ aw_int rfl _) rfl hdg rfl hn rfl (by show x.toNatClampNeg * 4 ≤ _; omega) hcells hslots hok.1 fun H1 cA e1 z1 o1 hA hnm => ?_
    rw [← hok.1] at z1 o1
    have hcA : cA = dT 0 := Option.some.inj (hnm.symm.trans (show s.vm.findClass ("[" ++ (FieldType.int).toString) = some (dT 0) from (K.2 0 _ rfl).2))
    subst hcA
    exact kk H1 (hok.push (by show H1[_]? = some (vp_cell _ _); rw [vp_cell_i]; exact e1) z1 o1) (mS_push hS z1 o1)
  · cases hce
    refine va_newaK (atype := .boolean) hx hb (G _ aw_bool rfl _) rfl hdg rfl hn rfl (by show x.toNatClampNeg * 1 ≤ _; omega) hcells hslots hok.1 fun H1 cA e1 z1 o1 hA hnm => ?_
    rw [← hok.1] at z1 o1
    have hcA : cA = dT 1 := Option.some.inj (hnm.symm.trans (show s.vm.findClass ("[" ++ (FieldType.boolean).toString) = some (dT 1) from (K.2 1 _ rfl).2))
    subst hcA
    exact kk H1 (hok.push (by show H1[_]? = some (vp_cell _ _); rw [vp_cell_i]; exact e1) z1 o1) (mS_push hS z1 o1)
  · cases hce
    refine va_newaK (atype := .long) hx hb (G _ aw_long rfl _) rfl hdg rfl hn rfl (by show x.toNatClampNeg * 8 ≤ _; omega) hcells hslots hok.1 fun H1 cA e1 z1 o1 hA hnm => ?_
    rw [← hok.1] at z1 o1
    have hcA : cA = dT 2 := Option.some.inj (hnm.symm.trans (show s.vm.findClass ("[" ++ (FieldType.long).toString) = some (dT 2) from (K.2 2 _ rfl).2))
    subst hcA
    exact kk H1 (hok.push (by show H1[_]? = some (vp_cell _ _); rw [vp_cell_l]; exact e1) z1 o1) (mS_push hS z1 o1)
theorem r_anew (F : mFr p s m meth c mid B L xs X dT D) (hok : mOK B X dT D w H) (hS : va_S (fun q : Nat => B ≤ q) s.heap H locs) {ix t : Nat} {b : Int} {x : Int32} {ce : mE} (hr : pgRs mid ix = some (14, t, b)) (ht : t = 3 ∨ t = 4) (hn : ¬ x < 0) (hle : x.toNatClampNeg ≤ 100000) (hce : m_arr t x.toNatClampNeg = some ce) (hcells : cells + 1 ≤ R.cells) (hslots : slots + m_sz ce ≤ R.slots) (hdg : decode (pgB mid) pc = .ok (.anewarray ix, 3))
    (kk : ∀ (H1 : Heap), mOK B X dT D (w ++ [ce]) H1 → va_S (fun q : Nat => B ≤ q) s.heap H1 locs → W p l e R s m args below meth c H1 locs (cells + 1) (slots + m_sz ce) Q (F0 m (pc + 3) ls (.ref (B + w.length) :: rest))) : W p l e R s m args below meth c H locs cells slots Q (F0 m pc ls (.int x :: rest)) := by
  obtain ⟨hx, hb, -, -, -, hown, -, G, Nw, K, -, hAO, hAA, -⟩ := F
  obtain ⟨hm, hk⟩ := pgRs_ok hr
  simp only [pgW] at hm
  have fin : ∀ (cA : ClassId) (H1 : Heap), H.push ({ cls := cA, slots := Array.replicate x.toNatClampNeg .null, vm := .none } : Cell) = H1 → H1.size = H.size + 1 ∧ H1[B + w.length]? = some (arrV cA x.toNatClampNeg (fun _ => .null)) ∧ ∀ q : Nat, q < H.size → H1[q]? = H[q]? := by
    intro cA H1 hH1
    refine ⟨by rw [← hH1, Array.size_push], by rw [← hok.1, ← hH1, Array.getElem?_push_size, ← arrV_new], fun q hq => by rw [← hH1, Array.getElem?_push, if_neg (Nat.ne_of_lt hq)]⟩
  rcases ht with rfl | rfl
  · cases hce
    refine W.anew (C := "ReelBack$Cost") hx hb hown (G _ hm rfl _) (va_AO.use hAO) rfl hdg rfl hn (by omega) hcells hslots fun cA kA comp f1 f2 f3 f4 => ?_
    obtain ⟨kA', comp', g1, g2, g3, g4⟩ := (K.2 3 _ rfl).2
    have hcA : cA = dT 3 := Option.some.inj (f1.symm.trans g4)
    subst hcA
    generalize hH1 : H.push ({ cls := dT 3, slots := Array.replicate x.toNatClampNeg .null, vm := .none } : Cell) = H1
    obtain ⟨z1, e1, o1⟩ := fin _ H1 hH1
    rw [hok.1]
    exact kk H1 (hok.push (by show H1[_]? = some (vp_cell _ _); rw [vp_cell_q]; exact e1) z1 o1) (mS_push hS z1 o1)
  · cases hce
    refine W.anewA (t := .int) hx hb hown (G _ hm rfl _) (mAO_use hAA) rfl hdg rfl hn (by omega) hcells hslots fun cA kA comp f1 f2 f3 f4 => ?_
    have hcA : cA = dT 4 := Option.some.inj (f1.symm.trans (show s.vm.findClass ("[" ++ (FieldType.array .int).toString) = some (dT 4) from (K.2 4 _ rfl).2))
    subst hcA
    generalize hH1 : H.push ({ cls := dT 4, slots := Array.replicate x.toNatClampNeg .null, vm := .none } : Cell) = H1
    obtain ⟨z1, e1, o1⟩ := fin _ H1 hH1
    rw [hok.1]
    exact kk H1 (hok.push (by show H1[_]? = some (vp_cell _ _); rw [vp_cell_q]; exact e1) z1 o1) (mS_push hS z1 o1)
end RW4
end
section
section RW5
variable {p : Program} {l : Launch} {e : Env} {R : Room} {s : State} {m : MethodId} {args : Array Value} {below : List Frame} {meth : Method} {c : Code} {H : Heap} {locs : List Loc} {cells slots : Nat} {Q : State → Prop}
variable {pc : Nat} {ls : Array Slot} {B L mid : Nat} {xs : Nat → Int32} {X : Nat → Nat} {dT : Nat → ClassId} {D : va_G} {w : mWd} {rest : List Value}
theorem r_clone (F : mFr p s m meth c mid B L xs X dT D) (hok : mOK B X dT D w H) (hS : va_S (fun q : Nat => B ≤ q) s.heap H locs) (hml : ls.size = pgL mid) {ix i n : Nat} {y : Nat} {b : Int} {f : Nat → Int32} (hr : pgRs mid ix = some (11, y, b)) (hw : w[i]? = some (.inl (0, n, .inl f))) (hcat : (rest.map fun v => v.category).sum ≤ 8) (hfr : 1 ≤ R.frames) (hlo : 100 ≤ R.locals) (hcells : cells + 1 ≤ R.cells) (hslots : slots + n ≤ R.slots) (hdg : decode (pgB mid) pc = .ok (.invokevirtual ix, 3))
    (kk : ∀ (H1 : Heap), mOK B X dT D (w ++ [.inl (0, n, .inl f)]) H1 → va_S (fun q : Nat => B ≤ q) s.heap H1 locs → W p l e R s m args below meth c H1 locs (cells + 1) (slots + n) Q (F0 m (pc + 3) ls (.ref (B + w.length) :: rest))) : W p l e R s m args below meth c H locs cells slots Q (F0 m pc ls (.ref (B + i) :: rest)) := by
  obtain ⟨hx, hb, hmL, -, -, hown, -, G, Nw, K, -, -, -, hcl, -⟩ := F
  obtain ⟨hm, hk⟩ := pgRs_ok hr
  simp only [pgW] at hm
  have hsz : (vp_cell (dT 0) (n, .inl f)).slots.size = n := arrV_size _ _ _
  have hnm : s.vm.findClass "[I" = some (dT 0) := (K.2 0 _ rfl).2
  obtain ⟨c0, t0', f1, f2, f3⟩ := Cond.castable_spec (va_Nw.use (A := args) rfl hcl)
  cases hnm.symm.trans f1
  intro T hT X1
  have hcellT : T.heap[B + i]? = some (vp_cell (dT 0) (n, .inl f)) := by rw [hT]; exact hok.2 i _ (mZ_at hw)
  obtain ⟨-, kA, hkA, comp, hkind⟩ := State.isArrayOf_alike X1.warmed.alike ((K.2 0 _ rfl).1 0 (fun _ => .null))
  obtain ⟨-, kS, hkS, compS, hkindS⟩ := (K.2 0 _ rfl).1 0 (fun _ => .null)
  obtain ⟨vm', X', st⟩ := X1.cloneArray hx hown (G _ hm rfl _) (G _ aw_cs rfl _) (G _ aw_cn rfl _) (G _ aw_ci rfl _) (G _ aw_cl rfl _) (a := B + i) (cell := vp_cell (dT 0) (n, .inl f)) hcellT (fun k h => by cases h) (fun h => by cases h) hnm f2 f3
    (fun i v hv => by
      have hk' : T.vm.classes[dT 0]? = some kA := hkA
      have hvi : ∃ z : Int32, v = .int z := by
        have hlt := (Array.getElem?_eq_some_iff.mp hv).1
        rw [hsz] at hlt
        rw [vp_cell_i, arrV_read _ _ hlt] at hv
        cases hv
        exact ⟨_, rfl⟩
      obtain ⟨z, rfl⟩ := hvi
      simp [State.fitsSlot, State.slotType?, vp_cell, arrV, hk', hkind, fits])
    (g := F0 m pc ls (.ref (B + i) :: rest)) rfl (by rw [hmL]; exact hml) rfl (by rw [hb]; exact hdg) hfr (by show 2 * 0 + _ + 14 ≤ _; omega) hcells (by rw [hsz]; exact hslots) (hloader := Vm.clonesLoader_of_array hkS hkindS)
  rw [show ({ cls := (vp_cell (dT 0) (n, .inl f)).cls, slots := (vp_cell (dT 0) (n, .inl f)).slots } : Cell) = vp_cell (dT 0) (n, .inl f) from rfl, hsz] at X'
  generalize hH1 : H.push (vp_cell (dT 0) (n, .inl f)) = H1
  have z1 : H1.size = H.size + 1 := by rw [← hH1, Array.size_push]
  have e1 : H1[B + w.length]? = some (vp_cell (dT 0) (n, .inl f)) := by rw [← hok.1, ← hH1, Array.getElem?_push_size]
  have o1 : ∀ q : Nat, q < H.size → H1[q]? = H[q]? := fun q hq => by rw [← hH1, Array.getElem?_push, if_neg (Nat.ne_of_lt hq)]
  obtain ⟨t, b1, b2⟩ := kk H1 (hok.push e1 z1 o1) (mS_push hS z1 o1) ((T.setVm vm').pushCell (vp_cell (dT 0) (n, .inl f))) (by rw [← hH1, ← hT]; rfl) X'
  refine ⟨t, st t ?_, b2⟩
  rw [hT, hok.1]
  exact b1
theorem r_copy (F : mFr p s m meth c mid B L xs X dT D) (hok : mOK B X dT D w H) (hS : va_S (fun q : Nat => B ≤ q) s.heap H locs) (hml : ls.size = pgL mid) {ix i d : Nat} {y : Nat} {b : Int} {ca cd ce : mE} {sp dp n : Int32} (hr : pgRs mid ix = some (12, y, b)) (ha : w[i]? = some ca) (hd : w[d]? = some cd) (hce : m_copy ca cd sp dp n = some ce) (hcat : (rest.map fun v => v.category).sum ≤ 8) (hfr : 1 ≤ R.frames) (hlo : 100 ≤ R.locals) (hdg : decode (pgB mid) pc = .ok (.invokestatic ix, 3))
    (kk : ∀ (H1 : Heap) (locs1 : List Loc), mOK B X dT D (w.set d ce) H1 → va_S (fun q : Nat => B ≤ q) s.heap H1 locs1 → m_sl (w.set d ce) = m_sl w → W p l e R s m args below meth c H1 locs1 cells slots Q (F0 m (pc + 3) ls rest)) : W p l e R s m args below meth c H locs cells slots Q (F0 m pc ls (.int n :: .int dp :: .ref (B + d) :: .int sp :: .ref (B + i) :: rest)) := by
  obtain ⟨hx, hb, hmL, -, -, hown, -, G, Nw, K, -⟩ := F
  obtain ⟨hm, hk⟩ := pgRs_ok hr
  simp only [pgW] at hm
  unfold m_copy at hce
  split at hce
  next t n0 f u n1 g =>
    split at hce
    next hc =>
      obtain ⟨rfl, rfl, h1, h2, h3, h4, h5⟩ := hc
      cases hce
      have nn : ∀ z : Int32, ¬ z < 0 → z.toInt = (z.toNatClampNeg : Int) := by
        intro z hz
        have hz0 : (0 : Int) ≤ z.toInt := by
          have := Int32.not_lt.mp hz
          simpa using Int32.le_iff_toInt_le.mp this
        show z.toInt = ((z.toInt.toNat : Nat) : Int)
        omega
      have hnw : nativeFrameWords "java/lang/System" "arraycopy" 5 ≤ 60 := by decide +kernel
      intro T hT X1
      have hc0 : H[B + i]? = some (vp_cell (dT 0) (n0, .inl f)) := hok.2 i _ (mZ_at ha)
      have hc1 : H[B + d]? = some (vp_cell (dT 0) (n1, .inl g)) := hok.2 d _ (mZ_at hd)
      obtain ⟨-, k0, hk0, cm0, hkk0⟩ := (K.2 0 _ rfl).1 n0 (fun j => .int (f j))
      obtain ⟨-, k1, hk1, cm1, hkk1⟩ := (K.2 0 _ rfl).1 n1 (fun j => .int (g j))
      obtain ⟨vm', X', step⟩ := X1.arraycopy hx hown (G _ hm rfl _) (G _ aw_an rfl _) (G _ aw_as rfl _) (G _ aw_ai rfl _) (src := B + i) (dst := B + d) (cs := vp_cell (dT 0) (n0, .inl f)) (cd := vp_cell (dT 0) (n1, .inl g)) (srcPos := sp) (destPos := dp) (n := n) (by rw [hT]; exact hc0) (by rw [hT]; exact hc1)
        (fun _ h => by cases h) (fun _ h => by cases h) (fun h => by cases h) (fun h => by cases h) hk0 hk1 hkk0 hkk1 (by simp [refKind]) h1 h2 h3
        (by rw [nn sp h1, nn n h3]; show ¬ _ > ((arrV (dT 0) n0 (fun j => .int (f j))).slots.size : Int); rw [arrV_size]; omega)
        (by rw [nn dp h2, nn n h3]; show ¬ _ > ((arrV (dT 0) n1 (fun j => .int (g j))).slots.size : Int); rw [arrV_size]; omega)
        (fun vm₁ _ i hi => by
          have e : (vp_cell (dT 0) (n0, .inl f)).slots.getD (sp.toNatClampNeg + i) .null = .int (f (sp.toNatClampNeg + i)) := by
            show (arrV (dT 0) n0 (fun j => .int (f j))).slots.getD _ _ = _
            rw [Array.getD_eq_getD_getElem?, arrV_read _ _ (by omega)]
            rfl
          refine ⟨?_, ?_⟩
          · rw [e]
            rfl
          · rw [e]
            exact trivial)
        (g := F0 m pc ls (.int n :: .int dp :: .ref (B + d) :: .int sp :: .ref (B + i) :: rest)) rfl (by rw [hmL]; exact hml) (rest := rest) rfl (by rw [hb]; exact hdg) hfr (by show 2 * 0 + _ + _ ≤ _; omega)
      have e1 : copied (vp_cell (dT 0) (n0, .inl f)) (vp_cell (dT 0) (n1, .inl g)) sp dp n = vp_cell (dT 0) (n1, .inl (va_cpy f g sp.toNatClampNeg dp.toNatClampNeg n.toNatClampNeg)) := va_copied (fun z => .int z) (dT 0) (dT 0) f g h4
      rw [e1] at X' step
      have hl : B + d < H.size := (Array.getElem?_eq_some_iff.mp hc1).1
      have hheap : ((T.setVm vm').setCell (B + d) (vp_cell (dT 0) (n1, .inl (va_cpy f g sp.toNatClampNeg dp.toNatClampNeg n.toNatClampNeg)))).heap = H.setIfInBounds (B + d) (vp_cell (dT 0) (n1, .inl (va_cpy f g sp.toNatClampNeg dp.toNatClampNeg n.toNatClampNeg))) := by rw [← hT]; rfl
      have oq : ∀ q : Nat, q ≠ B + d → (H.setIfInBounds (B + d) (vp_cell (dT 0) (n1, .inl (va_cpy f g sp.toNatClampNeg dp.toNatClampNeg n.toNatClampNeg))))[q]? = H[q]? := fun q hq => by simp [Array.getElem?_setIfInBounds, Ne.symm hq]
      obtain ⟨t, a1, b1⟩ := kk _ _ (hok.set hd (show (H.setIfInBounds (B + d) _)[B + d]? = some _ by simp [Array.getElem?_setIfInBounds, hl]) (by simp) oq) ⟨by simp; exact hS.1, fun q g1 g2 => by
          rw [oq q (fun e => g2 (by rw [e]; exact Nat.le_add_right B d))]
          exact hS.2.1 q g1 g2, fun q hq => by
          rcases List.mem_append.mp hq with h | h
          · exact hS.2.2 q h
          · obtain ⟨z, -, hz⟩ := List.mem_map.mp h
            rw [← hz]
            exact Nat.le_add_right B d⟩ (m_sl_set hd rfl) _ hheap X'
      exact ⟨t, step t a1, b1⟩
    next => cases hce
  next => cases hce
theorem r_gets (F : mFr p s m meth c mid B L xs X dT D) (hS : va_S (fun q : Nat => B ≤ q) s.heap H locs) {ix a : Nat} {b : Int} (hr : pgRs mid ix = some (2, a, b)) (hdg : decode (pgB mid) pc = .ok (.getstatic ix, 3))
    (kk : W p l e R s m args below meth c H locs cells slots Q (F0 m (pc + 3) ls (.ref (X a) :: rest))) : W p l e R s m args below meth c H locs cells slots Q (F0 m pc ls rest) := by
  obtain ⟨hx, hb, -, -, -, hown, -, G, Nw, K, E, -⟩ := F
  obtain ⟨hm, hk⟩ := pgRs_ok hr
  simp only [pgW, pgKd, Bool.and_eq_true] at hm hk
  exact va_gets hx hb (E.2.1 a (Nat.le_of_ble_eq_true hk.1) (Nat.le_of_ble_eq_true hk.2)) hS hown (G _ hm rfl _) (fun _ h => h) hdg kk
theorem r_getz (F : mFr p s m meth c mid B L xs X dT D) (hS : va_S (fun q : Nat => B ≤ q) s.heap H locs) {ix a : Nat} {b : Int} (hr : pgRs mid ix = some (3, a, b)) (hdg : decode (pgB mid) pc = .ok (.getstatic ix, 3))
    (kk : W p l e R s m args below meth c H locs cells slots Q (F0 m (pc + 3) ls (.int (Int32.ofInt b) :: rest))) : W p l e R s m args below meth c H locs cells slots Q (F0 m pc ls rest) := by
  obtain ⟨hx, hb, -, -, -, hown, -, G, Nw, K, E, -⟩ := F
  obtain ⟨hm, hk⟩ := pgRs_ok hr
  simp only [pgW, pgKd, decide_eq_true_eq] at hm hk
  subst hk
  exact va_gets hx hb E.2.2.1 hS hown (G _ hm rfl _) (fun _ h => h) hdg kk
end RW5
section RW5b
variable {p : Program} {l : Launch} {e : Env} {R : Room} {s : State} {m : MethodId} {args : Array Value} {below : List Frame} {meth : Method} {c : Code} {H : Heap} {locs : List Loc} {cells slots : Nat} {Q : State → Prop}
variable {pc : Nat} {ls : Array Slot} {B L mid : Nat} {xs : Nat → Int32} {X : Nat → Nat} {dT : Nat → ClassId} {D : va_G}
theorem r_math (F : mFr p s m meth c mid B L xs X dT D) {ix y : Nat} {b : Int} {st st' : List Value} (hr : pgRs mid ix = some (4, y, b)) (h : m_math y st = some st') (hls : ls.size = pgL mid) (hfr : 1 ≤ R.frames) (hlo : 100 ≤ R.locals) (hcells : cells + 0 ≤ R.cells) (hslots : slots + 0 ≤ R.slots) (hdg : decode (pgB mid) pc = .ok (.invokestatic ix, 3))
    (kk : W p l e R s m args below meth c H locs cells slots Q (F0 m (pc + 3) ls (st'.map (mv B X)))) : W p l e R s m args below meth c H locs cells slots Q (F0 m pc ls (st.map (mv B X))) := by
  obtain ⟨hx, hb, hmL, -, -, hown, -, G, Nw, K, -⟩ := F
  obtain ⟨hm, hk⟩ := pgRs_ok hr
  simp only [pgW] at hm
  have hwr : ∀ r : List Value, m_cat r ≤ 8 → ((r.map (mv B X)).map fun v => v.category).sum ≤ 8 := fun r h => by rw [m_cat_map]; exact h
  unfold m_math at h
  split at h
  next bb a r =>
    split at h
    next hc =>
      cases h
      have := hwr _ hc
      exact va_mmax hx hb (hmL.trans hls.symm) hown (G _ (by rw [aw_n261] at hm; exact hm) rfl _) (G _ aw_s261 rfl _) (G _ aw_im rfl _) (G _ aw_c261 rfl _) hfr (by omega) hcells hslots hdg kk
    next => cases h
  next bb a r =>
    split at h
    next hc =>
      cases h
      have := hwr _ hc
      exact va_mmin hx hb (hmL.trans hls.symm) hown (G _ (by rw [aw_n262] at hm; exact hm) rfl _) (G _ aw_s262 rfl _) (G _ aw_im rfl _) (G _ aw_c262 rfl _) hfr (by omega) hcells hslots hdg kk
    next => cases h
  next a r =>
    split at h
    next hc =>
      cases h
      have := hwr _ hc
      exact va_mabs hx hb (hmL.trans hls.symm) hown (G _ (by rw [aw_n260] at hm; exact hm) rfl _) (G _ aw_s260 rfl _) (G _ aw_im rfl _) (G _ aw_c260 rfl _) hfr (by omega) hcells hslots hdg kk
    next => cases h
  next bb a r =>
    split at h
    next hc =>
      cases h
      have := hwr _ hc
      exact va_mmin_long hx hb (hmL.trans hls.symm) hown (G _ (by rw [aw_n263] at hm; exact hm) rfl _) (G _ aw_s263 rfl _) (G _ aw_im rfl _) (G _ aw_c263 rfl _) hfr (by omega) hcells hslots hdg kk
    next => cases h
  next => cases h
end RW5b
end
section
/-! CALLS AND ENDS -/
def mWs (y : Nat) : List Cond := Cond.code (pgN y) (pgB y) (pgL y) (pgT y) :: lw_tbl.filter goodWord
def mQ (B : Nat) (X : Nat → Nat) (dT : Nat → ClassId) (D : va_G) (v : Option Value) (w : mWd) : Array Value → State → Outcome → State → Prop := fun _ st oc t => (oc = .returned (v.map (mv B X)) ∧ mOK B X dT D w t.heap) ∧ va_F (fun q : Nat => B ≤ q) st t
def mPc (B L : Nat) (xs : Nat → Int32) (X : Nat → Nat) (dT : Nat → ClassId) (D : va_G) (as : List Value) (w : mWd) : Array Value → State → Prop := va_Pc (as.map (mv B X)) (fun U => mOK B X dT D w U.heap ∧ mCtx B L xs X dT D U)
theorem mPc_blind {B L : Nat} {xs : Nat → Int32} {X : Nat → Nat} {dT : Nat → ClassId} {D : va_G} {as : List Value} {w : mWd} : FrameBlind (mPc B L xs X dT D as w) := by
  intro a U g mk h
  obtain ⟨h1, h2, h3⟩ := h
  exact ⟨h1, h2, h3.same (U := U.calling g mk a) rfl rfl⟩
theorem m_pop_ok : ∀ (n : Nat) (st acc as r : List Value), m_pop n st acc = some (as, r) → ∃ t : List Value, st = t ++ r ∧ as = t.reverse ++ acc ∧ t.length = n
  | 0, st, acc, as, r, h => by
    cases h
    exact ⟨[], rfl, rfl, rfl⟩
  | n + 1, [], acc, as, r, h => by cases h
  | n + 1, v :: st, acc, as, r, h => by
    obtain ⟨t, h1, h2, h3⟩ := m_pop_ok n st (v :: acc) as r h
    exact ⟨v :: t, by rw [h1]; rfl, by rw [h2]; simp, by rw [List.length_cons, h3]⟩
theorem m_pop_nil {n : Nat} {st as r : List Value} (h : m_pop n st [] = some (as, r)) : st = as.reverse ++ r ∧ as.length = n := by
  obtain ⟨t, h1, h2, h3⟩ := m_pop_ok n st [] as r h
  rw [List.append_nil] at h2
  subst h2
  exact ⟨by rw [List.reverse_reverse]; exact h1, by rw [List.length_reverse]; exact h3⟩
section RW6
variable {p : Program} {l : Launch} {e : Env} {R : Room} {s : State} {m : MethodId} {args : Array Value} {below : List Frame} {meth : Method} {c : Code} {H : Heap} {locs : List Loc} {cells slots : Nat} {Q : State → Prop}
variable {pc : Nat} {ls : Array Slot} {B L mid : Nat} {xs : Nat → Int32} {X : Nat → Nat} {dT : Nat → ClassId} {D : va_G} {w w1 : mWd} {rest : List Value} {rm : Room} {mc ms y ix : Nat} {b : Int} {as r : List Value} {v : Option Value}
theorem mWs_ok (F : mCtx B L xs X dT D s) (hy : y < 274 ∧ m_pl y = true) : ∀ w ∈ mWs y, ∀ (a' : Array Value) (U : State), s.WarmedH U.vm → w.before a' U = true := by
  intro w hw a' U hW
  obtain ⟨G, -⟩ := F
  rcases List.mem_cons.mp hw with rfl | hw
  · exact word_at hW (good_of_word rfl) (G _ (pgM_all hy).1 rfl #[])
  · obtain ⟨h1, h2⟩ := List.mem_filter.mp hw
    exact word_at hW (good_of_word h2) (G _ h1 h2 #[])
/-- behind a call -/
theorem m_after {st0 : List Value} {a : Array Value} (hr : va_Run p l e R s m args below meth c H locs cells slots mc ms (F0 m pc ls st0) (r.map (mv B X)) (mQ B X dT D v w1 a) (fun q : Nat => B ≤ q)) (hS : va_S (fun q : Nat => B ≤ q) s.heap H locs)
    (kk : ∀ (H1 : Heap) (locs1 : List Loc), mOK B X dT D w1 H1 → va_S (fun q : Nat => B ≤ q) s.heap H1 locs1 → W p l e R s m args below meth c H1 locs1 (cells + mc) (slots + ms) Q (F0 m (pc + 3) ls ((v.toList ++ r).map (mv B X)))) : W p l e R s m args below meth c H locs cells slots Q (F0 m pc ls st0) := by
  intro T hT X1
  obtain ⟨v1, st₀, t, T', L1, h0, X', hL, e1, e2, ⟨⟨hv, hok⟩, hz, hk⟩, st⟩ := hr T hT X1
  have hv1 : v1 = v.map (mv B X) := Outcome.returned.inj hv
  subst hv1
  rw [h0] at hz hk
  obtain ⟨t2, a1, b1⟩ := kk T'.heap (locs ++ L1) (by rw [e1]; exact hok)
    ⟨Nat.le_trans hS.1 (by rw [e1]; exact hz), fun q h1 h2 => by rw [e1, hk q (Nat.lt_of_lt_of_le h1 hS.1) h2]; exact hS.2.1 q h1 h2, fun q hq => by
      rcases List.mem_append.mp hq with h | h
      · exact hS.2.2 q h
      · exact hL q h⟩ T' rfl X'
  refine ⟨t2, st t2 ?_, b1⟩
  have e3 : (v.toList ++ r).map (mv B X) = (v.map (mv B X)).toList ++ r.map (mv B X) := by
    rw [List.map_append]
    cases v <;> rfl
  rw [e3] at a1
  exact a1
def mCallOK (p : Program) (l : Launch) (e : Env) (R : Room) (s : State) (m : MethodId) (args : Array Value) (below : List Frame) (meth : Method) (c : Code) (H : Heap) (locs : List Loc) (cells slots : Nat) (Q : State → Prop) (pc : Nat) (ls : Array Slot) (B L : Nat) (xs : Nat → Int32) (X : Nat → Nat) (dT : Nat → ClassId) (D : va_G) (w : mWd) (y : Nat) (as r st : List Value) : Prop :=
  ∀ (rm : Room) (mc ms : Nat) (v : Option Value) (w1 : mWd), Met l (pgN y) (mWs y) rm (mPc B L xs X dT D as w) (mQ B X dT D v w1) mc ms (fun q : Nat => B ≤ q) → rm.cells = mc → rm.slots = ms → rm.frames + 1 ≤ R.frames → 8 + (pgL y + 11) + rm.locals ≤ R.locals → cells + mc ≤ R.cells → slots + ms ≤ R.slots →
    (∀ (H1 : Heap) (locs1 : List Loc), mOK B X dT D w1 H1 → va_S (fun q : Nat => B ≤ q) s.heap H1 locs1 → W p l e R s m args below meth c H1 locs1 (cells + mc) (slots + ms) Q (F0 m (pc + 3) ls ((v.toList ++ r).map (mv B X)))) → W p l e R s m args below meth c H locs cells slots Q (F0 m pc ls (st.map (mv B X)))
theorem m_fix (F : mFr p s m meth c mid B L xs X dT D) : CallFix p m c (pgB mid) (pgL mid) s args (lw_tbl.filter goodWord) (pgO.getD (pgOw mid) "") := by
  obtain ⟨hx, hb, hml, -, -, hown, -, G, -⟩ := F
  exact ⟨hx, hb, hml, hown, fun w hw => by
    obtain ⟨h1, h2⟩ := List.mem_filter.mp hw
    exact G _ h1 h2 _⟩
theorem m_pcs (F : mFr p s m meth c mid B L xs X dT D) (hok : mOK B X dT D w H) (hS : va_S (fun q : Nat => B ≤ q) s.heap H locs) : ∀ U : State, U.heap = H → s.WarmedH U.vm → mPc B L xs X dT D as w (as.map (mv B X)).toArray U := by
  intro U hU hW
  exact ⟨rfl, by rw [hU]; exact hok, F.2.2.2.2.2.2.2.move hW (by rw [hU]; exact hS)⟩
theorem m_len_of (hy : y < 274 ∧ m_pl y = true) {n : Nat} (hn : n = pgA y) : ∀ sig, parseMethodDescriptor (pgN y).desc = some sig → n = sig.parameters.length := by
  intro sig h
  have h2 := (pgM_all hy).2.2.2.2.2.1.2.2
  rw [h] at h2
  rw [hn]
  exact (Option.some.inj h2).symm
theorem m_callS (F : mFr p s m meth c mid B L xs X dT D) (hok : mOK B X dT D w H) (hS : va_S (fun q : Nat => B ≤ q) s.heap H locs) (hls : ls.size = pgL mid) {st : List Value} (hr : pgRs mid ix = some (4, y, b) ∨ pgRs mid ix = some (5, y, b)) (hpop : m_pop (pgA y) st [] = some (as, r)) (hcat : m_cat r ≤ 8) (hpl : m_pl y = true) (hdg : decode (pgB mid) pc = .ok (.invokestatic ix, 3)) :
    mCallOK p l e R s m args below meth c H locs cells slots Q pc ls B L xs X dT D w y as r st := by
  intro rm mc ms v w1 hM hrc hrs hfr hlo hce hsl kk
  have hC := F.2.2.2.2.2.2.2
  obtain ⟨hst, hn⟩ := m_pop_nil hpop
  have hwr : ((r.map (mv B X)).map fun v => v.category).sum ≤ 8 := by rw [m_cat_map]; exact hcat
  have hstk : st.map (mv B X) = (as.map (mv B X)).reverse ++ r.map (mv B X) := by rw [hst, List.map_append, List.map_reverse]
  rcases hr with hr | hr
  · obtain ⟨hm, hk⟩ := pgRs_ok hr
    simp only [pgW, pgKd, Bool.and_eq_true] at hm hk
    have hy : y < 274 ∧ m_pl y = true := ⟨Nat.le_of_ble_eq_true hk.1, hpl⟩
    obtain ⟨a1, a2, a3, a4, a5, a6, a7, a8, a9⟩ := pgM_all hy
    exact m_after (va_runS (As := as.map (mv B X)) (n := pgA y) (rest := r.map (mv B X)) (m_fix F) hM ⟨⟨hrc, hrs, hfr, hlo, mWs_ok hC hy, List.mem_cons_self, hC.1 _ a1 rfl _, hC.1 _ a2 rfl _, ⟨a6.1, a6.2.1⟩, m_len_of hy rfl, hC.1 _ hm rfl _⟩, hC.1 _ (a3 hk.2) rfl _⟩ ⟨mPc_blind, m_pcs F hok hS⟩ rfl (by rw [List.length_map]; exact hn) hls hstk (lv_room hwr) hdg ⟨hce, hsl⟩) hS kk
  · obtain ⟨hm, hk⟩ := pgRs_ok hr
    simp only [pgW, pgKd, Bool.and_eq_true] at hm hk
    have hy : y < 274 ∧ m_pl y = true := ⟨Nat.le_of_ble_eq_true hk.1, hpl⟩
    obtain ⟨a1, a2, a3, a4, a5, a6, a7, a8, a9⟩ := pgM_all hy
    exact m_after (va_runSN (As := as.map (mv B X)) (n := pgA y) (rest := r.map (mv B X)) (m_fix F) hM ⟨⟨⟨hrc, hrs, hfr, hlo, mWs_ok hC hy, List.mem_cons_self⟩, hC.1 _ a1 rfl _, hC.1 _ a2 rfl _, ⟨a6.1, a6.2.1⟩, m_len_of hy rfl, va_Nw.use rfl (hC.2.1 _ hm rfl)⟩, hC.1 _ (a3 hk.2) rfl _, trivial⟩ ⟨mPc_blind, m_pcs F hok hS⟩ rfl (by rw [List.length_map]; exact hn) hls hstk (lv_room hwr) hdg ⟨hce, hsl⟩) hS kk
theorem pgO_cl {cj : Nat} {C : String} {T : u_T} {N : Nat} (h : vwCl[cj]? = some (C, T, N)) : pgO.getD cj "" = C := by
  have hi : cj < 13 := (List.getElem?_eq_some_iff.mp h).1
  rcases (by omega : cj = 0 ∨ cj = 1 ∨ cj = 2 ∨ cj = 3 ∨ cj = 4 ∨ cj = 5 ∨ cj = 6 ∨ cj = 7 ∨ cj = 8 ∨ cj = 9 ∨ cj = 10 ∨ cj = 11 ∨ cj = 12) with e | e | e | e | e | e | e | e | e | e | e | e | e <;> subst e <;> cases h <;> rfl
theorem m_recv (F : mFr p s m meth c mid B L xs X dT D) (hok : mOK B X dT D w H) (hS : va_S (fun q : Nat => B ≤ q) s.heap H locs) (hy : y < 274 ∧ m_pl y = true) {v0 : Value} (h : m_rcv y v0 w = true) : ∃ a : Nat, mv B X v0 = .ref a ∧ ∃ cell : Cell, H[a]? = some cell ∧ cell.vm.isStatics = false ∧ s.vm.findClass (pgN y).cls = some cell.cls := by
  obtain ⟨-, -, -, -, -, -, -, G, Nw, K, E, -⟩ := F
  have ho := (pgM_all hy).2.2.2.2.2.2.2.1
  unfold m_rcv at h
  split at h
  next i =>
    split at h
    next cj fs hw =>
      rw [Bool.and_eq_true] at h
      have hj := Nat.eq_of_beq_eq_true h.1
      have hlt : cj < 13 := Nat.le_of_ble_eq_true h.2
      cases hc : vwCl[cj]? with
      | none =>
        rw [List.getElem?_eq_none_iff] at hc
        exact absurd hlt (by have : vwCl.length = 13 := rfl; omega)
      | some q =>
        obtain ⟨C, T, N⟩ := q
        refine ⟨B + i, rfl, ?_⟩
        obtain ⟨cell, g1, g2, g3⟩ := va_recv K hok.2 hc (mZ_at hw)
        rw [← ho, hj, pgO_cl hc]
        exact ⟨cell, g1, g2, g3⟩
    next => cases h
  next k =>
    rw [Bool.and_eq_true] at h
    have hk := Nat.eq_of_beq_eq_true h.1
    have hj := Nat.eq_of_beq_eq_true h.2
    subst hk
    obtain ⟨cell, g1, g2, g3, g4⟩ := E.2.2.2.1
    refine ⟨X 4, rfl, cell, ?_, g2, ?_⟩
    · rw [hS.2.1 _ (Array.getElem?_eq_some_iff.mp g1).1 g4]
      exact g1
    · rw [← ho, hj]
      exact g3
  next => cases h
theorem m_callV (F : mFr p s m meth c mid B L xs X dT D) (hok : mOK B X dT D w H) (hS : va_S (fun q : Nat => B ≤ q) s.heap H locs) (hls : ls.size = pgL mid) {st : List Value} {v0 : Value} (hr : pgRs mid ix = some (6, y, b) ∨ pgRs mid ix = some (7, y, b)) (hpop : m_pop (pgA y) st [] = some (as, v0 :: r)) (hrcv : m_rcv y v0 w = true) (hcat : m_cat r ≤ 8) (hpl : m_pl y = true) (hdg : decode (pgB mid) pc = .ok (.invokevirtual ix, 3)) :
    mCallOK p l e R s m args below meth c H locs cells slots Q pc ls B L xs X dT D w y (v0 :: as) r st := by
  intro rm mc ms v w1 hM hrc hrs hfr hlo hce hsl kk
  have hC := F.2.2.2.2.2.2.2
  obtain ⟨hst, hn⟩ := m_pop_nil hpop
  have hwr : ((r.map (mv B X)).map fun v => v.category).sum ≤ 8 := by rw [m_cat_map]; exact hcat
  have hpcs := m_pcs (as := v0 :: as) F hok hS
  rcases hr with hr | hr
  · obtain ⟨hm, hk⟩ := pgRs_ok hr
    simp only [pgW, pgKd, Bool.and_eq_true, Bool.not_eq_true', decide_eq_false_iff_not] at hm hk
    have hy : y < 274 ∧ m_pl y = true := ⟨Nat.le_of_ble_eq_true hk.1.1, hpl⟩
    obtain ⟨a1, a2, a3, a4, a5, a6, a7, a8, a9⟩ := pgM_all hy
    obtain ⟨a, ha, hcell⟩ := m_recv F hok hS hy hrcv
    have hstk : st.map (mv B X) = (as.map (mv B X)).reverse ++ .ref a :: r.map (mv B X) := by rw [hst, List.map_append, List.map_reverse, List.map_cons, ha]
    rw [List.map_cons, ha] at hpcs
    exact m_after (va_runV (As := as.map (mv B X)) (n := pgA y) (rest := r.map (mv B X)) (C := (pgN y).cls) (m_fix F) hM ⟨⟨hrc, hrs, hfr, hlo, mWs_ok hC hy, List.mem_cons_self, hC.1 _ a1 rfl _, hC.1 _ a2 rfl _, ⟨a6.1, a6.2.1⟩, m_len_of hy rfl, hC.1 _ hm rfl _⟩, hC.1 _ (a4 hk.1.2) rfl _, hC.1 _ (a5 hk.1.2 hk.2) rfl _⟩ ⟨mPc_blind, hcell, hpcs⟩ rfl (by rw [List.length_map]; exact hn) hls hstk (lv_room hwr) hdg ⟨hce, hsl⟩) hS kk
  · obtain ⟨hm, hk⟩ := pgRs_ok hr
    simp only [pgW, pgKd, Bool.and_eq_true, Bool.not_eq_true', decide_eq_false_iff_not] at hm hk
    have hy : y < 274 ∧ m_pl y = true := ⟨Nat.le_of_ble_eq_true hk.1.1, hpl⟩
    obtain ⟨a1, a2, a3, a4, a5, a6, a7, a8, a9⟩ := pgM_all hy
    obtain ⟨a, ha, hcell⟩ := m_recv F hok hS hy hrcv
    have hstk : st.map (mv B X) = (as.map (mv B X)).reverse ++ .ref a :: r.map (mv B X) := by rw [hst, List.map_append, List.map_reverse, List.map_cons, ha]
    rw [List.map_cons, ha] at hpcs
    exact m_after (va_runVN (As := as.map (mv B X)) (n := pgA y) (rest := r.map (mv B X)) (C := (pgN y).cls) (m_fix F) hM ⟨⟨⟨hrc, hrs, hfr, hlo, mWs_ok hC hy, List.mem_cons_self⟩, hC.1 _ a1 rfl _, hC.1 _ a2 rfl _, ⟨a6.1, a6.2.1⟩, m_len_of hy rfl, va_Nw.use rfl (hC.2.1 _ hm rfl)⟩, hC.1 _ (a4 hk.1.2) rfl _, hC.1 _ (a5 hk.1.2 hk.2) rfl _⟩ ⟨mPc_blind, hcell, hpcs⟩ rfl (by rw [List.length_map]; exact hn) hls hstk (lv_room hwr) hdg ⟨hce, hsl⟩) hS kk
theorem m_callI (F : mFr p s m meth c mid B L xs X dT D) (hok : mOK B X dT D w H) (hS : va_S (fun q : Nat => B ≤ q) s.heap H locs) (hls : ls.size = pgL mid) {st : List Value} {i : Nat} (hr : pgRs mid ix = some (8, y, b) ∨ pgRs mid ix = some (9, y, b)) (hpop : m_pop (pgA y) st [] = some (as, .ref i :: r)) (hcat : m_cat r ≤ 8) (hpl : m_pl y = true) (hdg : decode (pgB mid) pc = .ok (.invokespecial ix, 3)) :
    mCallOK p l e R s m args below meth c H locs cells slots Q pc ls B L xs X dT D w y (.ref i :: as) r st := by
  intro rm mc ms v w1 hM hrc hrs hfr hlo hce hsl kk
  have hC := F.2.2.2.2.2.2.2
  obtain ⟨hst, hn⟩ := m_pop_nil hpop
  have hwr : ((r.map (mv B X)).map fun v => v.category).sum ≤ 8 := by rw [m_cat_map]; exact hcat
  have hpcs := m_pcs (as := .ref i :: as) F hok hS
  have hstk : st.map (mv B X) = (as.map (mv B X)).reverse ++ .ref (B + i) :: r.map (mv B X) := by rw [hst, List.map_append, List.map_reverse, List.map_cons]; rfl
  rcases hr with hr | hr
  · obtain ⟨hm, hk⟩ := pgRs_ok hr
    simp only [pgW, pgKd, Bool.and_eq_true, Bool.not_eq_true', decide_eq_true_eq] at hm hk
    have hy : y < 274 ∧ m_pl y = true := ⟨Nat.le_of_ble_eq_true hk.1.1.1, hpl⟩
    obtain ⟨a1, a2, a3, a4, a5, a6, a7, a8, a9⟩ := pgM_all hy
    rw [hk.2] at a1
    exact m_after (va_runI (As := as.map (mv B X)) (n := pgA y) (rest := r.map (mv B X)) (b := B + i) (bytes := pgB y) (maxL := pgL y) (m_fix F) hM ⟨⟨hrc, hrs, hfr, hlo, mWs_ok hC hy, by rw [← hk.2]; exact List.mem_cons_self, hC.1 _ a1 rfl _, hC.1 _ a2 rfl _, ⟨a6.1, a6.2.1⟩, m_len_of hy rfl, hC.1 _ hm rfl _⟩, hk.1.2, hC.1 _ (a4 hk.1.1.2) rfl _⟩ ⟨mPc_blind, hpcs⟩ rfl (by rw [List.length_map]; exact hn) hls hstk (lv_room hwr) hdg ⟨hce, hsl⟩) hS kk
  · obtain ⟨hm, hk⟩ := pgRs_ok hr
    simp only [pgW, pgKd, Bool.and_eq_true, Bool.not_eq_true', decide_eq_true_eq] at hm hk
    have hy : y < 274 ∧ m_pl y = true := ⟨Nat.le_of_ble_eq_true hk.1.1.1, hpl⟩
    obtain ⟨a1, a2, a3, a4, a5, a6, a7, a8, a9⟩ := pgM_all hy
    rw [hk.2] at a1
    exact m_after (va_runIN (As := as.map (mv B X)) (n := pgA y) (rest := r.map (mv B X)) (b := B + i) (bytes := pgB y) (maxL := pgL y) (m_fix F) hM ⟨⟨⟨hrc, hrs, hfr, hlo, mWs_ok hC hy, by rw [← hk.2]; exact List.mem_cons_self⟩, hC.1 _ a1 rfl _, hC.1 _ a2 rfl _, ⟨a6.1, a6.2.1⟩, m_len_of hy rfl, va_Nw.use rfl (hC.2.1 _ hm rfl)⟩, hk.1.2, hC.1 _ (a4 hk.1.1.2) rfl _⟩ ⟨mPc_blind, hpcs⟩ rfl (by rw [List.length_map]; exact hn) hls hstk (lv_room hwr) hdg ⟨hce, hsl⟩) hS kk
theorem m_retI (F : mFr p s m meth c mid B L xs X dT D) (hok : mOK B X dT D w H) (hS : va_S (fun q : Nat => B ≤ q) s.heap H locs) {o : Nat} {ins : Instr} {st : List Value} (ho : (o = 0 ∧ ins = .ireturn) ∨ (o = 1 ∧ ins = .lreturn) ∨ (o = 2 ∧ ins = .areturn) ∨ (o = 3 ∧ ins = .return_)) (h : m_ret (pgT mid) o st = some v) (hdg : decode (pgB mid) pc = .ok (ins, 1)) :
    W p l e R s m args below meth c H locs cells slots (MQ below (mQ B X dT D v w) args s cells slots (fun q : Nat => B ≤ q)) (F0 m pc ls (st.map (mv B X))) := by
  obtain ⟨hx, hb, -, hrt, hlk, -⟩ := F
  have hq : ∀ (v1 : Option Value), v1 = v.map (mv B X) → ∀ t : State, t.heap = H → s.WarmedH t.vm → mQ B X dT D v w args s (.returned v1) t := fun v1 hv1 t ht hW => ⟨⟨by rw [hv1], by rw [ht]; exact hok⟩, hS.F ht⟩
  unfold m_ret at h
  split at h
  next x hty =>
    cases h
    rcases ho with ⟨-, rfl⟩ | ⟨hz, -⟩ | ⟨hz, -⟩ | ⟨hz, -⟩ <;> first | (cases hz; done) | skip
    exact W.iret hx hb (hrt.trans hty) (hq _ rfl) hS.2.2 hdg hlk
  next x hty =>
    split at h
    next hc =>
      cases h
      rcases ho with ⟨-, rfl⟩ | ⟨hz, -⟩ | ⟨hz, -⟩ | ⟨hz, -⟩ <;> first | (cases hz; done) | skip
      exact W.zret (v := x) hx hb (hrt.trans hty) (by rcases hc with rfl | rfl <;> rfl) (hq _ rfl) hS.2.2 hdg hlk
    next => cases h
  next x hty =>
    split at h
    next hc =>
      cases h
      rcases ho with ⟨-, rfl⟩ | ⟨hz, -⟩ | ⟨hz, -⟩ | ⟨hz, -⟩ <;> first | (cases hz; done) | skip
      exact W.zret (v := x) hx hb (hrt.trans hty) (by rw [hc]; rfl) (hq _ rfl) hS.2.2 hdg hlk
    next => cases h
  next x hty =>
    cases h
    rcases ho with ⟨hz, -⟩ | ⟨-, rfl⟩ | ⟨hz, -⟩ | ⟨hz, -⟩ <;> first | (cases hz; done) | skip
    exact W.lret hx hb (hrt.trans hty) (hq _ rfl) hS.2.2 hdg hlk
  next i n hty =>
    cases h
    rcases ho with ⟨hz, -⟩ | ⟨hz, -⟩ | ⟨-, rfl⟩ | ⟨hz, -⟩ <;> first | (cases hz; done) | skip
    exact W.aret (v := .ref (B + i)) hx hb (hrt.trans hty) (Or.inl ⟨_, rfl⟩) (Or.inr ⟨_, rfl⟩) (hq _ rfl) hS.2.2 hdg hlk
  next n hty =>
    cases h
    rcases ho with ⟨hz, -⟩ | ⟨hz, -⟩ | ⟨-, rfl⟩ | ⟨hz, -⟩ <;> first | (cases hz; done) | skip
    exact W.aret (v := .null) hx hb (hrt.trans hty) (Or.inl ⟨_, rfl⟩) (Or.inl rfl) (hq _ rfl) hS.2.2 hdg hlk
  next i n hty =>
    cases h
    rcases ho with ⟨hz, -⟩ | ⟨hz, -⟩ | ⟨-, rfl⟩ | ⟨hz, -⟩ <;> first | (cases hz; done) | skip
    exact W.aret (v := .ref (B + i)) hx hb (hrt.trans hty) (Or.inr ⟨_, rfl⟩) (Or.inr ⟨_, rfl⟩) (hq _ rfl) hS.2.2 hdg hlk
  next hty =>
    cases h
    rcases ho with ⟨hz, -⟩ | ⟨hz, -⟩ | ⟨hz, -⟩ | ⟨-, rfl⟩ <;> first | (cases hz; done) | skip
    exact W.vret hx hb (hrt.trans hty) (hq _ rfl) hS.2.2 hdg hlk
  next => cases h
end RW6
end
section
/-! EACH STEP -/
def mNext (B L : Nat) (xs : Nat → Int32) (X : Nat → Nat) (dT : Nat → ClassId) (D : va_G) (mid pc : Nat) (lv : mL) (st : List Value) (w : mWd) (pc' : Nat) (lv' : mL) (st' : List Value) (w1 : mWd) : Prop :=
  ∃ dc ds : Nat, w1.length = w.length + dc ∧ m_sl w1 = m_sl w + ds ∧ ∀ (p : Program) (l : Launch) (e : Env) (R : Room) (s : State) (m : MethodId) (args : Array Value) (below : List Frame) (meth : Method) (c : Code) (H : Heap) (locs : List Loc) (cells slots : Nat) (Q : State → Prop) (ls : Array Slot),
    mFr p s m meth c mid B L xs X dT D → 1 ≤ R.frames → 100 ≤ R.locals → cells + dc ≤ R.cells → slots + ds ≤ R.slots → mOK B X dT D w H → va_S (fun q : Nat => B ≤ q) s.heap H locs → lv_has ls (pgL mid) (mlv B X lv) →
    (∀ (H1 : Heap) (locs1 : List Loc) (ls1 : Array Slot), mOK B X dT D w1 H1 → va_S (fun q : Nat => B ≤ q) s.heap H1 locs1 → lv_has ls1 (pgL mid) (mlv B X lv') → W p l e R s m args below meth c H1 locs1 (cells + dc) (slots + ds) Q (F0 m pc' ls1 (st'.map (mv B X)))) → W p l e R s m args below meth c H locs cells slots Q (F0 m pc ls (st.map (mv B X)))
section NX
variable {pc n : Nat} {B L mid : Nat} {xs : Nat → Int32} {X : Nat → Nat} {dT : Nat → ClassId} {D : va_G} {w w1 : mWd} {lv lv' : mL} {st st' : List Value} {pc' ix : Nat}
theorem mn_pure {ins : Instr} (hdg : decode (pgB mid) pc = .ok (ins, m_len ins n)) (h : (match m_pure (pgL mid) ins pc lv st with | some (pc', l', st') => mNx pc' l' st' w | none => none) = some (.inl (pc', lv', st', w1))) : mNext B L xs X dT D mid pc lv st w pc' lv' st' w1 := by
  split at h
  next q1 q2 q3 hq =>
    cases h
    exact ⟨0, 0, rfl, rfl, fun p l e R s m args below meth c H locs cells slots Q ls F _ _ _ _ hok hS hl kk => m_pure_ok F.1 F.2.1 hdg hl hq (fun ls1 h1 => kk H locs ls1 hok hS h1)⟩
  next => cases h
theorem mn_getf {ci i : Nat} {k : Int} {r : List Value} (hr : pgRs mid ix = some (0, ci, k) ∨ pgRs mid ix = some (1, ci, k)) (hdg : decode (pgB mid) pc = .ok (.getfield ix, 3)) (h : m_getf ci k.toNat i pc lv r w = some (.inl (pc', lv', st', w1))) : mNext B L xs X dT D mid pc lv (.ref i :: r) w pc' lv' st' w1 := by
  unfold m_getf at h
  split at h
  next cj fs hw =>
    split at h
    next hc =>
      subst hc
      split at h
      next v hv =>
        cases h
        exact ⟨0, 0, rfl, rfl, fun p l e R s m args below meth c H locs cells slots Q ls F _ _ _ _ hok hS hl kk => r_getf F hok hr hw hv hdg (kk H locs ls hok hS hl)⟩
      next => cases h
    next => cases h
  next => cases h
theorem mn_getfield (hdg : decode (pgB mid) pc = .ok (.getfield ix, 3)) (h : m_step L xs mid pc lv st w (.getfield ix) = some (.inl (pc', lv', st', w1))) : mNext B L xs X dT D mid pc lv st w pc' lv' st' w1 := by
  simp only [m_step] at h
  split at h
  next ci k i r hr => exact mn_getf (Or.inl hr) hdg h
  next ci k i r hr => exact mn_getf (Or.inr hr) hdg h
  next a b r hr =>
    cases h
    exact ⟨0, 0, rfl, rfl, fun p l e R s m args below meth c H locs cells slots Q ls F _ _ _ _ hok hS hl kk => by
      obtain ⟨hm, -⟩ := pgRs_ok hr
      simp only [pgW] at hm
      have F' := F
      obtain ⟨hx, hb, -, -, -, hown, -, G, Nw, K, E, -⟩ := F'
      exact vk_getf hx hb E.2.2.2.2.2 hS hown (G _ hm rfl _) (fun _ h => h) hdg (kk H locs ls hok hS hl)⟩
  next a b r hr =>
    cases h
    exact ⟨0, 0, rfl, rfl, fun p l e R s m args below meth c H locs cells slots Q ls F _ _ _ _ hok hS hl kk => by
      obtain ⟨hm, -⟩ := pgRs_ok hr
      simp only [pgW] at hm
      have F' := F
      obtain ⟨hx, hb, -, -, -, hown, -, G, Nw, K, E, -⟩ := F'
      exact vk_getf hx hb E.2.2.2.2.1 hS hown (G _ hm rfl _) (fun _ h => h) hdg (kk H locs ls hok hS hl)⟩
  next => cases h
theorem mn_putf {ci i : Nat} {k : Int} {v : Value} {r : List Value} (nest : Bool) (hr : pgRs mid ix = some (if nest = true then 1 else 0, ci, k)) (hdg : decode (pgB mid) pc = .ok (.putfield ix, 3)) (h : m_putf (m_may mid ci k.toNat nest) ci k.toNat i v (m_fty ci k.toNat) pc lv r w = some (.inl (pc', lv', st', w1))) : mNext B L xs X dT D mid pc lv (v :: .ref i :: r) w pc' lv' st' w1 := by
  unfold m_putf at h
  split at h
  next cj fs hw =>
    split at h
    next hc =>
      obtain ⟨rfl, hmay, hfit, hl⟩ := hc
      cases h
      refine ⟨0, 0, by rw [List.length_set]; rfl, m_sl_set hw (by show (fs.set _ _).length = fs.length; rw [List.length_set]), fun p l e R s m args below meth c H locs cells slots Q ls F _ _ _ _ hok hS hlv kk => r_putf F hok hS hr hw hmay hfit hl hdg (fun H1 locs1 h1 h2 => kk H1 locs1 ls h1 h2 hlv)⟩
    next => cases h
  next => cases h
theorem mn_putfield (hdg : decode (pgB mid) pc = .ok (.putfield ix, 3)) (h : m_step L xs mid pc lv st w (.putfield ix) = some (.inl (pc', lv', st', w1))) : mNext B L xs X dT D mid pc lv st w pc' lv' st' w1 := by
  simp only [m_step] at h
  split at h
  next ci k v i r hr => exact mn_putf false hr hdg h
  next ci k v i r hr => exact mn_putf true hr hdg h
  next => cases h
theorem mn_getstatic (hdg : decode (pgB mid) pc = .ok (.getstatic ix, 3)) (h : m_step L xs mid pc lv st w (.getstatic ix) = some (.inl (pc', lv', st', w1))) : mNext B L xs X dT D mid pc lv st w pc' lv' st' w1 := by
  simp only [m_step] at h
  split at h
  next a b hr =>
    cases h
    exact ⟨0, 0, rfl, rfl, fun p l e R s m args below meth c H locs cells slots Q ls F _ _ _ _ hok hS hl kk => r_gets F hS hr hdg (kk H locs ls hok hS hl)⟩
  next a b hr =>
    cases h
    exact ⟨0, 0, rfl, rfl, fun p l e R s m args below meth c H locs cells slots Q ls F _ _ _ _ hok hS hl kk => r_getz F hS hr hdg (kk H locs ls hok hS hl)⟩
  next => cases h
theorem mn_ldc (hdg : decode (pgB mid) pc = .ok (.ldc ix, 2)) (h : m_step L xs mid pc lv st w (.ldc ix) = some (.inl (pc', lv', st', w1))) : mNext B L xs X dT D mid pc lv st w pc' lv' st' w1 := by
  simp only [m_step] at h
  split at h
  next a b hr =>
    cases h
    exact ⟨0, 0, rfl, rfl, fun p l e R s m args below meth c H locs cells slots Q ls F _ _ _ _ hok hS hl kk => by
      obtain ⟨hm, -⟩ := pgRs_ok hr
      simp only [pgW] at hm
      have F' := F
      obtain ⟨hx, hb, -, -, -, hown, -, G, -⟩ := F'
      exact lv_ldc hx hb hown (G _ hm rfl _) hdg (kk H locs ls hok hS hl)⟩
  next a b hr =>
    cases h
    exact ⟨0, 0, rfl, rfl, fun p l e R s m args below meth c H locs cells slots Q ls F _ _ _ _ hok hS hl kk => by
      obtain ⟨hm, hk⟩ := pgRs_ok hr
      simp only [pgW, pgKd] at hm hk
      have ha := Nat.eq_of_beq_eq_true hk
      subst ha
      have F' := F
      obtain ⟨hx, hb, -, -, -, hown, -, G, Nw, K, E, -, -, -, -, hR⟩ := F'
      obtain ⟨e1, e2⟩ := aw_str _ _ hm
      rw [e1] at hown
      subst e2
      exact va_ldcS hx hb hown hR hdg (kk H locs ls hok hS hl)⟩
  next => cases h
theorem mn_ldc_w (hdg : decode (pgB mid) pc = .ok (.ldc_w ix, 3)) (h : m_step L xs mid pc lv st w (.ldc_w ix) = some (.inl (pc', lv', st', w1))) : mNext B L xs X dT D mid pc lv st w pc' lv' st' w1 := by
  simp only [m_step] at h
  split at h
  next a b hr =>
    cases h
    exact ⟨0, 0, rfl, rfl, fun p l e R s m args below meth c H locs cells slots Q ls F _ _ _ _ hok hS hl kk => by
      obtain ⟨hm, -⟩ := pgRs_ok hr
      simp only [pgW] at hm
      have F' := F
      obtain ⟨hx, hb, -, -, -, hown, -, G, -⟩ := F'
      exact lv_ldcw hx hb hown (G _ hm rfl _) hdg (kk H locs ls hok hS hl)⟩
  next => cases h
theorem mn_ldc2_w (hdg : decode (pgB mid) pc = .ok (.ldc2_w ix, 3)) (h : m_step L xs mid pc lv st w (.ldc2_w ix) = some (.inl (pc', lv', st', w1))) : mNext B L xs X dT D mid pc lv st w pc' lv' st' w1 := by
  simp only [m_step] at h
  split at h
  next a b hr =>
    cases h
    exact ⟨0, 0, rfl, rfl, fun p l e R s m args below meth c H locs cells slots Q ls F _ _ _ _ hok hS hl kk => by
      obtain ⟨hm, -⟩ := pgRs_ok hr
      simp only [pgW] at hm
      have F' := F
      obtain ⟨hx, hb, -, -, -, hown, -, G, -⟩ := F'
      exact lv_ldc2 hx hb hown (G _ hm rfl _) hdg (kk H locs ls hok hS hl)⟩
  next => cases h
theorem mn_ald {o i : Nat} {j : Int32} {r : List Value} {ins : Instr} (ho : (o = 0 ∧ ins = .iaload) ∨ (o = 1 ∧ ins = .baload) ∨ (o = 2 ∧ ins = .laload) ∨ (o = 3 ∧ ins = .aaload)) (hdg : decode (pgB mid) pc = .ok (ins, 1)) (h : (match m_ald o i j w with | some v => mNx (pc + 1) lv (v :: r) w | none => none) = some (.inl (pc', lv', st', w1))) : mNext B L xs X dT D mid pc lv (.int j :: .ref i :: r) w pc' lv' st' w1 := by
  split at h
  next v hv =>
    cases h
    exact ⟨0, 0, rfl, rfl, fun p l e R s m args below meth c H locs cells slots Q ls F _ _ _ _ hok hS hl kk => r_ald F hok ho hv hdg (kk H locs ls hok hS hl)⟩
  next => cases h
theorem mn_xld {o k : Nat} {j : Int32} {r : List Value} {ins : Instr} (ho : (o = 0 ∧ ins = .iaload) ∨ (o = 1 ∧ ins = .baload)) (hdg : decode (pgB mid) pc = .ok (ins, 1)) (h : (match m_xld L xs o k j with | some v => mNx (pc + 1) lv (v :: r) w | none => none) = some (.inl (pc', lv', st', w1))) : mNext B L xs X dT D mid pc lv (.int j :: .retAddr k :: r) w pc' lv' st' w1 := by
  split at h
  next v hv =>
    cases h
    exact ⟨0, 0, rfl, rfl, fun p l e R s m args below meth c H locs cells slots Q ls F _ _ _ _ hok hS hl kk => r_xld F hS ho hv hdg (kk H locs ls hok hS hl)⟩
  next => cases h
theorem mn_ast {o i : Nat} {j : Int32} {v : Value} {r : List Value} {ins : Instr} (ho : (o = 0 ∧ ins = .iastore) ∨ (o = 1 ∧ ins = .bastore) ∨ (o = 2 ∧ ins = .lastore) ∨ (o = 3 ∧ ins = .aastore)) (hdg : decode (pgB mid) pc = .ok (ins, 1)) (h : (match m_ast o i j v w with | some c => mNx (pc + 1) lv r (w.set i c) | none => none) = some (.inl (pc', lv', st', w1))) : mNext B L xs X dT D mid pc lv (v :: .int j :: .ref i :: r) w pc' lv' st' w1 := by
  split at h
  next ce hc =>
    cases h
    exact ⟨0, 0, by rw [List.length_set]; rfl, m_ast_sl hc, fun p l e R s m args below meth c H locs cells slots Q ls F _ _ _ _ hok hS hl kk => r_ast F hok hS ho hc hdg (fun H1 locs1 h1 h2 _ => kk H1 locs1 ls h1 h2 hl)⟩
  next => cases h
theorem mn_len (hdg : decode (pgB mid) pc = .ok (.arraylength, 1)) (h : m_step L xs mid pc lv st w .arraylength = some (.inl (pc', lv', st', w1))) : mNext B L xs X dT D mid pc lv st w pc' lv' st' w1 := by
  simp only [m_step] at h
  split at h
  next v r =>
    split at h
    next k hk =>
      cases h
      exact ⟨0, 0, rfl, rfl, fun p l e R s m args below meth c H locs cells slots Q ls F _ _ _ _ hok hS hl kk => r_len F hok hS hk hdg (kk H locs ls hok hS hl)⟩
    next => cases h
  next => cases h
theorem mn_newarr {t : Nat} {a : ArrayType} {x : Int32} {r : List Value} (hta : (t = 0 ∧ a = .int) ∨ (t = 1 ∧ a = .boolean) ∨ (t = 2 ∧ a = .long)) (hdg : decode (pgB mid) pc = .ok (.newarray a, 2)) (h : m_new t x (pc + 2) lv r w = some (.inl (pc', lv', st', w1))) : mNext B L xs X dT D mid pc lv (.int x :: r) w pc' lv' st' w1 := by
  unfold m_new at h
  split at h
  next hc =>
    split at h
    next ce hce =>
      cases h
      exact ⟨1, m_sz ce, by rw [List.length_append]; rfl, m_sl_app w ce, fun p l e R s m args below meth c H locs cells slots Q ls F _ _ h1 h2 hok hS hl kk => r_newa F hok hS hta hc.1 hc.2 hce h1 h2 hdg (fun H1 g1 g2 => kk H1 locs ls g1 g2 hl)⟩
    next => cases h
  next => cases h
theorem mn_newarray {a : ArrayType} (hdg : decode (pgB mid) pc = .ok (.newarray a, 2)) (h : m_step L xs mid pc lv st w (.newarray a) = some (.inl (pc', lv', st', w1))) : mNext B L xs X dT D mid pc lv st w pc' lv' st' w1 := by
  simp only [m_step] at h
  split at h
  next x r =>
    split at h
    next => exact mn_newarr (Or.inl ⟨rfl, rfl⟩) hdg h
    next => exact mn_newarr (Or.inr (Or.inl ⟨rfl, rfl⟩)) hdg h
    next => exact mn_newarr (Or.inr (Or.inr ⟨rfl, rfl⟩)) hdg h
    next => cases h
  next => cases h
theorem mn_anewarray (hdg : decode (pgB mid) pc = .ok (.anewarray ix, 3)) (h : m_step L xs mid pc lv st w (.anewarray ix) = some (.inl (pc', lv', st', w1))) : mNext B L xs X dT D mid pc lv st w pc' lv' st' w1 := by
  simp only [m_step] at h
  split at h
  next t b x r hr =>
    split at h
    next ht =>
      unfold m_new at h
      split at h
      next hc =>
        split at h
        next ce hce =>
          cases h
          exact ⟨1, m_sz ce, by rw [List.length_append]; rfl, m_sl_app w ce, fun p l e R s m args below meth c H locs cells slots Q ls F _ _ h1 h2 hok hS hl kk => r_anew F hok hS hr ht hc.1 hc.2 hce h1 h2 hdg (fun H1 g1 g2 => kk H1 locs ls g1 g2 hl)⟩
        next => cases h
      next => cases h
    next => cases h
  next => cases h
theorem mn_new (hdg : decode (pgB mid) pc = .ok (.new ix, 3)) (h : m_step L xs mid pc lv st w (.new ix) = some (.inl (pc', lv', st', w1))) : mNext B L xs X dT D mid pc lv st w pc' lv' st' w1 := by
  simp only [m_step] at h
  split at h
  next ci b hr =>
    cases h
    exact ⟨1, (pgDf ci).length, by rw [List.length_append]; rfl, m_sl_app w _, fun p l e R s m args below meth c H locs cells slots Q ls F _ _ h1 h2 hok hS hl kk => r_new F hok hS hr h1 h2 hdg (fun H1 g1 g2 => kk H1 locs ls g1 g2 hl)⟩
  next => cases h
theorem mn_checkcast (hdg : decode (pgB mid) pc = .ok (.checkcast ix, 3)) (h : m_step L xs mid pc lv st w (.checkcast ix) = some (.inl (pc', lv', st', w1))) : mNext B L xs X dT D mid pc lv st w pc' lv' st' w1 := by
  simp only [m_step] at h
  split at h
  next a b i r hr =>
    split at h
    next n f hw =>
      cases h
      exact ⟨0, 0, rfl, rfl, fun p l e R s m args below meth c H locs cells slots Q ls F _ _ _ _ hok hS hl kk => by
        obtain ⟨hm, -⟩ := pgRs_ok hr
        simp only [pgW] at hm
        have F' := F
        obtain ⟨hx, hb, -, -, -, hown, -, G, Nw, K, E, -⟩ := F'
        have hk := kk H locs ls hok hS hl
        rcases f with f1 | f1 | f1 | f1 | f1
        · exact va_castA hx hb hown (G _ hm rfl _) hok.2 i (mZ_at hw) (K.2 0 _ rfl).2 hdg hk
        · exact va_castA hx hb hown (G _ hm rfl _) hok.2 i (mZ_at hw) (K.2 0 _ rfl).2 hdg hk
        · exact va_castA hx hb hown (G _ hm rfl _) hok.2 i (mZ_at hw) (K.2 0 _ rfl).2 hdg hk
        · exact va_castA hx hb hown (G _ hm rfl _) hok.2 i (mZ_at hw) (K.2 0 _ rfl).2 hdg hk
        · exact va_castA hx hb hown (G _ hm rfl _) hok.2 i (mZ_at hw) (K.2 0 _ rfl).2 hdg hk⟩
    next => cases h
  next => cases h
end NX
end
section
theorem m_call_ne {y : Nat} {as r : List Value} {q : Nat × mL × List Value × mWd} (h : m_call y as r = some (.inl q)) : False := by
  unfold m_call at h
  split at h
  · cases h
  · cases h
theorem m_call_nr {y : Nat} {as r : List Value} {q : Option Value} (h : m_call y as r = some (.inr (.inr q))) : False := by
  unfold m_call at h
  split at h
  · cases h
  · cases h
theorem m_call_eq {y y' : Nat} {as r as' r' : List Value} (h : m_call y as r = some (.inr (.inl (y', as', r')))) : y = y' ∧ as = as' ∧ r = r' ∧ m_cat r ≤ 8 ∧ m_cat as ≤ pgL y ∧ m_pl y = true := by
  unfold m_call at h
  split at h
  next hc => cases h; exact ⟨rfl, rfl, rfl, hc.1, hc.2.1, hc.2.2⟩
  next => cases h
section RN
variable {pc n : Nat} {B L mid : Nat} {xs : Nat → Int32} {X : Nat → Nat} {dT : Nat → ClassId} {D : va_G} {w w1 : mWd} {lv lv' : mL} {st st' : List Value} {pc' ix : Nat}
theorem mn_invokestatic (hdg : decode (pgB mid) pc = .ok (.invokestatic ix, 3)) (h : m_step L xs mid pc lv st w (.invokestatic ix) = some (.inl (pc', lv', st', w1))) : mNext B L xs X dT D mid pc lv st w pc' lv' st' w1 := by
  simp only [m_step] at h
  split at h
  next y b hr =>
    split at h
    next =>
      split at h
      next => exact (m_call_ne h).elim
      next => cases h
    next =>
      split at h
      next sz hz =>
        cases h
        exact ⟨0, 0, rfl, rfl, fun p l e R s m args below meth c H locs cells slots Q ls F h1 h2 h3 h4 hok hS hl kk => r_math F hr hz hl.1 h1 h2 h3 h4 hdg (kk H locs ls hok hS hl)⟩
      next => cases h
  next y b hr =>
    split at h
    next => exact (m_call_ne h).elim
    next => cases h
  next y b hr =>
    split at h
    next ln dp d sp a r =>
      split at h
      next ca cd ha hd =>
        split at h
        next ce hce =>
          split at h
          next hc =>
            cases h
            refine ⟨0, 0, by rw [List.length_set]; rfl, ?_, fun p l e R s m args below meth c H locs cells slots Q ls F h1 h2 _ _ hok hS hl kk => r_copy F hok hS hl.1 hr ha hd hce (by rw [m_cat_map]; exact hc.2) h1 h2 hdg (fun H1 locs1 g1 g2 _ => kk H1 locs1 ls g1 g2 hl)⟩
            unfold m_copy at hce
            split at hce
            next t n0 f u k g =>
              split at hce
              next hq => cases hce; exact m_sl_set hd rfl
              next => cases hce
            next => cases hce
          next => cases h
        next => cases h
      next => cases h
    next => cases h
  next => cases h
theorem mn_invokevirtual (hdg : decode (pgB mid) pc = .ok (.invokevirtual ix, 3)) (h : m_step L xs mid pc lv st w (.invokevirtual ix) = some (.inl (pc', lv', st', w1))) : mNext B L xs X dT D mid pc lv st w pc' lv' st' w1 := by
  simp only [m_step] at h
  split at h
  next y b hr =>
    split at h
    next =>
      split at h
      next => exact (m_call_ne h).elim
      next => cases h
    next => cases h
  next y b hr =>
    split at h
    next =>
      split at h
      next => exact (m_call_ne h).elim
      next => cases h
    next => cases h
  next y b hr =>
    split at h
    next i r =>
      split at h
      next k f hw =>
        split at h
        next hc =>
          cases h
          exact ⟨1, k, by rw [List.length_append]; rfl, m_sl_app w _, fun p l e R s m args below meth c H locs cells slots Q ls F h1 h2 h3 h4 hok hS hl kk => r_clone F hok hS hl.1 hr hw (by rw [m_cat_map]; exact hc) h1 h2 h3 h4 hdg (fun H1 g1 g2 => kk H1 locs ls g1 g2 hl)⟩
        next => cases h
      next => cases h
    next => cases h
  next => cases h
theorem mn_invokespecial (hdg : decode (pgB mid) pc = .ok (.invokespecial ix, 3)) (h : m_step L xs mid pc lv st w (.invokespecial ix) = some (.inl (pc', lv', st', w1))) : mNext B L xs X dT D mid pc lv st w pc' lv' st' w1 := by
  simp only [m_step] at h
  split at h
  next y b hr =>
    split at h
    next => exact (m_call_ne h).elim
    next => cases h
  next y b hr =>
    split at h
    next => exact (m_call_ne h).elim
    next => cases h
  next y b hr =>
    split at h
    next i r =>
      split at h
      next hc =>
        cases h
        exact ⟨0, 0, rfl, rfl, fun p l e R s m args below meth c H locs cells slots Q ls F h1 h2 h3 h4 hok hS hl kk => by
          obtain ⟨hm, -⟩ := pgRs_ok hr
          simp only [pgW] at hm
          have F' := F
          obtain ⟨hx, hb, hmL, -, -, hown, -, G, Nw, K, E, -⟩ := F'
          have hwr : ((st'.map (mv B X)).map fun v => v.category).sum ≤ 8 := by rw [m_cat_map]; exact hc
          have hwr2 := lv_room (m := m) (pc := pc) (ls := ls) (rest := .ref (B + i) :: st'.map (mv B X)) hwr
          refine W.objInit hx hb hown (G _ hm rfl _) (G _ aw_oi rfl _) (G _ aw_oc rfl _) (g := F0 m pc ls (.ref (B + i) :: st'.map (mv B X))) rfl (by rw [hmL]; exact hl.1) rfl hdg h1 (by omega) ?_
          exact kk H locs ls hok hS hl⟩
      next => cases h
    next => cases h
  next => cases h
end RN
end
section
section RN
variable {pc n : Nat} {B L mid : Nat} {xs : Nat → Int32} {X : Nat → Nat} {dT : Nat → ClassId} {D : va_G} {w w1 : mWd} {lv lv' : mL} {st st' : List Value} {pc' ix : Nat}
set_option maxHeartbeats 4000000 in
theorem m_next {ins : Instr} (hdg : decode (pgB mid) pc = .ok (ins, m_len ins n)) (h : m_step L xs mid pc lv st w ins = some (.inl (pc', lv', st', w1))) : mNext B L xs X dT D mid pc lv st w pc' lv' st' w1 := by
  cases ins
  case getfield ix => exact mn_getfield hdg h
  case putfield ix => exact mn_putfield hdg h
  case getstatic ix => exact mn_getstatic hdg h
  case ldc ix => exact mn_ldc hdg h
  case ldc_w ix => exact mn_ldc_w hdg h
  case ldc2_w ix => exact mn_ldc2_w hdg h
  case iaload =>
    simp only [m_step] at h
    split at h
    next j i r => exact mn_ald (Or.inl ⟨rfl, rfl⟩) hdg h
    next j k r => exact mn_xld (Or.inl ⟨rfl, rfl⟩) hdg h
    next => cases h
  case baload =>
    simp only [m_step] at h
    split at h
    next j i r => exact mn_ald (Or.inr (Or.inl ⟨rfl, rfl⟩)) hdg h
    next j k r => exact mn_xld (Or.inr ⟨rfl, rfl⟩) hdg h
    next => cases h
  case laload =>
    simp only [m_step] at h
    split at h
    next j i r => exact mn_ald (Or.inr (Or.inr (Or.inl ⟨rfl, rfl⟩))) hdg h
    next => cases h
  case aaload =>
    simp only [m_step] at h
    split at h
    next j i r => exact mn_ald (Or.inr (Or.inr (Or.inr ⟨rfl, rfl⟩))) hdg h
    next => cases h
  case iastore =>
    simp only [m_step] at h
    split at h
    next v j i r => exact mn_ast (Or.inl ⟨rfl, rfl⟩) hdg h
    next => cases h
  case bastore =>
    simp only [m_step] at h
    split at h
    next v j i r => exact mn_ast (Or.inr (Or.inl ⟨rfl, rfl⟩)) hdg h
    next => cases h
  case lastore =>
    simp only [m_step] at h
    split at h
    next v j i r => exact mn_ast (Or.inr (Or.inr (Or.inl ⟨rfl, rfl⟩))) hdg h
    next => cases h
  case aastore =>
    simp only [m_step] at h
    split at h
    next v j i r => exact mn_ast (Or.inr (Or.inr (Or.inr ⟨rfl, rfl⟩))) hdg h
    next => cases h
  case arraylength => exact mn_len hdg h
  case newarray a => exact mn_newarray hdg h
  case anewarray ix => exact mn_anewarray hdg h
  case new ix => exact mn_new hdg h
  case checkcast ix => exact mn_checkcast hdg h
  case invokestatic ix => exact mn_invokestatic hdg h
  case invokevirtual ix => exact mn_invokevirtual hdg h
  case invokespecial ix => exact mn_invokespecial hdg h
  case ireturn =>
    simp only [m_step] at h
    split at h <;> cases h
  case lreturn =>
    simp only [m_step] at h
    split at h <;> cases h
  case areturn =>
    simp only [m_step] at h
    split at h <;> cases h
  case return_ =>
    simp only [m_step] at h
    split at h <;> cases h
  all_goals exact mn_pure hdg h
end RN
end
section
theorem m_pure_nc {k : Nat} {ins : Instr} {pc : Nat} {l : mL} {st : List Value} {w : mWd} {q : (Nat × List Value × List Value) ⊕ Option Value} (h : (match m_pure k ins pc l st with | some (pc', l', st') => mNx pc' l' st' w | none => none) = some (.inr q)) : False := by
  split at h <;> cases h
section NR
variable {L : Nat} {xs : Nat → Int32} {mid pc : Nat} {lv : mL} {st : List Value} {w : mWd} {q : (Nat × List Value × List Value) ⊕ Option Value} {ix : Nat}
theorem nr_getf {ci k i : Nat} {r : List Value} (h : m_getf ci k i pc lv r w = some (.inr q)) : False := by
  unfold m_getf at h
  split at h
  · split at h
    · split at h <;> cases h
    · cases h
  · cases h
theorem nr_putf {f : Bool} {ci k i : Nat} {v : Value} {ty : FieldType} {r : List Value} (h : m_putf f ci k i v ty pc lv r w = some (.inr q)) : False := by
  unfold m_putf at h
  split at h
  · split at h <;> cases h
  · cases h
theorem nr_new {t : Nat} {x : Int32} {r : List Value} (h : m_new t x pc lv r w = some (.inr q)) : False := by
  unfold m_new at h
  split at h
  · split at h <;> cases h
  · cases h
theorem nr_getfield (h : m_step L xs mid pc lv st w (.getfield ix) = some (.inr q)) : False := by
  simp only [m_step] at h
  split at h
  · exact nr_getf h
  · exact nr_getf h
  · cases h
  · cases h
  · cases h
theorem nr_putfield (h : m_step L xs mid pc lv st w (.putfield ix) = some (.inr q)) : False := by
  simp only [m_step] at h
  split at h
  · exact nr_putf h
  · exact nr_putf h
  · cases h
theorem nr_getstatic (h : m_step L xs mid pc lv st w (.getstatic ix) = some (.inr q)) : False := by
  simp only [m_step] at h
  split at h <;> cases h
theorem nr_ldc (h : m_step L xs mid pc lv st w (.ldc ix) = some (.inr q)) : False := by
  simp only [m_step] at h
  split at h <;> cases h
theorem nr_ldc_w (h : m_step L xs mid pc lv st w (.ldc_w ix) = some (.inr q)) : False := by
  simp only [m_step] at h
  split at h <;> cases h
theorem nr_ldc2_w (h : m_step L xs mid pc lv st w (.ldc2_w ix) = some (.inr q)) : False := by
  simp only [m_step] at h
  split at h <;> cases h
theorem nr_iaload (h : m_step L xs mid pc lv st w .iaload = some (.inr q)) : False := by
  simp only [m_step] at h
  split at h
  · split at h <;> cases h
  · split at h <;> cases h
  · cases h
theorem nr_baload (h : m_step L xs mid pc lv st w .baload = some (.inr q)) : False := by
  simp only [m_step] at h
  split at h
  · split at h <;> cases h
  · split at h <;> cases h
  · cases h
theorem nr_laload (h : m_step L xs mid pc lv st w .laload = some (.inr q)) : False := by
  simp only [m_step] at h
  split at h
  · split at h <;> cases h
  · cases h
theorem nr_aaload (h : m_step L xs mid pc lv st w .aaload = some (.inr q)) : False := by
  simp only [m_step] at h
  split at h
  · split at h <;> cases h
  · cases h
theorem nr_iastore (h : m_step L xs mid pc lv st w .iastore = some (.inr q)) : False := by
  simp only [m_step] at h
  split at h
  · split at h <;> cases h
  · cases h
theorem nr_bastore (h : m_step L xs mid pc lv st w .bastore = some (.inr q)) : False := by
  simp only [m_step] at h
  split at h
  · split at h <;> cases h
  · cases h
theorem nr_lastore (h : m_step L xs mid pc lv st w .lastore = some (.inr q)) : False := by
  simp only [m_step] at h
  split at h
  · split at h <;> cases h
  · cases h
theorem nr_aastore (h : m_step L xs mid pc lv st w .aastore = some (.inr q)) : False := by
  simp only [m_step] at h
  split at h
  · split at h <;> cases h
  · cases h
theorem nr_arraylength (h : m_step L xs mid pc lv st w .arraylength = some (.inr q)) : False := by
  simp only [m_step] at h
  split at h
  · split at h <;> cases h
  · cases h
theorem nr_newarray {a : ArrayType} (h : m_step L xs mid pc lv st w (.newarray a) = some (.inr q)) : False := by
  simp only [m_step] at h
  split at h
  · split at h
    · exact nr_new h
    · exact nr_new h
    · exact nr_new h
    · cases h
  · cases h
theorem nr_anewarray (h : m_step L xs mid pc lv st w (.anewarray ix) = some (.inr q)) : False := by
  simp only [m_step] at h
  split at h
  · split at h
    · exact nr_new h
    · cases h
  · cases h
theorem nr_new0 (h : m_step L xs mid pc lv st w (.new ix) = some (.inr q)) : False := by
  simp only [m_step] at h
  split at h <;> cases h
theorem nr_checkcast (h : m_step L xs mid pc lv st w (.checkcast ix) = some (.inr q)) : False := by
  simp only [m_step] at h
  split at h
  · split at h <;> cases h
  · cases h
theorem nr_ireturn {y : Nat × List Value × List Value} (h : m_step L xs mid pc lv st w .ireturn = some (.inr (.inl y))) : False := by
  simp only [m_step] at h
  split at h <;> cases h
theorem nr_lreturn {y : Nat × List Value × List Value} (h : m_step L xs mid pc lv st w .lreturn = some (.inr (.inl y))) : False := by
  simp only [m_step] at h
  split at h <;> cases h
theorem nr_areturn {y : Nat × List Value × List Value} (h : m_step L xs mid pc lv st w .areturn = some (.inr (.inl y))) : False := by
  simp only [m_step] at h
  split at h <;> cases h
theorem nr_return_ {y : Nat × List Value × List Value} (h : m_step L xs mid pc lv st w .return_ = some (.inr (.inl y))) : False := by
  simp only [m_step] at h
  split at h <;> cases h
theorem nr_invokestatic {v : Option Value} (h : m_step L xs mid pc lv st w (.invokestatic ix) = some (.inr (.inr v))) : False := by
  simp only [m_step] at h
  split at h
  · split at h
    · split at h
      · exact m_call_nr h
      · cases h
    · split at h <;> cases h
  · split at h
    · exact m_call_nr h
    · cases h
  · split at h
    · split at h
      · split at h
        · split at h <;> cases h
        · cases h
      · cases h
    · cases h
  · cases h
theorem nr_invokevirtual {v : Option Value} (h : m_step L xs mid pc lv st w (.invokevirtual ix) = some (.inr (.inr v))) : False := by
  simp only [m_step] at h
  split at h
  · split at h
    · split at h
      · exact m_call_nr h
      · cases h
    · cases h
  · split at h
    · split at h
      · exact m_call_nr h
      · cases h
    · cases h
  · split at h
    · split at h
      · split at h <;> cases h
      · cases h
    · cases h
  · cases h
theorem nr_invokespecial {v : Option Value} (h : m_step L xs mid pc lv st w (.invokespecial ix) = some (.inr (.inr v))) : False := by
  simp only [m_step] at h
  split at h
  · split at h
    · exact m_call_nr h
    · cases h
  · split at h
    · exact m_call_nr h
    · cases h
  · split at h
    · split at h <;> cases h
    · cases h
  · cases h
end NR
def mCalls (B L : Nat) (xs : Nat → Int32) (X : Nat → Nat) (dT : Nat → ClassId) (D : va_G) (mid pc : Nat) (st : List Value) (w : mWd) (y : Nat) (as r : List Value) : Prop :=
  (y < 274 ∧ m_pl y = true) ∧ m_cat as ≤ pgL y ∧ ∀ (p : Program) (l : Launch) (e : Env) (R : Room) (s : State) (m : MethodId) (args : Array Value) (below : List Frame) (meth : Method) (c : Code) (H : Heap) (locs : List Loc) (cells slots : Nat) (Q : State → Prop) (ls : Array Slot),
    mFr p s m meth c mid B L xs X dT D → mOK B X dT D w H → va_S (fun q : Nat => B ≤ q) s.heap H locs → ls.size = pgL mid → mCallOK p l e R s m args below meth c H locs cells slots Q pc ls B L xs X dT D w y as r st
end
section
theorem m_pure_nc2 {L : Nat} {xs : Nat → Int32} {mid : Nat} {ins : Instr} {pc : Nat} {l : mL} {st : List Value} {w : mWd} {q : (Nat × List Value × List Value) ⊕ Option Value} (h : m_step L xs mid pc l st w ins = some (.inr q)) (e : m_step L xs mid pc l st w ins = (match m_pure (pgL mid) ins pc l st with | some (pc', l', st') => mNx pc' l' st' w | none => none)) : False := m_pure_nc (e.symm.trans h)
section RC
variable {pc n : Nat} {B L mid : Nat} {xs : Nat → Int32} {X : Nat → Nat} {dT : Nat → ClassId} {D : va_G} {w : mWd} {lv : mL} {st : List Value} {ix y : Nat} {as r : List Value} {v : Option Value}
theorem mc_static (hdg : decode (pgB mid) pc = .ok (.invokestatic ix, 3)) (h : m_step L xs mid pc lv st w (.invokestatic ix) = some (.inr (.inl (y, as, r)))) : mCalls B L xs X dT D mid pc st w y as r := by
  simp only [m_step] at h
  split at h
  next y b hr =>
    split at h
    next =>
      split at h
      next as r hp =>
        obtain ⟨rfl, rfl, rfl, hc, hl, hpl⟩ := m_call_eq h
        have hk := (pgRs_ok hr).2
        simp only [pgKd, Bool.and_eq_true] at hk
        exact ⟨⟨Nat.le_of_ble_eq_true hk.1, hpl⟩, hl, fun p l e R s m args below meth c H locs cells slots Q ls F hok hS hls => m_callS F hok hS hls (Or.inl hr) hp hc hpl hdg⟩
      next => cases h
    next =>
      split at h
      next => cases h
      next => cases h
  next y b hr =>
    split at h
    next as r hp =>
      obtain ⟨rfl, rfl, rfl, hc, hl, hpl⟩ := m_call_eq h
      have hk := (pgRs_ok hr).2
      simp only [pgKd, Bool.and_eq_true] at hk
      exact ⟨⟨Nat.le_of_ble_eq_true hk.1, hpl⟩, hl, fun p l e R s m args below meth c H locs cells slots Q ls F hok hS hls => m_callS F hok hS hls (Or.inr hr) hp hc hpl hdg⟩
    next => cases h
  next y b hr =>
    split at h
    next =>
      split at h
      next =>
        split at h
        next =>
          split at h
          next => cases h
          next => cases h
        next => cases h
      next => cases h
    next => cases h
  next => cases h
theorem mc_virtual (hdg : decode (pgB mid) pc = .ok (.invokevirtual ix, 3)) (h : m_step L xs mid pc lv st w (.invokevirtual ix) = some (.inr (.inl (y, as, r)))) : mCalls B L xs X dT D mid pc st w y as r := by
  simp only [m_step] at h
  split at h
  next y b hr =>
    split at h
    next as v r hp =>
      split at h
      next hv =>
        obtain ⟨rfl, rfl, rfl, hc, hl, hpl⟩ := m_call_eq h
        have hk := (pgRs_ok hr).2
        simp only [pgKd, Bool.and_eq_true] at hk
        exact ⟨⟨Nat.le_of_ble_eq_true hk.1.1, hpl⟩, hl, fun p l e R s m args below meth c H locs cells slots Q ls F hok hS hls => m_callV F hok hS hls (Or.inl hr) hp hv hc hpl hdg⟩
      next => cases h
    next => cases h
  next y b hr =>
    split at h
    next as v r hp =>
      split at h
      next hv =>
        obtain ⟨rfl, rfl, rfl, hc, hl, hpl⟩ := m_call_eq h
        have hk := (pgRs_ok hr).2
        simp only [pgKd, Bool.and_eq_true] at hk
        exact ⟨⟨Nat.le_of_ble_eq_true hk.1.1, hpl⟩, hl, fun p l e R s m args below meth c H locs cells slots Q ls F hok hS hls => m_callV F hok hS hls (Or.inr hr) hp hv hc hpl hdg⟩
      next => cases h
    next => cases h
  next y b hr =>
    split at h
    next =>
      split at h
      next =>
        split at h
        next => cases h
        next => cases h
      next => cases h
    next => cases h
  next => cases h
theorem mc_special (hdg : decode (pgB mid) pc = .ok (.invokespecial ix, 3)) (h : m_step L xs mid pc lv st w (.invokespecial ix) = some (.inr (.inl (y, as, r)))) : mCalls B L xs X dT D mid pc st w y as r := by
  simp only [m_step] at h
  split at h
  next y b hr =>
    split at h
    next as i r hp =>
      obtain ⟨rfl, rfl, rfl, hc, hl, hpl⟩ := m_call_eq h
      have hk := (pgRs_ok hr).2
      simp only [pgKd, Bool.and_eq_true] at hk
      exact ⟨⟨Nat.le_of_ble_eq_true hk.1.1.1, hpl⟩, hl, fun p l e R s m args below meth c H locs cells slots Q ls F hok hS hls => m_callI F hok hS hls (Or.inl hr) hp hc hpl hdg⟩
    next => cases h
  next y b hr =>
    split at h
    next as i r hp =>
      obtain ⟨rfl, rfl, rfl, hc, hl, hpl⟩ := m_call_eq h
      have hk := (pgRs_ok hr).2
      simp only [pgKd, Bool.and_eq_true] at hk
      exact ⟨⟨Nat.le_of_ble_eq_true hk.1.1.1, hpl⟩, hl, fun p l e R s m args below meth c H locs cells slots Q ls F hok hS hls => m_callI F hok hS hls (Or.inr hr) hp hc hpl hdg⟩
    next => cases h
  next y b hr =>
    split at h
    next =>
      split at h
      next => cases h
      next => cases h
    next => cases h
  next => cases h
theorem m_calls {ins : Instr} (hdg : decode (pgB mid) pc = .ok (ins, m_len ins n)) (h : m_step L xs mid pc lv st w ins = some (.inr (.inl (y, as, r)))) : m_len ins n = 3 ∧ mCalls B L xs X dT D mid pc st w y as r := by
  cases ins
  case invokestatic ix => exact ⟨rfl, mc_static hdg h⟩
  case invokevirtual ix => exact ⟨rfl, mc_virtual hdg h⟩
  case invokespecial ix => exact ⟨rfl, mc_special hdg h⟩
  case getfield ix => exact (nr_getfield h).elim
  case putfield ix => exact (nr_putfield h).elim
  case getstatic ix => exact (nr_getstatic h).elim
  case ldc ix => exact (nr_ldc h).elim
  case ldc_w ix => exact (nr_ldc_w h).elim
  case ldc2_w ix => exact (nr_ldc2_w h).elim
  case iaload => exact (nr_iaload h).elim
  case baload => exact (nr_baload h).elim
  case laload => exact (nr_laload h).elim
  case aaload => exact (nr_aaload h).elim
  case iastore => exact (nr_iastore h).elim
  case bastore => exact (nr_bastore h).elim
  case lastore => exact (nr_lastore h).elim
  case aastore => exact (nr_aastore h).elim
  case arraylength => exact (nr_arraylength h).elim
  case newarray a => exact (nr_newarray h).elim
  case anewarray ix => exact (nr_anewarray h).elim
  case new ix => exact (nr_new0 h).elim
  case checkcast ix => exact (nr_checkcast h).elim
  case ireturn => exact (nr_ireturn h).elim
  case lreturn => exact (nr_lreturn h).elim
  case areturn => exact (nr_areturn h).elim
  case return_ => exact (nr_return_ h).elim
  all_goals exact (m_pure_nc2 h rfl).elim
theorem m_rets {ins : Instr} (h : m_step L xs mid pc lv st w ins = some (.inr (.inr v))) : ∃ o : Nat, ((o = 0 ∧ ins = .ireturn) ∨ (o = 1 ∧ ins = .lreturn) ∨ (o = 2 ∧ ins = .areturn) ∨ (o = 3 ∧ ins = .return_)) ∧ m_ret (pgT mid) o st = some v := by
  cases ins
  case ireturn =>
    simp only [m_step] at h
    split at h
    next v hv => cases h; exact ⟨0, Or.inl ⟨rfl, rfl⟩, hv⟩
    next => cases h
  case lreturn =>
    simp only [m_step] at h
    split at h
    next v hv => cases h; exact ⟨1, Or.inr (Or.inl ⟨rfl, rfl⟩), hv⟩
    next => cases h
  case areturn =>
    simp only [m_step] at h
    split at h
    next v hv => cases h; exact ⟨2, Or.inr (Or.inr (Or.inl ⟨rfl, rfl⟩)), hv⟩
    next => cases h
  case return_ =>
    simp only [m_step] at h
    split at h
    next v hv => cases h; exact ⟨3, Or.inr (Or.inr (Or.inr ⟨rfl, rfl⟩)), hv⟩
    next => cases h
  case getfield ix => exact (nr_getfield h).elim
  case putfield ix => exact (nr_putfield h).elim
  case getstatic ix => exact (nr_getstatic h).elim
  case ldc ix => exact (nr_ldc h).elim
  case ldc_w ix => exact (nr_ldc_w h).elim
  case ldc2_w ix => exact (nr_ldc2_w h).elim
  case iaload => exact (nr_iaload h).elim
  case baload => exact (nr_baload h).elim
  case laload => exact (nr_laload h).elim
  case aaload => exact (nr_aaload h).elim
  case iastore => exact (nr_iastore h).elim
  case bastore => exact (nr_bastore h).elim
  case lastore => exact (nr_lastore h).elim
  case aastore => exact (nr_aastore h).elim
  case arraylength => exact (nr_arraylength h).elim
  case newarray a => exact (nr_newarray h).elim
  case anewarray ix => exact (nr_anewarray h).elim
  case new ix => exact (nr_new0 h).elim
  case checkcast ix => exact (nr_checkcast h).elim
  case invokestatic ix => exact (nr_invokestatic h).elim
  case invokevirtual ix => exact (nr_invokevirtual h).elim
  case invokespecial ix => exact (nr_invokespecial h).elim
  all_goals exact (m_pure_nc2 h rfl).elim
end RC
end
section
/-! THE RUN OF THE SMALL MACHINE IS A RUN OF THE MACHINE -/
theorem m_run_mono {L : Nat} {xs : Nat → Int32} : ∀ (n d mid pc : Nat) (lv : mL) (st : List Value) (w : mWd) (v : Option Value) (w1 : mWd), m_run L xs n d mid pc lv st w = some (v, w1) → w.length ≤ w1.length ∧ m_sl w ≤ m_sl w1 := by
  intro n
  induction n with
  | zero => intro d mid pc lv st w v w1 h; cases h
  | succ n ih =>
    intro d mid pc lv st w v w1 h
    cases d with
    | zero => cases h
    | succ d =>
      simp only [m_run] at h
      split at h
      next => cases h
      next ins k hf =>
        split at h
        next => cases h
        next pc' l' st' w' hs =>
          obtain ⟨dc, ds, h1, h2, -⟩ := m_next (B := 0) (X := fun _ => 0) (dT := fun _ => 0) (D := (fun _ => 0, fun _ _ => 0)) (pgF_ok hf) hs
          obtain ⟨h3, h4⟩ := ih _ _ _ _ _ _ _ _ h
          exact ⟨by omega, by omega⟩
        next y as r hs =>
          split at h
          next => cases h
          next v2 w2 h2 =>
            obtain ⟨h3, h4⟩ := ih _ _ _ _ _ _ _ _ h2
            obtain ⟨h5, h6⟩ := ih _ _ _ _ _ _ _ _ h
            exact ⟨by omega, by omega⟩
        next v2 hs =>
          cases h
          exact ⟨Nat.le_refl _, Nat.le_refl _⟩
theorem m_args (B : Nat) (X : Nat → Nat) : ∀ (i : Nat) (as : List Value), mlv B X (lv_args i as) = lv_args i (as.map (mv B X))
  | _, [] => rfl
  | i, v :: as => by
    show (i, mv B X v) :: mlv B X (lv_args (if v.category = 2 then i + 2 else i + 1) as) = (i, mv B X v) :: lv_args (if (mv B X v).category = 2 then i + 2 else i + 1) (as.map (mv B X))
    rw [m_args B X _ as, mv_cat]
theorem m_lgsl : ∀ (as : List Value), (lg_sl as).length = m_cat as
  | [] => rfl
  | v :: as => by
    have h := m_lgsl as
    unfold lg_sl at h ⊢
    unfold m_cat at h ⊢
    rw [List.flatMap_cons, List.length_append, h, List.map_cons, List.sum_cons]
    congr 1
    rcases lv_cat v with e | e <;> simp [e]
theorem m_lgmap (B : Nat) (X : Nat → Nat) (as : List Value) : (lg_sl (as.map (mv B X))).length = m_cat as := by
  rw [m_lgsl]
  exact m_cat_map B X as
section AD
variable {L B : Nat} {xs : Nat → Int32} {X : Nat → Nat} {dT : Nat → ClassId} {D : va_G}
/-- what a run says of a frame: it comes to a return with that answer and that world -/
def mGood (l : Launch) (L B : Nat) (xs : Nat → Int32) (X : Nat → Nat) (dT : Nat → ClassId) (D : va_G) (d mid pc : Nat) (lv : mL) (st : List Value) (w : mWd) (v : Option Value) (w1 : mWd) : Prop :=
  ∀ (p : Program) (e : Env) (R : Room) (s : State) (m : MethodId) (args : Array Value) (below : List Frame) (meth : Method) (c : Code) (H : Heap) (locs : List Loc) (cells slots : Nat) (ls : Array Slot) (Q : State → Prop),
    mFr p s m meth c mid B L xs X dT D → d ≤ R.frames → 100 * d ≤ R.locals → cells + (w1.length - w.length) ≤ R.cells → slots + (m_sl w1 - m_sl w) ≤ R.slots → mOK B X dT D w H → va_S (fun q : Nat => B ≤ q) s.heap H locs → lv_has ls (pgL mid) (mlv B X lv) →
    (∀ (pcr o : Nat) (ins : Instr) (H1 : Heap) (locs1 : List Loc) (ls1 : Array Slot) (str : List Value), decode (pgB mid) pcr = .ok (ins, 1) → ((o = 0 ∧ ins = .ireturn) ∨ (o = 1 ∧ ins = .lreturn) ∨ (o = 2 ∧ ins = .areturn) ∨ (o = 3 ∧ ins = .return_)) → m_ret (pgT mid) o str = some v → mOK B X dT D w1 H1 → va_S (fun q : Nat => B ≤ q) s.heap H1 locs1 → lv_has ls1 (pgL mid) (mlv B X []) → W p l e R s m args below meth c H1 locs1 (cells + (w1.length - w.length)) (slots + (m_sl w1 - m_sl w)) Q (F0 m pcr ls1 (str.map (mv B X)))) →
    W p l e R s m args below meth c H locs cells slots Q (F0 m pc ls (st.map (mv B X)))
/-- a method's contract out of its frame -/
theorem m_met {l : Launch} {d y : Nat} {as : List Value} {w w1 : mWd} {v : Option Value} (hy : y < 274 ∧ m_pl y = true) (hcat : m_cat as ≤ pgL y) (h : mGood l L B xs X dT D d y 0 (lv_args 0 as) [] w v w1) :
    Met l (pgN y) (mWs y) ({ frames := d, cells := w1.length - w.length, slots := m_sl w1 - m_sl w, locals := 100 * d } : Room) (mPc B L xs X dT D as w) (mQ B X dT D v w1) (w1.length - w.length) (m_sl w1 - m_sl w) (fun q : Nat => B ≤ q) := by
  obtain ⟨a1, a2, a3, a4, a5, a6, a7, a8, a9⟩ := pgM_all hy
  refine Met.ofW (cc := pgB y) (maxL := pgL y) (ret := pgT y) a7 rfl ?_
  intro p e s m args below meth c s₁ Bd hml hv
  obtain ⟨rfl, hok, hC⟩ := hv
  have hown : s.vm.findClass (pgN y).cls = some m.cls := findClass_of_methodNamed Bd.named
  have F : mFr p s m meth c y B L xs X dT D := ⟨Bd.exec, Bd.bytes, hml, Bd.returns, Bd.notSynchronized, by rw [a8]; exact hown, (name_of_methodNamed Bd.named Bd.method).1, hC⟩
  have hl := lv_entry (as.map (mv B X)) (n := pgL y) (by rw [m_lgmap]; exact hcat)
  rw [lg_entry_eq]
  generalize (lg_sl (as.map (mv B X)) ++ List.replicate (pgL y - (lg_sl (as.map (mv B X))).length) Slot.unset).toArray = ls at hl ⊢
  rw [← m_args] at hl
  refine h p e ({ frames := d, cells := w1.length - w.length, slots := m_sl w1 - m_sl w, locals := 100 * d } : Room) s m (as.map (mv B X)).toArray below meth c s.heap [] 0 0 ls _ F (Nat.le_refl _) (Nat.le_refl _) (by show 0 + (w1.length - w.length) ≤ w1.length - w.length; omega) (by show 0 + (m_sl w1 - m_sl w) ≤ m_sl w1 - m_sl w; omega) hok va_S.rf hl (fun pcr o ins H1 locs1 ls1 str g1 g2 g3 g4 g5 _ => ?_)
  rw [Nat.zero_add, Nat.zero_add]
  exact m_retI F g4 g5 g2 g3 g1
theorem m_adq (l : Launch) : ∀ (n d mid pc : Nat) (lv : mL) (st : List Value) (w : mWd) (v : Option Value) (w1 : mWd), m_run L xs n d mid pc lv st w = some (v, w1) → mGood l L B xs X dT D d mid pc lv st w v w1 := by
  intro n
  induction n with
  | zero => intro d mid pc lv st w v w1 h; cases h
  | succ n ih =>
    intro d mid pc lv st w v w1 h
    cases d with
    | zero => cases h
    | succ d =>
      simp only [m_run] at h
      split at h
      next => cases h
      next ins k hf =>
        have hdg := pgF_ok hf
        split at h
        next => cases h
        next pc' l' st' w' hs =>
          obtain ⟨dc, ds, h1, h2, hn⟩ := m_next (B := B) (X := X) (dT := dT) (D := D) hdg hs
          obtain ⟨h3, h4⟩ := m_run_mono _ _ _ _ _ _ _ _ _ h
          intro p e R s m args below meth c H locs cells slots ls Q F hR1 hR2 hc1 hc2 hok hS hl hret
          refine hn p l e R s m args below meth c H locs cells slots Q ls F (by omega) (by omega) (by omega) (by omega) hok hS hl fun H1 locs1 ls1 g1 g2 g3 => ?_
          have e1 : cells + dc + (w1.length - w'.length) = cells + (w1.length - w.length) := by omega
          have e2 : slots + ds + (m_sl w1 - m_sl w') = slots + (m_sl w1 - m_sl w) := by omega
          exact ih _ _ _ _ _ _ _ _ h p e R s m args below meth c H1 locs1 (cells + dc) (slots + ds) ls1 Q F hR1 hR2 (by omega) (by omega) g1 g2 g3 (by rw [e1, e2]; exact hret)
        next y as r hs =>
          split at h
          next => cases h
          next v2 w2 h2 =>
            obtain ⟨hlen, hy, hcat, hcall⟩ := m_calls hdg hs
            obtain ⟨h3, h4⟩ := m_run_mono _ _ _ _ _ _ _ _ _ h2
            obtain ⟨h5, h6⟩ := m_run_mono _ _ _ _ _ _ _ _ _ h
            have hM := m_met (d := d) hy hcat (ih _ _ _ _ _ _ _ _ h2)
            have h60 := (pgM_all hy).2.2.2.2.2.2.2.2
            intro p e R s m args below meth c H locs cells slots ls Q F hR1 hR2 hc1 hc2 hok hS hl hret
            refine hcall p l e R s m args below meth c H locs cells slots Q ls F hok hS hl.1 _ _ _ v2 w2 hM rfl rfl (by show d + 1 ≤ R.frames; omega) (by show 8 + (pgL y + 11) + 100 * d ≤ R.locals; omega) (by omega) (by omega) fun H1 locs1 g1 g2 => ?_
            have e1 : cells + (w2.length - w.length) + (w1.length - w2.length) = cells + (w1.length - w.length) := by omega
            have e2 : slots + (m_sl w2 - m_sl w) + (m_sl w1 - m_sl w2) = slots + (m_sl w1 - m_sl w) := by omega
            exact ih _ _ _ _ _ _ _ _ h p e R s m args below meth c H1 locs1 (cells + (w2.length - w.length)) (slots + (m_sl w2 - m_sl w)) ls Q F hR1 hR2 (by omega) (by omega) g1 g2 hl (by rw [e1, e2]; exact hret)
        next v2 hs =>
          cases h
          obtain ⟨o, ho, hr⟩ := m_rets hs
          intro p e R s m args below meth c H locs cells slots ls Q F hR1 hR2 hc1 hc2 hok hS hl hret
          have h1 : m_len ins k = 1 := by rcases ho with ⟨-, rfl⟩ | ⟨-, rfl⟩ | ⟨-, rfl⟩ | ⟨-, rfl⟩ <;> rfl
          rw [h1] at hdg
          have hz := hret pc o ins H locs ls st hdg ho hr hok hS ⟨hl.1, hl.2.1, fun q hq => by cases hq⟩
          rw [Nat.sub_self, Nat.sub_self] at hz
          exact hz
end AD
end
section
-- ===== end of PART A; then your names; then what follows =====
/-! THE CLAIM OUT OF ONE WALK OF THE LAW'S BODY. Your part is whole_start (and what it stands on); all else here is the same for every law, but numbers. -/
def R_law : String := "ReelBackLaw"
def lw_P (b : Addr) (xs : List Int32) (args : Array Value) (s : State) : Prop := args = #[.ref b] ∧ s.IntsAt b xs ∧ xs.length ≤ 3072 ∧ (Jvm.Cond.and given_1 narrow_1).before args s = true
def lw_Q (_ : Array Value) (s : State) (o : Outcome) (t : State) : Prop := o = .returned (some (.int 1)) ∧ Framed s o t [] 600000 7302250
def lw_Z (below : List Frame) (a : Array Value) (s : State) : State → Prop := fun t => ∃ o, t.status = .running ∧ Ended t below o ∧ lw_Q a s o t
/-- the law's own end, with 1 on the stack, nothing written that was there before, its room as the claim has it -/
theorem lw_ret {p : Program} {l : Launch} {e : Env} {s : State} {m : MethodId} {below : List Frame} {meth : Method} {c : Code} {b : Nat} (hx : p.tables.exec = Jvm.exec) (hb : c.code = code) (hr : meth.sig.returnType = ret) (hlocks : meth.locks = false) {pc : Nat} {H : Heap} {ls : Array Slot} (hdg : decode code pc = .ok (.ireturn, 1)) : W p l e room_1 s m #[Value.ref b] below meth c H [] 600000 7302250 (lw_Z below #[Value.ref b] s) (F0 m pc ls [.int 1]) := by
  intro T hT X
  obtain ⟨fs, hret, hrun, hended, hW, hframe⟩ := X.leave (v := some (.int 1)) (hlocks := hlocks) (fun h => by rw [hr] at h; cases h)
  have hmeth' : T.vm.method? m = some meth := X.method'
  refine ⟨T.setFrames fs, ?_, .returned (some (.int 1)), hrun, hended, rfl, ⟨_, rfl⟩, hW, hframe⟩
  jvm_step X.here [X.here.top, hx, hb, hdg, hmeth', hr, ret, narrow_b1]
  (try refine ⟨rfl, ?_⟩); (try refine ⟨rfl, ?_⟩)
  first | (intro acts; rw [hret _ acts rfl rfl rfl]) | rw [hret _ _ rfl rfl rfl]
  exact Steps.refl _
/-- what holds at the law's entry: the machine, the code, the tables' words (any of lw_tbl by 'hts w (by decide +kernel)'), the script of L ints xs at the cell b, what the Statement gives of the start (any of its parts by flat_of_before) -/
def lw_At (p : Program) (s : State) (m : MethodId) (meth : Method) (c : Code) (b L : Nat) (xs : Nat → Int32) : Prop :=
  p.tables.exec = Jvm.exec ∧ c.code = code ∧ meth.sig.returnType = ret ∧ c.maxLocals = 4 ∧ s.vm.findClass R_law = some m.cls ∧ (∀ w ∈ lw_tbl, w.before #[Value.ref b] s = true) ∧ va_X b L xs s s.heap ∧ b < s.heap.size ∧ meth.locks = false ∧ (Jvm.Cond.and given_1 narrow_1).before #[Value.ref b] s = true
end
section
theorem aw_ls1 : Cond.laysStatic "ReelBack$Costs" "ABOVE" "[I" ∈ lw_tbl := List.mem_of_getElem? (i := 755) (by decide +kernel)
theorem aw_ls2 : Cond.laysStatic "ReelBack$Costs" "BODIES" "[I" ∈ lw_tbl := List.mem_of_getElem? (i := 1359) (by decide +kernel)
theorem aw_ls3 : Cond.laysStatic "ReelBack$Claims" "WITHOUT_ACT" "[I" ∈ lw_tbl := List.mem_of_getElem? (i := 921) (by decide +kernel)
theorem aw_ls4 : Cond.laysStatic "java/lang/String" "COMPACT_STRINGS" "Z" ∈ lw_tbl := List.mem_of_getElem? (i := 1036) (by decide +kernel)
theorem aw_li1 : Cond.initialized "ReelBack$Costs" ∈ lw_tbl := List.mem_of_getElem? (i := 133) (by decide +kernel)
theorem aw_li3 : Cond.initialized "ReelBack$Claims" ∈ lw_tbl := List.mem_of_getElem? (i := 136) (by decide +kernel)
theorem aw_li4 : Cond.initialized "java/lang/String" ∈ lw_tbl := List.mem_of_getElem? (i := 143) (by decide +kernel)
theorem aw_sr : Cond.stringRef "ReelBack$Reader" 54 "kscelrypnj" ∈ lw_tbl := List.mem_of_getElem? (i := 1022) (by decide +kernel)
/-! WHAT HOLDS AT THE LAW's ENTRY -/
theorem m_selfW {s : State} {b : Nat} (hts : ∀ w ∈ lw_tbl, w.before #[Value.ref b] s = true) : ∀ w ∈ lw_tbl, goodWord w = true → ∀ a : Array Value, w.before a s = true := fun w hw hg a => word_at (State.WarmedH.refl s) (good_of_word hg) (hts w hw)
theorem m_orO {n i : Nat} {p : Nat → Prop} (h : i < n + 1) (h1 : i < n → p i) (h2 : p n) : p i := by
  rcases Nat.lt_or_ge i n with q | q
  · exact h1 q
  · have e : i = n := by omega
    rw [e]; exact h2

theorem ls_above {s : State} {b : Nat} (hs : ∀ c ∈ flatC (Jvm.Cond.and given_1 narrow_1), c.before #[Value.ref b] s = true) : ∃ t : Nat, (Jvm.Term.static "ReelBack$Costs" "ABOVE" "[I").eval #[Value.ref b] s none [] s = some (.ref t) ∧ va_T .int t 7 (fun j => .int (([-1, 0, 0, 2, 0, 2, 4] : List Int32).getD j 0)) (fun q : Nat => s.heap.size ≤ q) s s.heap := by
  refine va_Tof (ty := .int) (N := 7) (by decide) (hs _ (by decide +kernel)) (va_eqt (t := Jvm.Term.length (Jvm.Term.static "ReelBack$Costs" "ABOVE" "[I")) (z := (7 : Int32)) (hs (Jvm.Cond.eq (Jvm.Term.length (Jvm.Term.static "ReelBack$Costs" "ABOVE" "[I")) (Jvm.Term.int (7 : Int32))) (by decide +kernel))) (fun j hj => ?_) (fun a ha => Nat.not_le.mpr ha)
  revert hj
  refine fun hj => ?_
  refine m_orO (p := fun j => (Jvm.Term.elem (Jvm.Term.static "ReelBack$Costs" "ABOVE" "[I") (.int (Int32.ofNat j))).eval #[Value.ref b] s none [] s = some (.int (([-1, 0, 0, 2, 0, 2, 4] : List Int32).getD j 0))) hj (fun hj => ?_) (va_eqt (z := (4 : Int32)) (hs (Jvm.Cond.eq (Jvm.Term.elem (Jvm.Term.static "ReelBack$Costs" "ABOVE" "[I") (.int (6 : Int32))) (.int (4 : Int32))) (by decide +kernel)))
  refine m_orO (p := fun j => (Jvm.Term.elem (Jvm.Term.static "ReelBack$Costs" "ABOVE" "[I") (.int (Int32.ofNat j))).eval #[Value.ref b] s none [] s = some (.int (([-1, 0, 0, 2, 0, 2, 4] : List Int32).getD j 0))) hj (fun hj => ?_) (va_eqt (z := (2 : Int32)) (hs (Jvm.Cond.eq (Jvm.Term.elem (Jvm.Term.static "ReelBack$Costs" "ABOVE" "[I") (.int (5 : Int32))) (.int (2 : Int32))) (by decide +kernel)))
  refine m_orO (p := fun j => (Jvm.Term.elem (Jvm.Term.static "ReelBack$Costs" "ABOVE" "[I") (.int (Int32.ofNat j))).eval #[Value.ref b] s none [] s = some (.int (([-1, 0, 0, 2, 0, 2, 4] : List Int32).getD j 0))) hj (fun hj => ?_) (va_eqt (z := (0 : Int32)) (hs (Jvm.Cond.eq (Jvm.Term.elem (Jvm.Term.static "ReelBack$Costs" "ABOVE" "[I") (.int (4 : Int32))) (.int (0 : Int32))) (by decide +kernel)))
  refine m_orO (p := fun j => (Jvm.Term.elem (Jvm.Term.static "ReelBack$Costs" "ABOVE" "[I") (.int (Int32.ofNat j))).eval #[Value.ref b] s none [] s = some (.int (([-1, 0, 0, 2, 0, 2, 4] : List Int32).getD j 0))) hj (fun hj => ?_) (va_eqt (z := (2 : Int32)) (hs (Jvm.Cond.eq (Jvm.Term.elem (Jvm.Term.static "ReelBack$Costs" "ABOVE" "[I") (.int (3 : Int32))) (.int (2 : Int32))) (by decide +kernel)))
  refine m_orO (p := fun j => (Jvm.Term.elem (Jvm.Term.static "ReelBack$Costs" "ABOVE" "[I") (.int (Int32.ofNat j))).eval #[Value.ref b] s none [] s = some (.int (([-1, 0, 0, 2, 0, 2, 4] : List Int32).getD j 0))) hj (fun hj => ?_) (va_eqt (z := (0 : Int32)) (hs (Jvm.Cond.eq (Jvm.Term.elem (Jvm.Term.static "ReelBack$Costs" "ABOVE" "[I") (.int (2 : Int32))) (.int (0 : Int32))) (by decide +kernel)))
  refine m_orO (p := fun j => (Jvm.Term.elem (Jvm.Term.static "ReelBack$Costs" "ABOVE" "[I") (.int (Int32.ofNat j))).eval #[Value.ref b] s none [] s = some (.int (([-1, 0, 0, 2, 0, 2, 4] : List Int32).getD j 0))) hj (fun hj => ?_) (va_eqt (z := (0 : Int32)) (hs (Jvm.Cond.eq (Jvm.Term.elem (Jvm.Term.static "ReelBack$Costs" "ABOVE" "[I") (.int (1 : Int32))) (.int (0 : Int32))) (by decide +kernel)))
  refine m_orO (p := fun j => (Jvm.Term.elem (Jvm.Term.static "ReelBack$Costs" "ABOVE" "[I") (.int (Int32.ofNat j))).eval #[Value.ref b] s none [] s = some (.int (([-1, 0, 0, 2, 0, 2, 4] : List Int32).getD j 0))) hj (fun hj => ?_) (va_eqt (z := (-1 : Int32)) (hs (Jvm.Cond.eq (Jvm.Term.elem (Jvm.Term.static "ReelBack$Costs" "ABOVE" "[I") (.int (0 : Int32))) (.int (-1 : Int32))) (by decide +kernel)))
  exact absurd hj (Nat.not_lt_zero _)
theorem ls_bodies {s : State} {b : Nat} (hs : ∀ c ∈ flatC (Jvm.Cond.and given_1 narrow_1), c.before #[Value.ref b] s = true) : ∃ t : Nat, (Jvm.Term.static "ReelBack$Costs" "BODIES" "[I").eval #[Value.ref b] s none [] s = some (.ref t) ∧ va_T .int t 21 (fun j => .int (([10, 0, 30, 0, 0, 60, 0, 11, 20, 0, 0, 50, 0, 70, 12, 0, 0, 40, 0, 61, 0] : List Int32).getD j 0)) (fun q : Nat => s.heap.size ≤ q) s s.heap := by
  refine va_Tof (ty := .int) (N := 21) (by decide) (hs _ (by decide +kernel)) (va_eqt (t := Jvm.Term.length (Jvm.Term.static "ReelBack$Costs" "BODIES" "[I")) (z := (21 : Int32)) (hs (Jvm.Cond.eq (Jvm.Term.length (Jvm.Term.static "ReelBack$Costs" "BODIES" "[I")) (Jvm.Term.int (21 : Int32))) (by decide +kernel))) (fun j hj => ?_) (fun a ha => Nat.not_le.mpr ha)
  revert hj
  refine fun hj => ?_
  refine m_orO (p := fun j => (Jvm.Term.elem (Jvm.Term.static "ReelBack$Costs" "BODIES" "[I") (.int (Int32.ofNat j))).eval #[Value.ref b] s none [] s = some (.int (([10, 0, 30, 0, 0, 60, 0, 11, 20, 0, 0, 50, 0, 70, 12, 0, 0, 40, 0, 61, 0] : List Int32).getD j 0))) hj (fun hj => ?_) (va_eqt (z := (0 : Int32)) (hs (Jvm.Cond.eq (Jvm.Term.elem (Jvm.Term.static "ReelBack$Costs" "BODIES" "[I") (.int (20 : Int32))) (.int (0 : Int32))) (by decide +kernel)))
  refine m_orO (p := fun j => (Jvm.Term.elem (Jvm.Term.static "ReelBack$Costs" "BODIES" "[I") (.int (Int32.ofNat j))).eval #[Value.ref b] s none [] s = some (.int (([10, 0, 30, 0, 0, 60, 0, 11, 20, 0, 0, 50, 0, 70, 12, 0, 0, 40, 0, 61, 0] : List Int32).getD j 0))) hj (fun hj => ?_) (va_eqt (z := (61 : Int32)) (hs (Jvm.Cond.eq (Jvm.Term.elem (Jvm.Term.static "ReelBack$Costs" "BODIES" "[I") (.int (19 : Int32))) (.int (61 : Int32))) (by decide +kernel)))
  refine m_orO (p := fun j => (Jvm.Term.elem (Jvm.Term.static "ReelBack$Costs" "BODIES" "[I") (.int (Int32.ofNat j))).eval #[Value.ref b] s none [] s = some (.int (([10, 0, 30, 0, 0, 60, 0, 11, 20, 0, 0, 50, 0, 70, 12, 0, 0, 40, 0, 61, 0] : List Int32).getD j 0))) hj (fun hj => ?_) (va_eqt (z := (0 : Int32)) (hs (Jvm.Cond.eq (Jvm.Term.elem (Jvm.Term.static "ReelBack$Costs" "BODIES" "[I") (.int (18 : Int32))) (.int (0 : Int32))) (by decide +kernel)))
  refine m_orO (p := fun j => (Jvm.Term.elem (Jvm.Term.static "ReelBack$Costs" "BODIES" "[I") (.int (Int32.ofNat j))).eval #[Value.ref b] s none [] s = some (.int (([10, 0, 30, 0, 0, 60, 0, 11, 20, 0, 0, 50, 0, 70, 12, 0, 0, 40, 0, 61, 0] : List Int32).getD j 0))) hj (fun hj => ?_) (va_eqt (z := (40 : Int32)) (hs (Jvm.Cond.eq (Jvm.Term.elem (Jvm.Term.static "ReelBack$Costs" "BODIES" "[I") (.int (17 : Int32))) (.int (40 : Int32))) (by decide +kernel)))
  refine m_orO (p := fun j => (Jvm.Term.elem (Jvm.Term.static "ReelBack$Costs" "BODIES" "[I") (.int (Int32.ofNat j))).eval #[Value.ref b] s none [] s = some (.int (([10, 0, 30, 0, 0, 60, 0, 11, 20, 0, 0, 50, 0, 70, 12, 0, 0, 40, 0, 61, 0] : List Int32).getD j 0))) hj (fun hj => ?_) (va_eqt (z := (0 : Int32)) (hs (Jvm.Cond.eq (Jvm.Term.elem (Jvm.Term.static "ReelBack$Costs" "BODIES" "[I") (.int (16 : Int32))) (.int (0 : Int32))) (by decide +kernel)))
  refine m_orO (p := fun j => (Jvm.Term.elem (Jvm.Term.static "ReelBack$Costs" "BODIES" "[I") (.int (Int32.ofNat j))).eval #[Value.ref b] s none [] s = some (.int (([10, 0, 30, 0, 0, 60, 0, 11, 20, 0, 0, 50, 0, 70, 12, 0, 0, 40, 0, 61, 0] : List Int32).getD j 0))) hj (fun hj => ?_) (va_eqt (z := (0 : Int32)) (hs (Jvm.Cond.eq (Jvm.Term.elem (Jvm.Term.static "ReelBack$Costs" "BODIES" "[I") (.int (15 : Int32))) (.int (0 : Int32))) (by decide +kernel)))
  refine m_orO (p := fun j => (Jvm.Term.elem (Jvm.Term.static "ReelBack$Costs" "BODIES" "[I") (.int (Int32.ofNat j))).eval #[Value.ref b] s none [] s = some (.int (([10, 0, 30, 0, 0, 60, 0, 11, 20, 0, 0, 50, 0, 70, 12, 0, 0, 40, 0, 61, 0] : List Int32).getD j 0))) hj (fun hj => ?_) (va_eqt (z := (12 : Int32)) (hs (Jvm.Cond.eq (Jvm.Term.elem (Jvm.Term.static "ReelBack$Costs" "BODIES" "[I") (.int (14 : Int32))) (.int (12 : Int32))) (by decide +kernel)))
  refine m_orO (p := fun j => (Jvm.Term.elem (Jvm.Term.static "ReelBack$Costs" "BODIES" "[I") (.int (Int32.ofNat j))).eval #[Value.ref b] s none [] s = some (.int (([10, 0, 30, 0, 0, 60, 0, 11, 20, 0, 0, 50, 0, 70, 12, 0, 0, 40, 0, 61, 0] : List Int32).getD j 0))) hj (fun hj => ?_) (va_eqt (z := (70 : Int32)) (hs (Jvm.Cond.eq (Jvm.Term.elem (Jvm.Term.static "ReelBack$Costs" "BODIES" "[I") (.int (13 : Int32))) (.int (70 : Int32))) (by decide +kernel)))
  refine m_orO (p := fun j => (Jvm.Term.elem (Jvm.Term.static "ReelBack$Costs" "BODIES" "[I") (.int (Int32.ofNat j))).eval #[Value.ref b] s none [] s = some (.int (([10, 0, 30, 0, 0, 60, 0, 11, 20, 0, 0, 50, 0, 70, 12, 0, 0, 40, 0, 61, 0] : List Int32).getD j 0))) hj (fun hj => ?_) (va_eqt (z := (0 : Int32)) (hs (Jvm.Cond.eq (Jvm.Term.elem (Jvm.Term.static "ReelBack$Costs" "BODIES" "[I") (.int (12 : Int32))) (.int (0 : Int32))) (by decide +kernel)))
  refine m_orO (p := fun j => (Jvm.Term.elem (Jvm.Term.static "ReelBack$Costs" "BODIES" "[I") (.int (Int32.ofNat j))).eval #[Value.ref b] s none [] s = some (.int (([10, 0, 30, 0, 0, 60, 0, 11, 20, 0, 0, 50, 0, 70, 12, 0, 0, 40, 0, 61, 0] : List Int32).getD j 0))) hj (fun hj => ?_) (va_eqt (z := (50 : Int32)) (hs (Jvm.Cond.eq (Jvm.Term.elem (Jvm.Term.static "ReelBack$Costs" "BODIES" "[I") (.int (11 : Int32))) (.int (50 : Int32))) (by decide +kernel)))
  refine m_orO (p := fun j => (Jvm.Term.elem (Jvm.Term.static "ReelBack$Costs" "BODIES" "[I") (.int (Int32.ofNat j))).eval #[Value.ref b] s none [] s = some (.int (([10, 0, 30, 0, 0, 60, 0, 11, 20, 0, 0, 50, 0, 70, 12, 0, 0, 40, 0, 61, 0] : List Int32).getD j 0))) hj (fun hj => ?_) (va_eqt (z := (0 : Int32)) (hs (Jvm.Cond.eq (Jvm.Term.elem (Jvm.Term.static "ReelBack$Costs" "BODIES" "[I") (.int (10 : Int32))) (.int (0 : Int32))) (by decide +kernel)))
  refine m_orO (p := fun j => (Jvm.Term.elem (Jvm.Term.static "ReelBack$Costs" "BODIES" "[I") (.int (Int32.ofNat j))).eval #[Value.ref b] s none [] s = some (.int (([10, 0, 30, 0, 0, 60, 0, 11, 20, 0, 0, 50, 0, 70, 12, 0, 0, 40, 0, 61, 0] : List Int32).getD j 0))) hj (fun hj => ?_) (va_eqt (z := (0 : Int32)) (hs (Jvm.Cond.eq (Jvm.Term.elem (Jvm.Term.static "ReelBack$Costs" "BODIES" "[I") (.int (9 : Int32))) (.int (0 : Int32))) (by decide +kernel)))
  refine m_orO (p := fun j => (Jvm.Term.elem (Jvm.Term.static "ReelBack$Costs" "BODIES" "[I") (.int (Int32.ofNat j))).eval #[Value.ref b] s none [] s = some (.int (([10, 0, 30, 0, 0, 60, 0, 11, 20, 0, 0, 50, 0, 70, 12, 0, 0, 40, 0, 61, 0] : List Int32).getD j 0))) hj (fun hj => ?_) (va_eqt (z := (20 : Int32)) (hs (Jvm.Cond.eq (Jvm.Term.elem (Jvm.Term.static "ReelBack$Costs" "BODIES" "[I") (.int (8 : Int32))) (.int (20 : Int32))) (by decide +kernel)))
  refine m_orO (p := fun j => (Jvm.Term.elem (Jvm.Term.static "ReelBack$Costs" "BODIES" "[I") (.int (Int32.ofNat j))).eval #[Value.ref b] s none [] s = some (.int (([10, 0, 30, 0, 0, 60, 0, 11, 20, 0, 0, 50, 0, 70, 12, 0, 0, 40, 0, 61, 0] : List Int32).getD j 0))) hj (fun hj => ?_) (va_eqt (z := (11 : Int32)) (hs (Jvm.Cond.eq (Jvm.Term.elem (Jvm.Term.static "ReelBack$Costs" "BODIES" "[I") (.int (7 : Int32))) (.int (11 : Int32))) (by decide +kernel)))
  refine m_orO (p := fun j => (Jvm.Term.elem (Jvm.Term.static "ReelBack$Costs" "BODIES" "[I") (.int (Int32.ofNat j))).eval #[Value.ref b] s none [] s = some (.int (([10, 0, 30, 0, 0, 60, 0, 11, 20, 0, 0, 50, 0, 70, 12, 0, 0, 40, 0, 61, 0] : List Int32).getD j 0))) hj (fun hj => ?_) (va_eqt (z := (0 : Int32)) (hs (Jvm.Cond.eq (Jvm.Term.elem (Jvm.Term.static "ReelBack$Costs" "BODIES" "[I") (.int (6 : Int32))) (.int (0 : Int32))) (by decide +kernel)))
  refine m_orO (p := fun j => (Jvm.Term.elem (Jvm.Term.static "ReelBack$Costs" "BODIES" "[I") (.int (Int32.ofNat j))).eval #[Value.ref b] s none [] s = some (.int (([10, 0, 30, 0, 0, 60, 0, 11, 20, 0, 0, 50, 0, 70, 12, 0, 0, 40, 0, 61, 0] : List Int32).getD j 0))) hj (fun hj => ?_) (va_eqt (z := (60 : Int32)) (hs (Jvm.Cond.eq (Jvm.Term.elem (Jvm.Term.static "ReelBack$Costs" "BODIES" "[I") (.int (5 : Int32))) (.int (60 : Int32))) (by decide +kernel)))
  refine m_orO (p := fun j => (Jvm.Term.elem (Jvm.Term.static "ReelBack$Costs" "BODIES" "[I") (.int (Int32.ofNat j))).eval #[Value.ref b] s none [] s = some (.int (([10, 0, 30, 0, 0, 60, 0, 11, 20, 0, 0, 50, 0, 70, 12, 0, 0, 40, 0, 61, 0] : List Int32).getD j 0))) hj (fun hj => ?_) (va_eqt (z := (0 : Int32)) (hs (Jvm.Cond.eq (Jvm.Term.elem (Jvm.Term.static "ReelBack$Costs" "BODIES" "[I") (.int (4 : Int32))) (.int (0 : Int32))) (by decide +kernel)))
  refine m_orO (p := fun j => (Jvm.Term.elem (Jvm.Term.static "ReelBack$Costs" "BODIES" "[I") (.int (Int32.ofNat j))).eval #[Value.ref b] s none [] s = some (.int (([10, 0, 30, 0, 0, 60, 0, 11, 20, 0, 0, 50, 0, 70, 12, 0, 0, 40, 0, 61, 0] : List Int32).getD j 0))) hj (fun hj => ?_) (va_eqt (z := (0 : Int32)) (hs (Jvm.Cond.eq (Jvm.Term.elem (Jvm.Term.static "ReelBack$Costs" "BODIES" "[I") (.int (3 : Int32))) (.int (0 : Int32))) (by decide +kernel)))
  refine m_orO (p := fun j => (Jvm.Term.elem (Jvm.Term.static "ReelBack$Costs" "BODIES" "[I") (.int (Int32.ofNat j))).eval #[Value.ref b] s none [] s = some (.int (([10, 0, 30, 0, 0, 60, 0, 11, 20, 0, 0, 50, 0, 70, 12, 0, 0, 40, 0, 61, 0] : List Int32).getD j 0))) hj (fun hj => ?_) (va_eqt (z := (30 : Int32)) (hs (Jvm.Cond.eq (Jvm.Term.elem (Jvm.Term.static "ReelBack$Costs" "BODIES" "[I") (.int (2 : Int32))) (.int (30 : Int32))) (by decide +kernel)))
  refine m_orO (p := fun j => (Jvm.Term.elem (Jvm.Term.static "ReelBack$Costs" "BODIES" "[I") (.int (Int32.ofNat j))).eval #[Value.ref b] s none [] s = some (.int (([10, 0, 30, 0, 0, 60, 0, 11, 20, 0, 0, 50, 0, 70, 12, 0, 0, 40, 0, 61, 0] : List Int32).getD j 0))) hj (fun hj => ?_) (va_eqt (z := (0 : Int32)) (hs (Jvm.Cond.eq (Jvm.Term.elem (Jvm.Term.static "ReelBack$Costs" "BODIES" "[I") (.int (1 : Int32))) (.int (0 : Int32))) (by decide +kernel)))
  refine m_orO (p := fun j => (Jvm.Term.elem (Jvm.Term.static "ReelBack$Costs" "BODIES" "[I") (.int (Int32.ofNat j))).eval #[Value.ref b] s none [] s = some (.int (([10, 0, 30, 0, 0, 60, 0, 11, 20, 0, 0, 50, 0, 70, 12, 0, 0, 40, 0, 61, 0] : List Int32).getD j 0))) hj (fun hj => ?_) (va_eqt (z := (10 : Int32)) (hs (Jvm.Cond.eq (Jvm.Term.elem (Jvm.Term.static "ReelBack$Costs" "BODIES" "[I") (.int (0 : Int32))) (.int (10 : Int32))) (by decide +kernel)))
  exact absurd hj (Nat.not_lt_zero _)
theorem ls_acts {s : State} {b : Nat} (hs : ∀ c ∈ flatC (Jvm.Cond.and given_1 narrow_1), c.before #[Value.ref b] s = true) : ∃ t : Nat, (Jvm.Term.static "ReelBack$Claims" "WITHOUT_ACT" "[I").eval #[Value.ref b] s none [] s = some (.ref t) ∧ va_T .int t 5 (fun j => .int (([100, 30, 0, 99999999, 0] : List Int32).getD j 0)) (fun q : Nat => s.heap.size ≤ q) s s.heap := by
  refine va_Tof (ty := .int) (N := 5) (by decide) (hs _ (by decide +kernel)) (va_eqt (t := Jvm.Term.length (Jvm.Term.static "ReelBack$Claims" "WITHOUT_ACT" "[I")) (z := (5 : Int32)) (hs (Jvm.Cond.eq (Jvm.Term.length (Jvm.Term.static "ReelBack$Claims" "WITHOUT_ACT" "[I")) (Jvm.Term.int (5 : Int32))) (by decide +kernel))) (fun j hj => ?_) (fun a ha => Nat.not_le.mpr ha)
  revert hj
  refine fun hj => ?_
  refine m_orO (p := fun j => (Jvm.Term.elem (Jvm.Term.static "ReelBack$Claims" "WITHOUT_ACT" "[I") (.int (Int32.ofNat j))).eval #[Value.ref b] s none [] s = some (.int (([100, 30, 0, 99999999, 0] : List Int32).getD j 0))) hj (fun hj => ?_) (va_eqt (z := (0 : Int32)) (hs (Jvm.Cond.eq (Jvm.Term.elem (Jvm.Term.static "ReelBack$Claims" "WITHOUT_ACT" "[I") (.int (4 : Int32))) (.int (0 : Int32))) (by decide +kernel)))
  refine m_orO (p := fun j => (Jvm.Term.elem (Jvm.Term.static "ReelBack$Claims" "WITHOUT_ACT" "[I") (.int (Int32.ofNat j))).eval #[Value.ref b] s none [] s = some (.int (([100, 30, 0, 99999999, 0] : List Int32).getD j 0))) hj (fun hj => ?_) (va_eqt (z := (99999999 : Int32)) (hs (Jvm.Cond.eq (Jvm.Term.elem (Jvm.Term.static "ReelBack$Claims" "WITHOUT_ACT" "[I") (.int (3 : Int32))) (.int (99999999 : Int32))) (by decide +kernel)))
  refine m_orO (p := fun j => (Jvm.Term.elem (Jvm.Term.static "ReelBack$Claims" "WITHOUT_ACT" "[I") (.int (Int32.ofNat j))).eval #[Value.ref b] s none [] s = some (.int (([100, 30, 0, 99999999, 0] : List Int32).getD j 0))) hj (fun hj => ?_) (va_eqt (z := (0 : Int32)) (hs (Jvm.Cond.eq (Jvm.Term.elem (Jvm.Term.static "ReelBack$Claims" "WITHOUT_ACT" "[I") (.int (2 : Int32))) (.int (0 : Int32))) (by decide +kernel)))
  refine m_orO (p := fun j => (Jvm.Term.elem (Jvm.Term.static "ReelBack$Claims" "WITHOUT_ACT" "[I") (.int (Int32.ofNat j))).eval #[Value.ref b] s none [] s = some (.int (([100, 30, 0, 99999999, 0] : List Int32).getD j 0))) hj (fun hj => ?_) (va_eqt (z := (30 : Int32)) (hs (Jvm.Cond.eq (Jvm.Term.elem (Jvm.Term.static "ReelBack$Claims" "WITHOUT_ACT" "[I") (.int (1 : Int32))) (.int (30 : Int32))) (by decide +kernel)))
  refine m_orO (p := fun j => (Jvm.Term.elem (Jvm.Term.static "ReelBack$Claims" "WITHOUT_ACT" "[I") (.int (Int32.ofNat j))).eval #[Value.ref b] s none [] s = some (.int (([100, 30, 0, 99999999, 0] : List Int32).getD j 0))) hj (fun hj => ?_) (va_eqt (z := (100 : Int32)) (hs (Jvm.Cond.eq (Jvm.Term.elem (Jvm.Term.static "ReelBack$Claims" "WITHOUT_ACT" "[I") (.int (0 : Int32))) (.int (100 : Int32))) (by decide +kernel)))
  exact absurd hj (Nat.not_lt_zero _)
theorem ls_str {s : State} {b : Nat} (hs : ∀ c ∈ flatC (Jvm.Cond.and given_1 narrow_1), c.before #[Value.ref b] s = true) : ∃ k v : Nat, (Jvm.Term.string "ReelBack$Reader" 54).eval #[Value.ref b] s none [] s = some (.ref k) ∧ va_O "java/lang/String" k (fun q : Nat => s.heap.size ≤ q) s s.heap ∧
    va_OF "java/lang/String" "coder" "B" (.int 0) k (fun q : Nat => s.heap.size ≤ q) s s.heap ∧ va_OF "java/lang/String" "value" "[B" (.ref v) k (fun q : Nat => s.heap.size ≤ q) s s.heap ∧ va_T .byte v 10 (fun j => .int (([107, 115, 99, 101, 108, 114, 121, 112, 110, 106] : List Int32).getD j 0)) (fun q : Nat => s.heap.size ≤ q) s s.heap := by
  have key : ∀ i : Nat, i < 1 → i = 0 := fun i h => by omega
  obtain ⟨adK, adV, h1, h2⟩ := vk_Sof (args := #[Value.ref b]) (s := s) (N := 1) (tm := fun _ => Jvm.Term.string "ReelBack$Reader" 54) (len := [10]) (byt := [[107, 115, 99, 101, 108, 114, 121, 112, 110, 106]]) (A := fun q : Nat => s.heap.size ≤ q)
    (fun i hi => by rw [key i hi]; decide) (fun i hi => hs _ (by decide +kernel)) (fun i hi => hs _ (by decide +kernel)) (fun i hi => hs _ (by decide +kernel)) (fun i hi => by rw [key i hi]; exact hs (Jvm.Cond.eq (.length (.field (Jvm.Term.string "ReelBack$Reader" 54) "java/lang/String" "value" "[B")) (.int (10 : Int32))) (by decide +kernel))
    (fun i hi j hj => by
      have e := key i hi
      subst e
      have hj : j < 10 := hj
      refine m_orO (p := fun j => (Cond.eq (.elem (.field (Jvm.Term.string "ReelBack$Reader" 54) "java/lang/String" "value" "[B") (.int (Int32.ofNat j))) (.int ((([[107, 115, 99, 101, 108, 114, 121, 112, 110, 106]] : List (List Int32)).getD 0 []).getD j 0))).before #[Value.ref b] s = true) hj (fun hj => ?_) (hs (Jvm.Cond.eq (.elem (.field (Jvm.Term.string "ReelBack$Reader" 54) "java/lang/String" "value" "[B") (.int (9 : Int32))) (.int (106 : Int32))) (by decide +kernel))
      refine m_orO (p := fun j => (Cond.eq (.elem (.field (Jvm.Term.string "ReelBack$Reader" 54) "java/lang/String" "value" "[B") (.int (Int32.ofNat j))) (.int ((([[107, 115, 99, 101, 108, 114, 121, 112, 110, 106]] : List (List Int32)).getD 0 []).getD j 0))).before #[Value.ref b] s = true) hj (fun hj => ?_) (hs (Jvm.Cond.eq (.elem (.field (Jvm.Term.string "ReelBack$Reader" 54) "java/lang/String" "value" "[B") (.int (8 : Int32))) (.int (110 : Int32))) (by decide +kernel))
      refine m_orO (p := fun j => (Cond.eq (.elem (.field (Jvm.Term.string "ReelBack$Reader" 54) "java/lang/String" "value" "[B") (.int (Int32.ofNat j))) (.int ((([[107, 115, 99, 101, 108, 114, 121, 112, 110, 106]] : List (List Int32)).getD 0 []).getD j 0))).before #[Value.ref b] s = true) hj (fun hj => ?_) (hs (Jvm.Cond.eq (.elem (.field (Jvm.Term.string "ReelBack$Reader" 54) "java/lang/String" "value" "[B") (.int (7 : Int32))) (.int (112 : Int32))) (by decide +kernel))
      refine m_orO (p := fun j => (Cond.eq (.elem (.field (Jvm.Term.string "ReelBack$Reader" 54) "java/lang/String" "value" "[B") (.int (Int32.ofNat j))) (.int ((([[107, 115, 99, 101, 108, 114, 121, 112, 110, 106]] : List (List Int32)).getD 0 []).getD j 0))).before #[Value.ref b] s = true) hj (fun hj => ?_) (hs (Jvm.Cond.eq (.elem (.field (Jvm.Term.string "ReelBack$Reader" 54) "java/lang/String" "value" "[B") (.int (6 : Int32))) (.int (121 : Int32))) (by decide +kernel))
      refine m_orO (p := fun j => (Cond.eq (.elem (.field (Jvm.Term.string "ReelBack$Reader" 54) "java/lang/String" "value" "[B") (.int (Int32.ofNat j))) (.int ((([[107, 115, 99, 101, 108, 114, 121, 112, 110, 106]] : List (List Int32)).getD 0 []).getD j 0))).before #[Value.ref b] s = true) hj (fun hj => ?_) (hs (Jvm.Cond.eq (.elem (.field (Jvm.Term.string "ReelBack$Reader" 54) "java/lang/String" "value" "[B") (.int (5 : Int32))) (.int (114 : Int32))) (by decide +kernel))
      refine m_orO (p := fun j => (Cond.eq (.elem (.field (Jvm.Term.string "ReelBack$Reader" 54) "java/lang/String" "value" "[B") (.int (Int32.ofNat j))) (.int ((([[107, 115, 99, 101, 108, 114, 121, 112, 110, 106]] : List (List Int32)).getD 0 []).getD j 0))).before #[Value.ref b] s = true) hj (fun hj => ?_) (hs (Jvm.Cond.eq (.elem (.field (Jvm.Term.string "ReelBack$Reader" 54) "java/lang/String" "value" "[B") (.int (4 : Int32))) (.int (108 : Int32))) (by decide +kernel))
      refine m_orO (p := fun j => (Cond.eq (.elem (.field (Jvm.Term.string "ReelBack$Reader" 54) "java/lang/String" "value" "[B") (.int (Int32.ofNat j))) (.int ((([[107, 115, 99, 101, 108, 114, 121, 112, 110, 106]] : List (List Int32)).getD 0 []).getD j 0))).before #[Value.ref b] s = true) hj (fun hj => ?_) (hs (Jvm.Cond.eq (.elem (.field (Jvm.Term.string "ReelBack$Reader" 54) "java/lang/String" "value" "[B") (.int (3 : Int32))) (.int (101 : Int32))) (by decide +kernel))
      refine m_orO (p := fun j => (Cond.eq (.elem (.field (Jvm.Term.string "ReelBack$Reader" 54) "java/lang/String" "value" "[B") (.int (Int32.ofNat j))) (.int ((([[107, 115, 99, 101, 108, 114, 121, 112, 110, 106]] : List (List Int32)).getD 0 []).getD j 0))).before #[Value.ref b] s = true) hj (fun hj => ?_) (hs (Jvm.Cond.eq (.elem (.field (Jvm.Term.string "ReelBack$Reader" 54) "java/lang/String" "value" "[B") (.int (2 : Int32))) (.int (99 : Int32))) (by decide +kernel))
      refine m_orO (p := fun j => (Cond.eq (.elem (.field (Jvm.Term.string "ReelBack$Reader" 54) "java/lang/String" "value" "[B") (.int (Int32.ofNat j))) (.int ((([[107, 115, 99, 101, 108, 114, 121, 112, 110, 106]] : List (List Int32)).getD 0 []).getD j 0))).before #[Value.ref b] s = true) hj (fun hj => ?_) (hs (Jvm.Cond.eq (.elem (.field (Jvm.Term.string "ReelBack$Reader" 54) "java/lang/String" "value" "[B") (.int (1 : Int32))) (.int (115 : Int32))) (by decide +kernel))
      refine m_orO (p := fun j => (Cond.eq (.elem (.field (Jvm.Term.string "ReelBack$Reader" 54) "java/lang/String" "value" "[B") (.int (Int32.ofNat j))) (.int ((([[107, 115, 99, 101, 108, 114, 121, 112, 110, 106]] : List (List Int32)).getD 0 []).getD j 0))).before #[Value.ref b] s = true) hj (fun hj => ?_) (hs (Jvm.Cond.eq (.elem (.field (Jvm.Term.string "ReelBack$Reader" 54) "java/lang/String" "value" "[B") (.int (0 : Int32))) (.int (107 : Int32))) (by decide +kernel))
      exact absurd hj (Nat.not_lt_zero _))
    (fun i j hi hj hij => absurd ((key i hi).trans (key j hj).symm) hij) (fun a ha => Nat.not_le.mpr ha)
  obtain ⟨g1, g2, g3, g4⟩ := h1.1 0 (by decide)
  exact ⟨adK 0, adV 0, h2 0 (by decide), g1, g2, g3, g4⟩
theorem ls_cls {s : State} {b : Nat} (hts : ∀ w ∈ lw_tbl, w.before #[Value.ref b] s = true) : ∃ D : va_G, ∀ (k : Nat) (q : vw_C), vwCl[k]? = some q → u_Kn s q.1 q.2.1 q.2.2 (D.1 k) (D.2 k) := by
  have h : ∀ k : Nat, ∃ x : ClassId × (Nat → Nat), ∀ q : vw_C, vwCl[k]? = some q → u_Kn s q.1 q.2.1 q.2.2 x.1 x.2 := by
    intro k
    cases hk : vwCl[k]? with
    | none => exact ⟨(0, fun _ => 0), fun q hq => by cases hq⟩
    | some q =>
      obtain ⟨C, T, N⟩ := q
      obtain ⟨h1, h2, h3⟩ := pgLay_ok hk
      obtain ⟨c0, i0, hKn⟩ := u_known (C := C) (T := T) (N := N) (n := N) (args := #[Value.ref b]) (s := s) (ws := lw_tbl) hts h1 (hts _ h2)
      exact ⟨(c0, i0), fun q hq => by cases hq; exact hKn⟩
  exact ⟨(fun k => (Classical.choose (h k)).1, fun k => (Classical.choose (h k)).2), fun k q hq => Classical.choose_spec (h k) q hq⟩
theorem ls_arr {s : State} {b : Nat} {ty : FieldType} (h : (Cond.arrayClass ty).before #[Value.ref b] s = true) : ∃ cA : ClassId, ArrOfT s cA ty ∧ s.vm.findClass ("[" ++ ty.toString) = some cA := by
  obtain ⟨c, k, comp, h1, h2, h3⟩ := Cond.arrayClass_spec h
  exact ⟨c, fun n z => ⟨(fun k h => by cases h), k, h2, comp, h3⟩, h1⟩
theorem ls_ctx {s : State} {b L : Nat} {xs : Nat → Int32} (hts : ∀ w ∈ lw_tbl, w.before #[Value.ref b] s = true) (hgv : (Jvm.Cond.and given_1 narrow_1).before #[Value.ref b] s = true) (hX : va_X b L xs s s.heap) (hbl : b < s.heap.size) : ∃ (X : Nat → Nat) (dT : Nat → ClassId) (D : va_G), X 0 = b ∧ mCtx s.heap.size L xs X dT D s := by
  have hs := flat_of_before _ hgv
  have hA : ∀ a : Nat, a < s.heap.size → ¬ (s.heap.size ≤ a) := fun a ha => Nat.not_le.mpr ha
  obtain ⟨D, hD⟩ := ls_cls hts
  obtain ⟨cI, hI, nI⟩ := ls_arr (hts _ aw_int)
  obtain ⟨cZ, hZ, nZ⟩ := ls_arr (hts _ aw_bool)
  obtain ⟨cJ, hJ, nJ⟩ := ls_arr (hts _ aw_long)
  obtain ⟨compC, cC, kC, oc1, -, oc3, oc4, oc5⟩ := Cond.arrayOver_spec (hts _ aw_cost)
  obtain ⟨compA, cA, kA, oa1, -, oa3, oa4, oa5⟩ := arrayOverA_spec (hts _ aw_ints)
  obtain ⟨t1, e1, T1⟩ := ls_above hs
  obtain ⟨t2, e2, T2⟩ := ls_bodies hs
  obtain ⟨t3, e3, T3⟩ := ls_acts hs
  obtain ⟨k4, v5, e4, O4, C4, V4, B5⟩ := ls_str hs
  have hcA : compA = cI := Option.some.inj (oa1.symm.trans nI)
  subst hcA
  refine ⟨fun k => if k = 0 then b else if k = 1 then t1 else if k = 2 then t2 else if k = 3 then t3 else if k = 4 then k4 else v5, fun t => if t = 0 then compA else if t = 1 then cZ else if t = 2 then cJ else if t = 3 then cC else cA, D, rfl, m_selfW hts, ?_, ⟨hD, ?_⟩, ⟨?_, ?_, ?_, O4, C4, V4⟩, ?_, ?_, ?_, ⟨kA, oa3, oa4⟩, ?_⟩
  · intro w hw hn
    have hz := hts w hw
    cases w <;> first | (cases hn; done) | exact va_Nw.of rfl hz
  · intro k q hq
    have hk : k < 5 := (List.getElem?_eq_some_iff.mp hq).1
    rcases (by omega : k = 0 ∨ k = 1 ∨ k = 2 ∨ k = 3 ∨ k = 4) with e | e | e | e | e <;> subst e <;> cases hq
    · exact ⟨hI, nI⟩
    · exact ⟨hZ, nZ⟩
    · exact ⟨hJ, nJ⟩
    · exact ⟨fun n z => ⟨(fun k h => by cases h), kC, oc3, compC, oc4⟩, kC, compC, oc3, oc4, oc1, oc5⟩
    · exact ⟨fun n z => ⟨(fun k h => by cases h), kA, oa3, compA, oa4⟩, oa5⟩
  · intro k t n f hk
    match k, hk with
    | 0, hk =>
      cases hk
      obtain ⟨scr, h1, h2, h3, h4, h5⟩ := hX
      exact ⟨scr, h1, h2, h3, Nat.le_of_eq h4.symm, by rw [h4], h5, hA b hbl⟩
    | 1, hk => cases hk; exact T1
    | 2, hk => cases hk; exact T2
    | 3, hk => cases hk; exact T3
    | 4, hk => cases hk
    | 5, hk => cases hk; exact B5
    | k + 6, hk => cases hk
  · intro a h1 h2
    rcases (by omega : a = 1 ∨ a = 2 ∨ a = 3) with e | e | e <;> subst e
    · exact va_Zof (hts _ aw_ls1) (hts _ aw_li1) e1 hA
    · exact va_Zof (hts _ aw_ls2) (hts _ aw_li1) e2 hA
    · exact va_Zof (hts _ aw_ls3) (hts _ aw_li3) e3 hA
  · exact va_Zof (hts _ aw_ls4) (hts _ aw_li4) (va_eqi (hs _ (by decide +kernel))) hA
  · exact hts _ aw_cost
  · exact mAO_use (A := #[]) (hts _ aw_ints)
  · exact va_Nw.of rfl (hts _ aw_cc)
  · exact vk_R.of (hts _ aw_sr) e4
end
section
/-! RUNS WITHOUT COUNTING STEPS -/
theorem m_run_more {L : Nat} {xs : Nat → Int32} : ∀ (n k d mid pc : Nat) (lv : mL) (st : List Value) (w : mWd) (r : Option Value × mWd), m_run L xs n d mid pc lv st w = some r → m_run L xs (n + k) d mid pc lv st w = some r := by
  intro n
  induction n with
  | zero => intro k d mid pc lv st w r h; cases h
  | succ n ih =>
    intro k d mid pc lv st w r h
    rw [show n + 1 + k = (n + k) + 1 by omega]
    cases d with
    | zero => cases h
    | succ d =>
      simp only [m_run] at h ⊢
      split at h
      next => cases h
      next ins q hf =>
        try rw [hf]
        try dsimp only
        split at h
        next => cases h
        next pc' l' st' w' hs =>
          try rw [hs]
          exact ih k _ _ _ _ _ _ _ h
        next y as rr hs =>
          try rw [hs]
          try dsimp only
          split at h
          next => cases h
          next v2 w2 h2 =>
            rw [ih k _ _ _ _ _ _ _ h2]
            exact ih k _ _ _ _ _ _ _ h
        next v2 hs =>
          try rw [hs]
          exact h
def Rn (L : Nat) (xs : Nat → Int32) (d mid pc : Nat) (lv : mL) (st : List Value) (w : mWd) (Q : Option Value → mWd → Prop) : Prop := ∃ (n : Nat) (v : Option Value) (w1 : mWd), m_run L xs n d mid pc lv st w = some (v, w1) ∧ Q v w1
section RNL
variable {L : Nat} {xs : Nat → Int32} {d mid pc : Nat} {lv : mL} {st : List Value} {w : mWd} {Q Q' : Option Value → mWd → Prop} {ins : Instr} {k : Nat}
theorem Rn.mono (h : Rn L xs d mid pc lv st w Q) (hQ : ∀ v w1, Q v w1 → Q' v w1) : Rn L xs d mid pc lv st w Q' := by
  obtain ⟨n, v, w1, h1, h2⟩ := h
  exact ⟨n, v, w1, h1, hQ v w1 h2⟩
theorem Rn.step {pc' : Nat} {l' : mL} {st' : List Value} {w' : mWd} (hf : pgF mid pc = some (ins, k)) (hs : m_step L xs mid pc lv st w ins = some (.inl (pc', l', st', w'))) (h : Rn L xs (d + 1) mid pc' l' st' w' Q) : Rn L xs (d + 1) mid pc lv st w Q := by
  obtain ⟨n, v, w1, h1, h2⟩ := h
  refine ⟨n + 1, v, w1, ?_, h2⟩
  simp only [m_run, hf, hs]
  exact h1
theorem Rn.call {y : Nat} {as r : List Value} (hf : pgF mid pc = some (ins, k)) (hs : m_step L xs mid pc lv st w ins = some (.inr (.inl (y, as, r)))) (h : Rn L xs d y 0 (lv_args 0 as) [] w (fun v w1 => Rn L xs (d + 1) mid (pc + 3) lv (v.toList ++ r) w1 Q)) : Rn L xs (d + 1) mid pc lv st w Q := by
  obtain ⟨n, v, w1, h1, n2, v2, w2, h2, h3⟩ := h
  refine ⟨(n + n2) + 1, v2, w2, ?_, h3⟩
  simp only [m_run, hf, hs]
  rw [m_run_more n n2 _ _ _ _ _ _ _ h1]
  dsimp only
  rw [Nat.add_comm n n2]
  exact m_run_more n2 n _ _ _ _ _ _ _ h2
theorem Rn.ret {v : Option Value} (hf : pgF mid pc = some (ins, k)) (hs : m_step L xs mid pc lv st w ins = some (.inr (.inr v))) (h : Q v w) : Rn L xs (d + 1) mid pc lv st w Q := by
  refine ⟨1, v, w, ?_, h⟩
  simp only [m_run, hf, hs]
end RNL
/-- the run up to a place of its own frame -/
def m_to (L : Nat) (xs : Nat → Int32) (tgt : Nat) : Nat → Nat → Nat → Nat → mL → List Value → mWd → Option (mL × List Value × mWd)
  | 0, _, _, _, _, _, _ => none
  | _ + 1, 0, _, _, _, _, _ => none
  | n + 1, d + 1, mid, pc, l, st, w => bif Nat.beq pc tgt then some (l, st, w) else (match pgF mid pc with
    | none => none
    | some (ins, _) => (match m_step L xs mid pc l st w ins with
      | none => none
      | some (.inl (pc', l', st', w')) => m_to L xs tgt n (d + 1) mid pc' l' st' w'
      | some (.inr (.inl (y, as, r))) => (match m_run L xs n d y 0 (lv_args 0 as) [] w with
        | none => none
        | some (v, w1) => m_to L xs tgt n (d + 1) mid (pc + 3) l (v.toList ++ r) w1)
      | some (.inr (.inr _)) => none))
theorem m_to_ok {L : Nat} {xs : Nat → Int32} {tgt : Nat} {Q : Option Value → mWd → Prop} : ∀ (n d mid pc : Nat) (lv : mL) (st : List Value) (w : mWd) (q : mL × List Value × mWd), m_to L xs tgt n d mid pc lv st w = some q → Rn L xs d mid tgt q.1 q.2.1 q.2.2 Q → Rn L xs d mid pc lv st w Q := by
  intro n
  induction n with
  | zero => intro d mid pc lv st w q h; cases h
  | succ n ih =>
    intro d mid pc lv st w q h hq
    cases d with
    | zero => cases h
    | succ d =>
      simp only [m_to] at h
      cases hb : Nat.beq pc tgt with
      | true =>
        rw [hb] at h
        cases h
        have e := Nat.eq_of_beq_eq_true hb
        subst e
        exact hq
      | false =>
        rw [hb] at h
        simp only [cond_false] at h
        split at h
        next => cases h
        next ins k hf =>
          split at h
          next => cases h
          next pc' l' st' w' hs => exact Rn.step hf hs (ih _ _ _ _ _ _ _ h hq)
          next y as r hs =>
            split at h
            next => cases h
            next v w1 h2 => exact Rn.call hf hs ⟨n, v, w1, h2, ih _ _ _ _ _ _ _ h hq⟩
          next => cases h
end
section
theorem lw_h : (m_run 0 (fun _ => 0) 6000 20 47 0 [(0, .ref 0)] [] [.inr (5, [.null, .null, .null, .int 0])]).isSome = true := by decide +kernel
theorem lw_t18 : (m_to 0 (fun _ => 0) 18 20000 20 274 0 [(0, .retAddr 0)] [] []).isSome = true := by decide +kernel
end
section
theorem i32_nat {k : Nat} (h : k < 2147483648) : (Int32.ofNat k).toInt = k := by
  rw [Int32.toInt_ofNat_of_lt h]
theorem i32_clamp {k : Nat} (h : k < 2147483648) : (Int32.ofNat k).toNatClampNeg = k := by
  unfold Int32.toNatClampNeg
  rw [i32_nat h]
  rfl
theorem i32_ge {a b : Nat} (ha : a < 2147483648) (hb : b < 2147483648) : m_cmp .ge (Int32.ofNat a) (Int32.ofNat b) = decide (b ≤ a) := by
  unfold m_cmp
  rw [Bool.eq_iff_iff]
  simp [Int32.le_iff_toInt_le, Int32.lt_iff_toInt_lt, i32_nat ha, i32_nat hb]
theorem i32_in {a n : Nat} (ha : a < n) (hn : n < 2147483648) : m_in (Int32.ofNat a) n = true := by
  unfold m_in
  have h1 := i32_nat (show a < 2147483648 by omega)
  have h2 := i32_clamp (show a < 2147483648 by omega)
  simp [Int32.lt_iff_toInt_lt, h1, h2, ha]
theorem i32_succ {k : Nat} (h : k + 1 < 2147483648) : Int32.ofNat k + Int32.ofInt 1 = Int32.ofNat (k + 1) := by
  apply Int32.toInt_inj.mp
  rw [Int32.toInt_add, i32_nat (show k < 2147483648 by omega), i32_nat h]
  rw [show (Int32.ofInt 1).toInt = 1 by rfl, Int.bmod_def]
  omega
end
section
section FILL
variable {L : Nat} {xs : Nat → Int32} {d i n : Nat} {f : Nat → Int32} {x : Int32} {w : mWd} {Q : Option Value → mWd → Prop}
theorem fl_start (hw : w[i]? = some (.inl (0, n, .inl f))) (h : Rn L xs (d + 1) 272 5 (m_put1 (m_put1 [(0, .ref i), (1, .int x)] 2 (.int 0)) 3 (.int (Int32.ofNat n))) [] w Q) : Rn L xs (d + 1) 272 0 [(0, .ref i), (1, .int x)] [] w Q := by
  refine Rn.step (hf := by rfl) (hs := by rfl) ?_
  refine Rn.step (hf := by rfl) (hs := by rfl) ?_
  refine Rn.step (hf := by rfl) (hs := by rfl) ?_
  refine Rn.step (hf := by rfl) (hs := by simp only [m_step, m_len1, hw]; rfl) ?_
  refine Rn.step (hf := by rfl) (hs := by rfl) ?_
  trace_state
  exact h
end FILL
end
section
section FILL2
variable {L : Nat} {xs : Nat → Int32} {d i n : Nat} {x : Int32} {Q : Option Value → mWd → Prop}
theorem fl_iter {k : Nat} {l : mL} {g : Nat → Int32} {w : mWd} (hl : l = [(2,.int (Int32.ofNat k)),(3,.int (Int32.ofNat n)),(0,.ref i),(1,.int x)] ∨ l = [(3,.int (Int32.ofNat n)),(2,.int (Int32.ofNat k)),(0,.ref i),(1,.int x)]) (hn : n < 2147483648) (hk : k < n) (hw : w[i]? = some (.inl (0, n, .inl g))) (h : Rn L xs (d + 1) 272 5 [(2,.int (Int32.ofNat (k + 1))),(3,.int (Int32.ofNat n)),(0,.ref i),(1,.int x)] [] (w.set i (.inl (0, n, .inl (upd g k x)))) Q) : Rn L xs (d + 1) 272 5 l [] w Q := by
  have hc := i32_ge (show k < 2147483648 by omega) hn
  have hs := i32_succ (show k + 1 < 2147483648 by omega)
  have hi := i32_in hk hn
  have hz := i32_clamp (show k < 2147483648 by omega)
  have hast : m_ast 0 i (Int32.ofNat k) (.int x) w = some (.inl (0, n, .inl (upd g k x))) := by
    simp [m_ast, hw, hi, hz]
  rcases hl with hl | hl
  all_goals
    subst hl
    refine Rn.step (hf := by rfl) (hs := by rfl) ?_
    refine Rn.step (hf := by rfl) (hs := by rfl) ?_
    refine Rn.step (hf := by rfl) (hs := by simp only [m_step, m_pure]; rfl) ?_
    rw [hc, decide_eq_false (show ¬ n ≤ k by omega)]
    refine Rn.step (hf := by rfl) (hs := by rfl) ?_
    refine Rn.step (hf := by rfl) (hs := by rfl) ?_
    refine Rn.step (hf := by rfl) (hs := by rfl) ?_
    refine Rn.step (hf := by rfl) (hs := by simp only [m_step, hast]; rfl) ?_
    refine Rn.step (hf := by rfl) (hs := by rfl) ?_
    refine Rn.step (hf := by rfl) (hs := by rfl) ?_
    rw [← hs] at h
    exact h
end FILL2
end
section
section FILL3
variable {L : Nat} {xs : Nat → Int32} {d i n : Nat} {x : Int32} {Q : Option Value → mWd → Prop}
theorem fl_end {k : Nat} {l : mL} {w : mWd} (hl : l = [(2,.int (Int32.ofNat k)),(3,.int (Int32.ofNat n)),(0,.ref i),(1,.int x)] ∨ l = [(3,.int (Int32.ofNat n)),(2,.int (Int32.ofNat k)),(0,.ref i),(1,.int x)]) (hn : n < 2147483648) (hk : k = n) (h : Q none w) : Rn L xs (d + 1) 272 5 l [] w Q := by
  subst hk
  have hc := i32_ge hn hn
  rcases hl with hl | hl
  all_goals
    subst hl
    refine Rn.step (hf := by rfl) (hs := by rfl) ?_
    refine Rn.step (hf := by rfl) (hs := by rfl) ?_
    refine Rn.step (hf := by rfl) (hs := by simp only [m_step, m_pure]; rfl) ?_
    rw [hc, decide_eq_true (Nat.le_refl k)]
    exact Rn.ret (hf := by rfl) (hs := by rfl) h
theorem fl_loop : ∀ (m k : Nat) (l : mL) (g : Nat → Int32) (w : mWd), (l = [(2,.int (Int32.ofNat k)),(3,.int (Int32.ofNat n)),(0,.ref i),(1,.int x)] ∨ l = [(3,.int (Int32.ofNat n)),(2,.int (Int32.ofNat k)),(0,.ref i),(1,.int x)]) → n < 2147483648 → k + m = n → w[i]? = some (.inl (0, n, .inl g)) → (∀ g', (∀ j, g' j = if k ≤ j ∧ j < n then x else g j) → Q none (w.set i (.inl (0, n, .inl g')))) → Rn L xs (d + 1) 272 5 l [] w Q := by
  intro m
  induction m with
  | zero =>
    intro k l g w hl hn hk hw hQ
    refine fl_end hl hn (by omega) ?_
    have h := hQ g (fun j => by rw [if_neg (by omega)])
    have hlt : i < w.length := by
      rcases Nat.lt_or_ge i w.length with h' | h'
      · exact h'
      · rw [List.getElem?_eq_none h'] at hw; cases hw
    have he : w.set i (.inl (0, n, .inl g)) = w := by
      apply List.ext_getElem?
      intro j
      rw [List.getElem?_set]
      by_cases hj : i = j
      · subst hj; simp [hlt, ← hw]
      · simp [hj]
    rw [he] at h
    exact h
  | succ m ih =>
    intro k l g w hl hn hk hw hQ
    have hlt : i < w.length := by
      rcases Nat.lt_or_ge i w.length with h' | h'
      · exact h'
      · rw [List.getElem?_eq_none h'] at hw; cases hw
    refine fl_iter hl hn (by omega) hw ?_
    refine ih (k + 1) _ (upd g k x) _ (.inl rfl) hn (by omega) (by simp [hlt]) ?_
    intro g' hg
    rw [List.set_set]
    refine hQ g' ?_
    intro j
    rw [hg j]
    by_cases h1 : k + 1 ≤ j ∧ j < n
    · rw [if_pos h1, if_pos (by omega)]
    · rw [if_neg h1]
      by_cases h2 : j = k
      · subst h2; rw [if_pos (by omega)]; simp [upd]
      · rw [if_neg (by omega)]; simp [upd, h2]
theorem rn_fill {f : Nat → Int32} {w : mWd} (hn : n < 2147483648) (hw : w[i]? = some (.inl (0, n, .inl f))) (hQ : ∀ g', (∀ j, g' j = if j < n then x else f j) → Q none (w.set i (.inl (0, n, .inl g')))) : Rn L xs (d + 1) 272 0 [(0, .ref i), (1, .int x)] [] w Q := by
  refine fl_start hw (fl_loop n 0 _ f w (.inr rfl) hn (by omega) hw ?_)
  intro g' hg
  refine hQ g' ?_
  intro j
  rw [hg j]
  by_cases h : j < n
  · rw [if_pos h, if_pos ⟨Nat.zero_le j, h⟩]
  · rw [if_neg h, if_neg (by omega)]
end FILL3
end
section
theorem i32_nn {a : Nat} (ha : a < 2147483648) : ¬ Int32.ofNat a < 0 := by
  rw [Int32.lt_iff_toInt_lt, i32_nat ha]
  exact Int.not_lt.mpr (Int.natCast_nonneg a)
theorem i32_min {a b : Nat} (ha : a < 2147483648) (hb : b < 2147483648) : (if Int32.ofNat b < Int32.ofNat a then Int32.ofNat b else Int32.ofNat a) = Int32.ofNat (min a b) := by
  rcases Nat.lt_or_ge b a with h | h
  · rw [if_pos (by rw [Int32.lt_iff_toInt_lt, i32_nat ha, i32_nat hb]; omega), Nat.min_eq_right (by omega)]
  · rw [if_neg (by rw [Int32.lt_iff_toInt_lt, i32_nat ha, i32_nat hb]; omega), Nat.min_eq_left h]
theorem i32_ne {a b : Nat} (ha : a < 2147483648) (hb : b < 2147483648) : m_cmp .ne (Int32.ofNat a) (Int32.ofNat b) = decide (a ≠ b) := by
  unfold m_cmp
  rw [Bool.eq_iff_iff]
  simp only [Bool.not_eq_true', decide_eq_false_iff_not, decide_eq_true_eq]
  constructor
  · intro h h2; exact h (by rw [h2])
  · intro h h2; apply h; have := congrArg Int32.toInt h2; rw [i32_nat ha, i32_nat hb] at this; omega
section COPY
variable {L : Nat} {xs : Nat → Int32} {d i n k : Nat} {f : Nat → Int32} {w : mWd} {Q : Option Value → mWd → Prop}
theorem rn_copyOf (hw : w[i]? = some (.inl (0, n, .inl f))) (hn : n < 2147483648) (hk : k ≤ 100000) (hQ : ∀ g, (∀ j, j < n → j < k → g j = f j) → Q (some (.ref w.length)) (w ++ [.inl (0, k, .inl g)])) : Rn L xs (d + 1) 273 0 [(0, .ref i), (1, .int (Int32.ofNat k))] [] w Q := by
  have hk' : k < 2147483648 := by omega
  have hlt : i < w.length := by
    rcases Nat.lt_or_ge i w.length with h' | h'
    · exact h'
    · rw [List.getElem?_eq_none h'] at hw; cases hw
  refine Rn.step (hf := by rfl) (hs := by rfl) ?_
  refine Rn.step (hf := by rfl) (hs := by rfl) ?_
  refine Rn.step (hf := by rfl) (hs := by simp only [m_step, m_len1, hw]; rfl) ?_
  refine Rn.step (hf := by rfl) (hs := by simp only [m_step, m_pure]; rfl) ?_
  rw [i32_ne hk' hn]
  by_cases he : k = n
  · subst he
    rw [decide_eq_false (by simp)]
    refine Rn.step (hf := by rfl) (hs := by rfl) ?_
    obtain ⟨a, b, hR⟩ : ∃ a b, pgRs 273 316 = some (11, a, b) := ⟨_, _, rfl⟩
    have hL : (w ++ [(Sum.inl (0, k, Sum.inl f) : mE)])[w.length]? = some (Sum.inl (0, k, Sum.inl f)) := by simp
    obtain ⟨a2, b2, hR2⟩ : ∃ a b, pgRs 273 317 = some (15, a, b) := ⟨_, _, rfl⟩
    refine Rn.step (hf := by rfl) (hs := by simp only [m_step, hR, hw]; rfl) ?_
    refine Rn.step (hf := by rfl) (hs := by simp only [m_step, hR2, hL]; rfl) ?_
    exact Rn.ret (hf := by rfl) (hs := by rfl) (hQ f (fun _ _ _ => rfl))
  · rw [decide_eq_true he]
    refine Rn.step (hf := by rfl) (hs := by rfl) ?_
    refine Rn.step (hf := by rfl) (hs := by simp only [m_step, m_new, m_arr, i32_clamp hk', i32_nn hk', not_false_eq_true, hk, and_self, if_true]; rfl) ?_
    refine Rn.step (hf := by rfl) (hs := by rfl) ?_
    refine Rn.step (hf := by rfl) (hs := by rfl) ?_
    refine Rn.step (hf := by rfl) (hs := by rfl) ?_
    refine Rn.step (hf := by rfl) (hs := by rfl) ?_
    refine Rn.step (hf := by rfl) (hs := by rfl) ?_
    refine Rn.step (hf := by rfl) (hs := by rfl) ?_
    refine Rn.step (hf := by rfl) (hs := by simp only [m_step, m_len1, List.getElem?_append_left hlt, hw]; rfl) ?_
    refine Rn.step (hf := by rfl) (hs := by rfl) ?_
    obtain ⟨a, b, hR⟩ : ∃ a b, pgRs 273 150 = some (12, a, b) := ⟨_, _, rfl⟩
    obtain ⟨a3, hR3⟩ : ∃ a, pgRs 273 304 = some (4, 262, a) := ⟨_, rfl⟩
    have hL : (w ++ [(Sum.inl (0, k, Sum.inl fun _ => 0) : mE)])[w.length]? = some (Sum.inl (0, k, Sum.inl fun _ => 0)) := by simp
    have hA : (w ++ [(Sum.inl (0, k, Sum.inl fun _ => 0) : mE)])[i]? = some (Sum.inl (0, n, Sum.inl f)) := by rw [List.getElem?_append_left hlt, hw]
    have hM := i32_min hn hk'
    have hm : min n k < 2147483648 := by omega
    have hc : m_copy (.inl (0, n, .inl f)) (.inl (0, k, .inl fun _ => 0)) (Int32.ofInt 0) (Int32.ofInt 0) (Int32.ofNat (min n k)) = some (.inl (0, k, .inl (va_cpy f (fun _ => 0) 0 0 (min n k)))) := by
      unfold m_copy
      simp only [i32_clamp hm, show (Int32.ofInt 0).toNatClampNeg = 0 from rfl, i32_nn hm, show ¬ Int32.ofInt 0 < 0 by decide, not_false_eq_true, true_and]
      rw [if_pos (by omega)]
    refine Rn.step (hf := by rfl) (hs := by simp only [m_step, hR3, m_math, hM]; rfl) ?_
    refine Rn.step (hf := by rfl) (hs := by simp only [m_step, hR, hA, hL, hc]; rw [if_pos ⟨Nat.ne_of_lt hlt, by decide⟩]; rfl) ?_
    refine Rn.step (hf := by rfl) (hs := by rfl) ?_
    have hS : (w ++ [(Sum.inl (0, k, Sum.inl fun _ => 0) : mE)]).set w.length (Sum.inl (0, k, Sum.inl (va_cpy f (fun _ => 0) 0 0 (min n k)))) = w ++ [(Sum.inl (0, k, Sum.inl (va_cpy f (fun _ => 0) 0 0 (min n k))) : mE)] := by simp
    rw [hS]
    refine Rn.ret (hf := by rfl) (hs := by rfl) (hQ _ ?_)
    intro j h1 h2
    unfold va_cpy
    rw [if_pos (by omega)]
    congr 1
    omega
end COPY
end
section
/-! THE CHECKER'S NUMBERS: atoms with intervals, differences, values that one is not, quotients, sums -/
abbrev sV : Type := Nat × Nat × Int
abbrev kI : Type := List (Int × Int)
abbrev kF : Type := List (Nat × Nat × Int)
abbrev kN : Type := List (Nat × Int)
abbrev kD : Type := List (Nat × Nat × Int × Int)
abbrev kS : Type := List (sV × sV × Nat)
abbrev sK : Type := kI × kF × kN × kD × kS
def z_le (a b : Int) : Bool := match a, b with
  | .ofNat m, .ofNat n => Nat.ble m n
  | .ofNat _, .negSucc _ => false
  | .negSucc _, .ofNat _ => true
  | .negSucc m, .negSucc n => Nat.ble n m
theorem z_le_iff {a b : Int} : z_le a b = true ↔ a ≤ b := by
  match a, b with
  | .ofNat m, .ofNat n =>
    show Nat.ble m n = true ↔ (m : Int) ≤ (n : Int)
    rw [Nat.ble_eq]; omega
  | .ofNat m, .negSucc n =>
    show false = true ↔ (m : Int) ≤ Int.negSucc n
    simp only [Bool.false_eq_true, false_iff]; omega
  | .negSucc m, .ofNat n =>
    show true = true ↔ Int.negSucc m ≤ (n : Int)
    simp only [true_iff]; omega
  | .negSucc m, .negSucc n =>
    show Nat.ble n m = true ↔ Int.negSucc m ≤ Int.negSucc n
    rw [Nat.ble_eq]; omega
def z_eq (a b : Int) : Bool := match a, b with
  | .ofNat m, .ofNat n => Nat.beq m n
  | .negSucc m, .negSucc n => Nat.beq m n
  | _, _ => false
theorem z_eq_iff {a b : Int} : z_eq a b = true ↔ a = b := by
  cases a <;> cases b <;> simp [z_eq] <;> omega
def z_min (a b : Int) : Int := bif z_le a b then a else b
def z_max (a b : Int) : Int := bif z_le a b then b else a
theorem z_min_le {x a b : Int} (h1 : x ≤ a) (h2 : x ≤ b) : x ≤ z_min a b := by
  unfold z_min; cases z_le a b <;> assumption
theorem z_le_max {x a b : Int} (h1 : a ≤ x) (h2 : b ≤ x) : z_max a b ≤ x := by
  unfold z_max; cases z_le a b <;> assumption
theorem z_min_l {a b : Int} : z_min a b ≤ a := by
  unfold z_min
  cases h : z_le a b with
  | true => exact Int.le_refl a
  | false =>
    have : ¬ a ≤ b := fun h' => by rw [z_le_iff.mpr h'] at h; cases h
    simp only [cond_false]; omega
theorem z_min_r {a b : Int} : z_min a b ≤ b := by
  unfold z_min
  cases h : z_le a b with
  | true => exact z_le_iff.mp h
  | false => exact Int.le_refl b
def k_at : kI → Nat → Int × Int
  | [], _ => (0, 0)
  | b :: _, 0 => b
  | _ :: E, a + 1 => k_at E a
theorem k_at_app : ∀ (E : kI) (b : Int × Int) (a : Nat), k_at (E ++ [b]) a = if a < E.length then k_at E a else if a = E.length then b else (0, 0)
  | [], b, 0 => rfl
  | [], b, a + 1 => by simp [k_at]
  | c :: E, b, 0 => by simp [k_at]
  | c :: E, b, a + 1 => by
    simp only [List.cons_append, k_at, List.length_cons, k_at_app E b a, Nat.add_lt_add_iff_right, Nat.add_right_cancel_iff]
theorem k_at_set : ∀ (E : kI) (b : Int × Int) (i a : Nat), k_at (E.set i b) a = if a = i ∧ i < E.length then b else k_at E a
  | [], b, i, a => by simp [k_at]
  | c :: E, b, 0, 0 => by simp [k_at]
  | c :: E, b, 0, a + 1 => by simp [k_at]
  | c :: E, b, i + 1, 0 => by simp [k_at]
  | c :: E, b, i + 1, a + 1 => by
    simp only [List.set_cons_succ, k_at, List.length_cons, k_at_set E b i a, Nat.add_lt_add_iff_right, Nat.add_right_cancel_iff]
/-- what a store says of the atoms' values -/
def nK (vs : List Int) (K : sK) : Prop :=
  vs[0]? = some 0 ∧ K.1.length = vs.length ∧
  (∀ a x, vs[a]? = some x → (k_at K.1 a).1 ≤ x ∧ x ≤ (k_at K.1 a).2) ∧
  (∀ f ∈ K.2.1, ∃ x y, vs[f.1]? = some x ∧ vs[f.2.1]? = some y ∧ x - y ≤ f.2.2) ∧
  (∀ q ∈ K.2.2.1, ∃ x, vs[q.1]? = some x ∧ x ≠ q.2) ∧
  (∀ d ∈ K.2.2.2.1, ∃ x y, vs[d.1]? = some x ∧ vs[d.2.1]? = some y ∧ 0 < d.2.2.2 ∧ y + d.2.2.1 < (x + 1) * d.2.2.2) ∧
  (∀ s ∈ K.2.2.2.2, ∃ x y z, vs[s.1.2.1]? = some x ∧ vs[s.2.1.2.1]? = some y ∧ vs[s.2.2]? = some z ∧ z = (x + s.1.2.2) + (y + s.2.1.2.2))
def vL (vs vs' : List Int) : Prop := ∀ (a : Nat) (x : Int), vs[a]? = some x → vs'[a]? = some x
theorem vL_refl (vs : List Int) : vL vs vs := fun _ _ h => h
theorem vL_trans {a b c : List Int} (h1 : vL a b) (h2 : vL b c) : vL a c := fun i x h => h2 i x (h1 i x h)
theorem vL_app (vs es : List Int) : vL vs (vs ++ es) := fun a x h => by
  rw [List.getElem?_append_left (List.getElem?_eq_some_iff.mp h).1]; exact h
theorem vL_last (vs : List Int) (v : Int) : (vs ++ [v])[vs.length]? = some v := by simp
def k_new (K : sK) (lo hi : Int) : sK := (K.1 ++ [(lo, hi)], K.2)
section NUM
variable {vs : List Int} {K : sK}
theorem nK.len (h : nK vs K) : K.1.length = vs.length := h.2.1
theorem nK.at (h : nK vs K) {a : Nat} {x : Int} (hx : vs[a]? = some x) : (k_at K.1 a).1 ≤ x ∧ x ≤ (k_at K.1 a).2 := h.2.2.1 a x hx
theorem nK_new (h : nK vs K) {lo hi v : Int} (h1 : lo ≤ v) (h2 : v ≤ hi) : nK (vs ++ [v]) (k_new K lo hi) := by
  obtain ⟨h0, hl, hE, hF, hN, hD, hS⟩ := h
  have up := vL_app vs [v]
  refine ⟨up _ _ h0, by simp [k_new, hl], ?_, ?_, ?_, ?_, ?_⟩
  · intro a x hx
    show (k_at (K.1 ++ [(lo, hi)]) a).1 ≤ x ∧ x ≤ (k_at (K.1 ++ [(lo, hi)]) a).2
    rw [k_at_app]
    have hb := (List.getElem?_eq_some_iff.mp hx).1
    rw [List.length_append, List.length_singleton] at hb
    by_cases ha : a < K.1.length
    · rw [if_pos ha]
      refine hE a x ?_
      rw [List.getElem?_append_left (by omega)] at hx
      exact hx
    · have he : a = vs.length := by omega
      subst he
      rw [if_neg ha, if_pos hl.symm]
      rw [vL_last] at hx
      cases hx
      exact ⟨h1, h2⟩
  · intro f hf
    obtain ⟨x, y, a1, a2, a3⟩ := hF f hf
    exact ⟨x, y, up _ _ a1, up _ _ a2, a3⟩
  · intro q hq
    obtain ⟨x, a1, a2⟩ := hN q hq
    exact ⟨x, up _ _ a1, a2⟩
  · intro d hd
    obtain ⟨x, y, a1, a2, a3⟩ := hD d hd
    exact ⟨x, y, up _ _ a1, up _ _ a2, a3⟩
  · intro s hs
    obtain ⟨x, y, z, a1, a2, a3, a4⟩ := hS s hs
    exact ⟨x, y, z, up _ _ a1, up _ _ a2, up _ _ a3, a4⟩
end NUM
def k_chain (b q : Nat) (c : Int) : kF → Int → Int
  | [], m => m
  | f :: F, m => k_chain b q c F (bif (Nat.beq f.1 q && Nat.beq f.2.1 b) then z_min m (c + f.2.2) else m)
def k_dfF (E : kI) (F0 : kF) (a b : Nat) (lb : Int) : kF → Int → Int
  | [], m => m
  | f :: F, m => k_dfF E F0 a b lb F (bif Nat.beq f.1 a then (bif Nat.beq f.2.1 b then z_min m f.2.2 else k_chain b f.2.1 f.2.2 F0 (z_min m (f.2.2 + (k_at E f.2.1).2 - lb))) else m)
/-- a bound from above of the difference of two atoms -/
def k_diff (K : sK) (a b : Nat) : Int := k_dfF K.1 K.2.1 a b (k_at K.1 b).1 K.2.1 (bif Nat.beq a b then z_min ((k_at K.1 a).2 - (k_at K.1 b).1) 0 else (k_at K.1 a).2 - (k_at K.1 b).1)
theorem k_chain_ok {vs : List Int} {b q : Nat} {c z x y : Int} (hq : vs[q]? = some x) (hb : vs[b]? = some y) (hc : z - x ≤ c) : ∀ (F : kF) (m : Int), (∀ f ∈ F, ∃ x y, vs[f.1]? = some x ∧ vs[f.2.1]? = some y ∧ x - y ≤ f.2.2) → z - y ≤ m → z - y ≤ k_chain b q c F m
  | [], m, _, hm => hm
  | f :: F, m, hF, hm => by
    refine k_chain_ok hq hb hc F _ (fun g hg => hF g (List.mem_cons_of_mem _ hg)) ?_
    cases hbq : (Nat.beq f.1 q && Nat.beq f.2.1 b) with
    | false => exact hm
    | true =>
      rw [Bool.and_eq_true] at hbq
      have e1 := Nat.eq_of_beq_eq_true hbq.1
      have e2 := Nat.eq_of_beq_eq_true hbq.2
      obtain ⟨x', y', a1, a2, a3⟩ := hF f List.mem_cons_self
      rw [e1, hq] at a1
      rw [e2, hb] at a2
      cases a1
      cases a2
      exact z_min_le hm (by omega)
theorem k_dfF_ok {vs : List Int} {E : kI} {F0 : kF} {a b : Nat} {lb x y : Int} (ha : vs[a]? = some x) (hb : vs[b]? = some y) (hlb : lb ≤ y) (hE : ∀ a x, vs[a]? = some x → (k_at E a).1 ≤ x ∧ x ≤ (k_at E a).2) (hF0 : ∀ f ∈ F0, ∃ x y, vs[f.1]? = some x ∧ vs[f.2.1]? = some y ∧ x - y ≤ f.2.2) : ∀ (F : kF) (m : Int), (∀ f ∈ F, ∃ x y, vs[f.1]? = some x ∧ vs[f.2.1]? = some y ∧ x - y ≤ f.2.2) → x - y ≤ m → x - y ≤ k_dfF E F0 a b lb F m
  | [], m, _, hm => hm
  | f :: F, m, hF, hm => by
    refine k_dfF_ok ha hb hlb hE hF0 F _ (fun g hg => hF g (List.mem_cons_of_mem _ hg)) ?_
    cases h1 : Nat.beq f.1 a with
    | false => exact hm
    | true =>
      obtain ⟨x', y', a1, a2, a3⟩ := hF f List.mem_cons_self
      have e1 := Nat.eq_of_beq_eq_true h1
      rw [e1, ha] at a1
      cases a1
      cases h2 : Nat.beq f.2.1 b with
      | true =>
        have e2 := Nat.eq_of_beq_eq_true h2
        rw [e2, hb] at a2
        cases a2
        exact z_min_le hm a3
      | false =>
        refine k_chain_ok a2 hb a3 F0 _ hF0 ?_
        have := (hE _ _ a2).2
        exact z_min_le hm (by omega)
section NUM2
variable {vs : List Int} {K : sK}
theorem k_diff_ok (h : nK vs K) {a b : Nat} {x y : Int} (ha : vs[a]? = some x) (hb : vs[b]? = some y) : x - y ≤ k_diff K a b := by
  have hA := h.at ha
  have hB := h.at hb
  refine k_dfF_ok ha hb hB.1 h.2.2.1 h.2.2.2.1 _ _ h.2.2.2.1 ?_
  cases e : Nat.beq a b with
  | false => simp only [cond_false]; omega
  | true =>
    have := Nat.eq_of_beq_eq_true e
    subst this
    rw [ha] at hb
    cases hb
    exact z_min_le (by omega) (by omega)
end NUM2
def k_ref1 (K : sK) (a : Nat) (lo hi : Int) : Option sK := bif z_le (z_max (k_at K.1 a).1 lo) (z_min (k_at K.1 a).2 hi) then some (K.1.set a (z_max (k_at K.1 a).1 lo, z_min (k_at K.1 a).2 hi), K.2) else none
theorem k_ref1_ok {vs : List Int} {K : sK} (h : nK vs K) {a : Nat} {x lo hi : Int} (ha : vs[a]? = some x) (h1 : lo ≤ x) (h2 : x ≤ hi) : ∃ K', k_ref1 K a lo hi = some K' ∧ nK vs K' ∧ K'.2 = K.2 := by
  have hA := h.at ha
  have b1 : z_max (k_at K.1 a).1 lo ≤ x := z_le_max hA.1 h1
  have b2 : x ≤ z_min (k_at K.1 a).2 hi := z_min_le hA.2 h2
  refine ⟨(K.1.set a (z_max (k_at K.1 a).1 lo, z_min (k_at K.1 a).2 hi), K.2), ?_, ?_, rfl⟩
  · unfold k_ref1
    rw [z_le_iff.mpr (Int.le_trans b1 b2)]
    rfl
  · obtain ⟨h0, hl, hE, hR⟩ := h
    refine ⟨h0, by simp [hl], ?_, hR⟩
    intro c y hy
    show (k_at (K.1.set a _) c).1 ≤ y ∧ y ≤ (k_at (K.1.set a _) c).2
    rw [k_at_set]
    by_cases e : c = a ∧ a < K.1.length
    · rw [if_pos e]
      rw [e.1, ha] at hy
      cases hy
      exact ⟨b1, b2⟩
    · rw [if_neg e]
      exact hE c y hy
def k_refD (z : Nat) (h : Int) : kD → sK → Option sK
  | [], K => some K
  | d :: D, K => bif Nat.beq d.1 z then (match k_ref1 K d.2.1 (k_at K.1 d.2.1).1 ((h + 1) * d.2.2.2 - 1 - d.2.2.1) with
    | some K' => k_refD z h D K'
    | none => none) else k_refD z h D K
theorem k_refD_ok {vs : List Int} {z : Nat} {h x : Int} (hz : vs[z]? = some x) (hx : x ≤ h) : ∀ (D : kD) (K : sK), nK vs K → (∀ d ∈ D, ∃ x y, vs[d.1]? = some x ∧ vs[d.2.1]? = some y ∧ 0 < d.2.2.2 ∧ y + d.2.2.1 < (x + 1) * d.2.2.2) → ∃ K', k_refD z h D K = some K' ∧ nK vs K'
  | [], K, hK, _ => ⟨K, rfl, hK⟩
  | d :: D, K, hK, hD => by
    have ih := fun K hK => k_refD_ok hz hx D K hK (fun e he => hD e (List.mem_cons_of_mem _ he))
    unfold k_refD
    cases e : Nat.beq d.1 z with
    | false => exact ih K hK
    | true =>
      obtain ⟨x', y, a1, a2, a3, a4⟩ := hD d List.mem_cons_self
      rw [Nat.eq_of_beq_eq_true e, hz] at a1
      cases a1
      have hm : (x + 1) * d.2.2.2 ≤ (h + 1) * d.2.2.2 := Int.mul_le_mul_of_nonneg_right (by omega) (by omega)
      obtain ⟨K', e1, e2, -⟩ := k_ref1_ok hK (lo := (k_at K.1 d.2.1).1) (hi := (h + 1) * d.2.2.2 - 1 - d.2.2.1) a2 (hK.at a2).1 (by omega)
      simp only [cond_true, e1]
      exact ih K' e2
def k_ref (K : sK) (a : Nat) (lo hi : Int) : Option sK := match k_ref1 K a lo hi with
  | some K' => k_refD a (k_at K'.1 a).2 K'.2.2.2.1 K'
  | none => none
theorem k_ref_ok {vs : List Int} {K : sK} (h : nK vs K) {a : Nat} {x lo hi : Int} (ha : vs[a]? = some x) (h1 : lo ≤ x) (h2 : x ≤ hi) : ∃ K', k_ref K a lo hi = some K' ∧ nK vs K' := by
  obtain ⟨K', e1, e2, -⟩ := k_ref1_ok h ha h1 h2
  unfold k_ref
  rw [e1]
  exact k_refD_ok ha (e2.at ha).2 _ K' e2 e2.2.2.2.2.2.1
/-- atom a less atom b is at most k -/
def k_leA (K : sK) (a b : Nat) (k : Int) : Option sK := match k_ref K a (k_at K.1 a).1 ((k_at K.1 b).2 + k) with
  | some K1 => (match k_ref K1 b ((k_at K.1 a).1 - k) (k_at K.1 b).2 with
    | some K2 => some (bif (Nat.beq a b || (Nat.beq a 0 || Nat.beq b 0)) then K2 else (K2.1, (a, b, k) :: K2.2.1, K2.2.2))
    | none => none)
  | none => none
theorem k_leA_ok {vs : List Int} {K : sK} (h : nK vs K) {a b : Nat} {x y k : Int} (ha : vs[a]? = some x) (hb : vs[b]? = some y) (hk : x - y ≤ k) : ∃ K', k_leA K a b k = some K' ∧ nK vs K' := by
  have hA := h.at ha
  have hB := h.at hb
  obtain ⟨K1, e1, n1⟩ := k_ref_ok h (lo := (k_at K.1 a).1) (hi := (k_at K.1 b).2 + k) ha hA.1 (by omega)
  obtain ⟨K2, e2, n2⟩ := k_ref_ok n1 (lo := (k_at K.1 a).1 - k) (hi := (k_at K.1 b).2) hb (by omega) hB.2
  unfold k_leA
  simp only [e1, e2]
  refine ⟨_, rfl, ?_⟩
  cases (Nat.beq a b || (Nat.beq a 0 || Nat.beq b 0)) with
  | true => exact n2
  | false =>
    obtain ⟨h0, hl, hE, hF, hR⟩ := n2
    refine ⟨h0, hl, hE, ?_, hR⟩
    intro f hf
    rcases List.mem_cons.mp hf with rfl | hf
    · exact ⟨x, y, ha, hb, hk⟩
    · exact hF f hf
def k_le (K : sK) (x y : sV) (c : Int) : Option sK := k_leA K x.2.1 y.2.1 (c - x.2.2 + y.2.2)
def k_ne (K : sK) (a : Nat) (v : Int) : Option sK := bif z_eq (k_at K.1 a).1 v then k_ref K a (v + 1) (k_at K.1 a).2 else (bif z_eq (k_at K.1 a).2 v then k_ref K a (k_at K.1 a).1 (v - 1) else some (K.1, K.2.1, (a, v) :: K.2.2.1, K.2.2.2))
theorem k_ne_ok {vs : List Int} {K : sK} (h : nK vs K) {a : Nat} {x v : Int} (ha : vs[a]? = some x) (hk : x ≠ v) : ∃ K', k_ne K a v = some K' ∧ nK vs K' := by
  have hA := h.at ha
  unfold k_ne
  cases e1 : z_eq (k_at K.1 a).1 v with
  | true =>
    have := z_eq_iff.mp e1
    exact k_ref_ok h ha (by omega) hA.2
  | false =>
    cases e2 : z_eq (k_at K.1 a).2 v with
    | true =>
      have := z_eq_iff.mp e2
      exact k_ref_ok h ha hA.1 (by omega)
    | false =>
      refine ⟨_, rfl, ?_⟩
      obtain ⟨h0, hl, hE, hF, hN, hR⟩ := h
      refine ⟨h0, hl, hE, hF, ?_, hR⟩
      intro f hf
      rcases List.mem_cons.mp hf with rfl | hf
      · exact ⟨x, ha, hk⟩
      · exact hN f hf
/-- a value's number: an atom and so much; of kind 7 seven times the atom -/
def vN (vs : List Int) (s : sV) (X : Int) : Prop := ∃ u, vs[s.2.1]? = some u ∧ X = (bif Nat.beq s.1 7 then 7 * u else u) + s.2.2
def k_iv (K : sK) (s : sV) : Int × Int := bif Nat.beq s.1 7 then (7 * (k_at K.1 s.2.1).1 + s.2.2, 7 * (k_at K.1 s.2.1).2 + s.2.2) else ((k_at K.1 s.2.1).1 + s.2.2, (k_at K.1 s.2.1).2 + s.2.2)
def k_df (K : sK) (x y : sV) : Int := k_diff K x.2.1 y.2.1 + x.2.2 - y.2.2
def n7 (s : sV) : Bool := !(Nat.beq s.1 7)
section NUM3
variable {vs : List Int} {K : sK} {s x y : sV} {X Y : Int}
theorem k_iv_ok (h : nK vs K) (hx : vN vs s X) : (k_iv K s).1 ≤ X ∧ X ≤ (k_iv K s).2 := by
  obtain ⟨u, hu, rfl⟩ := hx
  have hA := h.at hu
  unfold k_iv
  cases Nat.beq s.1 7 <;> simp only [cond_true, cond_false] <;> omega
theorem vN_n7 (h7 : n7 s = true) (hx : vN vs s X) : ∃ u, vs[s.2.1]? = some u ∧ X = u + s.2.2 := by
  obtain ⟨u, hu, hX⟩ := hx
  unfold n7 at h7
  rw [Bool.not_eq_true'] at h7
  rw [h7] at hX
  exact ⟨u, hu, hX⟩
theorem k_df_ok (h : nK vs K) (hx7 : n7 x = true) (hy7 : n7 y = true) (hx : vN vs x X) (hy : vN vs y Y) : X - Y ≤ k_df K x y := by
  obtain ⟨u, hu, rfl⟩ := vN_n7 hx7 hx
  obtain ⟨v, hv, rfl⟩ := vN_n7 hy7 hy
  have := k_diff_ok h hu hv
  unfold k_df
  omega
theorem k_le_ok (h : nK vs K) (hx7 : n7 x = true) (hy7 : n7 y = true) (hx : vN vs x X) (hy : vN vs y Y) {c : Int} (hc : X - Y ≤ c) : ∃ K', k_le K x y c = some K' ∧ nK vs K' := by
  obtain ⟨u, hu, rfl⟩ := vN_n7 hx7 hx
  obtain ⟨v, hv, rfl⟩ := vN_n7 hy7 hy
  exact k_leA_ok h hu hv (by omega)
theorem vN_up {vs' : List Int} (hv : vL vs vs') (hx : vN vs s X) : vN vs' s X := by
  obtain ⟨u, hu, h⟩ := hx
  exact ⟨u, hv _ _ hu, h⟩
end NUM3
def k_single (b : Int × Int) : Bool := z_eq b.1 b.2
/-- so is x to y: what follows, or none if it can't be -/
def k_asm (K : sK) (cd : Jvm.ClassFile.Cond) (x y : sV) : Option sK := match cd with
  | .lt => k_le K x y (-1)
  | .le => k_le K x y 0
  | .gt => k_le K y x (-1)
  | .ge => k_le K y x 0
  | .eq => (match k_le K x y 0 with
    | some K1 => k_le K1 y x 0
    | none => none)
  | .ne => bif k_single (k_iv K y) then k_ne K x.2.1 ((k_iv K y).1 - x.2.2) else (bif k_single (k_iv K x) then k_ne K y.2.1 ((k_iv K x).1 - y.2.2) else (bif z_le (k_df K x y) 0 then k_le K x y (-1) else (bif z_le (k_df K y x) 0 then k_le K y x (-1) else some K)))
def z_hold (cd : Jvm.ClassFile.Cond) (X Y : Int) : Prop := match cd with
  | .lt => X < Y
  | .le => X ≤ Y
  | .gt => Y < X
  | .ge => Y ≤ X
  | .eq => X = Y
  | .ne => X ≠ Y
theorem k_asm_ok {vs : List Int} {K : sK} {x y : sV} {X Y : Int} {cd : Jvm.ClassFile.Cond} (h : nK vs K) (hx7 : n7 x = true) (hy7 : n7 y = true) (hx : vN vs x X) (hy : vN vs y Y) (hc : z_hold cd X Y) : ∃ K', k_asm K cd x y = some K' ∧ nK vs K' := by
  cases cd with
  | lt => exact k_le_ok h hx7 hy7 hx hy (by simp only [z_hold] at hc; omega)
  | le => exact k_le_ok h hx7 hy7 hx hy (by simp only [z_hold] at hc; omega)
  | gt => exact k_le_ok h hy7 hx7 hy hx (by simp only [z_hold] at hc; omega)
  | ge => exact k_le_ok h hy7 hx7 hy hx (by simp only [z_hold] at hc; omega)
  | eq =>
    simp only [z_hold] at hc
    obtain ⟨K1, e1, n1⟩ := k_le_ok h hx7 hy7 hx hy (c := 0) (by omega)
    simp only [k_asm, e1]
    exact k_le_ok n1 hy7 hx7 hy hx (by omega)
  | ne =>
    simp only [z_hold] at hc
    have hX := k_iv_ok h hx
    have hY := k_iv_ok h hy
    simp only [k_asm]
    cases e1 : k_single (k_iv K y) with
    | true =>
      have := z_eq_iff.mp e1
      obtain ⟨u, hu, rfl⟩ := vN_n7 hx7 hx
      exact k_ne_ok h hu (by omega)
    | false =>
      cases e2 : k_single (k_iv K x) with
      | true =>
        have := z_eq_iff.mp e2
        obtain ⟨u, hu, rfl⟩ := vN_n7 hy7 hy
        exact k_ne_ok h hu (by omega)
      | false =>
        cases e3 : z_le (k_df K x y) 0 with
        | true =>
          have := z_le_iff.mp e3
          have := k_df_ok h hx7 hy7 hx hy
          exact k_le_ok h hx7 hy7 hx hy (by omega)
        | false =>
          cases e4 : z_le (k_df K y x) 0 with
          | true =>
            have := z_le_iff.mp e4
            have := k_df_ok h hy7 hx7 hy hx
            exact k_le_ok h hy7 hx7 hy hx (by omega)
          | false => exact ⟨K, rfl, h⟩
/-- the value is not 0 -/
def k_nz (K : sK) (x : sV) : Bool := z_le 1 (k_iv K x).1 || (z_le (k_iv K x).2 (-1) || (n7 x && K.2.2.1.any (fun q => Nat.beq q.1 x.2.1 && z_eq q.2 (-x.2.2))))
theorem k_nz_ok {vs : List Int} {K : sK} {x : sV} {X : Int} (h : nK vs K) (hx : vN vs x X) (hz : k_nz K x = true) : X ≠ 0 := by
  have hX := k_iv_ok h hx
  unfold k_nz at hz
  rw [Bool.or_eq_true, Bool.or_eq_true, Bool.and_eq_true] at hz
  rcases hz with hz | hz | ⟨h7, hz⟩
  · have := z_le_iff.mp hz; omega
  · have := z_le_iff.mp hz; omega
  · obtain ⟨q, hq, hq2⟩ := List.any_eq_true.mp hz
    rw [Bool.and_eq_true] at hq2
    have e1 := Nat.eq_of_beq_eq_true hq2.1
    have e2 := z_eq_iff.mp hq2.2
    obtain ⟨u, hu, rfl⟩ := vN_n7 h7 hx
    obtain ⟨v, hv, hne⟩ := h.2.2.2.2.1 q hq
    rw [e1, hu] at hv
    cases hv
    omega
end
section
/-! THE CHECKER'S OPERATIONS on numbers -/
def z_mn (t : Nat) : Int := bif Nat.beq t 1 then -9223372036854775808 else -2147483648
def z_mx (t : Nat) : Int := bif Nat.beq t 1 then 9223372036854775807 else 2147483647
def z_in (t : Nat) (lo hi : Int) : Bool := z_le (z_mn t) lo && z_le hi (z_mx t)
theorem z_in_iff {t : Nat} {lo hi : Int} : z_in t lo hi = true ↔ z_mn t ≤ lo ∧ hi ≤ z_mx t := by
  unfold z_in; rw [Bool.and_eq_true, z_le_iff, z_le_iff]
def z_rg (t : Nat) (Z : Int) : Prop := z_mn t ≤ Z ∧ Z ≤ z_mx t
/-- may a value be an int (t 0) or a long (t 1) -/
def k_tg (t : Nat) (s : sV) : Bool := bif Nat.beq t 0 then (Nat.beq s.1 0 || Nat.beq s.1 7) else Nat.beq s.1 1
def opR (o t : Nat) (X Y Z : Int) : Prop := z_rg t Z ∧ (match o with
  | 0 => z_rg t (X + Y) → Z = X + Y
  | 1 => z_rg t (X - Y) → Z = X - Y
  | 2 => z_rg t (X * Y) → Z = X * Y
  | 3 => 0 ≤ X → 0 < Y → Z = X / Y
  | 4 => 0 ≤ X → 0 < Y → Z = X % Y
  | 5 => (0 ≤ X → 0 ≤ Z ∧ Z ≤ X) ∧ (0 ≤ Y → 0 ≤ Z ∧ Z ≤ Y)
  | 6 => 0 ≤ X → 0 ≤ Z ∧ Z ≤ X
  | 7 => 1 ≤ Y → Y ≤ 31 → 0 ≤ Z
  | _ => True)
def k_mk (t : Nat) (K : sK) (lo hi : Int) : sK × sV := (k_new K lo hi, (t, K.1.length, 0))
def k_all (t : Nat) (K : sK) : sK × sV := k_mk t K (z_mn t) (z_mx t)
def s_eq (x y : sV) : Bool := Nat.beq x.1 y.1 && (Nat.beq x.2.1 y.2.1 && z_eq x.2.2 y.2.2)
theorem s_eq_ok {x y : sV} (h : s_eq x y = true) : x = y := by
  obtain ⟨a, b, c⟩ := x
  obtain ⟨a', b', c'⟩ := y
  unfold s_eq at h
  rw [Bool.and_eq_true, Bool.and_eq_true] at h
  have e1 : a = a' := Nat.eq_of_beq_eq_true h.1
  have e2 : b = b' := Nat.eq_of_beq_eq_true h.2.1
  have e3 : c = c' := z_eq_iff.mp h.2.2
  rw [e1, e2, e3]
def k_cs (x y : sV) : kS → Option Nat
  | [] => none
  | s :: S => bif (s_eq s.1 x && s_eq s.2.1 y) then some s.2.2 else k_cs x y S
def k_sm (K : sK) (x y : sV) (r : sK × sV) : sK × sV := bif (n7 x && n7 y) then ((r.1.1, r.1.2.1, r.1.2.2.1, r.1.2.2.2.1, (x, y, r.2.2.1) :: r.1.2.2.2.2), r.2) else r
def k_add (t : Nat) (K : sK) (x y : sV) (bx b : Int × Int) : sK × sV := bif z_in t (bx.1 + b.1) (bx.2 + b.2) then (bif k_single b then (K, (x.1, x.2.1, x.2.2 + b.1)) else (bif k_single bx then (K, (y.1, y.2.1, y.2.2 + bx.1)) else (match bif (n7 x && n7 y) then k_cs x y K.2.2.2.2 else none with
  | some z => (K, (t, z, 0))
  | none => k_sm K x y (k_mk t K (bx.1 + b.1) (bx.2 + b.2))))) else k_all t K
def k_sub (t : Nat) (K : sK) (x y : sV) (bx b : Int × Int) : sK × sV := bif (k_single b && z_in t (bx.1 - b.1) (bx.2 - b.1)) then (K, (x.1, x.2.1, x.2.2 - b.1)) else (bif (n7 x && (n7 y && z_in t (-(k_df K y x)) (k_df K x y))) then k_mk t K (-(k_df K y x)) (k_df K x y) else k_all t K)
def z_min4 (a b c d : Int) : Int := z_min (z_min a b) (z_min c d)
def z_max4 (a b c d : Int) : Int := z_max (z_max a b) (z_max c d)
def k_is7 (b : Int × Int) : Bool := z_eq b.1 7 && z_eq b.2 7
def k_mul (t : Nat) (K : sK) (x y : sV) (bx b : Int × Int) (lo hi : Int) : sK × sV := bif z_in t lo hi then (bif (Nat.beq t 0 && (k_is7 bx && (Nat.beq y.1 0 && !(k_single b)))) then (K, (7, y.2.1, 7 * y.2.2)) else (bif (Nat.beq t 0 && (k_is7 b && (Nat.beq x.1 0 && !(k_single bx)))) then (K, (7, x.2.1, 7 * x.2.2)) else k_mk t K lo hi)) else k_all t K
def k_qt (x : sV) (c : Int) (r : sK × sV) : sK × sV := bif n7 x then ((r.1.1, r.1.2.1, r.1.2.2.1, (r.2.2.1, x.2.1, x.2.2, c) :: r.1.2.2.2.1, r.1.2.2.2.2), r.2) else r
def k_div (t : Nat) (K : sK) (x : sV) (bx b : Int × Int) : sK × sV := bif (z_le 0 bx.1 && z_le 1 b.1) then (bif k_single b then k_qt x b.1 (k_mk t K (bx.1 / b.1) (bx.2 / b.1)) else k_mk t K 0 bx.2) else k_all t K
def k_rem (t : Nat) (K : sK) (bx b : Int × Int) : sK × sV := bif (z_le 0 bx.1 && z_le 1 b.1) then k_mk t K 0 (z_min bx.2 (b.2 - 1)) else k_all t K
def k_and (t : Nat) (K : sK) (bx b : Int × Int) : sK × sV := bif z_le 0 bx.1 then k_mk t K 0 (bif z_le 0 b.1 then z_min bx.2 b.2 else bx.2) else (bif z_le 0 b.1 then k_mk t K 0 b.2 else k_all t K)
def k_op (o t : Nat) (K : sK) (x y : sV) (bx b : Int × Int) : sK × sV := match o with
  | 0 => k_add t K x y bx b
  | 1 => k_sub t K x y bx b
  | 2 => k_mul t K x y bx b (z_min4 (bx.1 * b.1) (bx.1 * b.2) (bx.2 * b.1) (bx.2 * b.2)) (z_max4 (bx.1 * b.1) (bx.1 * b.2) (bx.2 * b.1) (bx.2 * b.2))
  | 3 => k_div t K x bx b
  | 4 => k_rem t K bx b
  | 5 => k_and t K bx b
  | 6 => bif z_le 0 bx.1 then k_mk t K 0 bx.2 else k_all t K
  | 7 => bif (z_le 1 b.1 && z_le b.2 31) then k_mk t K 0 (z_mx t) else k_all t K
  | _ => k_all t K
def k_bin (o t : Nat) (K : sK) (x y : sV) : Option (sK × sV) := bif (k_tg t x && (k_tg t y && (!(Nat.beq o 3 || Nat.beq o 4) || k_nz K y))) then some (k_op o t K x y (k_iv K x) (k_iv K y)) else none
/-- the new store and value hold the number Z -/
def k_out (vs : List Int) (t : Nat) (r : sK × sV) (Z : Int) : Prop := ∃ vs', vL vs vs' ∧ nK vs' r.1 ∧ vN vs' r.2 Z ∧ k_tg t r.2 = true
section OPS
variable {vs : List Int} {K : sK} {x y : sV} {X Y Z : Int} {t : Nat}
theorem k_mk_at (h : nK vs K) {lo hi : Int} (h1 : lo ≤ Z) (h2 : Z ≤ hi) : nK (vs ++ [Z]) (k_mk t K lo hi).1 ∧ (vs ++ [Z])[(k_mk t K lo hi).2.2.1]? = some Z := by
  refine ⟨nK_new h h1 h2, ?_⟩
  show (vs ++ [Z])[K.1.length]? = some Z
  rw [h.len]
  exact vL_last vs Z
theorem k_tgt (ht : t = 0 ∨ t = 1) (a : Nat) (c : Int) : k_tg t (t, a, c) = true := by rcases ht with rfl | rfl <;> rfl
theorem k_t7 (ht : t = 0 ∨ t = 1) : Nat.beq t 7 = false := by rcases ht with rfl | rfl <;> rfl
theorem k_mk_ok (ht : t = 0 ∨ t = 1) (h : nK vs K) {lo hi : Int} (h1 : lo ≤ Z) (h2 : Z ≤ hi) : k_out vs t (k_mk t K lo hi) Z := by
  obtain ⟨a1, a2⟩ := k_mk_at (t := t) h h1 h2
  refine ⟨vs ++ [Z], vL_app vs [Z], a1, ⟨Z, a2, ?_⟩, k_tgt ht _ _⟩
  show Z = (bif Nat.beq t 7 then 7 * Z else Z) + 0
  rw [k_t7 ht]
  simp
theorem k_all_ok (ht : t = 0 ∨ t = 1) (h : nK vs K) (hZ : z_rg t Z) : k_out vs t (k_all t K) Z := k_mk_ok ht h hZ.1 hZ.2
theorem k_id_ok (h : nK vs K) {s : sV} (hs : vN vs s Z) (hg : k_tg t s = true) : k_out vs t (K, s) Z := ⟨vs, vL_refl vs, h, hs, hg⟩
theorem vN_off (hx : vN vs x X) (c : Int) (e : Z = X + c) : vN vs (x.1, x.2.1, x.2.2 + c) Z := by
  obtain ⟨u, hu, rfl⟩ := hx
  exact ⟨u, hu, by simp only [e]; omega⟩
theorem k_tg_off (hg : k_tg t x = true) (a : Nat) (c : Int) : k_tg t (x.1, a, c) = true := hg
theorem k_cs_ok : ∀ (S : kS) {z : Nat}, k_cs x y S = some z → ∃ s ∈ S, s.1 = x ∧ s.2.1 = y ∧ s.2.2 = z
  | [], _, h => by cases h
  | s :: S, z, h => by
    unfold k_cs at h
    cases e : (s_eq s.1 x && s_eq s.2.1 y) with
    | true =>
      rw [e] at h
      rw [Bool.and_eq_true] at e
      cases h
      exact ⟨s, List.mem_cons_self, s_eq_ok e.1, s_eq_ok e.2, rfl⟩
    | false =>
      rw [e] at h
      obtain ⟨s', h1, h2⟩ := k_cs_ok S h
      exact ⟨s', List.mem_cons_of_mem _ h1, h2⟩
theorem z_sgl {b : Int × Int} (h : k_single b = true) : b.1 = b.2 := z_eq_iff.mp h
theorem k_add_ok (ht : t = 0 ∨ t = 1) (h : nK vs K) (gx : k_tg t x = true) (gy : k_tg t y = true) (hx : vN vs x X) (hy : vN vs y Y) (hZ : opR 0 t X Y Z) : k_out vs t (k_add t K x y (k_iv K x) (k_iv K y)) Z := by
  have bX := k_iv_ok h hx
  have bY := k_iv_ok h hy
  obtain ⟨hr, hz⟩ := hZ
  unfold k_add
  cases e : z_in t ((k_iv K x).1 + (k_iv K y).1) ((k_iv K x).2 + (k_iv K y).2) with
  | false => exact k_all_ok ht h hr
  | true =>
    have hi := z_in_iff.mp e
    have hZe : Z = X + Y := hz ⟨by omega, by omega⟩
    simp only [cond_true]
    cases e1 : k_single (k_iv K y) with
    | true =>
      have := z_sgl e1
      exact k_id_ok h (vN_off hx _ (by omega)) gx
    | false =>
      cases e2 : k_single (k_iv K x) with
      | true =>
        have := z_sgl e2
        exact k_id_ok h (vN_off hy _ (by omega)) gy
      | false =>
        simp only [cond_false]
        cases e7 : (n7 x && n7 y) with
        | false =>
          simp only [cond_false, k_sm, e7]
          exact k_mk_ok ht h (by omega) (by omega)
        | true =>
          rw [Bool.and_eq_true] at e7
          obtain ⟨u, hu, hXe⟩ := vN_n7 e7.1 hx
          obtain ⟨v, hv, hYe⟩ := vN_n7 e7.2 hy
          simp only [cond_true]
          cases e3 : k_cs x y K.2.2.2.2 with
          | some z =>
            obtain ⟨s, hs, s1, s2, s3⟩ := k_cs_ok _ e3
            obtain ⟨a, b, c, a1, a2, a3, a4⟩ := h.2.2.2.2.2.2 s hs
            rw [s1, hu] at a1
            rw [s2, hv] at a2
            cases a1
            cases a2
            rw [s3] at a3
            rw [s1, s2] at a4
            refine k_id_ok h ⟨c, a3, ?_⟩ (k_tgt ht _ _)
            show Z = (bif Nat.beq t 7 then 7 * c else c) + 0
            rw [k_t7 ht]
            simp only [cond_false]
            omega
          | none =>
            simp only [k_sm, e7.1, e7.2, Bool.and_self, cond_true]
            obtain ⟨a1, a2⟩ := k_mk_at (Z := Z) (t := t) h (lo := (k_iv K x).1 + (k_iv K y).1) (hi := (k_iv K x).2 + (k_iv K y).2) (by omega) (by omega)
            refine ⟨vs ++ [Z], vL_app vs [Z], ?_, ⟨Z, a2, ?_⟩, k_tgt ht _ _⟩
            · obtain ⟨b0, b1, b2, b3, b4, b5, b6⟩ := a1
              refine ⟨b0, b1, b2, b3, b4, b5, ?_⟩
              intro s hs
              rcases List.mem_cons.mp hs with rfl | hs
              · exact ⟨u, v, Z, vL_app vs [Z] _ _ hu, vL_app vs [Z] _ _ hv, a2, by show Z = (u + x.2.2) + (v + y.2.2); omega⟩
              · exact b6 s hs
            · show Z = (bif Nat.beq t 7 then 7 * Z else Z) + 0
              rw [k_t7 ht]
              simp
theorem k_sub_ok (ht : t = 0 ∨ t = 1) (h : nK vs K) (gx : k_tg t x = true) (hx : vN vs x X) (hy : vN vs y Y) (hZ : opR 1 t X Y Z) : k_out vs t (k_sub t K x y (k_iv K x) (k_iv K y)) Z := by
  have bX := k_iv_ok h hx
  have bY := k_iv_ok h hy
  obtain ⟨hr, hz⟩ := hZ
  unfold k_sub
  cases e : (k_single (k_iv K y) && z_in t ((k_iv K x).1 - (k_iv K y).1) ((k_iv K x).2 - (k_iv K y).1)) with
  | true =>
    rw [Bool.and_eq_true] at e
    have hi := z_in_iff.mp e.2
    have := z_sgl e.1
    have hZe : Z = X - Y := hz ⟨by omega, by omega⟩
    have hv := vN_off (Z := Z) hx (-(k_iv K y).1) (by omega)
    rw [← Int.sub_eq_add_neg] at hv
    exact k_id_ok h hv gx
  | false =>
    simp only [cond_false]
    cases e1 : (n7 x && (n7 y && z_in t (-(k_df K y x)) (k_df K x y))) with
    | false => exact k_all_ok ht h hr
    | true =>
      rw [Bool.and_eq_true, Bool.and_eq_true] at e1
      have h1 := k_df_ok h e1.1 e1.2.1 hx hy
      have h2 := k_df_ok h e1.2.1 e1.1 hy hx
      have hi := z_in_iff.mp e1.2.2
      have hZe : Z = X - Y := hz ⟨by omega, by omega⟩
      exact k_mk_ok ht h (by omega) (by omega)
theorem z_mulb {a b X Y : Int} (h1 : a ≤ X) (h2 : X ≤ b) : z_min (a * Y) (b * Y) ≤ X * Y ∧ X * Y ≤ z_max (a * Y) (b * Y) := by
  rcases Int.le_total 0 Y with hY | hY
  · have m1 := Int.mul_le_mul_of_nonneg_right h1 hY
    have m2 := Int.mul_le_mul_of_nonneg_right h2 hY
    constructor
    · exact Int.le_trans z_min_l m1
    · unfold z_max; cases e : z_le (a * Y) (b * Y) with
      | true => exact m2
      | false =>
        have : ¬ (a * Y ≤ b * Y) := fun h' => by rw [z_le_iff.mpr h'] at e; cases e
        exact absurd (Int.le_trans m1 m2) this
  · have m1 := Int.mul_le_mul_of_nonpos_right h1 hY
    have m2 := Int.mul_le_mul_of_nonpos_right h2 hY
    constructor
    · exact Int.le_trans z_min_r m2
    · unfold z_max; cases e : z_le (a * Y) (b * Y) with
      | true =>
        have := z_le_iff.mp e
        simp only [cond_true]; omega
      | false => exact m1
theorem z_max_l {a b : Int} : a ≤ z_max a b := by
  unfold z_max
  cases h : z_le a b with
  | true => exact z_le_iff.mp h
  | false => exact Int.le_refl a
theorem z_max_r {a b : Int} : b ≤ z_max a b := by
  unfold z_max
  cases h : z_le a b with
  | true => exact Int.le_refl b
  | false =>
    have : ¬ a ≤ b := fun h' => by rw [z_le_iff.mpr h'] at h; cases h
    simp only [cond_false]; omega
theorem z_mul4 {a b c d X Y : Int} (h1 : a ≤ X) (h2 : X ≤ b) (h3 : c ≤ Y) (h4 : Y ≤ d) : z_min4 (a * c) (a * d) (b * c) (b * d) ≤ X * Y ∧ X * Y ≤ z_max4 (a * c) (a * d) (b * c) (b * d) := by
  have m := z_mulb (Y := Y) h1 h2
  have ma := z_mulb (Y := a) h3 h4
  have mb := z_mulb (Y := b) h3 h4
  rw [Int.mul_comm c a, Int.mul_comm d a, Int.mul_comm Y a] at ma
  rw [Int.mul_comm c b, Int.mul_comm d b, Int.mul_comm Y b] at mb
  have l1 : z_min (z_min (a * c) (a * d)) (z_min (b * c) (b * d)) ≤ a * Y := Int.le_trans z_min_l ma.1
  have l2 : z_min (z_min (a * c) (a * d)) (z_min (b * c) (b * d)) ≤ b * Y := Int.le_trans z_min_r mb.1
  have l3 : a * Y ≤ z_max (z_max (a * c) (a * d)) (z_max (b * c) (b * d)) := Int.le_trans ma.2 z_max_l
  have l4 : b * Y ≤ z_max (z_max (a * c) (a * d)) (z_max (b * c) (b * d)) := Int.le_trans mb.2 z_max_r
  exact ⟨Int.le_trans (z_min_le l1 l2) m.1, Int.le_trans m.2 (z_le_max l3 l4)⟩
theorem k_is7_ok {b : Int × Int} (h : k_is7 b = true) : b.1 = 7 ∧ b.2 = 7 := by
  unfold k_is7 at h
  rw [Bool.and_eq_true] at h
  exact ⟨z_eq_iff.mp h.1, z_eq_iff.mp h.2⟩
theorem vN_seven {s : sV} {S : Int} (hs : vN vs s S) (h0 : Nat.beq s.1 0 = true) (e : Z = 7 * S) : vN vs (7, s.2.1, 7 * s.2.2) Z := by
  obtain ⟨u, hu, rfl⟩ := hs
  have := Nat.eq_of_beq_eq_true h0
  refine ⟨u, hu, ?_⟩
  rw [this] at e
  show Z = 7 * u + 7 * s.2.2
  rw [e]
  show 7 * (u + s.2.2) = 7 * u + 7 * s.2.2
  omega
theorem k_mul_ok (ht : t = 0 ∨ t = 1) (h : nK vs K) (hx : vN vs x X) (hy : vN vs y Y) (hZ : opR 2 t X Y Z) {lo hi : Int} (hl : lo ≤ X * Y) (hh : X * Y ≤ hi) : k_out vs t (k_mul t K x y (k_iv K x) (k_iv K y) lo hi) Z := by
  have bX := k_iv_ok h hx
  have bY := k_iv_ok h hy
  obtain ⟨hr, hz⟩ := hZ
  unfold k_mul
  cases e : z_in t lo hi with
  | false => exact k_all_ok ht h hr
  | true =>
    have hi := z_in_iff.mp e
    have hZe : Z = X * Y := hz ⟨by omega, by omega⟩
    simp only [cond_true]
    cases e1 : (Nat.beq t 0 && (k_is7 (k_iv K x) && (Nat.beq y.1 0 && !(k_single (k_iv K y))))) with
    | true =>
      rw [Bool.and_eq_true, Bool.and_eq_true, Bool.and_eq_true] at e1
      have h7 := k_is7_ok e1.2.1
      have hX : X = 7 := by omega
      have ht0 := Nat.eq_of_beq_eq_true e1.1
      subst ht0
      exact k_id_ok h (vN_seven hy e1.2.2.1 (by rw [hZe, hX])) rfl
    | false =>
      simp only [cond_false]
      cases e2 : (Nat.beq t 0 && (k_is7 (k_iv K y) && (Nat.beq x.1 0 && !(k_single (k_iv K x))))) with
      | true =>
        rw [Bool.and_eq_true, Bool.and_eq_true, Bool.and_eq_true] at e2
        have h7 := k_is7_ok e2.2.1
        have hY : Y = 7 := by omega
        have ht0 := Nat.eq_of_beq_eq_true e2.1
        subst ht0
        exact k_id_ok h (vN_seven hx e2.2.2.1 (by rw [hZe, hY, Int.mul_comm])) rfl
      | false => exact k_mk_ok ht h (by omega) (by omega)
theorem k_div_ok (ht : t = 0 ∨ t = 1) (h : nK vs K) (hx : vN vs x X) (hy : vN vs y Y) (hZ : opR 3 t X Y Z) : k_out vs t (k_div t K x (k_iv K x) (k_iv K y)) Z := by
  have bX := k_iv_ok h hx
  have bY := k_iv_ok h hy
  obtain ⟨hr, hz⟩ := hZ
  unfold k_div
  cases e : (z_le 0 (k_iv K x).1 && z_le 1 (k_iv K y).1) with
  | false => exact k_all_ok ht h hr
  | true =>
    rw [Bool.and_eq_true, z_le_iff, z_le_iff] at e
    have hX0 : 0 ≤ X := by omega
    have hY0 : 0 < Y := by omega
    have hZe : Z = X / Y := hz hX0 hY0
    simp only [cond_true]
    cases e1 : k_single (k_iv K y) with
    | true =>
      have := z_sgl e1
      have hYe : Y = (k_iv K y).1 := by omega
      rw [hYe] at hZe
      rw [hYe] at hY0
      have d1 : (k_iv K x).1 / (k_iv K y).1 ≤ Z := by rw [hZe]; exact Int.ediv_le_ediv hY0 bX.1
      have d2 : Z ≤ (k_iv K x).2 / (k_iv K y).1 := by rw [hZe]; exact Int.ediv_le_ediv hY0 bX.2
      simp only [cond_true]
      unfold k_qt
      cases e7 : n7 x with
      | false => exact k_mk_ok ht h d1 d2
      | true =>
        obtain ⟨u, hu, hXe⟩ := vN_n7 e7 hx
        obtain ⟨a1, a2⟩ := k_mk_at (Z := Z) (t := t) h d1 d2
        simp only [cond_true]
        refine ⟨vs ++ [Z], vL_app vs [Z], ?_, ⟨Z, a2, ?_⟩, k_tgt ht _ _⟩
        · obtain ⟨b0, b1, b2, b3, b4, b5, b6⟩ := a1
          refine ⟨b0, b1, b2, b3, b4, ?_, b6⟩
          intro s hs
          rcases List.mem_cons.mp hs with rfl | hs
          · refine ⟨Z, u, a2, vL_app vs [Z] _ _ hu, hY0, ?_⟩
            show u + x.2.2 < (Z + 1) * (k_iv K y).1
            rw [← hXe, hZe]
            exact Int.lt_ediv_add_one_mul_self X hY0
          · exact b5 s hs
        · show Z = (bif Nat.beq t 7 then 7 * Z else Z) + 0
          rw [k_t7 ht]
          simp
    | false =>
      refine k_mk_ok ht h ?_ ?_
      · rw [hZe]; exact Int.ediv_nonneg hX0 (by omega)
      · rw [hZe]; exact Int.le_trans (Int.ediv_le_self Y hX0) bX.2
theorem k_rem_ok (ht : t = 0 ∨ t = 1) (h : nK vs K) (hx : vN vs x X) (hy : vN vs y Y) (hZ : opR 4 t X Y Z) : k_out vs t (k_rem t K (k_iv K x) (k_iv K y)) Z := by
  have bX := k_iv_ok h hx
  have bY := k_iv_ok h hy
  obtain ⟨hr, hz⟩ := hZ
  unfold k_rem
  cases e : (z_le 0 (k_iv K x).1 && z_le 1 (k_iv K y).1) with
  | false => exact k_all_ok ht h hr
  | true =>
    rw [Bool.and_eq_true, z_le_iff, z_le_iff] at e
    have hX0 : 0 ≤ X := by omega
    have hY0 : 0 < Y := by omega
    have hZe : Z = X % Y := hz hX0 hY0
    have r1 := Int.emod_nonneg X (show Y ≠ 0 by omega)
    have r2 := Int.emod_lt_of_pos X hY0
    have r3 : X % Y ≤ X := by
      have := Int.mul_ediv_add_emod X Y
      have h4 := Int.mul_nonneg (Int.le_of_lt hY0) (Int.ediv_nonneg hX0 (Int.le_of_lt hY0))
      omega
    exact k_mk_ok ht h (by omega) (z_min_le (by omega) (by omega))
theorem k_and_ok (ht : t = 0 ∨ t = 1) (h : nK vs K) (hx : vN vs x X) (hy : vN vs y Y) (hZ : opR 5 t X Y Z) : k_out vs t (k_and t K (k_iv K x) (k_iv K y)) Z := by
  have bX := k_iv_ok h hx
  have bY := k_iv_ok h hy
  obtain ⟨hr, hz1, hz2⟩ := hZ
  unfold k_and
  cases e : z_le 0 (k_iv K x).1 with
  | true =>
    have := z_le_iff.mp e
    have a := hz1 (by omega)
    refine k_mk_ok ht h a.1 ?_
    cases e2 : z_le 0 (k_iv K y).1 with
    | true =>
      have := z_le_iff.mp e2
      have b := hz2 (by omega)
      exact z_min_le (by omega) (by omega)
    | false => simp only [cond_false]; omega
  | false =>
    simp only [cond_false]
    cases e2 : z_le 0 (k_iv K y).1 with
    | true =>
      have := z_le_iff.mp e2
      have b := hz2 (by omega)
      exact k_mk_ok ht h b.1 (by omega)
    | false => exact k_all_ok ht h hr
theorem k_bin_ok {o : Nat} {r : sK × sV} (ht : t = 0 ∨ t = 1) (h : nK vs K) (hx : vN vs x X) (hy : vN vs y Y) (hb : k_bin o t K x y = some r) (hZ : opR o t X Y Z) : k_out vs t r Z := by
  unfold k_bin at hb
  cases e : (k_tg t x && (k_tg t y && (!(Nat.beq o 3 || Nat.beq o 4) || k_nz K y))) with
  | false => rw [e] at hb; cases hb
  | true =>
    rw [e] at hb
    cases hb
    rw [Bool.and_eq_true, Bool.and_eq_true] at e
    have bX := k_iv_ok h hx
    have bY := k_iv_ok h hy
    have gx := e.1
    have gy := e.2.1
    match o, hZ with
    | 0, hZ => exact k_add_ok ht h gx gy hx hy hZ
    | 1, hZ => exact k_sub_ok ht h gx hx hy hZ
    | 2, hZ => exact k_mul_ok ht h hx hy hZ (z_mul4 bX.1 bX.2 bY.1 bY.2).1 (z_mul4 bX.1 bX.2 bY.1 bY.2).2
    | 3, hZ => exact k_div_ok ht h hx hy hZ
    | 4, hZ => exact k_rem_ok ht h hx hy hZ
    | 5, hZ => exact k_and_ok ht h hx hy hZ
    | 6, hZ =>
      simp only [k_op]
      cases e6 : z_le 0 (k_iv K x).1 with
      | true =>
        have := z_le_iff.mp e6
        have a := hZ.2 (by omega)
        exact k_mk_ok ht h a.1 (by omega)
      | false => exact k_all_ok ht h hZ.1
    | 7, hZ =>
      simp only [k_op]
      cases e7 : (z_le 1 (k_iv K y).1 && z_le (k_iv K y).2 31) with
      | true =>
        rw [Bool.and_eq_true, z_le_iff, z_le_iff] at e7
        have a := hZ.2 (by omega) (by omega)
        exact k_mk_ok ht h a hZ.1.2
      | false => exact k_all_ok ht h hZ.1
    | n + 8, hZ => exact k_all_ok ht h hZ.1
theorem k_bin_nz {o : Nat} {r : sK × sV} (h : nK vs K) (hy : vN vs y Y) (hb : k_bin o t K x y = some r) (ho : o = 3 ∨ o = 4) : Y ≠ 0 := by
  unfold k_bin at hb
  cases e : (k_tg t x && (k_tg t y && (!(Nat.beq o 3 || Nat.beq o 4) || k_nz K y))) with
  | false => rw [e] at hb; cases hb
  | true =>
    rw [Bool.and_eq_true, Bool.and_eq_true] at e
    have h3 := e.2.2
    have : (Nat.beq o 3 || Nat.beq o 4) = true := by rcases ho with rfl | rfl <;> rfl
    rw [this] at h3
    exact k_nz_ok h hy h3
theorem k_bin_tg {o : Nat} {r : sK × sV} (hb : k_bin o t K x y = some r) : k_tg t x = true ∧ k_tg t y = true := by
  unfold k_bin at hb
  cases e : (k_tg t x && (k_tg t y && (!(Nat.beq o 3 || Nat.beq o 4) || k_nz K y))) with
  | false => rw [e] at hb; cases hb
  | true =>
    rw [Bool.and_eq_true, Bool.and_eq_true] at e
    exact ⟨e.1, e.2.1⟩
end OPS
end
section
/-! the machine's operations on ints and longs are the checker's -/
theorem i32_rg (x : Int32) : z_rg 0 x.toInt := by
  have h1 := Int32.le_toInt x
  have h2 := Int32.toInt_lt x
  show (-2147483648 : Int) ≤ x.toInt ∧ x.toInt ≤ 2147483647
  omega
theorem i64_rg (x : Int64) : z_rg 1 x.toInt := by
  have h1 := Int64.le_toInt x
  have h2 := Int64.toInt_lt x
  show (-9223372036854775808 : Int) ≤ x.toInt ∧ x.toInt ≤ 9223372036854775807
  omega
theorem z_bm0 {x : Int} (h : z_rg 0 x) : x.bmod (2 ^ 32) = x := by
  have h1 : (-2147483648 : Int) ≤ x := h.1
  have h2 : x ≤ 2147483647 := h.2
  rw [Int.bmod_def]; omega
theorem z_bm1 {x : Int} (h : z_rg 1 x) : x.bmod (2 ^ 64) = x := by
  have h1 : (-9223372036854775808 : Int) ≤ x := h.1
  have h2 : x ≤ 9223372036854775807 := h.2
  rw [Int.bmod_def]; omega
theorem z_rgm {t : Nat} {X Y : Int} (hX : z_rg t X) (h0 : 0 ≤ X) {Z : Int} (h1 : 0 ≤ Z) (h2 : Z ≤ X) : z_rg t Z := by
  have a : z_mn t ≤ 0 := by unfold z_mn; cases Nat.beq t 1 <;> decide
  exact ⟨by omega, Int.le_trans h2 hX.2⟩
theorem z_divm {X Y : Int} (hX : 0 ≤ X) (hY : 0 < Y) : 0 ≤ X / Y ∧ X / Y ≤ X ∧ 0 ≤ X / Y * Y ∧ X / Y * Y ≤ X ∧ X - X / Y * Y = X % Y := by
  have a := Int.ediv_nonneg hX (Int.le_of_lt hY)
  have b := Int.ediv_le_self Y hX
  have c := Int.mul_nonneg a (Int.le_of_lt hY)
  have d := Int.ediv_mul_add_emod X Y
  have e := Int.emod_nonneg X (show Y ≠ 0 by omega)
  exact ⟨a, b, c, by omega, by omega⟩
def k_oi (ins : Instr) : Option Nat := match ins with
  | .iadd => some 0
  | .isub => some 1
  | .imul => some 2
  | .idiv => some 3
  | .irem => some 4
  | .iand => some 5
  | .ishr => some 6
  | .iushr => some 7
  | .ishl => some 8
  | .ior => some 8
  | .ixor => some 8
  | _ => none
def k_ol (ins : Instr) : Option Nat := match ins with
  | .ladd => some 0
  | .lsub => some 1
  | .lmul => some 2
  | .ldiv => some 3
  | .lrem => some 4
  | .land => some 8
  | _ => none
theorem i32_nat_pos {x : Int32} (h : 0 ≤ x.toInt) : 2 * x.toBitVec.toNat < 4294967296 ∧ (x.toBitVec.toNat : Int) = x.toInt := by
  have e : x.toInt = if 2 * x.toBitVec.toNat < 2 ^ 32 then (x.toBitVec.toNat : Int) else (x.toBitVec.toNat : Int) - ((2 ^ 32 : Nat) : Int) := BitVec.toInt_eq_toNat_cond x.toBitVec
  have hl := x.toBitVec.isLt
  split at e <;> omega
theorem i32_of_nat {z : Int32} (h : 2 * z.toBitVec.toNat < 4294967296) : z.toInt = (z.toBitVec.toNat : Int) := by
  have e : z.toInt = if 2 * z.toBitVec.toNat < 2 ^ 32 then (z.toBitVec.toNat : Int) else (z.toBitVec.toNat : Int) - ((2 ^ 32 : Nat) : Int) := BitVec.toInt_eq_toNat_cond z.toBitVec
  rw [if_pos (by omega)] at e
  exact e
theorem i32_and_l {x y : Int32} (h : 0 ≤ x.toInt) : 0 ≤ (x &&& y).toInt ∧ (x &&& y).toInt ≤ x.toInt := by
  obtain ⟨h1, h2⟩ := i32_nat_pos h
  have e : (x &&& y).toBitVec.toNat = x.toBitVec.toNat &&& y.toBitVec.toNat := by rw [Int32.toBitVec_and, BitVec.toNat_and]
  have l : x.toBitVec.toNat &&& y.toBitVec.toNat ≤ x.toBitVec.toNat := Nat.and_le_left
  have z := i32_of_nat (z := x &&& y) (by omega)
  omega
theorem i32_and_r {x y : Int32} (h : 0 ≤ y.toInt) : 0 ≤ (x &&& y).toInt ∧ (x &&& y).toInt ≤ y.toInt := by
  obtain ⟨h1, h2⟩ := i32_nat_pos h
  have e : (x &&& y).toBitVec.toNat = x.toBitVec.toNat &&& y.toBitVec.toNat := by rw [Int32.toBitVec_and, BitVec.toNat_and]
  have l : x.toBitVec.toNat &&& y.toBitVec.toNat ≤ y.toBitVec.toNat := Nat.and_le_right
  have z := i32_of_nat (z := x &&& y) (by omega)
  omega
theorem i32_shr {x s : Int32} (h : 0 ≤ x.toInt) : 0 ≤ (x >>> s).toInt ∧ (x >>> s).toInt ≤ x.toInt := by
  have e : (x >>> s).toInt = x.toInt >>> (s.toBitVec.smod 32).toNat := by
    show (x >>> s).toBitVec.toInt = _
    rw [Int32.toBitVec_shiftRight]
    show (x.toBitVec.sshiftRight (s.toBitVec.smod 32).toNat).toInt = _
    rw [BitVec.toInt_sshiftRight]
    rfl
  rw [e, Int.shiftRight_eq_div_pow]
  have hp : (0 : Int) < ((2 ^ (s.toBitVec.smod 32).toNat : Nat) : Int) := by
    have := Nat.two_pow_pos (s.toBitVec.smod 32).toNat
    omega
  exact ⟨Int.ediv_nonneg h (Int.le_of_lt hp), Int.ediv_le_self _ h⟩
theorem i32_ushr {x y : Int32} (h1 : 1 ≤ y.toInt) (h2 : y.toInt ≤ 31) : 0 ≤ (x.toUInt32 >>> (y.toUInt32 &&& Int32.toUInt32 31)).toInt32.toInt := by
  obtain ⟨a1, a2⟩ := i32_nat_pos (x := y) (by omega)
  have s1 : (y.toUInt32 &&& Int32.toUInt32 31).toNat = y.toBitVec.toNat := by
    rw [UInt32.toNat_and]
    show y.toBitVec.toNat &&& 31 = y.toBitVec.toNat
    rw [show (31 : Nat) = 2 ^ 5 - 1 by decide, Nat.and_two_pow_sub_one_eq_mod]
    omega
  have s2 : (x.toUInt32 >>> (y.toUInt32 &&& Int32.toUInt32 31)).toNat = x.toUInt32.toNat >>> y.toBitVec.toNat := by
    rw [UInt32.toNat_shiftRight, s1]
    congr 1
    omega
  have hu : x.toUInt32.toNat < 4294967296 := x.toUInt32.toNat_lt
  have hs : x.toUInt32.toNat >>> y.toBitVec.toNat ≤ x.toUInt32.toNat / 2 := by
    rw [Nat.shiftRight_eq_div_pow]
    refine Nat.div_le_div_left ?_ (by decide)
    have : 2 ^ 1 ≤ 2 ^ y.toBitVec.toNat := Nat.pow_le_pow_right (by decide) (by omega)
    omega
  have e : (x.toUInt32 >>> (y.toUInt32 &&& Int32.toUInt32 31)).toInt32.toBitVec.toNat = (x.toUInt32 >>> (y.toUInt32 &&& Int32.toUInt32 31)).toNat := rfl
  rw [i32_of_nat (by omega)]
  omega
theorem m_i2_op {ins : Instr} {o : Nat} (hi : k_oi ins = some o) (x y : Int32) (hnz : o = 3 ∨ o = 4 → y.toInt ≠ 0) : ∃ z, m_i2 ins x y = some z ∧ opR o 0 x.toInt y.toInt z.toInt := by
  have hy0 : o = 3 ∨ o = 4 → ¬ y = 0 := fun h e => hnz h (by rw [e]; rfl)
  cases ins <;> first
    | (exfalso; revert hi; simp [k_oi]; done)
    | skip
  all_goals (simp only [k_oi, Option.some.injEq] at hi; subst hi)
  case iadd => exact ⟨x + y, rfl, i32_rg _, fun h => by rw [Int32.toInt_add, z_bm0 h]⟩
  case isub => exact ⟨x - y, rfl, i32_rg _, fun h => by rw [Int32.toInt_sub, z_bm0 h]⟩
  case imul => exact ⟨x * y, rfl, i32_rg _, fun h => by rw [Int32.toInt_mul, z_bm0 h]⟩
  case idiv =>
    refine ⟨x / y, by simp only [m_i2]; rw [if_neg (hy0 (.inl rfl))], i32_rg _, fun hX hY => ?_⟩
    obtain ⟨d1, d2, -⟩ := z_divm hX hY
    rw [Int32.toInt_div, Int.tdiv_eq_ediv_of_nonneg hX, z_bm0 (z_rgm (Y := 0) (i32_rg x) hX d1 d2)]
  case irem =>
    refine ⟨x - x / y * y, by simp only [m_i2]; rw [if_neg (hy0 (.inr rfl))], i32_rg _, fun hX hY => ?_⟩
    obtain ⟨d1, d2, d3, d4, d5⟩ := z_divm hX hY
    have r1 := Int.emod_nonneg x.toInt (show y.toInt ≠ 0 by omega)
    rw [Int32.toInt_sub, Int32.toInt_mul, Int32.toInt_div, Int.tdiv_eq_ediv_of_nonneg hX, z_bm0 (z_rgm (Y := 0) (i32_rg x) hX d1 d2), z_bm0 (z_rgm (Y := 0) (i32_rg x) hX d3 d4), d5, z_bm0 (z_rgm (Y := 0) (i32_rg x) hX r1 (by omega))]
  case iand => exact ⟨x &&& y, rfl, i32_rg _, fun h => i32_and_l h, fun h => i32_and_r h⟩
  case ishr => exact ⟨x >>> (y &&& 31), rfl, i32_rg _, fun h => i32_shr h⟩
  case iushr => exact ⟨_, rfl, i32_rg _, fun h1 h2 => i32_ushr h1 h2⟩
  case ishl => exact ⟨_, rfl, i32_rg _, trivial⟩
  case ior => exact ⟨_, rfl, i32_rg _, trivial⟩
  case ixor => exact ⟨_, rfl, i32_rg _, trivial⟩
theorem m_l2_op {ins : Instr} {o : Nat} (hi : k_ol ins = some o) (x y : Int64) (hnz : o = 3 ∨ o = 4 → y.toInt ≠ 0) : ∃ z, m_l2 ins x y = some (.long z) ∧ opR o 1 x.toInt y.toInt z.toInt := by
  have hy0 : o = 3 ∨ o = 4 → ¬ y = 0 := fun h e => hnz h (by rw [e]; rfl)
  cases ins <;> first
    | (exfalso; revert hi; simp [k_ol]; done)
    | skip
  all_goals (simp only [k_ol, Option.some.injEq] at hi; subst hi)
  case ladd => exact ⟨x + y, rfl, i64_rg _, fun h => by rw [Int64.toInt_add, z_bm1 h]⟩
  case lsub => exact ⟨x - y, rfl, i64_rg _, fun h => by rw [Int64.toInt_sub, z_bm1 h]⟩
  case lmul => exact ⟨x * y, rfl, i64_rg _, fun h => by rw [Int64.toInt_mul, z_bm1 h]⟩
  case ldiv =>
    refine ⟨x / y, by simp only [m_l2]; rw [if_neg (hy0 (.inl rfl))], i64_rg _, fun hX hY => ?_⟩
    obtain ⟨d1, d2, -⟩ := z_divm hX hY
    rw [Int64.toInt_div, Int.tdiv_eq_ediv_of_nonneg hX, z_bm1 (z_rgm (Y := 0) (i64_rg x) hX d1 d2)]
  case lrem =>
    refine ⟨x - x / y * y, by simp only [m_l2]; rw [if_neg (hy0 (.inr rfl))], i64_rg _, fun hX hY => ?_⟩
    obtain ⟨d1, d2, d3, d4, d5⟩ := z_divm hX hY
    have r1 := Int.emod_nonneg x.toInt (show y.toInt ≠ 0 by omega)
    rw [Int64.toInt_sub, Int64.toInt_mul, Int64.toInt_div, Int.tdiv_eq_ediv_of_nonneg hX, z_bm1 (z_rgm (Y := 0) (i64_rg x) hX d1 d2), z_bm1 (z_rgm (Y := 0) (i64_rg x) hX d3 d4), d5, z_bm1 (z_rgm (Y := 0) (i64_rg x) hX r1 (by omega))]
  case land => exact ⟨_, rfl, i64_rg _, trivial⟩
end
section
/-! VALUES AND WORLDS of the checker -/
def shp (c : mE) : Nat × Nat × Nat := match c with
  | .inl (t, n, .inl _) => (0, t, n)
  | .inl (t, n, .inr (.inl _)) => (1, t, n)
  | .inl (t, n, .inr (.inr (.inl _))) => (2, t, n)
  | .inl (t, n, .inr (.inr (.inr (.inl _)))) => (3, t, n)
  | .inl (t, n, .inr (.inr (.inr (.inr _)))) => (4, t, n)
  | .inr (ci, fs) => (5, ci, fs.length)
theorem shp_obj {c : mE} {ci n : Nat} (h : shp c = (5, ci, n)) : ∃ fs, c = .inr (ci, fs) ∧ fs.length = n := by
  unfold shp at h
  split at h <;> simp only [Prod.mk.injEq] at h
  all_goals first | (exact absurd h.1 (by decide)) | skip
  next ci' fs => exact ⟨fs, by rw [h.2.1], h.2.2⟩
theorem shp_int {c : mE} {t n : Nat} (h : shp c = (0, t, n)) : ∃ f, c = .inl (t, n, .inl f) := by
  unfold shp at h
  split at h <;> simp only [Prod.mk.injEq] at h
  all_goals first | (exact absurd h.1 (by decide)) | skip
  next t' n' f => exact ⟨f, by rw [h.2.1, h.2.2]⟩
def w_le (w w' : mWd) : Prop := ∀ (i : Nat) (c : mE), w[i]? = some c → ∃ c', w'[i]? = some c' ∧ shp c' = shp c
theorem w_le_refl (w : mWd) : w_le w w := fun _ c h => ⟨c, h, rfl⟩
theorem w_le_trans {a b c : mWd} (h1 : w_le a b) (h2 : w_le b c) : w_le a c := fun i x h => by
  obtain ⟨y, hy, e1⟩ := h1 i x h
  obtain ⟨z, hz, e2⟩ := h2 i y hy
  exact ⟨z, hz, e2.trans e1⟩
theorem getE_set {w : mWd} {i : Nat} {c c' : mE} (h : w[i]? = some c) (j : Nat) : (w.set i c')[j]? = if j = i then some c' else w[j]? := by
  rw [List.getElem?_set]
  by_cases e : i = j
  · subst e; simp [(List.getElem?_eq_some_iff.mp h).1]
  · rw [if_neg e, if_neg (fun h => e h.symm)]
theorem w_le_set {w : mWd} {i : Nat} {c c' : mE} (h : w[i]? = some c) (e : shp c' = shp c) : w_le w (w.set i c') := fun j x hj => by
  rw [getE_set h]
  by_cases ej : j = i
  · subst ej
    rw [h] at hj
    cases hj
    exact ⟨c', by rw [if_pos rfl], e⟩
  · exact ⟨x, by rw [if_neg ej]; exact hj, rfl⟩
theorem w_le_app (w : mWd) (c : mE) : w_le w (w ++ [c]) := fun j x hj => ⟨x, by rw [List.getElem?_append_left (List.getElem?_eq_some_iff.mp hj).1]; exact hj, rfl⟩
def wC (w : mWd) (i : Nat) : Prop := 129 ≤ i ∧ ∃ c, w[i]? = some c ∧ shp c = (5, 2, 13)
def wT (w : mWd) (i n : Nat) : Prop := 129 ≤ i ∧ n ≤ 161 ∧ ∃ c, w[i]? = some c ∧ shp c = (0, 0, n)
theorem wC_up {w w' : mWd} (hw : w_le w w') {i : Nat} (h : wC w i) : wC w' i := by
  obtain ⟨h1, c, h2, h3⟩ := h
  obtain ⟨c', h4, h5⟩ := hw i c h2
  exact ⟨h1, c', h4, h5.trans h3⟩
theorem wT_up {w w' : mWd} (hw : w_le w w') {i n : Nat} (h : wT w i n) : wT w' i n := by
  obtain ⟨h1, h0, c, h2, h3⟩ := h
  obtain ⟨c', h4, h5⟩ := hw i c h2
  exact ⟨h1, h0, c', h4, h5.trans h3⟩
/-- what a value of the checker stands for: 0 ints, 1 longs, 2 cells made at the start, 3 costs, 4 texts (with their length), 5 outer cells, 6 the sign of a number, 7 seven times an atom, 8 null -/
def dn (vs : List Int) (w : mWd) (s : sV) (v : Value) : Prop := match s.1 with
  | 0 => ∃ i : Int32, v = .int i ∧ vN vs s i.toInt
  | 1 => ∃ i : Int64, v = .long i ∧ vN vs s i.toInt
  | 2 => v = .ref s.2.1
  | 3 => ∃ u, vs[s.2.1]? = some u ∧ ((u = -1 ∧ v = .null) ∨ (u = 0 ∧ ∃ i, v = .ref i ∧ wC w i))
  | 4 => ∃ u, vs[s.2.1]? = some u ∧ ((u = -1 ∧ v = .null) ∨ (u = 0 ∧ ∃ (i n : Nat), v = .ref i ∧ wT w i n ∧ vs[s.2.2.toNat]? = some (n : Int)))
  | 5 => v = .retAddr s.2.1
  | 6 => ∃ (i : Int32) (X : Int), v = .int i ∧ vN vs s X ∧ (i.toInt < 0 ↔ X < 0) ∧ (i.toInt = 0 ↔ X = 0)
  | 7 => ∃ i : Int32, v = .int i ∧ vN vs s i.toInt
  | 8 => v = .null
  | _ => False
theorem dn_up {vs vs' : List Int} {w w' : mWd} (hv : vL vs vs') (hw : w_le w w') {s : sV} {v : Value} (h : dn vs w s v) : dn vs' w' s v := by
  obtain ⟨t, a, c⟩ := s
  unfold dn at h ⊢
  match t, h with
  | 0, ⟨i, h1, h2⟩ => exact ⟨i, h1, vN_up hv h2⟩
  | 1, ⟨i, h1, h2⟩ => exact ⟨i, h1, vN_up hv h2⟩
  | 2, h => exact h
  | 3, ⟨u, h1, h2⟩ =>
    refine ⟨u, hv _ _ h1, ?_⟩
    rcases h2 with h2 | ⟨h2, i, h3, h4⟩
    · exact .inl h2
    · exact .inr ⟨h2, i, h3, wC_up hw h4⟩
  | 4, ⟨u, h1, h2⟩ =>
    refine ⟨u, hv _ _ h1, ?_⟩
    rcases h2 with h2 | ⟨h2, i, n, h3, h4, h5⟩
    · exact .inl h2
    · exact .inr ⟨h2, i, n, h3, wT_up hw h4, hv _ _ h5⟩
  | 5, h => exact h
  | 6, ⟨i, X, h1, h2, h3⟩ => exact ⟨i, X, h1, vN_up hv h2, h3⟩
  | 7, ⟨i, h1, h2⟩ => exact ⟨i, h1, vN_up hv h2⟩
  | 8, h => exact h
  | n + 9, h => exact h.elim
def s_cat (s : sV) : Nat := bif Nat.beq s.1 1 then 2 else 1
theorem dn_cat {vs : List Int} {w : mWd} {s : sV} {v : Value} (h : dn vs w s v) : v.category = s_cat s := by
  obtain ⟨t, a, c⟩ := s
  unfold dn at h
  match t, h with
  | 0, ⟨i, h1, h2⟩ => subst h1; rfl
  | 1, ⟨i, h1, h2⟩ => subst h1; rfl
  | 2, h => subst h; rfl
  | 3, ⟨u, h1, h2⟩ =>
    rcases h2 with ⟨-, h2⟩ | ⟨h2, i, h3, h4⟩
    · subst h2; rfl
    · subst h3; rfl
  | 4, ⟨u, h1, h2⟩ =>
    rcases h2 with ⟨-, h2⟩ | ⟨h2, i, n, h3, h4, h5⟩
    · subst h2; rfl
    · subst h3; rfl
  | 5, h => subst h; rfl
  | 6, ⟨i, X, h1, h2, h3⟩ => subst h1; rfl
  | 7, ⟨i, h1, h2⟩ => subst h1; rfl
  | 8, h => subst h; rfl
  | n + 9, h => exact h.elim
theorem dn_c1 {vs : List Int} {w : mWd} {s : sV} {v : Value} (h : dn vs w s v) (h1 : Nat.beq s.1 1 = false) : m_c1 v = true := by
  have hc := dn_cat h
  unfold s_cat at hc
  rw [h1] at hc
  cases v <;> first | rfl | (cases hc; done)
/-- ints: kinds 0 and 7 -/
theorem dn_int {vs : List Int} {w : mWd} {s : sV} {v : Value} (h : dn vs w s v) (ht : k_tg 0 s = true) : ∃ i : Int32, v = .int i ∧ vN vs s i.toInt := by
  obtain ⟨t, a, c⟩ := s
  unfold k_tg at ht
  simp only [show Nat.beq 0 0 = true from rfl, cond_true, Bool.or_eq_true] at ht
  rcases ht with ht | ht
  · have := Nat.eq_of_beq_eq_true ht; subst this; exact h
  · have := Nat.eq_of_beq_eq_true ht; subst this; exact h
theorem dn_lng {vs : List Int} {w : mWd} {s : sV} {v : Value} (h : dn vs w s v) (ht : k_tg 1 s = true) : ∃ i : Int64, v = .long i ∧ vN vs s i.toInt := by
  obtain ⟨t, a, c⟩ := s
  have := Nat.eq_of_beq_eq_true (show Nat.beq t 1 = true from ht)
  subst this
  exact h
theorem dn_of_int {vs : List Int} {w : mWd} {s : sV} {i : Int32} (ht : k_tg 0 s = true) (h : vN vs s i.toInt) : dn vs w s (.int i) := by
  obtain ⟨t, a, c⟩ := s
  unfold k_tg at ht
  simp only [show Nat.beq 0 0 = true from rfl, cond_true, Bool.or_eq_true] at ht
  rcases ht with ht | ht
  · have := Nat.eq_of_beq_eq_true ht; subst this; exact ⟨i, rfl, h⟩
  · have := Nat.eq_of_beq_eq_true ht; subst this; exact ⟨i, rfl, h⟩
theorem dn_of_lng {vs : List Int} {w : mWd} {s : sV} {i : Int64} (ht : k_tg 1 s = true) (h : vN vs s i.toInt) : dn vs w s (.long i) := by
  obtain ⟨t, a, c⟩ := s
  have := Nat.eq_of_beq_eq_true (show Nat.beq t 1 = true from ht)
  subst this
  exact ⟨i, rfl, h⟩
def dnL (vs : List Int) (w : mWd) : List sV → List Value → Prop
  | [], [] => True
  | s :: ss, v :: vv => dn vs w s v ∧ dnL vs w ss vv
  | _, _ => False
theorem dnL_up {vs vs' : List Int} {w w' : mWd} (hv : vL vs vs') (hw : w_le w w') : ∀ {ss : List sV} {vv : List Value}, dnL vs w ss vv → dnL vs' w' ss vv
  | [], [], h => h
  | _ :: _, _ :: _, h => ⟨dn_up hv hw h.1, dnL_up hv hw h.2⟩
  | [], _ :: _, h => h.elim
  | _ :: _, [], h => h.elim
theorem dnL_cons {vs : List Int} {w : mWd} {s : sV} {ss : List sV} {vv : List Value} (h : dnL vs w (s :: ss) vv) : ∃ v r, vv = v :: r ∧ dn vs w s v ∧ dnL vs w ss r := by
  cases vv with
  | nil => exact h.elim
  | cons v r => exact ⟨v, r, rfl, h.1, h.2⟩
theorem dnL_nil {vs : List Int} {w : mWd} {vv : List Value} (h : dnL vs w [] vv) : vv = [] := by
  cases vv with
  | nil => rfl
  | cons v r => exact h.elim
def s_cats : List sV → Nat
  | [] => 0
  | s :: ss => s_cat s + s_cats ss
theorem dnL_cats {vs : List Int} {w : mWd} : ∀ {ss : List sV} {vv : List Value}, dnL vs w ss vv → m_cat vv = s_cats ss
  | [], [], _ => rfl
  | s :: ss, v :: vv, h => by
    have ih := dnL_cats h.2
    unfold m_cat at ih ⊢
    rw [List.map_cons, List.sum_cons, ih, dn_cat h.1]
    rfl
  | [], _ :: _, h => h.elim
  | _ :: _, [], h => h.elim
abbrev sL : Type := List (Nat × sV)
def lvR (vs : List Int) (w : mWd) : sL → mL → Prop
  | [], [] => True
  | q :: ss, r :: vv => q.1 = r.1 ∧ dn vs w q.2 r.2 ∧ lvR vs w ss vv
  | _, _ => False
theorem lvR_up {vs vs' : List Int} {w w' : mWd} (hv : vL vs vs') (hw : w_le w w') : ∀ {ss : sL} {vv : mL}, lvR vs w ss vv → lvR vs' w' ss vv
  | [], [], h => h
  | _ :: _, _ :: _, h => ⟨h.1, dn_up hv hw h.2.1, lvR_up hv hw h.2.2⟩
  | [], _ :: _, h => h.elim
  | _ :: _, [], h => h.elim
def s_get : sL → Nat → Option sV
  | [], _ => none
  | q :: l, i => bif Nat.beq q.1 i then some q.2 else s_get l i
theorem lvR_get {vs : List Int} {w : mWd} {i : Nat} {s : sV} : ∀ {ss : sL} {vv : mL}, lvR vs w ss vv → s_get ss i = some s → ∃ v, m_get vv i = some v ∧ dn vs w s v
  | [], _, _, h => by cases h
  | q :: ss, [], h, _ => h.elim
  | q :: ss, (j, v) :: vv, ⟨h1, h2, h3⟩, hg => by
    unfold s_get at hg
    unfold m_get
    rw [← show q.1 = j from h1]
    cases e : Nat.beq q.1 i with
    | true =>
      rw [e] at hg
      cases hg
      exact ⟨v, rfl, h2⟩
    | false =>
      rw [e] at hg
      exact lvR_get h3 hg
def s_rm1 (i : Nat) : sL → sL
  | [] => []
  | q :: l => bif (Nat.beq q.1 i || (Nat.beq (q.1 + 1) i && Nat.beq q.2.1 1)) then s_rm1 i l else q :: s_rm1 i l
def s_rm2 (i : Nat) : sL → sL
  | [] => []
  | q :: l => bif (Nat.beq q.1 i || (Nat.beq q.1 (i + 1) || (Nat.beq (q.1 + 1) i && Nat.beq q.2.1 1))) then s_rm2 i l else q :: s_rm2 i l
theorem beq_nat (a b : Nat) : (a == b) = Nat.beq a b := by
  cases h : Nat.beq a b with
  | true => simp [Nat.eq_of_beq_eq_true h]
  | false =>
    have : a ≠ b := Nat.ne_of_beq_eq_false h
    simp [this]
theorem cat_beq {vs : List Int} {w : mWd} {s : sV} {v : Value} (h : dn vs w s v) : (v.category == 2) = Nat.beq s.1 1 := by
  rw [dn_cat h]
  unfold s_cat
  cases Nat.beq s.1 1 <;> rfl
theorem lvR_put1 {vs : List Int} {w : mWd} {i : Nat} {s : sV} {v : Value} {ss : sL} {vv : mL} (h : lvR vs w ss vv) (hs : dn vs w s v) : lvR vs w ((i, s) :: s_rm1 i ss) (m_put1 vv i v) := by
  refine ⟨rfl, hs, ?_⟩
  induction ss generalizing vv with
  | nil => cases vv with
    | nil => trivial
    | cons _ _ => exact h.elim
  | cons q ss ih => cases vv with
    | nil => exact h.elim
    | cons r vv =>
      obtain ⟨h1, h2, h3⟩ := h
      have := ih h3
      unfold s_rm1
      rw [List.filter_cons, ← h1, cat_beq h2, beq_nat, beq_nat]
      cases e1 : Nat.beq q.1 i with
      | true => simp only [Bool.true_or, cond_true, Bool.not_true, Bool.false_and, Bool.false_eq_true, if_false]; exact this
      | false =>
        cases e2 : (Nat.beq (q.1 + 1) i && Nat.beq q.2.1 1) with
        | true => simp only [Bool.or_true, cond_true, Bool.not_true, Bool.and_false, Bool.false_eq_true, if_false]; exact this
        | false => simp only [Bool.or_self, cond_false, Bool.not_false, Bool.and_self, if_true]; exact ⟨h1, h2, this⟩
theorem lvR_put2 {vs : List Int} {w : mWd} {i : Nat} {s : sV} {v : Value} {ss : sL} {vv : mL} (h : lvR vs w ss vv) (hs : dn vs w s v) : lvR vs w ((i, s) :: s_rm2 i ss) (m_put2 vv i v) := by
  refine ⟨rfl, hs, ?_⟩
  induction ss generalizing vv with
  | nil => cases vv with
    | nil => trivial
    | cons _ _ => exact h.elim
  | cons q ss ih => cases vv with
    | nil => exact h.elim
    | cons r vv =>
      obtain ⟨h1, h2, h3⟩ := h
      have := ih h3
      unfold s_rm2
      rw [List.filter_cons, ← h1, cat_beq h2, beq_nat, beq_nat, beq_nat]
      cases e1 : Nat.beq q.1 i with
      | true => simp only [Bool.true_or, cond_true, Bool.not_true, Bool.false_and, Bool.false_eq_true, if_false]; exact this
      | false =>
        cases e0 : Nat.beq q.1 (i + 1) with
        | true => simp only [Bool.true_or, Bool.or_true, cond_true, Bool.not_true, Bool.false_and, Bool.and_false, Bool.false_eq_true, if_false]; exact this
        | false =>
          cases e2 : (Nat.beq (q.1 + 1) i && Nat.beq q.2.1 1) with
          | true => simp only [Bool.or_true, cond_true, Bool.not_true, Bool.and_false, Bool.false_eq_true, if_false]; exact this
          | false => simp only [Bool.or_self, cond_false, Bool.not_false, Bool.and_self, if_true]; exact ⟨h1, h2, this⟩
end
section
/-! WHAT HOLDS OF THE WORLD at all times -/
abbrev zSp : Type := Nat × Int × Int
def okV (w : mWd) (sp : zSp) (v : Value) : Prop := match sp.1 with
  | 0 => ∃ i : Int32, v = .int i ∧ sp.2.1 ≤ i.toInt ∧ i.toInt ≤ sp.2.2
  | 1 => ∃ i : Int64, v = .long i
  | 2 => v = .ref sp.2.1.toNat
  | 3 => v = .null ∨ ∃ i, v = .ref i ∧ wC w i
  | 4 => v = .null ∨ ∃ i n, v = .ref i ∧ wT w i n
  | _ => False
theorem okV_up {w w' : mWd} (hw : w_le w w') {sp : zSp} {v : Value} (h : okV w sp v) : okV w' sp v := by
  obtain ⟨t, a, c⟩ := sp
  unfold okV at h ⊢
  match t, h with
  | 0, h => exact h
  | 1, h => exact h
  | 2, h => exact h
  | 3, h =>
    rcases h with h | ⟨i, h1, h2⟩
    · exact .inl h
    · exact .inr ⟨i, h1, wC_up hw h2⟩
  | 4, h =>
    rcases h with h | ⟨i, n, h1, h2⟩
    · exact .inl h
    · exact .inr ⟨i, n, h1, wT_up hw h2⟩
  | n + 5, h => exact h.elim
/-- a value as a spec has it, new to the store -/
def k_ld (K : sK) (sp : zSp) : sK × sV := match sp.1 with
  | 0 => k_mk 0 K sp.2.1 sp.2.2
  | 1 => k_all 1 K
  | 2 => (K, (2, sp.2.1.toNat, 0))
  | 3 => (k_new K (-1) 0, (3, K.1.length, 0))
  | _ => (k_new (k_new K (-1) 0) 0 161, (4, K.1.length, Int.ofNat (K.1.length + 1)))
theorem vL_new {vs : List Int} {K : sK} (h : nK vs K) (v : Int) : (vs ++ [v])[K.1.length]? = some v := by rw [h.len]; exact vL_last vs v
theorem k_ld_ok {vs : List Int} {K : sK} {w : mWd} {sp : zSp} {v : Value} (h : nK vs K) (hv : okV w sp v) : ∃ vs', vL vs vs' ∧ nK vs' (k_ld K sp).1 ∧ dn vs' w (k_ld K sp).2 v := by
  obtain ⟨t, a, c⟩ := sp
  unfold okV at hv
  match t, hv with
  | 0, ⟨i, h1, h2, h3⟩ =>
    obtain ⟨vs', e1, e2, e3, e4⟩ := k_mk_ok (.inl rfl) h h2 h3
    subst h1
    exact ⟨vs', e1, e2, dn_of_int e4 e3⟩
  | 1, ⟨i, h1⟩ =>
    obtain ⟨vs', e1, e2, e3, e4⟩ := k_all_ok (.inr rfl) h (i64_rg i)
    subst h1
    exact ⟨vs', e1, e2, dn_of_lng e4 e3⟩
  | 2, h1 => exact ⟨vs, vL_refl vs, h, h1⟩
  | 3, h1 =>
    rcases h1 with h1 | ⟨i, h1, h2⟩
    · exact ⟨vs ++ [-1], vL_app _ _, nK_new h (by decide) (by decide), -1, vL_new h _, .inl ⟨rfl, h1⟩⟩
    · exact ⟨vs ++ [0], vL_app _ _, nK_new h (by decide) (by decide), 0, vL_new h _, .inr ⟨rfl, i, h1, h2⟩⟩
  | 4, h1 =>
    rcases h1 with h1 | ⟨i, n, h1, h2⟩
    · have n1 := nK_new (lo := -1) (hi := 0) (v := -1) h (by decide) (by decide)
      exact ⟨vs ++ [-1] ++ [0], vL_trans (vL_app vs [-1]) (vL_app _ _), nK_new n1 (by decide) (by decide), -1, vL_app _ _ _ _ (vL_new h _), .inl ⟨rfl, h1⟩⟩
    · have n1 := nK_new (lo := -1) (hi := 0) (v := 0) h (by decide) (by decide)
      have hn : n ≤ 161 := h2.2.1
      refine ⟨vs ++ [0] ++ [(n : Int)], vL_trans (vL_app vs [0]) (vL_app _ _), nK_new n1 (by omega) (by omega), 0, vL_app _ _ _ _ (vL_new h _), .inr ⟨rfl, i, n, h1, h2, ?_⟩⟩
      show (vs ++ [0] ++ [(n : Int)])[K.1.length + 1]? = some (n : Int)
      have := vL_new n1 (n : Int)
      rw [show (k_new K (-1) 0).1.length = K.1.length + 1 by simp [k_new]] at this
      exact this
  | n + 5, h1 => exact h1.elim
/-- does a value keep a spec -/
def k_fit (K : sK) (sp : zSp) (s : sV) : Bool := match sp.1 with
  | 0 => k_tg 0 s && (z_le sp.2.1 (k_iv K s).1 && z_le (k_iv K s).2 sp.2.2)
  | 1 => k_tg 1 s
  | 3 => Nat.beq s.1 8 || Nat.beq s.1 3
  | 4 => Nat.beq s.1 8 || Nat.beq s.1 4
  | _ => false
theorem k_fit_ok {vs : List Int} {K : sK} {w : mWd} {sp : zSp} {s : sV} {v : Value} (h : nK vs K) (hv : dn vs w s v) (hf : k_fit K sp s = true) : okV w sp v := by
  obtain ⟨t, a, c⟩ := sp
  unfold k_fit at hf
  match t, hf with
  | 0, hf =>
    simp only [Bool.and_eq_true, z_le_iff] at hf
    obtain ⟨i, e1, e2⟩ := dn_int hv hf.1
    have := k_iv_ok h e2
    exact ⟨i, e1, by simp only at hf ⊢; omega, by simp only at hf ⊢; omega⟩
  | 1, hf =>
    obtain ⟨i, e1, e2⟩ := dn_lng hv hf
    exact ⟨i, e1⟩
  | 2, hf => cases hf
  | 3, hf =>
    obtain ⟨t', a', c'⟩ := s
    simp only [Bool.or_eq_true] at hf
    rcases hf with hf | hf
    · have := Nat.eq_of_beq_eq_true hf; subst this; exact .inl hv
    · have := Nat.eq_of_beq_eq_true hf; subst this
      obtain ⟨u, h1, h2⟩ := hv
      rcases h2 with ⟨-, h2⟩ | ⟨h2, i, h3, h4⟩
      · exact .inl h2
      · exact .inr ⟨i, h3, h4⟩
  | 4, hf =>
    obtain ⟨t', a', c'⟩ := s
    simp only [Bool.or_eq_true] at hf
    rcases hf with hf | hf
    · have := Nat.eq_of_beq_eq_true hf; subst this; exact .inl hv
    · have := Nat.eq_of_beq_eq_true hf; subst this
      obtain ⟨u, h1, h2⟩ := hv
      rcases h2 with ⟨-, h2⟩ | ⟨h2, i, n, h3, h4, h5⟩
      · exact .inl h2
      · exact .inr ⟨i, n, h3, h4⟩
  | n + 5, hf => cases hf
abbrev zCt : Type := (Nat → Int32) ⊕ (Nat → Int64) ⊕ (Nat → UInt32) ⊕ (Nat → UInt64) ⊕ (Nat → Option Nat)
def m_el (c : zCt) (j : Nat) : Value := match c with
  | .inl f => .int (f j)
  | .inr (.inl f) => .long (f j)
  | .inr (.inr (.inr (.inr f))) => m_opt f j
  | _ => .null
abbrev zS1 : Type := Nat × Nat × Nat × List zSp
/-- an element's spec: kind 7 is the list of seven that the data give -/
def z_es (W : List (Int × Int)) (e : zSp) (j : Nat) : zSp := bif Nat.beq e.1 7 then (0, W.getD (j % 7) (0, 0)) else e
def z_kd (t : Nat) : Nat := match t with
  | 0 => 0
  | 1 => 0
  | 2 => 1
  | _ => 4
def w_okC (W : List (Int × Int)) (w : mWd) (s : zS1) (c : mE) : Prop := match s.1 with
  | 0 => ∃ fs, c = .inr (s.2.1, fs) ∧ fs.length = s.2.2.1 ∧ ∀ (k : Nat) (sp : zSp) (v : Value), s.2.2.2[k]? = some sp → fs[k]? = some v → okV w sp v
  | _ => shp c = (z_kd s.2.1, s.2.1, s.2.2.1) ∧ ∃ a, c = .inl (s.2.1, s.2.2.1, a) ∧ ∀ (e : zSp) (j : Nat), s.2.2.2.head? = some e → j < s.2.2.1 → okV w (z_es W e j) (m_el a j)
theorem w_okC_up {W : List (Int × Int)} {w w' : mWd} (hw : w_le w w') {s : zS1} {c : mE} (h : w_okC W w s c) : w_okC W w' s c := by
  unfold w_okC at h ⊢
  split at h
  · obtain ⟨fs, h1, h2, h3⟩ := h
    exact ⟨fs, h1, h2, fun k sp v a b => okV_up hw (h3 k sp v a b)⟩
  · obtain ⟨h1, a, h2, h3⟩ := h
    exact ⟨h1, a, h2, fun e j x y => okV_up hw (h3 e j x y)⟩
def w_okD (G : List zSp) (w : mWd) (c : mE) : Prop := (∃ fs, c = .inr (2, fs) ∧ fs.length = 13 ∧ ∀ (k : Nat) (sp : zSp) (v : Value), G[k]? = some sp → fs[k]? = some v → okV w sp v) ∨ (∃ n f, c = .inl (0, n, .inl f) ∧ n ≤ 161)
theorem w_okD_up {G : List zSp} {w w' : mWd} (hw : w_le w w') {c : mE} (h : w_okD G w c) : w_okD G w' c := by
  rcases h with ⟨fs, h1, h2, h3⟩ | h
  · exact .inl ⟨fs, h1, h2, fun k sp v a b => okV_up hw (h3 k sp v a b)⟩
  · exact .inr h
/-- the data: the cells made at the start, a cost's fields, the seven -/
abbrev zDt : Type := List zS1 × List zSp × List (Int × Int)
def WI (Z : zDt) (w : mWd) : Prop := Z.1.length = 129 ∧ (∀ (i : Nat) (s : zS1), Z.1[i]? = some s → ∃ c, w[i]? = some c ∧ w_okC Z.2.2 w s c) ∧ (∀ (i : Nat) (c : mE), 129 ≤ i → w[i]? = some c → w_okD Z.2.1 w c)
section WIN
variable {Z : zDt} {w : mWd}
theorem WI.len (h : WI Z w) : 129 ≤ w.length := by
  have hl : 128 < Z.1.length := by rw [h.1]; decide
  obtain ⟨c, h1, -⟩ := h.2.1 128 _ (List.getElem?_eq_getElem hl)
  have := (List.getElem?_eq_some_iff.mp h1).1
  omega
theorem WI_set (h : WI Z w) {i : Nat} {c c' : mE} (hi : w[i]? = some c) (e : shp c' = shp c) (h1 : ∀ s, Z.1[i]? = some s → w_okC Z.2.2 w s c') (h2 : 129 ≤ i → w_okD Z.2.1 w c') : WI Z (w.set i c') := by
  have hw := w_le_set hi e
  refine ⟨h.1, ?_, ?_⟩
  · intro j s hs
    rw [getE_set hi]
    by_cases ej : j = i
    · rw [if_pos ej]
      subst ej
      exact ⟨c', rfl, w_okC_up hw (h1 s hs)⟩
    · rw [if_neg ej]
      obtain ⟨d, d1, d2⟩ := h.2.1 j s hs
      exact ⟨d, d1, w_okC_up hw d2⟩
  · intro j d hj hd
    rw [getE_set hi] at hd
    by_cases ej : j = i
    · rw [if_pos ej] at hd
      cases hd
      exact w_okD_up hw (h2 (by omega))
    · rw [if_neg ej] at hd
      exact w_okD_up hw (h.2.2 j d hj hd)
theorem WI_app (h : WI Z w) {c : mE} (h2 : w_okD Z.2.1 w c) : WI Z (w ++ [c]) := by
  have hw := w_le_app w c
  have hl := h.len
  refine ⟨h.1, ?_, ?_⟩
  · intro j s hs
    obtain ⟨d, d1, d2⟩ := h.2.1 j s hs
    refine ⟨d, ?_, w_okC_up hw d2⟩
    rw [List.getElem?_append_left (List.getElem?_eq_some_iff.mp d1).1]
    exact d1
  · intro j d hj hd
    by_cases ej : j < w.length
    · rw [List.getElem?_append_left ej] at hd
      exact w_okD_up hw (h.2.2 j d hj hd)
    · rw [List.getElem?_append_right (by omega)] at hd
      have : j - w.length = 0 := by
        have := (List.getElem?_eq_some_iff.mp hd).1
        simp only [List.length_singleton] at this
        omega
      rw [this] at hd
      cases hd
      exact w_okD_up hw h2
/-- an object made at the start -/
theorem WI_obj (h : WI Z w) {i ci n : Nat} {sps : List zSp} (hs : Z.1[i]? = some (0, ci, n, sps)) : ∃ fs, w[i]? = some (.inr (ci, fs)) ∧ fs.length = n ∧ ∀ (k : Nat) (sp : zSp) (v : Value), sps[k]? = some sp → fs[k]? = some v → okV w sp v := by
  obtain ⟨c, h1, fs, h2, h3, h4⟩ := h.2.1 i _ hs
  exact ⟨fs, by rw [h1, h2], h3, h4⟩
theorem WI_arr (h : WI Z w) {i t n : Nat} {e : zSp} (hs : Z.1[i]? = some (1, t, n, [e])) : ∃ a, w[i]? = some (.inl (t, n, a)) ∧ shp (.inl (t, n, a)) = (z_kd t, t, n) ∧ ∀ j, j < n → okV w (z_es Z.2.2 e j) (m_el a j) := by
  obtain ⟨c, h1, h2, a, h3, h4⟩ := h.2.1 i _ hs
  subst h3
  exact ⟨a, h1, h2, fun j hj => h4 e j rfl hj⟩
theorem WI_cost (h : WI Z w) {i : Nat} (hc : wC w i) : ∃ fs, w[i]? = some (.inr (2, fs)) ∧ fs.length = 13 ∧ ∀ (k : Nat) (sp : zSp) (v : Value), Z.2.1[k]? = some sp → fs[k]? = some v → okV w sp v := by
  obtain ⟨h1, c, h2, h3⟩ := hc
  obtain ⟨fs, e1, e2⟩ := shp_obj h3
  subst e1
  rcases h.2.2 i _ h1 h2 with ⟨fs', a1, a2, a3⟩ | ⟨n, f, a1, -⟩
  · cases a1; exact ⟨fs, h2, a2, a3⟩
  · cases a1
theorem WI_txt {i n : Nat} (hc : wT w i n) : ∃ f, w[i]? = some (.inl (0, n, .inl f)) := by
  obtain ⟨h1, h0, c, h2, h3⟩ := hc
  obtain ⟨f, e⟩ := shp_int h3
  subst e
  exact ⟨f, h2⟩
theorem WI_setf (h : WI Z w) {i ci n k : Nat} {sps : List zSp} {fs : List Value} {v : Value} (hs : Z.1[i]? = some (0, ci, n, sps)) (hi : w[i]? = some (.inr (ci, fs))) (hv : ∀ sp, sps[k]? = some sp → okV w sp v) : WI Z (w.set i (.inr (ci, fs.set k v))) := by
  obtain ⟨fs', a1, a2, a3⟩ := WI_obj h hs
  rw [hi] at a1
  cases a1
  refine WI_set h hi (by simp [shp]) ?_ ?_
  · intro s hs'
    rw [hs] at hs'
    cases hs'
    refine ⟨fs.set k v, rfl, by simpa using a2, ?_⟩
    intro k' sp v' hsp hv'
    rw [List.getElem?_set] at hv'
    by_cases e : k = k'
    · subst e
      rw [if_pos rfl] at hv'
      by_cases hl : k < fs.length
      · rw [if_pos hl] at hv'
        cases hv'
        exact hv sp hsp
      · rw [if_neg hl] at hv'; cases hv'
    · rw [if_neg e] at hv'
      exact a3 k' sp v' hsp hv'
  · intro hge
    have := (List.getElem?_eq_some_iff.mp hs).1
    rw [h.1] at this
    omega
theorem WI_setg (h : WI Z w) {i k : Nat} {fs : List Value} {v : Value} (hc : wC w i) (hi : w[i]? = some (.inr (2, fs))) (hv : ∀ sp, Z.2.1[k]? = some sp → okV w sp v) : WI Z (w.set i (.inr (2, fs.set k v))) := by
  obtain ⟨fs', a1, a2, a3⟩ := WI_cost h hc
  rw [hi] at a1
  cases a1
  refine WI_set h hi (by simp [shp]) ?_ ?_
  · intro s hs'
    have := (List.getElem?_eq_some_iff.mp hs').1
    rw [h.1] at this
    have := hc.1
    omega
  · intro _
    refine .inl ⟨fs.set k v, rfl, by simpa using a2, ?_⟩
    intro k' sp v' hsp hv'
    rw [List.getElem?_set] at hv'
    by_cases e : k = k'
    · subst e
      rw [if_pos rfl] at hv'
      by_cases hl : k < fs.length
      · rw [if_pos hl] at hv'
        cases hv'
        exact hv sp hsp
      · rw [if_neg hl] at hv'; cases hv'
    · rw [if_neg e] at hv'
      exact a3 k' sp v' hsp hv'
theorem WI_seta (h : WI Z w) {i t n : Nat} {e : zSp} {a b : zCt} (hs : Z.1[i]? = some (1, t, n, [e])) (hi : w[i]? = some (.inl (t, n, a))) (hsh : shp (.inl (t, n, b)) = shp (.inl (t, n, a))) (hb : ∀ j, j < n → okV w (z_es Z.2.2 e j) (m_el b j)) : WI Z (w.set i (.inl (t, n, b))) := by
  obtain ⟨a', a1, a2, a3⟩ := WI_arr h hs
  rw [hi] at a1
  cases a1
  refine WI_set h hi hsh ?_ ?_
  · intro s hs'
    rw [hs] at hs'
    cases hs'
    refine ⟨hsh.trans a2, b, rfl, ?_⟩
    intro e' j he hj
    cases he
    exact hb j hj
  · intro hge
    have := (List.getElem?_eq_some_iff.mp hs).1
    rw [h.1] at this
    omega
end WIN
end
section
/-! KNOWN FIELDS AND ELEMENTS, what a method may write, the rule of kinds -/
abbrev cK : Type := Nat × Nat × sV
abbrev sC : Type := List (cK × sV)
abbrev zWr : Type := List (Nat × Nat)
def z_wr (wr : zWr) (ci k : Nat) : Bool := match wr with
  | [] => false
  | q :: r => (Nat.beq q.1 ci && Nat.beq q.2 k) || z_wr r ci k
def z_sub : zWr → zWr → Bool
  | [], _ => true
  | q :: r, wr => z_wr wr q.1 q.2 && z_sub r wr
theorem z_sub_ok : ∀ {a b : zWr}, z_sub a b = true → ∀ {ci k : Nat}, z_wr b ci k = false → z_wr a ci k = false
  | [], _, _, _, _, _ => rfl
  | q :: r, b, h, ci, k, hb => by
    unfold z_sub at h
    rw [Bool.and_eq_true] at h
    unfold z_wr
    rw [z_sub_ok h.2 hb, Bool.or_false]
    cases e : (Nat.beq q.1 ci && Nat.beq q.2 k) with
    | false => rfl
    | true =>
      rw [Bool.and_eq_true] at e
      have h1 := h.1
      rw [Nat.eq_of_beq_eq_true e.1, Nat.eq_of_beq_eq_true e.2, hb] at h1
      cases h1
def f_eq (wr : zWr) (c c' : mE) : Prop := shp c' = shp c ∧ (∀ ci fs, c = .inr (ci, fs) → ∃ fs', c' = .inr (ci, fs') ∧ ∀ k, z_wr wr ci k = false → fs'[k]? = fs[k]?) ∧ (∀ q, c = .inl q → z_wr wr 99 0 = false → c' = c)
def fR (wr : zWr) (w w' : mWd) : Prop := ∀ (i : Nat) (c : mE), w[i]? = some c → ∃ c', w'[i]? = some c' ∧ f_eq wr c c'
theorem f_eq_refl (wr : zWr) (c : mE) : f_eq wr c c := ⟨rfl, fun ci fs h => ⟨fs, h, fun _ _ => rfl⟩, fun _ _ _ => rfl⟩
theorem fR_refl (wr : zWr) (w : mWd) : fR wr w w := fun _ c h => ⟨c, h, f_eq_refl wr c⟩
theorem fR_le {wr : zWr} {w w' : mWd} (h : fR wr w w') : w_le w w' := fun i c hc => by
  obtain ⟨c', h1, h2⟩ := h i c hc
  exact ⟨c', h1, h2.1⟩
theorem fR_trans {wr : zWr} {a b c : mWd} (h1 : fR wr a b) (h2 : fR wr b c) : fR wr a c := fun i x hx => by
  obtain ⟨y, y1, y2, y3, y4⟩ := h1 i x hx
  obtain ⟨z, z1, z2, z3, z4⟩ := h2 i y y1
  refine ⟨z, z1, z2.trans y2, ?_, ?_⟩
  · intro ci fs e
    obtain ⟨fs', e1, e2⟩ := y3 ci fs e
    obtain ⟨fs'', e3, e4⟩ := z3 ci fs' e1
    exact ⟨fs'', e3, fun k hk => (e4 k hk).trans (e2 k hk)⟩
  · intro q e hk
    have e1 := y4 q e hk
    have e2 := z4 q (e1.trans e) hk
    exact e2.trans e1
theorem fR_sub {a b : zWr} (hs : z_sub a b = true) {w w' : mWd} (h : fR a w w') : fR b w w' := fun i c hc => by
  obtain ⟨c', h1, h2, h3, h4⟩ := h i c hc
  refine ⟨c', h1, h2, ?_, ?_⟩
  · intro ci fs e
    obtain ⟨fs', e1, e2⟩ := h3 ci fs e
    exact ⟨fs', e1, fun k hk => e2 k (z_sub_ok hs hk)⟩
  · intro q e hk
    exact h4 q e (z_sub_ok hs hk)
theorem fR_setf {wr : zWr} {w : mWd} {i ci k : Nat} {fs : List Value} {v : Value} (hi : w[i]? = some (.inr (ci, fs))) (hk : z_wr wr ci k = true) : fR wr w (w.set i (.inr (ci, fs.set k v))) := fun j c hc => by
  rw [getE_set hi]
  by_cases e : j = i
  · subst e
    rw [hi] at hc
    cases hc
    refine ⟨_, by rw [if_pos rfl], by simp [shp], ?_, fun q hq => by cases hq⟩
    intro ci' fs' he
    cases he
    refine ⟨_, rfl, ?_⟩
    intro k' hk'
    rw [List.getElem?_set]
    by_cases e : k = k'
    · subst e; rw [hk] at hk'; cases hk'
    · rw [if_neg e]
  · exact ⟨c, by rw [if_neg e]; exact hc, f_eq_refl wr c⟩
theorem fR_seta {wr : zWr} {w : mWd} {i : Nat} {q q' : Nat × vp_A} (hi : w[i]? = some (.inl q)) (hs : shp (.inl q') = shp (.inl q)) (hk : z_wr wr 99 0 = true) : fR wr w (w.set i (.inl q')) := fun j c hc => by
  rw [getE_set hi]
  by_cases e : j = i
  · subst e
    rw [hi] at hc
    cases hc
    exact ⟨_, by rw [if_pos rfl], hs, fun ci fs he => by (cases he), fun q hq h0 => by rw [hk] at h0; cases h0⟩
  · exact ⟨c, by rw [if_neg e]; exact hc, f_eq_refl wr c⟩
theorem fR_app (wr : zWr) (w : mWd) (c : mE) : fR wr w (w ++ [c]) := fun j x hj => ⟨x, by rw [List.getElem?_append_left (List.getElem?_eq_some_iff.mp hj).1]; exact hj, f_eq_refl wr x⟩
/-- what a known field (0) or element (2) says -/
def cR (vs : List Int) (w : mWd) (e : cK × sV) : Prop := match e.1.1 with
  | 0 => e.1.2.1 < 129 ∧ ∃ ci fs v, w[e.1.2.1]? = some (.inr (ci, fs)) ∧ fs[e.1.2.2.2.1]? = some v ∧ dn vs w e.2 v
  | 2 => ∃ t n a J, w[e.1.2.1]? = some (.inl (t, n, a)) ∧ vN vs e.1.2.2 J ∧ 0 ≤ J ∧ dn vs w e.2 (m_el a J.toNat)
  | _ => False
def cRL (vs : List Int) (w : mWd) (C : sC) : Prop := ∀ e ∈ C, cR vs w e
theorem cR_up {vs vs' : List Int} {w : mWd} (hv : vL vs vs') {e : cK × sV} (h : cR vs w e) : cR vs' w e := by
  obtain ⟨⟨kd, a, j⟩, s⟩ := e
  unfold cR at h ⊢
  match kd, h with
  | 0, ⟨hl, ci, fs, v, h1, h2, h3⟩ => exact ⟨hl, ci, fs, v, h1, h2, dn_up hv (w_le_refl w) h3⟩
  | 1, h => exact h.elim
  | 2, ⟨t, n, b, J, h1, h2, h3, h4⟩ => exact ⟨t, n, b, J, h1, vN_up hv h2, h3, dn_up hv (w_le_refl w) h4⟩
  | n + 3, h => exact h.elim
theorem cRL_up {vs vs' : List Int} {w : mWd} (hv : vL vs vs') {C : sC} (h : cRL vs w C) : cRL vs' w C := fun e he => cR_up hv (h e he)
def ck_eq (a b : cK) : Bool := Nat.beq a.1 b.1 && (Nat.beq a.2.1 b.2.1 && s_eq a.2.2 b.2.2)
theorem ck_eq_ok {a b : cK} (h : ck_eq a b = true) : a = b := by
  obtain ⟨x, y, z⟩ := a
  obtain ⟨x', y', z'⟩ := b
  unfold ck_eq at h
  rw [Bool.and_eq_true, Bool.and_eq_true] at h
  have e1 : x = x' := Nat.eq_of_beq_eq_true h.1
  have e2 : y = y' := Nat.eq_of_beq_eq_true h.2.1
  have e3 : z = z' := s_eq_ok h.2.2
  rw [e1, e2, e3]
def c_get (C : sC) (key : cK) : Option sV := match C with
  | [] => none
  | e :: C => bif ck_eq e.1 key then some e.2 else c_get C key
theorem c_get_ok {vs : List Int} {w : mWd} {key : cK} {s : sV} : ∀ {C : sC}, cRL vs w C → c_get C key = some s → cR vs w (key, s)
  | [], _, h => by cases h
  | e :: C, hC, h => by
    unfold c_get at h
    cases eq : ck_eq e.1 key with
    | true =>
      rw [eq] at h
      cases h
      have := hC e List.mem_cons_self
      rw [← ck_eq_ok eq]
      exact this
    | false =>
      rw [eq] at h
      exact c_get_ok (fun x hx => hC x (List.mem_cons_of_mem _ hx)) h
/-- without the field k of the cell i -/
def c_kf (i k : Nat) (C : sC) : sC := match C with
  | [] => []
  | e :: C => bif (Nat.beq e.1.1 0 && (Nat.beq e.1.2.1 i && Nat.beq e.1.2.2.2.1 k)) then c_kf i k C else e :: c_kf i k C
/-- without the elements of the cell i that may be the j-th -/
def c_ka (i : Nat) (j : sV) (C : sC) : sC := match C with
  | [] => []
  | e :: C => bif (Nat.beq e.1.1 2 && (Nat.beq e.1.2.1 i && !(Nat.beq e.1.2.2.1 j.1 && (Nat.beq e.1.2.2.2.1 j.2.1 && !(z_eq e.1.2.2.2.2 j.2.2))))) then c_ka i j C else e :: c_ka i j C
def c_kl (i : Nat) (C : sC) : sC := match C with
  | [] => []
  | e :: C => bif (Nat.beq e.1.1 2 && Nat.beq e.1.2.1 i) then c_kl i C else e :: c_kl i C
def z_cls (S : List zS1) (i : Nat) : Nat := match S[i]? with
  | some s => s.2.1
  | none => 0
/-- without what a method may write -/
def c_kw (S : List zS1) (wr : zWr) (C : sC) : sC := match C with
  | [] => []
  | e :: C => bif (bif Nat.beq e.1.1 0 then z_wr wr (z_cls S e.1.2.1) e.1.2.2.2.1 else z_wr wr 99 0) then c_kw S wr C else e :: c_kw S wr C
section CACHE
variable {vs : List Int} {w : mWd} {Z : zDt}
theorem cR_setf {i ci k : Nat} {fs : List Value} {v : Value} (hi : w[i]? = some (.inr (ci, fs))) {e : cK × sV} (h : cR vs w e) (hne : (Nat.beq e.1.1 0 && (Nat.beq e.1.2.1 i && Nat.beq e.1.2.2.2.1 k)) = false) : cR vs (w.set i (.inr (ci, fs.set k v))) e := by
  have hw := w_le_set (c' := .inr (ci, fs.set k v)) hi (by simp [shp])
  obtain ⟨⟨kd, a, j⟩, s⟩ := e
  unfold cR at h ⊢
  match kd, h with
  | 0, ⟨hl, ci', fs', v', h1, h2, h3⟩ =>
    simp only at h1 h2 hne ⊢
    by_cases ea : a = i
    · subst ea
      rw [hi] at h1
      cases h1
      refine ⟨hl, ci, fs.set k v, v', by rw [getE_set hi, if_pos rfl], ?_, dn_up (vL_refl vs) hw h3⟩
      rw [List.getElem?_set]
      by_cases ek : k = j.2.1
      · subst ek
        simp at hne
      · rw [if_neg ek]; exact h2
    · exact ⟨hl, ci', fs', v', by rw [getE_set hi, if_neg ea]; exact h1, h2, dn_up (vL_refl vs) hw h3⟩
  | 1, h => exact h.elim
  | 2, ⟨t, n, b, J, h1, h2, h3, h4⟩ =>
    have ea : a ≠ i := by
      intro ea
      simp only at h1
      rw [ea, hi] at h1
      cases h1
    exact ⟨t, n, b, J, by rw [getE_set hi, if_neg ea]; exact h1, h2, h3, dn_up (vL_refl vs) hw h4⟩
  | n + 3, h => exact h.elim
theorem cRL_setf {i ci k : Nat} {fs : List Value} {v : Value} (hi : w[i]? = some (.inr (ci, fs))) : ∀ {C : sC}, cRL vs w C → cRL vs (w.set i (.inr (ci, fs.set k v))) (c_kf i k C)
  | [], _ => fun e he => by cases he
  | e :: C, h => by
    have ih := cRL_setf (k := k) (v := v) hi (fun x hx => h x (List.mem_cons_of_mem _ hx))
    unfold c_kf
    cases eq : (Nat.beq e.1.1 0 && (Nat.beq e.1.2.1 i && Nat.beq e.1.2.2.2.1 k)) with
    | true => exact ih
    | false =>
      intro x hx
      rcases List.mem_cons.mp hx with rfl | hx
      · exact cR_setf hi (h _ List.mem_cons_self) eq
      · exact ih x hx
theorem cRL_setg {i ci k : Nat} {fs : List Value} {v : Value} (hi : w[i]? = some (.inr (ci, fs))) (hge : 129 ≤ i) {C : sC} (h : cRL vs w C) : cRL vs (w.set i (.inr (ci, fs.set k v))) C := by
  intro e he
  refine cR_setf hi (h e he) ?_
  cases e0 : Nat.beq e.1.1 0 with
  | false => rfl
  | true =>
    have h1 := h e he
    unfold cR at h1
    rw [Nat.eq_of_beq_eq_true e0] at h1
    cases e1 : Nat.beq e.1.2.1 i with
    | false => rfl
    | true =>
      have := Nat.eq_of_beq_eq_true e1
      have := h1.1
      omega
/-- an array's cell written so that the element of every entry kept is the same -/
theorem cR_seta {i t n : Nat} {a b : zCt} (hi : w[i]? = some (.inl (t, n, a))) (hsh : shp (.inl (t, n, b)) = shp (.inl (t, n, a))) {e : cK × sV} (h : cR vs w e) (hne : e.1.1 = 2 → e.1.2.1 = i → ∀ J, vN vs e.1.2.2 J → 0 ≤ J → m_el b J.toNat = m_el a J.toNat) : cR vs (w.set i (.inl (t, n, b))) e := by
  have hw := w_le_set (c' := .inl (t, n, b)) hi hsh
  obtain ⟨⟨kd, c, j⟩, s⟩ := e
  unfold cR at h ⊢
  match kd, h with
  | 0, ⟨hl, ci', fs', v', h1, h2, h3⟩ =>
    have ea : c ≠ i := by
      intro ea
      simp only at h1
      rw [ea, hi] at h1
      cases h1
    exact ⟨hl, ci', fs', v', by rw [getE_set hi, if_neg ea]; exact h1, h2, dn_up (vL_refl vs) hw h3⟩
  | 1, h => exact h.elim
  | 2, ⟨t', n', b', J, h1, h2, h3, h4⟩ =>
    simp only at h1 h2 h4 ⊢
    by_cases ea : c = i
    · subst ea
      rw [hi] at h1
      cases h1
      refine ⟨t, n, b, J, by rw [getE_set hi, if_pos rfl], h2, h3, ?_⟩
      rw [hne rfl rfl J h2 h3]
      exact dn_up (vL_refl vs) hw h4
    · exact ⟨t', n', b', J, by rw [getE_set hi, if_neg ea]; exact h1, h2, h3, dn_up (vL_refl vs) hw h4⟩
  | n + 3, h => exact h.elim
theorem cRL_seta {i t n : Nat} {j : sV} {J : Int} {a b : zCt} (hi : w[i]? = some (.inl (t, n, a))) (hsh : shp (.inl (t, n, b)) = shp (.inl (t, n, a))) (hj : vN vs j J) (hJ : 0 ≤ J) (hb : ∀ k, k ≠ J.toNat → m_el b k = m_el a k) : ∀ {C : sC}, cRL vs w C → cRL vs (w.set i (.inl (t, n, b))) (c_ka i j C)
  | [], _ => fun e he => by cases he
  | e :: C, h => by
    have ih := cRL_seta hi hsh hj hJ hb (fun x hx => h x (List.mem_cons_of_mem _ hx))
    unfold c_ka
    cases eq : (Nat.beq e.1.1 2 && (Nat.beq e.1.2.1 i && !(Nat.beq e.1.2.2.1 j.1 && (Nat.beq e.1.2.2.2.1 j.2.1 && !(z_eq e.1.2.2.2.2 j.2.2))))) with
    | true => exact ih
    | false =>
      intro x hx
      rcases List.mem_cons.mp hx with rfl | hx
      · refine cR_seta hi hsh (h _ List.mem_cons_self) ?_
        intro e2 ei J' hJ' hJ0
        rw [e2, ei] at eq
        simp only [show Nat.beq 2 2 = true from rfl, Nat.beq_refl, Bool.true_and, Bool.not_eq_false', Bool.and_eq_true, Bool.not_eq_true'] at eq
        obtain ⟨q1, q2, q3⟩ := eq
        obtain ⟨u, hu, hX⟩ := hj
        obtain ⟨u', hu', hX'⟩ := hJ'
        rw [Nat.eq_of_beq_eq_true q2, hu] at hu'
        cases hu'
        rw [Nat.eq_of_beq_eq_true q1] at hX'
        have hne : x.1.2.2.2.2 ≠ j.2.2 := fun h' => by rw [z_eq_iff.mpr h'] at q3; cases q3
        refine hb _ ?_
        intro hh
        have : J' = J := by omega
        omega
      · exact ih x hx
theorem cRL_fill {i t n : Nat} {a b : zCt} (hi : w[i]? = some (.inl (t, n, a))) (hsh : shp (.inl (t, n, b)) = shp (.inl (t, n, a))) : ∀ {C : sC}, cRL vs w C → cRL vs (w.set i (.inl (t, n, b))) (c_kl i C)
  | [], _ => fun e he => by cases he
  | e :: C, h => by
    have ih := cRL_fill hi hsh (fun x hx => h x (List.mem_cons_of_mem _ hx))
    unfold c_kl
    cases eq : (Nat.beq e.1.1 2 && Nat.beq e.1.2.1 i) with
    | true => exact ih
    | false =>
      intro x hx
      rcases List.mem_cons.mp hx with rfl | hx
      · refine cR_seta hi hsh (h _ List.mem_cons_self) ?_
        intro e2 ei J' hJ' hJ0
        rw [e2, ei] at eq
        simp at eq
      · exact ih x hx
theorem cRL_app {c : mE} {C : sC} (h : cRL vs w C) : cRL vs (w ++ [c]) C := fun e he => by
  have hw := w_le_app w c
  have h := h e he
  obtain ⟨⟨kd, a, j⟩, s⟩ := e
  unfold cR at h ⊢
  match kd, h with
  | 0, ⟨hl, ci', fs', v', h1, h2, h3⟩ => exact ⟨hl, ci', fs', v', by rw [List.getElem?_append_left (List.getElem?_eq_some_iff.mp h1).1]; exact h1, h2, dn_up (vL_refl vs) hw h3⟩
  | 1, h => exact h.elim
  | 2, ⟨t', n', b', J, h1, h2, h3, h4⟩ => exact ⟨t', n', b', J, by rw [List.getElem?_append_left (List.getElem?_eq_some_iff.mp h1).1]; exact h1, h2, h3, dn_up (vL_refl vs) hw h4⟩
  | n + 3, h => exact h.elim
theorem cRL_kw {wr : zWr} {w' : mWd} (hW : WI Z w) (hf : fR wr w w') : ∀ {C : sC}, cRL vs w C → cRL vs w' (c_kw Z.1 wr C)
  | [], _ => fun e he => by cases he
  | e :: C, h => by
    have ih := cRL_kw hW hf (fun x hx => h x (List.mem_cons_of_mem _ hx))
    have hw := fR_le hf
    unfold c_kw
    cases eq : (bif Nat.beq e.1.1 0 then z_wr wr (z_cls Z.1 e.1.2.1) e.1.2.2.2.1 else z_wr wr 99 0) with
    | true => exact ih
    | false =>
      intro x hx
      rcases List.mem_cons.mp hx with rfl | hx
      · have h1 := h _ List.mem_cons_self
        obtain ⟨⟨kd, a, j⟩, s⟩ := x
        unfold cR at h1 ⊢
        match kd, h1, eq with
        | 0, ⟨hl, ci, fs, v, a1, a2, a3⟩, eq =>
          simp only at a1 a2 ⊢
          simp only [show Nat.beq 0 0 = true from rfl, cond_true] at eq
          have hlt : a < Z.1.length := by rw [hW.1]; exact hl
          obtain ⟨c, c1, c2⟩ := hW.2.1 a _ (List.getElem?_eq_getElem hlt)
          rw [a1] at c1
          cases c1
          have hc : z_cls Z.1 a = ci := by
            unfold z_cls
            rw [List.getElem?_eq_getElem hlt]
            unfold w_okC at c2
            split at c2
            · obtain ⟨fs', b1, -⟩ := c2
              cases b1; rfl
            · obtain ⟨-, b, b1, -⟩ := c2
              cases b1
          rw [hc] at eq
          obtain ⟨c', d1, d2, d3, d4⟩ := hf a _ a1
          obtain ⟨fs', e1, e2⟩ := d3 ci fs rfl
          subst e1
          exact ⟨hl, ci, fs', v, d1, by rw [e2 _ eq]; exact a2, dn_up (vL_refl vs) hw a3⟩
        | 1, h1, _ => exact h1.elim
        | 2, ⟨t, n, b, J, a1, a2, a3, a4⟩, eq =>
          simp only at a1 a2 a4 ⊢
          simp only [show Nat.beq 2 0 = false from rfl, cond_false] at eq
          obtain ⟨c', d1, d2, d3, d4⟩ := hf a _ a1
          have := d4 _ rfl eq
          subst this
          exact ⟨t, n, b, J, d1, a2, a3, dn_up (vL_refl vs) hw a4⟩
        | n + 3, h1, _ => exact h1.elim
      · exact ih x hx
end CACHE
end
section
/-! A STEP OF THE CHECKER: locals and stack alone -/
def z_KC : Nat := 89
def z_WC : Nat := 90
abbrev sD : Type := sK × sC × sL × List sV × (Nat × Nat) × Option sV
abbrev sN : Type := Nat × sD
/-- of a cost whose kind goes to a house, who gets it is a house; but of the cost that is being written -/
def wkR (vs : List Int) (wk : Option sV) (w : mWd) : Prop := ∃ K0 : Int, (∀ j, wk = some j → vN vs j K0) ∧ ∀ (f g : Nat → Int32) (n m : Nat), w[z_KC]? = some (.inl (0, n, .inl f)) → w[z_WC]? = some (.inl (0, m, .inl g)) → ∀ c : Nat, (wk = none ∨ (c : Int) ≠ K0) → ((f c).toInt = 2 ∨ (f c).toInt = 3 ∨ (f c).toInt = 5) → (g (7 * c + 4)).toInt ≤ 19
def gW (Z : zDt) (wr : zWr) (w0 : mWd) (vs : List Int) (al : Nat × Nat) (wk : Option sV) (w : mWd) : Prop := WI Z w ∧ fR wr w0 w ∧ w.length ≤ w0.length + al.1 ∧ m_sl w ≤ m_sl w0 + al.2 ∧ wkR vs wk w
def gD (Z : zDt) (wr : zWr) (w0 : mWd) (vs : List Int) (D : sD) (l : mL) (st : List Value) (w : mWd) : Prop := nK vs D.1 ∧ cRL vs w D.2.1 ∧ lvR vs w D.2.2.1 l ∧ dnL vs w D.2.2.2.1 st ∧ gW Z wr w0 vs D.2.2.2.2.1 D.2.2.2.2.2 w
theorem wkR_up {vs vs' : List Int} (hv : vL vs vs') {wk : Option sV} {w : mWd} (h : wkR vs wk w) : wkR vs' wk w := by
  obtain ⟨K0, h1, h2⟩ := h
  exact ⟨K0, fun j hj => vN_up hv (h1 j hj), h2⟩
theorem gW_up {Z : zDt} {wr : zWr} {w0 : mWd} {vs vs' : List Int} (hv : vL vs vs') {al : Nat × Nat} {wk : Option sV} {w : mWd} (h : gW Z wr w0 vs al wk w) : gW Z wr w0 vs' al wk w := ⟨h.1, h.2.1, h.2.2.1, h.2.2.2.1, wkR_up hv h.2.2.2.2⟩
/-- one of the states told is that of the step -/
def sOK (Z : zDt) (wr : zWr) (w0 : mWd) (vs : List Int) (w : mWd) (out : List sN) (r : Option (Nat × mL × List Value)) : Prop := ∃ (x : sN) (vs' : List Int) (l' : mL) (st' : List Value), x ∈ out ∧ r = some (x.1, l', st') ∧ vL vs vs' ∧ gD Z wr w0 vs' x.2 l' st' w
section PURE
variable {Z : zDt} {wr : zWr} {w0 w : mWd} {vs : List Int} {K : sK} {C : sC} {lv : sL} {ss : List sV} {al : Nat × Nat} {wk : Option sV} {l : mL} {st : List Value}
/-- the same world: new numbers, locals, stack -/
theorem gD_new (h : gD Z wr w0 vs (K, C, lv, ss, al, wk) l st w) {vs' : List Int} (hv : vL vs vs') {K' : sK} (hK : nK vs' K') {lv' : sL} {l' : mL} (hl : lvR vs' w lv' l') {ss' : List sV} {st' : List Value} (hs : dnL vs' w ss' st') : gD Z wr w0 vs' (K', C, lv', ss', al, wk) l' st' w :=
  ⟨hK, cRL_up hv h.2.1, hl, hs, gW_up hv h.2.2.2.2⟩
theorem gD_lv (h : gD Z wr w0 vs (K, C, lv, ss, al, wk) l st w) {vs' : List Int} (hv : vL vs vs') : lvR vs' w lv l := lvR_up hv (w_le_refl w) h.2.2.1
theorem sOK_one {pc : Nat} {D' : sD} {vs' : List Int} {l' : mL} {st' : List Value} (hv : vL vs vs') (h : gD Z wr w0 vs' D' l' st' w) : sOK Z wr w0 vs w [(pc, D')] (some (pc, l', st')) := ⟨(pc, D'), vs', l', st', List.mem_singleton.mpr rfl, rfl, hv, h⟩
def h_push (pc : Nat) (s : sV) (D : sD) : Option (List sN) := some [(pc, (D.1, D.2.1, D.2.2.1, s :: D.2.2.2.1, D.2.2.2.2))]
theorem h_push_ok {pc : Nat} {s : sV} {v : Value} {out : List sN} (h : gD Z wr w0 vs (K, C, lv, ss, al, wk) l st w) (hs : dn vs w s v) (ho : h_push pc s (K, C, lv, ss, al, wk) = some out) : sOK Z wr w0 vs w out (some (pc, l, v :: st)) := by
  cases ho
  exact sOK_one (vL_refl vs) (gD_new h (vL_refl vs) h.1 h.2.2.1 ⟨hs, h.2.2.2.1⟩)
theorem vN_cst (h : nK vs K) {t : Nat} (ht : Nat.beq t 7 = false) (c : Int) : vN vs (t, 0, c) c := ⟨0, h.1, by
  show c = (bif Nat.beq t 7 then 7 * 0 else 0) + c
  rw [ht]; simp⟩
def h_cst (pc : Nat) (lo hi n : Int) (D : sD) : Option (List sN) := bif (z_le lo n && z_le n hi) then h_push pc (0, 0, n) D else none
theorem h_cst_ok {pc : Nat} {lo hi n : Int} {i : Int32} {out : List sN} (h : gD Z wr w0 vs (K, C, lv, ss, al, wk) l st w) (hi' : lo ≤ n → n ≤ hi → i.toInt = n) (ho : h_cst pc lo hi n (K, C, lv, ss, al, wk) = some out) : sOK Z wr w0 vs w out (some (pc, l, .int i :: st)) := by
  unfold h_cst at ho
  cases e : (z_le lo n && z_le n hi) with
  | false => rw [e] at ho; cases ho
  | true =>
    rw [e] at ho
    rw [Bool.and_eq_true, z_le_iff, z_le_iff] at e
    have := hi' e.1 e.2
    exact h_push_ok (s := (0, 0, n)) h ⟨i, rfl, by rw [this]; exact vN_cst h.1 rfl n⟩ ho
def h_lcst (pc : Nat) (n : Int) (D : sD) : Option (List sN) := bif z_in 1 n n then h_push pc (1, 0, n) D else none
theorem h_lcst_ok {pc : Nat} {n : Int} {i : Int64} {out : List sN} (h : gD Z wr w0 vs (K, C, lv, ss, al, wk) l st w) (hi' : z_rg 1 n → i.toInt = n) (ho : h_lcst pc n (K, C, lv, ss, al, wk) = some out) : sOK Z wr w0 vs w out (some (pc, l, .long i :: st)) := by
  unfold h_lcst at ho
  cases e : z_in 1 n n with
  | false => rw [e] at ho; cases ho
  | true =>
    rw [e] at ho
    have := hi' (z_in_iff.mp e)
    exact h_push_ok (s := (1, 0, n)) h ⟨i, rfl, by rw [this]; exact vN_cst h.1 rfl n⟩ ho
/-- may the value be loaded or stored as of this type: 0 int, 1 long, 2 reference -/
def h_ty (ty : Nat) (s : sV) : Bool := match ty with
  | 0 => Nat.beq s.1 0
  | 1 => Nat.beq s.1 1
  | _ => Nat.beq s.1 2 || (Nat.beq s.1 3 || (Nat.beq s.1 4 || (Nat.beq s.1 5 || Nat.beq s.1 8)))
theorem h_ty2 {s : sV} {v : Value} {n : Nat} (h : dn vs w s v) (ht : h_ty (n + 2) s = true) : (∃ i, v = .ref i) ∨ (∃ k, v = .retAddr k) ∨ v = .null := by
  obtain ⟨t, a, c⟩ := s
  simp only [h_ty, Bool.or_eq_true] at ht
  rcases ht with ht | ht | ht | ht | ht
  · have := Nat.eq_of_beq_eq_true ht; subst this; exact .inl ⟨_, h⟩
  · have := Nat.eq_of_beq_eq_true ht; subst this
    obtain ⟨u, -, h2⟩ := h
    rcases h2 with ⟨-, h2⟩ | ⟨-, i, h2, -⟩
    · exact .inr (.inr h2)
    · exact .inl ⟨i, h2⟩
  · have := Nat.eq_of_beq_eq_true ht; subst this
    obtain ⟨u, -, h2⟩ := h
    rcases h2 with ⟨-, h2⟩ | ⟨-, i, n, h2, -⟩
    · exact .inr (.inr h2)
    · exact .inl ⟨i, h2⟩
  · have := Nat.eq_of_beq_eq_true ht; subst this; exact .inr (.inl ⟨_, h⟩)
  · have := Nat.eq_of_beq_eq_true ht; subst this; exact .inr (.inr h)
def h_load (ty i pc : Nat) (D : sD) : Option (List sN) := match s_get D.2.2.1 i with
  | some s => bif h_ty ty s then h_push pc s D else none
  | none => none
theorem h_load_ok {ty i pc : Nat} {out : List sN} (hty : ty < 3) (h : gD Z wr w0 vs (K, C, lv, ss, al, wk) l st w) (ho : h_load ty i pc (K, C, lv, ss, al, wk) = some out) : sOK Z wr w0 vs w out (m_ld ty l i pc st) := by
  unfold h_load at ho
  split at ho
  next s hs =>
    obtain ⟨v, hg, hd⟩ := lvR_get h.2.2.1 hs
    cases e : h_ty ty s with
    | false => rw [e] at ho; cases ho
    | true =>
      rw [e] at ho
      have r := h_push_ok h hd ho
      unfold m_ld
      rw [hg]
      match ty, hty, e with
      | 0, _, e =>
        obtain ⟨t, a, c⟩ := s
        have := Nat.eq_of_beq_eq_true (show Nat.beq t 0 = true from e)
        subst this
        obtain ⟨x, hx, -⟩ := hd
        subst hx
        exact r
      | 1, _, e =>
        obtain ⟨t, a, c⟩ := s
        have := Nat.eq_of_beq_eq_true (show Nat.beq t 1 = true from e)
        subst this
        obtain ⟨x, hx, -⟩ := hd
        subst hx
        exact r
      | 2, _, e =>
        rcases h_ty2 (n := 0) hd e with ⟨x, hx⟩ | ⟨x, hx⟩ | hx <;> (subst hx; exact r)
  next => cases ho
def h_store (nL ty i pc : Nat) (D : sD) : Option (List sN) := match D with
  | (K, C, lv, s :: ss, r) => bif (h_ty ty s && (bif Nat.beq ty 1 then Nat.blt (i + 1) nL else Nat.blt i nL)) then some [(pc, (K, C, (i, s) :: (bif Nat.beq ty 1 then s_rm2 i lv else s_rm1 i lv), ss, r))] else none
  | _ => none
theorem h_store_ok {nL ty i pc : Nat} {out : List sN} (hty : ty < 3) (h : gD Z wr w0 vs (K, C, lv, ss, al, wk) l st w) (ho : h_store nL ty i pc (K, C, lv, ss, al, wk) = some out) : sOK Z wr w0 vs w out (m_st nL ty l i pc st) := by
  unfold h_store at ho
  cases ss with
  | nil => cases ho
  | cons s ss =>
    obtain ⟨v, r, hst, hd, hr⟩ := dnL_cons h.2.2.2.1
    subst hst
    simp only at ho
    cases e : (h_ty ty s && (bif Nat.beq ty 1 then Nat.blt (i + 1) nL else Nat.blt i nL)) with
    | false => rw [e] at ho; cases ho
    | true =>
      rw [e] at ho
      cases ho
      rw [Bool.and_eq_true] at e
      obtain ⟨e1, e2⟩ := e
      unfold m_st
      match ty, hty, e1, e2 with
      | 0, _, e1, e2 =>
        obtain ⟨t, a, c⟩ := s
        have := Nat.eq_of_beq_eq_true (show Nat.beq t 0 = true from e1)
        subst this
        obtain ⟨x, hx, hx2⟩ := id hd
        subst hx
        have hlt : i < nL := Nat.le_of_ble_eq_true e2
        simp only [true_and, if_pos hlt]
        exact sOK_one (vL_refl vs) (gD_new h (vL_refl vs) h.1 (lvR_put1 h.2.2.1 hd) hr)
      | 1, _, e1, e2 =>
        obtain ⟨t, a, c⟩ := s
        have := Nat.eq_of_beq_eq_true (show Nat.beq t 1 = true from e1)
        subst this
        obtain ⟨x, hx, hx2⟩ := id hd
        subst hx
        have hlt : i + 1 < nL := Nat.le_of_ble_eq_true e2
        simp only [true_and, if_pos hlt]
        exact sOK_one (vL_refl vs) (gD_new h (vL_refl vs) h.1 (lvR_put2 h.2.2.1 hd) hr)
      | 2, _, e1, e2 =>
        have hlt : i < nL := Nat.le_of_ble_eq_true e2
        rcases h_ty2 (n := 0) hd e1 with ⟨x, hx⟩ | ⟨x, hx⟩ | hx <;>
          (subst hx; simp only [true_and, if_pos hlt]; exact sOK_one (vL_refl vs) (gD_new h (vL_refl vs) h.1 (lvR_put1 h.2.2.1 hd) hr))
def h_iinc (nL i : Nat) (n : Int) (pc : Nat) (D : sD) : Option (List sN) := match s_get D.2.2.1 i with
  | some s => bif (z_in 0 n n && (Nat.beq s.1 0 && Nat.blt i nL)) then (match k_bin 0 0 D.1 s (0, 0, n) with
    | some r => some [(pc + 3, (r.1, D.2.1, (i, r.2) :: s_rm1 i D.2.2.1, D.2.2.2))]
    | none => none) else none
  | none => none
theorem h_iinc_ok {nL i : Nat} {n : Int} {pc : Nat} {out : List sN} (h : gD Z wr w0 vs (K, C, lv, ss, al, wk) l st w) (ho : h_iinc nL i n pc (K, C, lv, ss, al, wk) = some out) : sOK Z wr w0 vs w out (m_pure nL (.iinc i n) pc l st) := by
  unfold h_iinc at ho
  split at ho
  next s hs =>
    obtain ⟨v, hg, hd⟩ := lvR_get h.2.2.1 hs
    cases e : (z_in 0 n n && (Nat.beq s.1 0 && Nat.blt i nL)) with
    | false => rw [e] at ho; cases ho
    | true =>
      rw [e] at ho
      rw [Bool.and_eq_true, Bool.and_eq_true] at e
      obtain ⟨e0, e1, e2⟩ := e
      simp only [cond_true] at ho
      split at ho
      next r hr =>
        cases ho
        have hlt : i < nL := Nat.le_of_ble_eq_true e2
        obtain ⟨t, a, c⟩ := s
        have := Nat.eq_of_beq_eq_true (show Nat.beq t 0 = true from e1)
        subst this
        obtain ⟨x, hx, hx2⟩ := hd
        subst hx
        have hn := z_in_iff.mp e0
        have hy : (Int32.ofInt n).toInt = n := by rw [Int32.toInt_ofInt]; exact z_bm0 hn
        have hyN : vN vs (0, 0, n) (Int32.ofInt n).toInt := by rw [hy]; exact vN_cst h.1 rfl n
        obtain ⟨z, hz1, hz2⟩ := m_i2_op (ins := .iadd) (o := 0) rfl x (Int32.ofInt n) (by simp)
        obtain ⟨vs', v1, v2, v3, v4⟩ := k_bin_ok (.inl rfl) h.1 hx2 hyN hr hz2
        simp only [m_pure, hg, if_pos hlt]
        have : z = x + Int32.ofInt n := by simp only [m_i2, Option.some.injEq] at hz1; exact hz1.symm
        subst this
        exact sOK_one v1 (gD_new h v1 v2 (lvR_put1 (gD_lv h v1) (dn_of_int v4 v3)) (dnL_up v1 (w_le_refl w) h.2.2.2.1))
      next => cases ho
  next => cases ho
def h_bi (ins : Instr) (pc : Nat) (D : sD) : Option (List sN) := match k_oi ins, D with
  | some o, (K, C, lv, y :: x :: ss, r) => (match k_bin o 0 K x y with
    | some q => some [(pc + 1, (q.1, C, lv, q.2 :: ss, r))]
    | none => none)
  | _, _ => none
theorem h_bi_ok {ins : Instr} {pc : Nat} {out : List sN} (h : gD Z wr w0 vs (K, C, lv, ss, al, wk) l st w) (ho : h_bi ins pc (K, C, lv, ss, al, wk) = some out) : sOK Z wr w0 vs w out (m_bi ins pc l st) := by
  unfold h_bi at ho
  split at ho
  next o K' C' lv' y x ss' r hi hD =>
    cases hD
    split at ho
    next q hq =>
      cases ho
      obtain ⟨vy, r1, e1, dy, hr1⟩ := dnL_cons h.2.2.2.1
      obtain ⟨vx, r2, e2, dx, hr2⟩ := dnL_cons hr1
      subst e1 e2
      obtain ⟨gx, gy⟩ := k_bin_tg hq
      obtain ⟨yi, ey, ny⟩ := dn_int dy gy
      obtain ⟨xi, ex, nx⟩ := dn_int dx gx
      subst ey ex
      obtain ⟨z, hz1, hz2⟩ := m_i2_op hi xi yi (k_bin_nz h.1 ny hq)
      obtain ⟨vs', v1, v2, v3, v4⟩ := k_bin_ok (.inl rfl) h.1 nx ny hq hz2
      simp only [m_bi, hz1]
      exact sOK_one v1 (gD_new h v1 v2 (gD_lv h v1) ⟨dn_of_int v4 v3, dnL_up v1 (w_le_refl w) hr2⟩)
    next => cases ho
  next => cases ho
def h_bl (ins : Instr) (pc : Nat) (D : sD) : Option (List sN) := match k_ol ins, D with
  | some o, (K, C, lv, y :: x :: ss, r) => (match k_bin o 1 K x y with
    | some q => some [(pc + 1, (q.1, C, lv, q.2 :: ss, r))]
    | none => none)
  | _, _ => none
theorem h_bl_ok {ins : Instr} {pc : Nat} {out : List sN} (h : gD Z wr w0 vs (K, C, lv, ss, al, wk) l st w) (ho : h_bl ins pc (K, C, lv, ss, al, wk) = some out) : sOK Z wr w0 vs w out (m_bl ins pc l st) := by
  unfold h_bl at ho
  split at ho
  next o K' C' lv' y x ss' r hi hD =>
    cases hD
    split at ho
    next q hq =>
      cases ho
      obtain ⟨vy, r1, e1, dy, hr1⟩ := dnL_cons h.2.2.2.1
      obtain ⟨vx, r2, e2, dx, hr2⟩ := dnL_cons hr1
      subst e1 e2
      obtain ⟨gx, gy⟩ := k_bin_tg hq
      obtain ⟨yi, ey, ny⟩ := dn_lng dy gy
      obtain ⟨xi, ex, nx⟩ := dn_lng dx gx
      subst ey ex
      obtain ⟨z, hz1, hz2⟩ := m_l2_op hi xi yi (k_bin_nz h.1 ny hq)
      obtain ⟨vs', v1, v2, v3, v4⟩ := k_bin_ok (.inr rfl) h.1 nx ny hq hz2
      simp only [m_bl, hz1]
      exact sOK_one v1 (gD_new h v1 v2 (gD_lv h v1) ⟨dn_of_lng v4 v3, dnL_up v1 (w_le_refl w) hr2⟩)
    next => cases ho
  next => cases ho
end PURE
end
section
/-! A STEP OF THE CHECKER: the rest of locals and stack -/
def k_ng (cd : Jvm.ClassFile.Cond) : Jvm.ClassFile.Cond := match cd with
  | .eq => .ne
  | .ne => .eq
  | .lt => .ge
  | .ge => .lt
  | .gt => .le
  | .le => .gt
theorem m_cmp_t {cd : Jvm.ClassFile.Cond} {x y : Int32} (h : m_cmp cd x y = true) : z_hold cd x.toInt y.toInt := by
  cases cd <;> simp only [m_cmp, Bool.not_eq_true', decide_eq_true_eq, decide_eq_false_iff_not, Int32.lt_iff_toInt_lt, Int32.le_iff_toInt_le] at h <;> simp only [z_hold]
  · rw [h]
  · exact fun e => h (Int32.toInt_inj.mp e)
  all_goals exact h
theorem m_cmp_f {cd : Jvm.ClassFile.Cond} {x y : Int32} (h : m_cmp cd x y = false) : z_hold (k_ng cd) x.toInt y.toInt := by
  cases cd <;> simp only [m_cmp, Bool.not_eq_false', decide_eq_true_eq, decide_eq_false_iff_not, Int32.lt_iff_toInt_lt, Int32.le_iff_toInt_le] at h <;> simp only [z_hold, k_ng]
  · exact fun e => h (Int32.toInt_inj.mp e)
  · rw [h]
  all_goals omega
theorem z_sign {cd : Jvm.ClassFile.Cond} {a b : Int} (h1 : a < 0 ↔ b < 0) (h2 : a = 0 ↔ b = 0) (h : z_hold cd a 0) : z_hold cd b 0 := by
  cases cd <;> simp only [z_hold] at h ⊢ <;> omega
def h_two (a b : Option sK) (p q : Nat) (C : sC) (lv : sL) (ss : List sV) (r : (Nat × Nat) × Option sV) : List sN := match a, b with
  | some K1, some K2 => [(p, (K1, C, lv, ss, r)), (q, (K2, C, lv, ss, r))]
  | some K1, none => [(p, (K1, C, lv, ss, r))]
  | none, some K2 => [(q, (K2, C, lv, ss, r))]
  | none, none => []
section PURE2
variable {Z : zDt} {wr : zWr} {w0 w : mWd} {vs : List Int} {K : sK} {C : sC} {lv : sL} {ss : List sV} {al : Nat × Nat} {wk : Option sV} {l : mL} {st : List Value} {out : List sN}
theorem h_two_l {a b : Option sK} {p q : Nat} {K1 : sK} (e : a = some K1) : (p, (K1, C, lv, ss, al, wk)) ∈ h_two a b p q C lv ss (al, wk) := by
  subst e; cases b <;> simp [h_two]
theorem h_two_r {a b : Option sK} {p q : Nat} {K1 : sK} (e : b = some K1) : (q, (K1, C, lv, ss, al, wk)) ∈ h_two a b p q C lv ss (al, wk) := by
  subst e; cases a <;> simp [h_two]
def h_br (cd : Jvm.ClassFile.Cond) (x y : sV) (pc : Nat) (off : Int) (K : sK) (C : sC) (lv : sL) (ss : List sV) (r : (Nat × Nat) × Option sV) : Option (List sN) := match m_tgt pc off with
  | some t => some (h_two (k_asm K cd x y) (k_asm K (k_ng cd) x y) t (pc + 3) C lv ss r)
  | none => none
theorem h_br_ok {cd : Jvm.ClassFile.Cond} {x y : sV} {X Y : Int} {b : Bool} {pc : Nat} {off : Int} (h : gD Z wr w0 vs (K, C, lv, ss, al, wk) l st w) (hx7 : n7 x = true) (hy7 : n7 y = true) (hx : vN vs x X) (hy : vN vs y Y) (ht : b = true → z_hold cd X Y) (hf : b = false → z_hold (k_ng cd) X Y) (ho : h_br cd x y pc off K C lv ss (al, wk) = some out) : sOK Z wr w0 vs w out (m_br b pc off l st) := by
  unfold h_br at ho
  split at ho
  next t hm =>
    cases ho
    unfold m_br
    rw [hm]
    cases b with
    | true =>
      obtain ⟨K1, e1, n1⟩ := k_asm_ok h.1 hx7 hy7 hx hy (ht rfl)
      exact ⟨_, vs, l, st, h_two_l e1, rfl, vL_refl vs, gD_new h (vL_refl vs) n1 h.2.2.1 h.2.2.2.1⟩
    | false =>
      obtain ⟨K1, e1, n1⟩ := k_asm_ok h.1 hx7 hy7 hx hy (hf rfl)
      exact ⟨_, vs, l, st, h_two_r e1, rfl, vL_refl vs, gD_new h (vL_refl vs) n1 h.2.2.1 h.2.2.2.1⟩
  next => cases ho
def h_ic (cd : Jvm.ClassFile.Cond) (pc : Nat) (off : Int) (D : sD) : Option (List sN) := match D with
  | (K, C, lv, x :: ss, r) => bif (Nat.beq x.1 0 || Nat.beq x.1 6) then h_br cd x (0, 0, 0) pc off K C lv ss r else none
  | _ => none
theorem gD_pop {s : sV} {v : Value} (h : gD Z wr w0 vs (K, C, lv, s :: ss, al, wk) l (v :: st) w) : gD Z wr w0 vs (K, C, lv, ss, al, wk) l st w := ⟨h.1, h.2.1, h.2.2.1, h.2.2.2.1.2, h.2.2.2.2⟩
theorem h_ic_ok {cd : Jvm.ClassFile.Cond} {pc : Nat} {off : Int} {nL : Nat} (h : gD Z wr w0 vs (K, C, lv, ss, al, wk) l st w) (ho : h_ic cd pc off (K, C, lv, ss, al, wk) = some out) : sOK Z wr w0 vs w out (m_pure nL (.ifCond cd off) pc l st) := by
  unfold h_ic at ho
  split at ho
  next K' C' lv' x ss' r hD =>
    cases hD
    obtain ⟨v, r1, e1, d1, hr1⟩ := dnL_cons h.2.2.2.1
    subst e1
    cases e : (Nat.beq x.1 0 || Nat.beq x.1 6) with
    | false => rw [e] at ho; cases ho
    | true =>
      rw [e] at ho
      rw [Bool.or_eq_true] at e
      obtain ⟨t, a, c⟩ := x
      rcases e with e | e
      · have := Nat.eq_of_beq_eq_true e
        simp only at this
        subst this
        obtain ⟨i, hi, hN⟩ := d1
        subst hi
        exact h_br_ok (gD_pop h) rfl rfl hN (vN_cst h.1 rfl 0) (fun hb => m_cmp_t hb) (fun hb => m_cmp_f hb) ho
      · have := Nat.eq_of_beq_eq_true e
        simp only at this
        subst this
        obtain ⟨i, X, hi, hN, s1, s2⟩ := d1
        subst hi
        exact h_br_ok (gD_pop h) rfl rfl hN (vN_cst h.1 rfl 0) (fun hb => z_sign s1 s2 (m_cmp_t hb)) (fun hb => z_sign s1 s2 (m_cmp_f hb)) ho
  next => cases ho
def h_cc (cd : Jvm.ClassFile.Cond) (pc : Nat) (off : Int) (D : sD) : Option (List sN) := match D with
  | (K, C, lv, y :: x :: ss, r) => bif (Nat.beq x.1 0 && Nat.beq y.1 0) then h_br cd x y pc off K C lv ss r else none
  | _ => none
theorem h_cc_ok {cd : Jvm.ClassFile.Cond} {pc : Nat} {off : Int} {nL : Nat} (h : gD Z wr w0 vs (K, C, lv, ss, al, wk) l st w) (ho : h_cc cd pc off (K, C, lv, ss, al, wk) = some out) : sOK Z wr w0 vs w out (m_pure nL (.if_icmp cd off) pc l st) := by
  unfold h_cc at ho
  split at ho
  next K' C' lv' y x ss' r hD =>
    cases hD
    obtain ⟨vy, r1, e1, d1, hr1⟩ := dnL_cons h.2.2.2.1
    obtain ⟨vx, r2, e2, d2, hr2⟩ := dnL_cons hr1
    subst e1 e2
    cases e : (Nat.beq x.1 0 && Nat.beq y.1 0) with
    | false => rw [e] at ho; cases ho
    | true =>
      rw [e] at ho
      rw [Bool.and_eq_true] at e
      obtain ⟨t, a, c⟩ := x
      obtain ⟨t', a', c'⟩ := y
      have e1 := Nat.eq_of_beq_eq_true e.1
      have e2 := Nat.eq_of_beq_eq_true e.2
      simp only at e1 e2
      subst e1 e2
      obtain ⟨i, hi, hN⟩ := d1
      obtain ⟨j, hj, hM⟩ := d2
      subst hi hj
      exact h_br_ok (gD_pop (gD_pop h)) rfl rfl hM hN (fun hb => m_cmp_t hb) (fun hb => m_cmp_f hb) ho
  next => cases ho
def h_jmp (pc : Nat) (off : Int) (D : sD) : Option (List sN) := match m_tgt pc off with
  | some t => some [(t, D)]
  | none => none
theorem h_jmp_ok {pc : Nat} {off : Int} (h : gD Z wr w0 vs (K, C, lv, ss, al, wk) l st w) (ho : h_jmp pc off (K, C, lv, ss, al, wk) = some out) : sOK Z wr w0 vs w out (m_jmp pc off l st) := by
  unfold h_jmp at ho
  split at ho
  next t hm =>
    cases ho
    unfold m_jmp
    rw [hm]
    exact sOK_one (vL_refl vs) h
  next => cases ho
/-- ifnull (b) and ifnonnull -/
def h_nul (b : Bool) (pc : Nat) (off : Int) (D : sD) : Option (List sN) := match D with
  | (K, C, lv, x :: ss, r) => (match m_tgt pc off with
    | some t => bif Nat.beq x.1 8 then some [(bif b then t else pc + 3, (K, C, lv, ss, r))] else (bif (Nat.beq x.1 2 || Nat.beq x.1 5) then some [(bif b then pc + 3 else t, (K, C, lv, ss, r))] else (bif (Nat.beq x.1 3 || Nat.beq x.1 4) then some (h_two (k_ref K x.2.1 (-1) (-1)) (k_ref K x.2.1 0 0) (bif b then t else pc + 3) (bif b then pc + 3 else t) C lv ss r) else none))
    | none => none)
  | _ => none
theorem h_nul_ok {b : Bool} {pc : Nat} {off : Int} (h : gD Z wr w0 vs (K, C, lv, ss, al, wk) l st w) (ho : h_nul b pc off (K, C, lv, ss, al, wk) = some out) : sOK Z wr w0 vs w out (m_nul b pc off l st) := by
  unfold h_nul at ho
  split at ho
  next K' C' lv' x ss' r hD =>
    cases hD
    obtain ⟨v, r1, e1, d1, hr1⟩ := dnL_cons h.2.2.2.1
    subst e1
    have hp := gD_pop h
    split at ho
    next t hm =>
      obtain ⟨tg, a, c⟩ := x
      cases e8 : Nat.beq tg 8 with
      | true =>
        have := Nat.eq_of_beq_eq_true e8
        subst this
        simp only [show Nat.beq 8 8 = true from rfl, cond_true, Option.some.injEq] at ho
        subst ho
        have hv : v = .null := d1
        subst hv
        simp only [m_nul, m_br, hm]
        exact sOK_one (vL_refl vs) hp
      | false =>
        simp only [e8, cond_false] at ho
        cases e2 : (Nat.beq tg 2 || Nat.beq tg 5) with
        | true =>
          rw [e2] at ho
          cases ho
          rw [Bool.or_eq_true] at e2
          rcases e2 with e | e
          · have := Nat.eq_of_beq_eq_true e
            subst this
            have hv : v = .ref a := d1
            subst hv
            simp only [m_nul, m_br, hm]
            cases b <;> exact sOK_one (vL_refl vs) hp
          · have := Nat.eq_of_beq_eq_true e
            subst this
            have hv : v = .retAddr a := d1
            subst hv
            simp only [m_nul, m_br, hm]
            cases b <;> exact sOK_one (vL_refl vs) hp
        | false =>
          rw [e2] at ho
          simp only [cond_false] at ho
          cases e3 : (Nat.beq tg 3 || Nat.beq tg 4) with
          | false => rw [e3] at ho; cases ho
          | true =>
            rw [e3] at ho
            cases ho
            have key : ∃ u, vs[a]? = some u ∧ ((u = -1 ∧ v = .null) ∨ (u = 0 ∧ ∃ i, v = .ref i)) := by
              rw [Bool.or_eq_true] at e3
              rcases e3 with e | e
              · have := Nat.eq_of_beq_eq_true e
                subst this
                obtain ⟨u, h1, h2 | ⟨h2, i, h3, h4⟩⟩ := d1
                · exact ⟨u, h1, .inl h2⟩
                · exact ⟨u, h1, .inr ⟨h2, i, h3⟩⟩
              · have := Nat.eq_of_beq_eq_true e
                subst this
                obtain ⟨u, h1, h2 | ⟨h2, i, n, h3, h4⟩⟩ := d1
                · exact ⟨u, h1, .inl h2⟩
                · exact ⟨u, h1, .inr ⟨h2, i, h3⟩⟩
            obtain ⟨u, h1, h2 | ⟨h2, i, h3⟩⟩ := key
            · obtain ⟨hu, hv⟩ := h2
              subst hv
              obtain ⟨K1, e1, n1⟩ := k_ref_ok h.1 (lo := -1) (hi := -1) h1 (by omega) (by omega)
              simp only [m_nul, m_br, hm]
              exact ⟨_, vs, l, _, h_two_l e1, rfl, vL_refl vs, gD_new hp (vL_refl vs) n1 h.2.2.1 hr1⟩
            · subst h3
              obtain ⟨K1, e1, n1⟩ := k_ref_ok h.1 (lo := 0) (hi := 0) h1 (by omega) (by omega)
              simp only [m_nul, m_br, hm]
              refine ⟨_, vs, l, _, h_two_r e1, ?_, vL_refl vs, gD_new hp (vL_refl vs) n1 h.2.2.1 hr1⟩
              cases b <;> rfl
    next => cases ho
  next => cases ho
/-- the cases of a switch one after another -/
def h_sw (pc : Nat) (x : sV) (C : sC) (lv : sL) (ss : List sV) (r : (Nat × Nat) × Option sV) (d : Int) : List (Int × Int) → sK → Option (List sN)
  | [], K => (match m_tgt pc d with
    | some t => some [(t, (K, C, lv, ss, r))]
    | none => none)
  | q :: qs, K => (match m_tgt pc q.2 with
    | some t => (match (match k_asm K .ne x (0, 0, q.1) with
        | some K2 => h_sw pc x C lv ss r d qs K2
        | none => some []) with
      | some L => (match k_asm K .eq x (0, 0, q.1) with
        | some K1 => some ((t, (K1, C, lv, ss, r)) :: L)
        | none => some L)
      | none => none)
    | none => none)
theorem h_sw_ok {pc : Nat} {x : sV} {X d : Int} (hx7 : n7 x = true) (hx : vN vs x X) : ∀ (qs : List (Int × Int)) (K : sK) (out : List sN), gD Z wr w0 vs (K, C, lv, ss, al, wk) l st w → h_sw pc x C lv ss (al, wk) d qs K = some out → sOK Z wr w0 vs w out (m_jmp pc (Op.lookupswitch.offset qs d X) l st)
  | [], K, out, h, ho => by
    unfold h_sw at ho
    split at ho
    next t hm =>
      cases ho
      show sOK Z wr w0 vs w _ (m_jmp pc d l st)
      unfold m_jmp
      rw [hm]
      exact sOK_one (vL_refl vs) h
    next => cases ho
  | q :: qs, K, out, h, ho => by
    have hc := vN_cst h.1 (t := 0) rfl q.1
    unfold h_sw at ho
    split at ho
    next t hm =>
      by_cases e : q.1 = X
      · obtain ⟨K1, e1, n1⟩ := k_asm_ok (cd := .eq) h.1 hx7 rfl hx hc e.symm
        rw [e1] at ho
        have ho2 : ∃ L, out = (t, (K1, C, lv, ss, al, wk)) :: L := by
          split at ho
          · cases ho; exact ⟨_, rfl⟩
          · cases ho
        obtain ⟨L, rfl⟩ := ho2
        obtain ⟨q1, q2⟩ := q
        rw [Op.lookupswitch.offset_cons, if_pos e]
        unfold m_jmp
        rw [hm]
        exact ⟨_, vs, l, st, List.mem_cons_self, rfl, vL_refl vs, gD_new h (vL_refl vs) n1 h.2.2.1 h.2.2.2.1⟩
      · obtain ⟨K2, e2, n2⟩ := k_asm_ok (cd := .ne) h.1 hx7 rfl hx hc (fun h' => e h'.symm)
        rw [e2] at ho
        simp only at ho
        obtain ⟨q1, q2⟩ := q
        rw [Op.lookupswitch.offset_cons, if_neg e]
        split at ho
        next L hL =>
          have ih := h_sw_ok hx7 hx qs K2 L (gD_new h (vL_refl vs) n2 h.2.2.1 h.2.2.2.1) hL
          obtain ⟨y, vs', l', st', m1, m2⟩ := ih
          split at ho
          · cases ho; exact ⟨y, vs', l', st', List.mem_cons_of_mem _ m1, m2⟩
          · cases ho; exact ⟨y, vs', l', st', m1, m2⟩
        next => cases ho
    next => cases ho
def z_tab (lo : Int) : List Int → List (Int × Int)
  | [] => []
  | o :: os => (lo, o) :: z_tab (lo + 1) os
theorem z_tab_out : ∀ (os : List Int) (lo d X : Int), (X < lo ∨ lo + os.length ≤ X) → Op.lookupswitch.offset (z_tab lo os) d X = d
  | [], _, _, _, _ => rfl
  | o :: os, lo, d, X, h => by
    unfold z_tab
    rw [Op.lookupswitch.offset_cons]
    rw [List.length_cons] at h
    rw [if_neg (by omega)]
    exact z_tab_out os (lo + 1) d X (by omega)
theorem z_tab_in : ∀ (os : List Int) (lo d X : Int) (o : Int), lo ≤ X → os[(X - lo).toNat]? = some o → Op.lookupswitch.offset (z_tab lo os) d X = o
  | [], _, _, _, _, _, h => by simp at h
  | p :: os, lo, d, X, o, hl, h => by
    unfold z_tab
    rw [Op.lookupswitch.offset_cons]
    by_cases e : lo = X
    · subst e
      rw [if_pos rfl]
      simp at h
      exact h
    · rw [if_neg e]
      refine z_tab_in os (lo + 1) d X o (by omega) ?_
      rw [show (X - lo).toNat = (X - (lo + 1)).toNat + 1 by omega, List.getElem?_cons_succ] at h
      exact h
def h_ts (d lo hi : Int) (offs : Array Int) (pc : Nat) (D : sD) : Option (List sN) := match D with
  | (K, C, lv, x :: ss, r) => bif (Nat.beq x.1 0 && z_eq (lo + Int.ofNat offs.toList.length) (hi + 1)) then h_sw pc x C lv ss r d (z_tab lo offs.toList) K else none
  | _ => none
theorem h_ts_ok {d lo hi : Int} {offs : Array Int} {pc nL : Nat} (h : gD Z wr w0 vs (K, C, lv, ss, al, wk) l st w) (ho : h_ts d lo hi offs pc (K, C, lv, ss, al, wk) = some out) : sOK Z wr w0 vs w out (m_pure nL (.tableswitch d lo hi offs) pc l st) := by
  unfold h_ts at ho
  split at ho
  next K' C' lv' x ss' r hD =>
    cases hD
    obtain ⟨v, r1, e1, d1, hr1⟩ := dnL_cons h.2.2.2.1
    subst e1
    cases e : (Nat.beq x.1 0 && z_eq (lo + Int.ofNat offs.toList.length) (hi + 1)) with
    | false => rw [e] at ho; cases ho
    | true =>
      rw [e] at ho
      rw [Bool.and_eq_true, z_eq_iff] at e
      obtain ⟨t, a, c⟩ := x
      have e1 := Nat.eq_of_beq_eq_true e.1
      simp only at e1
      subst e1
      obtain ⟨i, hi', hN⟩ := d1
      subst hi'
      have hlen : lo + (offs.toList.length : Int) = hi + 1 := e.2
      have r := h_sw_ok rfl hN _ _ _ (gD_pop h) ho
      simp only [m_pure]
      by_cases ho2 : i.toInt < lo ∨ hi < i.toInt
      · rw [if_pos ho2]
        rw [z_tab_out _ _ _ _ (by omega)] at r
        exact r
      · rw [if_neg ho2]
        have hlt : (i.toInt - lo).toNat < offs.toList.length := by omega
        have hg : offs.toList[(i.toInt - lo).toNat]? = some (offs.toList[(i.toInt - lo).toNat]) := List.getElem?_eq_getElem hlt
        have hg2 : offs[(i.toInt - lo).toNat]? = some (offs.toList[(i.toInt - lo).toNat]) := by rw [← Array.getElem?_toList]; exact hg
        rw [z_tab_in _ _ _ _ _ (by omega) hg] at r
        rw [hg2]
        exact r
  next => cases ho
def h_ls (d : Int) (ps : Array (Int × Int)) (pc : Nat) (D : sD) : Option (List sN) := match D with
  | (K, C, lv, x :: ss, r) => bif (Nat.beq x.1 0 && m_srt ps.toList) then h_sw pc x C lv ss r d ps.toList K else none
  | _ => none
theorem h_ls_ok {d : Int} {ps : Array (Int × Int)} {pc nL : Nat} (h : gD Z wr w0 vs (K, C, lv, ss, al, wk) l st w) (ho : h_ls d ps pc (K, C, lv, ss, al, wk) = some out) : sOK Z wr w0 vs w out (m_pure nL (.lookupswitch d ps) pc l st) := by
  unfold h_ls at ho
  split at ho
  next K' C' lv' x ss' r hD =>
    cases hD
    obtain ⟨v, r1, e1, d1, hr1⟩ := dnL_cons h.2.2.2.1
    subst e1
    cases e : (Nat.beq x.1 0 && m_srt ps.toList) with
    | false => rw [e] at ho; cases ho
    | true =>
      rw [e] at ho
      rw [Bool.and_eq_true] at e
      obtain ⟨t, a, c⟩ := x
      have e1 := Nat.eq_of_beq_eq_true e.1
      simp only at e1
      subst e1
      obtain ⟨i, hi', hN⟩ := d1
      subst hi'
      have r := h_sw_ok rfl hN _ _ _ (gD_pop h) ho
      simp only [m_pure, e.2, if_true]
      exact r
  next => cases ho
end PURE2
end
section
/-! A STEP OF THE CHECKER: conversions, copies on the stack; all of locals and stack -/
section PURE3
variable {Z : zDt} {wr : zWr} {w0 w : mWd} {vs : List Int} {K : sK} {C : sC} {lv : sL} {ss : List sV} {al : Nat × Nat} {wk : Option sV} {l : mL} {st : List Value} {out : List sN}
/-- a value in place of the one on top -/
def h_top (pc : Nat) (q : sK × sV) (D : sD) : Option (List sN) := match D with
  | (_, C, lv, _ :: ss, r) => some [(pc, (q.1, C, lv, q.2 :: ss, r))]
  | _ => none
theorem h_top_ok {pc : Nat} {q : sK × sV} {x : sV} {v v' : Value} {vs' : List Int} (h : gD Z wr w0 vs (K, C, lv, x :: ss, al, wk) l (v :: st) w) (hv : vL vs vs') (hK : nK vs' q.1) (hd : dn vs' w q.2 v') (ho : h_top pc q (K, C, lv, x :: ss, al, wk) = some out) : sOK Z wr w0 vs w out (some (pc, l, v' :: st)) := by
  cases ho
  exact sOK_one hv (gD_new h hv hK (gD_lv h hv) ⟨hd, dnL_up hv (w_le_refl w) h.2.2.2.1.2⟩)
def h_ineg (pc : Nat) (D : sD) : Option (List sN) := match D.2.2.2.1 with
  | x :: _ => bif k_tg 0 x then h_top pc (bif z_le (-2147483647) (k_iv D.1 x).1 then k_mk 0 D.1 (-(k_iv D.1 x).2) (-(k_iv D.1 x).1) else k_all 0 D.1) D else none
  | _ => none
theorem h_ineg_ok {pc nL : Nat} (h : gD Z wr w0 vs (K, C, lv, ss, al, wk) l st w) (ho : h_ineg (pc + 1) (K, C, lv, ss, al, wk) = some out) : sOK Z wr w0 vs w out (m_pure nL .ineg pc l st) := by
  unfold h_ineg at ho
  split at ho
  next x ss' hD =>
    simp only at hD
    subst hD
    obtain ⟨v, r1, e1, d1, hr1⟩ := dnL_cons h.2.2.2.1
    subst e1
    cases e : k_tg 0 x with
    | false => rw [e] at ho; cases ho
    | true =>
      rw [e] at ho
      obtain ⟨i, hi, hN⟩ := dn_int d1 e
      subst hi
      have hK : nK vs K := h.1
      have bX := k_iv_ok hK hN
      simp only [cond_true] at ho
      cases e2 : z_le (-2147483647) (k_iv K x).1 with
      | true =>
        rw [e2] at ho
        have := z_le_iff.mp e2
        have hr := (i32_rg i).2
        have hm : (-i).toInt = -i.toInt := by
          rw [Int32.toInt_neg, z_bm0]
          show (-2147483648 : Int) ≤ _ ∧ _ ≤ (2147483647 : Int)
          have : i.toInt ≤ 2147483647 := hr
          omega
        obtain ⟨vs', v1, v2, v3, v4⟩ := k_mk_ok (Z := (-i).toInt) (.inl rfl) h.1 (lo := -(k_iv K x).2) (hi := -(k_iv K x).1) (by omega) (by omega)
        exact h_top_ok h v1 v2 (dn_of_int v4 v3) ho
      | false =>
        rw [e2] at ho
        obtain ⟨vs', v1, v2, v3, v4⟩ := k_all_ok (Z := (-i).toInt) (.inl rfl) h.1 (i32_rg _)
        exact h_top_ok h v1 v2 (dn_of_int v4 v3) ho
  next => cases ho
def h_i2l (pc : Nat) (D : sD) : Option (List sN) := match D.2.2.2.1 with
  | x :: _ => bif Nat.beq x.1 0 then h_top pc (D.1, (1, x.2.1, x.2.2)) D else none
  | _ => none
theorem h_i2l_ok {pc nL : Nat} (h : gD Z wr w0 vs (K, C, lv, ss, al, wk) l st w) (ho : h_i2l (pc + 1) (K, C, lv, ss, al, wk) = some out) : sOK Z wr w0 vs w out (m_pure nL .i2l pc l st) := by
  unfold h_i2l at ho
  split at ho
  next x ss' hD =>
    simp only at hD
    subst hD
    obtain ⟨v, r1, e1, d1, hr1⟩ := dnL_cons h.2.2.2.1
    subst e1
    cases e : Nat.beq x.1 0 with
    | false => rw [e] at ho; cases ho
    | true =>
      rw [e] at ho
      obtain ⟨t, a, c⟩ := x
      have := Nat.eq_of_beq_eq_true e
      simp only at this
      subst this
      obtain ⟨i, hi, hN⟩ := d1
      subst hi
      refine h_top_ok h (vL_refl vs) h.1 ?_ ho
      refine ⟨i.toInt64, rfl, ?_⟩
      rw [Int32.toInt_toInt64]
      exact hN
  next => cases ho
def h_l2i (pc : Nat) (D : sD) : Option (List sN) := match D.2.2.2.1 with
  | x :: _ => bif Nat.beq x.1 1 then h_top pc (bif z_in 0 (k_iv D.1 x).1 (k_iv D.1 x).2 then (D.1, (0, x.2.1, x.2.2)) else k_all 0 D.1) D else none
  | _ => none
theorem h_l2i_ok {pc nL : Nat} (h : gD Z wr w0 vs (K, C, lv, ss, al, wk) l st w) (ho : h_l2i (pc + 1) (K, C, lv, ss, al, wk) = some out) : sOK Z wr w0 vs w out (m_pure nL .l2i pc l st) := by
  unfold h_l2i at ho
  split at ho
  next x ss' hD =>
    simp only at hD
    subst hD
    obtain ⟨v, r1, e1, d1, hr1⟩ := dnL_cons h.2.2.2.1
    subst e1
    cases e : Nat.beq x.1 1 with
    | false => rw [e] at ho; cases ho
    | true =>
      rw [e] at ho
      obtain ⟨t, a, c⟩ := x
      have := Nat.eq_of_beq_eq_true e
      simp only at this
      subst this
      obtain ⟨i, hi, hN⟩ := d1
      subst hi
      have hK : nK vs K := h.1
      have bX := k_iv_ok hK hN
      simp only [cond_true] at ho
      cases e2 : z_in 0 (k_iv K (1, a, c)).1 (k_iv K (1, a, c)).2 with
      | true =>
        rw [e2] at ho
        have e3 := z_in_iff.mp e2
        refine h_top_ok h (vL_refl vs) h.1 ?_ ho
        refine ⟨i.toInt32, rfl, ?_⟩
        rw [Int64.toInt_toInt32, z_bm0 ⟨by omega, by omega⟩]
        exact hN
      | false =>
        rw [e2] at ho
        obtain ⟨vs', v1, v2, v3, v4⟩ := k_all_ok (Z := i.toInt32.toInt) (.inl rfl) h.1 (i32_rg _)
        exact h_top_ok h v1 v2 (dn_of_int v4 v3) ho
  next => cases ho
theorem i32_i2b {i : Int32} (h1 : 0 ≤ i.toInt) (h2 : i.toInt ≤ 127) : i.toInt8.toInt32 = i := by
  apply Int32.toInt_inj.mp
  rw [Int8.toInt_toInt32, Int32.toInt_toInt8, Int.bmod_def]
  omega
theorem i32_i2c {i : Int32} (h1 : 0 ≤ i.toInt) (h2 : i.toInt ≤ 127) : (i.toUInt32 % 65536).toInt32 = i := by
  obtain ⟨a1, a2⟩ := i32_nat_pos h1
  apply Int32.toInt_inj.mp
  have e : (i.toUInt32 % 65536).toInt32.toBitVec.toNat = i.toBitVec.toNat := by
    show (i.toUInt32 % 65536).toNat = _
    rw [UInt32.toNat_mod]
    show i.toBitVec.toNat % 65536 = i.toBitVec.toNat
    omega
  rw [i32_of_nat (by omega), e, a2]
/-- i2b, i2c: the same, where it is 0 .. 127 -/
def h_i2s (pc : Nat) (D : sD) : Option (List sN) := match D.2.2.2.1 with
  | x :: _ => bif Nat.beq x.1 0 then h_top pc (bif (z_le 0 (k_iv D.1 x).1 && z_le (k_iv D.1 x).2 127) then (D.1, x) else k_all 0 D.1) D else none
  | _ => none
theorem h_i2s_ok {pc : Nat} {f : Int32 → Int32} (hf : ∀ i : Int32, 0 ≤ i.toInt → i.toInt ≤ 127 → f i = i) (h : gD Z wr w0 vs (K, C, lv, ss, al, wk) l st w) (ho : h_i2s (pc + 1) (K, C, lv, ss, al, wk) = some out) : ∃ i r, st = .int i :: r ∧ sOK Z wr w0 vs w out (some (pc + 1, l, .int (f i) :: r)) := by
  unfold h_i2s at ho
  split at ho
  next x ss' hD =>
    simp only at hD
    subst hD
    obtain ⟨v, r1, e1, d1, hr1⟩ := dnL_cons h.2.2.2.1
    subst e1
    cases e : Nat.beq x.1 0 with
    | false => rw [e] at ho; cases ho
    | true =>
      rw [e] at ho
      obtain ⟨t, a, c⟩ := x
      have := Nat.eq_of_beq_eq_true e
      simp only at this
      subst this
      obtain ⟨i, hi, hN⟩ := id d1
      subst hi
      have hK : nK vs K := h.1
      have bX := k_iv_ok hK hN
      refine ⟨i, r1, rfl, ?_⟩
      simp only [cond_true] at ho
      cases e2 : (z_le 0 (k_iv K (0, a, c)).1 && z_le (k_iv K (0, a, c)).2 127) with
      | true =>
        rw [e2] at ho
        rw [Bool.and_eq_true, z_le_iff, z_le_iff] at e2
        rw [hf i (by omega) (by omega)]
        exact h_top_ok h (vL_refl vs) h.1 d1 ho
      | false =>
        rw [e2] at ho
        obtain ⟨vs', v1, v2, v3, v4⟩ := k_all_ok (Z := (f i).toInt) (.inl rfl) h.1 (i32_rg _)
        exact h_top_ok h v1 v2 (dn_of_int v4 v3) ho
  next => cases ho
theorem lg_sign (x y : Int64) : ((lg_cmp x y).toInt < 0 ↔ x.toInt - y.toInt < 0) ∧ ((lg_cmp x y).toInt = 0 ↔ x.toInt - y.toInt = 0) ∧ -1 ≤ (lg_cmp x y).toInt ∧ (lg_cmp x y).toInt ≤ 1 := by
  unfold lg_cmp
  by_cases h1 : x > y
  · rw [if_pos h1]
    have : y.toInt < x.toInt := Int64.lt_iff_toInt_lt.mp h1
    have e : (1 : Int32).toInt = 1 := by decide
    omega
  · rw [if_neg h1]
    by_cases h2 : x = y
    · rw [if_pos h2]
      have e : (0 : Int32).toInt = 0 := by decide
      subst h2
      omega
    · rw [if_neg h2]
      have e : (-1 : Int32).toInt = -1 := by decide
      have h3 : ¬ y.toInt < x.toInt := fun h => h1 (Int64.lt_iff_toInt_lt.mpr h)
      have h4 : ¬ x.toInt = y.toInt := fun h => h2 (Int64.toInt_inj.mp h)
      omega
def h_lcmp (pc : Nat) (D : sD) : Option (List sN) := match D with
  | (K, C, lv, y :: x :: ss, r) => bif (Nat.beq x.1 1 && Nat.beq y.1 1) then (bif k_single (k_iv K y) then some [(pc, (K, C, lv, (6, x.2.1, x.2.2 - (k_iv K y).1) :: ss, r))] else some [(pc, ((k_mk 0 K (-1) 1).1, C, lv, (k_mk 0 K (-1) 1).2 :: ss, r))]) else none
  | _ => none
theorem h_lcmp_ok {pc nL : Nat} (h : gD Z wr w0 vs (K, C, lv, ss, al, wk) l st w) (ho : h_lcmp (pc + 1) (K, C, lv, ss, al, wk) = some out) : sOK Z wr w0 vs w out (m_pure nL .lcmp pc l st) := by
  unfold h_lcmp at ho
  split at ho
  next K' C' lv' y x ss' r hD =>
    cases hD
    obtain ⟨vy, r1, e1, d1, hr1⟩ := dnL_cons h.2.2.2.1
    obtain ⟨vx, r2, e2, d2, hr2⟩ := dnL_cons hr1
    subst e1 e2
    cases e : (Nat.beq x.1 1 && Nat.beq y.1 1) with
    | false => rw [e] at ho; cases ho
    | true =>
      rw [e] at ho
      rw [Bool.and_eq_true] at e
      obtain ⟨t, a, c⟩ := x
      obtain ⟨t', a', c'⟩ := y
      have e1 := Nat.eq_of_beq_eq_true e.1
      have e2 := Nat.eq_of_beq_eq_true e.2
      simp only at e1 e2
      subst e1 e2
      obtain ⟨j, hj, hM⟩ := d1
      obtain ⟨i, hi, hN⟩ := d2
      subst hi hj
      obtain ⟨s1, s2, s3, s4⟩ := lg_sign i j
      have hK : nK vs K := h.1
      have bY := k_iv_ok hK hM
      simp only [cond_true] at ho
      show sOK Z wr w0 vs w out (some (pc + 1, l, .int (lg_cmp i j) :: r2))
      cases e3 : k_single (k_iv K (1, a', c')) with
      | true =>
        rw [e3] at ho
        cases ho
        have e4 := z_sgl e3
        refine sOK_one (vL_refl vs) (gD_new h (vL_refl vs) h.1 h.2.2.1 ⟨?_, hr2⟩)
        refine ⟨lg_cmp i j, i.toInt - j.toInt, rfl, ?_, s1, s2⟩
        obtain ⟨u, hu, hX⟩ := hN
        refine ⟨u, hu, ?_⟩
        have hX' : i.toInt = u + c := hX
        show i.toInt - j.toInt = u + (c - (k_iv K (1, a', c')).1)
        omega
      | false =>
        rw [e3] at ho
        cases ho
        obtain ⟨vs', v1, v2, v3, v4⟩ := k_mk_ok (Z := (lg_cmp i j).toInt) (.inl rfl) h.1 s3 s4
        exact sOK_one v1 (gD_new h v1 v2 (gD_lv h v1) ⟨dn_of_int v4 v3, dnL_up v1 (w_le_refl w) hr2⟩)
  next => cases ho
/-- dup, pop, dup_x1, dup_x2, dup2 -/
def h_stk (ins : Instr) (pc : Nat) (D : sD) : Option (List sN) := match ins, D with
  | .dup, (K, C, lv, a :: ss, r) => bif Nat.beq a.1 1 then none else some [(pc, (K, C, lv, a :: a :: ss, r))]
  | .pop, (K, C, lv, a :: ss, r) => bif Nat.beq a.1 1 then none else some [(pc, (K, C, lv, ss, r))]
  | .dup_x1, (K, C, lv, a :: b :: ss, r) => bif (Nat.beq a.1 1 || Nat.beq b.1 1) then none else some [(pc, (K, C, lv, a :: b :: a :: ss, r))]
  | .dup_x2, (K, C, lv, a :: b :: d :: ss, r) => bif (Nat.beq a.1 1 || (Nat.beq b.1 1 || Nat.beq d.1 1)) then none else some [(pc, (K, C, lv, a :: b :: d :: a :: ss, r))]
  | .dup2, (K, C, lv, a :: ss, r) => bif Nat.beq a.1 1 then some [(pc, (K, C, lv, a :: a :: ss, r))] else (match ss with
    | b :: ss' => bif (Nat.beq b.1 1 || Nat.beq a.1 6) then none else some [(pc, (K, C, lv, a :: b :: a :: b :: ss', r))]
    | _ => none)
  | _, _ => none
theorem h_stk_ok {ins : Instr} {pc nL : Nat} (h : gD Z wr w0 vs (K, C, lv, ss, al, wk) l st w) (ho : h_stk ins (pc + 1) (K, C, lv, ss, al, wk) = some out) : sOK Z wr w0 vs w out (m_pure nL ins pc l st) := by
  unfold h_stk at ho
  split at ho
  next K' C' lv' a ss' r hD =>
    cases hD
    obtain ⟨v, r1, e1, d1, hr1⟩ := dnL_cons h.2.2.2.1
    subst e1
    cases e : Nat.beq a.1 1 with
    | true => rw [e] at ho; cases ho
    | false =>
      rw [e] at ho
      cases ho
      simp only [m_pure, dn_c1 d1 e, if_true]
      exact sOK_one (vL_refl vs) (gD_new h (vL_refl vs) h.1 h.2.2.1 ⟨d1, d1, hr1⟩)
  next K' C' lv' a ss' r hD =>
    cases hD
    obtain ⟨v, r1, e1, d1, hr1⟩ := dnL_cons h.2.2.2.1
    subst e1
    cases e : Nat.beq a.1 1 with
    | true => rw [e] at ho; cases ho
    | false =>
      rw [e] at ho
      cases ho
      simp only [m_pure, dn_c1 d1 e, if_true]
      exact sOK_one (vL_refl vs) (gD_new h (vL_refl vs) h.1 h.2.2.1 hr1)
  next K' C' lv' a b ss' r hD =>
    cases hD
    obtain ⟨v, r1, e1, d1, hr1⟩ := dnL_cons h.2.2.2.1
    obtain ⟨v2, r2, e2, d2, hr2⟩ := dnL_cons hr1
    subst e1 e2
    cases e : (Nat.beq a.1 1 || Nat.beq b.1 1) with
    | true => rw [e] at ho; cases ho
    | false =>
      rw [e] at ho
      cases ho
      rw [Bool.or_eq_false_iff] at e
      simp only [m_pure, dn_c1 d1 e.1, dn_c1 d2 e.2, and_self, if_true]
      exact sOK_one (vL_refl vs) (gD_new h (vL_refl vs) h.1 h.2.2.1 ⟨d1, d2, d1, hr2⟩)
  next K' C' lv' a b d ss' r hD =>
    cases hD
    obtain ⟨v, r1, e1, d1, hr1⟩ := dnL_cons h.2.2.2.1
    obtain ⟨v2, r2, e2, d2, hr2⟩ := dnL_cons hr1
    obtain ⟨v3, r3, e3, d3, hr3⟩ := dnL_cons hr2
    subst e1 e2 e3
    cases e : (Nat.beq a.1 1 || (Nat.beq b.1 1 || Nat.beq d.1 1)) with
    | true => rw [e] at ho; cases ho
    | false =>
      rw [e] at ho
      cases ho
      rw [Bool.or_eq_false_iff, Bool.or_eq_false_iff] at e
      simp only [m_pure, dn_c1 d1 e.1, dn_c1 d2 e.2.1, dn_c1 d3 e.2.2, and_self, if_true]
      exact sOK_one (vL_refl vs) (gD_new h (vL_refl vs) h.1 h.2.2.1 ⟨d1, d2, d3, d1, hr3⟩)
  next K' C' lv' a ss' r hD =>
    cases hD
    obtain ⟨v, r1, e1, d1, hr1⟩ := dnL_cons h.2.2.2.1
    subst e1
    cases e : Nat.beq a.1 1 with
    | true =>
      rw [e] at ho
      cases ho
      obtain ⟨i, hi, -⟩ := dn_lng d1 e
      subst hi
      simp only [m_pure]
      exact sOK_one (vL_refl vs) (gD_new h (vL_refl vs) h.1 h.2.2.1 ⟨d1, d1, hr1⟩)
    | false =>
      rw [e] at ho
      simp only [cond_false] at ho
      split at ho
      next b ss'' =>
        obtain ⟨v2, r2, e2, d2, hr2⟩ := dnL_cons hr1
        subst e2
        cases e2 : (Nat.beq b.1 1 || Nat.beq a.1 6) with
        | true => rw [e2] at ho; cases ho
        | false =>
          rw [e2] at ho
          cases ho
          rw [Bool.or_eq_false_iff] at e2
          have c1 := dn_c1 d1 e
          have c2 := dn_c1 d2 e2.1
          have hm : m_pure nL .dup2 pc l (v :: v2 :: r2) = some (pc + 1, l, v :: v2 :: v :: v2 :: r2) := by
            cases v <;> first | (cases c1; done) | (simp only [m_pure]; rw [if_pos ⟨rfl, c2⟩])
          rw [hm]
          exact sOK_one (vL_refl vs) (gD_new h (vL_refl vs) h.1 h.2.2.1 ⟨d1, d2, d1, d2, hr2⟩)
      next => cases ho
  next => cases ho
/-- all of locals and stack -/
def s_pure (nL : Nat) (ins : Instr) (pc : Nat) (D : sD) : Option (List sN) := match ins with
  | .iconst n => h_cst (pc + 1) (-2147483648) 2147483647 n D
  | .bipush n => h_cst (pc + 2) (-128) 127 n D
  | .sipush n => h_cst (pc + 3) (-32768) 32767 n D
  | .lconst n => h_lcst (pc + 1) (Int.ofNat n.val) D
  | .aconst_null => h_push (pc + 1) (8, 0, -1) D
  | .iload_n k => h_load 0 k (pc + 1) D
  | .iload k => h_load 0 k (pc + 2) D
  | .lload_n k => h_load 1 k (pc + 1) D
  | .lload k => h_load 1 k (pc + 2) D
  | .aload_n k => h_load 2 k (pc + 1) D
  | .aload k => h_load 2 k (pc + 2) D
  | .istore_n k => h_store nL 0 k (pc + 1) D
  | .istore k => h_store nL 0 k (pc + 2) D
  | .lstore_n k => h_store nL 1 k (pc + 1) D
  | .lstore k => h_store nL 1 k (pc + 2) D
  | .astore_n k => h_store nL 2 k (pc + 1) D
  | .astore k => h_store nL 2 k (pc + 2) D
  | .iinc i n => h_iinc nL i n pc D
  | .iadd => h_bi .iadd pc D
  | .isub => h_bi .isub pc D
  | .imul => h_bi .imul pc D
  | .iand => h_bi .iand pc D
  | .ior => h_bi .ior pc D
  | .ixor => h_bi .ixor pc D
  | .idiv => h_bi .idiv pc D
  | .irem => h_bi .irem pc D
  | .ishl => h_bi .ishl pc D
  | .ishr => h_bi .ishr pc D
  | .iushr => h_bi .iushr pc D
  | .ladd => h_bl .ladd pc D
  | .lsub => h_bl .lsub pc D
  | .lmul => h_bl .lmul pc D
  | .land => h_bl .land pc D
  | .ldiv => h_bl .ldiv pc D
  | .lrem => h_bl .lrem pc D
  | .lcmp => h_lcmp (pc + 1) D
  | .ineg => h_ineg (pc + 1) D
  | .i2l => h_i2l (pc + 1) D
  | .l2i => h_l2i (pc + 1) D
  | .i2b => h_i2s (pc + 1) D
  | .i2c => h_i2s (pc + 1) D
  | .dup => h_stk .dup (pc + 1) D
  | .pop => h_stk .pop (pc + 1) D
  | .dup_x1 => h_stk .dup_x1 (pc + 1) D
  | .dup_x2 => h_stk .dup_x2 (pc + 1) D
  | .dup2 => h_stk .dup2 (pc + 1) D
  | .ifCond cd off => h_ic cd pc off D
  | .if_icmp cd off => h_cc cd pc off D
  | .ifnull off => h_nul true pc off D
  | .ifnonnull off => h_nul false pc off D
  | .goto off => h_jmp pc off D
  | .tableswitch d lo hi offs => h_ts d lo hi offs pc D
  | .lookupswitch d ps => h_ls d ps pc D
  | _ => none
theorem s_pure_ok {nL : Nat} {ins : Instr} {pc : Nat} (h : gD Z wr w0 vs (K, C, lv, ss, al, wk) l st w) (ho : s_pure nL ins pc (K, C, lv, ss, al, wk) = some out) : sOK Z wr w0 vs w out (m_pure nL ins pc l st) := by
  unfold s_pure at ho
  split at ho
  · exact h_cst_ok h (fun a b => by rw [Int32.toInt_ofInt]; exact z_bm0 ⟨a, b⟩) ho
  · refine h_cst_ok h (fun a b => ?_) ho
    rw [Int8.toInt_toInt32, Int8.toInt_ofInt, show Int8.size = 256 from rfl, Int.bmod_def]; omega
  · refine h_cst_ok h (fun a b => ?_) ho
    rw [Int16.toInt_toInt32, Int16.toInt_ofInt, show Int16.size = 65536 from rfl, Int.bmod_def]; omega
  · next n =>
    refine h_lcst_ok h (fun a => ?_) ho
    have : n.val < 2 := n.isLt
    show (Int64.ofNat n.val).toInt = (n.val : Int)
    exact Int64.toInt_ofNat_of_lt (by omega)
  · exact h_push_ok (s := (8, 0, -1)) h (show dn vs w (8, 0, -1) .null from (rfl : Value.null = Value.null)) ho
  · exact h_load_ok (by decide) h ho
  · exact h_load_ok (by decide) h ho
  · exact h_load_ok (by decide) h ho
  · exact h_load_ok (by decide) h ho
  · exact h_load_ok (by decide) h ho
  · exact h_load_ok (by decide) h ho
  · exact h_store_ok (by decide) h ho
  · exact h_store_ok (by decide) h ho
  · exact h_store_ok (by decide) h ho
  · exact h_store_ok (by decide) h ho
  · exact h_store_ok (by decide) h ho
  · exact h_store_ok (by decide) h ho
  · exact h_iinc_ok h ho
  · exact h_bi_ok h ho
  · exact h_bi_ok h ho
  · exact h_bi_ok h ho
  · exact h_bi_ok h ho
  · exact h_bi_ok h ho
  · exact h_bi_ok h ho
  · exact h_bi_ok h ho
  · exact h_bi_ok h ho
  · exact h_bi_ok h ho
  · exact h_bi_ok h ho
  · exact h_bi_ok h ho
  · exact h_bl_ok h ho
  · exact h_bl_ok h ho
  · exact h_bl_ok h ho
  · exact h_bl_ok h ho
  · exact h_bl_ok h ho
  · exact h_bl_ok h ho
  · exact h_lcmp_ok h ho
  · exact h_ineg_ok h ho
  · exact h_i2l_ok h ho
  · exact h_l2i_ok h ho
  · obtain ⟨i, r, e, hr⟩ := h_i2s_ok (f := fun i => i.toInt8.toInt32) (fun i a b => i32_i2b a b) h ho
    subst e
    exact hr
  · obtain ⟨i, r, e, hr⟩ := h_i2s_ok (f := fun i => (i.toUInt32 % 65536).toInt32) (fun i a b => i32_i2c a b) h ho
    subst e
    exact hr
  · exact h_stk_ok h ho
  · exact h_stk_ok h ho
  · exact h_stk_ok h ho
  · exact h_stk_ok h ho
  · exact h_stk_ok h ho
  · exact h_ic_ok h ho
  · exact h_cc_ok h ho
  · exact h_nul_ok h ho
  · exact h_nul_ok h ho
  · exact h_jmp_ok h ho
  · exact h_ts_ok h ho
  · exact h_ls_ok h ho
  · cases ho
end PURE3
end
