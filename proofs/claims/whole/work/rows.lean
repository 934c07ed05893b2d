section
-- ===== PART A: goes FIRST, ahead of the names: the tables' words, and 'selects' of the private methods out of them =====
/-- a private method of a class that the tables say can be made, by its rows of tables_1 -/
def lw_okq (q : MethodName × Nat) : Prop := (q.1.cls ≠ "java/lang/invoke/MethodHandle" ∧ q.1.cls ≠ "java/lang/invoke/VarHandle") ∧ Cond.instantiable q.1.cls q.2 ∈ tables_1 ∧ Cond.privateMethod q.1 ∈ tables_1 ∧ Cond.instanceMethod q.1 ∈ tables_1
theorem lw_p0 : lw_okq (⟨"TownRiverBeast", "refuse", "(I)I"⟩, 10) := ⟨⟨by decide +kernel, by decide +kernel⟩, List.mem_of_getElem? (i := 16) (by decide +kernel), List.mem_of_getElem? (i := 310) (by decide +kernel), List.mem_of_getElem? (i := 311) (by decide +kernel)⟩
theorem lw_p1 : lw_okq (⟨"TownRiverBeast", "troubleOfRow", "(I)I"⟩, 10) := ⟨⟨by decide +kernel, by decide +kernel⟩, List.mem_of_getElem? (i := 16) (by decide +kernel), List.mem_of_getElem? (i := 326) (by decide +kernel), List.mem_of_getElem? (i := 327) (by decide +kernel)⟩
theorem lw_p2 : lw_okq (⟨"TownRiverBeast$Shelf", "lowestBits", "(J)J"⟩, 4) := ⟨⟨by decide +kernel, by decide +kernel⟩, List.mem_of_getElem? (i := 246) (by decide +kernel), List.mem_of_getElem? (i := 343) (by decide +kernel), List.mem_of_getElem? (i := 344) (by decide +kernel)⟩
theorem lw_p3 : lw_okq (⟨"TownRiverBeast", "troubleOfPair", "(II)I"⟩, 10) := ⟨⟨by decide +kernel, by decide +kernel⟩, List.mem_of_getElem? (i := 16) (by decide +kernel), List.mem_of_getElem? (i := 351) (by decide +kernel), List.mem_of_getElem? (i := 352) (by decide +kernel)⟩
theorem lw_p4 : lw_okq (⟨"TownRiverBeast", "wordTakenFor", "(II)I"⟩, 10) := ⟨⟨by decide +kernel, by decide +kernel⟩, List.mem_of_getElem? (i := 16) (by decide +kernel), List.mem_of_getElem? (i := 389) (by decide +kernel), List.mem_of_getElem? (i := 390) (by decide +kernel)⟩
theorem lw_p5 : lw_okq (⟨"TownRiverBeast", "troubleOfFitting", "(III)I"⟩, 10) := ⟨⟨by decide +kernel, by decide +kernel⟩, List.mem_of_getElem? (i := 16) (by decide +kernel), List.mem_of_getElem? (i := 474) (by decide +kernel), List.mem_of_getElem? (i := 475) (by decide +kernel)⟩
theorem lw_p6 : lw_okq (⟨"TownRiverBeast", "troubleOfTold", "(III)I"⟩, 10) := ⟨⟨by decide +kernel, by decide +kernel⟩, List.mem_of_getElem? (i := 16) (by decide +kernel), List.mem_of_getElem? (i := 478) (by decide +kernel), List.mem_of_getElem? (i := 479) (by decide +kernel)⟩
theorem lw_p7 : lw_okq (⟨"TownRiverBeast$Reader", "step", "()V"⟩, 9) := ⟨⟨by decide +kernel, by decide +kernel⟩, List.mem_of_getElem? (i := 207) (by decide +kernel), List.mem_of_getElem? (i := 524) (by decide +kernel), List.mem_of_getElem? (i := 525) (by decide +kernel)⟩
theorem lw_p8 : lw_okq (⟨"TownRiverBeast$Reader", "readStatement", "(LTownRiverBeast$Evening;)Z"⟩, 9) := ⟨⟨by decide +kernel, by decide +kernel⟩, List.mem_of_getElem? (i := 207) (by decide +kernel), List.mem_of_getElem? (i := 532) (by decide +kernel), List.mem_of_getElem? (i := 533) (by decide +kernel)⟩
theorem lw_p9 : lw_okq (⟨"TownRiverBeast$Reader", "isNamed", "(Ljava/lang/String;)Z"⟩, 9) := ⟨⟨by decide +kernel, by decide +kernel⟩, List.mem_of_getElem? (i := 207) (by decide +kernel), List.mem_of_getElem? (i := 537) (by decide +kernel), List.mem_of_getElem? (i := 538) (by decide +kernel)⟩
theorem lw_p10 : lw_okq (⟨"TownRiverBeast$Reader", "readColumns", "(LTownRiverBeast$Evening;)Z"⟩, 9) := ⟨⟨by decide +kernel, by decide +kernel⟩, List.mem_of_getElem? (i := 207) (by decide +kernel), List.mem_of_getElem? (i := 589) (by decide +kernel), List.mem_of_getElem? (i := 590) (by decide +kernel)⟩
theorem lw_p11 : lw_okq (⟨"TownRiverBeast$Reader", "readNumber", "(II)Z"⟩, 9) := ⟨⟨by decide +kernel, by decide +kernel⟩, List.mem_of_getElem? (i := 207) (by decide +kernel), List.mem_of_getElem? (i := 593) (by decide +kernel), List.mem_of_getElem? (i := 594) (by decide +kernel)⟩
theorem lw_p12 : lw_okq (⟨"TownRiverBeast$Reader", "value", "()I"⟩, 9) := ⟨⟨by decide +kernel, by decide +kernel⟩, List.mem_of_getElem? (i := 207) (by decide +kernel), List.mem_of_getElem? (i := 597) (by decide +kernel), List.mem_of_getElem? (i := 598) (by decide +kernel)⟩
theorem lw_p13 : lw_okq (⟨"TownRiverBeast$Reader", "readWord", "(LTownRiverBeast$Evening;)Z"⟩, 9) := ⟨⟨by decide +kernel, by decide +kernel⟩, List.mem_of_getElem? (i := 207) (by decide +kernel), List.mem_of_getElem? (i := 603) (by decide +kernel), List.mem_of_getElem? (i := 604) (by decide +kernel)⟩
theorem lw_p14 : lw_okq (⟨"TownRiverBeast$Reader", "readPerson", "(LTownRiverBeast$Evening;)Z"⟩, 9) := ⟨⟨by decide +kernel, by decide +kernel⟩, List.mem_of_getElem? (i := 207) (by decide +kernel), List.mem_of_getElem? (i := 610) (by decide +kernel), List.mem_of_getElem? (i := 611) (by decide +kernel)⟩
theorem lw_p15 : lw_okq (⟨"TownRiverBeast$Reader", "readKnows", "(LTownRiverBeast$Evening;)Z"⟩, 9) := ⟨⟨by decide +kernel, by decide +kernel⟩, List.mem_of_getElem? (i := 207) (by decide +kernel), List.mem_of_getElem? (i := 616) (by decide +kernel), List.mem_of_getElem? (i := 617) (by decide +kernel)⟩
def lw_privs_1 : List (MethodName × Nat) := [(⟨"TownRiverBeast", "refuse", "(I)I"⟩, 10), (⟨"TownRiverBeast", "troubleOfRow", "(I)I"⟩, 10), (⟨"TownRiverBeast$Shelf", "lowestBits", "(J)J"⟩, 4), (⟨"TownRiverBeast", "troubleOfPair", "(II)I"⟩, 10), (⟨"TownRiverBeast", "wordTakenFor", "(II)I"⟩, 10), (⟨"TownRiverBeast", "troubleOfFitting", "(III)I"⟩, 10), (⟨"TownRiverBeast", "troubleOfTold", "(III)I"⟩, 10), (⟨"TownRiverBeast$Reader", "step", "()V"⟩, 9), (⟨"TownRiverBeast$Reader", "readStatement", "(LTownRiverBeast$Evening;)Z"⟩, 9), (⟨"TownRiverBeast$Reader", "isNamed", "(Ljava/lang/String;)Z"⟩, 9), (⟨"TownRiverBeast$Reader", "readColumns", "(LTownRiverBeast$Evening;)Z"⟩, 9), (⟨"TownRiverBeast$Reader", "readNumber", "(II)Z"⟩, 9), (⟨"TownRiverBeast$Reader", "value", "()I"⟩, 9), (⟨"TownRiverBeast$Reader", "readWord", "(LTownRiverBeast$Evening;)Z"⟩, 9), (⟨"TownRiverBeast$Reader", "readPerson", "(LTownRiverBeast$Evening;)Z"⟩, 9), (⟨"TownRiverBeast$Reader", "readKnows", "(LTownRiverBeast$Evening;)Z"⟩, 9)]
theorem lw_r1 : ∀ q ∈ lw_privs_1, lw_okq q := List.forall_mem_cons.mpr ⟨lw_p0, List.forall_mem_cons.mpr ⟨lw_p1, List.forall_mem_cons.mpr ⟨lw_p2, List.forall_mem_cons.mpr ⟨lw_p3, List.forall_mem_cons.mpr ⟨lw_p4, List.forall_mem_cons.mpr ⟨lw_p5, List.forall_mem_cons.mpr ⟨lw_p6, List.forall_mem_cons.mpr ⟨lw_p7, List.forall_mem_cons.mpr ⟨lw_p8, List.forall_mem_cons.mpr ⟨lw_p9, List.forall_mem_cons.mpr ⟨lw_p10, List.forall_mem_cons.mpr ⟨lw_p11, List.forall_mem_cons.mpr ⟨lw_p12, List.forall_mem_cons.mpr ⟨lw_p13, List.forall_mem_cons.mpr ⟨lw_p14, List.forall_mem_cons.mpr ⟨lw_p15, fun _ h => absurd h List.not_mem_nil⟩⟩⟩⟩⟩⟩⟩⟩⟩⟩⟩⟩⟩⟩⟩⟩
theorem lw_p16 : lw_okq (⟨"TownRiverBeast$Reader", "readAsked", "(LTownRiverBeast$Evening;II)Z"⟩, 9) := ⟨⟨by decide +kernel, by decide +kernel⟩, List.mem_of_getElem? (i := 207) (by decide +kernel), List.mem_of_getElem? (i := 621) (by decide +kernel), List.mem_of_getElem? (i := 622) (by decide +kernel)⟩
theorem lw_p17 : lw_okq (⟨"TownRiverBeast$Reader", "readSheet", "(LTownRiverBeast$Evening;)Z"⟩, 9) := ⟨⟨by decide +kernel, by decide +kernel⟩, List.mem_of_getElem? (i := 207) (by decide +kernel), List.mem_of_getElem? (i := 631) (by decide +kernel), List.mem_of_getElem? (i := 632) (by decide +kernel)⟩
theorem lw_p18 : lw_okq (⟨"TownRiverBeast$Outcome", "keep", "(LTownRiverBeast$Evening;II)V"⟩, 4) := ⟨⟨by decide +kernel, by decide +kernel⟩, List.mem_of_getElem? (i := 121) (by decide +kernel), List.mem_of_getElem? (i := 668) (by decide +kernel), List.mem_of_getElem? (i := 669) (by decide +kernel)⟩
theorem lw_p19 : lw_okq (⟨"TownRiverBeast$Outcome", "worth", "(LTownRiverBeast$Evening;I)I"⟩, 4) := ⟨⟨by decide +kernel, by decide +kernel⟩, List.mem_of_getElem? (i := 121) (by decide +kernel), List.mem_of_getElem? (i := 697) (by decide +kernel), List.mem_of_getElem? (i := 698) (by decide +kernel)⟩
theorem lw_p20 : lw_okq (⟨"TownRiverBeast$BestSheet", "lineUp", "(LTownRiverBeast$Evening;I)V"⟩, 18) := ⟨⟨by decide +kernel, by decide +kernel⟩, List.mem_of_getElem? (i := 143) (by decide +kernel), List.mem_of_getElem? (i := 727) (by decide +kernel), List.mem_of_getElem? (i := 728) (by decide +kernel)⟩
theorem lw_p21 : lw_okq (⟨"TownRiverBeast$BestSheet", "watchOthers", "(LTownRiverBeast$Evening;I)V"⟩, 18) := ⟨⟨by decide +kernel, by decide +kernel⟩, List.mem_of_getElem? (i := 143) (by decide +kernel), List.mem_of_getElem? (i := 734) (by decide +kernel), List.mem_of_getElem? (i := 735) (by decide +kernel)⟩
theorem lw_p22 : lw_okq (⟨"TownRiverBeast$BestSheet", "watch", "(LTownRiverBeast$Evening;I)V"⟩, 18) := ⟨⟨by decide +kernel, by decide +kernel⟩, List.mem_of_getElem? (i := 143) (by decide +kernel), List.mem_of_getElem? (i := 742) (by decide +kernel), List.mem_of_getElem? (i := 743) (by decide +kernel)⟩
theorem lw_p23 : lw_okq (⟨"TownRiverBeast$BestSheet", "weigh", "(III)V"⟩, 18) := ⟨⟨by decide +kernel, by decide +kernel⟩, List.mem_of_getElem? (i := 143) (by decide +kernel), List.mem_of_getElem? (i := 749) (by decide +kernel), List.mem_of_getElem? (i := 750) (by decide +kernel)⟩
theorem lw_p24 : lw_okq (⟨"TownRiverBeast$BestSheet", "pointsAt", "(II)I"⟩, 18) := ⟨⟨by decide +kernel, by decide +kernel⟩, List.mem_of_getElem? (i := 143) (by decide +kernel), List.mem_of_getElem? (i := 753) (by decide +kernel), List.mem_of_getElem? (i := 754) (by decide +kernel)⟩
theorem lw_p25 : lw_okq (⟨"TownRiverBeast", "findOrder", "(I)I"⟩, 10) := ⟨⟨by decide +kernel, by decide +kernel⟩, List.mem_of_getElem? (i := 16) (by decide +kernel), List.mem_of_getElem? (i := 761) (by decide +kernel), List.mem_of_getElem? (i := 762) (by decide +kernel)⟩
theorem lw_p26 : lw_okq (⟨"TownRiverBeast", "pointsInThought", "(I)I"⟩, 10) := ⟨⟨by decide +kernel, by decide +kernel⟩, List.mem_of_getElem? (i := 16) (by decide +kernel), List.mem_of_getElem? (i := 771) (by decide +kernel), List.mem_of_getElem? (i := 772) (by decide +kernel)⟩
theorem lw_p27 : lw_okq (⟨"TownRiverBeast", "leadInThought", "(I)I"⟩, 10) := ⟨⟨by decide +kernel, by decide +kernel⟩, List.mem_of_getElem? (i := 16) (by decide +kernel), List.mem_of_getElem? (i := 849) (by decide +kernel), List.mem_of_getElem? (i := 850) (by decide +kernel)⟩
theorem lw_p28 : lw_okq (⟨"TownRiverBeast", "putBestSheet", "(I)I"⟩, 10) := ⟨⟨by decide +kernel, by decide +kernel⟩, List.mem_of_getElem? (i := 16) (by decide +kernel), List.mem_of_getElem? (i := 874) (by decide +kernel), List.mem_of_getElem? (i := 875) (by decide +kernel)⟩
theorem lw_p29 : lw_okq (⟨"TownRiverBeast", "endRound", "()I"⟩, 10) := ⟨⟨by decide +kernel, by decide +kernel⟩, List.mem_of_getElem? (i := 16) (by decide +kernel), List.mem_of_getElem? (i := 886) (by decide +kernel), List.mem_of_getElem? (i := 887) (by decide +kernel)⟩
theorem lw_p30 : lw_okq (⟨"TownRiverBeast", "shelvesInUse", "()I"⟩, 10) := ⟨⟨by decide +kernel, by decide +kernel⟩, List.mem_of_getElem? (i := 16) (by decide +kernel), List.mem_of_getElem? (i := 927) (by decide +kernel), List.mem_of_getElem? (i := 928) (by decide +kernel)⟩
theorem lw_p31 : lw_okq (⟨"TownRiverBeastModel", "refuse", "(I)I"⟩, 41) := ⟨⟨by decide +kernel, by decide +kernel⟩, List.mem_of_getElem? (i := 931) (by decide +kernel), List.mem_of_getElem? (i := 1074) (by decide +kernel), List.mem_of_getElem? (i := 1075) (by decide +kernel)⟩
def lw_privs_2 : List (MethodName × Nat) := [(⟨"TownRiverBeast$Reader", "readAsked", "(LTownRiverBeast$Evening;II)Z"⟩, 9), (⟨"TownRiverBeast$Reader", "readSheet", "(LTownRiverBeast$Evening;)Z"⟩, 9), (⟨"TownRiverBeast$Outcome", "keep", "(LTownRiverBeast$Evening;II)V"⟩, 4), (⟨"TownRiverBeast$Outcome", "worth", "(LTownRiverBeast$Evening;I)I"⟩, 4), (⟨"TownRiverBeast$BestSheet", "lineUp", "(LTownRiverBeast$Evening;I)V"⟩, 18), (⟨"TownRiverBeast$BestSheet", "watchOthers", "(LTownRiverBeast$Evening;I)V"⟩, 18), (⟨"TownRiverBeast$BestSheet", "watch", "(LTownRiverBeast$Evening;I)V"⟩, 18), (⟨"TownRiverBeast$BestSheet", "weigh", "(III)V"⟩, 18), (⟨"TownRiverBeast$BestSheet", "pointsAt", "(II)I"⟩, 18), (⟨"TownRiverBeast", "findOrder", "(I)I"⟩, 10), (⟨"TownRiverBeast", "pointsInThought", "(I)I"⟩, 10), (⟨"TownRiverBeast", "leadInThought", "(I)I"⟩, 10), (⟨"TownRiverBeast", "putBestSheet", "(I)I"⟩, 10), (⟨"TownRiverBeast", "endRound", "()I"⟩, 10), (⟨"TownRiverBeast", "shelvesInUse", "()I"⟩, 10), (⟨"TownRiverBeastModel", "refuse", "(I)I"⟩, 41)]
theorem lw_r2 : ∀ q ∈ lw_privs_2, lw_okq q := List.forall_mem_cons.mpr ⟨lw_p16, List.forall_mem_cons.mpr ⟨lw_p17, List.forall_mem_cons.mpr ⟨lw_p18, List.forall_mem_cons.mpr ⟨lw_p19, List.forall_mem_cons.mpr ⟨lw_p20, List.forall_mem_cons.mpr ⟨lw_p21, List.forall_mem_cons.mpr ⟨lw_p22, List.forall_mem_cons.mpr ⟨lw_p23, List.forall_mem_cons.mpr ⟨lw_p24, List.forall_mem_cons.mpr ⟨lw_p25, List.forall_mem_cons.mpr ⟨lw_p26, List.forall_mem_cons.mpr ⟨lw_p27, List.forall_mem_cons.mpr ⟨lw_p28, List.forall_mem_cons.mpr ⟨lw_p29, List.forall_mem_cons.mpr ⟨lw_p30, List.forall_mem_cons.mpr ⟨lw_p31, fun _ h => absurd h List.not_mem_nil⟩⟩⟩⟩⟩⟩⟩⟩⟩⟩⟩⟩⟩⟩⟩⟩
theorem lw_p32 : lw_okq (⟨"TownRiverBeastModel", "noRow", "(I)I"⟩, 41) := ⟨⟨by decide +kernel, by decide +kernel⟩, List.mem_of_getElem? (i := 931) (by decide +kernel), List.mem_of_getElem? (i := 1082) (by decide +kernel), List.mem_of_getElem? (i := 1083) (by decide +kernel)⟩
theorem lw_p33 : lw_okq (⟨"TownRiverBeastModel", "isWord", "(I)Z"⟩, 41) := ⟨⟨by decide +kernel, by decide +kernel⟩, List.mem_of_getElem? (i := 931) (by decide +kernel), List.mem_of_getElem? (i := 1105) (by decide +kernel), List.mem_of_getElem? (i := 1106) (by decide +kernel)⟩
theorem lw_p34 : lw_okq (⟨"TownRiverBeastModel", "takesOf", "(I)I"⟩, 41) := ⟨⟨by decide +kernel, by decide +kernel⟩, List.mem_of_getElem? (i := 931) (by decide +kernel), List.mem_of_getElem? (i := 1117) (by decide +kernel), List.mem_of_getElem? (i := 1118) (by decide +kernel)⟩
theorem lw_p35 : lw_okq (⟨"TownRiverBeastModel", "sheetsWith", "(I)I"⟩, 41) := ⟨⟨by decide +kernel, by decide +kernel⟩, List.mem_of_getElem? (i := 931) (by decide +kernel), List.mem_of_getElem? (i := 1121) (by decide +kernel), List.mem_of_getElem? (i := 1122) (by decide +kernel)⟩
theorem lw_p36 : lw_okq (⟨"TownRiverBeastModel", "addWord", "(IIIII)V"⟩, 41) := ⟨⟨by decide +kernel, by decide +kernel⟩, List.mem_of_getElem? (i := 931) (by decide +kernel), List.mem_of_getElem? (i := 1139) (by decide +kernel), List.mem_of_getElem? (i := 1140) (by decide +kernel)⟩
theorem lw_p37 : lw_okq (⟨"TownRiverBeastModel", "addPerson", "()V"⟩, 41) := ⟨⟨by decide +kernel, by decide +kernel⟩, List.mem_of_getElem? (i := 931) (by decide +kernel), List.mem_of_getElem? (i := 1147) (by decide +kernel), List.mem_of_getElem? (i := 1148) (by decide +kernel)⟩
theorem lw_p38 : lw_okq (⟨"TownRiverBeastModel", "isPerson", "(I)Z"⟩, 41) := ⟨⟨by decide +kernel, by decide +kernel⟩, List.mem_of_getElem? (i := 931) (by decide +kernel), List.mem_of_getElem? (i := 1155) (by decide +kernel), List.mem_of_getElem? (i := 1156) (by decide +kernel)⟩
theorem lw_p39 : lw_okq (⟨"TownRiverBeastModel", "noSheet", "(III)I"⟩, 41) := ⟨⟨by decide +kernel, by decide +kernel⟩, List.mem_of_getElem? (i := 931) (by decide +kernel), List.mem_of_getElem? (i := 1173) (by decide +kernel), List.mem_of_getElem? (i := 1174) (by decide +kernel)⟩
theorem lw_p40 : lw_okq (⟨"TownRiverBeastModel", "wrongIn", "(I[JI)I"⟩, 41) := ⟨⟨by decide +kernel, by decide +kernel⟩, List.mem_of_getElem? (i := 931) (by decide +kernel), List.mem_of_getElem? (i := 1177) (by decide +kernel), List.mem_of_getElem? (i := 1178) (by decide +kernel)⟩
theorem lw_p41 : lw_okq (⟨"TownRiverBeastModel", "mayFollow", "(I[JI)Z"⟩, 41) := ⟨⟨by decide +kernel, by decide +kernel⟩, List.mem_of_getElem? (i := 931) (by decide +kernel), List.mem_of_getElem? (i := 1181) (by decide +kernel), List.mem_of_getElem? (i := 1182) (by decide +kernel)⟩
theorem lw_p42 : lw_okq (⟨"TownRiverBeastModel", "mayBe", "(II)Z"⟩, 41) := ⟨⟨by decide +kernel, by decide +kernel⟩, List.mem_of_getElem? (i := 931) (by decide +kernel), List.mem_of_getElem? (i := 1185) (by decide +kernel), List.mem_of_getElem? (i := 1186) (by decide +kernel)⟩
theorem lw_p43 : lw_okq (⟨"TownRiverBeastModel", "fresh", "()LTownRiverBeastModel;"⟩, 41) := ⟨⟨by decide +kernel, by decide +kernel⟩, List.mem_of_getElem? (i := 931) (by decide +kernel), List.mem_of_getElem? (i := 1210) (by decide +kernel), List.mem_of_getElem? (i := 1211) (by decide +kernel)⟩
theorem lw_p44 : lw_okq (⟨"TownRiverBeastModel", "takeFrom", "(LTownRiverBeastModel;)V"⟩, 41) := ⟨⟨by decide +kernel, by decide +kernel⟩, List.mem_of_getElem? (i := 931) (by decide +kernel), List.mem_of_getElem? (i := 1216) (by decide +kernel), List.mem_of_getElem? (i := 1217) (by decide +kernel)⟩
theorem lw_p45 : lw_okq (⟨"TownRiverBeastModel", "readAll", "()Z"⟩, 41) := ⟨⟨by decide +kernel, by decide +kernel⟩, List.mem_of_getElem? (i := 931) (by decide +kernel), List.mem_of_getElem? (i := 1223) (by decide +kernel), List.mem_of_getElem? (i := 1224) (by decide +kernel)⟩
theorem lw_p46 : lw_okq (⟨"TownRiverBeastModel", "look", "()V"⟩, 41) := ⟨⟨by decide +kernel, by decide +kernel⟩, List.mem_of_getElem? (i := 931) (by decide +kernel), List.mem_of_getElem? (i := 1227) (by decide +kernel), List.mem_of_getElem? (i := 1228) (by decide +kernel)⟩
theorem lw_p47 : lw_okq (⟨"TownRiverBeastModel", "statement", "()Z"⟩, 41) := ⟨⟨by decide +kernel, by decide +kernel⟩, List.mem_of_getElem? (i := 931) (by decide +kernel), List.mem_of_getElem? (i := 1237) (by decide +kernel), List.mem_of_getElem? (i := 1238) (by decide +kernel)⟩
def lw_privs_3 : List (MethodName × Nat) := [(⟨"TownRiverBeastModel", "noRow", "(I)I"⟩, 41), (⟨"TownRiverBeastModel", "isWord", "(I)Z"⟩, 41), (⟨"TownRiverBeastModel", "takesOf", "(I)I"⟩, 41), (⟨"TownRiverBeastModel", "sheetsWith", "(I)I"⟩, 41), (⟨"TownRiverBeastModel", "addWord", "(IIIII)V"⟩, 41), (⟨"TownRiverBeastModel", "addPerson", "()V"⟩, 41), (⟨"TownRiverBeastModel", "isPerson", "(I)Z"⟩, 41), (⟨"TownRiverBeastModel", "noSheet", "(III)I"⟩, 41), (⟨"TownRiverBeastModel", "wrongIn", "(I[JI)I"⟩, 41), (⟨"TownRiverBeastModel", "mayFollow", "(I[JI)Z"⟩, 41), (⟨"TownRiverBeastModel", "mayBe", "(II)Z"⟩, 41), (⟨"TownRiverBeastModel", "fresh", "()LTownRiverBeastModel;"⟩, 41), (⟨"TownRiverBeastModel", "takeFrom", "(LTownRiverBeastModel;)V"⟩, 41), (⟨"TownRiverBeastModel", "readAll", "()Z"⟩, 41), (⟨"TownRiverBeastModel", "look", "()V"⟩, 41), (⟨"TownRiverBeastModel", "statement", "()Z"⟩, 41)]
theorem lw_r3 : ∀ q ∈ lw_privs_3, lw_okq q := List.forall_mem_cons.mpr ⟨lw_p32, List.forall_mem_cons.mpr ⟨lw_p33, List.forall_mem_cons.mpr ⟨lw_p34, List.forall_mem_cons.mpr ⟨lw_p35, List.forall_mem_cons.mpr ⟨lw_p36, List.forall_mem_cons.mpr ⟨lw_p37, List.forall_mem_cons.mpr ⟨lw_p38, List.forall_mem_cons.mpr ⟨lw_p39, List.forall_mem_cons.mpr ⟨lw_p40, List.forall_mem_cons.mpr ⟨lw_p41, List.forall_mem_cons.mpr ⟨lw_p42, List.forall_mem_cons.mpr ⟨lw_p43, List.forall_mem_cons.mpr ⟨lw_p44, List.forall_mem_cons.mpr ⟨lw_p45, List.forall_mem_cons.mpr ⟨lw_p46, List.forall_mem_cons.mpr ⟨lw_p47, fun _ h => absurd h List.not_mem_nil⟩⟩⟩⟩⟩⟩⟩⟩⟩⟩⟩⟩⟩⟩⟩⟩
theorem lw_p48 : lw_okq (⟨"TownRiverBeastModel", "isTold", "(Ljava/lang/String;)Z"⟩, 41) := ⟨⟨by decide +kernel, by decide +kernel⟩, List.mem_of_getElem? (i := 931) (by decide +kernel), List.mem_of_getElem? (i := 1242) (by decide +kernel), List.mem_of_getElem? (i := 1243) (by decide +kernel)⟩
theorem lw_p49 : lw_okq (⟨"TownRiverBeastModel", "tells", "(II)Z"⟩, 41) := ⟨⟨by decide +kernel, by decide +kernel⟩, List.mem_of_getElem? (i := 931) (by decide +kernel), List.mem_of_getElem? (i := 1248) (by decide +kernel), List.mem_of_getElem? (i := 1249) (by decide +kernel)⟩
theorem lw_p50 : lw_okq (⟨"TownRiverBeastModel", "number", "(III)Z"⟩, 41) := ⟨⟨by decide +kernel, by decide +kernel⟩, List.mem_of_getElem? (i := 931) (by decide +kernel), List.mem_of_getElem? (i := 1252) (by decide +kernel), List.mem_of_getElem? (i := 1253) (by decide +kernel)⟩
theorem lw_p51 : lw_okq (⟨"TownRiverBeastModel", "wrong", "()Z"⟩, 41) := ⟨⟨by decide +kernel, by decide +kernel⟩, List.mem_of_getElem? (i := 931) (by decide +kernel), List.mem_of_getElem? (i := 1256) (by decide +kernel), List.mem_of_getElem? (i := 1257) (by decide +kernel)⟩
theorem lw_p52 : lw_okq (⟨"TownRiverBeastModel", "asks", "(I)Z"⟩, 41) := ⟨⟨by decide +kernel, by decide +kernel⟩, List.mem_of_getElem? (i := 931) (by decide +kernel), List.mem_of_getElem? (i := 1264) (by decide +kernel), List.mem_of_getElem? (i := 1265) (by decide +kernel)⟩
theorem lw_p53 : lw_okq (⟨"TownRiverBeastModel", "asksHere", "(I)Z"⟩, 41) := ⟨⟨by decide +kernel, by decide +kernel⟩, List.mem_of_getElem? (i := 931) (by decide +kernel), List.mem_of_getElem? (i := 1268) (by decide +kernel), List.mem_of_getElem? (i := 1269) (by decide +kernel)⟩
theorem lw_p54 : lw_okq (⟨"TownRiverBeastModel", "sheetTold", "()Z"⟩, 41) := ⟨⟨by decide +kernel, by decide +kernel⟩, List.mem_of_getElem? (i := 931) (by decide +kernel), List.mem_of_getElem? (i := 1276) (by decide +kernel), List.mem_of_getElem? (i := 1277) (by decide +kernel)⟩
theorem lw_p55 : lw_okq (⟨"TownRiverBeastModel", "callNow", "()I"⟩, 41) := ⟨⟨by decide +kernel, by decide +kernel⟩, List.mem_of_getElem? (i := 931) (by decide +kernel), List.mem_of_getElem? (i := 1296) (by decide +kernel), List.mem_of_getElem? (i := 1297) (by decide +kernel)⟩
theorem lw_p56 : lw_okq (⟨"TownRiverBeastModel", "hasBy", "(II)I"⟩, 41) := ⟨⟨by decide +kernel, by decide +kernel⟩, List.mem_of_getElem? (i := 931) (by decide +kernel), List.mem_of_getElem? (i := 1300) (by decide +kernel), List.mem_of_getElem? (i := 1301) (by decide +kernel)⟩
theorem lw_p57 : lw_okq (⟨"TownRiverBeastModel", "callerNow", "()I"⟩, 41) := ⟨⟨by decide +kernel, by decide +kernel⟩, List.mem_of_getElem? (i := 931) (by decide +kernel), List.mem_of_getElem? (i := 1308) (by decide +kernel), List.mem_of_getElem? (i := 1309) (by decide +kernel)⟩
theorem lw_p58 : lw_okq (⟨"TownRiverBeastModel", "writtenBy", "(II)I"⟩, 41) := ⟨⟨by decide +kernel, by decide +kernel⟩, List.mem_of_getElem? (i := 931) (by decide +kernel), List.mem_of_getElem? (i := 1316) (by decide +kernel), List.mem_of_getElem? (i := 1317) (by decide +kernel)⟩
theorem lw_p59 : lw_okq (⟨"TownRiverBeastModel", "keptOf", "(I)I"⟩, 41) := ⟨⟨by decide +kernel, by decide +kernel⟩, List.mem_of_getElem? (i := 931) (by decide +kernel), List.mem_of_getElem? (i := 1324) (by decide +kernel), List.mem_of_getElem? (i := 1325) (by decide +kernel)⟩
theorem lw_p60 : lw_okq (⟨"TownRiverBeastModel", "findKept", "()V"⟩, 41) := ⟨⟨by decide +kernel, by decide +kernel⟩, List.mem_of_getElem? (i := 931) (by decide +kernel), List.mem_of_getElem? (i := 1333) (by decide +kernel), List.mem_of_getElem? (i := 1334) (by decide +kernel)⟩
theorem lw_p61 : lw_okq (⟨"TownRiverBeastModel", "pointsOf", "(I)I"⟩, 41) := ⟨⟨by decide +kernel, by decide +kernel⟩, List.mem_of_getElem? (i := 931) (by decide +kernel), List.mem_of_getElem? (i := 1337) (by decide +kernel), List.mem_of_getElem? (i := 1338) (by decide +kernel)⟩
theorem lw_p62 : lw_okq (⟨"TownRiverBeastModel", "pointsAt", "(II)I"⟩, 41) := ⟨⟨by decide +kernel, by decide +kernel⟩, List.mem_of_getElem? (i := 931) (by decide +kernel), List.mem_of_getElem? (i := 1341) (by decide +kernel), List.mem_of_getElem? (i := 1342) (by decide +kernel)⟩
theorem lw_p63 : lw_okq (⟨"TownRiverBeastModel", "columnOf", "(II)I"⟩, 41) := ⟨⟨by decide +kernel, by decide +kernel⟩, List.mem_of_getElem? (i := 931) (by decide +kernel), List.mem_of_getElem? (i := 1345) (by decide +kernel), List.mem_of_getElem? (i := 1346) (by decide +kernel)⟩
def lw_privs_4 : List (MethodName × Nat) := [(⟨"TownRiverBeastModel", "isTold", "(Ljava/lang/String;)Z"⟩, 41), (⟨"TownRiverBeastModel", "tells", "(II)Z"⟩, 41), (⟨"TownRiverBeastModel", "number", "(III)Z"⟩, 41), (⟨"TownRiverBeastModel", "wrong", "()Z"⟩, 41), (⟨"TownRiverBeastModel", "asks", "(I)Z"⟩, 41), (⟨"TownRiverBeastModel", "asksHere", "(I)Z"⟩, 41), (⟨"TownRiverBeastModel", "sheetTold", "()Z"⟩, 41), (⟨"TownRiverBeastModel", "callNow", "()I"⟩, 41), (⟨"TownRiverBeastModel", "hasBy", "(II)I"⟩, 41), (⟨"TownRiverBeastModel", "callerNow", "()I"⟩, 41), (⟨"TownRiverBeastModel", "writtenBy", "(II)I"⟩, 41), (⟨"TownRiverBeastModel", "keptOf", "(I)I"⟩, 41), (⟨"TownRiverBeastModel", "findKept", "()V"⟩, 41), (⟨"TownRiverBeastModel", "pointsOf", "(I)I"⟩, 41), (⟨"TownRiverBeastModel", "pointsAt", "(II)I"⟩, 41), (⟨"TownRiverBeastModel", "columnOf", "(II)I"⟩, 41)]
theorem lw_r4 : ∀ q ∈ lw_privs_4, lw_okq q := List.forall_mem_cons.mpr ⟨lw_p48, List.forall_mem_cons.mpr ⟨lw_p49, List.forall_mem_cons.mpr ⟨lw_p50, List.forall_mem_cons.mpr ⟨lw_p51, List.forall_mem_cons.mpr ⟨lw_p52, List.forall_mem_cons.mpr ⟨lw_p53, List.forall_mem_cons.mpr ⟨lw_p54, List.forall_mem_cons.mpr ⟨lw_p55, List.forall_mem_cons.mpr ⟨lw_p56, List.forall_mem_cons.mpr ⟨lw_p57, List.forall_mem_cons.mpr ⟨lw_p58, List.forall_mem_cons.mpr ⟨lw_p59, List.forall_mem_cons.mpr ⟨lw_p60, List.forall_mem_cons.mpr ⟨lw_p61, List.forall_mem_cons.mpr ⟨lw_p62, List.forall_mem_cons.mpr ⟨lw_p63, fun _ h => absurd h List.not_mem_nil⟩⟩⟩⟩⟩⟩⟩⟩⟩⟩⟩⟩⟩⟩⟩⟩
theorem lw_p64 : lw_okq (⟨"TownRiverBeastModel", "mostBut", "(I)I"⟩, 41) := ⟨⟨by decide +kernel, by decide +kernel⟩, List.mem_of_getElem? (i := 931) (by decide +kernel), List.mem_of_getElem? (i := 1353) (by decide +kernel), List.mem_of_getElem? (i := 1354) (by decide +kernel)⟩
theorem lw_p65 : lw_okq (⟨"TownRiverBeastModel", "findBest", "(I)V"⟩, 41) := ⟨⟨by decide +kernel, by decide +kernel⟩, List.mem_of_getElem? (i := 931) (by decide +kernel), List.mem_of_getElem? (i := 1386) (by decide +kernel), List.mem_of_getElem? (i := 1387) (by decide +kernel)⟩
theorem lw_p66 : lw_okq (⟨"TownRiverBeastModel", "seekBest", "(III)V"⟩, 41) := ⟨⟨by decide +kernel, by decide +kernel⟩, List.mem_of_getElem? (i := 931) (by decide +kernel), List.mem_of_getElem? (i := 1390) (by decide +kernel), List.mem_of_getElem? (i := 1391) (by decide +kernel)⟩
theorem lw_p67 : lw_okq (⟨"TownRiverBeastModel", "tries", "(II)V"⟩, 41) := ⟨⟨by decide +kernel, by decide +kernel⟩, List.mem_of_getElem? (i := 931) (by decide +kernel), List.mem_of_getElem? (i := 1394) (by decide +kernel), List.mem_of_getElem? (i := 1395) (by decide +kernel)⟩
theorem lw_p68 : lw_okq (⟨"TownRiverBeastModel", "writes", "(II)V"⟩, 41) := ⟨⟨by decide +kernel, by decide +kernel⟩, List.mem_of_getElem? (i := 931) (by decide +kernel), List.mem_of_getElem? (i := 1398) (by decide +kernel), List.mem_of_getElem? (i := 1399) (by decide +kernel)⟩
theorem lw_p69 : lw_okq (⟨"TownRiverBeastModel", "pointsNow", "(I)I"⟩, 41) := ⟨⟨by decide +kernel, by decide +kernel⟩, List.mem_of_getElem? (i := 931) (by decide +kernel), List.mem_of_getElem? (i := 1402) (by decide +kernel), List.mem_of_getElem? (i := 1403) (by decide +kernel)⟩
theorem lw_p70 : lw_okq (⟨"TownRiverBeastModel", "seekOrder", "(LTownRiverBeastModel;III)V"⟩, 41) := ⟨⟨by decide +kernel, by decide +kernel⟩, List.mem_of_getElem? (i := 931) (by decide +kernel), List.mem_of_getElem? (i := 1418) (by decide +kernel), List.mem_of_getElem? (i := 1419) (by decide +kernel)⟩
theorem lw_p71 : lw_okq (⟨"TownRiverBeastModel", "fillsOf", "(II)I"⟩, 41) := ⟨⟨by decide +kernel, by decide +kernel⟩, List.mem_of_getElem? (i := 931) (by decide +kernel), List.mem_of_getElem? (i := 1430) (by decide +kernel), List.mem_of_getElem? (i := 1431) (by decide +kernel)⟩
theorem lw_p72 : lw_okq (⟨"TownRiverBeastModel", "goesRound", "()I"⟩, 41) := ⟨⟨by decide +kernel, by decide +kernel⟩, List.mem_of_getElem? (i := 931) (by decide +kernel), List.mem_of_getElem? (i := 1460) (by decide +kernel), List.mem_of_getElem? (i := 1461) (by decide +kernel)⟩
theorem lw_p73 : lw_okq (⟨"TownRiverBeastModel", "below", "(I)I"⟩, 41) := ⟨⟨by decide +kernel, by decide +kernel⟩, List.mem_of_getElem? (i := 931) (by decide +kernel), List.mem_of_getElem? (i := 1468) (by decide +kernel), List.mem_of_getElem? (i := 1469) (by decide +kernel)⟩
theorem lw_p74 : lw_okq (⟨"TownRiverBeastModel", "usedMany", "()I"⟩, 41) := ⟨⟨by decide +kernel, by decide +kernel⟩, List.mem_of_getElem? (i := 931) (by decide +kernel), List.mem_of_getElem? (i := 1477) (by decide +kernel), List.mem_of_getElem? (i := 1478) (by decide +kernel)⟩
def lw_privs_5 : List (MethodName × Nat) := [(⟨"TownRiverBeastModel", "mostBut", "(I)I"⟩, 41), (⟨"TownRiverBeastModel", "findBest", "(I)V"⟩, 41), (⟨"TownRiverBeastModel", "seekBest", "(III)V"⟩, 41), (⟨"TownRiverBeastModel", "tries", "(II)V"⟩, 41), (⟨"TownRiverBeastModel", "writes", "(II)V"⟩, 41), (⟨"TownRiverBeastModel", "pointsNow", "(I)I"⟩, 41), (⟨"TownRiverBeastModel", "seekOrder", "(LTownRiverBeastModel;III)V"⟩, 41), (⟨"TownRiverBeastModel", "fillsOf", "(II)I"⟩, 41), (⟨"TownRiverBeastModel", "goesRound", "()I"⟩, 41), (⟨"TownRiverBeastModel", "below", "(I)I"⟩, 41), (⟨"TownRiverBeastModel", "usedMany", "()I"⟩, 41)]
theorem lw_r5 : ∀ q ∈ lw_privs_5, lw_okq q := List.forall_mem_cons.mpr ⟨lw_p64, List.forall_mem_cons.mpr ⟨lw_p65, List.forall_mem_cons.mpr ⟨lw_p66, List.forall_mem_cons.mpr ⟨lw_p67, List.forall_mem_cons.mpr ⟨lw_p68, List.forall_mem_cons.mpr ⟨lw_p69, List.forall_mem_cons.mpr ⟨lw_p70, List.forall_mem_cons.mpr ⟨lw_p71, List.forall_mem_cons.mpr ⟨lw_p72, List.forall_mem_cons.mpr ⟨lw_p73, List.forall_mem_cons.mpr ⟨lw_p74, fun _ h => absurd h List.not_mem_nil⟩⟩⟩⟩⟩⟩⟩⟩⟩⟩⟩
def lw_privs : List (MethodName × Nat) := lw_privs_1 ++ (lw_privs_2 ++ (lw_privs_3 ++ (lw_privs_4 ++ (lw_privs_5))))
def lw_tbl : List Cond := k2_sels lw_privs ++ tables_1
theorem lw_privs_ok : ∀ q ∈ lw_privs, lw_okq q := by
  show ∀ q ∈ lw_privs_1 ++ (lw_privs_2 ++ (lw_privs_3 ++ (lw_privs_4 ++ (lw_privs_5)))), lw_okq q
  exact List.forall_mem_append.mpr ⟨lw_r1, List.forall_mem_append.mpr ⟨lw_r2, List.forall_mem_append.mpr ⟨lw_r3, List.forall_mem_append.mpr ⟨lw_r4, lw_r5⟩⟩⟩⟩
-- ===== end of PART A; then your names; then what follows =====
end
section
/-! ===== BEGIN words of one list among another's, by their places ===== -/
theorem goodIn_r {big : List Cond} (ws : List Cond) (ps : List Nat) (hp : ws = ps.filterMap (fun i => big[i]?)) (h : ws.all goodWord = true) : GoodIn big ws := by
  intro w hw
  have h1 := List.all_eq_true.mp h w hw
  rw [hp] at hw
  obtain ⟨i, -, hi⟩ := List.mem_filterMap.mp hw
  have hm : w ∈ big := by first | exact List.mem_of_getElem? hi | exact List.getElem?_mem hi
  exact ⟨hm, good_of_word h1⟩
theorem goodIn_app {big a b : List Cond} (ha : GoodIn big a) (hb : GoodIn big b) : GoodIn big (a ++ b) := fun w h => (List.mem_append.mp h).elim (ha w) (hb w)
theorem goodIn_ca {big a b : List Cond} {c : Cond} (ha : GoodIn big (c :: a)) (hb : GoodIn big b) : GoodIn big (c :: (a ++ b)) := fun w h => (List.mem_cons.mp h).elim (fun e => ha w (List.mem_cons.mpr (Or.inl e))) (fun h => (List.mem_append.mp h).elim (fun h => ha w (List.mem_cons.mpr (Or.inr h))) (hb w))
theorem goodIn_sub {big ws : List Cond} (hm : ∀ w ∈ ws, w ∈ big) (h : ws.all goodWord = true) : GoodIn big ws := fun w hw => ⟨hm w hw, good_of_word (List.all_eq_true.mp h w hw)⟩
/-! ===== END ===== -/
/-! ===== BEGIN printed: names, fields, word lists, decode rows ===== -/
def RX0 : String := "TownRiverBeast$BestSheet"
def TX0 : u_T := fun k => match k with
  | 0 => ("TownRiverBeast$BestSheet", "points", "I", false)
  | 1 => ("TownRiverBeast$BestSheet", "bits", "I", false)
  | 2 => ("TownRiverBeast$BestSheet", "callSecond", "I", false)
  | 3 => ("TownRiverBeast$BestSheet", "need", "I", false)
  | 4 => ("TownRiverBeast$BestSheet", "limit", "I", false)
  | 5 => ("TownRiverBeast$BestSheet", "alone", "I", false)
  | 6 => ("TownRiverBeast$BestSheet", "own", "I", false)
  | 7 => ("TownRiverBeast$BestSheet", "alike", "I", false)
  | 8 => ("TownRiverBeast$BestSheet", "count", "I", false)
  | 9 => ("TownRiverBeast$BestSheet", "line", "[I", true)
  | 10 => ("TownRiverBeast$BestSheet", "costs", "[I", true)
  | 11 => ("TownRiverBeast$BestSheet", "columnBits", "[I", true)
  | 12 => ("TownRiverBeast$BestSheet", "counts", "[Z", true)
  | 13 => ("TownRiverBeast$BestSheet", "chosen", "[I", true)
  | 14 => ("TownRiverBeast$BestSheet", "othersCount", "I", false)
  | 15 => ("TownRiverBeast$BestSheet", "othersWords", "[I", true)
  | 16 => ("TownRiverBeast$BestSheet", "othersColumns", "[I", true)
  | _ => ("TownRiverBeast$BestSheet", "othersSeconds", "[I", true)
def tyX0 : Nat → FieldType := fun k => match k with
  | 0 => .int
  | 1 => .int
  | 2 => .int
  | 3 => .int
  | 4 => .int
  | 5 => .int
  | 6 => .int
  | 7 => .int
  | 8 => .int
  | 9 => .array .int
  | 10 => .array .int
  | 11 => .array .int
  | 12 => .array .boolean
  | 13 => .array .int
  | 14 => .int
  | 15 => .array .int
  | 16 => .array .int
  | _ => .array .int
abbrev wsX00 : List Cond := u_ws RX0 TX0 18
theorem nmX0 : ∀ a, a < 18 → ∀ b, b < 18 → a ≠ b → (TX0 a).2.1 ≠ (TX0 b).2.1 := by decide +kernel
theorem tyX0_ok : ∀ k, k < 18 → parseFieldDescriptor (TX0 k).2.2.1 = some (tyX0 k) := by decide +kernel
abbrev cX0_init : ByteArray := prog_2_method_1_code
def yX0_init : MethodName := ⟨RX0, "<init>", "()V"⟩
abbrev cX0_find : ByteArray := prog_2_method_2_code
def yX0_find : MethodName := ⟨RX0, "find", "(LTownRiverBeast$Evening;I)V"⟩
abbrev cX0_lineUp : ByteArray := prog_2_method_3_code
def yX0_lineUp : MethodName := ⟨RX0, "lineUp", "(LTownRiverBeast$Evening;I)V"⟩
abbrev cX0_watchOthers : ByteArray := prog_2_method_4_code
def yX0_watchOthers : MethodName := ⟨RX0, "watchOthers", "(LTownRiverBeast$Evening;I)V"⟩
abbrev cX0_watch : ByteArray := prog_2_method_5_code
def yX0_watch : MethodName := ⟨RX0, "watch", "(LTownRiverBeast$Evening;I)V"⟩
abbrev cX0_extend : ByteArray := prog_2_method_6_code
def yX0_extend : MethodName := ⟨RX0, "extend", "(LTownRiverBeast$BestSheet;IIIII)V"⟩
abbrev cX0_weigh : ByteArray := prog_2_method_7_code
def yX0_weigh : MethodName := ⟨RX0, "weigh", "(III)V"⟩
abbrev cX0_pointsAt : ByteArray := prog_2_method_8_code
def yX0_pointsAt : MethodName := ⟨RX0, "pointsAt", "(II)I"⟩
abbrev cX0_writeTo : ByteArray := prog_2_method_9_code
def yX0_writeTo : MethodName := ⟨RX0, "writeTo", "(LTownRiverBeast$Evening;I)V"⟩
def RX1 : String := "TownRiverBeast$Evening"
def TX1 : u_T := fun k => match k with
  | 0 => ("TownRiverBeast$Evening", "columnCount", "I", false)
  | 1 => ("TownRiverBeast$Evening", "wordCount", "I", false)
  | 2 => ("TownRiverBeast$Evening", "peopleCount", "I", false)
  | 3 => ("TownRiverBeast$Evening", "seedNow", "I", false)
  | 4 => ("TownRiverBeast$Evening", "asked", "[I", true)
  | 5 => ("TownRiverBeast$Evening", "kinds", "[I", true)
  | 6 => ("TownRiverBeast$Evening", "letters", "[I", true)
  | 7 => ("TownRiverBeast$Evening", "columnOf", "[I", true)
  | 8 => ("TownRiverBeast$Evening", "seconds", "[I", true)
  | 9 => ("TownRiverBeast$Evening", "extras", "[I", true)
  | 10 => ("TownRiverBeast$Evening", "knowers", "[I", true)
  | 11 => ("TownRiverBeast$Evening", "isUsed", "[Z", true)
  | 12 => ("TownRiverBeast$Evening", "sheets", "[[I", true)
  | 13 => ("TownRiverBeast$Evening", "sizes", "[I", true)
  | _ => ("TownRiverBeast$Evening", "scores", "[I", true)
def tyX1 : Nat → FieldType := fun k => match k with
  | 0 => .int
  | 1 => .int
  | 2 => .int
  | 3 => .int
  | 4 => .array .int
  | 5 => .array .int
  | 6 => .array .int
  | 7 => .array .int
  | 8 => .array .int
  | 9 => .array .int
  | 10 => .array .int
  | 11 => .array .boolean
  | 12 => .array (.array .int)
  | 13 => .array .int
  | _ => .array .int
abbrev wsX10 : List Cond := u_ws RX1 TX1 15
theorem nmX1 : ∀ a, a < 15 → ∀ b, b < 15 → a ≠ b → (TX1 a).2.1 ≠ (TX1 b).2.1 := by decide +kernel
theorem tyX1_ok : ∀ k, k < 15 → parseFieldDescriptor (TX1 k).2.2.1 = some (tyX1 k) := by decide +kernel
abbrev cX1_init : ByteArray := prog_3_method_1_code
def yX1_init : MethodName := ⟨RX1, "<init>", "()V"⟩
abbrev cX1_become : ByteArray := prog_3_method_2_code
def yX1_become : MethodName := ⟨RX1, "become", "(LTownRiverBeast$Evening;)V"⟩
abbrev cX1_isWord : ByteArray := prog_3_method_3_code
def yX1_isWord : MethodName := ⟨RX1, "isWord", "(I)Z"⟩
abbrev cX1_isPerson : ByteArray := prog_3_method_4_code
def yX1_isPerson : MethodName := ⟨RX1, "isPerson", "(I)Z"⟩
abbrev cX1_isColumn : ByteArray := prog_3_method_5_code
def yX1_isColumn : MethodName := ⟨RX1, "isColumn", "(I)Z"⟩
abbrev cX1_hasRoomForWord : ByteArray := prog_3_method_6_code
def yX1_hasRoomForWord : MethodName := ⟨RX1, "hasRoomForWord", "()Z"⟩
abbrev cX1_hasRoomForPerson : ByteArray := prog_3_method_7_code
def yX1_hasRoomForPerson : MethodName := ⟨RX1, "hasRoomForPerson", "()Z"⟩
abbrev cX1_addWord : ByteArray := prog_3_method_8_code
def yX1_addWord : MethodName := ⟨RX1, "addWord", "(IIIII)I"⟩
abbrev cX1_addPerson : ByteArray := prog_3_method_9_code
def yX1_addPerson : MethodName := ⟨RX1, "addPerson", "()I"⟩
abbrev cX1_cost : ByteArray := prog_3_method_10_code
def yX1_cost : MethodName := ⟨RX1, "cost", "(I)I"⟩
abbrev cX1_isKnown : ByteArray := prog_3_method_11_code
def yX1_isKnown : MethodName := ⟨RX1, "isKnown", "(II)Z"⟩
abbrev cX1_isBarred : ByteArray := prog_3_method_12_code
def yX1_isBarred : MethodName := ⟨RX1, "isBarred", "(I)Z"⟩
abbrev cX1_canStand : ByteArray := prog_3_method_13_code
def yX1_canStand : MethodName := ⟨RX1, "canStand", "(II)Z"⟩
abbrev cX1_firstWrong : ByteArray := prog_3_method_14_code
def yX1_firstWrong : MethodName := ⟨RX1, "firstWrong", "(I[JI)I"⟩
abbrev cX1_putSheet : ByteArray := prog_3_method_15_code
def yX1_putSheet : MethodName := ⟨RX1, "putSheet", "(I[JI)V"⟩
abbrev cX1_openPlace : ByteArray := prog_3_method_16_code
def yX1_openPlace : MethodName := ⟨RX1, "openPlace", "(II)I"⟩
abbrev cX1_sheetsWith : ByteArray := prog_3_method_17_code
def yX1_sheetsWith : MethodName := ⟨RX1, "sheetsWith", "(I)I"⟩
abbrev cX1_knowersMissing : ByteArray := prog_3_method_18_code
def yX1_knowersMissing : MethodName := ⟨RX1, "knowersMissing", "(I)I"⟩
abbrev cX1_passesVote : ByteArray := prog_3_method_19_code
def yX1_passesVote : MethodName := ⟨RX1, "passesVote", "(I)Z"⟩
abbrev cX1_writtenBy : ByteArray := prog_3_method_20_code
def yX1_writtenBy : MethodName := ⟨RX1, "writtenBy", "(II)I"⟩
abbrev cX1_wholeSheetTakes : ByteArray := prog_3_method_21_code
def yX1_wholeSheetTakes : MethodName := ⟨RX1, "wholeSheetTakes", "(I)I"⟩
abbrev cX1_readyAt : ByteArray := prog_3_method_22_code
def yX1_readyAt : MethodName := ⟨RX1, "readyAt", "(I)I"⟩
abbrev cX1_columnsFilled : ByteArray := prog_3_method_23_code
def yX1_columnsFilled : MethodName := ⟨RX1, "columnsFilled", "(II)I"⟩
abbrev cX1_fillsMostAlone : ByteArray := prog_3_method_24_code
def yX1_fillsMostAlone : MethodName := ⟨RX1, "fillsMostAlone", "(II)Z"⟩
abbrev cX1_drawLetter : ByteArray := prog_3_method_25_code
def yX1_drawLetter : MethodName := ⟨RX1, "drawLetter", "()I"⟩
abbrev cX1_firstByScore : ByteArray := prog_3_method_26_code
def yX1_firstByScore : MethodName := ⟨RX1, "firstByScore", "()I"⟩
abbrev cX1_usedCount : ByteArray := prog_3_method_27_code
def yX1_usedCount : MethodName := ⟨RX1, "usedCount", "()I"⟩
def RX2 : String := "TownRiverBeast$Outcome"
def TX2 : u_T := fun k => match k with
  | 0 => ("TownRiverBeast$Outcome", "callSecond", "I", false)
  | 1 => ("TownRiverBeast$Outcome", "callerNumber", "I", false)
  | 2 => ("TownRiverBeast$Outcome", "keptWords", "[I", true)
  | _ => ("TownRiverBeast$Outcome", "keptColumns", "[I", true)
def tyX2 : Nat → FieldType := fun k => match k with
  | 0 => .int
  | 1 => .int
  | 2 => .array .int
  | _ => .array .int
abbrev wsX20 : List Cond := u_ws RX2 TX2 4
theorem nmX2 : ∀ a, a < 4 → ∀ b, b < 4 → a ≠ b → (TX2 a).2.1 ≠ (TX2 b).2.1 := by decide +kernel
theorem tyX2_ok : ∀ k, k < 4 → parseFieldDescriptor (TX2 k).2.2.1 = some (tyX2 k) := by decide +kernel
abbrev cX2_init : ByteArray := prog_4_method_1_code
def yX2_init : MethodName := ⟨RX2, "<init>", "()V"⟩
abbrev cX2_reckon : ByteArray := prog_4_method_2_code
def yX2_reckon : MethodName := ⟨RX2, "reckon", "(LTownRiverBeast$Evening;)V"⟩
abbrev cX2_keep : ByteArray := prog_4_method_3_code
def yX2_keep : MethodName := ⟨RX2, "keep", "(LTownRiverBeast$Evening;II)V"⟩
abbrev cX2_keepersOf : ByteArray := prog_4_method_4_code
def yX2_keepersOf : MethodName := ⟨RX2, "keepersOf", "(LTownRiverBeast$Evening;I)I"⟩
abbrev cX2_howManyKeptIn : ByteArray := prog_4_method_5_code
def yX2_howManyKeptIn : MethodName := ⟨RX2, "howManyKeptIn", "(LTownRiverBeast$Evening;I)I"⟩
abbrev cX2_worth : ByteArray := prog_4_method_6_code
def yX2_worth : MethodName := ⟨RX2, "worth", "(LTownRiverBeast$Evening;I)I"⟩
abbrev cX2_pointsIn : ByteArray := prog_4_method_7_code
def yX2_pointsIn : MethodName := ⟨RX2, "pointsIn", "(LTownRiverBeast$Evening;II)I"⟩
abbrev cX2_leaderBesides : ByteArray := prog_4_method_8_code
def yX2_leaderBesides : MethodName := ⟨RX2, "leaderBesides", "(LTownRiverBeast$Evening;I)I"⟩
def RX3 : String := "TownRiverBeast$Reader"
def TX3 : u_T := fun k => match k with
  | 0 => ("TownRiverBeast$Reader", "size", "I", false)
  | 1 => ("TownRiverBeast$Reader", "statements", "I", false)
  | 2 => ("TownRiverBeast$Reader", "start", "I", false)
  | 3 => ("TownRiverBeast$Reader", "behind", "I", false)
  | 4 => ("TownRiverBeast$Reader", "token", "I", false)
  | 5 => ("TownRiverBeast$Reader", "tape", "[I", true)
  | 6 => ("TownRiverBeast$Reader", "numbers", "[I", true)
  | 7 => ("TownRiverBeast$Reader", "told", "[J", true)
  | _ => ("TownRiverBeast$Reader", "numberCount", "I", false)
def tyX3 : Nat → FieldType := fun k => match k with
  | 0 => .int
  | 1 => .int
  | 2 => .int
  | 3 => .int
  | 4 => .int
  | 5 => .array .int
  | 6 => .array .int
  | 7 => .array .long
  | _ => .int
abbrev wsX30 : List Cond := u_ws RX3 TX3 9
theorem nmX3 : ∀ a, a < 9 → ∀ b, b < 9 → a ≠ b → (TX3 a).2.1 ≠ (TX3 b).2.1 := by decide +kernel
theorem tyX3_ok : ∀ k, k < 9 → parseFieldDescriptor (TX3 k).2.2.1 = some (tyX3 k) := by decide +kernel
abbrev cX3_init : ByteArray := prog_5_method_1_code
def yX3_init : MethodName := ⟨RX3, "<init>", "()V"⟩
abbrev cX3_take : ByteArray := prog_5_method_2_code
def yX3_take : MethodName := ⟨RX3, "take", "(I)Z"⟩
abbrev cX3_read : ByteArray := prog_5_method_3_code
def yX3_read : MethodName := ⟨RX3, "read", "(LTownRiverBeast$Evening;)Z"⟩
abbrev cX3_step : ByteArray := prog_5_method_4_code
def yX3_step : MethodName := ⟨RX3, "step", "()V"⟩
abbrev cX3_sortOf : ByteArray := prog_5_method_5_code
def yX3_sortOf : MethodName := ⟨RX3, "sortOf", "(I)I"⟩
abbrev cX3_isNamed : ByteArray := prog_5_method_6_code
def yX3_isNamed : MethodName := ⟨RX3, "isNamed", "(Ljava/lang/String;)Z"⟩
abbrev cX3_readStatement : ByteArray := prog_5_method_7_code
def yX3_readStatement : MethodName := ⟨RX3, "readStatement", "(LTownRiverBeast$Evening;)Z"⟩
abbrev cX3_readColumns : ByteArray := prog_5_method_8_code
def yX3_readColumns : MethodName := ⟨RX3, "readColumns", "(LTownRiverBeast$Evening;)Z"⟩
abbrev cX3_readWord : ByteArray := prog_5_method_9_code
def yX3_readWord : MethodName := ⟨RX3, "readWord", "(LTownRiverBeast$Evening;)Z"⟩
abbrev cX3_readPerson : ByteArray := prog_5_method_10_code
def yX3_readPerson : MethodName := ⟨RX3, "readPerson", "(LTownRiverBeast$Evening;)Z"⟩
abbrev cX3_readKnows : ByteArray := prog_5_method_11_code
def yX3_readKnows : MethodName := ⟨RX3, "readKnows", "(LTownRiverBeast$Evening;)Z"⟩
abbrev cX3_readAsked : ByteArray := prog_5_method_12_code
def yX3_readAsked : MethodName := ⟨RX3, "readAsked", "(LTownRiverBeast$Evening;II)Z"⟩
abbrev cX3_readSheet : ByteArray := prog_5_method_13_code
def yX3_readSheet : MethodName := ⟨RX3, "readSheet", "(LTownRiverBeast$Evening;)Z"⟩
abbrev cX3_readNumber : ByteArray := prog_5_method_14_code
def yX3_readNumber : MethodName := ⟨RX3, "readNumber", "(II)Z"⟩
abbrev cX3_value : ByteArray := prog_5_method_15_code
def yX3_value : MethodName := ⟨RX3, "value", "()I"⟩
def RX4 : String := "TownRiverBeast$Shelf"
def TX4 : u_T := fun k => match k with
  | 0 => ("TownRiverBeast$Shelf", "content", "I", false)
  | 1 => ("TownRiverBeast$Shelf", "size", "I", false)
  | 2 => ("TownRiverBeast$Shelf", "shownWord", "I", false)
  | _ => ("TownRiverBeast$Shelf", "elements", "[J", true)
def tyX4 : Nat → FieldType := fun k => match k with
  | 0 => .int
  | 1 => .int
  | 2 => .int
  | _ => .array .long
abbrev wsX40 : List Cond := u_ws RX4 TX4 4
theorem nmX4 : ∀ a, a < 4 → ∀ b, b < 4 → a ≠ b → (TX4 a).2.1 ≠ (TX4 b).2.1 := by decide +kernel
theorem tyX4_ok : ∀ k, k < 4 → parseFieldDescriptor (TX4 k).2.2.1 = some (tyX4 k) := by decide +kernel
abbrev cX4_init : ByteArray := prog_6_method_1_code
def yX4_init : MethodName := ⟨RX4, "<init>", "()V"⟩
abbrev cX4_hasRow : ByteArray := prog_6_method_2_code
def yX4_hasRow : MethodName := ⟨RX4, "hasRow", "()Z"⟩
abbrev cX4_hasWord : ByteArray := prog_6_method_3_code
def yX4_hasWord : MethodName := ⟨RX4, "hasWord", "()Z"⟩
abbrev cX4_clear : ByteArray := prog_6_method_4_code
def yX4_clear : MethodName := ⟨RX4, "clear", "()V"⟩
abbrev cX4_becomeWord : ByteArray := prog_6_method_5_code
def yX4_becomeWord : MethodName := ⟨RX4, "becomeWord", "(I)V"⟩
abbrev cX4_becomeRow : ByteArray := prog_6_method_6_code
def yX4_becomeRow : MethodName := ⟨RX4, "becomeRow", "(II)V"⟩
abbrev cX4_put : ByteArray := prog_6_method_7_code
def yX4_put : MethodName := ⟨RX4, "put", "(IJ)V"⟩
abbrev cX4_lowestBits : ByteArray := prog_6_method_8_code
def yX4_lowestBits : MethodName := ⟨RX4, "lowestBits", "(J)J"⟩
def RX5 : String := "TownRiverBeast"
def TX5 : u_T := fun k => match k with
  | 0 => ("TownRiverBeast", "now", "LTownRiverBeast$Evening;", true)
  | 1 => ("TownRiverBeast", "imageOfAll", "LTownRiverBeast$Evening;", true)
  | 2 => ("TownRiverBeast", "thought", "LTownRiverBeast$Evening;", true)
  | 3 => ("TownRiverBeast", "outcome", "LTownRiverBeast$Outcome;", true)
  | 4 => ("TownRiverBeast", "bestSheet", "LTownRiverBeast$BestSheet;", true)
  | 5 => ("TownRiverBeast", "reader", "LTownRiverBeast$Reader;", true)
  | 6 => ("TownRiverBeast", "shelves", "[LTownRiverBeast$Shelf;", true)
  | 7 => ("TownRiverBeast", "refused", "[I", true)
  | 8 => ("TownRiverBeast", "orderFound", "[I", true)
  | _ => ("TownRiverBeast", "hasImage", "Z", false)
def tyX5 : Nat → FieldType := fun k => match k with
  | 0 => .object "TownRiverBeast$Evening"
  | 1 => .object "TownRiverBeast$Evening"
  | 2 => .object "TownRiverBeast$Evening"
  | 3 => .object "TownRiverBeast$Outcome"
  | 4 => .object "TownRiverBeast$BestSheet"
  | 5 => .object "TownRiverBeast$Reader"
  | 6 => .array (.object "TownRiverBeast$Shelf")
  | 7 => .array .int
  | 8 => .array .int
  | _ => .boolean
abbrev wsX50 : List Cond := u_ws RX5 TX5 10
theorem nmX5 : ∀ a, a < 10 → ∀ b, b < 10 → a ≠ b → (TX5 a).2.1 ≠ (TX5 b).2.1 := by decide +kernel
theorem tyX5_ok : ∀ k, k < 10 → parseFieldDescriptor (TX5 k).2.2.1 = some (tyX5 k) := by decide +kernel
abbrev cX5_init : ByteArray := prog_1_method_1_code
def yX5_init : MethodName := ⟨RX5, "<init>", "()V"⟩
abbrev cX5_row : ByteArray := prog_1_method_2_code
def yX5_row : MethodName := ⟨RX5, "row", "(III)I"⟩
abbrev cX5_set : ByteArray := prog_1_method_3_code
def yX5_set : MethodName := ⟨RX5, "set", "(IIJ)I"⟩
abbrev cX5_copy : ByteArray := prog_1_method_4_code
def yX5_copy : MethodName := ⟨RX5, "copy", "(IIIII)I"⟩
abbrev cX5_element : ByteArray := prog_1_method_5_code
def yX5_element : MethodName := ⟨RX5, "element", "(II)J"⟩
abbrev cX5_holds : ByteArray := prog_1_method_6_code
def yX5_holds : MethodName := ⟨RX5, "holds", "(I)I"⟩
abbrev cX5_show : ByteArray := prog_1_method_7_code
def yX5_show : MethodName := ⟨RX5, "show", "(II)I"⟩
abbrev cX5_says : ByteArray := prog_1_method_8_code
def yX5_says : MethodName := ⟨RX5, "says", "(II)I"⟩
abbrev cX5_columns : ByteArray := prog_1_method_9_code
def yX5_columns : MethodName := ⟨RX5, "columns", "(I)I"⟩
abbrev cX5_word : ByteArray := prog_1_method_10_code
def yX5_word : MethodName := ⟨RX5, "word", "(IIIII)I"⟩
abbrev cX5_person : ByteArray := prog_1_method_11_code
def yX5_person : MethodName := ⟨RX5, "person", "()I"⟩
abbrev cX5_knows : ByteArray := prog_1_method_12_code
def yX5_knows : MethodName := ⟨RX5, "knows", "(IIZ)I"⟩
abbrev cX5_ask : ByteArray := prog_1_method_13_code
def yX5_ask : MethodName := ⟨RX5, "ask", "(II)I"⟩
abbrev cX5_sheet : ByteArray := prog_1_method_14_code
def yX5_sheet : MethodName := ⟨RX5, "sheet", "(III)I"⟩
abbrev cX5_feed : ByteArray := prog_1_method_15_code
def yX5_feed : MethodName := ⟨RX5, "feed", "(I)I"⟩
abbrev cX5_wipe : ByteArray := prog_1_method_16_code
def yX5_wipe : MethodName := ⟨RX5, "wipe", "()I"⟩
abbrev cX5_evening : ByteArray := prog_1_method_17_code
def yX5_evening : MethodName := ⟨RX5, "evening", "()I"⟩
abbrev cX5_wordOf : ByteArray := prog_1_method_18_code
def yX5_wordOf : MethodName := ⟨RX5, "wordOf", "(II)I"⟩
abbrev cX5_sheetOf : ByteArray := prog_1_method_19_code
def yX5_sheetOf : MethodName := ⟨RX5, "sheetOf", "(II)I"⟩
abbrev cX5_score : ByteArray := prog_1_method_20_code
def yX5_score : MethodName := ⟨RX5, "score", "(I)I"⟩
abbrev cX5_call : ByteArray := prog_1_method_21_code
def yX5_call : MethodName := ⟨RX5, "call", "()I"⟩
abbrev cX5_caller : ByteArray := prog_1_method_22_code
def yX5_caller : MethodName := ⟨RX5, "caller", "()I"⟩
abbrev cX5_written : ByteArray := prog_1_method_23_code
def yX5_written : MethodName := ⟨RX5, "written", "(II)I"⟩
abbrev cX5_kept : ByteArray := prog_1_method_24_code
def yX5_kept : MethodName := ⟨RX5, "kept", "(I)I"⟩
abbrev cX5_points : ByteArray := prog_1_method_25_code
def yX5_points : MethodName := ⟨RX5, "points", "(II)I"⟩
abbrev cX5_winner : ByteArray := prog_1_method_26_code
def yX5_winner : MethodName := ⟨RX5, "winner", "()I"⟩
abbrev cX5_best : ByteArray := prog_1_method_27_code
def yX5_best : MethodName := ⟨RX5, "best", "(II)I"⟩
abbrev cX5_order : ByteArray := prog_1_method_28_code
def yX5_order : MethodName := ⟨RX5, "order", "(II)I"⟩
abbrev cX5_swap : ByteArray := prog_1_method_29_code
def yX5_swap : MethodName := ⟨RX5, "swap", "(III)I"⟩
abbrev cX5_bestWord : ByteArray := prog_1_method_30_code
def yX5_bestWord : MethodName := ⟨RX5, "bestWord", "(II)I"⟩
abbrev cX5_learn : ByteArray := prog_1_method_31_code
def yX5_learn : MethodName := ⟨RX5, "learn", "(II)I"⟩
abbrev cX5_lonely : ByteArray := prog_1_method_32_code
def yX5_lonely : MethodName := ⟨RX5, "lonely", "(I)I"⟩
abbrev cX5_fills : ByteArray := prog_1_method_33_code
def yX5_fills : MethodName := ⟨RX5, "fills", "(II)I"⟩
abbrev cX5_gains : ByteArray := prog_1_method_34_code
def yX5_gains : MethodName := ⟨RX5, "gains", "(I)I"⟩
abbrev cX5_silent : ByteArray := prog_1_method_35_code
def yX5_silent : MethodName := ⟨RX5, "silent", "(III)I"⟩
abbrev cX5_stop : ByteArray := prog_1_method_36_code
def yX5_stop : MethodName := ⟨RX5, "stop", "(III)I"⟩
abbrev cX5_judge : ByteArray := prog_1_method_37_code
def yX5_judge : MethodName := ⟨RX5, "judge", "(III)I"⟩
abbrev cX5_takes : ByteArray := prog_1_method_38_code
def yX5_takes : MethodName := ⟨RX5, "takes", "(III)I"⟩
abbrev cX5_keptBy : ByteArray := prog_1_method_39_code
def yX5_keptBy : MethodName := ⟨RX5, "keptBy", "(I)I"⟩
abbrev cX5_rival : ByteArray := prog_1_method_40_code
def yX5_rival : MethodName := ⟨RX5, "rival", "(I)I"⟩
abbrev cX5_needFor : ByteArray := prog_1_method_41_code
def yX5_needFor : MethodName := ⟨RX5, "needFor", "(I)I"⟩
abbrev cX5_late : ByteArray := prog_1_method_42_code
def yX5_late : MethodName := ⟨RX5, "late", "(I)I"⟩
abbrev cX5_clashes : ByteArray := prog_1_method_43_code
def yX5_clashes : MethodName := ⟨RX5, "clashes", "()I"⟩
abbrev cX5_empty : ByteArray := prog_1_method_44_code
def yX5_empty : MethodName := ⟨RX5, "empty", "()I"⟩
abbrev cX5_takeBest : ByteArray := prog_1_method_45_code
def yX5_takeBest : MethodName := ⟨RX5, "takeBest", "(I)I"⟩
abbrev cX5_round : ByteArray := prog_1_method_46_code
def yX5_round : MethodName := ⟨RX5, "round", "()I"⟩
abbrev cX5_rounds : ByteArray := prog_1_method_47_code
def yX5_rounds : MethodName := ⟨RX5, "rounds", "(I)I"⟩
abbrev cX5_again : ByteArray := prog_1_method_48_code
def yX5_again : MethodName := ⟨RX5, "again", "()I"⟩
abbrev cX5_seed : ByteArray := prog_1_method_49_code
def yX5_seed : MethodName := ⟨RX5, "seed", "(I)I"⟩
abbrev cX5_image : ByteArray := prog_1_method_50_code
def yX5_image : MethodName := ⟨RX5, "image", "()I"⟩
abbrev cX5_back : ByteArray := prog_1_method_51_code
def yX5_back : MethodName := ⟨RX5, "back", "()I"⟩
abbrev cX5_status : ByteArray := prog_1_method_52_code
def yX5_status : MethodName := ⟨RX5, "status", "(I)I"⟩
abbrev cX5_within : ByteArray := prog_1_method_53_code
def yX5_within : MethodName := ⟨RX5, "within", "(III)Z"⟩
abbrev cX5_isShelf : ByteArray := prog_1_method_54_code
def yX5_isShelf : MethodName := ⟨RX5, "isShelf", "(I)Z"⟩
abbrev cX5_isLetter : ByteArray := prog_1_method_55_code
def yX5_isLetter : MethodName := ⟨RX5, "isLetter", "(I)Z"⟩
abbrev cX5_isUnder : ByteArray := prog_1_method_56_code
def yX5_isUnder : MethodName := ⟨RX5, "isUnder", "(II)Z"⟩
abbrev cX5_letterAt : ByteArray := prog_1_method_57_code
def yX5_letterAt : MethodName := ⟨RX5, "letterAt", "(III)I"⟩
abbrev cX5_exchange : ByteArray := prog_1_method_58_code
def yX5_exchange : MethodName := ⟨RX5, "exchange", "([III)V"⟩
abbrev cX5_refuse : ByteArray := prog_1_method_59_code
def yX5_refuse : MethodName := ⟨RX5, "refuse", "(I)I"⟩
abbrev cX5_troubleOfRow : ByteArray := prog_1_method_60_code
def yX5_troubleOfRow : MethodName := ⟨RX5, "troubleOfRow", "(I)I"⟩
abbrev cX5_troubleOfPair : ByteArray := prog_1_method_61_code
def yX5_troubleOfPair : MethodName := ⟨RX5, "troubleOfPair", "(II)I"⟩
abbrev cX5_troubleOfTold : ByteArray := prog_1_method_62_code
def yX5_troubleOfTold : MethodName := ⟨RX5, "troubleOfTold", "(III)I"⟩
abbrev cX5_troubleOfFitting : ByteArray := prog_1_method_63_code
def yX5_troubleOfFitting : MethodName := ⟨RX5, "troubleOfFitting", "(III)I"⟩
abbrev cX5_wordTakenFor : ByteArray := prog_1_method_64_code
def yX5_wordTakenFor : MethodName := ⟨RX5, "wordTakenFor", "(II)I"⟩
abbrev cX5_shelvesInUse : ByteArray := prog_1_method_65_code
def yX5_shelvesInUse : MethodName := ⟨RX5, "shelvesInUse", "()I"⟩
abbrev cX5_pointsInThought : ByteArray := prog_1_method_66_code
def yX5_pointsInThought : MethodName := ⟨RX5, "pointsInThought", "(I)I"⟩
abbrev cX5_leadInThought : ByteArray := prog_1_method_67_code
def yX5_leadInThought : MethodName := ⟨RX5, "leadInThought", "(I)I"⟩
abbrev cX5_findOrder : ByteArray := prog_1_method_68_code
def yX5_findOrder : MethodName := ⟨RX5, "findOrder", "(I)I"⟩
abbrev cX5_sortUp : ByteArray := prog_1_method_69_code
def yX5_sortUp : MethodName := ⟨RX5, "sortUp", "([II)V"⟩
abbrev cX5_stepOrder : ByteArray := prog_1_method_70_code
def yX5_stepOrder : MethodName := ⟨RX5, "stepOrder", "([II)Z"⟩
abbrev cX5_putBestSheet : ByteArray := prog_1_method_71_code
def yX5_putBestSheet : MethodName := ⟨RX5, "putBestSheet", "(I)I"⟩
abbrev cX5_endRound : ByteArray := prog_1_method_72_code
def yX5_endRound : MethodName := ⟨RX5, "endRound", "()I"⟩
def RX6 : String := "TownRiverBeastModel"
def TX6 : u_T := fun k => match k with
  | 0 => ("TownRiverBeastModel", "shelf", "[I", true)
  | 1 => ("TownRiverBeastModel", "rowSort", "[I", true)
  | 2 => ("TownRiverBeastModel", "rowSize", "[I", true)
  | 3 => ("TownRiverBeastModel", "rows", "[[J", true)
  | 4 => ("TownRiverBeastModel", "moved", "[J", true)
  | 5 => ("TownRiverBeastModel", "shown", "[I", true)
  | 6 => ("TownRiverBeastModel", "tape", "[I", true)
  | 7 => ("TownRiverBeastModel", "tapeSize", "I", false)
  | 8 => ("TownRiverBeastModel", "refused", "[I", true)
  | 9 => ("TownRiverBeastModel", "columns", "I", false)
  | 10 => ("TownRiverBeastModel", "words", "I", false)
  | 11 => ("TownRiverBeastModel", "kind", "[I", true)
  | 12 => ("TownRiverBeastModel", "letter", "[I", true)
  | 13 => ("TownRiverBeastModel", "column", "[I", true)
  | 14 => ("TownRiverBeastModel", "seconds", "[I", true)
  | 15 => ("TownRiverBeastModel", "by", "[I", true)
  | 16 => ("TownRiverBeastModel", "known", "[I", true)
  | 17 => ("TownRiverBeastModel", "used", "[I", true)
  | 18 => ("TownRiverBeastModel", "people", "I", false)
  | 19 => ("TownRiverBeastModel", "sheet", "[[I", true)
  | 20 => ("TownRiverBeastModel", "size", "[I", true)
  | 21 => ("TownRiverBeastModel", "score", "[I", true)
  | 22 => ("TownRiverBeastModel", "asked", "[I", true)
  | 23 => ("TownRiverBeastModel", "seed", "I", false)
  | 24 => ("TownRiverBeastModel", "kept", "LTownRiverBeastModel;", false)
  | 25 => ("TownRiverBeastModel", "tried", "LTownRiverBeastModel;", false)
  | 26 => ("TownRiverBeastModel", "at", "I", false)
  | 27 => ("TownRiverBeastModel", "token", "I", false)
  | 28 => ("TownRiverBeastModel", "from", "I", false)
  | 29 => ("TownRiverBeastModel", "figures", "I", false)
  | 30 => ("TownRiverBeastModel", "fault", "I", false)
  | 31 => ("TownRiverBeastModel", "told", "[I", true)
  | 32 => ("TownRiverBeastModel", "toldSheet", "[J", true)
  | 33 => ("TownRiverBeastModel", "statements", "I", false)
  | 34 => ("TownRiverBeastModel", "keptAll", "[I", true)
  | 35 => ("TownRiverBeastModel", "bestSet", "I", false)
  | 36 => ("TownRiverBeastModel", "bestPoints", "I", false)
  | 37 => ("TownRiverBeastModel", "bestCall", "I", false)
  | 38 => ("TownRiverBeastModel", "orderNow", "[I", true)
  | 39 => ("TownRiverBeastModel", "orderBest", "[I", true)
  | _ => ("TownRiverBeastModel", "orderPoints", "I", false)
def tyX6 : Nat → FieldType := fun k => match k with
  | 0 => .array .int
  | 1 => .array .int
  | 2 => .array .int
  | 3 => .array (.array .long)
  | 4 => .array .long
  | 5 => .array .int
  | 6 => .array .int
  | 7 => .int
  | 8 => .array .int
  | 9 => .int
  | 10 => .int
  | 11 => .array .int
  | 12 => .array .int
  | 13 => .array .int
  | 14 => .array .int
  | 15 => .array .int
  | 16 => .array .int
  | 17 => .array .int
  | 18 => .int
  | 19 => .array (.array .int)
  | 20 => .array .int
  | 21 => .array .int
  | 22 => .array .int
  | 23 => .int
  | 24 => .object "TownRiverBeastModel"
  | 25 => .object "TownRiverBeastModel"
  | 26 => .int
  | 27 => .int
  | 28 => .int
  | 29 => .int
  | 30 => .int
  | 31 => .array .int
  | 32 => .array .long
  | 33 => .int
  | 34 => .array .int
  | 35 => .int
  | 36 => .int
  | 37 => .int
  | 38 => .array .int
  | 39 => .array .int
  | _ => .int
abbrev wsX60 : List Cond := u_ws RX6 TX6 41
theorem nmX6 : ∀ a, a < 41 → ∀ b, b < 41 → a ≠ b → (TX6 a).2.1 ≠ (TX6 b).2.1 := by decide +kernel
theorem tyX6_ok : ∀ k, k < 41 → parseFieldDescriptor (TX6 k).2.2.1 = some (tyX6 k) := by decide +kernel
abbrev cX6_init : ByteArray := prog_8_method_1_code
def yX6_init : MethodName := ⟨RX6, "<init>", "()V"⟩
abbrev cX6_refuse : ByteArray := prog_8_method_2_code
def yX6_refuse : MethodName := ⟨RX6, "refuse", "(I)I"⟩
abbrev cX6_in : ByteArray := prog_8_method_3_code
def yX6_in : MethodName := ⟨RX6, "in", "(JJJ)Z"⟩
abbrev cX6_isWord : ByteArray := prog_8_method_4_code
def yX6_isWord : MethodName := ⟨RX6, "isWord", "(I)Z"⟩
abbrev cX6_isPerson : ByteArray := prog_8_method_5_code
def yX6_isPerson : MethodName := ⟨RX6, "isPerson", "(I)Z"⟩
abbrev cX6_bits : ByteArray := prog_8_method_6_code
def yX6_bits : MethodName := ⟨RX6, "bits", "(I)I"⟩
abbrev cX6_row : ByteArray := prog_8_method_7_code
def yX6_row : MethodName := ⟨RX6, "row", "(III)I"⟩
abbrev cX6_fit : ByteArray := prog_8_method_8_code
def yX6_fit : MethodName := ⟨RX6, "fit", "(IJ)J"⟩
abbrev cX6_noRow : ByteArray := prog_8_method_9_code
def yX6_noRow : MethodName := ⟨RX6, "noRow", "(I)I"⟩
abbrev cX6_set : ByteArray := prog_8_method_10_code
def yX6_set : MethodName := ⟨RX6, "set", "(IIJ)I"⟩
abbrev cX6_copy : ByteArray := prog_8_method_11_code
def yX6_copy : MethodName := ⟨RX6, "copy", "(IIIII)I"⟩
abbrev cX6_element : ByteArray := prog_8_method_12_code
def yX6_element : MethodName := ⟨RX6, "element", "(II)J"⟩
abbrev cX6_holds : ByteArray := prog_8_method_13_code
def yX6_holds : MethodName := ⟨RX6, "holds", "(I)I"⟩
abbrev cX6_show : ByteArray := prog_8_method_14_code
def yX6_show : MethodName := ⟨RX6, "show", "(II)I"⟩
abbrev cX6_isUnder : ByteArray := prog_8_method_15_code
def yX6_isUnder : MethodName := ⟨RX6, "isUnder", "(II)Z"⟩
abbrev cX6_sheetsWith : ByteArray := prog_8_method_16_code
def yX6_sheetsWith : MethodName := ⟨RX6, "sheetsWith", "(I)I"⟩
abbrev cX6_says : ByteArray := prog_8_method_17_code
def yX6_says : MethodName := ⟨RX6, "says", "(II)I"⟩
abbrev cX6_columns : ByteArray := prog_8_method_18_code
def yX6_columns : MethodName := ⟨RX6, "columns", "(I)I"⟩
abbrev cX6_addWord : ByteArray := prog_8_method_19_code
def yX6_addWord : MethodName := ⟨RX6, "addWord", "(IIIII)V"⟩
abbrev cX6_word : ByteArray := prog_8_method_20_code
def yX6_word : MethodName := ⟨RX6, "word", "(IIIII)I"⟩
abbrev cX6_addPerson : ByteArray := prog_8_method_21_code
def yX6_addPerson : MethodName := ⟨RX6, "addPerson", "()V"⟩
abbrev cX6_person : ByteArray := prog_8_method_22_code
def yX6_person : MethodName := ⟨RX6, "person", "()I"⟩
abbrev cX6_knows : ByteArray := prog_8_method_23_code
def yX6_knows : MethodName := ⟨RX6, "knows", "(IIZ)I"⟩
abbrev cX6_mayAsk : ByteArray := prog_8_method_24_code
def yX6_mayAsk : MethodName := ⟨RX6, "mayAsk", "(II)Z"⟩
abbrev cX6_ask : ByteArray := prog_8_method_25_code
def yX6_ask : MethodName := ⟨RX6, "ask", "(II)I"⟩
abbrev cX6_mayBe : ByteArray := prog_8_method_26_code
def yX6_mayBe : MethodName := ⟨RX6, "mayBe", "(II)Z"⟩
abbrev cX6_mayFollow : ByteArray := prog_8_method_27_code
def yX6_mayFollow : MethodName := ⟨RX6, "mayFollow", "(I[JI)Z"⟩
abbrev cX6_wrongIn : ByteArray := prog_8_method_28_code
def yX6_wrongIn : MethodName := ⟨RX6, "wrongIn", "(I[JI)I"⟩
abbrev cX6_noSheet : ByteArray := prog_8_method_29_code
def yX6_noSheet : MethodName := ⟨RX6, "noSheet", "(III)I"⟩
abbrev cX6_sheet : ByteArray := prog_8_method_30_code
def yX6_sheet : MethodName := ⟨RX6, "sheet", "(III)I"⟩
abbrev cX6_judge : ByteArray := prog_8_method_31_code
def yX6_judge : MethodName := ⟨RX6, "judge", "(III)I"⟩
abbrev cX6_takes : ByteArray := prog_8_method_32_code
def yX6_takes : MethodName := ⟨RX6, "takes", "(III)I"⟩
abbrev cX6_feed : ByteArray := prog_8_method_33_code
def yX6_feed : MethodName := ⟨RX6, "feed", "(I)I"⟩
abbrev cX6_wipe : ByteArray := prog_8_method_34_code
def yX6_wipe : MethodName := ⟨RX6, "wipe", "()I"⟩
abbrev cX6_isLetter : ByteArray := prog_8_method_35_code
def yX6_isLetter : MethodName := ⟨RX6, "isLetter", "(I)Z"⟩
abbrev cX6_isDigit : ByteArray := prog_8_method_36_code
def yX6_isDigit : MethodName := ⟨RX6, "isDigit", "(I)Z"⟩
abbrev cX6_look : ByteArray := prog_8_method_37_code
def yX6_look : MethodName := ⟨RX6, "look", "()V"⟩
abbrev cX6_wrong : ByteArray := prog_8_method_38_code
def yX6_wrong : MethodName := ⟨RX6, "wrong", "()Z"⟩
abbrev cX6_isTold : ByteArray := prog_8_method_39_code
def yX6_isTold : MethodName := ⟨RX6, "isTold", "(Ljava/lang/String;)Z"⟩
abbrev cX6_number : ByteArray := prog_8_method_40_code
def yX6_number : MethodName := ⟨RX6, "number", "(III)Z"⟩
abbrev cX6_tells : ByteArray := prog_8_method_41_code
def yX6_tells : MethodName := ⟨RX6, "tells", "(II)Z"⟩
abbrev cX6_asks : ByteArray := prog_8_method_42_code
def yX6_asks : MethodName := ⟨RX6, "asks", "(I)Z"⟩
abbrev cX6_asksHere : ByteArray := prog_8_method_43_code
def yX6_asksHere : MethodName := ⟨RX6, "asksHere", "(I)Z"⟩
abbrev cX6_sheetTold : ByteArray := prog_8_method_44_code
def yX6_sheetTold : MethodName := ⟨RX6, "sheetTold", "()Z"⟩
abbrev cX6_statement : ByteArray := prog_8_method_45_code
def yX6_statement : MethodName := ⟨RX6, "statement", "()Z"⟩
abbrev cX6_readAll : ByteArray := prog_8_method_46_code
def yX6_readAll : MethodName := ⟨RX6, "readAll", "()Z"⟩
abbrev cX6_evening : ByteArray := prog_8_method_47_code
def yX6_evening : MethodName := ⟨RX6, "evening", "()I"⟩
abbrev cX6_wordOf : ByteArray := prog_8_method_48_code
def yX6_wordOf : MethodName := ⟨RX6, "wordOf", "(II)I"⟩
abbrev cX6_sheetOf : ByteArray := prog_8_method_49_code
def yX6_sheetOf : MethodName := ⟨RX6, "sheetOf", "(II)I"⟩
abbrev cX6_score : ByteArray := prog_8_method_50_code
def yX6_score : MethodName := ⟨RX6, "score", "(I)I"⟩
abbrev cX6_takesOf : ByteArray := prog_8_method_51_code
def yX6_takesOf : MethodName := ⟨RX6, "takesOf", "(I)I"⟩
abbrev cX6_hasBy : ByteArray := prog_8_method_52_code
def yX6_hasBy : MethodName := ⟨RX6, "hasBy", "(II)I"⟩
abbrev cX6_writtenBy : ByteArray := prog_8_method_53_code
def yX6_writtenBy : MethodName := ⟨RX6, "writtenBy", "(II)I"⟩
abbrev cX6_callNow : ByteArray := prog_8_method_54_code
def yX6_callNow : MethodName := ⟨RX6, "callNow", "()I"⟩
abbrev cX6_callerNow : ByteArray := prog_8_method_55_code
def yX6_callerNow : MethodName := ⟨RX6, "callerNow", "()I"⟩
abbrev cX6_call : ByteArray := prog_8_method_56_code
def yX6_call : MethodName := ⟨RX6, "call", "()I"⟩
abbrev cX6_caller : ByteArray := prog_8_method_57_code
def yX6_caller : MethodName := ⟨RX6, "caller", "()I"⟩
abbrev cX6_written : ByteArray := prog_8_method_58_code
def yX6_written : MethodName := ⟨RX6, "written", "(II)I"⟩
abbrev cX6_keptOf : ByteArray := prog_8_method_59_code
def yX6_keptOf : MethodName := ⟨RX6, "keptOf", "(I)I"⟩
abbrev cX6_kept : ByteArray := prog_8_method_60_code
def yX6_kept : MethodName := ⟨RX6, "kept", "(I)I"⟩
abbrev cX6_findKept : ByteArray := prog_8_method_61_code
def yX6_findKept : MethodName := ⟨RX6, "findKept", "()V"⟩
abbrev cX6_columnOf : ByteArray := prog_8_method_62_code
def yX6_columnOf : MethodName := ⟨RX6, "columnOf", "(II)I"⟩
abbrev cX6_pointsAt : ByteArray := prog_8_method_63_code
def yX6_pointsAt : MethodName := ⟨RX6, "pointsAt", "(II)I"⟩
abbrev cX6_pointsOf : ByteArray := prog_8_method_64_code
def yX6_pointsOf : MethodName := ⟨RX6, "pointsOf", "(I)I"⟩
abbrev cX6_pointsNow : ByteArray := prog_8_method_65_code
def yX6_pointsNow : MethodName := ⟨RX6, "pointsNow", "(I)I"⟩
abbrev cX6_points : ByteArray := prog_8_method_66_code
def yX6_points : MethodName := ⟨RX6, "points", "(II)I"⟩
abbrev cX6_mostBut : ByteArray := prog_8_method_67_code
def yX6_mostBut : MethodName := ⟨RX6, "mostBut", "(I)I"⟩
abbrev cX6_winner : ByteArray := prog_8_method_68_code
def yX6_winner : MethodName := ⟨RX6, "winner", "()I"⟩
abbrev cX6_rival : ByteArray := prog_8_method_69_code
def yX6_rival : MethodName := ⟨RX6, "rival", "(I)I"⟩
abbrev cX6_keptBy : ByteArray := prog_8_method_70_code
def yX6_keptBy : MethodName := ⟨RX6, "keptBy", "(I)I"⟩
abbrev cX6_clashes : ByteArray := prog_8_method_71_code
def yX6_clashes : MethodName := ⟨RX6, "clashes", "()I"⟩
abbrev cX6_empty : ByteArray := prog_8_method_72_code
def yX6_empty : MethodName := ⟨RX6, "empty", "()I"⟩
abbrev cX6_late : ByteArray := prog_8_method_73_code
def yX6_late : MethodName := ⟨RX6, "late", "(I)I"⟩
abbrev cX6_needFor : ByteArray := prog_8_method_74_code
def yX6_needFor : MethodName := ⟨RX6, "needFor", "(I)I"⟩
abbrev cX6_writes : ByteArray := prog_8_method_75_code
def yX6_writes : MethodName := ⟨RX6, "writes", "(II)V"⟩
abbrev cX6_tries : ByteArray := prog_8_method_76_code
def yX6_tries : MethodName := ⟨RX6, "tries", "(II)V"⟩
abbrev cX6_seekBest : ByteArray := prog_8_method_77_code
def yX6_seekBest : MethodName := ⟨RX6, "seekBest", "(III)V"⟩
abbrev cX6_findBest : ByteArray := prog_8_method_78_code
def yX6_findBest : MethodName := ⟨RX6, "findBest", "(I)V"⟩
abbrev cX6_best : ByteArray := prog_8_method_79_code
def yX6_best : MethodName := ⟨RX6, "best", "(II)I"⟩
abbrev cX6_bestWord : ByteArray := prog_8_method_80_code
def yX6_bestWord : MethodName := ⟨RX6, "bestWord", "(II)I"⟩
abbrev cX6_learn : ByteArray := prog_8_method_81_code
def yX6_learn : MethodName := ⟨RX6, "learn", "(II)I"⟩
abbrev cX6_seekOrder : ByteArray := prog_8_method_82_code
def yX6_seekOrder : MethodName := ⟨RX6, "seekOrder", "(LTownRiverBeastModel;III)V"⟩
abbrev cX6_order : ByteArray := prog_8_method_83_code
def yX6_order : MethodName := ⟨RX6, "order", "(II)I"⟩
abbrev cX6_lonely : ByteArray := prog_8_method_84_code
def yX6_lonely : MethodName := ⟨RX6, "lonely", "(I)I"⟩
abbrev cX6_fillsOf : ByteArray := prog_8_method_85_code
def yX6_fillsOf : MethodName := ⟨RX6, "fillsOf", "(II)I"⟩
abbrev cX6_fills : ByteArray := prog_8_method_86_code
def yX6_fills : MethodName := ⟨RX6, "fills", "(II)I"⟩
abbrev cX6_gains : ByteArray := prog_8_method_87_code
def yX6_gains : MethodName := ⟨RX6, "gains", "(I)I"⟩
abbrev cX6_silent : ByteArray := prog_8_method_88_code
def yX6_silent : MethodName := ⟨RX6, "silent", "(III)I"⟩
abbrev cX6_stop : ByteArray := prog_8_method_89_code
def yX6_stop : MethodName := ⟨RX6, "stop", "(III)I"⟩
abbrev cX6_takeBest : ByteArray := prog_8_method_90_code
def yX6_takeBest : MethodName := ⟨RX6, "takeBest", "(I)I"⟩
abbrev cX6_swap : ByteArray := prog_8_method_91_code
def yX6_swap : MethodName := ⟨RX6, "swap", "(III)I"⟩
abbrev cX6_goesRound : ByteArray := prog_8_method_92_code
def yX6_goesRound : MethodName := ⟨RX6, "goesRound", "()I"⟩
abbrev cX6_round : ByteArray := prog_8_method_93_code
def yX6_round : MethodName := ⟨RX6, "round", "()I"⟩
abbrev cX6_below : ByteArray := prog_8_method_94_code
def yX6_below : MethodName := ⟨RX6, "below", "(I)I"⟩
abbrev cX6_rounds : ByteArray := prog_8_method_95_code
def yX6_rounds : MethodName := ⟨RX6, "rounds", "(I)I"⟩
abbrev cX6_usedMany : ByteArray := prog_8_method_96_code
def yX6_usedMany : MethodName := ⟨RX6, "usedMany", "()I"⟩
abbrev cX6_again : ByteArray := prog_8_method_97_code
def yX6_again : MethodName := ⟨RX6, "again", "()I"⟩
abbrev cX6_seed : ByteArray := prog_8_method_98_code
def yX6_seed : MethodName := ⟨RX6, "seed", "(I)I"⟩
abbrev cX6_fresh : ByteArray := prog_8_method_99_code
def yX6_fresh : MethodName := ⟨RX6, "fresh", "()LTownRiverBeastModel;"⟩
abbrev cX6_copied : ByteArray := prog_8_method_100_code
def yX6_copied : MethodName := ⟨RX6, "copied", "([I[I)V"⟩
abbrev cX6_takeFrom : ByteArray := prog_8_method_101_code
def yX6_takeFrom : MethodName := ⟨RX6, "takeFrom", "(LTownRiverBeastModel;)V"⟩
abbrev cX6_image : ByteArray := prog_8_method_102_code
def yX6_image : MethodName := ⟨RX6, "image", "()I"⟩
abbrev cX6_back : ByteArray := prog_8_method_103_code
def yX6_back : MethodName := ⟨RX6, "back", "()I"⟩
abbrev cX6_status : ByteArray := prog_8_method_104_code
def yX6_status : MethodName := ⟨RX6, "status", "(I)I"⟩
def RJx8e188 : String := "java/lang/Cloneable"
def TJx8e188 : u_T := fun k => match k with
  | _ => ("", "", "", false)
def tyJx8e188 : Nat → FieldType := fun k => match k with
  | _ => .int
abbrev wsJx8e1880 : List Cond := u_ws RJx8e188 TJx8e188 0
theorem nmJx8e188 : ∀ a, a < 0 → ∀ b, b < 0 → a ≠ b → (TJx8e188 a).2.1 ≠ (TJx8e188 b).2.1 := by decide +kernel
theorem tyJx8e188_ok : ∀ k, k < 0 → parseFieldDescriptor (TJx8e188 k).2.2.1 = some (tyJx8e188 k) := by decide +kernel
def RJ6 : String := "java/lang/Integer"
def TJ6 : u_T := fun k => match k with
  | _ => ("", "", "", false)
def tyJ6 : Nat → FieldType := fun k => match k with
  | _ => .int
abbrev wsJ60 : List Cond := u_ws RJ6 TJ6 0
theorem nmJ6 : ∀ a, a < 0 → ∀ b, b < 0 → a ≠ b → (TJ6 a).2.1 ≠ (TJ6 b).2.1 := by decide +kernel
theorem tyJ6_ok : ∀ k, k < 0 → parseFieldDescriptor (TJ6 k).2.2.1 = some (tyJ6 k) := by decide +kernel
abbrev cJ6_bitCount_0f7a4 : ByteArray := prog_10_method_49_code
def yJ6_bitCount_0f7a4 : MethodName := ⟨RJ6, "bitCount", "(I)I"⟩
def RJ9 : String := "java/lang/Math"
def TJ9 : u_T := fun k => match k with
  | _ => ("", "", "", false)
def tyJ9 : Nat → FieldType := fun k => match k with
  | _ => .int
abbrev wsJ90 : List Cond := u_ws RJ9 TJ9 0
theorem nmJ9 : ∀ a, a < 0 → ∀ b, b < 0 → a ≠ b → (TJ9 a).2.1 ≠ (TJ9 b).2.1 := by decide +kernel
theorem tyJ9_ok : ∀ k, k < 0 → parseFieldDescriptor (TJ9 k).2.2.1 = some (tyJ9 k) := by decide +kernel
abbrev cJ9_max_7cf53 : ByteArray := prog_11_method_65_code
def yJ9_max_7cf53 : MethodName := ⟨RJ9, "max", "(II)I"⟩
abbrev cJ9_min_7cf53 : ByteArray := prog_11_method_69_code
def yJ9_min_7cf53 : MethodName := ⟨RJ9, "min", "(II)I"⟩
def RJ0 : String := "java/lang/String"
def TJ0 : u_T := fun k => match k with
  | _ => ("", "", "", false)
def tyJ0 : Nat → FieldType := fun k => match k with
  | _ => .int
abbrev wsJ00 : List Cond := u_ws RJ0 TJ0 0
theorem nmJ0 : ∀ a, a < 0 → ∀ b, b < 0 → a ≠ b → (TJ0 a).2.1 ≠ (TJ0 b).2.1 := by decide +kernel
theorem tyJ0_ok : ∀ k, k < 0 → parseFieldDescriptor (TJ0 k).2.2.1 = some (tyJ0 k) := by decide +kernel
abbrev cJ0_length_8abf5 : ByteArray := prog_12_method_54_code
def yJ0_length_8abf5 : MethodName := ⟨RJ0, "length", "()I"⟩
abbrev cJ0_charAt_5068e : ByteArray := prog_12_method_56_code
def yJ0_charAt_5068e : MethodName := ⟨RJ0, "charAt", "(I)C"⟩
abbrev cJ0_coder_7d493 : ByteArray := prog_12_method_152_code
def yJ0_coder_7d493 : MethodName := ⟨RJ0, "coder", "()B"⟩
abbrev cJ0_isLatin1_aae02 : ByteArray := prog_12_method_154_code
def yJ0_isLatin1_aae02 : MethodName := ⟨RJ0, "isLatin1", "()Z"⟩
abbrev cJ0_checkIndex_df160 : ByteArray := prog_12_method_155_code
def yJ0_checkIndex_df160 : MethodName := ⟨RJ0, "checkIndex", "(II)V"⟩
def RJ1 : String := "java/lang/StringLatin1"
def TJ1 : u_T := fun k => match k with
  | _ => ("", "", "", false)
def tyJ1 : Nat → FieldType := fun k => match k with
  | _ => .int
abbrev wsJ10 : List Cond := u_ws RJ1 TJ1 0
theorem nmJ1 : ∀ a, a < 0 → ∀ b, b < 0 → a ≠ b → (TJ1 a).2.1 ≠ (TJ1 b).2.1 := by decide +kernel
theorem tyJ1_ok : ∀ k, k < 0 → parseFieldDescriptor (TJ1 k).2.2.1 = some (tyJ1 k) := by decide +kernel
abbrev cJ1_charAt_3b067 : ByteArray := prog_13_method_2_code
def yJ1_charAt_3b067 : MethodName := ⟨RJ1, "charAt", "([BI)C"⟩
def RJ2 : String := "java/lang/StringUTF16"
def TJ2 : u_T := fun k => match k with
  | _ => ("", "", "", false)
def tyJ2 : Nat → FieldType := fun k => match k with
  | _ => .int
abbrev wsJ20 : List Cond := u_ws RJ2 TJ2 0
theorem nmJ2 : ∀ a, a < 0 → ∀ b, b < 0 → a ≠ b → (TJ2 a).2.1 ≠ (TJ2 b).2.1 := by decide +kernel
theorem tyJ2_ok : ∀ k, k < 0 → parseFieldDescriptor (TJ2 k).2.2.1 = some (tyJ2 k) := by decide +kernel
abbrev cJ2_getChar_3b067 : ByteArray := prog_14_method_5_code
def yJ2_getChar_3b067 : MethodName := ⟨RJ2, "getChar", "([BI)C"⟩
abbrev cJ2_length_9d52b : ByteArray := prog_14_method_6_code
def yJ2_length_9d52b : MethodName := ⟨RJ2, "length", "([B)I"⟩
abbrev cJ2_charAt_3b067 : ByteArray := prog_14_method_83_code
def yJ2_charAt_3b067 : MethodName := ⟨RJ2, "charAt", "([BI)C"⟩
abbrev cJ2_checkIndex_2214a : ByteArray := prog_14_method_91_code
def yJ2_checkIndex_2214a : MethodName := ⟨RJ2, "checkIndex", "(I[B)V"⟩
def RJ10 : String := "java/lang/System"
def TJ10 : u_T := fun k => match k with
  | _ => ("", "", "", false)
def tyJ10 : Nat → FieldType := fun k => match k with
  | _ => .int
abbrev wsJ100 : List Cond := u_ws RJ10 TJ10 0
theorem nmJ10 : ∀ a, a < 0 → ∀ b, b < 0 → a ≠ b → (TJ10 a).2.1 ≠ (TJ10 b).2.1 := by decide +kernel
theorem tyJ10_ok : ∀ k, k < 0 → parseFieldDescriptor (TJ10 k).2.2.1 = some (tyJ10 k) := by decide +kernel
def RJ3 : String := "jdk/internal/util/Preconditions"
def TJ3 : u_T := fun k => match k with
  | _ => ("", "", "", false)
def tyJ3 : Nat → FieldType := fun k => match k with
  | _ => .int
abbrev wsJ30 : List Cond := u_ws RJ3 TJ3 0
theorem nmJ3 : ∀ a, a < 0 → ∀ b, b < 0 → a ≠ b → (TJ3 a).2.1 ≠ (TJ3 b).2.1 := by decide +kernel
theorem tyJ3_ok : ∀ k, k < 0 → parseFieldDescriptor (TJ3 k).2.2.1 = some (tyJ3 k) := by decide +kernel
abbrev cJ3_checkIndex_8e157 : ByteArray := prog_16_method_11_code
def yJ3_checkIndex_8e157 : MethodName := ⟨RJ3, "checkIndex", "(IILjava/util/function/BiFunction;)I"⟩
def RL : String := "TownRiverBeastLaw"
abbrev cL_law : ByteArray := code
def yL_law : MethodName := ⟨RL, "law", "([I)Z"⟩
abbrev vwCl : List vw_C := [(RX0, TX0, 18), (RX1, TX1, 15), (RX2, TX2, 4), (RX3, TX3, 9), (RX4, TX4, 4), (RX5, TX5, 10), (RX6, TX6, 41)]
end
section
abbrev AV : Type := Int ⊕ (Int ⊕ (Nat × Nat × Nat))
abbrev Mm : Type := (Nat → Nat → Int) × (Nat → Nat → Int)
abbrev AI : Type := Instr × Nat × Nat × Int × List Nat
abbrev AL : Type := List (Option AV)
abbrev MH : Type := MethodName × ByteArray × Nat × Option FieldType × Nat × Bool × Nat
def en_cn : List String := ["TownRiverBeast$BestSheet", "TownRiverBeast$Evening", "TownRiverBeast$Outcome", "TownRiverBeast$Reader", "TownRiverBeast$Shelf", "TownRiverBeast", "TownRiverBeastModel", "TownRiverBeastLaw", "java/lang/Integer", "java/lang/Math?", "java/lang/String", "java/lang/StringLatin1", "jdk/internal/util/Preconditions"]
/-- fields: class, slot: (0 int, 1 boolean, 2 a part of the block, 3 a part that may be wanting; kind, number, place) -/
def en_ft : List (List (Nat × Nat × Nat × Nat)) := [[(0, 0, 0, 0), (0, 0, 0, 0), (0, 0, 0, 0), (0, 0, 0, 0), (0, 0, 0, 0), (0, 0, 0, 0), (0, 0, 0, 0), (0, 0, 0, 0), (0, 0, 0, 0), (2, 2, 24, 1), (2, 2, 24, 2), (2, 2, 24, 3), (2, 3, 24, 4), (2, 2, 5, 5), (0, 0, 0, 0), (2, 2, 20, 6), (2, 2, 20, 7), (2, 2, 20, 8)],
  [(0, 0, 0, 0), (0, 0, 0, 0), (0, 0, 0, 0), (0, 0, 0, 0), (2, 2, 8, 1), (2, 2, 24, 2), (2, 2, 24, 3), (2, 2, 24, 4), (2, 2, 24, 5), (2, 2, 24, 6), (2, 2, 24, 7), (2, 3, 24, 8), (2, 5, 1, 9), (2, 2, 4, 14), (2, 2, 4, 15)],
  [(0, 0, 0, 0), (0, 0, 0, 0), (2, 2, 4, 1), (2, 2, 4, 2)],
  [(0, 0, 0, 0), (0, 0, 0, 0), (0, 0, 0, 0), (0, 0, 0, 0), (0, 0, 0, 0), (2, 2, 250, 1), (2, 2, 5, 2), (2, 4, 5, 3), (0, 0, 0, 0)],
  [(0, 0, 0, 0), (0, 0, 0, 0), (0, 0, 0, 0), (2, 4, 40, 1)],
  [(2, 1, 1, 1), (2, 1, 1, 17), (2, 1, 1, 33), (2, 1, 2, 49), (2, 1, 0, 52), (2, 1, 3, 61), (2, 5, 0, 65), (2, 2, 5, 66), (2, 2, 5, 67), (1, 0, 0, 0)],
  [(2, 2, 8, 1), (2, 2, 8, 2), (2, 2, 8, 3), (2, 5, 2, 4), (2, 4, 40, 13), (2, 2, 8, 14), (2, 2, 250, 15), (0, 0, 0, 0), (2, 2, 8, 16), (0, 0, 0, 0), (0, 0, 0, 0), (2, 2, 24, 17), (2, 2, 24, 18), (2, 2, 24, 19), (2, 2, 24, 20), (2, 2, 24, 21), (2, 2, 24, 22), (2, 2, 24, 23), (0, 0, 0, 0), (2, 5, 1, 24), (2, 2, 4, 29), (2, 2, 4, 30), (2, 2, 8, 31), (0, 0, 0, 0), (3, 1, 6, 74), (3, 1, 6, 37), (0, 0, 0, 0), (0, 0, 0, 0), (0, 0, 0, 0), (0, 0, 0, 0), (0, 0, 0, 0), (2, 2, 5, 32), (2, 4, 6, 33), (0, 0, 0, 0), (2, 2, 4, 34), (0, 0, 0, 0), (0, 0, 0, 0), (0, 0, 0, 0), (2, 2, 5, 35), (2, 2, 5, 36), (0, 0, 0, 0)]]
/-- what lies at each place: 1 object, 2 int[], 3 boolean[], 4 long[], 5 array of references; its class, length, number -/
def en_lay : List (Nat × Nat) := [(1, 5), (1, 1), (2, 8), (2, 24), (2, 24), (2, 24), (2, 24), (2, 24), (2, 24), (3, 24), (5, 1), (2, 5), (2, 5), (2, 5), (2, 5), (2, 4), (2, 4), (1, 1), (2, 8), (2, 24), (2, 24), (2, 24), (2, 24), (2, 24), (2, 24), (3, 24), (5, 1), (2, 5), (2, 5), (2, 5), (2, 5), (2, 4), (2, 4), (1, 1), (2, 8), (2, 24), (2, 24), (2, 24), (2, 24), (2, 24), (2, 24), (3, 24), (5, 1), (2, 5), (2, 5), (2, 5), (2, 5), (2, 4), (2, 4), (1, 2), (2, 4), (2, 4), (1, 0), (2, 24), (2, 24), (2, 24), (3, 24), (2, 5), (2, 20), (2, 20), (2, 20), (1, 3), (2, 250), (2, 5), (4, 5), (5, 0), (2, 5), (2, 5), (1, 4), (4, 40), (1, 4), (4, 40), (1, 4), (4, 40), (1, 4), (4, 40), (1, 4), (4, 40), (1, 4), (4, 40), (1, 4), (4, 40), (1, 4), (4, 40), (1, 6), (2, 8), (2, 8), (2, 8), (5, 2), (4, 40), (4, 40), (4, 40), (4, 40), (4, 40), (4, 40), (4, 40), (4, 40), (4, 40), (2, 8), (2, 250), (2, 8), (2, 24), (2, 24), (2, 24), (2, 24), (2, 24), (2, 24), (2, 24), (5, 1), (2, 5), (2, 5), (2, 5), (2, 5), (2, 4), (2, 4), (2, 8), (2, 5), (4, 6), (2, 4), (2, 5), (2, 5), (1, 6), (2, 8), (2, 8), (2, 8), (5, 2), (4, 40), (4, 40), (4, 40), (4, 40), (4, 40), (4, 40), (4, 40), (4, 40), (4, 40), (2, 8), (2, 250), (2, 8), (2, 24), (2, 24), (2, 24), (2, 24), (2, 24), (2, 24), (2, 24), (5, 1), (2, 5), (2, 5), (2, 5), (2, 5), (2, 4), (2, 4), (2, 8), (2, 5), (4, 6), (2, 4), (2, 5), (2, 5), (1, 6), (2, 8), (2, 8), (2, 8), (5, 2), (4, 40), (4, 40), (4, 40), (4, 40), (4, 40), (4, 40), (4, 40), (4, 40), (4, 40), (2, 8), (2, 250), (2, 8), (2, 24), (2, 24), (2, 24), (2, 24), (2, 24), (2, 24), (2, 24), (5, 1), (2, 5), (2, 5), (2, 5), (2, 5), (2, 4), (2, 4), (2, 8), (2, 5), (4, 6), (2, 4), (2, 5), (2, 5)]
/-- arrays of references: length, kind and number of the parts, first place, stride, place among the array classes -/
def en_ra : List (Nat × Nat × Nat × Nat × Nat × Nat) := [(8, 1, 4, 3, 2, 3), (4, 2, 5, 1, 1, 4), (8, 4, 40, 1, 1, 5)]
def en_sn : List String := ["UNDER", "ASK_FIRST", "ASK_LEAST", "ASK_MOST"]
def en_sv : List (List Int) := [[-1, 0, 0, 1, 0, 2], [0, 4, 180, 20, 10, 5, 0, 0], [0, 1, 1, 0, 0, 0, 0, 0], [25, 5, 600, 50, 50, 50, 1, 1]]
def en_tx : List String := ["columns", "word", "person", "knows", "letter", "need", "bell", "points", "sheet"]
def en_by : List (List Int) := [[99, 111, 108, 117, 109, 110, 115], [119, 111, 114, 100], [112, 101, 114, 115, 111, 110], [107, 110, 111, 119, 115], [108, 101, 116, 116, 101, 114], [110, 101, 101, 100], [98, 101, 108, 108], [112, 111, 105, 110, 116, 115], [115, 104, 101, 101, 116]]
/-- the String constants: class, pool index, which -/
def en_sr : List (Nat × Nat × Nat) := [(3, 66, 0), (3, 80, 1), (3, 89, 2), (3, 97, 3), (3, 102, 4), (3, 108, 5), (3, 110, 6), (3, 112, 7), (3, 114, 8), (6, 233, 0), (6, 238, 1), (6, 240, 2), (6, 242, 3), (6, 244, 4), (6, 248, 5), (6, 250, 6), (6, 252, 7), (6, 254, 8)]
def en_mh_0 : List MH := [(yX0_init, cX0_init, 1, none, 0, false, 0),
  (yX0_find, cX0_find, 3, none, 2, false, 0),
  (yX0_lineUp, cX0_lineUp, 6, none, 2, false, 0),
  (yX0_watchOthers, cX0_watchOthers, 4, none, 2, false, 0),
  (yX0_watch, cX0_watch, 6, none, 2, false, 0),
  (yX0_extend, cX0_extend, 9, none, 6, true, 0),
  (yX0_weigh, cX0_weigh, 6, none, 3, false, 0),
  (yX0_pointsAt, cX0_pointsAt, 10, some .int, 2, false, 0),
  (yX0_writeTo, cX0_writeTo, 5, none, 2, false, 0),
  (yX1_init, cX1_init, 1, none, 0, false, 1),
  (yX1_become, cX1_become, 3, none, 1, false, 1),
  (yX1_isWord, cX1_isWord, 2, some .boolean, 1, false, 1),
  (yX1_isPerson, cX1_isPerson, 2, some .boolean, 1, false, 1),
  (yX1_isColumn, cX1_isColumn, 2, some .boolean, 1, false, 1),
  (yX1_hasRoomForWord, cX1_hasRoomForWord, 1, some .boolean, 0, false, 1),
  (yX1_hasRoomForPerson, cX1_hasRoomForPerson, 1, some .boolean, 0, false, 1),
  (yX1_addWord, cX1_addWord, 7, some .int, 5, false, 1),
  (yX1_addPerson, cX1_addPerson, 2, some .int, 0, false, 1),
  (yX1_cost, cX1_cost, 3, some .int, 1, false, 1),
  (yX1_isKnown, cX1_isKnown, 3, some .boolean, 2, false, 1),
  (yX1_isBarred, cX1_isBarred, 2, some .boolean, 1, false, 1),
  (yX1_canStand, cX1_canStand, 3, some .boolean, 2, false, 1),
  (yX1_firstWrong, cX1_firstWrong, 7, some .int, 3, false, 1),
  (yX1_putSheet, cX1_putSheet, 5, none, 3, false, 1),
  (yX1_openPlace, cX1_openPlace, 5, some .int, 2, false, 1),
  (yX1_sheetsWith, cX1_sheetsWith, 5, some .int, 1, false, 1),
  (yX1_knowersMissing, cX1_knowersMissing, 2, some .int, 1, false, 1),
  (yX1_passesVote, cX1_passesVote, 2, some .boolean, 1, false, 1),
  (yX1_writtenBy, cX1_writtenBy, 7, some .int, 2, false, 1),
  (yX1_wholeSheetTakes, cX1_wholeSheetTakes, 4, some .int, 1, false, 1),
  (yX1_readyAt, cX1_readyAt, 6, some .int, 1, false, 1),
  (yX1_columnsFilled, cX1_columnsFilled, 5, some .int, 2, false, 1)]
def en_mh_1 : List MH := [(yX1_fillsMostAlone, cX1_fillsMostAlone, 5, some .boolean, 2, false, 1),
  (yX1_drawLetter, cX1_drawLetter, 1, some .int, 0, false, 1),
  (yX1_firstByScore, cX1_firstByScore, 3, some .int, 0, false, 1),
  (yX1_usedCount, cX1_usedCount, 3, some .int, 0, false, 1),
  (yX2_init, cX2_init, 1, none, 0, false, 2),
  (yX2_reckon, cX2_reckon, 4, none, 1, false, 2),
  (yX2_keep, cX2_keep, 5, none, 3, false, 2),
  (yX2_keepersOf, cX2_keepersOf, 5, some .int, 2, false, 2),
  (yX2_howManyKeptIn, cX2_howManyKeptIn, 5, some .int, 2, false, 2),
  (yX2_worth, cX2_worth, 3, some .int, 2, false, 2),
  (yX2_pointsIn, cX2_pointsIn, 7, some .int, 3, false, 2),
  (yX2_leaderBesides, cX2_leaderBesides, 7, some .int, 2, false, 2),
  (yX3_init, cX3_init, 1, none, 0, false, 3),
  (yX3_take, cX3_take, 2, some .boolean, 1, false, 3),
  (yX3_read, cX3_read, 3, some .boolean, 1, false, 3),
  (yX3_step, cX3_step, 1, none, 0, false, 3),
  (yX3_sortOf, cX3_sortOf, 1, some .int, 1, true, 3),
  (yX3_isNamed, cX3_isNamed, 3, some .boolean, 1, false, 3),
  (yX3_readStatement, cX3_readStatement, 2, some .boolean, 1, false, 3),
  (yX3_readColumns, cX3_readColumns, 2, some .boolean, 1, false, 3),
  (yX3_readWord, cX3_readWord, 2, some .boolean, 1, false, 3),
  (yX3_readPerson, cX3_readPerson, 2, some .boolean, 1, false, 3),
  (yX3_readKnows, cX3_readKnows, 2, some .boolean, 1, false, 3),
  (yX3_readAsked, cX3_readAsked, 5, some .boolean, 3, false, 3),
  (yX3_readSheet, cX3_readSheet, 4, some .boolean, 1, false, 3),
  (yX3_readNumber, cX3_readNumber, 4, some .boolean, 2, false, 3),
  (yX3_value, cX3_value, 3, some .int, 0, false, 3),
  (yX4_init, cX4_init, 1, none, 0, false, 4),
  (yX4_hasRow, cX4_hasRow, 1, some .boolean, 0, false, 4),
  (yX4_hasWord, cX4_hasWord, 1, some .boolean, 0, false, 4),
  (yX4_clear, cX4_clear, 1, none, 0, false, 4),
  (yX4_becomeWord, cX4_becomeWord, 2, none, 1, false, 4)]
def en_mh_2 : List MH := [(yX4_becomeRow, cX4_becomeRow, 4, none, 2, false, 4),
  (yX4_put, cX4_put, 4, none, 2, false, 4),
  (yX4_lowestBits, cX4_lowestBits, 3, some .long, 1, false, 4),
  (yX5_init, cX5_init, 2, none, 0, false, 5),
  (yX5_row, cX5_row, 4, some .int, 3, false, 5),
  (yX5_set, cX5_set, 6, some .int, 3, false, 5),
  (yX5_copy, cX5_copy, 9, some .int, 5, false, 5),
  (yX5_element, cX5_element, 3, some .long, 2, false, 5),
  (yX5_holds, cX5_holds, 3, some .int, 1, false, 5),
  (yX5_show, cX5_show, 3, some .int, 2, false, 5),
  (yX5_says, cX5_says, 4, some .int, 2, false, 5),
  (yX5_columns, cX5_columns, 3, some .int, 1, false, 5),
  (yX5_word, cX5_word, 6, some .int, 5, false, 5),
  (yX5_person, cX5_person, 1, some .int, 0, false, 5),
  (yX5_knows, cX5_knows, 4, some .int, 3, false, 5),
  (yX5_ask, cX5_ask, 4, some .int, 2, false, 5),
  (yX5_sheet, cX5_sheet, 5, some .int, 3, false, 5),
  (yX5_feed, cX5_feed, 2, some .int, 1, false, 5),
  (yX5_wipe, cX5_wipe, 2, some .int, 0, false, 5),
  (yX5_evening, cX5_evening, 2, some .int, 0, false, 5),
  (yX5_wordOf, cX5_wordOf, 3, some .int, 2, false, 5),
  (yX5_sheetOf, cX5_sheetOf, 3, some .int, 2, false, 5),
  (yX5_score, cX5_score, 2, some .int, 1, false, 5),
  (yX5_call, cX5_call, 1, some .int, 0, false, 5),
  (yX5_caller, cX5_caller, 1, some .int, 0, false, 5),
  (yX5_written, cX5_written, 3, some .int, 2, false, 5),
  (yX5_kept, cX5_kept, 2, some .int, 1, false, 5),
  (yX5_points, cX5_points, 3, some .int, 2, false, 5),
  (yX5_winner, cX5_winner, 1, some .int, 0, false, 5),
  (yX5_best, cX5_best, 3, some .int, 2, false, 5),
  (yX5_order, cX5_order, 4, some .int, 2, false, 5),
  (yX5_swap, cX5_swap, 4, some .int, 3, false, 5)]
def en_mh_3 : List MH := [(yX5_bestWord, cX5_bestWord, 8, some .int, 2, false, 5),
  (yX5_learn, cX5_learn, 6, some .int, 2, false, 5),
  (yX5_lonely, cX5_lonely, 4, some .int, 1, false, 5),
  (yX5_fills, cX5_fills, 3, some .int, 2, false, 5),
  (yX5_gains, cX5_gains, 4, some .int, 1, false, 5),
  (yX5_silent, cX5_silent, 4, some .int, 3, false, 5),
  (yX5_stop, cX5_stop, 5, some .int, 3, false, 5),
  (yX5_judge, cX5_judge, 5, some .int, 3, false, 5),
  (yX5_takes, cX5_takes, 7, some .int, 3, false, 5),
  (yX5_keptBy, cX5_keptBy, 2, some .int, 1, false, 5),
  (yX5_rival, cX5_rival, 2, some .int, 1, false, 5),
  (yX5_needFor, cX5_needFor, 6, some .int, 1, false, 5),
  (yX5_late, cX5_late, 2, some .int, 1, false, 5),
  (yX5_clashes, cX5_clashes, 3, some .int, 0, false, 5),
  (yX5_empty, cX5_empty, 3, some .int, 0, false, 5),
  (yX5_takeBest, cX5_takeBest, 2, some .int, 1, false, 5),
  (yX5_round, cX5_round, 1, some .int, 0, false, 5),
  (yX5_rounds, cX5_rounds, 4, some .int, 1, false, 5),
  (yX5_again, cX5_again, 3, some .int, 0, false, 5),
  (yX5_seed, cX5_seed, 3, some .int, 1, false, 5),
  (yX5_image, cX5_image, 1, some .int, 0, false, 5),
  (yX5_back, cX5_back, 2, some .int, 0, false, 5),
  (yX5_status, cX5_status, 2, some .int, 1, false, 5),
  (yX5_within, cX5_within, 3, some .boolean, 3, true, 5),
  (yX5_isShelf, cX5_isShelf, 1, some .boolean, 1, true, 5),
  (yX5_isLetter, cX5_isLetter, 1, some .boolean, 1, true, 5),
  (yX5_isUnder, cX5_isUnder, 4, some .boolean, 2, true, 5),
  (yX5_letterAt, cX5_letterAt, 3, some .int, 3, true, 5),
  (yX5_exchange, cX5_exchange, 4, none, 3, true, 5),
  (yX5_refuse, cX5_refuse, 3, some .int, 1, false, 5),
  (yX5_troubleOfRow, cX5_troubleOfRow, 2, some .int, 1, false, 5),
  (yX5_troubleOfPair, cX5_troubleOfPair, 5, some .int, 2, false, 5)]
def en_mh_4 : List MH := [(yX5_troubleOfTold, cX5_troubleOfTold, 5, some .int, 3, false, 5),
  (yX5_troubleOfFitting, cX5_troubleOfFitting, 5, some .int, 3, false, 5),
  (yX5_wordTakenFor, cX5_wordTakenFor, 3, some .int, 2, false, 5),
  (yX5_shelvesInUse, cX5_shelvesInUse, 3, some .int, 0, false, 5),
  (yX5_pointsInThought, cX5_pointsInThought, 2, some .int, 1, false, 5),
  (yX5_leadInThought, cX5_leadInThought, 4, some .int, 1, false, 5),
  (yX5_findOrder, cX5_findOrder, 7, some .int, 1, false, 5),
  (yX5_sortUp, cX5_sortUp, 4, none, 2, true, 5),
  (yX5_stepOrder, cX5_stepOrder, 6, some .boolean, 2, true, 5),
  (yX5_putBestSheet, cX5_putBestSheet, 2, some .int, 1, false, 5),
  (yX5_endRound, cX5_endRound, 2, some .int, 0, false, 5),
  (yX6_init, cX6_init, 1, none, 0, false, 6),
  (yX6_refuse, cX6_refuse, 2, some .int, 1, false, 6),
  (yX6_in, cX6_in, 6, some .boolean, 3, true, 6),
  (yX6_isWord, cX6_isWord, 2, some .boolean, 1, false, 6),
  (yX6_isPerson, cX6_isPerson, 2, some .boolean, 1, false, 6),
  (yX6_bits, cX6_bits, 3, some .int, 1, true, 6),
  (yX6_row, cX6_row, 5, some .int, 3, false, 6),
  (yX6_fit, cX6_fit, 3, some .long, 2, true, 6),
  (yX6_noRow, cX6_noRow, 2, some .int, 1, false, 6),
  (yX6_set, cX6_set, 6, some .int, 3, false, 6),
  (yX6_copy, cX6_copy, 7, some .int, 5, false, 6),
  (yX6_element, cX6_element, 3, some .long, 2, false, 6),
  (yX6_holds, cX6_holds, 2, some .int, 1, false, 6),
  (yX6_show, cX6_show, 3, some .int, 2, false, 6),
  (yX6_isUnder, cX6_isUnder, 2, some .boolean, 2, true, 6),
  (yX6_sheetsWith, cX6_sheetsWith, 5, some .int, 1, false, 6),
  (yX6_says, cX6_says, 5, some .int, 2, false, 6),
  (yX6_columns, cX6_columns, 3, some .int, 1, false, 6),
  (yX6_addWord, cX6_addWord, 6, none, 5, false, 6),
  (yX6_word, cX6_word, 6, some .int, 5, false, 6),
  (yX6_addPerson, cX6_addPerson, 1, none, 0, false, 6)]
def en_mh_5 : List MH := [(yX6_person, cX6_person, 1, some .int, 0, false, 6),
  (yX6_knows, cX6_knows, 5, some .int, 3, false, 6),
  (yX6_mayAsk, cX6_mayAsk, 2, some .boolean, 2, true, 6),
  (yX6_ask, cX6_ask, 4, some .int, 2, false, 6),
  (yX6_mayBe, cX6_mayBe, 3, some .boolean, 2, false, 6),
  (yX6_mayFollow, cX6_mayFollow, 5, some .boolean, 3, false, 6),
  (yX6_wrongIn, cX6_wrongIn, 5, some .int, 3, false, 6),
  (yX6_noSheet, cX6_noSheet, 5, some .int, 3, false, 6),
  (yX6_sheet, cX6_sheet, 6, some .int, 3, false, 6),
  (yX6_judge, cX6_judge, 5, some .int, 3, false, 6),
  (yX6_takes, cX6_takes, 7, some .int, 3, false, 6),
  (yX6_feed, cX6_feed, 2, some .int, 1, false, 6),
  (yX6_wipe, cX6_wipe, 2, some .int, 0, false, 6),
  (yX6_isLetter, cX6_isLetter, 1, some .boolean, 1, true, 6),
  (yX6_isDigit, cX6_isDigit, 1, some .boolean, 1, true, 6),
  (yX6_look, cX6_look, 1, none, 0, false, 6),
  (yX6_wrong, cX6_wrong, 1, some .boolean, 0, false, 6),
  (yX6_isTold, cX6_isTold, 3, some .boolean, 1, false, 6),
  (yX6_number, cX6_number, 4, some .boolean, 3, false, 6),
  (yX6_tells, cX6_tells, 3, some .boolean, 2, false, 6),
  (yX6_asks, cX6_asks, 2, some .boolean, 1, false, 6),
  (yX6_asksHere, cX6_asksHere, 2, some .boolean, 1, false, 6),
  (yX6_sheetTold, cX6_sheetTold, 4, some .boolean, 0, false, 6),
  (yX6_statement, cX6_statement, 2, some .boolean, 0, false, 6),
  (yX6_readAll, cX6_readAll, 1, some .boolean, 0, false, 6),
  (yX6_evening, cX6_evening, 3, some .int, 0, false, 6),
  (yX6_wordOf, cX6_wordOf, 3, some .int, 2, false, 6),
  (yX6_sheetOf, cX6_sheetOf, 3, some .int, 2, false, 6),
  (yX6_score, cX6_score, 2, some .int, 1, false, 6),
  (yX6_takesOf, cX6_takesOf, 2, some .int, 1, false, 6),
  (yX6_hasBy, cX6_hasBy, 6, some .int, 2, false, 6),
  (yX6_writtenBy, cX6_writtenBy, 6, some .int, 2, false, 6)]
def en_mh_6 : List MH := [(yX6_callNow, cX6_callNow, 4, some .int, 0, false, 6),
  (yX6_callerNow, cX6_callerNow, 4, some .int, 0, false, 6),
  (yX6_call, cX6_call, 1, some .int, 0, false, 6),
  (yX6_caller, cX6_caller, 1, some .int, 0, false, 6),
  (yX6_written, cX6_written, 3, some .int, 2, false, 6),
  (yX6_keptOf, cX6_keptOf, 5, some .int, 1, false, 6),
  (yX6_kept, cX6_kept, 2, some .int, 1, false, 6),
  (yX6_findKept, cX6_findKept, 2, none, 0, false, 6),
  (yX6_columnOf, cX6_columnOf, 4, some .int, 2, false, 6),
  (yX6_pointsAt, cX6_pointsAt, 8, some .int, 2, false, 6),
  (yX6_pointsOf, cX6_pointsOf, 4, some .int, 1, false, 6),
  (yX6_pointsNow, cX6_pointsNow, 2, some .int, 1, false, 6),
  (yX6_points, cX6_points, 3, some .int, 2, false, 6),
  (yX6_mostBut, cX6_mostBut, 4, some .int, 1, false, 6),
  (yX6_winner, cX6_winner, 1, some .int, 0, false, 6),
  (yX6_rival, cX6_rival, 2, some .int, 1, false, 6),
  (yX6_keptBy, cX6_keptBy, 4, some .int, 1, false, 6),
  (yX6_clashes, cX6_clashes, 7, some .int, 0, false, 6),
  (yX6_empty, cX6_empty, 6, some .int, 0, false, 6),
  (yX6_late, cX6_late, 4, some .int, 1, false, 6),
  (yX6_needFor, cX6_needFor, 8, some .int, 1, false, 6),
  (yX6_writes, cX6_writes, 6, none, 2, false, 6),
  (yX6_tries, cX6_tries, 4, none, 2, false, 6),
  (yX6_seekBest, cX6_seekBest, 5, none, 3, false, 6),
  (yX6_findBest, cX6_findBest, 2, none, 1, false, 6),
  (yX6_best, cX6_best, 4, some .int, 2, false, 6),
  (yX6_bestWord, cX6_bestWord, 9, some .int, 2, false, 6),
  (yX6_learn, cX6_learn, 8, some .int, 2, false, 6),
  (yX6_seekOrder, cX6_seekOrder, 7, none, 4, false, 6),
  (yX6_order, cX6_order, 3, some .int, 2, false, 6),
  (yX6_lonely, cX6_lonely, 4, some .int, 1, false, 6),
  (yX6_fillsOf, cX6_fillsOf, 6, some .int, 2, false, 6)]
def en_mh_7 : List MH := [(yX6_fills, cX6_fills, 3, some .int, 2, false, 6),
  (yX6_gains, cX6_gains, 4, some .int, 1, false, 6),
  (yX6_silent, cX6_silent, 4, some .int, 3, false, 6),
  (yX6_stop, cX6_stop, 8, some .int, 3, false, 6),
  (yX6_takeBest, cX6_takeBest, 2, some .int, 1, false, 6),
  (yX6_swap, cX6_swap, 5, some .int, 3, false, 6),
  (yX6_goesRound, cX6_goesRound, 4, some .int, 0, false, 6),
  (yX6_round, cX6_round, 1, some .int, 0, false, 6),
  (yX6_below, cX6_below, 2, some .int, 1, false, 6),
  (yX6_rounds, cX6_rounds, 4, some .int, 1, false, 6),
  (yX6_usedMany, cX6_usedMany, 3, some .int, 0, false, 6),
  (yX6_again, cX6_again, 3, some .int, 0, false, 6),
  (yX6_seed, cX6_seed, 3, some .int, 1, false, 6),
  (yX6_fresh, cX6_fresh, 1, some (.object "TownRiverBeastModel"), 0, false, 6),
  (yX6_copied, cX6_copied, 3, none, 2, true, 6),
  (yX6_takeFrom, cX6_takeFrom, 3, none, 1, false, 6),
  (yX6_image, cX6_image, 1, some .int, 0, false, 6),
  (yX6_back, cX6_back, 2, some .int, 0, false, 6),
  (yX6_status, cX6_status, 4, some .int, 1, false, 6),
  (yJ6_bitCount_0f7a4, cJ6_bitCount_0f7a4, 1, some .int, 1, true, 8),
  (⟨"", "", ""⟩, ⟨#[]⟩, 0, none, 0, true, 99),
  (⟨"", "", ""⟩, ⟨#[]⟩, 0, none, 0, true, 99),
  (yJ0_length_8abf5, cJ0_length_8abf5, 1, some .int, 0, false, 10),
  (yJ0_charAt_5068e, cJ0_charAt_5068e, 2, some .char, 1, false, 10),
  (yJ0_coder_7d493, cJ0_coder_7d493, 1, some .byte, 0, false, 10),
  (yJ0_isLatin1_aae02, cJ0_isLatin1_aae02, 1, some .boolean, 0, false, 10),
  (yJ0_checkIndex_df160, cJ0_checkIndex_df160, 2, none, 2, true, 10),
  (yJ1_charAt_3b067, cJ1_charAt_3b067, 2, some .char, 2, true, 11),
  (⟨"", "", ""⟩, ⟨#[]⟩, 0, none, 0, true, 99),
  (⟨"", "", ""⟩, ⟨#[]⟩, 0, none, 0, true, 99),
  (⟨"", "", ""⟩, ⟨#[]⟩, 0, none, 0, true, 99),
  (⟨"", "", ""⟩, ⟨#[]⟩, 0, none, 0, true, 99)]
def en_mh_8 : List MH := [(yJ3_checkIndex_8e157, cJ3_checkIndex_8e157, 3, some .int, 3, true, 12),
  (⟨"", "", ""⟩, ⟨#[]⟩, 0, none, 0, true, 99)]
def en_mh : List MH := en_mh_0 ++ en_mh_1 ++ en_mh_2 ++ en_mh_3 ++ en_mh_4 ++ en_mh_5 ++ en_mh_6 ++ en_mh_7 ++ en_mh_8
def en_flk : List (Nat × Nat × Nat × Nat) := [(0, 68, 1, 4), (0, 21, 0, 3), (0, 27, 0, 5), (0, 30, 0, 6), (0, 33, 0, 7), (0, 9, 0, 0), (0, 15, 0, 1), (0, 24, 0, 4), (0, 18, 0, 2), (0, 36, 0, 8), (0, 84, 1, 1), (0, 43, 0, 10), (0, 39, 0, 9), (0, 46, 0, 11), (0, 95, 1, 7), (0, 49, 0, 12), (0, 56, 0, 14), (0, 102, 1, 2), (0, 117, 1, 13), (0, 120, 1, 12), (0, 59, 0, 15), (0, 62, 0, 16), (0, 65, 0, 17), (0, 53, 0, 13), (1, 9, 1, 0), (1, 15, 1, 1), (1, 18, 1, 2), (1, 21, 1, 3), (1, 33, 1, 4), (1, 36, 1, 5), (1, 39, 1, 6), (1, 42, 1, 7), (1, 45, 1, 8), (1, 48, 1, 9), (1, 51, 1, 10), (1, 63, 1, 13), (1, 66, 1, 14), (1, 54, 1, 11), (1, 60, 1, 12), (2, 25, 1, 4), (2, 9, 2, 0), (2, 15, 2, 1), (2, 30, 1, 2), (2, 18, 2, 2), (2, 22, 2, 3), (2, 45, 1, 1), (2, 52, 1, 7), (2, 67, 1, 13), (2, 70, 1, 12), (3, 9, 3, 0), (3, 27, 3, 5), (3, 15, 3, 1), (3, 21, 3, 3), (3, 24, 3, 4), (3, 18, 3, 2), (3, 38, 3, 8), (3, 72, 1, 1), (3, 31, 3, 6), (3, 123, 1, 0), (3, 133, 1, 2), (3, 136, 1, 10), (3, 145, 1, 4), (3, 34, 3, 7), (4, 9, 4, 0), (4, 15, 4, 1), (4, 18, 4, 2), (4, 21, 4, 3), (5, 45, 5, 6), (5, 80, 4, 1), (5, 92, 4, 3), (5, 109, 4, 2), (5, 112, 4, 0), (5, 10, 5, 0), (5, 125, 1, 5), (5, 135, 1, 1), (5, 138, 1, 0), (5, 167, 1, 10), (5, 176, 1, 4), (5, 39, 5, 5), (5, 190, 3, 0), (5, 19, 5, 2), (5, 199, 3, 2), (5, 202, 3, 1), (5, 205, 1, 6), (5, 208, 1, 7), (5, 211, 1, 8), (5, 214, 1, 9), (5, 217, 1, 11), (5, 224, 1, 13), (5, 227, 1, 12), (5, 231, 1, 14), (5, 234, 1, 2), (5, 25, 5, 3), (5, 240, 2, 0), (5, 243, 2, 1), (5, 249, 2, 2), (5, 32, 5, 4), (5, 264, 0, 0), (5, 267, 0, 1), (5, 270, 0, 2), (5, 53, 5, 8), (5, 340, 1, 3), (5, 16, 5, 1), (5, 56, 5, 9), (5, 49, 5, 7), (6, 34, 6, 8), (6, 94, 6, 10), (6, 101, 6, 18), (6, 7, 6, 0), (6, 13, 6, 1), (6, 16, 6, 2), (6, 21, 6, 3), (6, 24, 6, 4), (6, 28, 6, 5), (6, 67, 6, 20), (6, 64, 6, 19), (6, 41, 6, 11), (6, 56, 6, 16), (6, 53, 6, 15), (6, 37, 6, 9), (6, 44, 6, 12), (6, 47, 6, 13), (6, 50, 6, 14), (6, 59, 6, 17), (6, 70, 6, 21), (6, 73, 6, 22), (6, 182, 6, 7), (6, 31, 6, 6), (6, 185, 6, 26), (6, 188, 6, 28), (6, 191, 6, 29), (6, 194, 6, 27), (6, 203, 6, 30), (6, 79, 6, 31), (6, 82, 6, 32), (6, 258, 6, 33), (6, 85, 6, 34), (6, 315, 6, 36), (6, 318, 6, 35), (6, 321, 6, 37), (6, 88, 6, 38), (6, 337, 6, 40), (6, 91, 6, 39), (6, 76, 6, 23), (6, 361, 6, 25), (6, 370, 6, 24)]
def en_mlk : List (Nat × Nat × Nat × Nat) := [(0, 73, 2, 0), (0, 77, 3, 0), (0, 80, 5, 0), (0, 87, 21, 0), (0, 91, 18, 0), (0, 98, 27, 0), (0, 105, 30, 0), (0, 114, 4, 0), (0, 124, 6, 0), (0, 128, 7, 0), (1, 75, 119, 1), (1, 85, 19, 0), (1, 89, 20, 0), (1, 93, 21, 0), (1, 96, 243, 0), (1, 102, 18, 0), (1, 106, 31, 0), (2, 33, 30, 0), (2, 37, 28, 0), (2, 41, 38, 0), (2, 48, 27, 0), (2, 55, 40, 0), (2, 59, 39, 0), (2, 62, 243, 0), (2, 74, 41, 0), (2, 77, 42, 0), (3, 41, 47, 0), (3, 44, 50, 0), (3, 48, 48, 0), (3, 52, 119, 1), (3, 56, 246, 0), (3, 62, 247, 0), (3, 68, 49, 0), (3, 77, 51, 0), (3, 82, 14, 0), (3, 86, 52, 0), (3, 91, 15, 0), (3, 94, 53, 0), (3, 99, 54, 0), (3, 104, 55, 0), (3, 116, 56, 0), (3, 119, 57, 0), (3, 126, 16, 0), (3, 130, 17, 0), (3, 148, 58, 0), (3, 151, 22, 0), (3, 155, 23, 0), (4, 25, 119, 1), (4, 29, 62, 0), (4, 32, 66, 0), (5, 61, 120, 0), (5, 65, 119, 0), (5, 69, 125, 0), (5, 73, 64, 0), (5, 77, 126, 0), (5, 84, 65, 0), (5, 88, 127, 0), (5, 102, 60, 0), (5, 106, 61, 0), (5, 115, 11, 0), (5, 118, 62, 0), (5, 121, 63, 0), (5, 128, 122, 0), (5, 132, 130, 0), (5, 141, 121, 0), (5, 144, 13, 0), (5, 147, 14, 0), (5, 150, 16, 0), (5, 154, 15, 0), (5, 157, 17, 0), (5, 161, 12, 0), (5, 164, 19, 0), (5, 179, 129, 0), (5, 183, 23, 0), (5, 187, 45, 0), (5, 191, 10, 0), (5, 195, 46, 0), (5, 221, 18, 0), (5, 237, 37, 0), (5, 246, 28, 0), (5, 252, 42, 0), (5, 256, 43, 0), (5, 260, 1, 0), (5, 271, 134, 0), (5, 274, 124, 0), (5, 278, 24, 0), (5, 281, 21, 0), (5, 284, 132, 0), (5, 292, 243, 0), (5, 297, 31, 0), (5, 300, 123, 0), (5, 303, 32, 0), (5, 306, 128, 0), (5, 309, 22, 0), (5, 313, 39, 0), (5, 316, 133, 0), (5, 319, 29, 0), (5, 322, 40, 0), (5, 325, 137, 0), (5, 328, 138, 0), (5, 331, 33, 0), (5, 334, 34, 0), (5, 337, 35, 0), (5, 343, 131, 0), (5, 349, 25, 0), (5, 352, 26, 0), (5, 355, 135, 0), (5, 359, 136, 0), (5, 363, 8, 0), (6, 97, 141, 0), (6, 110, 140, 0), (6, 114, 147, 0), (6, 117, 146, 0), (6, 121, 142, 0), (6, 127, 153, 0), (6, 131, 189, 0), (6, 134, 154, 0), (6, 137, 144, 0), (6, 146, 157, 0), (6, 150, 159, 0), (6, 153, 143, 0), (6, 162, 162, 0), (6, 165, 164, 0), (6, 168, 165, 0), (6, 172, 167, 0), (6, 176, 166, 0), (6, 197, 173, 0), (6, 200, 174, 0), (6, 206, 246, 0), (6, 212, 247, 0), (6, 216, 176, 0), (6, 220, 175, 0), (6, 223, 178, 0), (6, 227, 181, 0), (6, 230, 179, 0), (6, 234, 177, 0), (6, 245, 180, 0), (6, 255, 182, 0), (6, 261, 183, 0), (6, 264, 237, 0), (6, 268, 184, 0), (6, 271, 239, 0), (6, 275, 190, 0), (6, 279, 192, 0), (6, 282, 193, 0), (6, 285, 191, 0), (6, 288, 197, 0), (6, 291, 200, 0), (6, 294, 201, 0), (6, 297, 199, 0), (6, 300, 202, 0), (6, 305, 205, 0), (6, 308, 213, 0), (6, 312, 203, 0), (6, 324, 214, 0), (6, 327, 215, 0), (6, 333, 216, 0), (6, 340, 220, 0), (6, 344, 223, 0), (6, 351, 230, 0), (6, 355, 232, 0), (6, 358, 234, 0), (6, 366, 238, 0), (10, 335, 248, 0), (10, 492, 249, 0), (10, 495, 251, 0), (10, 1059, 256, 0), (11, 9, 250, 0), (7, 13, 68, 0), (7, 17, 145, 0), (7, 20, 69, 0), (7, 24, 148, 0), (7, 25, 70, 0), (7, 29, 149, 0), (7, 30, 71, 0), (7, 34, 150, 0), (7, 35, 72, 0), (7, 39, 151, 0), (7, 40, 73, 0), (7, 44, 152, 0), (7, 45, 74, 0), (7, 48, 155, 0), (7, 49, 75, 0), (7, 52, 156, 0), (7, 53, 76, 0), (7, 56, 158, 0), (7, 57, 77, 0), (7, 61, 160, 0), (7, 62, 78, 0), (7, 66, 161, 0), (7, 67, 79, 0), (7, 70, 163, 0), (7, 71, 80, 0), (7, 74, 168, 0), (7, 75, 81, 0), (7, 78, 171, 0), (7, 79, 82, 0), (7, 82, 172, 0), (7, 83, 83, 0), (7, 86, 185, 0), (7, 87, 84, 0), (7, 90, 186, 0), (7, 91, 85, 0), (7, 94, 187, 0), (7, 95, 86, 0), (7, 98, 188, 0), (7, 99, 87, 0), (7, 102, 194, 0), (7, 103, 88, 0), (7, 106, 195, 0), (7, 107, 89, 0), (7, 110, 196, 0), (7, 111, 90, 0), (7, 114, 198, 0), (7, 115, 91, 0), (7, 118, 204, 0), (7, 119, 92, 0), (7, 122, 206, 0), (7, 123, 93, 0), (7, 126, 217, 0), (7, 127, 94, 0), (7, 130, 221, 0), (7, 131, 95, 0), (7, 134, 229, 0), (7, 135, 96, 0), (7, 138, 218, 0), (7, 139, 97, 0), (7, 142, 219, 0), (7, 143, 98, 0), (7, 146, 222, 0), (7, 147, 99, 0), (7, 150, 224, 0), (7, 151, 100, 0), (7, 154, 225, 0), (7, 155, 101, 0), (7, 158, 226, 0), (7, 159, 102, 0), (7, 162, 227, 0), (7, 163, 103, 0), (7, 166, 169, 0), (7, 167, 104, 0), (7, 170, 170, 0), (7, 171, 105, 0), (7, 174, 208, 0), (7, 175, 106, 0), (7, 178, 207, 0), (7, 179, 107, 0), (7, 182, 212, 0), (7, 183, 108, 0), (7, 186, 211, 0), (7, 187, 109, 0), (7, 190, 209, 0), (7, 191, 110, 0), (7, 194, 210, 0), (7, 195, 111, 0), (7, 198, 228, 0), (7, 199, 112, 0), (7, 202, 231, 0), (7, 203, 113, 0), (7, 206, 233, 0), (7, 207, 114, 0), (7, 210, 235, 0), (7, 211, 115, 0), (7, 214, 236, 0), (7, 215, 116, 0), (7, 218, 240, 0), (7, 219, 117, 0), (7, 222, 241, 0), (7, 223, 118, 0), (7, 226, 242, 0)]
end
section
/-! THE ENGINE: an abstract machine over numbers; a contract (en_Ct) of a method over it; what one instruction asks (en_st); what a stretch asks (en_vc) -/
/-- the good words of the tables: every method's -/
def en_gw : List Cond := lw_tbl.filter goodWord
def en_mh0 : MH := (⟨"", "", ""⟩, ⟨#[]⟩, 0, none, 0, true, 99)
def en_m (k : Nat) : MH := en_mh.getD k en_mh0
def en_ws (k : Nat) : List Cond := Cond.code (en_m k).1 (en_m k).2.1 (en_m k).2.2.1 (en_m k).2.2.2.1 :: en_gw
/-- a number as the machine has it -/
def en_wr (x : Int) : Int := (Int32.ofInt x).toInt
def en_wl (x : Int) : Int := (Int64.ofInt x).toInt
def en_rng (x : Int) : Prop := -2147483648 ≤ x ∧ x < 2147483648
/-- writing -/
def en_wI (M : Mm) (a j : Nat) (x : Int) : Mm := (fun b => if b = a then (fun i => if i = j then x else M.1 a i) else M.1 b, M.2)
def en_wL (M : Mm) (a j : Nat) (x : Int) : Mm := (M.1, fun b => if b = a then (fun i => if i = j then x else M.2 a i) else M.2 b)
def en_cI (M : Mm) (a0 a1 sp dp n : Nat) : Mm := (fun b => if b = a1 then va_cpy (M.1 a0) (M.1 a1) sp dp n else M.1 b, M.2)
def en_cL (M : Mm) (a0 a1 sp dp n : Nat) : Mm := (M.1, fun b => if b = a1 then va_cpy (M.2 a0) (M.2 a1) sp dp n else M.2 b)
/-- a value as the machine has it: ad where the places lie, cd the constants -/
def en_rv (ad : Nat → Nat) (cd : Nat → Nat → Nat) : AV → Value
  | .inl i => .int (Int32.ofInt i)
  | .inr (.inl j) => .long (Int64.ofInt j)
  | .inr (.inr (0, _, _)) => .null
  | .inr (.inr (1, _, a)) => .ref (ad a)
  | .inr (.inr (2, _, a)) => .ref (ad a)
  | .inr (.inr (3, _, a)) => .ref (ad a)
  | .inr (.inr (4, _, a)) => .ref (ad a)
  | .inr (.inr (5, _, a)) => .ref (ad a)
  | .inr (.inr (6, n, _)) => .ref (cd 6 n)
  | .inr (.inr (7, n, _)) => .ref (cd 7 n)
  | .inr (.inr (8, n, _)) => .ref (cd 8 n)
  | .inr (.inr (9, _, _)) => .ref (cd 9 0)
  | .inr (.inr (_, _, _)) => (match cd 10 0 with | 0 => .null | t + 1 => .ref t)
/-- which places there are -/
def en_pl (M : Mm) : List Nat := List.range 121 ++ ((if M.1 84 25 = 0 then [] else (List.range 37).map (121 + ·)) ++ (if M.1 84 24 = 0 then [] else (List.range 37).map (158 + ·)))
/-- a value that may stand there -/
def en_ok (sL : Nat) (M : Mm) : AV → Prop
  | .inr (.inr (0, _, _)) => True
  | .inr (.inr (k, n, a)) => (k ≤ 5 ∧ en_lay[a]? = some (k, n) ∧ a ∈ en_pl M) ∨ (k = 6 ∧ n < 4) ∨ (k = 7 ∧ n < 9) ∨ (k = 8 ∧ n < 9) ∨ (k = 9 ∧ n + 1 = sL) ∨ k = 10
  | _ => True
def en_fv (ad : Nat → Nat) (M : Mm) (a k : Nat) : Nat × Nat × Nat × Nat → Value
  | (2, _, _, off) => .ref (ad (a + off))
  | (3, _, _, off) => if M.1 a k = 0 then .null else .ref (ad (a + off))
  | _ => .int (Int32.ofInt (M.1 a k))
def en_fs (ad : Nat → Nat) (M : Mm) (a c : Nat) : List Value := ((en_ft.getD c []).zipIdx).map (fun q => en_fv ad M a q.2 q.1)
/-- the cell at a place -/
def en_cell (ad : Nat → Nat) (cs : Nat → ClassId) (M : Mm) (a : Nat) : va_E :=
  match en_lay.getD a (0, 0) with
  | (1, c) => .inr (c, en_fs ad M a c)
  | (2, n) => .inl (cs 0, n, .inl (fun j => Int32.ofInt (M.1 a j)))
  | (3, n) => .inl (cs 1, n, .inl (fun j => Int32.ofInt (M.1 a j)))
  | (4, n) => .inl (cs 2, n, .inr (.inl (fun j => Int64.ofInt (M.2 a j))))
  | (_, n) => let r := en_ra.getD n (0, 0, 0, 0, 0, 0); .inl (cs r.2.2.2.2.2, r.1, .inr (.inr (.inr (.inr (fun j => if j < r.1 then some (ad (a + r.2.2.2.1 + r.2.2.2.2.1 * j)) else none)))))
def en_wd (ad : Nat → Nat) (cs : Nat → ClassId) (M : Mm) : va_W := (en_pl M).map (fun a => (ad a, en_cell ad cs M a))
def en_tys (cs : Nat → ClassId) : List (ClassId × FieldType) := [(cs 0, .int), (cs 1, .boolean), (cs 2, .long), (cs 3, .object "TownRiverBeast$Shelf"), (cs 4, .array .int), (cs 5, .array .long)]
/-- the nest's words -/
def en_nest : List Cond := [.methodLinkNest "TownRiverBeast$Shelf" 25 yX5_within "TownRiverBeast", .methodLinkNest "TownRiverBeast$Evening" 75 yX5_within "TownRiverBeast", .methodLinkNest "TownRiverBeast$Reader" 52 yX5_within "TownRiverBeast", .fieldLinkNest "TownRiverBeast$Reader" 139 "TownRiverBeast" "ASK_LEAST" "[I" "TownRiverBeast", .fieldLinkNest "TownRiverBeast$Reader" 142 "TownRiverBeast" "ASK_MOST" "[I" "TownRiverBeast"]
def en_ln (i : Nat) : Nat := (en_by.getD i []).length
/-- the constants: static rows, String's static, the formatter, Strings, nest words -/
def en_K (cd : Nat → Nat → Nat) (A : Nat → Prop) (U : State) (H : Heap) : Prop :=
  (∀ i : Nat, i < 4 → va_Z "TownRiverBeast" (en_sn.getD i "") "[I" (.ref (cd 6 i)) A U H ∧ va_T .int (cd 6 i) ((en_sv.getD i []).length) (fun j => .int (Int32.ofInt ((en_sv.getD i []).getD j 0))) A U H) ∧
  va_Z "java/lang/String" "COMPACT_STRINGS" "Z" (.int 1) A U H ∧
  va_Z "jdk/internal/util/Preconditions" "SIOOBE_FORMATTER" "Ljava/util/function/BiFunction;" (match cd 10 0 with | 0 => .null | t + 1 => .ref t) A U H ∧
  (∀ q ∈ en_sr, vk_R (en_cn.getD q.1 "") q.2.1 (en_tx.getD q.2.2 "") (cd 7 q.2.2) U) ∧
  vk_S 9 (en_by.map List.length) (en_by.map (fun l => l.map Int32.ofInt)) (cd 7) (cd 8) A U H ∧
  ∀ w ∈ en_nest, va_Nw w U
/-- the world at a state -/
def en_Wd (ad : Nat → Nat) (cd : Nat → Nat → Nat) (D : va_G) (cs : Nat → ClassId) (M : Mm) (sz : Nat) (U : State) : Prop :=
  U.heap.size = sz ∧ va_P D vwCl (en_wd ad cs M) U.heap ∧ va_K D vwCl (en_tys cs) U ∧ va_D (fun _ => True) (en_wd ad cs M) ∧ en_K cd (va_A (en_wd ad cs M) sz) U U.heap
def en_agree (ad ad' : Nat → Nat) (M M' : Mm) : Prop := ∀ a, a ∈ en_pl M → a ∈ en_pl M' ∧ ad' a = ad a
def en_Q (post : Option AV → Mm → Prop) (ad : Nat → Nat) (cd : Nat → Nat → Nat) (D : va_G) (cs : Nat → ClassId) (M : Mm) (sz : Nat) : Array Value → State → Outcome → State → Prop := fun _ st o t =>
  (∃ (r : Option AV) (M' : Mm) (ad' : Nat → Nat), o = .returned (r.map (en_rv ad' cd)) ∧ post r M' ∧ (∀ v, r = some v → en_ok 0 M' v) ∧ en_agree ad ad' M M' ∧ va_P D vwCl (en_wd ad' cs M') t.heap ∧ va_D (va_A (en_wd ad cs M) sz) (en_wd ad' cs M')) ∧ va_F (va_A (en_wd ad cs M) sz) st t
def en_rm (h bu : Nat) : Room := { frames := h, cells := 37 * bu, slots := 932 * bu, locals := 64 * h }
/-- a method's contract: height h, at most bu new blocks -/
def en_Ct (h bu k : Nat) (as : List AV) (M : Mm) (post : Option AV → Mm → Prop) : Prop :=
  ∀ (l : Launch) (ad : Nat → Nat) (cd : Nat → Nat → Nat) (D : va_G) (cs : Nat → ClassId) (sz : Nat), (∀ v ∈ as, en_ok 0 M v) →
    Met l (en_m k).1 (en_ws k) (en_rm h bu) (va_Pc (as.map (en_rv ad cd)) (en_Wd ad cd D cs M sz)) (en_Q post ad cd D cs M sz) (37 * bu) (932 * bu) (va_A (en_wd ad cs M) sz)
/-- numbers of the machine's operations -/
def en_and (a b : Int) : Int := (Int32.ofInt a &&& Int32.ofInt b).toInt
def en_or (a b : Int) : Int := (Int32.ofInt a ||| Int32.ofInt b).toInt
def en_xor (a b : Int) : Int := (Int32.ofInt a ^^^ Int32.ofInt b).toInt
def en_shl (a b : Int) : Int := (Int32.ofInt a <<< (Int32.ofInt b &&& 31)).toInt
def en_shr (a b : Int) : Int := (Int32.ofInt a >>> (Int32.ofInt b &&& 31)).toInt
def en_ushr (a b : Int) : Int := (((Int32.ofInt a).toUInt32 >>> ((Int32.ofInt b).toUInt32 &&& Int32.toUInt32 31)).toInt32).toInt
def en_div (a b : Int) : Int := (Int32.ofInt a / Int32.ofInt b).toInt
def en_rem (a b : Int) : Int := (Int32.ofInt a - Int32.ofInt a / Int32.ofInt b * Int32.ofInt b).toInt
def en_i2b (a : Int) : Int := ((Int32.ofInt a).toInt8.toInt32).toInt
def en_i2s (a : Int) : Int := ((Int32.ofInt a).toInt16.toInt32).toInt
def en_i2c (a : Int) : Int := (((Int32.ofInt a).toUInt32 % 65536).toInt32).toInt
def en_lshl (a b : Int) : Int := (Int64.ofInt a <<< ((Int32.ofInt b).toInt64 &&& 63)).toInt
def en_lor (a b : Int) : Int := (Int64.ofInt a ||| Int64.ofInt b).toInt
def en_land (a b : Int) : Int := (Int64.ofInt a &&& Int64.ofInt b).toInt
def en_lcmp (a b : Int) : Int := if en_wl b < en_wl a then 1 else if en_wl a = en_wl b then 0 else -1
def en_if (b : Bool) (P : Prop) : Prop := match b with | true => P | false => False
def en_cat : AV → Nat
  | .inr (.inl _) => 2
  | _ => 1
def en_n9 : AV → Bool
  | .inr (.inr (9, _, _)) => false
  | _ => true
def en_sum (st : List AV) : Nat := (st.map en_cat).sum
/-- reading a local -/
def en_ld (ls : AL) (j : Nat) (k : AV → Prop) : Prop := match ls.getD j none with
  | some v => k v
  | none => False
def en_sto (ls : AL) (j : Nat) : Bool := Nat.blt j ls.length && (match j with | 0 => true | i + 1 => (match ls.getD i none with | some (.inr (.inl _)) => false | _ => true))
def en_pop : Nat → List AV → List AV → Option (List AV × List AV)
  | 0, acc, st => some (acc, st)
  | n + 1, acc, v :: st => en_pop n (v :: acc) st
  | _ + 1, _, [] => none
/-- a place in a row -/
def en_ix (i : Int) (n : Nat) (k : Nat → Prop) : Prop := ∃ j : Nat, i = (j : Int) ∧ j < n ∧ k j
def en_cmp : ClassFile.Cond → Int → Int → Prop
  | .eq, a, b => en_wr a = en_wr b
  | .ne, a, b => ¬ en_wr a = en_wr b
  | .lt, a, b => en_wr a < en_wr b
  | .ge, a, b => en_wr b ≤ en_wr a
  | .gt, a, b => en_wr b < en_wr a
  | .le, a, b => en_wr a ≤ en_wr b
/-- a switch: from place lo on -/
def en_tb (x lo : Int) (K : Nat → Prop) (d : Nat) : List Nat → Prop
  | [] => K d
  | t :: ts => (x = lo → K t) ∧ (¬ x = lo → en_tb x (lo + 1) K d ts)
abbrev AK : Type := AL → List AV → Mm → Nat → Prop
/-- what one instruction asks, k what the next ones ask, K what a jump's place asks -/
def en_st (h : Nat) (rt : Option FieldType) (sc : Nat × (Nat → Int)) (K : Nat → AK) (post : Option AV → Mm → Prop) (i : AI) (k : AK) (ls : AL) (st : List AV) (M : Mm) (bu : Nat) : Prop :=
  match i with
  | (.iconst n, _) => k ls (.inl n :: st) M bu
  | (.bipush n, _) => k ls (.inl n :: st) M bu
  | (.sipush n, _) => k ls (.inl n :: st) M bu
  | (.lconst n, _) => k ls (.inr (.inl (n : Nat)) :: st) M bu
  | (.ldc _, 0, _, v, _) => k ls (.inl v :: st) M bu
  | (.ldc _, _, n, _, _) => en_if (Nat.blt n 9) (k ls (.inr (.inr (7, n, 0)) :: st) M bu)
  | (.ldc_w _, _, _, v, _) => k ls (.inl v :: st) M bu
  | (.ldc2_w _, _, _, v, _) => k ls (.inr (.inl v) :: st) M bu
  | (.iload_n j, _) => en_ld ls j (fun v => match v with | .inl x => k ls (.inl x :: st) M bu | _ => False)
  | (.iload j, _) => en_ld ls j (fun v => match v with | .inl x => k ls (.inl x :: st) M bu | _ => False)
  | (.aload_n j, _) => en_ld ls j (fun v => match v with | .inr (.inr (c, n, a)) => en_if (Nat.ble 1 c && Nat.ble c 9) (k ls (.inr (.inr (c, n, a)) :: st) M bu) | _ => False)
  | (.aload j, _) => en_ld ls j (fun v => match v with | .inr (.inr (c, n, a)) => en_if (Nat.ble 1 c && Nat.ble c 9) (k ls (.inr (.inr (c, n, a)) :: st) M bu) | _ => False)
  | (.lload_n j, _) => en_ld ls j (fun v => match v with | .inr (.inl x) => k ls (.inr (.inl x) :: st) M bu | _ => False)
  | (.lload j, _) => en_ld ls j (fun v => match v with | .inr (.inl x) => k ls (.inr (.inl x) :: st) M bu | _ => False)
  | (.istore_n j, _) => (match st with | .inl x :: r => en_if (en_sto ls j) (k (ls.set j (some (.inl x))) r M bu) | _ => False)
  | (.istore j, _) => (match st with | .inl x :: r => en_if (en_sto ls j) (k (ls.set j (some (.inl x))) r M bu) | _ => False)
  | (.astore_n j, _) => (match st with | .inr (.inr (1, n, a)) :: r => en_if (en_sto ls j) (k (ls.set j (some (.inr (.inr (1, n, a))))) r M bu) | .inr (.inr (2, n, a)) :: r => en_if (en_sto ls j) (k (ls.set j (some (.inr (.inr (2, n, a))))) r M bu) | _ => False)
  | (.astore j, _) => (match st with | .inr (.inr (1, n, a)) :: r => en_if (en_sto ls j) (k (ls.set j (some (.inr (.inr (1, n, a))))) r M bu) | .inr (.inr (2, n, a)) :: r => en_if (en_sto ls j) (k (ls.set j (some (.inr (.inr (2, n, a))))) r M bu) | _ => False)
  | (.iinc j n, _) => en_ld ls j (fun v => match v with | .inl x => en_if (en_sto ls j) (k (ls.set j (some (.inl (x + n)))) st M bu) | _ => False)
  | (.iadd, _) => (match st with | .inl b :: .inl a :: r => k ls (.inl (a + b) :: r) M bu | _ => False)
  | (.isub, _) => (match st with | .inl b :: .inl a :: r => k ls (.inl (a - b) :: r) M bu | _ => False)
  | (.imul, _) => (match st with | .inl b :: .inl a :: r => k ls (.inl (a * b) :: r) M bu | _ => False)
  | (.ineg, _) => (match st with | .inl a :: r => k ls (.inl (-a) :: r) M bu | _ => False)
  | (.iand, _) => (match st with | .inl b :: .inl a :: r => k ls (.inl (en_and a b) :: r) M bu | _ => False)
  | (.ior, _) => (match st with | .inl b :: .inl a :: r => k ls (.inl (en_or a b) :: r) M bu | _ => False)
  | (.ixor, _) => (match st with | .inl b :: .inl a :: r => k ls (.inl (en_xor a b) :: r) M bu | _ => False)
  | (.ishl, _) => (match st with | .inl b :: .inl a :: r => k ls (.inl (en_shl a b) :: r) M bu | _ => False)
  | (.ishr, _) => (match st with | .inl b :: .inl a :: r => k ls (.inl (en_shr a b) :: r) M bu | _ => False)
  | (.iushr, _) => (match st with | .inl b :: .inl a :: r => k ls (.inl (en_ushr a b) :: r) M bu | _ => False)
  | (.idiv, _) => (match st with | .inl b :: .inl a :: r => ¬ en_wr b = 0 ∧ k ls (.inl (en_div a b) :: r) M bu | _ => False)
  | (.irem, _) => (match st with | .inl b :: .inl a :: r => ¬ en_wr b = 0 ∧ k ls (.inl (en_rem a b) :: r) M bu | _ => False)
  | (.i2l, _) => (match st with | .inl a :: r => k ls (.inr (.inl (en_wr a)) :: r) M bu | _ => False)
  | (.l2i, _) => (match st with | .inr (.inl a) :: r => k ls (.inl a :: r) M bu | _ => False)
  | (.i2b, _) => (match st with | .inl a :: r => k ls (.inl (en_i2b a) :: r) M bu | _ => False)
  | (.i2s, _) => (match st with | .inl a :: r => k ls (.inl (en_i2s a) :: r) M bu | _ => False)
  | (.i2c, _) => (match st with | .inl a :: r => k ls (.inl (en_i2c a) :: r) M bu | _ => False)
  | (.lshl, _) => (match st with | .inl b :: .inr (.inl a) :: r => k ls (.inr (.inl (en_lshl a b)) :: r) M bu | _ => False)
  | (.lor, _) => (match st with | .inr (.inl b) :: .inr (.inl a) :: r => k ls (.inr (.inl (en_lor a b)) :: r) M bu | _ => False)
  | (.land, _) => (match st with | .inr (.inl b) :: .inr (.inl a) :: r => k ls (.inr (.inl (en_land a b)) :: r) M bu | _ => False)
  | (.lcmp, _) => (match st with | .inr (.inl b) :: .inr (.inl a) :: r => k ls (.inl (en_lcmp a b) :: r) M bu | _ => False)
  | (.dup, _) => (match st with | v :: r => en_if (Nat.beq (en_cat v) 1) (k ls (v :: v :: r) M bu) | _ => False)
  | (.pop, _) => (match st with | v :: r => en_if (Nat.beq (en_cat v) 1) (k ls r M bu) | _ => False)
  | (.dup_x1, _) => (match st with | v :: w :: r => en_if (Nat.beq (en_cat v) 1 && Nat.beq (en_cat w) 1) (k ls (v :: w :: v :: r) M bu) | _ => False)
  | (.dup_x2, _) => (match st with | v :: w :: u :: r => en_if (Nat.beq (en_cat v) 1 && (Nat.beq (en_cat w) 1 && Nat.beq (en_cat u) 1)) (k ls (v :: w :: u :: v :: r) M bu) | _ => False)
  | (.dup2, _) => (match st with | v :: w :: r => en_if (Nat.beq (en_cat v) 1 && Nat.beq (en_cat w) 1) (k ls (v :: w :: v :: w :: r) M bu) | _ => False)
  | (.goto _, _, _, _, ts) => K (ts.getD 0 0) ls st M bu
  | (.nop, t, _) => K t ls st M bu
  | (.ifCond c _, _, _, _, ts) => (match st with | .inl a :: r => (en_cmp c a 0 → K (ts.getD 0 0) ls r M bu) ∧ (¬ en_cmp c a 0 → k ls r M bu) | _ => False)
  | (.if_icmp c _, _, _, _, ts) => (match st with | .inl b :: .inl a :: r => (en_cmp c a b → K (ts.getD 0 0) ls r M bu) ∧ (¬ en_cmp c a b → k ls r M bu) | _ => False)
  | (.ifnonnull _, _, _, _, ts) => (match st with | .inr (.inr (0, _, _)) :: r => k ls r M bu | .inr (.inr (1, _, _)) :: r => K (ts.getD 0 0) ls r M bu | _ => False)
  | (.tableswitch _ lo _ _, _, _, _, ts) => (match st with | .inl a :: r => en_tb (en_wr a) lo (fun t => K t ls r M bu) (ts.getD 0 0) (ts.drop 1) | _ => False)
  | (.getfield _, c, s, _, _) => (match st with
      | .inr (.inr (1, c', a)) :: r => en_if (Nat.beq c' c) (match (en_ft.getD c []).getD s (9, 0, 0, 0) with
          | (0, _) => k ls (.inl (M.1 a s) :: r) M bu
          | (1, _) => k ls (.inl (M.1 a s) :: r) M bu
          | (2, tk, tn, off) => k ls (.inr (.inr (tk, tn, a + off)) :: r) M bu
          | (3, tk, tn, off) => a = 84 ∧ (M.1 a s = 0 → k ls (.inr (.inr (0, 0, 0)) :: r) M bu) ∧ (¬ M.1 a s = 0 → k ls (.inr (.inr (tk, tn, a + off)) :: r) M bu)
          | _ => False)
      | .inr (.inr (7, n, _)) :: r => en_if (Nat.beq 100 c) (match s with | 0 => k ls (.inr (.inr (8, n, 0)) :: r) M bu | _ => k ls (.inl 0 :: r) M bu)
      | _ => False)
  | (.putfield _, c, s, _, _) => (match st with
      | .inl x :: .inr (.inr (1, c', a)) :: r => en_if (Nat.beq c' c) (match (en_ft.getD c []).getD s (9, 0, 0, 0) with
          | (0, _) => k ls r (en_wI M a s x) bu
          | (1, _) => (x = 0 ∨ x = 1) ∧ k ls r (en_wI M a s x) bu
          | _ => False)
      | _ => False)
  | (.getstatic _, n, _) => (match n with | 4 => k ls (.inl 1 :: st) M bu | 5 => k ls (.inr (.inr (10, 0, 0)) :: st) M bu | n => en_if (Nat.blt n 4) (k ls (.inr (.inr (6, n, 0)) :: st) M bu))
  | (.iaload, _) => (match st with
      | .inl i :: .inr (.inr (2, n, a)) :: r => en_ix i n (fun j => k ls (.inl (M.1 a j) :: r) M bu)
      | .inl i :: .inr (.inr (6, n, _)) :: r => en_ix i ((en_sv.getD n []).length) (fun j => k ls (.inl ((en_sv.getD n []).getD j 0) :: r) M bu)
      | .inl i :: .inr (.inr (9, n, _)) :: r => en_ix i n (fun j => k ls (.inl (sc.2 j) :: r) M bu)
      | _ => False)
  | (.baload, _) => (match st with
      | .inl i :: .inr (.inr (3, n, a)) :: r => en_ix i n (fun j => k ls (.inl (M.1 a j) :: r) M bu)
      | .inl i :: .inr (.inr (8, n, _)) :: r => en_ix i (en_ln n) (fun j => k ls (.inl ((en_by.getD n []).getD j 0) :: r) M bu)
      | _ => False)
  | (.laload, _) => (match st with | .inl i :: .inr (.inr (4, n, a)) :: r => en_ix i n (fun j => k ls (.inr (.inl (M.2 a j)) :: r) M bu) | _ => False)
  | (.aaload, _) => (match st with | .inl i :: .inr (.inr (5, n, a)) :: r => en_ix i (en_ra.getD n (0, 0, 0, 0, 0, 0)).1 (fun j => k ls (.inr (.inr ((en_ra.getD n (0, 0, 0, 0, 0, 0)).2.1, (en_ra.getD n (0, 0, 0, 0, 0, 0)).2.2.1, a + (en_ra.getD n (0, 0, 0, 0, 0, 0)).2.2.2.1 + (en_ra.getD n (0, 0, 0, 0, 0, 0)).2.2.2.2.1 * j)) :: r) M bu) | _ => False)
  | (.iastore, _) => (match st with | .inl x :: .inl i :: .inr (.inr (2, n, a)) :: r => en_ix i n (fun j => k ls r (en_wI M a j x) bu) | _ => False)
  | (.bastore, _) => (match st with | .inl x :: .inl i :: .inr (.inr (3, n, a)) :: r => (x = 0 ∨ x = 1) ∧ en_ix i n (fun j => k ls r (en_wI M a j x) bu) | _ => False)
  | (.lastore, _) => (match st with | .inr (.inl x) :: .inl i :: .inr (.inr (4, n, a)) :: r => en_ix i n (fun j => k ls r (en_wL M a j x) bu) | _ => False)
  | (.arraylength, _) => (match st with
      | .inr (.inr (2, n, _)) :: r => k ls (.inl (n : Nat) :: r) M bu
      | .inr (.inr (3, n, _)) :: r => k ls (.inl (n : Nat) :: r) M bu
      | .inr (.inr (4, n, _)) :: r => k ls (.inl (n : Nat) :: r) M bu
      | .inr (.inr (6, n, _)) :: r => k ls (.inl ((en_sv.getD n []).length : Nat) :: r) M bu
      | .inr (.inr (8, n, _)) :: r => k ls (.inl (en_ln n : Nat) :: r) M bu
      | .inr (.inr (9, n, _)) :: r => k ls (.inl (n : Nat) :: r) M bu
      | _ => False)
  | (.invokestatic _, m, n, _) => (match Nat.ble 1000 m with
      | true => (match m with
        | 1000 => (match st with
          | .inl n :: .inl dp :: .inr (.inr (2, n1, a1)) :: .inl sp :: .inr (.inr (2, n0, a0)) :: r => ∃ n' dp' sp' : Nat, n = n' ∧ dp = dp' ∧ sp = sp' ∧ sp' + n' ≤ n0 ∧ dp' + n' ≤ n1 ∧ en_if (Nat.ble (en_sum r) 8 && Nat.ble 1 h) (k ls r (en_cI M a0 a1 sp' dp' n') bu)
          | .inl n :: .inl dp :: .inr (.inr (4, n1, a1)) :: .inl sp :: .inr (.inr (4, n0, a0)) :: r => ∃ n' dp' sp' : Nat, n = n' ∧ dp = dp' ∧ sp = sp' ∧ sp' + n' ≤ n0 ∧ dp' + n' ≤ n1 ∧ en_if (Nat.ble (en_sum r) 8 && Nat.ble 1 h) (k ls r (en_cL M a0 a1 sp' dp' n') bu)
          | _ => False)
        | 1001 => (match st with | .inl b :: .inl a :: r => en_if (Nat.ble (en_sum r) 8 && Nat.ble 1 h) (k ls (.inl (if en_wr a < en_wr b then b else a) :: r) M bu) | _ => False)
        | 1002 => (match st with | .inl b :: .inl a :: r => en_if (Nat.ble (en_sum r) 8 && Nat.ble 1 h) (k ls (.inl (if en_wr b < en_wr a then b else a) :: r) M bu) | _ => False)
        | _ => False)
      | false => (match en_pop n [] st with
        | some (as, r) => en_if (Nat.ble (en_sum r) 8 && as.all en_n9) (∃ h' b', h' < h ∧ b' ≤ bu ∧ en_Ct h' b' m as M (fun v M' => match v with | some v => k ls (v :: r) M' (bu - b') | none => k ls r M' (bu - b')))
        | none => False))
  | (.invokevirtual _, m, n, _) => (match en_pop n [] st with
      | some (.inr (.inr (1, c, a)) :: as, r) => en_if (Nat.ble (en_sum r) 8 && (Nat.beq (en_m m).2.2.2.2.2.2 c && as.all en_n9)) (∃ h' b', h' < h ∧ b' ≤ bu ∧ en_Ct h' b' m (.inr (.inr (1, c, a)) :: as) M (fun v M' => match v with | some v => k ls (v :: r) M' (bu - b') | none => k ls r M' (bu - b')))
      | some (.inr (.inr (7, n, a)) :: as, r) => en_if (Nat.ble (en_sum r) 8 && (Nat.beq (en_m m).2.2.2.2.2.2 10 && as.all en_n9)) (∃ h' b', h' < h ∧ b' ≤ bu ∧ en_Ct h' b' m (.inr (.inr (7, n, a)) :: as) M (fun v M' => match v with | some v => k ls (v :: r) M' (bu - b') | none => k ls r M' (bu - b')))
      | _ => False)
  | (.ireturn, _) => (match st with
      | [.inl x] => (match rt with
          | some .int => post (some (.inl x)) M
          | some .boolean => (x = 0 ∨ x = 1) ∧ post (some (.inl x)) M
          | some .byte => (0 ≤ x ∧ x < 128) ∧ post (some (.inl x)) M
          | some .char => (0 ≤ x ∧ x < 128) ∧ post (some (.inl x)) M
          | _ => False)
      | _ => False)
  | (.lreturn, _) => (match st with | [.inr (.inl x)] => (match rt with | some .long => post (some (.inr (.inl x))) M | _ => False) | _ => False)
  | (.areturn, _) => (match st with | [.inr (.inr (1, n, a))] => (match rt with | some (.object _) => post (some (.inr (.inr (1, n, a)))) M | _ => False) | _ => False)
  | (.return_, _) => (match st with | [] => (match rt with | none => post none M | _ => False) | _ => False)
  | _ => False
def en_vc (h : Nat) (rt : Option FieldType) (sc : Nat × (Nat → Int)) (K : Nat → AK) (post : Option AV → Mm → Prop) : List AI → AK
  | [] => fun _ _ _ _ => False
  | i :: is => en_st h rt sc K post i (en_vc h rt sc K post is)
end
section
/-! rows on the world: places, writing, values -/
theorem en_if_t {b : Bool} {P : Prop} (h : en_if b P) : b = true ∧ P := by
  cases b with
  | true => exact ⟨rfl, h⟩
  | false => exact h.elim
theorem en_nodup (M : Mm) : (en_pl M).Nodup := by
  unfold en_pl
  by_cases h1 : M.1 84 25 = 0 <;> by_cases h2 : M.1 84 24 = 0 <;> simp only [h1, h2, if_true, if_false] <;> decide +kernel
theorem en_pl_lt {M : Mm} {a : Nat} (h : a ∈ en_pl M) : a < 195 := by
  unfold en_pl at h
  by_cases h1 : M.1 84 25 = 0 <;> by_cases h2 : M.1 84 24 = 0 <;> simp only [h1, h2, if_true, if_false] at h <;> simp at h <;> omega
theorem en_wd_at {ad : Nat → Nat} {cs : Nat → ClassId} {M : Mm} {a : Nat} (h : a ∈ en_pl M) : ∃ i : Nat, (en_pl M)[i]? = some a ∧ (en_wd ad cs M)[i]? = some (ad a, en_cell ad cs M a) := by
  obtain ⟨i, hi⟩ := List.getElem?_of_mem h
  exact ⟨i, hi, by unfold en_wd; rw [List.getElem?_map, hi]; rfl⟩
theorem en_wd_set {ad : Nat → Nat} {cs : Nat → ClassId} {M M' : Mm} {a i : Nat} (hi : (en_pl M)[i]? = some a) (hp : en_pl M' = en_pl M) (hc : ∀ b, b ≠ a → en_cell ad cs M' b = en_cell ad cs M b) : (en_wd ad cs M).set i (ad a, en_cell ad cs M' a) = en_wd ad cs M' := by
  apply List.ext_getElem?
  intro k
  unfold en_wd
  rw [hp]
  by_cases hk : k = i
  · subst hk
    have hl := (List.getElem?_eq_some_iff.mp hi).1
    rw [List.getElem?_set_self (by rw [List.length_map]; exact hl), List.getElem?_map, hi]
    rfl
  · rw [List.getElem?_set_ne (Ne.symm hk), List.getElem?_map, List.getElem?_map]
    cases hb : (en_pl M)[k]? with
    | none => rfl
    | some b =>
      have hne : b ≠ a := by
        intro e
        subst e
        have h1 := (List.getElem?_eq_some_iff.mp hb)
        have h2 := (List.getElem?_eq_some_iff.mp hi)
        have hn := List.pairwise_iff_getElem.mp (en_nodup M)
        rcases Nat.lt_trichotomy k i with q | q | q
        · exact hn k i h1.1 h2.1 q (h1.2.trans h2.2.symm)
        · exact hk q
        · exact hn i k h2.1 h1.1 q (h2.2.trans h1.2.symm)
      simp only [Option.map_some]
      rw [hc b hne]
theorem en_fv_congr {ad : Nat → Nat} {M M' : Mm} {a k : Nat} (h1 : M'.1 a = M.1 a) (t : Nat × Nat × Nat × Nat) : en_fv ad M' a k t = en_fv ad M a k t := by
  unfold en_fv
  rw [h1]
theorem en_fs_congr {ad : Nat → Nat} {M M' : Mm} {a c : Nat} (h1 : M'.1 a = M.1 a) : en_fs ad M' a c = en_fs ad M a c := by
  unfold en_fs
  apply List.map_congr_left
  intro q _
  exact en_fv_congr h1 _
theorem en_cell_congr {ad : Nat → Nat} {cs : Nat → ClassId} {M M' : Mm} {a : Nat} (h1 : M'.1 a = M.1 a) (h2 : M'.2 a = M.2 a) : en_cell ad cs M' a = en_cell ad cs M a := by
  unfold en_cell
  simp only [en_fs_congr h1, h1, h2]
theorem en_wI_ne {M : Mm} {a j : Nat} {x : Int} {b : Nat} (h : b ≠ a) : (en_wI M a j x).1 b = M.1 b := by simp [en_wI, h]
theorem en_wI_2 {M : Mm} {a j : Nat} {x : Int} : (en_wI M a j x).2 = M.2 := rfl
theorem en_wL_1 {M : Mm} {a j : Nat} {x : Int} : (en_wL M a j x).1 = M.1 := rfl
theorem en_wL_ne {M : Mm} {a j : Nat} {x : Int} {b : Nat} (h : b ≠ a) : (en_wL M a j x).2 b = M.2 b := by simp [en_wL, h]
theorem en_wI_at {M : Mm} {a j i : Nat} {x : Int} : (en_wI M a j x).1 a i = if i = j then x else M.1 a i := by simp [en_wI]
theorem en_wL_at {M : Mm} {a j i : Nat} {x : Int} : (en_wL M a j x).2 a i = if i = j then x else M.2 a i := by simp [en_wL]
theorem en_pl_eq {M M' : Mm} (h1 : M'.1 84 25 = M.1 84 25) (h2 : M'.1 84 24 = M.1 84 24) : en_pl M' = en_pl M := by
  unfold en_pl
  rw [h1, h2]
theorem en_pl_wI {M : Mm} {a j : Nat} {x : Int} (h : a = 84 → j ≠ 24 ∧ j ≠ 25) : en_pl (en_wI M a j x) = en_pl M := by
  by_cases ha : a = 84
  · subst ha
    obtain ⟨h1, h2⟩ := h rfl
    exact en_pl_eq (by rw [en_wI_at, if_neg (Ne.symm h2)]) (by rw [en_wI_at, if_neg (Ne.symm h1)])
  · exact en_pl_eq (by rw [en_wI_ne (Ne.symm ha)]) (by rw [en_wI_ne (Ne.symm ha)])
theorem en_pl_wL {M : Mm} {a j : Nat} {x : Int} : en_pl (en_wL M a j x) = en_pl M := rfl
theorem en_pl_cI {M : Mm} {a0 a1 sp dp n : Nat} (h : a1 ≠ 84) : en_pl (en_cI M a0 a1 sp dp n) = en_pl M := en_pl_eq (by simp [en_cI, Ne.symm h]) (by simp [en_cI, Ne.symm h])
theorem en_pl_cL {M : Mm} {a0 a1 sp dp n : Nat} : en_pl (en_cL M a0 a1 sp dp n) = en_pl M := rfl
theorem en_ok_mono {sL : Nat} {M M' : Mm} {v : AV} (h : en_ok sL M v) (hp : ∀ a, a ∈ en_pl M → a ∈ en_pl M') : en_ok sL M' v := by
  obtain i | j | ⟨k, n, a⟩ := v
  · trivial
  · trivial
  · cases k with
    | zero => trivial
    | succ k =>
      rcases h with ⟨h1, h2, h3⟩ | h
      · exact Or.inl ⟨h1, h2, hp _ h3⟩
      · exact Or.inr h
theorem en_ok_0 {sL : Nat} {M : Mm} {v : AV} (h : en_ok sL M v) (h9 : en_n9 v = true) : en_ok 0 M v := by
  obtain i | j | ⟨k, n, a⟩ := v
  · trivial
  · trivial
  · cases k with
    | zero => trivial
    | succ k =>
      rcases h with h | h | h | h | ⟨h, -⟩ | h
      · exact Or.inl h
      · exact Or.inr (Or.inl h)
      · exact Or.inr (Or.inr (Or.inl h))
      · exact Or.inr (Or.inr (Or.inr (Or.inl h)))
      · rw [h] at h9; cases h9
      · exact Or.inr (Or.inr (Or.inr (Or.inr (Or.inr h))))
theorem en_ok_up {sL : Nat} {M : Mm} {v : AV} (h : en_ok 0 M v) : en_ok sL M v := by
  obtain i | j | ⟨k, n, a⟩ := v
  · trivial
  · trivial
  · cases k with
    | zero => trivial
    | succ k =>
      rcases h with h | h | h | h | ⟨-, h⟩ | h
      · exact Or.inl h
      · exact Or.inr (Or.inl h)
      · exact Or.inr (Or.inr (Or.inl h))
      · exact Or.inr (Or.inr (Or.inr (Or.inl h)))
      · omega
      · exact Or.inr (Or.inr (Or.inr (Or.inr (Or.inr h))))
theorem en_rv_agree {sL : Nat} {ad ad' : Nat → Nat} {cd : Nat → Nat → Nat} {M M' : Mm} {v : AV} (h : en_ok sL M v) (hg : en_agree ad ad' M M') : en_rv ad' cd v = en_rv ad cd v := by
  obtain i | j | ⟨k, n, a⟩ := v
  · rfl
  · rfl
  · match k, h with
    | 0, _ => rfl
    | 1, h => rcases h with ⟨-, -, h⟩ | h | h | h | h | h <;> first | exact congrArg Value.ref (hg a h).2 | omega
    | 2, h => rcases h with ⟨-, -, h⟩ | h | h | h | h | h <;> first | exact congrArg Value.ref (hg a h).2 | omega
    | 3, h => rcases h with ⟨-, -, h⟩ | h | h | h | h | h <;> first | exact congrArg Value.ref (hg a h).2 | omega
    | 4, h => rcases h with ⟨-, -, h⟩ | h | h | h | h | h <;> first | exact congrArg Value.ref (hg a h).2 | omega
    | 5, h => rcases h with ⟨-, -, h⟩ | h | h | h | h | h <;> first | exact congrArg Value.ref (hg a h).2 | omega
    | 6, _ => rfl
    | 7, _ => rfl
    | 8, _ => rfl
    | 9, _ => rfl
    | k + 10, _ => rfl
theorem en_agree_refl {ad : Nat → Nat} {M M' : Mm} (hp : en_pl M' = en_pl M) : en_agree ad ad M M' := fun a h => ⟨hp ▸ h, rfl⟩
theorem en_agree_trans {ad ad' ad'' : Nat → Nat} {M M' M'' : Mm} (h1 : en_agree ad ad' M M') (h2 : en_agree ad' ad'' M' M'') : en_agree ad ad'' M M'' := fun a h => ⟨(h2 a (h1 a h).1).1, (h2 a (h1 a h).1).2.trans (h1 a h).2⟩
theorem en_cat_eq (ad : Nat → Nat) (cd : Nat → Nat → Nat) (v : AV) : (en_rv ad cd v).category = en_cat v := by
  obtain i | j | ⟨k, n, a⟩ := v
  · rfl
  · rfl
  · match k with
    | 0 => rfl
    | 1 => rfl
    | 2 => rfl
    | 3 => rfl
    | 4 => rfl
    | 5 => rfl
    | 6 => rfl
    | 7 => rfl
    | 8 => rfl
    | 9 => rfl
    | k + 10 =>
      show (match cd 10 0 with | 0 => Value.null | t + 1 => .ref t).category = 1
      cases cd 10 0 <;> rfl
theorem en_sum_eq (ad : Nat → Nat) (cd : Nat → Nat → Nat) (st : List AV) : ((st.map (en_rv ad cd)).map fun v => v.category).sum = en_sum st := by
  unfold en_sum
  rw [List.map_map]
  congr 1
  apply List.map_congr_left
  intro v _
  exact en_cat_eq ad cd v
/-- places below 195: what is checked once -/
def en_chk (a : Nat) : Bool := match en_lay.getD a (0, 0) with
  | (1, c) => ((en_ft.getD c []).all (fun t => match t with
      | (2, tk, tn, off) => decide (1 ≤ tk ∧ tk ≤ 5) && (decide (en_lay[a + off]? = some (tk, tn)) && (decide (a < 121 ∧ a + off < 121) || (decide (121 ≤ a ∧ a < 158 ∧ a + off < 158) || decide (158 ≤ a ∧ a + off < 195))))
      | _ => true)) && decide ((vwCl[c]?).map (fun q => q.2.2) = some (en_ft.getD c []).length)
  | (5, n) => match en_ra.getD n (0, 0, 0, 0, 0, 0) with
      | (len, ek, en, off, sd, _) => decide (1 ≤ ek ∧ ek ≤ 5) && (List.range len).all (fun j => decide (en_lay[a + off + sd * j]? = some (ek, en)) && (decide (a < 121 ∧ a + off + sd * j < 121) || (decide (121 ≤ a ∧ a < 158 ∧ a + off + sd * j < 158) || decide (158 ≤ a ∧ a + off + sd * j < 195))))
  | _ => true
theorem en_chk_all : (List.range 195).all en_chk = true := by decide +kernel
theorem en_chk_at {a : Nat} (h : a < 195) : en_chk a = true := List.all_eq_true.mp en_chk_all a (List.mem_range.mpr h)
theorem en_pl_same {M : Mm} {a b : Nat} (h : a ∈ en_pl M) (hb : (a < 121 ∧ b < 121) ∨ (121 ≤ a ∧ a < 158 ∧ 121 ≤ b ∧ b < 158) ∨ (158 ≤ a ∧ 158 ≤ b ∧ b < 195)) : b ∈ en_pl M := by
  unfold en_pl at h ⊢
  by_cases h1 : M.1 84 25 = 0 <;> by_cases h2 : M.1 84 24 = 0 <;> simp only [h1, h2, if_true, if_false] at h ⊢ <;> simp at h ⊢ <;> first | omega | (rcases hb with hb | hb | hb <;> first | omega | (refine Or.inl ?_; omega) | (refine Or.inr (Or.inl ⟨b - 121, ?_, ?_⟩) <;> omega) | (refine Or.inr (Or.inr ⟨b - 158, ?_, ?_⟩) <;> omega) | (refine Or.inr ⟨b - 121, ?_, ?_⟩ <;> omega) | (refine Or.inr ⟨b - 158, ?_, ?_⟩ <;> omega))
end
section
/-! what the engine stands on: the frame of a method's walk, and each instruction -/
def en_Fx (p : Program) (R : Room) (s : State) (m : MethodId) (args : Array Value) (c : Code) (cc : ByteArray) (own : String) (nL h bu0 : Nat) (A : Nat → Prop) (cd : Nat → Nat → Nat) (D : va_G) (cs : Nat → ClassId) (sc : Nat × (Nat → Int)) : Prop :=
  p.tables.exec = Jvm.exec ∧ c.code = cc ∧ c.maxLocals = nL ∧ s.vm.findClass own = some m.cls ∧ (∀ w ∈ en_gw, w.before args s = true) ∧ va_K D vwCl (en_tys cs) s ∧ en_K cd A s s.heap ∧ (h ≤ R.frames ∧ 64 * h ≤ R.locals ∧ 37 * bu0 ≤ R.cells ∧ 932 * bu0 ≤ R.slots) ∧ (∀ q : Nat, s.heap.size ≤ q → A q) ∧ (∀ L : Nat, L + 1 = sc.1 → va_X (cd 9 0) L (fun j => Int32.ofInt (sc.2 j)) s s.heap ∧ cd 9 0 < s.heap.size ∧ ¬ A (cd 9 0) ∧ L < 2 ^ 31)
def en_In (s : State) (nL : Nat) (A : Nat → Prop) (cd : Nat → Nat → Nat) (D : va_G) (cs : Nat → ClassId) (ad0 : Nat → Nat) (M0 : Mm) (sL : Nat) (ad : Nat → Nat) (H : Heap) (locs : List Loc) (lsA : Array Slot) (ls : AL) (st : List AV) (M : Mm) : Prop :=
  lsA.size = nL ∧ lv_wf lsA ∧ ls.length = nL ∧ (∀ (i : Nat) (v : AV), ls.getD i none = some v → lsA[i]? = some (.val (en_rv ad cd v)) ∧ en_ok sL M v) ∧ (∀ v ∈ st, en_ok sL M v) ∧ va_P D vwCl (en_wd ad cs M) H ∧ va_D A (en_wd ad cs M) ∧ va_S A s.heap H locs ∧ en_agree ad0 ad M0 M
def en_At (p : Program) (l : Launch) (e : Env) (R : Room) (s : State) (m : MethodId) (args : Array Value) (below : List Frame) (meth : Method) (c : Code) (Q : State → Prop) (nL : Nat) (A : Nat → Prop) (cd : Nat → Nat → Nat) (D : va_G) (cs : Nat → ClassId) (ad0 : Nat → Nat) (M0 : Mm) (sL bu0 : Nat) (pc : Nat) : AK := fun ls st M bu =>
  bu ≤ bu0 → ∀ (ad : Nat → Nat) (H : Heap) (locs : List Loc) (lsA : Array Slot), en_In s nL A cd D cs ad0 M0 sL ad H locs lsA ls st M → W p l e R s m args below meth c H locs (37 * (bu0 - bu)) (932 * (bu0 - bu)) Q (F0 m pc lsA (st.map (en_rv ad cd)))
theorem en_In.stk {s : State} {nL : Nat} {A : Nat → Prop} {cd : Nat → Nat → Nat} {D : va_G} {cs : Nat → ClassId} {ad0 : Nat → Nat} {M0 : Mm} {sL : Nat} {ad : Nat → Nat} {H : Heap} {locs : List Loc} {lsA : Array Slot} {ls : AL} {st st' : List AV} {M : Mm} (I : en_In s nL A cd D cs ad0 M0 sL ad H locs lsA ls st M) (h : ∀ v ∈ st', en_ok sL M v) : en_In s nL A cd D cs ad0 M0 sL ad H locs lsA ls st' M :=
  ⟨I.1, I.2.1, I.2.2.1, I.2.2.2.1, h, I.2.2.2.2.2⟩
theorem en_In.tl {s : State} {nL : Nat} {A : Nat → Prop} {cd : Nat → Nat → Nat} {D : va_G} {cs : Nat → ClassId} {ad0 : Nat → Nat} {M0 : Mm} {sL : Nat} {ad : Nat → Nat} {H : Heap} {locs : List Loc} {lsA : Array Slot} {ls : AL} {v : AV} {st : List AV} {M : Mm} (I : en_In s nL A cd D cs ad0 M0 sL ad H locs lsA ls (v :: st) M) : en_In s nL A cd D cs ad0 M0 sL ad H locs lsA ls st M := I.stk (fun u hu => I.2.2.2.2.1 u (List.mem_cons_of_mem _ hu))
theorem en_In.hd {s : State} {nL : Nat} {A : Nat → Prop} {cd : Nat → Nat → Nat} {D : va_G} {cs : Nat → ClassId} {ad0 : Nat → Nat} {M0 : Mm} {sL : Nat} {ad : Nat → Nat} {H : Heap} {locs : List Loc} {lsA : Array Slot} {ls : AL} {v : AV} {st : List AV} {M : Mm} (I : en_In s nL A cd D cs ad0 M0 sL ad H locs lsA ls (v :: st) M) : en_ok sL M v := I.2.2.2.2.1 v List.mem_cons_self
theorem en_In.pu {s : State} {nL : Nat} {A : Nat → Prop} {cd : Nat → Nat → Nat} {D : va_G} {cs : Nat → ClassId} {ad0 : Nat → Nat} {M0 : Mm} {sL : Nat} {ad : Nat → Nat} {H : Heap} {locs : List Loc} {lsA : Array Slot} {ls : AL} {v : AV} {st : List AV} {M : Mm} (I : en_In s nL A cd D cs ad0 M0 sL ad H locs lsA ls st M) (h : en_ok sL M v) : en_In s nL A cd D cs ad0 M0 sL ad H locs lsA ls (v :: st) M := I.stk (fun u hu => by
  rcases List.mem_cons.mp hu with rfl | hu
  · exact h
  · exact I.2.2.2.2.1 u hu)
theorem en_okI (sL : Nat) (M : Mm) (x : Int) : en_ok sL M (.inl x) := trivial
theorem en_okL (sL : Nat) (M : Mm) (x : Int) : en_ok sL M (.inr (.inl x)) := trivial
theorem en_wr_of {x : Int} (h : en_rng x) : en_wr x = x := Int32.toInt_ofInt_of_le (by have := h.1; omega) (by have := h.2; omega)
theorem en_ofI_wr (x : Int) : Int32.ofInt (en_wr x) = Int32.ofInt x := Int32.ofInt_toInt _
theorem en_ix_in {j n : Nat} (h : j < n) (hn : n < 2 ^ 31) : vp_in (Int32.ofInt (j : Int)) n ∧ (Int32.ofInt (j : Int)).toNatClampNeg = j := by
  have e : Int32.ofInt (j : Int) = nI j := by
    show Int32.ofInt (j : Int) = Int32.ofNat j
    rw [Int32.ofInt_eq_ofNat]
  rw [e]
  exact ⟨vp_in_nI h hn, nI_clamp (by omega)⟩
section EN1
variable {ad : Nat → Nat} {H : Heap} {locs : List Loc} {lsA : Array Slot}
variable {p : Program} {l : Launch} {e : Env} {R : Room} {s : State} {m : MethodId} {args : Array Value} {below : List Frame} {meth : Method} {c : Code} {Q : State → Prop} {cc : ByteArray} {own : String} {nL h bu0 : Nat} {A : Nat → Prop} {cd : Nat → Nat → Nat} {D : va_G} {cs : Nat → ClassId} {sc : Nat × (Nat → Int)} {ad0 : Nat → Nat} {M0 : Mm} {pc : Nat} {ls : AL} {st r : List AV} {M : Mm} {bu : Nat} {k : AK} {K : Nat → AK}
theorem en_s_iconst (X : en_Fx p R s m args c cc own nL h bu0 A cd D cs sc) {n : Int} (hdg : decode cc pc = .ok (.iconst n, 1)) (hk : ∀ ls st M bu, k ls st M bu → en_At p l e R s m args below meth c Q nL A cd D cs ad0 M0 sc.1 bu0 (pc + 1) ls st M bu) (hs : k ls (.inl n :: st) M bu) : en_At p l e R s m args below meth c Q nL A cd D cs ad0 M0 sc.1 bu0 pc ls st M bu := by
  intro hb ad H locs lsA I
  exact lv_iconst X.1 X.2.1 hdg rfl (hk _ _ _ _ hs hb ad H locs lsA (I.pu (en_okI _ _ _)))
theorem en_s_bipush (X : en_Fx p R s m args c cc own nL h bu0 A cd D cs sc) {n : Int} (hdg : decode cc pc = .ok (.bipush n, 2)) (hn : (Int8.ofInt n).toInt32 = Int32.ofInt n) (hk : ∀ ls st M bu, k ls st M bu → en_At p l e R s m args below meth c Q nL A cd D cs ad0 M0 sc.1 bu0 (pc + 2) ls st M bu) (hs : k ls (.inl n :: st) M bu) : en_At p l e R s m args below meth c Q nL A cd D cs ad0 M0 sc.1 bu0 pc ls st M bu := by
  intro hb ad H locs lsA I
  exact lv_bipush X.1 X.2.1 hdg hn (hk _ _ _ _ hs hb ad H locs lsA (I.pu (en_okI _ _ _)))
theorem en_s_sipush (X : en_Fx p R s m args c cc own nL h bu0 A cd D cs sc) {n : Int} (hdg : decode cc pc = .ok (.sipush n, 3)) (hn : (Int16.ofInt n).toInt32 = Int32.ofInt n) (hk : ∀ ls st M bu, k ls st M bu → en_At p l e R s m args below meth c Q nL A cd D cs ad0 M0 sc.1 bu0 (pc + 3) ls st M bu) (hs : k ls (.inl n :: st) M bu) : en_At p l e R s m args below meth c Q nL A cd D cs ad0 M0 sc.1 bu0 pc ls st M bu := by
  intro hb ad H locs lsA I
  exact lv_sipush X.1 X.2.1 hdg hn (hk _ _ _ _ hs hb ad H locs lsA (I.pu (en_okI _ _ _)))
theorem en_s_lconst (X : en_Fx p R s m args c cc own nL h bu0 A cd D cs sc) {n : Fin 2} (hdg : decode cc pc = .ok (.lconst n, 1)) (hk : ∀ ls st M bu, k ls st M bu → en_At p l e R s m args below meth c Q nL A cd D cs ad0 M0 sc.1 bu0 (pc + 1) ls st M bu) (hs : k ls (.inr (.inl ((n : Nat) : Int)) :: st) M bu) : en_At p l e R s m args below meth c Q nL A cd D cs ad0 M0 sc.1 bu0 pc ls st M bu := by
  intro hb ad H locs lsA I
  exact lv_lconst (v := Int64.ofInt ((n : Nat) : Int)) X.1 X.2.1 hdg (by rw [Int64.ofInt_eq_ofNat]) (hk _ _ _ _ hs hb ad H locs lsA (I.pu (en_okL _ _ _)))
theorem en_s_ldc (X : en_Fx p R s m args c cc own nL h bu0 A cd D cs sc) {i : Nat} {v : Int} (hw : Cond.constant own i (Int32.ofInt v) ∈ en_gw) (hdg : decode cc pc = .ok (.ldc i, 2)) (hk : ∀ ls st M bu, k ls st M bu → en_At p l e R s m args below meth c Q nL A cd D cs ad0 M0 sc.1 bu0 (pc + 2) ls st M bu) (hs : k ls (.inl v :: st) M bu) : en_At p l e R s m args below meth c Q nL A cd D cs ad0 M0 sc.1 bu0 pc ls st M bu := by
  intro hb ad H locs lsA I
  exact lv_ldc X.1 X.2.1 X.2.2.2.1 (X.2.2.2.2.1 _ hw) hdg (hk _ _ _ _ hs hb ad H locs lsA (I.pu (en_okI _ _ _)))
theorem en_s_ldcw (X : en_Fx p R s m args c cc own nL h bu0 A cd D cs sc) {i : Nat} {v : Int} (hw : Cond.constant own i (Int32.ofInt v) ∈ en_gw) (hdg : decode cc pc = .ok (.ldc_w i, 3)) (hk : ∀ ls st M bu, k ls st M bu → en_At p l e R s m args below meth c Q nL A cd D cs ad0 M0 sc.1 bu0 (pc + 3) ls st M bu) (hs : k ls (.inl v :: st) M bu) : en_At p l e R s m args below meth c Q nL A cd D cs ad0 M0 sc.1 bu0 pc ls st M bu := by
  intro hb ad H locs lsA I
  exact lv_ldcw X.1 X.2.1 X.2.2.2.1 (X.2.2.2.2.1 _ hw) hdg (hk _ _ _ _ hs hb ad H locs lsA (I.pu (en_okI _ _ _)))
theorem en_s_ldc2 (X : en_Fx p R s m args c cc own nL h bu0 A cd D cs sc) {i : Nat} {v : Int} (hw : Cond.constantLong own i (Int64.ofInt v) ∈ en_gw) (hdg : decode cc pc = .ok (.ldc2_w i, 3)) (hk : ∀ ls st M bu, k ls st M bu → en_At p l e R s m args below meth c Q nL A cd D cs ad0 M0 sc.1 bu0 (pc + 3) ls st M bu) (hs : k ls (.inr (.inl v) :: st) M bu) : en_At p l e R s m args below meth c Q nL A cd D cs ad0 M0 sc.1 bu0 pc ls st M bu := by
  intro hb ad H locs lsA I
  exact lv_ldc2 X.1 X.2.1 X.2.2.2.1 (X.2.2.2.2.1 _ hw) hdg (hk _ _ _ _ hs hb ad H locs lsA (I.pu (en_okL _ _ _)))
theorem en_s_ldcS (X : en_Fx p R s m args c cc own nL h bu0 A cd D cs sc) {i o n : Nat} (ho : en_cn.getD o "" = own) (hw : (o, i, n) ∈ en_sr) (hn : n < 9) (hdg : decode cc pc = .ok (.ldc i, 2)) (hk : ∀ ls st M bu, k ls st M bu → en_At p l e R s m args below meth c Q nL A cd D cs ad0 M0 sc.1 bu0 (pc + 2) ls st M bu) (hs : k ls (.inr (.inr (7, n, 0)) :: st) M bu) : en_At p l e R s m args below meth c Q nL A cd D cs ad0 M0 sc.1 bu0 pc ls st M bu := by
  intro hb ad H locs lsA I
  have hz := X.2.2.2.2.2.2.1.2.2.2.1 _ hw
  rw [ho] at hz
  exact va_ldcS X.1 X.2.1 X.2.2.2.1 hz hdg (hk _ _ _ _ hs hb ad H locs lsA (I.pu (Or.inr (Or.inr (Or.inl ⟨rfl, hn⟩)))))
theorem en_ld_get {ls : AL} {j : Nat} {kk : AV → Prop} (h : en_ld ls j kk) : ∃ v, ls.getD j none = some v ∧ kk v := by
  unfold en_ld at h
  cases hv : ls.getD j none with
  | none => rw [hv] at h; exact h.elim
  | some v => rw [hv] at h; exact ⟨v, rfl, h⟩
/-- a local's value, whatever its kind, by the machine's three loads -/
theorem en_s_iload (X : en_Fx p R s m args c cc own nL h bu0 A cd D cs sc) {j : Nat} (hdg : decode cc pc = .ok (.iload j, 2)) (hk : ∀ ls st M bu, k ls st M bu → en_At p l e R s m args below meth c Q nL A cd D cs ad0 M0 sc.1 bu0 (pc + 2) ls st M bu) {v : AV} (hi : ∃ x, v = .inl x) (hl : ls.getD j none = some v) (hs : k ls (v :: st) M bu) : en_At p l e R s m args below meth c Q nL A cd D cs ad0 M0 sc.1 bu0 pc ls st M bu := by
  intro hb ad H locs lsA I
  obtain ⟨x, rfl⟩ := hi
  obtain ⟨h1, h2⟩ := I.2.2.2.1 _ _ hl
  exact lv_iload X.1 X.2.1 hdg h1 (hk _ _ _ _ hs hb ad H locs lsA (I.pu h2))
theorem en_s_iload_n (X : en_Fx p R s m args c cc own nL h bu0 A cd D cs sc) {j : Fin 4} (hdg : decode cc pc = .ok (.iload_n j, 1)) (hk : ∀ ls st M bu, k ls st M bu → en_At p l e R s m args below meth c Q nL A cd D cs ad0 M0 sc.1 bu0 (pc + 1) ls st M bu) {v : AV} (hi : ∃ x, v = .inl x) (hl : ls.getD j none = some v) (hs : k ls (v :: st) M bu) : en_At p l e R s m args below meth c Q nL A cd D cs ad0 M0 sc.1 bu0 pc ls st M bu := by
  intro hb ad H locs lsA I
  obtain ⟨x, rfl⟩ := hi
  obtain ⟨h1, h2⟩ := I.2.2.2.1 _ _ hl
  exact lv_iload_n X.1 X.2.1 hdg rfl h1 (hk _ _ _ _ hs hb ad H locs lsA (I.pu h2))
theorem en_s_lload (X : en_Fx p R s m args c cc own nL h bu0 A cd D cs sc) {j : Nat} (hdg : decode cc pc = .ok (.lload j, 2)) (hk : ∀ ls st M bu, k ls st M bu → en_At p l e R s m args below meth c Q nL A cd D cs ad0 M0 sc.1 bu0 (pc + 2) ls st M bu) {v : AV} (hi : ∃ x, v = .inr (.inl x)) (hl : ls.getD j none = some v) (hs : k ls (v :: st) M bu) : en_At p l e R s m args below meth c Q nL A cd D cs ad0 M0 sc.1 bu0 pc ls st M bu := by
  intro hb ad H locs lsA I
  obtain ⟨x, rfl⟩ := hi
  obtain ⟨h1, h2⟩ := I.2.2.2.1 _ _ hl
  exact lv_lload X.1 X.2.1 hdg h1 (hk _ _ _ _ hs hb ad H locs lsA (I.pu h2))
theorem en_s_lload_n (X : en_Fx p R s m args c cc own nL h bu0 A cd D cs sc) {j : Fin 4} (hdg : decode cc pc = .ok (.lload_n j, 1)) (hk : ∀ ls st M bu, k ls st M bu → en_At p l e R s m args below meth c Q nL A cd D cs ad0 M0 sc.1 bu0 (pc + 1) ls st M bu) {v : AV} (hi : ∃ x, v = .inr (.inl x)) (hl : ls.getD j none = some v) (hs : k ls (v :: st) M bu) : en_At p l e R s m args below meth c Q nL A cd D cs ad0 M0 sc.1 bu0 pc ls st M bu := by
  intro hb ad H locs lsA I
  obtain ⟨x, rfl⟩ := hi
  obtain ⟨h1, h2⟩ := I.2.2.2.1 _ _ hl
  exact lv_lload_n X.1 X.2.1 hdg rfl h1 (hk _ _ _ _ hs hb ad H locs lsA (I.pu h2))
theorem en_s_aload (X : en_Fx p R s m args c cc own nL h bu0 A cd D cs sc) {j : Nat} (hdg : decode cc pc = .ok (.aload j, 2)) (hk : ∀ ls st M bu, k ls st M bu → en_At p l e R s m args below meth c Q nL A cd D cs ad0 M0 sc.1 bu0 (pc + 2) ls st M bu) {v : AV} (hi : ∀ ad, ∃ x, en_rv ad cd v = .ref x) (hl : ls.getD j none = some v) (hs : k ls (v :: st) M bu) : en_At p l e R s m args below meth c Q nL A cd D cs ad0 M0 sc.1 bu0 pc ls st M bu := by
  intro hb ad H locs lsA I
  obtain ⟨x, hx⟩ := hi ad
  obtain ⟨h1, h2⟩ := I.2.2.2.1 _ _ hl
  have hh := hk _ _ _ _ hs hb ad H locs lsA (I.pu h2)
  rw [List.map_cons, hx] at hh
  rw [hx] at h1
  exact lv_aload X.1 X.2.1 hdg h1 hh
theorem en_s_aload_n (X : en_Fx p R s m args c cc own nL h bu0 A cd D cs sc) {j : Fin 4} (hdg : decode cc pc = .ok (.aload_n j, 1)) (hk : ∀ ls st M bu, k ls st M bu → en_At p l e R s m args below meth c Q nL A cd D cs ad0 M0 sc.1 bu0 (pc + 1) ls st M bu) {v : AV} (hi : ∀ ad, ∃ x, en_rv ad cd v = .ref x) (hl : ls.getD j none = some v) (hs : k ls (v :: st) M bu) : en_At p l e R s m args below meth c Q nL A cd D cs ad0 M0 sc.1 bu0 pc ls st M bu := by
  intro hb ad H locs lsA I
  obtain ⟨x, hx⟩ := hi ad
  obtain ⟨h1, h2⟩ := I.2.2.2.1 _ _ hl
  have hh := hk _ _ _ _ hs hb ad H locs lsA (I.pu h2)
  rw [List.map_cons, hx] at hh
  rw [hx] at h1
  exact lv_aload_n X.1 X.2.1 hdg rfl h1 hh
/-- the pairs of a row of locals -/
def en_prs (ad : Nat → Nat) (cd : Nat → Nat → Nat) (ls : AL) : List (Nat × Value) := ls.zipIdx.filterMap (fun q => q.1.map (fun v => (q.2, en_rv ad cd v)))
theorem en_prs_mem {ad : Nat → Nat} {cd : Nat → Nat → Nat} {ls : AL} {q : Nat × Value} : q ∈ en_prs ad cd ls ↔ ∃ v, ls.getD q.1 none = some v ∧ q.2 = en_rv ad cd v := by
  obtain ⟨i, w⟩ := q
  unfold en_prs
  rw [List.mem_filterMap]
  constructor
  · rintro ⟨⟨o, j⟩, hm, he⟩
    cases o with
    | none => cases he
    | some v =>
      have h1 := List.mem_zipIdx_iff_getElem?.mp hm
      simp only [Option.map_some, Option.some.injEq, Prod.mk.injEq] at he
      obtain ⟨rfl, rfl⟩ := he
      exact ⟨v, by rw [List.getD_eq_getElem?_getD, h1]; rfl, rfl⟩
  · rintro ⟨v, h1, h2⟩
    refine ⟨(some v, i), List.mem_zipIdx_iff_getElem?.mpr ?_, by dsimp only at h2; rw [h2]; rfl⟩
    rw [List.getD_eq_getElem?_getD] at h1
    cases hh : ls[i]? with
    | none => rw [hh] at h1; cases h1
    | some o => rw [hh] at h1; simp only [Option.getD_some] at h1; rw [h1]
theorem en_In.has (I : en_In s nL A cd D cs ad0 M0 sc.1 ad H locs lsA ls st M) : lv_has lsA nL (en_prs ad cd ls) := ⟨I.1, I.2.1, fun q hq => by
  obtain ⟨v, h1, h2⟩ := en_prs_mem.mp hq
  rw [h2]
  exact (I.2.2.2.1 _ _ h1).1⟩
/-- behind a store of one slot -/
theorem en_In.sto {j : Nat} {v : AV} {lsB : Array Slot} (I : en_In s nL A cd D cs ad0 M0 sc.1 ad H locs lsA ls st M) (hv : en_ok sc.1 M v) (hj : en_sto ls j = true) (hh : lv_has lsB nL ((j, en_rv ad cd v) :: (en_prs ad cd ls).filter (fun q => !(q.1 == j) && !(q.1 + 1 == j && q.2.category == 2)))) : en_In s nL A cd D cs ad0 M0 sc.1 ad H locs lsB (ls.set j (some v)) st M := by
  have hjl : j < ls.length := by
    unfold en_sto at hj
    simp only [Bool.and_eq_true] at hj
    exact Nat.le_of_ble_eq_true hj.1
  refine ⟨hh.1, hh.2.1, by rw [List.length_set]; exact I.2.2.1, fun i w hw => ?_, I.2.2.2.2⟩
  rw [List.getD_eq_getElem?_getD] at hw
  by_cases hij : i = j
  · subst hij
    rw [List.getElem?_set_self hjl] at hw
    simp only [Option.getD_some, Option.some.injEq] at hw
    subst hw
    exact ⟨hh.2.2 (i, en_rv ad cd v) List.mem_cons_self, hv⟩
  · rw [List.getElem?_set_ne (Ne.symm hij), ← List.getD_eq_getElem?_getD] at hw
    obtain ⟨h1, h2⟩ := I.2.2.2.1 _ _ hw
    refine ⟨hh.2.2 (i, en_rv ad cd w) (List.mem_cons_of_mem _ (List.mem_filter.mpr ⟨en_prs_mem.mpr ⟨w, hw, rfl⟩, ?_⟩)), h2⟩
    simp only [Bool.and_eq_true, Bool.not_eq_true', beq_eq_false_iff_ne, ne_eq, Bool.and_eq_false_iff]
    refine ⟨hij, ?_⟩
    by_cases h3 : i + 1 = j
    · refine Or.inr ?_
      rw [en_cat_eq]
      subst h3
      unfold en_sto at hj
      simp only [Bool.and_eq_true] at hj
      have h4 := hj.2
      rw [hw] at h4
      obtain x | x | x := w
      · simp [en_cat]
      · cases h4
      · simp [en_cat]
    · exact Or.inl h3
theorem en_s_istore (X : en_Fx p R s m args c cc own nL h bu0 A cd D cs sc) {j : Nat} {x : Int} (hdg : decode cc pc = .ok (.istore j, 2)) (hk : ∀ ls st M bu, k ls st M bu → en_At p l e R s m args below meth c Q nL A cd D cs ad0 M0 sc.1 bu0 (pc + 2) ls st M bu) (hj : en_sto ls j = true) (hs : k (ls.set j (some (.inl x))) r M bu) : en_At p l e R s m args below meth c Q nL A cd D cs ad0 M0 sc.1 bu0 pc ls (.inl x :: r) M bu := by
  intro hb ad H locs lsA I
  have hjl : j < ls.length := by
    have hj := hj
    unfold en_sto at hj
    simp only [Bool.and_eq_true] at hj
    exact Nat.le_of_ble_eq_true hj.1
  exact lv_istore X.1 X.2.1 hdg I.has (by rw [← I.2.2.1]; exact hjl) rfl (fun lsB hB => hk _ _ _ _ hs hb ad H locs lsB (I.tl.sto (en_okI _ _ _) hj hB))
theorem en_s_istore_n (X : en_Fx p R s m args c cc own nL h bu0 A cd D cs sc) {j : Fin 4} {x : Int} (hdg : decode cc pc = .ok (.istore_n j, 1)) (hk : ∀ ls st M bu, k ls st M bu → en_At p l e R s m args below meth c Q nL A cd D cs ad0 M0 sc.1 bu0 (pc + 1) ls st M bu) (hj : en_sto ls j = true) (hs : k (ls.set j (some (.inl x))) r M bu) : en_At p l e R s m args below meth c Q nL A cd D cs ad0 M0 sc.1 bu0 pc ls (.inl x :: r) M bu := by
  intro hb ad H locs lsA I
  have hjl : (j : Nat) < ls.length := by
    have hj := hj
    unfold en_sto at hj
    simp only [Bool.and_eq_true] at hj
    exact Nat.le_of_ble_eq_true hj.1
  exact lv_istore_n X.1 X.2.1 hdg rfl I.has (by rw [← I.2.2.1]; exact hjl) rfl (fun lsB hB => hk _ _ _ _ hs hb ad H locs lsB (I.tl.sto (en_okI _ _ _) hj hB))
theorem en_s_astore (X : en_Fx p R s m args c cc own nL h bu0 A cd D cs sc) {j : Nat} {v : AV} (hi : ∀ ad, ∃ x, en_rv ad cd v = .ref x) (hdg : decode cc pc = .ok (.astore j, 2)) (hk : ∀ ls st M bu, k ls st M bu → en_At p l e R s m args below meth c Q nL A cd D cs ad0 M0 sc.1 bu0 (pc + 2) ls st M bu) (hj : en_sto ls j = true) (hs : k (ls.set j (some v)) r M bu) : en_At p l e R s m args below meth c Q nL A cd D cs ad0 M0 sc.1 bu0 pc ls (v :: r) M bu := by
  intro hb ad H locs lsA I
  have hjl : j < ls.length := by
    have hj := hj
    unfold en_sto at hj
    simp only [Bool.and_eq_true] at hj
    exact Nat.le_of_ble_eq_true hj.1
  obtain ⟨x, hx⟩ := hi ad
  rw [List.map_cons, hx]
  exact lv_astore X.1 X.2.1 hdg I.has (by rw [← I.2.2.1]; exact hjl) rfl (fun lsB hB => hk _ _ _ _ hs hb ad H locs lsB (I.tl.sto I.hd hj (by rw [hx]; exact hB)))
theorem en_s_astore_n (X : en_Fx p R s m args c cc own nL h bu0 A cd D cs sc) {j : Fin 4} {v : AV} (hi : ∀ ad, ∃ x, en_rv ad cd v = .ref x) (hdg : decode cc pc = .ok (.astore_n j, 1)) (hk : ∀ ls st M bu, k ls st M bu → en_At p l e R s m args below meth c Q nL A cd D cs ad0 M0 sc.1 bu0 (pc + 1) ls st M bu) (hj : en_sto ls j = true) (hs : k (ls.set j (some v)) r M bu) : en_At p l e R s m args below meth c Q nL A cd D cs ad0 M0 sc.1 bu0 pc ls (v :: r) M bu := by
  intro hb ad H locs lsA I
  have hjl : (j : Nat) < ls.length := by
    have hj := hj
    unfold en_sto at hj
    simp only [Bool.and_eq_true] at hj
    exact Nat.le_of_ble_eq_true hj.1
  obtain ⟨x, hx⟩ := hi ad
  rw [List.map_cons, hx]
  exact lv_astore_n X.1 X.2.1 hdg rfl I.has (by rw [← I.2.2.1]; exact hjl) rfl (fun lsB hB => hk _ _ _ _ hs hb ad H locs lsB (I.tl.sto I.hd hj (by rw [hx]; exact hB)))
theorem en_s_iinc (X : en_Fx p R s m args c cc own nL h bu0 A cd D cs sc) {j : Nat} {n x : Int} (hdg : decode cc pc = .ok (.iinc j n, 3)) (hk : ∀ ls st M bu, k ls st M bu → en_At p l e R s m args below meth c Q nL A cd D cs ad0 M0 sc.1 bu0 (pc + 3) ls st M bu) (hl : ls.getD j none = some (.inl x)) (hj : en_sto ls j = true) (hs : k (ls.set j (some (.inl (x + n)))) st M bu) : en_At p l e R s m args below meth c Q nL A cd D cs ad0 M0 sc.1 bu0 pc ls st M bu := by
  intro hb ad H locs lsA I
  have hjl : j < ls.length := by
    have hj := hj
    unfold en_sto at hj
    simp only [Bool.and_eq_true] at hj
    exact Nat.le_of_ble_eq_true hj.1
  obtain ⟨q, hq⟩ := List.getElem?_of_mem (en_prs_mem (ad := ad) (cd := cd) (ls := ls) (q := (j, en_rv ad cd (.inl x))) |>.mpr ⟨_, hl, rfl⟩)
  exact lv_iinc (k := q) (x := Int32.ofInt x) (v := Int32.ofInt (x + n)) X.1 X.2.1 hdg I.has hq (by rw [Int32.ofInt_add]) (by rw [← I.2.2.1]; exact hjl) rfl (fun lsB hB => hk _ _ _ _ hs hb ad H locs lsB (I.sto (en_okI _ _ _) hj hB))
theorem en_s_iadd (X : en_Fx p R s m args c cc own nL h bu0 A cd D cs sc) {a b : Int} (hdg : decode cc pc = .ok (.iadd, 1)) (hk : ∀ ls st M bu, k ls st M bu → en_At p l e R s m args below meth c Q nL A cd D cs ad0 M0 sc.1 bu0 (pc + 1) ls st M bu) (hs : k ls (.inl (a + b) :: r) M bu) : en_At p l e R s m args below meth c Q nL A cd D cs ad0 M0 sc.1 bu0 pc ls (.inl b :: .inl a :: r) M bu := by
  intro hb ad H locs lsA I
  have hh := hk _ _ _ _ hs hb ad H locs lsA (I.tl.tl.pu (en_okI _ _ _))
  refine lv_iadd X.1 X.2.1 hdg ?_
  rw [List.map_cons, show en_rv ad cd (.inl (a + b)) = .int (Int32.ofInt a + Int32.ofInt b) from congrArg Value.int (Int32.ofInt_add _ _)] at hh
  exact hh
theorem en_s_isub (X : en_Fx p R s m args c cc own nL h bu0 A cd D cs sc) {a b : Int} (hdg : decode cc pc = .ok (.isub, 1)) (hk : ∀ ls st M bu, k ls st M bu → en_At p l e R s m args below meth c Q nL A cd D cs ad0 M0 sc.1 bu0 (pc + 1) ls st M bu) (hs : k ls (.inl (a - b) :: r) M bu) : en_At p l e R s m args below meth c Q nL A cd D cs ad0 M0 sc.1 bu0 pc ls (.inl b :: .inl a :: r) M bu := by
  intro hb ad H locs lsA I
  have hh := hk _ _ _ _ hs hb ad H locs lsA (I.tl.tl.pu (en_okI _ _ _))
  refine lv_isub X.1 X.2.1 hdg ?_
  rw [List.map_cons, show en_rv ad cd (.inl (a - b)) = .int (Int32.ofInt a - Int32.ofInt b) from congrArg Value.int (Int32.ofInt_sub _ _)] at hh
  exact hh
theorem en_s_imul (X : en_Fx p R s m args c cc own nL h bu0 A cd D cs sc) {a b : Int} (hdg : decode cc pc = .ok (.imul, 1)) (hk : ∀ ls st M bu, k ls st M bu → en_At p l e R s m args below meth c Q nL A cd D cs ad0 M0 sc.1 bu0 (pc + 1) ls st M bu) (hs : k ls (.inl (a * b) :: r) M bu) : en_At p l e R s m args below meth c Q nL A cd D cs ad0 M0 sc.1 bu0 pc ls (.inl b :: .inl a :: r) M bu := by
  intro hb ad H locs lsA I
  have hh := hk _ _ _ _ hs hb ad H locs lsA (I.tl.tl.pu (en_okI _ _ _))
  refine lv_imul X.1 X.2.1 hdg ?_
  rw [List.map_cons, show en_rv ad cd (.inl (a * b)) = .int (Int32.ofInt a * Int32.ofInt b) from congrArg Value.int (Int32.ofInt_mul _ _)] at hh
  exact hh
theorem en_s_iand (X : en_Fx p R s m args c cc own nL h bu0 A cd D cs sc) {a b : Int} (hdg : decode cc pc = .ok (.iand, 1)) (hk : ∀ ls st M bu, k ls st M bu → en_At p l e R s m args below meth c Q nL A cd D cs ad0 M0 sc.1 bu0 (pc + 1) ls st M bu) (hs : k ls (.inl (en_and a b) :: r) M bu) : en_At p l e R s m args below meth c Q nL A cd D cs ad0 M0 sc.1 bu0 pc ls (.inl b :: .inl a :: r) M bu := by
  intro hb ad H locs lsA I
  have hh := hk _ _ _ _ hs hb ad H locs lsA (I.tl.tl.pu (en_okI _ _ _))
  refine lv_iand X.1 X.2.1 hdg ?_
  rw [List.map_cons, show en_rv ad cd (.inl (en_and a b)) = .int (Int32.ofInt a &&& Int32.ofInt b) from congrArg Value.int (Int32.ofInt_toInt _)] at hh
  exact hh
theorem en_s_ior (X : en_Fx p R s m args c cc own nL h bu0 A cd D cs sc) {a b : Int} (hdg : decode cc pc = .ok (.ior, 1)) (hk : ∀ ls st M bu, k ls st M bu → en_At p l e R s m args below meth c Q nL A cd D cs ad0 M0 sc.1 bu0 (pc + 1) ls st M bu) (hs : k ls (.inl (en_or a b) :: r) M bu) : en_At p l e R s m args below meth c Q nL A cd D cs ad0 M0 sc.1 bu0 pc ls (.inl b :: .inl a :: r) M bu := by
  intro hb ad H locs lsA I
  have hh := hk _ _ _ _ hs hb ad H locs lsA (I.tl.tl.pu (en_okI _ _ _))
  refine lv_ior X.1 X.2.1 hdg ?_
  rw [List.map_cons, show en_rv ad cd (.inl (en_or a b)) = .int (Int32.ofInt a ||| Int32.ofInt b) from congrArg Value.int (Int32.ofInt_toInt _)] at hh
  exact hh
theorem en_s_ixor (X : en_Fx p R s m args c cc own nL h bu0 A cd D cs sc) {a b : Int} (hdg : decode cc pc = .ok (.ixor, 1)) (hk : ∀ ls st M bu, k ls st M bu → en_At p l e R s m args below meth c Q nL A cd D cs ad0 M0 sc.1 bu0 (pc + 1) ls st M bu) (hs : k ls (.inl (en_xor a b) :: r) M bu) : en_At p l e R s m args below meth c Q nL A cd D cs ad0 M0 sc.1 bu0 pc ls (.inl b :: .inl a :: r) M bu := by
  intro hb ad H locs lsA I
  have hh := hk _ _ _ _ hs hb ad H locs lsA (I.tl.tl.pu (en_okI _ _ _))
  refine lv_ixor X.1 X.2.1 hdg ?_
  rw [List.map_cons, show en_rv ad cd (.inl (en_xor a b)) = .int (Int32.ofInt a ^^^ Int32.ofInt b) from congrArg Value.int (Int32.ofInt_toInt _)] at hh
  exact hh
theorem en_s_ishl (X : en_Fx p R s m args c cc own nL h bu0 A cd D cs sc) {a b : Int} (hdg : decode cc pc = .ok (.ishl, 1)) (hk : ∀ ls st M bu, k ls st M bu → en_At p l e R s m args below meth c Q nL A cd D cs ad0 M0 sc.1 bu0 (pc + 1) ls st M bu) (hs : k ls (.inl (en_shl a b) :: r) M bu) : en_At p l e R s m args below meth c Q nL A cd D cs ad0 M0 sc.1 bu0 pc ls (.inl b :: .inl a :: r) M bu := by
  intro hb ad H locs lsA I
  have hh := hk _ _ _ _ hs hb ad H locs lsA (I.tl.tl.pu (en_okI _ _ _))
  refine lv_ishl X.1 X.2.1 hdg ?_
  rw [List.map_cons, show en_rv ad cd (.inl (en_shl a b)) = .int (Int32.ofInt a <<< (Int32.ofInt b &&& 31)) from congrArg Value.int (Int32.ofInt_toInt _)] at hh
  exact hh
theorem en_s_ishr (X : en_Fx p R s m args c cc own nL h bu0 A cd D cs sc) {a b : Int} (hdg : decode cc pc = .ok (.ishr, 1)) (hk : ∀ ls st M bu, k ls st M bu → en_At p l e R s m args below meth c Q nL A cd D cs ad0 M0 sc.1 bu0 (pc + 1) ls st M bu) (hs : k ls (.inl (en_shr a b) :: r) M bu) : en_At p l e R s m args below meth c Q nL A cd D cs ad0 M0 sc.1 bu0 pc ls (.inl b :: .inl a :: r) M bu := by
  intro hb ad H locs lsA I
  have hh := hk _ _ _ _ hs hb ad H locs lsA (I.tl.tl.pu (en_okI _ _ _))
  refine lv_ishr X.1 X.2.1 hdg ?_
  rw [List.map_cons, show en_rv ad cd (.inl (en_shr a b)) = .int (Int32.ofInt a >>> (Int32.ofInt b &&& 31)) from congrArg Value.int (Int32.ofInt_toInt _)] at hh
  exact hh
theorem en_s_iushr (X : en_Fx p R s m args c cc own nL h bu0 A cd D cs sc) {a b : Int} (hdg : decode cc pc = .ok (.iushr, 1)) (hk : ∀ ls st M bu, k ls st M bu → en_At p l e R s m args below meth c Q nL A cd D cs ad0 M0 sc.1 bu0 (pc + 1) ls st M bu) (hs : k ls (.inl (en_ushr a b) :: r) M bu) : en_At p l e R s m args below meth c Q nL A cd D cs ad0 M0 sc.1 bu0 pc ls (.inl b :: .inl a :: r) M bu := by
  intro hb ad H locs lsA I
  exact lv_iushr X.1 X.2.1 hdg (Int32.ofInt_toInt _).symm (hk _ _ _ _ hs hb ad H locs lsA (I.tl.tl.pu (en_okI _ _ _)))
theorem en_wr_ne {b : Int} (h : ¬ en_wr b = 0) : ¬ Int32.ofInt b = 0 := fun q => h (by unfold en_wr; rw [q]; rfl)
theorem en_s_idiv (X : en_Fx p R s m args c cc own nL h bu0 A cd D cs sc) {a b : Int} (hne : ¬ en_wr b = 0) (hdg : decode cc pc = .ok (.idiv, 1)) (hk : ∀ ls st M bu, k ls st M bu → en_At p l e R s m args below meth c Q nL A cd D cs ad0 M0 sc.1 bu0 (pc + 1) ls st M bu) (hs : k ls (.inl (en_div a b) :: r) M bu) : en_At p l e R s m args below meth c Q nL A cd D cs ad0 M0 sc.1 bu0 pc ls (.inl b :: .inl a :: r) M bu := by
  intro hb ad H locs lsA I
  have hh := hk _ _ _ _ hs hb ad H locs lsA (I.tl.tl.pu (en_okI _ _ _))
  refine lv_idiv X.1 X.2.1 hdg (en_wr_ne hne) ?_
  rw [List.map_cons, show en_rv ad cd (.inl (en_div a b)) = .int (Int32.ofInt a / Int32.ofInt b) from congrArg Value.int (Int32.ofInt_toInt _)] at hh
  exact hh
theorem en_s_irem (X : en_Fx p R s m args c cc own nL h bu0 A cd D cs sc) {a b : Int} (hne : ¬ en_wr b = 0) (hdg : decode cc pc = .ok (.irem, 1)) (hk : ∀ ls st M bu, k ls st M bu → en_At p l e R s m args below meth c Q nL A cd D cs ad0 M0 sc.1 bu0 (pc + 1) ls st M bu) (hs : k ls (.inl (en_rem a b) :: r) M bu) : en_At p l e R s m args below meth c Q nL A cd D cs ad0 M0 sc.1 bu0 pc ls (.inl b :: .inl a :: r) M bu := by
  intro hb ad H locs lsA I
  have hh := hk _ _ _ _ hs hb ad H locs lsA (I.tl.tl.pu (en_okI _ _ _))
  refine lv_irem X.1 X.2.1 hdg (en_wr_ne hne) ?_
  rw [List.map_cons, show en_rv ad cd (.inl (en_rem a b)) = .int (Int32.ofInt a - Int32.ofInt a / Int32.ofInt b * Int32.ofInt b) from congrArg Value.int (Int32.ofInt_toInt _)] at hh
  exact hh
theorem en_s_ineg (X : en_Fx p R s m args c cc own nL h bu0 A cd D cs sc) {a : Int} (hdg : decode cc pc = .ok (.ineg, 1)) (hk : ∀ ls st M bu, k ls st M bu → en_At p l e R s m args below meth c Q nL A cd D cs ad0 M0 sc.1 bu0 (pc + 1) ls st M bu) (hs : k ls (.inl (-a) :: r) M bu) : en_At p l e R s m args below meth c Q nL A cd D cs ad0 M0 sc.1 bu0 pc ls (.inl a :: r) M bu := by
  intro hb ad H locs lsA I
  have hh := hk _ _ _ _ hs hb ad H locs lsA (I.tl.pu (en_okI _ _ _))
  refine lv_ineg X.1 X.2.1 hdg ?_
  rw [List.map_cons, show en_rv ad cd (.inl (-a)) = .int (-Int32.ofInt a) from congrArg Value.int (Int32.ofInt_neg _)] at hh
  exact hh
theorem en_s_i2l (X : en_Fx p R s m args c cc own nL h bu0 A cd D cs sc) {a : Int} (hdg : decode cc pc = .ok (.i2l, 1)) (hk : ∀ ls st M bu, k ls st M bu → en_At p l e R s m args below meth c Q nL A cd D cs ad0 M0 sc.1 bu0 (pc + 1) ls st M bu) (hs : k ls (.inr (.inl (en_wr a)) :: r) M bu) : en_At p l e R s m args below meth c Q nL A cd D cs ad0 M0 sc.1 bu0 pc ls (.inl a :: r) M bu := by
  intro hb ad H locs lsA I
  exact lv_i2l (v := Int64.ofInt (en_wr a)) X.1 X.2.1 hdg (Int64.toInt.inj (by unfold en_wr; rw [Int32.toInt_toInt64, Int64.toInt_ofInt_of_le (by have := (Int32.ofInt a).le_toInt; omega) (by have := (Int32.ofInt a).toInt_lt; omega)])) (hk _ _ _ _ hs hb ad H locs lsA (I.tl.pu (en_okL _ _ _)))
theorem en_s_l2i (X : en_Fx p R s m args c cc own nL h bu0 A cd D cs sc) {a : Int} (hdg : decode cc pc = .ok (.l2i, 1)) (hk : ∀ ls st M bu, k ls st M bu → en_At p l e R s m args below meth c Q nL A cd D cs ad0 M0 sc.1 bu0 (pc + 1) ls st M bu) (hs : k ls (.inl a :: r) M bu) : en_At p l e R s m args below meth c Q nL A cd D cs ad0 M0 sc.1 bu0 pc ls (.inr (.inl a) :: r) M bu := by
  intro hb ad H locs lsA I
  exact lv_l2i X.1 X.2.1 hdg Int64.toInt32_ofInt (hk _ _ _ _ hs hb ad H locs lsA (I.tl.pu (en_okI _ _ _)))
theorem en_s_i2b (X : en_Fx p R s m args c cc own nL h bu0 A cd D cs sc) {a : Int} (hdg : decode cc pc = .ok (.i2b, 1)) (hk : ∀ ls st M bu, k ls st M bu → en_At p l e R s m args below meth c Q nL A cd D cs ad0 M0 sc.1 bu0 (pc + 1) ls st M bu) (hs : k ls (.inl (en_i2b a) :: r) M bu) : en_At p l e R s m args below meth c Q nL A cd D cs ad0 M0 sc.1 bu0 pc ls (.inl a :: r) M bu := by
  intro hb ad H locs lsA I
  exact lv_i2b X.1 X.2.1 hdg (Int32.ofInt_toInt _).symm (hk _ _ _ _ hs hb ad H locs lsA (I.tl.pu (en_okI _ _ _)))
theorem en_s_i2s (X : en_Fx p R s m args c cc own nL h bu0 A cd D cs sc) {a : Int} (hdg : decode cc pc = .ok (.i2s, 1)) (hk : ∀ ls st M bu, k ls st M bu → en_At p l e R s m args below meth c Q nL A cd D cs ad0 M0 sc.1 bu0 (pc + 1) ls st M bu) (hs : k ls (.inl (en_i2s a) :: r) M bu) : en_At p l e R s m args below meth c Q nL A cd D cs ad0 M0 sc.1 bu0 pc ls (.inl a :: r) M bu := by
  intro hb ad H locs lsA I
  exact lv_i2s X.1 X.2.1 hdg (Int32.ofInt_toInt _).symm (hk _ _ _ _ hs hb ad H locs lsA (I.tl.pu (en_okI _ _ _)))
theorem en_s_i2c (X : en_Fx p R s m args c cc own nL h bu0 A cd D cs sc) {a : Int} (hdg : decode cc pc = .ok (.i2c, 1)) (hk : ∀ ls st M bu, k ls st M bu → en_At p l e R s m args below meth c Q nL A cd D cs ad0 M0 sc.1 bu0 (pc + 1) ls st M bu) (hs : k ls (.inl (en_i2c a) :: r) M bu) : en_At p l e R s m args below meth c Q nL A cd D cs ad0 M0 sc.1 bu0 pc ls (.inl a :: r) M bu := by
  intro hb ad H locs lsA I
  exact lv_i2c X.1 X.2.1 hdg (Int32.ofInt_toInt _).symm (hk _ _ _ _ hs hb ad H locs lsA (I.tl.pu (en_okI _ _ _)))
theorem en_s_lshl (X : en_Fx p R s m args c cc own nL h bu0 A cd D cs sc) {a b : Int} (hdg : decode cc pc = .ok (.lshl, 1)) (hk : ∀ ls st M bu, k ls st M bu → en_At p l e R s m args below meth c Q nL A cd D cs ad0 M0 sc.1 bu0 (pc + 1) ls st M bu) (hs : k ls (.inr (.inl (en_lshl a b)) :: r) M bu) : en_At p l e R s m args below meth c Q nL A cd D cs ad0 M0 sc.1 bu0 pc ls (.inl b :: .inr (.inl a) :: r) M bu := by
  intro hb ad H locs lsA I
  exact lv_lshl X.1 X.2.1 hdg (Int64.ofInt_toInt _).symm (hk _ _ _ _ hs hb ad H locs lsA (I.tl.tl.pu (en_okL _ _ _)))
theorem en_s_lor (X : en_Fx p R s m args c cc own nL h bu0 A cd D cs sc) {a b : Int} (hdg : decode cc pc = .ok (.lor, 1)) (hk : ∀ ls st M bu, k ls st M bu → en_At p l e R s m args below meth c Q nL A cd D cs ad0 M0 sc.1 bu0 (pc + 1) ls st M bu) (hs : k ls (.inr (.inl (en_lor a b)) :: r) M bu) : en_At p l e R s m args below meth c Q nL A cd D cs ad0 M0 sc.1 bu0 pc ls (.inr (.inl b) :: .inr (.inl a) :: r) M bu := by
  intro hb ad H locs lsA I
  have hh := hk _ _ _ _ hs hb ad H locs lsA (I.tl.tl.pu (en_okL _ _ _))
  refine lv_lor X.1 X.2.1 hdg ?_
  rw [List.map_cons, show en_rv ad cd (.inr (.inl (en_lor a b))) = .long (Int64.ofInt a ||| Int64.ofInt b) from congrArg Value.long (Int64.ofInt_toInt _)] at hh
  exact hh
theorem en_s_land (X : en_Fx p R s m args c cc own nL h bu0 A cd D cs sc) {a b : Int} (hdg : decode cc pc = .ok (.land, 1)) (hk : ∀ ls st M bu, k ls st M bu → en_At p l e R s m args below meth c Q nL A cd D cs ad0 M0 sc.1 bu0 (pc + 1) ls st M bu) (hs : k ls (.inr (.inl (en_land a b)) :: r) M bu) : en_At p l e R s m args below meth c Q nL A cd D cs ad0 M0 sc.1 bu0 pc ls (.inr (.inl b) :: .inr (.inl a) :: r) M bu := by
  intro hb ad H locs lsA I
  have hh := hk _ _ _ _ hs hb ad H locs lsA (I.tl.tl.pu (en_okL _ _ _))
  refine lv_land X.1 X.2.1 hdg ?_
  rw [List.map_cons, show en_rv ad cd (.inr (.inl (en_land a b))) = .long (Int64.ofInt a &&& Int64.ofInt b) from congrArg Value.long (Int64.ofInt_toInt _)] at hh
  exact hh
theorem en_s_lcmp (X : en_Fx p R s m args c cc own nL h bu0 A cd D cs sc) {a b : Int} (hdg : decode cc pc = .ok (.lcmp, 1)) (hk : ∀ ls st M bu, k ls st M bu → en_At p l e R s m args below meth c Q nL A cd D cs ad0 M0 sc.1 bu0 (pc + 1) ls st M bu) (hs : k ls (.inl (en_lcmp a b) :: r) M bu) : en_At p l e R s m args below meth c Q nL A cd D cs ad0 M0 sc.1 bu0 pc ls (.inr (.inl b) :: .inr (.inl a) :: r) M bu := by
  intro hb ad H locs lsA I
  have hh := hk _ _ _ _ hs hb ad H locs lsA (I.tl.tl.pu (en_okI _ _ _))
  refine W.lcmp X.1 X.2.1 hdg ?_
  rw [List.map_cons, show en_rv ad cd (.inl (en_lcmp a b)) = .int (lg_cmp (Int64.ofInt a) (Int64.ofInt b)) from congrArg Value.int (by
    unfold en_lcmp lg_cmp en_wl
    by_cases h1 : Int64.ofInt b < Int64.ofInt a
    · rw [if_pos h1, if_pos (Int64.lt_iff_toInt_lt.mp h1)]; rfl
    · rw [if_neg h1, if_neg (fun q => h1 (Int64.lt_iff_toInt_lt.mpr q))]
      by_cases h2 : Int64.ofInt a = Int64.ofInt b
      · rw [if_pos h2, if_pos (by rw [h2])]; rfl
      · rw [if_neg h2, if_neg (fun q => h2 (Int64.toInt.inj q))]; rfl)] at hh
  exact hh
end EN1
end
section
/-! instructions on the stack, branches, fields, rows -/
section EN2
variable {ad : Nat → Nat} {H : Heap} {locs : List Loc} {lsA : Array Slot}
variable {p : Program} {l : Launch} {e : Env} {R : Room} {s : State} {m : MethodId} {args : Array Value} {below : List Frame} {meth : Method} {c : Code} {Q : State → Prop} {cc : ByteArray} {own : String} {nL h bu0 : Nat} {A : Nat → Prop} {cd : Nat → Nat → Nat} {D : va_G} {cs : Nat → ClassId} {sc : Nat × (Nat → Int)} {ad0 : Nat → Nat} {M0 : Mm} {pc : Nat} {ls : AL} {st r : List AV} {M : Mm} {bu : Nat} {k : AK} {K : Nat → AK}
theorem en_cat1 {v : AV} (h : Nat.beq (en_cat v) 1 = true) : (en_rv ad cd v).category = 1 := by
  rw [en_cat_eq]
  exact Nat.eq_of_beq_eq_true h
theorem en_s_dup (X : en_Fx p R s m args c cc own nL h bu0 A cd D cs sc) {v : AV} (hv : Nat.beq (en_cat v) 1 = true) (hdg : decode cc pc = .ok (.dup, 1)) (hk : ∀ ls st M bu, k ls st M bu → en_At p l e R s m args below meth c Q nL A cd D cs ad0 M0 sc.1 bu0 (pc + 1) ls st M bu) (hs : k ls (v :: v :: r) M bu) : en_At p l e R s m args below meth c Q nL A cd D cs ad0 M0 sc.1 bu0 pc ls (v :: r) M bu := by
  intro hb ad H locs lsA I
  exact lv_dup X.1 X.2.1 hdg (en_cat1 hv) (hk _ _ _ _ hs hb ad H locs lsA (I.pu I.hd))
theorem en_s_pop (X : en_Fx p R s m args c cc own nL h bu0 A cd D cs sc) {v : AV} (hv : Nat.beq (en_cat v) 1 = true) (hdg : decode cc pc = .ok (.pop, 1)) (hk : ∀ ls st M bu, k ls st M bu → en_At p l e R s m args below meth c Q nL A cd D cs ad0 M0 sc.1 bu0 (pc + 1) ls st M bu) (hs : k ls r M bu) : en_At p l e R s m args below meth c Q nL A cd D cs ad0 M0 sc.1 bu0 pc ls (v :: r) M bu := by
  intro hb ad H locs lsA I
  exact lv_pop X.1 X.2.1 hdg (en_cat1 hv) (hk _ _ _ _ hs hb ad H locs lsA I.tl)
theorem en_s_dup_x1 (X : en_Fx p R s m args c cc own nL h bu0 A cd D cs sc) {v w : AV} (hv : Nat.beq (en_cat v) 1 = true) (hw : Nat.beq (en_cat w) 1 = true) (hdg : decode cc pc = .ok (.dup_x1, 1)) (hk : ∀ ls st M bu, k ls st M bu → en_At p l e R s m args below meth c Q nL A cd D cs ad0 M0 sc.1 bu0 (pc + 1) ls st M bu) (hs : k ls (v :: w :: v :: r) M bu) : en_At p l e R s m args below meth c Q nL A cd D cs ad0 M0 sc.1 bu0 pc ls (v :: w :: r) M bu := by
  intro hb ad H locs lsA I
  exact lv_dup_x1 X.1 X.2.1 hdg (en_cat1 hv) (en_cat1 hw) (hk _ _ _ _ hs hb ad H locs lsA (((I.tl.tl.pu I.hd).pu I.tl.hd).pu I.hd))
theorem en_s_dup_x2 (X : en_Fx p R s m args c cc own nL h bu0 A cd D cs sc) {v w u : AV} (hv : Nat.beq (en_cat v) 1 = true) (hw : Nat.beq (en_cat w) 1 = true) (hu : Nat.beq (en_cat u) 1 = true) (hdg : decode cc pc = .ok (.dup_x2, 1)) (hk : ∀ ls st M bu, k ls st M bu → en_At p l e R s m args below meth c Q nL A cd D cs ad0 M0 sc.1 bu0 (pc + 1) ls st M bu) (hs : k ls (v :: w :: u :: v :: r) M bu) : en_At p l e R s m args below meth c Q nL A cd D cs ad0 M0 sc.1 bu0 pc ls (v :: w :: u :: r) M bu := by
  intro hb ad H locs lsA I
  exact lv_dup_x2 X.1 X.2.1 hdg (en_cat1 hv) (en_cat1 hw) (en_cat1 hu) (hk _ _ _ _ hs hb ad H locs lsA ((((I.tl.tl.tl.pu I.hd).pu I.tl.tl.hd).pu I.tl.hd).pu I.hd))
theorem en_s_dup2 (X : en_Fx p R s m args c cc own nL h bu0 A cd D cs sc) {v w : AV} (hv : Nat.beq (en_cat v) 1 = true) (hw : Nat.beq (en_cat w) 1 = true) (hdg : decode cc pc = .ok (.dup2, 1)) (hk : ∀ ls st M bu, k ls st M bu → en_At p l e R s m args below meth c Q nL A cd D cs ad0 M0 sc.1 bu0 (pc + 1) ls st M bu) (hs : k ls (v :: w :: v :: w :: r) M bu) : en_At p l e R s m args below meth c Q nL A cd D cs ad0 M0 sc.1 bu0 pc ls (v :: w :: r) M bu := by
  intro hb ad H locs lsA I
  exact lv_dup2_11 X.1 X.2.1 hdg (en_cat1 hv) (en_cat1 hw) (hk _ _ _ _ hs hb ad H locs lsA ((I.pu I.tl.hd).pu I.hd))
theorem en_s_goto (X : en_Fx p R s m args c cc own nL h bu0 A cd D cs sc) {off : Int} {t : Nat} (ht : (pc : Int) + off = (t : Int)) (hdg : decode cc pc = .ok (.goto off, 3)) (hK : ∀ t ls st M bu, K t ls st M bu → en_At p l e R s m args below meth c Q nL A cd D cs ad0 M0 sc.1 bu0 t ls st M bu) (hs : K t ls st M bu) : en_At p l e R s m args below meth c Q nL A cd D cs ad0 M0 sc.1 bu0 pc ls st M bu := by
  intro hb ad H locs lsA I
  exact lv_goto X.1 X.2.1 hdg ht (hK _ _ _ _ _ hs hb ad H locs lsA I)
theorem en_lt_iff {a b : Int} : Int32.ofInt a < Int32.ofInt b ↔ en_wr a < en_wr b := Int32.lt_iff_toInt_lt
theorem en_le_iff {a b : Int} : Int32.ofInt a ≤ Int32.ofInt b ↔ en_wr a ≤ en_wr b := Int32.le_iff_toInt_le
theorem en_eq_iff {a b : Int} : Int32.ofInt a = Int32.ofInt b ↔ en_wr a = en_wr b := Int32.toInt_inj.symm
theorem en_s_icmp (X : en_Fx p R s m args c cc own nL h bu0 A cd D cs sc) {cn : ClassFile.Cond} {off : Int} {t : Nat} {a b : Int} (ht : (pc : Int) + off = (t : Int)) (hdg : decode cc pc = .ok (.if_icmp cn off, 3)) (hk : ∀ ls st M bu, k ls st M bu → en_At p l e R s m args below meth c Q nL A cd D cs ad0 M0 sc.1 bu0 (pc + 3) ls st M bu) (hK : ∀ t ls st M bu, K t ls st M bu → en_At p l e R s m args below meth c Q nL A cd D cs ad0 M0 sc.1 bu0 t ls st M bu) (hs : (en_cmp cn a b → K t ls r M bu) ∧ (¬ en_cmp cn a b → k ls r M bu)) : en_At p l e R s m args below meth c Q nL A cd D cs ad0 M0 sc.1 bu0 pc ls (.inl b :: .inl a :: r) M bu := by
  intro hb ad H locs lsA I
  have k1 := fun q => hK _ _ _ _ _ (hs.1 q) hb ad H locs lsA I.tl.tl
  have k2 := fun q => hk _ _ _ _ (hs.2 q) hb ad H locs lsA I.tl.tl
  cases cn with
  | eq => exact lv_icmp_eq X.1 X.2.1 hdg ht (fun q => k1 (en_eq_iff.mp q)) (fun q => k2 (fun z => q (en_eq_iff.mpr z)))
  | ne => exact lv_icmp_ne X.1 X.2.1 hdg ht (fun q => k1 (fun z => q (en_eq_iff.mpr z))) (fun q => k2 (fun z => z (en_eq_iff.mp q)))
  | lt => exact lv_icmp_lt X.1 X.2.1 hdg ht (fun q => k1 (en_lt_iff.mp q)) (fun q => k2 (fun z => q (en_lt_iff.mpr z)))
  | ge => exact lv_icmp_ge X.1 X.2.1 hdg ht (fun q => k1 (en_le_iff.mp q)) (fun q => k2 (fun z => q (en_le_iff.mpr z)))
  | gt => exact lv_icmp_gt X.1 X.2.1 hdg ht (fun q => k1 (en_lt_iff.mp q)) (fun q => k2 (fun z => q (en_lt_iff.mpr z)))
  | le => exact lv_icmp_le X.1 X.2.1 hdg ht (fun q => k1 (en_le_iff.mp q)) (fun q => k2 (fun z => q (en_le_iff.mpr z)))
theorem en_s_if (X : en_Fx p R s m args c cc own nL h bu0 A cd D cs sc) {cn : ClassFile.Cond} {off : Int} {t : Nat} {a : Int} (ht : (pc : Int) + off = (t : Int)) (hdg : decode cc pc = .ok (.ifCond cn off, 3)) (hk : ∀ ls st M bu, k ls st M bu → en_At p l e R s m args below meth c Q nL A cd D cs ad0 M0 sc.1 bu0 (pc + 3) ls st M bu) (hK : ∀ t ls st M bu, K t ls st M bu → en_At p l e R s m args below meth c Q nL A cd D cs ad0 M0 sc.1 bu0 t ls st M bu) (hs : (en_cmp cn a 0 → K t ls r M bu) ∧ (¬ en_cmp cn a 0 → k ls r M bu)) : en_At p l e R s m args below meth c Q nL A cd D cs ad0 M0 sc.1 bu0 pc ls (.inl a :: r) M bu := by
  intro hb ad H locs lsA I
  have k1 := fun q => hK _ _ _ _ _ (hs.1 q) hb ad H locs lsA I.tl
  have k2 := fun q => hk _ _ _ _ (hs.2 q) hb ad H locs lsA I.tl
  have z0 : Int32.ofInt 0 = 0 := rfl
  cases cn with
  | eq => exact lv_if_eq X.1 X.2.1 hdg ht (fun q => k1 (en_eq_iff.mp (q.trans z0.symm))) (fun q => k2 (fun z => q ((en_eq_iff.mpr z).trans z0)))
  | ne => exact lv_if_ne X.1 X.2.1 hdg ht (fun q => k1 (fun z => q ((en_eq_iff.mpr z).trans z0))) (fun q => k2 (fun z => z (en_eq_iff.mp (q.trans z0.symm))))
  | lt => exact lv_if_lt X.1 X.2.1 hdg ht (fun q => k1 (en_lt_iff.mp (by rw [z0]; exact q))) (fun q => k2 (fun z => q (by have := en_lt_iff.mpr z; rw [z0] at this; exact this)))
  | ge => exact lv_if_ge X.1 X.2.1 hdg ht (fun q => k1 (en_le_iff.mp (by rw [z0]; exact q))) (fun q => k2 (fun z => q (by have := en_le_iff.mpr z; rw [z0] at this; exact this)))
  | gt => exact lv_if_gt X.1 X.2.1 hdg ht (fun q => k1 (en_lt_iff.mp (by rw [z0]; exact q))) (fun q => k2 (fun z => q (by have := en_lt_iff.mpr z; rw [z0] at this; exact this)))
  | le => exact lv_if_le X.1 X.2.1 hdg ht (fun q => k1 (en_le_iff.mp (by rw [z0]; exact q))) (fun q => k2 (fun z => q (by have := en_le_iff.mpr z; rw [z0] at this; exact this)))
theorem en_s_nnN (X : en_Fx p R s m args c cc own nL h bu0 A cd D cs sc) {off : Int} {a b : Nat} (hdg : decode cc pc = .ok (.ifnonnull off, 3)) (hk : ∀ ls st M bu, k ls st M bu → en_At p l e R s m args below meth c Q nL A cd D cs ad0 M0 sc.1 bu0 (pc + 3) ls st M bu) (hs : k ls r M bu) : en_At p l e R s m args below meth c Q nL A cd D cs ad0 M0 sc.1 bu0 pc ls (.inr (.inr (0, a, b)) :: r) M bu := by
  intro hb ad H locs lsA I
  exact lv_ifnonnullN X.1 X.2.1 hdg (hk _ _ _ _ hs hb ad H locs lsA I.tl)
theorem en_s_nn (X : en_Fx p R s m args c cc own nL h bu0 A cd D cs sc) {off : Int} {t : Nat} {a b : Nat} (ht : (pc : Int) + off = (t : Int)) (hdg : decode cc pc = .ok (.ifnonnull off, 3)) (hK : ∀ t ls st M bu, K t ls st M bu → en_At p l e R s m args below meth c Q nL A cd D cs ad0 M0 sc.1 bu0 t ls st M bu) (hs : K t ls r M bu) : en_At p l e R s m args below meth c Q nL A cd D cs ad0 M0 sc.1 bu0 pc ls (.inr (.inr (1, a, b)) :: r) M bu := by
  intro hb ad H locs lsA I
  exact lv_ifnonnull X.1 X.2.1 hdg ht (hK _ _ _ _ _ hs hb ad H locs lsA I.tl)
/-- a switch's words: its places, one after the other -/
def en_tbok (pc : Nat) (offs : List Int) (ts : List Nat) : Bool := decide (offs.map (fun o => (pc : Int) + o) = ts.map (fun (t : Nat) => (t : Int)))
theorem en_tb_spec {x : Int} {P : Nat → Prop} {d : Nat} : ∀ (ts : List Nat) (lo : Int), en_tb x lo P d ts → (x < lo ∨ lo + ts.length ≤ x → P d) ∧ ∀ j : Nat, j < ts.length → x = lo + j → P (ts.getD j 0)
  | [], lo, hh => ⟨fun _ => hh, fun j hj => absurd hj (Nat.not_lt_zero j)⟩
  | t :: ts, lo, hh => by
    obtain ⟨h1, h2⟩ := hh
    refine ⟨fun q => ?_, fun j hj he => ?_⟩
    · have hne : ¬ x = lo := by
        intro z
        simp only [List.length_cons] at q
        omega
      refine (en_tb_spec ts (lo + 1) (h2 hne)).1 ?_
      simp only [List.length_cons] at q
      omega
    · cases j with
      | zero => exact h1 (by simpa using he)
      | succ j =>
        have hne : ¬ x = lo := by omega
        exact (en_tb_spec ts (lo + 1) (h2 hne)).2 j (by simpa using hj) (by omega)
theorem en_s_sw (X : en_Fx p R s m args c cc own nL h bu0 A cd D cs sc) {d lo hi : Int} {offs : Array Int} {len dt : Nat} {ts : List Nat} {a : Int} (h1 : (pc : Int) + d = (dt : Int)) (h2 : en_tbok pc offs.toList ts = true) (h3 : hi = lo + ts.length - 1) (hdg : decode cc pc = .ok (.tableswitch d lo hi offs, len)) (hK : ∀ t ls st M bu, K t ls st M bu → en_At p l e R s m args below meth c Q nL A cd D cs ad0 M0 sc.1 bu0 t ls st M bu) (hs : en_tb (en_wr a) lo (fun t => K t ls r M bu) dt ts) : en_At p l e R s m args below meth c Q nL A cd D cs ad0 M0 sc.1 bu0 pc ls (.inl a :: r) M bu := by
  intro hb ad H locs lsA I
  obtain ⟨g1, g2⟩ := en_tb_spec ts lo hs
  by_cases hq : en_wr a < lo ∨ hi < en_wr a
  · exact lv_tableOut X.1 X.2.1 hdg hq h1 (hK _ _ _ _ _ (g1 (by omega)) hb ad H locs lsA I.tl)
  · have hj : (en_wr a - lo).toNat < ts.length := by omega
    have hm := of_decide_eq_true h2
    have hlen : offs.toList.length = ts.length := by
      have := congrArg List.length hm
      simpa using this
    have hg : offs[(en_wr a - lo).toNat]? = some (offs.toList[(en_wr a - lo).toNat]'(by rw [hlen]; exact hj)) := by
      rw [← Array.getElem?_toList]
      exact List.getElem?_eq_getElem _
    have ht : (pc : Int) + (offs.toList[(en_wr a - lo).toNat]'(by rw [hlen]; exact hj)) = ((ts.getD (en_wr a - lo).toNat 0 : Nat) : Int) := by
      have := congrArg (fun (q : List Int) => q[(en_wr a - lo).toNat]?) hm
      simp only [List.getElem?_map] at this
      rw [List.getElem?_eq_getElem (by rw [hlen]; exact hj), List.getElem?_eq_getElem hj] at this
      simp only [Option.map_some, Option.some.injEq] at this
      rw [this, List.getD_eq_getElem?_getD, List.getElem?_eq_getElem hj]
      rfl
    exact lv_tableIn X.1 X.2.1 hdg (fun q => hq (Or.inl q)) (fun q => hq (Or.inr q)) hg ht (hK _ _ _ _ _ (g2 _ hj (by omega)) hb ad H locs lsA I.tl)
end EN2
end
section
def en_mp : List (Nat × Nat × Nat × Nat) := [(0, 0, 0, 0), (800, 79, 798, 799), (804, 79, 803, 20), (811, 79, 810, 21), (819, 79, 818, 22), (822, 79, 821, 0), (826, 79, 825, 23), (830, 79, 829, 24), (955, 79, 953, 954), (0, 0, 0, 0), (592, 77, 590, 591), (447, 77, 445, 446), (531, 77, 529, 530), (503, 77, 501, 502), (507, 77, 505, 506), (519, 77, 517, 518), (511, 77, 509, 510), (523, 77, 521, 522), (488, 77, 486, 487), (535, 77, 533, 534), (568, 77, 566, 567), (563, 77, 561, 562), (559, 77, 557, 558), (572, 77, 570, 571), (863, 77, 861, 862), (470, 77, 468, 469), (480, 77, 478, 479), (749, 77, 747, 748), (741, 77, 739, 740), (934, 77, 932, 933), (735, 77, 733, 734), (881, 77, 879, 880), (900, 77, 898, 899), (971, 77, 969, 970), (976, 77, 974, 975), (984, 77, 982, 983), (0, 0, 0, 0), (731, 78, 729, 730), (745, 78, 744, 18), (782, 78, 780, 781), (778, 78, 776, 777), (774, 78, 773, 19), (770, 78, 768, 769), (791, 78, 789, 790), (0, 0, 0, 0), (580, 80, 578, 579), (597, 80, 595, 596), (601, 80, 600, 7), (604, 80, 603, 0), (614, 80, 613, 9), (609, 80, 608, 8), (666, 80, 665, 10), (680, 80, 679, 13), (687, 80, 686, 14), (693, 80, 692, 15), (698, 80, 697, 16), (708, 80, 707, 17), (670, 80, 669, 11), (674, 80, 673, 12), (0, 0, 0, 0), (411, 81, 409, 410), (407, 81, 405, 406), (395, 81, 393, 394), (453, 81, 451, 452), (391, 81, 389, 390), (416, 81, 414, 415), (420, 81, 419, 2), (0, 0, 0, 0), (377, 76, 375, 376), (399, 76, 397, 398), (424, 76, 422, 423), (435, 76, 433, 434), (439, 76, 437, 438), (443, 76, 441, 442), (457, 76, 455, 456), (492, 76, 490, 491), (496, 76, 494, 495), (515, 76, 513, 514), (527, 76, 525, 526), (539, 76, 537, 538), (547, 76, 545, 546), (576, 76, 574, 575), (584, 76, 582, 583), (588, 76, 586, 587), (715, 76, 713, 714), (719, 76, 717, 718), (723, 76, 721, 722), (727, 76, 725, 726), (753, 76, 751, 752), (757, 76, 755, 756), (762, 76, 760, 761), (766, 76, 764, 765), (787, 76, 785, 786), (796, 76, 794, 795), (834, 76, 832, 833), (855, 76, 853, 854), (859, 76, 857, 858), (868, 76, 866, 867), (873, 76, 871, 872), (877, 76, 875, 876), (885, 76, 883, 884), (889, 76, 887, 888), (896, 76, 894, 895), (905, 76, 903, 904), (909, 76, 907, 908), (913, 76, 911, 912), (918, 76, 916, 917), (922, 76, 920, 921), (930, 76, 928, 929), (938, 76, 936, 937), (942, 76, 940, 941), (947, 76, 945, 946), (959, 76, 957, 958), (967, 76, 965, 966), (980, 76, 978, 979), (988, 76, 986, 987), (992, 76, 990, 991), (996, 76, 994, 995), (1000, 76, 998, 999), (383, 76, 382, 0), (380, 76, 379, 0), (499, 76, 498, 0), (460, 76, 459, 0), (892, 76, 891, 0), (844, 76, 843, 0), (387, 76, 386, 0), (403, 76, 402, 1), (428, 76, 427, 3), (555, 76, 554, 6), (551, 76, 550, 5), (466, 76, 465, 4), (1004, 76, 1003, 30), (848, 76, 847, 26), (926, 76, 925, 27), (838, 76, 837, 25), (841, 76, 840, 0), (851, 76, 850, 0), (951, 76, 950, 28), (963, 76, 962, 29), (0, 0, 0, 0), (1151, 82, 1150, 31), (1145, 82, 1144, 0), (1182, 82, 1181, 33), (1232, 82, 1231, 38), (1201, 82, 1200, 0), (1141, 82, 1139, 1140), (1162, 82, 1161, 0), (1159, 82, 1158, 32), (1155, 82, 1153, 1154), (1166, 82, 1164, 1165), (1170, 82, 1168, 1169), (1174, 82, 1172, 1173), (1178, 82, 1176, 1177), (1190, 82, 1189, 0), (1198, 82, 1197, 35), (1186, 82, 1184, 1185), (1205, 82, 1203, 1204), (1216, 82, 1215, 36), (1209, 82, 1207, 1208), (1224, 82, 1223, 37), (1220, 82, 1218, 1219), (1228, 82, 1226, 1227), (1239, 82, 1238, 0), (1236, 82, 1234, 1235), (1262, 82, 1261, 42), (1258, 82, 1257, 41), (1254, 82, 1253, 40), (1250, 82, 1249, 39), (1246, 82, 1244, 1245), (1266, 82, 1264, 1265), (1270, 82, 1268, 1269), (1274, 82, 1272, 1273), (1279, 82, 1277, 1278), (1307, 82, 1306, 0), (1310, 82, 1309, 0), (1304, 82, 1303, 46), (1333, 82, 1332, 51), (1319, 82, 1318, 48), (1329, 82, 1328, 50), (1325, 82, 1324, 49), (1341, 82, 1340, 52), (1345, 82, 1344, 53), (1353, 82, 1352, 54), (1314, 82, 1313, 47), (1300, 82, 1299, 45), (1283, 82, 1281, 1282), (1357, 82, 1355, 1356), (1361, 82, 1359, 1360), (1365, 82, 1363, 1364), (1194, 82, 1193, 34), (1377, 82, 1376, 56), (1393, 82, 1392, 58), (1373, 82, 1372, 55), (1385, 82, 1384, 57), (1369, 82, 1367, 1368), (1381, 82, 1379, 1380), (1389, 82, 1387, 1388), (1401, 82, 1400, 59), (1397, 82, 1395, 1396), (1410, 82, 1409, 60), (1422, 82, 1421, 63), (1418, 82, 1417, 62), (1414, 82, 1413, 61), (1479, 82, 1478, 69), (1405, 82, 1403, 1404), (1430, 82, 1429, 64), (1426, 82, 1424, 1425), (1434, 82, 1432, 1433), (1438, 82, 1436, 1437), (1442, 82, 1440, 1441), (1446, 82, 1444, 1445), (1450, 82, 1448, 1449), (1454, 82, 1452, 1453), (1475, 82, 1474, 68), (1471, 82, 1470, 67), (1467, 82, 1466, 66), (1463, 82, 1462, 65), (1458, 82, 1456, 1457), (1483, 82, 1481, 1482), (1487, 82, 1485, 1486), (1495, 82, 1494, 70), (1491, 82, 1489, 1490), (1499, 82, 1497, 1498), (1507, 82, 1506, 71), (1503, 82, 1501, 1502), (1511, 82, 1509, 1510), (1515, 82, 1513, 1514), (1521, 82, 1519, 1520), (1525, 82, 1523, 1524), (1529, 82, 1527, 1528), (1537, 82, 1536, 72), (1533, 82, 1531, 1532), (1545, 82, 1544, 73), (1541, 82, 1539, 1540), (1554, 82, 1553, 74), (1550, 82, 1548, 1549), (1558, 82, 1556, 1557), (1287, 82, 1286, 43), (1296, 82, 1295, 0), (1293, 82, 1292, 44), (1562, 82, 1560, 1561), (1566, 82, 1564, 1565), (1570, 82, 1568, 1569), (473, 84, 472, 0), (0, 0, 0, 0), (0, 0, 0, 0), (618, 86, 616, 617), (628, 86, 626, 627), (622, 86, 620, 621), (632, 86, 630, 631), (638, 86, 637, 0), (635, 87, 634, 0), (0, 0, 0, 0), (0, 0, 0, 0), (0, 0, 0, 0), (0, 0, 0, 0), (643, 88, 642, 0), (0, 0, 0, 0)]
def en_mlp : List Nat := [801, 808, 820, 805, 806, 807, 812, 816, 823, 827, 448, 564, 565, 560, 481, 736, 901, 732, 738, 742, 746, 775, 779, 783, 771, 792, 598, 606, 602, 605, 615, 625, 611, 663, 676, 677, 683, 684, 690, 695, 705, 667, 681, 688, 671, 709, 710, 412, 392, 417, 378, 381, 384, 388, 400, 413, 425, 408, 404, 444, 449, 450, 458, 463, 497, 500, 504, 508, 516, 520, 528, 532, 548, 569, 577, 589, 594, 485, 728, 758, 767, 788, 797, 835, 842, 860, 864, 845, 471, 878, 890, 897, 552, 556, 914, 923, 931, 943, 948, 960, 968, 973, 981, 1001, 467, 477, 839, 849, 952, 1143, 1148, 1156, 1160, 1179, 1188, 1191, 1195, 1199, 1213, 1221, 1229, 1237, 1259, 1255, 1247, 1251, 1305, 1308, 1320, 1321, 1330, 1301, 1326, 1342, 1322, 1316, 1338, 1350, 1311, 1284, 1297, 1290, 1374, 1370, 1382, 1390, 1398, 1419, 1415, 1407, 1411, 1427, 1472, 1476, 1468, 1464, 1460, 1492, 1504, 1534, 1542, 1551, 1294, 619, 629, 633, 641, 636, 374, 1138, 396, 1152, 421, 1163, 432, 1167, 436, 1171, 440, 1175, 454, 1183, 489, 1202, 493, 1206, 512, 1217, 524, 1225, 536, 1233, 544, 1243, 573, 1271, 581, 1276, 585, 1280, 712, 1354, 716, 1358, 720, 1362, 724, 1366, 750, 1378, 754, 1386, 759, 1394, 763, 1402, 784, 1423, 793, 1455, 831, 1488, 852, 1526, 856, 1480, 865, 1484, 870, 1496, 874, 1500, 882, 1508, 886, 1512, 893, 1518, 902, 1263, 906, 1267, 910, 1435, 915, 1431, 919, 1451, 927, 1447, 935, 1439, 939, 1443, 944, 1522, 956, 1530, 964, 1538, 977, 1547, 985, 1555, 989, 1559, 993, 1563, 997, 1567]
def en_flp : List Nat := [132, 229, 231, 232, 233, 223, 225, 230, 227, 234, 119, 236, 235, 237, 141, 238, 240, 125, 157, 153, 241, 242, 243, 239, 115, 118, 123, 128, 130, 135, 137, 139, 143, 145, 147, 156, 160, 150, 152, 131, 201, 203, 124, 205, 207, 120, 140, 158, 154, 287, 295, 289, 293, 294, 291, 298, 121, 296, 116, 126, 148, 133, 297, 326, 328, 330, 332, 349, 329, 333, 331, 327, 343, 136, 122, 117, 149, 134, 348, 288, 345, 292, 290, 138, 142, 144, 146, 151, 159, 155, 161, 127, 346, 202, 204, 206, 347, 224, 226, 228, 351, 129, 344, 352, 350, 1022, 1024, 1032, 1014, 1015, 1016, 1017, 1018, 1019, 1034, 1033, 1025, 1030, 1029, 1023, 1026, 1027, 1028, 1031, 1035, 1036, 1021, 1020, 1040, 1042, 1043, 1041, 1044, 1045, 1046, 1047, 1048, 1050, 1049, 1051, 1052, 1054, 1053, 1037, 1039, 1038]
def en_xlk : List (Nat × Nat × Nat) := [(0, 108, 1002), (1, 69, 1000), (1, 79, 1001), (5, 96, 1000), (5, 287, 1001)]
def en_xlp : List Nat := [813, 593, 482, 429, 869]
theorem en_tm_1 : ∀ w ∈ tables_1_1, w ∈ lw_tbl := fun w h => List.mem_append_right _ (List.mem_append_left _ h)
theorem en_tm_2 : ∀ w ∈ tables_1_2, w ∈ lw_tbl := fun w h => List.mem_append_right _ (List.mem_append_right _ (List.mem_append_left _ h))
theorem en_tm_3 : ∀ w ∈ tables_1_3, w ∈ lw_tbl := fun w h => List.mem_append_right _ (List.mem_append_right _ (List.mem_append_right _ (List.mem_append_left _ h)))
theorem en_tm_4 : ∀ w ∈ tables_1_4, w ∈ lw_tbl := fun w h => List.mem_append_right _ (List.mem_append_right _ (List.mem_append_right _ (List.mem_append_right _ (List.mem_append_left _ h))))
theorem en_tm_5 : ∀ w ∈ tables_1_5, w ∈ lw_tbl := fun w h => List.mem_append_right _ (List.mem_append_right _ (List.mem_append_right _ (List.mem_append_right _ (List.mem_append_right _ (List.mem_append_left _ h)))))
theorem en_tm_6 : ∀ w ∈ tables_1_6, w ∈ lw_tbl := fun w h => List.mem_append_right _ (List.mem_append_right _ (List.mem_append_right _ (List.mem_append_right _ (List.mem_append_right _ (List.mem_append_right _ (List.mem_append_left _ h))))))
theorem en_tm_7 : ∀ w ∈ tables_1_7, w ∈ lw_tbl := fun w h => List.mem_append_right _ (List.mem_append_right _ (List.mem_append_right _ (List.mem_append_right _ (List.mem_append_right _ (List.mem_append_right _ (List.mem_append_right _ (h)))))))
set_option maxRecDepth 20000 in
theorem en_cw_1 : Cond.code yX0_find cX0_find 3 (none) ∈ lw_tbl := en_tm_4 _ (List.mem_of_getElem? (i := 5) rfl)
set_option maxRecDepth 20000 in
theorem en_cw_2 : Cond.code yX0_lineUp cX0_lineUp 6 (none) ∈ lw_tbl := en_tm_4 _ (List.mem_of_getElem? (i := 9) rfl)
set_option maxRecDepth 20000 in
theorem en_cw_3 : Cond.code yX0_watchOthers cX0_watchOthers 4 (none) ∈ lw_tbl := en_tm_4 _ (List.mem_of_getElem? (i := 16) rfl)
set_option maxRecDepth 20000 in
theorem en_cw_4 : Cond.code yX0_watch cX0_watch 6 (none) ∈ lw_tbl := en_tm_4 _ (List.mem_of_getElem? (i := 24) rfl)
set_option maxRecDepth 20000 in
theorem en_cw_5 : Cond.code yX0_extend cX0_extend 9 (none) ∈ lw_tbl := en_tm_4 _ (List.mem_of_getElem? (i := 27) rfl)
set_option maxRecDepth 20000 in
theorem en_cw_6 : Cond.code yX0_weigh cX0_weigh 6 (none) ∈ lw_tbl := en_tm_4 _ (List.mem_of_getElem? (i := 31) rfl)
set_option maxRecDepth 20000 in
theorem en_cw_7 : Cond.code yX0_pointsAt cX0_pointsAt 10 (some .int) ∈ lw_tbl := en_tm_4 _ (List.mem_of_getElem? (i := 35) rfl)
set_option maxRecDepth 20000 in
theorem en_cw_8 : Cond.code yX0_writeTo cX0_writeTo 5 (none) ∈ lw_tbl := en_tm_4 _ (List.mem_of_getElem? (i := 160) rfl)
set_option maxRecDepth 20000 in
theorem en_cw_10 : Cond.code yX1_become cX1_become 3 (none) ∈ lw_tbl := en_tm_3 _ (List.mem_of_getElem? (i := 37) rfl)
set_option maxRecDepth 20000 in
theorem en_cw_11 : Cond.code yX1_isWord cX1_isWord 2 (some .boolean) ∈ lw_tbl := en_tm_2 _ (List.mem_of_getElem? (i := 132) rfl)
set_option maxRecDepth 20000 in
theorem en_cw_12 : Cond.code yX1_isPerson cX1_isPerson 2 (some .boolean) ∈ lw_tbl := en_tm_2 _ (List.mem_of_getElem? (i := 216) rfl)
set_option maxRecDepth 20000 in
theorem en_cw_13 : Cond.code yX1_isColumn cX1_isColumn 2 (some .boolean) ∈ lw_tbl := en_tm_2 _ (List.mem_of_getElem? (i := 188) rfl)
set_option maxRecDepth 20000 in
theorem en_cw_14 : Cond.code yX1_hasRoomForWord cX1_hasRoomForWord 1 (some .boolean) ∈ lw_tbl := en_tm_2 _ (List.mem_of_getElem? (i := 192) rfl)
set_option maxRecDepth 20000 in
theorem en_cw_15 : Cond.code yX1_hasRoomForPerson cX1_hasRoomForPerson 1 (some .boolean) ∈ lw_tbl := en_tm_2 _ (List.mem_of_getElem? (i := 204) rfl)
set_option maxRecDepth 20000 in
theorem en_cw_16 : Cond.code yX1_addWord cX1_addWord 7 (some .int) ∈ lw_tbl := en_tm_2 _ (List.mem_of_getElem? (i := 196) rfl)
set_option maxRecDepth 20000 in
theorem en_cw_17 : Cond.code yX1_addPerson cX1_addPerson 2 (some .int) ∈ lw_tbl := en_tm_2 _ (List.mem_of_getElem? (i := 208) rfl)
set_option maxRecDepth 20000 in
theorem en_cw_18 : Cond.code yX1_cost cX1_cost 3 (some .int) ∈ lw_tbl := en_tm_2 _ (List.mem_of_getElem? (i := 173) rfl)
set_option maxRecDepth 20000 in
theorem en_cw_19 : Cond.code yX1_isKnown cX1_isKnown 3 (some .boolean) ∈ lw_tbl := en_tm_2 _ (List.mem_of_getElem? (i := 220) rfl)
set_option maxRecDepth 20000 in
theorem en_cw_20 : Cond.code yX1_isBarred cX1_isBarred 2 (some .boolean) ∈ lw_tbl := en_tm_3 _ (List.mem_of_getElem? (i := 13) rfl)
set_option maxRecDepth 20000 in
theorem en_cw_21 : Cond.code yX1_canStand cX1_canStand 3 (some .boolean) ∈ lw_tbl := en_tm_3 _ (List.mem_of_getElem? (i := 8) rfl)
set_option maxRecDepth 20000 in
theorem en_cw_22 : Cond.code yX1_firstWrong cX1_firstWrong 7 (some .int) ∈ lw_tbl := en_tm_3 _ (List.mem_of_getElem? (i := 4) rfl)
set_option maxRecDepth 20000 in
theorem en_cw_23 : Cond.code yX1_putSheet cX1_putSheet 5 (none) ∈ lw_tbl := en_tm_3 _ (List.mem_of_getElem? (i := 17) rfl)
set_option maxRecDepth 20000 in
theorem en_cw_24 : Cond.code yX1_openPlace cX1_openPlace 5 (some .int) ∈ lw_tbl := en_tm_4 _ (List.mem_of_getElem? (i := 68) rfl)
set_option maxRecDepth 20000 in
theorem en_cw_25 : Cond.code yX1_sheetsWith cX1_sheetsWith 5 (some .int) ∈ lw_tbl := en_tm_2 _ (List.mem_of_getElem? (i := 155) rfl)
set_option maxRecDepth 20000 in
theorem en_cw_26 : Cond.code yX1_knowersMissing cX1_knowersMissing 2 (some .int) ∈ lw_tbl := en_tm_2 _ (List.mem_of_getElem? (i := 165) rfl)
set_option maxRecDepth 20000 in
theorem en_cw_27 : Cond.code yX1_passesVote cX1_passesVote 2 (some .boolean) ∈ lw_tbl := en_tm_3 _ (List.mem_of_getElem? (i := 194) rfl)
set_option maxRecDepth 20000 in
theorem en_cw_28 : Cond.code yX1_writtenBy cX1_writtenBy 7 (some .int) ∈ lw_tbl := en_tm_3 _ (List.mem_of_getElem? (i := 186) rfl)
set_option maxRecDepth 20000 in
theorem en_cw_29 : Cond.code yX1_wholeSheetTakes cX1_wholeSheetTakes 4 (some .int) ∈ lw_tbl := en_tm_4 _ (List.mem_of_getElem? (i := 139) rfl)
set_option maxRecDepth 20000 in
theorem en_cw_30 : Cond.code yX1_readyAt cX1_readyAt 6 (some .int) ∈ lw_tbl := en_tm_3 _ (List.mem_of_getElem? (i := 180) rfl)
set_option maxRecDepth 20000 in
theorem en_cw_31 : Cond.code yX1_columnsFilled cX1_columnsFilled 5 (some .int) ∈ lw_tbl := en_tm_4 _ (List.mem_of_getElem? (i := 86) rfl)
set_option maxRecDepth 20000 in
theorem en_cw_32 : Cond.code yX1_fillsMostAlone cX1_fillsMostAlone 5 (some .boolean) ∈ lw_tbl := en_tm_4 _ (List.mem_of_getElem? (i := 105) rfl)
set_option maxRecDepth 20000 in
theorem en_cw_33 : Cond.code yX1_drawLetter cX1_drawLetter 1 (some .int) ∈ lw_tbl := en_tm_4 _ (List.mem_of_getElem? (i := 176) rfl)
set_option maxRecDepth 20000 in
theorem en_cw_34 : Cond.code yX1_firstByScore cX1_firstByScore 3 (some .int) ∈ lw_tbl := en_tm_4 _ (List.mem_of_getElem? (i := 181) rfl)
set_option maxRecDepth 20000 in
theorem en_cw_35 : Cond.code yX1_usedCount cX1_usedCount 3 (some .int) ∈ lw_tbl := en_tm_4 _ (List.mem_of_getElem? (i := 189) rfl)
set_option maxRecDepth 20000 in
theorem en_cw_37 : Cond.code yX2_reckon cX2_reckon 4 (none) ∈ lw_tbl := en_tm_3 _ (List.mem_of_getElem? (i := 176) rfl)
set_option maxRecDepth 20000 in
theorem en_cw_38 : Cond.code yX2_keep cX2_keep 5 (none) ∈ lw_tbl := en_tm_3 _ (List.mem_of_getElem? (i := 190) rfl)
set_option maxRecDepth 20000 in
theorem en_cw_39 : Cond.code yX2_keepersOf cX2_keepersOf 5 (some .int) ∈ lw_tbl := en_tm_3 _ (List.mem_of_getElem? (i := 227) rfl)
set_option maxRecDepth 20000 in
theorem en_cw_40 : Cond.code yX2_howManyKeptIn cX2_howManyKeptIn 5 (some .int) ∈ lw_tbl := en_tm_3 _ (List.mem_of_getElem? (i := 223) rfl)
set_option maxRecDepth 20000 in
theorem en_cw_41 : Cond.code yX2_worth cX2_worth 3 (some .int) ∈ lw_tbl := en_tm_3 _ (List.mem_of_getElem? (i := 219) rfl)
set_option maxRecDepth 20000 in
theorem en_cw_42 : Cond.code yX2_pointsIn cX2_pointsIn 7 (some .int) ∈ lw_tbl := en_tm_3 _ (List.mem_of_getElem? (i := 215) rfl)
set_option maxRecDepth 20000 in
theorem en_cw_43 : Cond.code yX2_leaderBesides cX2_leaderBesides 7 (some .int) ∈ lw_tbl := en_tm_3 _ (List.mem_of_getElem? (i := 236) rfl)
set_option maxRecDepth 20000 in
theorem en_cw_45 : Cond.code yX3_take cX3_take 2 (some .boolean) ∈ lw_tbl := en_tm_3 _ (List.mem_of_getElem? (i := 25) rfl)
set_option maxRecDepth 20000 in
theorem en_cw_46 : Cond.code yX3_read cX3_read 3 (some .boolean) ∈ lw_tbl := en_tm_3 _ (List.mem_of_getElem? (i := 42) rfl)
set_option maxRecDepth 20000 in
theorem en_cw_47 : Cond.code yX3_step cX3_step 1 (none) ∈ lw_tbl := en_tm_3 _ (List.mem_of_getElem? (i := 46) rfl)
set_option maxRecDepth 20000 in
theorem en_cw_48 : Cond.code yX3_sortOf cX3_sortOf 1 (some .int) ∈ lw_tbl := en_tm_3 _ (List.mem_of_getElem? (i := 49) rfl)
set_option maxRecDepth 20000 in
theorem en_cw_49 : Cond.code yX3_isNamed cX3_isNamed 3 (some .boolean) ∈ lw_tbl := en_tm_3 _ (List.mem_of_getElem? (i := 59) rfl)
set_option maxRecDepth 20000 in
theorem en_cw_50 : Cond.code yX3_readStatement cX3_readStatement 2 (some .boolean) ∈ lw_tbl := en_tm_3 _ (List.mem_of_getElem? (i := 54) rfl)
set_option maxRecDepth 20000 in
theorem en_cw_51 : Cond.code yX3_readColumns cX3_readColumns 2 (some .boolean) ∈ lw_tbl := en_tm_3 _ (List.mem_of_getElem? (i := 111) rfl)
set_option maxRecDepth 20000 in
theorem en_cw_52 : Cond.code yX3_readWord cX3_readWord 2 (some .boolean) ∈ lw_tbl := en_tm_3 _ (List.mem_of_getElem? (i := 125) rfl)
set_option maxRecDepth 20000 in
theorem en_cw_53 : Cond.code yX3_readPerson cX3_readPerson 2 (some .boolean) ∈ lw_tbl := en_tm_3 _ (List.mem_of_getElem? (i := 132) rfl)
set_option maxRecDepth 20000 in
theorem en_cw_54 : Cond.code yX3_readKnows cX3_readKnows 2 (some .boolean) ∈ lw_tbl := en_tm_3 _ (List.mem_of_getElem? (i := 138) rfl)
set_option maxRecDepth 20000 in
theorem en_cw_55 : Cond.code yX3_readAsked cX3_readAsked 5 (some .boolean) ∈ lw_tbl := en_tm_3 _ (List.mem_of_getElem? (i := 143) rfl)
set_option maxRecDepth 20000 in
theorem en_cw_56 : Cond.code yX3_readSheet cX3_readSheet 4 (some .boolean) ∈ lw_tbl := en_tm_3 _ (List.mem_of_getElem? (i := 153) rfl)
set_option maxRecDepth 20000 in
theorem en_cw_57 : Cond.code yX3_readNumber cX3_readNumber 4 (some .boolean) ∈ lw_tbl := en_tm_3 _ (List.mem_of_getElem? (i := 115) rfl)
set_option maxRecDepth 20000 in
theorem en_cw_58 : Cond.code yX3_value cX3_value 3 (some .int) ∈ lw_tbl := en_tm_3 _ (List.mem_of_getElem? (i := 119) rfl)
set_option maxRecDepth 20000 in
theorem en_cw_60 : Cond.code yX4_hasRow cX4_hasRow 1 (some .boolean) ∈ lw_tbl := en_tm_2 _ (List.mem_of_getElem? (i := 96) rfl)
set_option maxRecDepth 20000 in
theorem en_cw_61 : Cond.code yX4_hasWord cX4_hasWord 1 (some .boolean) ∈ lw_tbl := en_tm_2 _ (List.mem_of_getElem? (i := 92) rfl)
set_option maxRecDepth 20000 in
theorem en_cw_62 : Cond.code yX4_clear cX4_clear 1 (none) ∈ lw_tbl := en_tm_2 _ (List.mem_of_getElem? (i := 80) rfl)
set_option maxRecDepth 20000 in
theorem en_cw_63 : Cond.code yX4_becomeWord cX4_becomeWord 2 (none) ∈ lw_tbl := en_tm_2 _ (List.mem_of_getElem? (i := 138) rfl)
set_option maxRecDepth 20000 in
theorem en_cw_64 : Cond.code yX4_becomeRow cX4_becomeRow 4 (none) ∈ lw_tbl := en_tm_2 _ (List.mem_of_getElem? (i := 76) rfl)
set_option maxRecDepth 20000 in
theorem en_cw_65 : Cond.code yX4_put cX4_put 4 (none) ∈ lw_tbl := en_tm_2 _ (List.mem_of_getElem? (i := 101) rfl)
set_option maxRecDepth 20000 in
theorem en_cw_66 : Cond.code yX4_lowestBits cX4_lowestBits 3 (some .long) ∈ lw_tbl := en_tm_2 _ (List.mem_of_getElem? (i := 105) rfl)
set_option maxRecDepth 20000 in
theorem en_cw_68 : Cond.code yX5_row cX5_row 4 (some .int) ∈ lw_tbl := en_tm_2 _ (List.mem_of_getElem? (i := 62) rfl)
set_option maxRecDepth 20000 in
theorem en_cw_69 : Cond.code yX5_set cX5_set 6 (some .int) ∈ lw_tbl := en_tm_2 _ (List.mem_of_getElem? (i := 84) rfl)
set_option maxRecDepth 20000 in
theorem en_cw_70 : Cond.code yX5_copy cX5_copy 9 (some .int) ∈ lw_tbl := en_tm_2 _ (List.mem_of_getElem? (i := 109) rfl)
set_option maxRecDepth 20000 in
theorem en_cw_71 : Cond.code yX5_element cX5_element 3 (some .long) ∈ lw_tbl := en_tm_2 _ (List.mem_of_getElem? (i := 120) rfl)
set_option maxRecDepth 20000 in
theorem en_cw_72 : Cond.code yX5_holds cX5_holds 3 (some .int) ∈ lw_tbl := en_tm_2 _ (List.mem_of_getElem? (i := 124) rfl)
set_option maxRecDepth 20000 in
theorem en_cw_73 : Cond.code yX5_show cX5_show 3 (some .int) ∈ lw_tbl := en_tm_2 _ (List.mem_of_getElem? (i := 128) rfl)
set_option maxRecDepth 20000 in
theorem en_cw_74 : Cond.code yX5_says cX5_says 4 (some .int) ∈ lw_tbl := en_tm_2 _ (List.mem_of_getElem? (i := 142) rfl)
set_option maxRecDepth 20000 in
theorem en_cw_75 : Cond.code yX5_columns cX5_columns 3 (some .int) ∈ lw_tbl := en_tm_2 _ (List.mem_of_getElem? (i := 177) rfl)
set_option maxRecDepth 20000 in
theorem en_cw_76 : Cond.code yX5_word cX5_word 6 (some .int) ∈ lw_tbl := en_tm_2 _ (List.mem_of_getElem? (i := 181) rfl)
set_option maxRecDepth 20000 in
theorem en_cw_77 : Cond.code yX5_person cX5_person 1 (some .int) ∈ lw_tbl := en_tm_2 _ (List.mem_of_getElem? (i := 200) rfl)
set_option maxRecDepth 20000 in
theorem en_cw_78 : Cond.code yX5_knows cX5_knows 4 (some .int) ∈ lw_tbl := en_tm_2 _ (List.mem_of_getElem? (i := 212) rfl)
set_option maxRecDepth 20000 in
theorem en_cw_79 : Cond.code yX5_ask cX5_ask 4 (some .int) ∈ lw_tbl := en_tm_2 _ (List.mem_of_getElem? (i := 224) rfl)
set_option maxRecDepth 20000 in
theorem en_cw_80 : Cond.code yX5_sheet cX5_sheet 5 (some .int) ∈ lw_tbl := en_tm_2 _ (List.mem_of_getElem? (i := 232) rfl)
set_option maxRecDepth 20000 in
theorem en_cw_81 : Cond.code yX5_feed cX5_feed 2 (some .int) ∈ lw_tbl := en_tm_3 _ (List.mem_of_getElem? (i := 21) rfl)
set_option maxRecDepth 20000 in
theorem en_cw_82 : Cond.code yX5_wipe cX5_wipe 2 (some .int) ∈ lw_tbl := en_tm_3 _ (List.mem_of_getElem? (i := 29) rfl)
set_option maxRecDepth 20000 in
theorem en_cw_83 : Cond.code yX5_evening cX5_evening 2 (some .int) ∈ lw_tbl := en_tm_3 _ (List.mem_of_getElem? (i := 33) rfl)
set_option maxRecDepth 20000 in
theorem en_cw_84 : Cond.code yX5_wordOf cX5_wordOf 3 (some .int) ∈ lw_tbl := en_tm_3 _ (List.mem_of_getElem? (i := 160) rfl)
set_option maxRecDepth 20000 in
theorem en_cw_85 : Cond.code yX5_sheetOf cX5_sheetOf 3 (some .int) ∈ lw_tbl := en_tm_3 _ (List.mem_of_getElem? (i := 164) rfl)
set_option maxRecDepth 20000 in
theorem en_cw_86 : Cond.code yX5_score cX5_score 2 (some .int) ∈ lw_tbl := en_tm_3 _ (List.mem_of_getElem? (i := 168) rfl)
set_option maxRecDepth 20000 in
theorem en_cw_87 : Cond.code yX5_call cX5_call 1 (some .int) ∈ lw_tbl := en_tm_3 _ (List.mem_of_getElem? (i := 172) rfl)
set_option maxRecDepth 20000 in
theorem en_cw_88 : Cond.code yX5_caller cX5_caller 1 (some .int) ∈ lw_tbl := en_tm_3 _ (List.mem_of_getElem? (i := 198) rfl)
set_option maxRecDepth 20000 in
theorem en_cw_89 : Cond.code yX5_written cX5_written 3 (some .int) ∈ lw_tbl := en_tm_3 _ (List.mem_of_getElem? (i := 202) rfl)
set_option maxRecDepth 20000 in
theorem en_cw_90 : Cond.code yX5_kept cX5_kept 2 (some .int) ∈ lw_tbl := en_tm_3 _ (List.mem_of_getElem? (i := 207) rfl)
set_option maxRecDepth 20000 in
theorem en_cw_91 : Cond.code yX5_points cX5_points 3 (some .int) ∈ lw_tbl := en_tm_3 _ (List.mem_of_getElem? (i := 211) rfl)
set_option maxRecDepth 20000 in
theorem en_cw_92 : Cond.code yX5_winner cX5_winner 1 (some .int) ∈ lw_tbl := en_tm_3 _ (List.mem_of_getElem? (i := 232) rfl)
set_option maxRecDepth 20000 in
theorem en_cw_93 : Cond.code yX5_best cX5_best 3 (some .int) ∈ lw_tbl := en_tm_4 _ (List.mem_of_getElem? (i := 1) rfl)
set_option maxRecDepth 20000 in
theorem en_cw_94 : Cond.code yX5_order cX5_order 4 (some .int) ∈ lw_tbl := en_tm_4 _ (List.mem_of_getElem? (i := 39) rfl)
set_option maxRecDepth 20000 in
theorem en_cw_95 : Cond.code yX5_swap cX5_swap 4 (some .int) ∈ lw_tbl := en_tm_4 _ (List.mem_of_getElem? (i := 60) rfl)
set_option maxRecDepth 20000 in
theorem en_cw_96 : Cond.code yX5_bestWord cX5_bestWord 8 (some .int) ∈ lw_tbl := en_tm_4 _ (List.mem_of_getElem? (i := 64) rfl)
set_option maxRecDepth 20000 in
theorem en_cw_97 : Cond.code yX5_learn cX5_learn 6 (some .int) ∈ lw_tbl := en_tm_4 _ (List.mem_of_getElem? (i := 73) rfl)
set_option maxRecDepth 20000 in
theorem en_cw_98 : Cond.code yX5_lonely cX5_lonely 4 (some .int) ∈ lw_tbl := en_tm_4 _ (List.mem_of_getElem? (i := 78) rfl)
set_option maxRecDepth 20000 in
theorem en_cw_99 : Cond.code yX5_fills cX5_fills 3 (some .int) ∈ lw_tbl := en_tm_4 _ (List.mem_of_getElem? (i := 82) rfl)
set_option maxRecDepth 20000 in
theorem en_cw_100 : Cond.code yX5_gains cX5_gains 4 (some .int) ∈ lw_tbl := en_tm_4 _ (List.mem_of_getElem? (i := 90) rfl)
set_option maxRecDepth 20000 in
theorem en_cw_101 : Cond.code yX5_silent cX5_silent 4 (some .int) ∈ lw_tbl := en_tm_4 _ (List.mem_of_getElem? (i := 94) rfl)
set_option maxRecDepth 20000 in
theorem en_cw_102 : Cond.code yX5_stop cX5_stop 5 (some .int) ∈ lw_tbl := en_tm_4 _ (List.mem_of_getElem? (i := 101) rfl)
set_option maxRecDepth 20000 in
theorem en_cw_103 : Cond.code yX5_judge cX5_judge 5 (some .int) ∈ lw_tbl := en_tm_4 _ (List.mem_of_getElem? (i := 110) rfl)
set_option maxRecDepth 20000 in
theorem en_cw_104 : Cond.code yX5_takes cX5_takes 7 (some .int) ∈ lw_tbl := en_tm_4 _ (List.mem_of_getElem? (i := 114) rfl)
set_option maxRecDepth 20000 in
theorem en_cw_105 : Cond.code yX5_keptBy cX5_keptBy 2 (some .int) ∈ lw_tbl := en_tm_4 _ (List.mem_of_getElem? (i := 118) rfl)
set_option maxRecDepth 20000 in
theorem en_cw_106 : Cond.code yX5_rival cX5_rival 2 (some .int) ∈ lw_tbl := en_tm_4 _ (List.mem_of_getElem? (i := 123) rfl)
set_option maxRecDepth 20000 in
theorem en_cw_107 : Cond.code yX5_needFor cX5_needFor 6 (some .int) ∈ lw_tbl := en_tm_4 _ (List.mem_of_getElem? (i := 127) rfl)
set_option maxRecDepth 20000 in
theorem en_cw_108 : Cond.code yX5_late cX5_late 2 (some .int) ∈ lw_tbl := en_tm_4 _ (List.mem_of_getElem? (i := 135) rfl)
set_option maxRecDepth 20000 in
theorem en_cw_109 : Cond.code yX5_clashes cX5_clashes 3 (some .int) ∈ lw_tbl := en_tm_4 _ (List.mem_of_getElem? (i := 143) rfl)
set_option maxRecDepth 20000 in
theorem en_cw_110 : Cond.code yX5_empty cX5_empty 3 (some .int) ∈ lw_tbl := en_tm_4 _ (List.mem_of_getElem? (i := 147) rfl)
set_option maxRecDepth 20000 in
theorem en_cw_111 : Cond.code yX5_takeBest cX5_takeBest 2 (some .int) ∈ lw_tbl := en_tm_4 _ (List.mem_of_getElem? (i := 152) rfl)
set_option maxRecDepth 20000 in
theorem en_cw_112 : Cond.code yX5_round cX5_round 1 (some .int) ∈ lw_tbl := en_tm_4 _ (List.mem_of_getElem? (i := 164) rfl)
set_option maxRecDepth 20000 in
theorem en_cw_113 : Cond.code yX5_rounds cX5_rounds 4 (some .int) ∈ lw_tbl := en_tm_4 _ (List.mem_of_getElem? (i := 172) rfl)
set_option maxRecDepth 20000 in
theorem en_cw_114 : Cond.code yX5_again cX5_again 3 (some .int) ∈ lw_tbl := en_tm_4 _ (List.mem_of_getElem? (i := 185) rfl)
set_option maxRecDepth 20000 in
theorem en_cw_115 : Cond.code yX5_seed cX5_seed 3 (some .int) ∈ lw_tbl := en_tm_4 _ (List.mem_of_getElem? (i := 193) rfl)
set_option maxRecDepth 20000 in
theorem en_cw_116 : Cond.code yX5_image cX5_image 1 (some .int) ∈ lw_tbl := en_tm_4 _ (List.mem_of_getElem? (i := 197) rfl)
set_option maxRecDepth 20000 in
theorem en_cw_117 : Cond.code yX5_back cX5_back 2 (some .int) ∈ lw_tbl := en_tm_4 _ (List.mem_of_getElem? (i := 201) rfl)
set_option maxRecDepth 20000 in
theorem en_cw_118 : Cond.code yX5_status cX5_status 2 (some .int) ∈ lw_tbl := en_tm_4 _ (List.mem_of_getElem? (i := 205) rfl)
set_option maxRecDepth 20000 in
theorem en_cw_119 : Cond.code yX5_within cX5_within 3 (some .boolean) ∈ lw_tbl := en_tm_2 _ (List.mem_of_getElem? (i := 68) rfl)
set_option maxRecDepth 20000 in
theorem en_cw_120 : Cond.code yX5_isShelf cX5_isShelf 1 (some .boolean) ∈ lw_tbl := en_tm_2 _ (List.mem_of_getElem? (i := 65) rfl)
set_option maxRecDepth 20000 in
theorem en_cw_121 : Cond.code yX5_isLetter cX5_isLetter 1 (some .boolean) ∈ lw_tbl := en_tm_2 _ (List.mem_of_getElem? (i := 184) rfl)
set_option maxRecDepth 20000 in
theorem en_cw_122 : Cond.code yX5_isUnder cX5_isUnder 4 (some .boolean) ∈ lw_tbl := en_tm_2 _ (List.mem_of_getElem? (i := 145) rfl)
set_option maxRecDepth 20000 in
theorem en_cw_123 : Cond.code yX5_letterAt cX5_letterAt 3 (some .int) ∈ lw_tbl := en_tm_4 _ (List.mem_of_getElem? (i := 97) rfl)
set_option maxRecDepth 20000 in
theorem en_cw_124 : Cond.code yX5_exchange cX5_exchange 4 (none) ∈ lw_tbl := en_tm_4 _ (List.mem_of_getElem? (i := 49) rfl)
set_option maxRecDepth 20000 in
theorem en_cw_125 : Cond.code yX5_refuse cX5_refuse 3 (some .int) ∈ lw_tbl := en_tm_2 _ (List.mem_of_getElem? (i := 72) rfl)
set_option maxRecDepth 20000 in
theorem en_cw_126 : Cond.code yX5_troubleOfRow cX5_troubleOfRow 2 (some .int) ∈ lw_tbl := en_tm_2 _ (List.mem_of_getElem? (i := 88) rfl)
set_option maxRecDepth 20000 in
theorem en_cw_127 : Cond.code yX5_troubleOfPair cX5_troubleOfPair 5 (some .int) ∈ lw_tbl := en_tm_2 _ (List.mem_of_getElem? (i := 113) rfl)
set_option maxRecDepth 20000 in
theorem en_cw_128 : Cond.code yX5_troubleOfTold cX5_troubleOfTold 5 (some .int) ∈ lw_tbl := en_tm_3 _ (List.mem_of_getElem? (i := 0) rfl)
set_option maxRecDepth 20000 in
theorem en_cw_129 : Cond.code yX5_troubleOfFitting cX5_troubleOfFitting 5 (some .int) ∈ lw_tbl := en_tm_2 _ (List.mem_of_getElem? (i := 236) rfl)
set_option maxRecDepth 20000 in
theorem en_cw_130 : Cond.code yX5_wordTakenFor cX5_wordTakenFor 3 (some .int) ∈ lw_tbl := en_tm_2 _ (List.mem_of_getElem? (i := 151) rfl)
set_option maxRecDepth 20000 in
theorem en_cw_131 : Cond.code yX5_shelvesInUse cX5_shelvesInUse 3 (some .int) ∈ lw_tbl := en_tm_4 _ (List.mem_of_getElem? (i := 209) rfl)
set_option maxRecDepth 20000 in
theorem en_cw_132 : Cond.code yX5_pointsInThought cX5_pointsInThought 2 (some .int) ∈ lw_tbl := en_tm_4 _ (List.mem_of_getElem? (i := 53) rfl)
set_option maxRecDepth 20000 in
theorem en_cw_133 : Cond.code yX5_leadInThought cX5_leadInThought 4 (some .int) ∈ lw_tbl := en_tm_4 _ (List.mem_of_getElem? (i := 131) rfl)
set_option maxRecDepth 20000 in
theorem en_cw_134 : Cond.code yX5_findOrder cX5_findOrder 7 (some .int) ∈ lw_tbl := en_tm_4 _ (List.mem_of_getElem? (i := 43) rfl)
set_option maxRecDepth 20000 in
theorem en_cw_135 : Cond.code yX5_sortUp cX5_sortUp 4 (none) ∈ lw_tbl := en_tm_4 _ (List.mem_of_getElem? (i := 46) rfl)
set_option maxRecDepth 20000 in
theorem en_cw_136 : Cond.code yX5_stepOrder cX5_stepOrder 6 (some .boolean) ∈ lw_tbl := en_tm_4 _ (List.mem_of_getElem? (i := 56) rfl)
set_option maxRecDepth 20000 in
theorem en_cw_137 : Cond.code yX5_putBestSheet cX5_putBestSheet 2 (some .int) ∈ lw_tbl := en_tm_4 _ (List.mem_of_getElem? (i := 156) rfl)
set_option maxRecDepth 20000 in
theorem en_cw_138 : Cond.code yX5_endRound cX5_endRound 2 (some .int) ∈ lw_tbl := en_tm_4 _ (List.mem_of_getElem? (i := 168) rfl)
set_option maxRecDepth 20000 in
theorem en_cw_140 : Cond.code yX6_refuse cX6_refuse 2 (some .int) ∈ lw_tbl := en_tm_5 _ (List.mem_of_getElem? (i := 116) rfl)
set_option maxRecDepth 20000 in
theorem en_cw_141 : Cond.code yX6_in cX6_in 6 (some .boolean) ∈ lw_tbl := en_tm_5 _ (List.mem_of_getElem? (i := 110) rfl)
set_option maxRecDepth 20000 in
theorem en_cw_142 : Cond.code yX6_isWord cX6_isWord 2 (some .boolean) ∈ lw_tbl := en_tm_5 _ (List.mem_of_getElem? (i := 147) rfl)
set_option maxRecDepth 20000 in
theorem en_cw_143 : Cond.code yX6_isPerson cX6_isPerson 2 (some .boolean) ∈ lw_tbl := en_tm_5 _ (List.mem_of_getElem? (i := 197) rfl)
set_option maxRecDepth 20000 in
theorem en_cw_144 : Cond.code yX6_bits cX6_bits 3 (some .int) ∈ lw_tbl := en_tm_5 _ (List.mem_of_getElem? (i := 166) rfl)
set_option maxRecDepth 20000 in
theorem en_cw_145 : Cond.code yX6_row cX6_row 5 (some .int) ∈ lw_tbl := en_tm_5 _ (List.mem_of_getElem? (i := 106) rfl)
set_option maxRecDepth 20000 in
theorem en_cw_146 : Cond.code yX6_fit cX6_fit 3 (some .long) ∈ lw_tbl := en_tm_5 _ (List.mem_of_getElem? (i := 127) rfl)
set_option maxRecDepth 20000 in
theorem en_cw_147 : Cond.code yX6_noRow cX6_noRow 2 (some .int) ∈ lw_tbl := en_tm_5 _ (List.mem_of_getElem? (i := 124) rfl)
set_option maxRecDepth 20000 in
theorem en_cw_148 : Cond.code yX6_set cX6_set 6 (some .int) ∈ lw_tbl := en_tm_5 _ (List.mem_of_getElem? (i := 120) rfl)
set_option maxRecDepth 20000 in
theorem en_cw_149 : Cond.code yX6_copy cX6_copy 7 (some .int) ∈ lw_tbl := en_tm_5 _ (List.mem_of_getElem? (i := 131) rfl)
set_option maxRecDepth 20000 in
theorem en_cw_150 : Cond.code yX6_element cX6_element 3 (some .long) ∈ lw_tbl := en_tm_5 _ (List.mem_of_getElem? (i := 135) rfl)
set_option maxRecDepth 20000 in
theorem en_cw_151 : Cond.code yX6_holds cX6_holds 2 (some .int) ∈ lw_tbl := en_tm_5 _ (List.mem_of_getElem? (i := 139) rfl)
set_option maxRecDepth 20000 in
theorem en_cw_152 : Cond.code yX6_show cX6_show 3 (some .int) ∈ lw_tbl := en_tm_5 _ (List.mem_of_getElem? (i := 143) rfl)
set_option maxRecDepth 20000 in
theorem en_cw_153 : Cond.code yX6_isUnder cX6_isUnder 2 (some .boolean) ∈ lw_tbl := en_tm_5 _ (List.mem_of_getElem? (i := 155) rfl)
set_option maxRecDepth 20000 in
theorem en_cw_154 : Cond.code yX6_sheetsWith cX6_sheetsWith 5 (some .int) ∈ lw_tbl := en_tm_5 _ (List.mem_of_getElem? (i := 163) rfl)
set_option maxRecDepth 20000 in
theorem en_cw_155 : Cond.code yX6_says cX6_says 5 (some .int) ∈ lw_tbl := en_tm_5 _ (List.mem_of_getElem? (i := 151) rfl)
set_option maxRecDepth 20000 in
theorem en_cw_156 : Cond.code yX6_columns cX6_columns 3 (some .int) ∈ lw_tbl := en_tm_5 _ (List.mem_of_getElem? (i := 170) rfl)
set_option maxRecDepth 20000 in
theorem en_cw_157 : Cond.code yX6_addWord cX6_addWord 6 (none) ∈ lw_tbl := en_tm_5 _ (List.mem_of_getElem? (i := 181) rfl)
set_option maxRecDepth 20000 in
theorem en_cw_158 : Cond.code yX6_word cX6_word 6 (some .int) ∈ lw_tbl := en_tm_5 _ (List.mem_of_getElem? (i := 174) rfl)
set_option maxRecDepth 20000 in
theorem en_cw_159 : Cond.code yX6_addPerson cX6_addPerson 1 (none) ∈ lw_tbl := en_tm_5 _ (List.mem_of_getElem? (i := 189) rfl)
set_option maxRecDepth 20000 in
theorem en_cw_160 : Cond.code yX6_person cX6_person 1 (some .int) ∈ lw_tbl := en_tm_5 _ (List.mem_of_getElem? (i := 185) rfl)
set_option maxRecDepth 20000 in
theorem en_cw_161 : Cond.code yX6_knows cX6_knows 5 (some .int) ∈ lw_tbl := en_tm_5 _ (List.mem_of_getElem? (i := 193) rfl)
set_option maxRecDepth 20000 in
theorem en_cw_162 : Cond.code yX6_mayAsk cX6_mayAsk 2 (some .boolean) ∈ lw_tbl := en_tm_5 _ (List.mem_of_getElem? (i := 204) rfl)
set_option maxRecDepth 20000 in
theorem en_cw_163 : Cond.code yX6_ask cX6_ask 4 (some .int) ∈ lw_tbl := en_tm_5 _ (List.mem_of_getElem? (i := 201) rfl)
set_option maxRecDepth 20000 in
theorem en_cw_164 : Cond.code yX6_mayBe cX6_mayBe 3 (some .boolean) ∈ lw_tbl := en_tm_5 _ (List.mem_of_getElem? (i := 227) rfl)
set_option maxRecDepth 20000 in
theorem en_cw_165 : Cond.code yX6_mayFollow cX6_mayFollow 5 (some .boolean) ∈ lw_tbl := en_tm_5 _ (List.mem_of_getElem? (i := 223) rfl)
set_option maxRecDepth 20000 in
theorem en_cw_166 : Cond.code yX6_wrongIn cX6_wrongIn 5 (some .int) ∈ lw_tbl := en_tm_5 _ (List.mem_of_getElem? (i := 219) rfl)
set_option maxRecDepth 20000 in
theorem en_cw_167 : Cond.code yX6_noSheet cX6_noSheet 5 (some .int) ∈ lw_tbl := en_tm_5 _ (List.mem_of_getElem? (i := 215) rfl)
set_option maxRecDepth 20000 in
theorem en_cw_168 : Cond.code yX6_sheet cX6_sheet 6 (some .int) ∈ lw_tbl := en_tm_5 _ (List.mem_of_getElem? (i := 211) rfl)
set_option maxRecDepth 20000 in
theorem en_cw_169 : Cond.code yX6_judge cX6_judge 5 (some .int) ∈ lw_tbl := en_tm_5 _ (List.mem_of_getElem? (i := 231) rfl)
set_option maxRecDepth 20000 in
theorem en_cw_170 : Cond.code yX6_takes cX6_takes 7 (some .int) ∈ lw_tbl := en_tm_5 _ (List.mem_of_getElem? (i := 235) rfl)
set_option maxRecDepth 20000 in
theorem en_cw_171 : Cond.code yX6_feed cX6_feed 2 (some .int) ∈ lw_tbl := en_tm_5 _ (List.mem_of_getElem? (i := 239) rfl)
set_option maxRecDepth 20000 in
theorem en_cw_172 : Cond.code yX6_wipe cX6_wipe 2 (some .int) ∈ lw_tbl := en_tm_6 _ (List.mem_of_getElem? (i := 4) rfl)
set_option maxRecDepth 20000 in
theorem en_cw_173 : Cond.code yX6_isLetter cX6_isLetter 1 (some .boolean) ∈ lw_tbl := en_tm_6 _ (List.mem_of_getElem? (i := 32) rfl)
set_option maxRecDepth 20000 in
theorem en_cw_174 : Cond.code yX6_isDigit cX6_isDigit 1 (some .boolean) ∈ lw_tbl := en_tm_6 _ (List.mem_of_getElem? (i := 35) rfl)
set_option maxRecDepth 20000 in
theorem en_cw_175 : Cond.code yX6_look cX6_look 1 (none) ∈ lw_tbl := en_tm_6 _ (List.mem_of_getElem? (i := 29) rfl)
set_option maxRecDepth 20000 in
theorem en_cw_176 : Cond.code yX6_wrong cX6_wrong 1 (some .boolean) ∈ lw_tbl := en_tm_6 _ (List.mem_of_getElem? (i := 58) rfl)
set_option maxRecDepth 20000 in
theorem en_cw_177 : Cond.code yX6_isTold cX6_isTold 3 (some .boolean) ∈ lw_tbl := en_tm_6 _ (List.mem_of_getElem? (i := 44) rfl)
set_option maxRecDepth 20000 in
theorem en_cw_178 : Cond.code yX6_number cX6_number 4 (some .boolean) ∈ lw_tbl := en_tm_6 _ (List.mem_of_getElem? (i := 54) rfl)
set_option maxRecDepth 20000 in
theorem en_cw_179 : Cond.code yX6_tells cX6_tells 3 (some .boolean) ∈ lw_tbl := en_tm_6 _ (List.mem_of_getElem? (i := 50) rfl)
set_option maxRecDepth 20000 in
theorem en_cw_180 : Cond.code yX6_asks cX6_asks 2 (some .boolean) ∈ lw_tbl := en_tm_6 _ (List.mem_of_getElem? (i := 66) rfl)
set_option maxRecDepth 20000 in
theorem en_cw_181 : Cond.code yX6_asksHere cX6_asksHere 2 (some .boolean) ∈ lw_tbl := en_tm_6 _ (List.mem_of_getElem? (i := 70) rfl)
set_option maxRecDepth 20000 in
theorem en_cw_182 : Cond.code yX6_sheetTold cX6_sheetTold 4 (some .boolean) ∈ lw_tbl := en_tm_6 _ (List.mem_of_getElem? (i := 78) rfl)
set_option maxRecDepth 20000 in
theorem en_cw_183 : Cond.code yX6_statement cX6_statement 2 (some .boolean) ∈ lw_tbl := en_tm_6 _ (List.mem_of_getElem? (i := 39) rfl)
set_option maxRecDepth 20000 in
theorem en_cw_184 : Cond.code yX6_readAll cX6_readAll 1 (some .boolean) ∈ lw_tbl := en_tm_6 _ (List.mem_of_getElem? (i := 25) rfl)
set_option maxRecDepth 20000 in
theorem en_cw_185 : Cond.code yX6_evening cX6_evening 3 (some .int) ∈ lw_tbl := en_tm_6 _ (List.mem_of_getElem? (i := 8) rfl)
set_option maxRecDepth 20000 in
theorem en_cw_186 : Cond.code yX6_wordOf cX6_wordOf 3 (some .int) ∈ lw_tbl := en_tm_6 _ (List.mem_of_getElem? (i := 82) rfl)
set_option maxRecDepth 20000 in
theorem en_cw_187 : Cond.code yX6_sheetOf cX6_sheetOf 3 (some .int) ∈ lw_tbl := en_tm_6 _ (List.mem_of_getElem? (i := 86) rfl)
set_option maxRecDepth 20000 in
theorem en_cw_188 : Cond.code yX6_score cX6_score 2 (some .int) ∈ lw_tbl := en_tm_6 _ (List.mem_of_getElem? (i := 90) rfl)
set_option maxRecDepth 20000 in
theorem en_cw_189 : Cond.code yX6_takesOf cX6_takesOf 2 (some .int) ∈ lw_tbl := en_tm_5 _ (List.mem_of_getElem? (i := 159) rfl)
set_option maxRecDepth 20000 in
theorem en_cw_190 : Cond.code yX6_hasBy cX6_hasBy 6 (some .int) ∈ lw_tbl := en_tm_6 _ (List.mem_of_getElem? (i := 102) rfl)
set_option maxRecDepth 20000 in
theorem en_cw_191 : Cond.code yX6_writtenBy cX6_writtenBy 6 (some .int) ∈ lw_tbl := en_tm_6 _ (List.mem_of_getElem? (i := 118) rfl)
set_option maxRecDepth 20000 in
theorem en_cw_192 : Cond.code yX6_callNow cX6_callNow 4 (some .int) ∈ lw_tbl := en_tm_6 _ (List.mem_of_getElem? (i := 98) rfl)
set_option maxRecDepth 20000 in
theorem en_cw_193 : Cond.code yX6_callerNow cX6_callerNow 4 (some .int) ∈ lw_tbl := en_tm_6 _ (List.mem_of_getElem? (i := 110) rfl)
set_option maxRecDepth 20000 in
theorem en_cw_194 : Cond.code yX6_call cX6_call 1 (some .int) ∈ lw_tbl := en_tm_6 _ (List.mem_of_getElem? (i := 94) rfl)
set_option maxRecDepth 20000 in
theorem en_cw_195 : Cond.code yX6_caller cX6_caller 1 (some .int) ∈ lw_tbl := en_tm_6 _ (List.mem_of_getElem? (i := 106) rfl)
set_option maxRecDepth 20000 in
theorem en_cw_196 : Cond.code yX6_written cX6_written 3 (some .int) ∈ lw_tbl := en_tm_6 _ (List.mem_of_getElem? (i := 114) rfl)
set_option maxRecDepth 20000 in
theorem en_cw_197 : Cond.code yX6_keptOf cX6_keptOf 5 (some .int) ∈ lw_tbl := en_tm_6 _ (List.mem_of_getElem? (i := 126) rfl)
set_option maxRecDepth 20000 in
theorem en_cw_198 : Cond.code yX6_kept cX6_kept 2 (some .int) ∈ lw_tbl := en_tm_6 _ (List.mem_of_getElem? (i := 122) rfl)
set_option maxRecDepth 20000 in
theorem en_cw_199 : Cond.code yX6_findKept cX6_findKept 2 (none) ∈ lw_tbl := en_tm_6 _ (List.mem_of_getElem? (i := 135) rfl)
set_option maxRecDepth 20000 in
theorem en_cw_200 : Cond.code yX6_columnOf cX6_columnOf 4 (some .int) ∈ lw_tbl := en_tm_6 _ (List.mem_of_getElem? (i := 147) rfl)
set_option maxRecDepth 20000 in
theorem en_cw_201 : Cond.code yX6_pointsAt cX6_pointsAt 8 (some .int) ∈ lw_tbl := en_tm_6 _ (List.mem_of_getElem? (i := 143) rfl)
set_option maxRecDepth 20000 in
theorem en_cw_202 : Cond.code yX6_pointsOf cX6_pointsOf 4 (some .int) ∈ lw_tbl := en_tm_6 _ (List.mem_of_getElem? (i := 139) rfl)
set_option maxRecDepth 20000 in
theorem en_cw_203 : Cond.code yX6_pointsNow cX6_pointsNow 2 (some .int) ∈ lw_tbl := en_tm_6 _ (List.mem_of_getElem? (i := 204) rfl)
set_option maxRecDepth 20000 in
theorem en_cw_204 : Cond.code yX6_points cX6_points 3 (some .int) ∈ lw_tbl := en_tm_6 _ (List.mem_of_getElem? (i := 130) rfl)
set_option maxRecDepth 20000 in
theorem en_cw_205 : Cond.code yX6_mostBut cX6_mostBut 4 (some .int) ∈ lw_tbl := en_tm_6 _ (List.mem_of_getElem? (i := 155) rfl)
set_option maxRecDepth 20000 in
theorem en_cw_206 : Cond.code yX6_winner cX6_winner 1 (some .int) ∈ lw_tbl := en_tm_6 _ (List.mem_of_getElem? (i := 151) rfl)
set_option maxRecDepth 20000 in
theorem en_cw_207 : Cond.code yX6_rival cX6_rival 2 (some .int) ∈ lw_tbl := en_tm_6 _ (List.mem_of_getElem? (i := 159) rfl)
set_option maxRecDepth 20000 in
theorem en_cw_208 : Cond.code yX6_keptBy cX6_keptBy 4 (some .int) ∈ lw_tbl := en_tm_6 _ (List.mem_of_getElem? (i := 163) rfl)
set_option maxRecDepth 20000 in
theorem en_cw_209 : Cond.code yX6_clashes cX6_clashes 7 (some .int) ∈ lw_tbl := en_tm_6 _ (List.mem_of_getElem? (i := 167) rfl)
set_option maxRecDepth 20000 in
theorem en_cw_210 : Cond.code yX6_empty cX6_empty 6 (some .int) ∈ lw_tbl := en_tm_6 _ (List.mem_of_getElem? (i := 171) rfl)
set_option maxRecDepth 20000 in
theorem en_cw_211 : Cond.code yX6_late cX6_late 4 (some .int) ∈ lw_tbl := en_tm_6 _ (List.mem_of_getElem? (i := 175) rfl)
set_option maxRecDepth 20000 in
theorem en_cw_212 : Cond.code yX6_needFor cX6_needFor 8 (some .int) ∈ lw_tbl := en_tm_6 _ (List.mem_of_getElem? (i := 179) rfl)
set_option maxRecDepth 20000 in
theorem en_cw_213 : Cond.code yX6_writes cX6_writes 6 (none) ∈ lw_tbl := en_tm_6 _ (List.mem_of_getElem? (i := 200) rfl)
set_option maxRecDepth 20000 in
theorem en_cw_214 : Cond.code yX6_tries cX6_tries 4 (none) ∈ lw_tbl := en_tm_6 _ (List.mem_of_getElem? (i := 196) rfl)
set_option maxRecDepth 20000 in
theorem en_cw_215 : Cond.code yX6_seekBest cX6_seekBest 5 (none) ∈ lw_tbl := en_tm_6 _ (List.mem_of_getElem? (i := 192) rfl)
set_option maxRecDepth 20000 in
theorem en_cw_216 : Cond.code yX6_findBest cX6_findBest 2 (none) ∈ lw_tbl := en_tm_6 _ (List.mem_of_getElem? (i := 188) rfl)
set_option maxRecDepth 20000 in
theorem en_cw_217 : Cond.code yX6_best cX6_best 4 (some .int) ∈ lw_tbl := en_tm_6 _ (List.mem_of_getElem? (i := 183) rfl)
set_option maxRecDepth 20000 in
theorem en_cw_218 : Cond.code yX6_bestWord cX6_bestWord 9 (some .int) ∈ lw_tbl := en_tm_6 _ (List.mem_of_getElem? (i := 208) rfl)
set_option maxRecDepth 20000 in
theorem en_cw_219 : Cond.code yX6_learn cX6_learn 8 (some .int) ∈ lw_tbl := en_tm_6 _ (List.mem_of_getElem? (i := 212) rfl)
set_option maxRecDepth 20000 in
theorem en_cw_220 : Cond.code yX6_seekOrder cX6_seekOrder 7 (none) ∈ lw_tbl := en_tm_6 _ (List.mem_of_getElem? (i := 220) rfl)
set_option maxRecDepth 20000 in
theorem en_cw_221 : Cond.code yX6_order cX6_order 3 (some .int) ∈ lw_tbl := en_tm_6 _ (List.mem_of_getElem? (i := 216) rfl)
set_option maxRecDepth 20000 in
theorem en_cw_222 : Cond.code yX6_lonely cX6_lonely 4 (some .int) ∈ lw_tbl := en_tm_6 _ (List.mem_of_getElem? (i := 224) rfl)
set_option maxRecDepth 20000 in
theorem en_cw_223 : Cond.code yX6_fillsOf cX6_fillsOf 6 (some .int) ∈ lw_tbl := en_tm_6 _ (List.mem_of_getElem? (i := 232) rfl)
set_option maxRecDepth 20000 in
theorem en_cw_224 : Cond.code yX6_fills cX6_fills 3 (some .int) ∈ lw_tbl := en_tm_6 _ (List.mem_of_getElem? (i := 228) rfl)
set_option maxRecDepth 20000 in
theorem en_cw_225 : Cond.code yX6_gains cX6_gains 4 (some .int) ∈ lw_tbl := en_tm_6 _ (List.mem_of_getElem? (i := 236) rfl)
set_option maxRecDepth 20000 in
theorem en_cw_226 : Cond.code yX6_silent cX6_silent 4 (some .int) ∈ lw_tbl := en_tm_7 _ (List.mem_of_getElem? (i := 0) rfl)
set_option maxRecDepth 20000 in
theorem en_cw_227 : Cond.code yX6_stop cX6_stop 8 (some .int) ∈ lw_tbl := en_tm_7 _ (List.mem_of_getElem? (i := 6) rfl)
set_option maxRecDepth 20000 in
theorem en_cw_228 : Cond.code yX6_takeBest cX6_takeBest 2 (some .int) ∈ lw_tbl := en_tm_7 _ (List.mem_of_getElem? (i := 10) rfl)
set_option maxRecDepth 20000 in
theorem en_cw_229 : Cond.code yX6_swap cX6_swap 5 (some .int) ∈ lw_tbl := en_tm_7 _ (List.mem_of_getElem? (i := 14) rfl)
set_option maxRecDepth 20000 in
theorem en_cw_230 : Cond.code yX6_goesRound cX6_goesRound 4 (some .int) ∈ lw_tbl := en_tm_7 _ (List.mem_of_getElem? (i := 22) rfl)
set_option maxRecDepth 20000 in
theorem en_cw_231 : Cond.code yX6_round cX6_round 1 (some .int) ∈ lw_tbl := en_tm_7 _ (List.mem_of_getElem? (i := 18) rfl)
set_option maxRecDepth 20000 in
theorem en_cw_232 : Cond.code yX6_below cX6_below 2 (some .int) ∈ lw_tbl := en_tm_7 _ (List.mem_of_getElem? (i := 30) rfl)
set_option maxRecDepth 20000 in
theorem en_cw_233 : Cond.code yX6_rounds cX6_rounds 4 (some .int) ∈ lw_tbl := en_tm_7 _ (List.mem_of_getElem? (i := 26) rfl)
set_option maxRecDepth 20000 in
theorem en_cw_234 : Cond.code yX6_usedMany cX6_usedMany 3 (some .int) ∈ lw_tbl := en_tm_7 _ (List.mem_of_getElem? (i := 39) rfl)
set_option maxRecDepth 20000 in
theorem en_cw_235 : Cond.code yX6_again cX6_again 3 (some .int) ∈ lw_tbl := en_tm_7 _ (List.mem_of_getElem? (i := 35) rfl)
set_option maxRecDepth 20000 in
theorem en_cw_236 : Cond.code yX6_seed cX6_seed 3 (some .int) ∈ lw_tbl := en_tm_7 _ (List.mem_of_getElem? (i := 43) rfl)
set_option maxRecDepth 20000 in
theorem en_cw_237 : Cond.code yX6_fresh cX6_fresh 1 (some (.object "TownRiverBeastModel")) ∈ lw_tbl := en_tm_6 _ (List.mem_of_getElem? (i := 12) rfl)
set_option maxRecDepth 20000 in
theorem en_cw_238 : Cond.code yX6_copied cX6_copied 3 (none) ∈ lw_tbl := en_tm_6 _ (List.mem_of_getElem? (i := 21) rfl)
set_option maxRecDepth 20000 in
theorem en_cw_239 : Cond.code yX6_takeFrom cX6_takeFrom 3 (none) ∈ lw_tbl := en_tm_6 _ (List.mem_of_getElem? (i := 18) rfl)
set_option maxRecDepth 20000 in
theorem en_cw_240 : Cond.code yX6_image cX6_image 1 (some .int) ∈ lw_tbl := en_tm_7 _ (List.mem_of_getElem? (i := 47) rfl)
set_option maxRecDepth 20000 in
theorem en_cw_241 : Cond.code yX6_back cX6_back 2 (some .int) ∈ lw_tbl := en_tm_7 _ (List.mem_of_getElem? (i := 51) rfl)
set_option maxRecDepth 20000 in
theorem en_cw_242 : Cond.code yX6_status cX6_status 4 (some .int) ∈ lw_tbl := en_tm_7 _ (List.mem_of_getElem? (i := 55) rfl)
set_option maxRecDepth 20000 in
theorem en_cw_243 : Cond.code yJ6_bitCount_0f7a4 cJ6_bitCount_0f7a4 1 (some .int) ∈ lw_tbl := en_tm_2 _ (List.mem_of_getElem? (i := 158) rfl)
set_option maxRecDepth 20000 in
theorem en_cw_246 : Cond.code yJ0_length_8abf5 cJ0_length_8abf5 1 (some .int) ∈ lw_tbl := en_tm_3 _ (List.mem_of_getElem? (i := 63) rfl)
set_option maxRecDepth 20000 in
theorem en_cw_247 : Cond.code yJ0_charAt_5068e cJ0_charAt_5068e 2 (some .char) ∈ lw_tbl := en_tm_3 _ (List.mem_of_getElem? (i := 73) rfl)
set_option maxRecDepth 20000 in
theorem en_cw_248 : Cond.code yJ0_coder_7d493 cJ0_coder_7d493 1 (some .byte) ∈ lw_tbl := en_tm_3 _ (List.mem_of_getElem? (i := 67) rfl)
set_option maxRecDepth 20000 in
theorem en_cw_249 : Cond.code yJ0_isLatin1_aae02 cJ0_isLatin1_aae02 1 (some .boolean) ∈ lw_tbl := en_tm_3 _ (List.mem_of_getElem? (i := 77) rfl)
set_option maxRecDepth 20000 in
theorem en_cw_250 : Cond.code yJ0_checkIndex_df160 cJ0_checkIndex_df160 2 (none) ∈ lw_tbl := en_tm_3 _ (List.mem_of_getElem? (i := 83) rfl)
set_option maxRecDepth 20000 in
theorem en_cw_251 : Cond.code yJ1_charAt_3b067 cJ1_charAt_3b067 2 (some .char) ∈ lw_tbl := en_tm_3 _ (List.mem_of_getElem? (i := 80) rfl)
set_option maxRecDepth 20000 in
theorem en_cw_256 : Cond.code yJ3_checkIndex_8e157 cJ3_checkIndex_8e157 3 (some .int) ∈ lw_tbl := en_tm_3 _ (List.mem_of_getElem? (i := 88) rfl)
def en_us_0 : List Nat := [1, 2, 3, 4, 5, 6, 7, 8, 10, 11, 12, 13, 14, 15, 16, 17, 18, 19, 20, 21, 22, 23, 24, 25, 26]
set_option maxRecDepth 20000 in
theorem en_cwl_0 : ∀ k ∈ en_us_0, Cond.code (en_m k).1 (en_m k).2.1 (en_m k).2.2.1 (en_m k).2.2.2.1 ∈ lw_tbl := List.forall_mem_cons.mpr ⟨en_cw_1, List.forall_mem_cons.mpr ⟨en_cw_2, List.forall_mem_cons.mpr ⟨en_cw_3, List.forall_mem_cons.mpr ⟨en_cw_4, List.forall_mem_cons.mpr ⟨en_cw_5, List.forall_mem_cons.mpr ⟨en_cw_6, List.forall_mem_cons.mpr ⟨en_cw_7, List.forall_mem_cons.mpr ⟨en_cw_8, List.forall_mem_cons.mpr ⟨en_cw_10, List.forall_mem_cons.mpr ⟨en_cw_11, List.forall_mem_cons.mpr ⟨en_cw_12, List.forall_mem_cons.mpr ⟨en_cw_13, List.forall_mem_cons.mpr ⟨en_cw_14, List.forall_mem_cons.mpr ⟨en_cw_15, List.forall_mem_cons.mpr ⟨en_cw_16, List.forall_mem_cons.mpr ⟨en_cw_17, List.forall_mem_cons.mpr ⟨en_cw_18, List.forall_mem_cons.mpr ⟨en_cw_19, List.forall_mem_cons.mpr ⟨en_cw_20, List.forall_mem_cons.mpr ⟨en_cw_21, List.forall_mem_cons.mpr ⟨en_cw_22, List.forall_mem_cons.mpr ⟨en_cw_23, List.forall_mem_cons.mpr ⟨en_cw_24, List.forall_mem_cons.mpr ⟨en_cw_25, List.forall_mem_cons.mpr ⟨en_cw_26, fun _ h => absurd h List.not_mem_nil⟩⟩⟩⟩⟩⟩⟩⟩⟩⟩⟩⟩⟩⟩⟩⟩⟩⟩⟩⟩⟩⟩⟩⟩⟩
def en_us_1 : List Nat := [27, 28, 29, 30, 31, 32, 33, 34, 35, 37, 38, 39, 40, 41, 42, 43, 45, 46, 47, 48, 49, 50, 51, 52, 53]
set_option maxRecDepth 20000 in
theorem en_cwl_1 : ∀ k ∈ en_us_1, Cond.code (en_m k).1 (en_m k).2.1 (en_m k).2.2.1 (en_m k).2.2.2.1 ∈ lw_tbl := List.forall_mem_cons.mpr ⟨en_cw_27, List.forall_mem_cons.mpr ⟨en_cw_28, List.forall_mem_cons.mpr ⟨en_cw_29, List.forall_mem_cons.mpr ⟨en_cw_30, List.forall_mem_cons.mpr ⟨en_cw_31, List.forall_mem_cons.mpr ⟨en_cw_32, List.forall_mem_cons.mpr ⟨en_cw_33, List.forall_mem_cons.mpr ⟨en_cw_34, List.forall_mem_cons.mpr ⟨en_cw_35, List.forall_mem_cons.mpr ⟨en_cw_37, List.forall_mem_cons.mpr ⟨en_cw_38, List.forall_mem_cons.mpr ⟨en_cw_39, List.forall_mem_cons.mpr ⟨en_cw_40, List.forall_mem_cons.mpr ⟨en_cw_41, List.forall_mem_cons.mpr ⟨en_cw_42, List.forall_mem_cons.mpr ⟨en_cw_43, List.forall_mem_cons.mpr ⟨en_cw_45, List.forall_mem_cons.mpr ⟨en_cw_46, List.forall_mem_cons.mpr ⟨en_cw_47, List.forall_mem_cons.mpr ⟨en_cw_48, List.forall_mem_cons.mpr ⟨en_cw_49, List.forall_mem_cons.mpr ⟨en_cw_50, List.forall_mem_cons.mpr ⟨en_cw_51, List.forall_mem_cons.mpr ⟨en_cw_52, List.forall_mem_cons.mpr ⟨en_cw_53, fun _ h => absurd h List.not_mem_nil⟩⟩⟩⟩⟩⟩⟩⟩⟩⟩⟩⟩⟩⟩⟩⟩⟩⟩⟩⟩⟩⟩⟩⟩⟩
def en_us_2 : List Nat := [54, 55, 56, 57, 58, 60, 61, 62, 63, 64, 65, 66, 68, 69, 70, 71, 72, 73, 74, 75, 76, 77, 78, 79, 80]
set_option maxRecDepth 20000 in
theorem en_cwl_2 : ∀ k ∈ en_us_2, Cond.code (en_m k).1 (en_m k).2.1 (en_m k).2.2.1 (en_m k).2.2.2.1 ∈ lw_tbl := List.forall_mem_cons.mpr ⟨en_cw_54, List.forall_mem_cons.mpr ⟨en_cw_55, List.forall_mem_cons.mpr ⟨en_cw_56, List.forall_mem_cons.mpr ⟨en_cw_57, List.forall_mem_cons.mpr ⟨en_cw_58, List.forall_mem_cons.mpr ⟨en_cw_60, List.forall_mem_cons.mpr ⟨en_cw_61, List.forall_mem_cons.mpr ⟨en_cw_62, List.forall_mem_cons.mpr ⟨en_cw_63, List.forall_mem_cons.mpr ⟨en_cw_64, List.forall_mem_cons.mpr ⟨en_cw_65, List.forall_mem_cons.mpr ⟨en_cw_66, List.forall_mem_cons.mpr ⟨en_cw_68, List.forall_mem_cons.mpr ⟨en_cw_69, List.forall_mem_cons.mpr ⟨en_cw_70, List.forall_mem_cons.mpr ⟨en_cw_71, List.forall_mem_cons.mpr ⟨en_cw_72, List.forall_mem_cons.mpr ⟨en_cw_73, List.forall_mem_cons.mpr ⟨en_cw_74, List.forall_mem_cons.mpr ⟨en_cw_75, List.forall_mem_cons.mpr ⟨en_cw_76, List.forall_mem_cons.mpr ⟨en_cw_77, List.forall_mem_cons.mpr ⟨en_cw_78, List.forall_mem_cons.mpr ⟨en_cw_79, List.forall_mem_cons.mpr ⟨en_cw_80, fun _ h => absurd h List.not_mem_nil⟩⟩⟩⟩⟩⟩⟩⟩⟩⟩⟩⟩⟩⟩⟩⟩⟩⟩⟩⟩⟩⟩⟩⟩⟩
def en_us_3 : List Nat := [81, 82, 83, 84, 85, 86, 87, 88, 89, 90, 91, 92, 93, 94, 95, 96, 97, 98, 99, 100, 101, 102, 103, 104, 105]
set_option maxRecDepth 20000 in
theorem en_cwl_3 : ∀ k ∈ en_us_3, Cond.code (en_m k).1 (en_m k).2.1 (en_m k).2.2.1 (en_m k).2.2.2.1 ∈ lw_tbl := List.forall_mem_cons.mpr ⟨en_cw_81, List.forall_mem_cons.mpr ⟨en_cw_82, List.forall_mem_cons.mpr ⟨en_cw_83, List.forall_mem_cons.mpr ⟨en_cw_84, List.forall_mem_cons.mpr ⟨en_cw_85, List.forall_mem_cons.mpr ⟨en_cw_86, List.forall_mem_cons.mpr ⟨en_cw_87, List.forall_mem_cons.mpr ⟨en_cw_88, List.forall_mem_cons.mpr ⟨en_cw_89, List.forall_mem_cons.mpr ⟨en_cw_90, List.forall_mem_cons.mpr ⟨en_cw_91, List.forall_mem_cons.mpr ⟨en_cw_92, List.forall_mem_cons.mpr ⟨en_cw_93, List.forall_mem_cons.mpr ⟨en_cw_94, List.forall_mem_cons.mpr ⟨en_cw_95, List.forall_mem_cons.mpr ⟨en_cw_96, List.forall_mem_cons.mpr ⟨en_cw_97, List.forall_mem_cons.mpr ⟨en_cw_98, List.forall_mem_cons.mpr ⟨en_cw_99, List.forall_mem_cons.mpr ⟨en_cw_100, List.forall_mem_cons.mpr ⟨en_cw_101, List.forall_mem_cons.mpr ⟨en_cw_102, List.forall_mem_cons.mpr ⟨en_cw_103, List.forall_mem_cons.mpr ⟨en_cw_104, List.forall_mem_cons.mpr ⟨en_cw_105, fun _ h => absurd h List.not_mem_nil⟩⟩⟩⟩⟩⟩⟩⟩⟩⟩⟩⟩⟩⟩⟩⟩⟩⟩⟩⟩⟩⟩⟩⟩⟩
def en_us_4 : List Nat := [106, 107, 108, 109, 110, 111, 112, 113, 114, 115, 116, 117, 118, 119, 120, 121, 122, 123, 124, 125, 126, 127, 128, 129, 130]
set_option maxRecDepth 20000 in
theorem en_cwl_4 : ∀ k ∈ en_us_4, Cond.code (en_m k).1 (en_m k).2.1 (en_m k).2.2.1 (en_m k).2.2.2.1 ∈ lw_tbl := List.forall_mem_cons.mpr ⟨en_cw_106, List.forall_mem_cons.mpr ⟨en_cw_107, List.forall_mem_cons.mpr ⟨en_cw_108, List.forall_mem_cons.mpr ⟨en_cw_109, List.forall_mem_cons.mpr ⟨en_cw_110, List.forall_mem_cons.mpr ⟨en_cw_111, List.forall_mem_cons.mpr ⟨en_cw_112, List.forall_mem_cons.mpr ⟨en_cw_113, List.forall_mem_cons.mpr ⟨en_cw_114, List.forall_mem_cons.mpr ⟨en_cw_115, List.forall_mem_cons.mpr ⟨en_cw_116, List.forall_mem_cons.mpr ⟨en_cw_117, List.forall_mem_cons.mpr ⟨en_cw_118, List.forall_mem_cons.mpr ⟨en_cw_119, List.forall_mem_cons.mpr ⟨en_cw_120, List.forall_mem_cons.mpr ⟨en_cw_121, List.forall_mem_cons.mpr ⟨en_cw_122, List.forall_mem_cons.mpr ⟨en_cw_123, List.forall_mem_cons.mpr ⟨en_cw_124, List.forall_mem_cons.mpr ⟨en_cw_125, List.forall_mem_cons.mpr ⟨en_cw_126, List.forall_mem_cons.mpr ⟨en_cw_127, List.forall_mem_cons.mpr ⟨en_cw_128, List.forall_mem_cons.mpr ⟨en_cw_129, List.forall_mem_cons.mpr ⟨en_cw_130, fun _ h => absurd h List.not_mem_nil⟩⟩⟩⟩⟩⟩⟩⟩⟩⟩⟩⟩⟩⟩⟩⟩⟩⟩⟩⟩⟩⟩⟩⟩⟩
def en_us_5 : List Nat := [131, 132, 133, 134, 135, 136, 137, 138, 140, 141, 142, 143, 144, 145, 146, 147, 148, 149, 150, 151, 152, 153, 154, 155, 156]
set_option maxRecDepth 20000 in
theorem en_cwl_5 : ∀ k ∈ en_us_5, Cond.code (en_m k).1 (en_m k).2.1 (en_m k).2.2.1 (en_m k).2.2.2.1 ∈ lw_tbl := List.forall_mem_cons.mpr ⟨en_cw_131, List.forall_mem_cons.mpr ⟨en_cw_132, List.forall_mem_cons.mpr ⟨en_cw_133, List.forall_mem_cons.mpr ⟨en_cw_134, List.forall_mem_cons.mpr ⟨en_cw_135, List.forall_mem_cons.mpr ⟨en_cw_136, List.forall_mem_cons.mpr ⟨en_cw_137, List.forall_mem_cons.mpr ⟨en_cw_138, List.forall_mem_cons.mpr ⟨en_cw_140, List.forall_mem_cons.mpr ⟨en_cw_141, List.forall_mem_cons.mpr ⟨en_cw_142, List.forall_mem_cons.mpr ⟨en_cw_143, List.forall_mem_cons.mpr ⟨en_cw_144, List.forall_mem_cons.mpr ⟨en_cw_145, List.forall_mem_cons.mpr ⟨en_cw_146, List.forall_mem_cons.mpr ⟨en_cw_147, List.forall_mem_cons.mpr ⟨en_cw_148, List.forall_mem_cons.mpr ⟨en_cw_149, List.forall_mem_cons.mpr ⟨en_cw_150, List.forall_mem_cons.mpr ⟨en_cw_151, List.forall_mem_cons.mpr ⟨en_cw_152, List.forall_mem_cons.mpr ⟨en_cw_153, List.forall_mem_cons.mpr ⟨en_cw_154, List.forall_mem_cons.mpr ⟨en_cw_155, List.forall_mem_cons.mpr ⟨en_cw_156, fun _ h => absurd h List.not_mem_nil⟩⟩⟩⟩⟩⟩⟩⟩⟩⟩⟩⟩⟩⟩⟩⟩⟩⟩⟩⟩⟩⟩⟩⟩⟩
def en_us_6 : List Nat := [157, 158, 159, 160, 161, 162, 163, 164, 165, 166, 167, 168, 169, 170, 171, 172, 173, 174, 175, 176, 177, 178, 179, 180, 181]
set_option maxRecDepth 20000 in
theorem en_cwl_6 : ∀ k ∈ en_us_6, Cond.code (en_m k).1 (en_m k).2.1 (en_m k).2.2.1 (en_m k).2.2.2.1 ∈ lw_tbl := List.forall_mem_cons.mpr ⟨en_cw_157, List.forall_mem_cons.mpr ⟨en_cw_158, List.forall_mem_cons.mpr ⟨en_cw_159, List.forall_mem_cons.mpr ⟨en_cw_160, List.forall_mem_cons.mpr ⟨en_cw_161, List.forall_mem_cons.mpr ⟨en_cw_162, List.forall_mem_cons.mpr ⟨en_cw_163, List.forall_mem_cons.mpr ⟨en_cw_164, List.forall_mem_cons.mpr ⟨en_cw_165, List.forall_mem_cons.mpr ⟨en_cw_166, List.forall_mem_cons.mpr ⟨en_cw_167, List.forall_mem_cons.mpr ⟨en_cw_168, List.forall_mem_cons.mpr ⟨en_cw_169, List.forall_mem_cons.mpr ⟨en_cw_170, List.forall_mem_cons.mpr ⟨en_cw_171, List.forall_mem_cons.mpr ⟨en_cw_172, List.forall_mem_cons.mpr ⟨en_cw_173, List.forall_mem_cons.mpr ⟨en_cw_174, List.forall_mem_cons.mpr ⟨en_cw_175, List.forall_mem_cons.mpr ⟨en_cw_176, List.forall_mem_cons.mpr ⟨en_cw_177, List.forall_mem_cons.mpr ⟨en_cw_178, List.forall_mem_cons.mpr ⟨en_cw_179, List.forall_mem_cons.mpr ⟨en_cw_180, List.forall_mem_cons.mpr ⟨en_cw_181, fun _ h => absurd h List.not_mem_nil⟩⟩⟩⟩⟩⟩⟩⟩⟩⟩⟩⟩⟩⟩⟩⟩⟩⟩⟩⟩⟩⟩⟩⟩⟩
def en_us_7 : List Nat := [182, 183, 184, 185, 186, 187, 188, 189, 190, 191, 192, 193, 194, 195, 196, 197, 198, 199, 200, 201, 202, 203, 204, 205, 206]
set_option maxRecDepth 20000 in
theorem en_cwl_7 : ∀ k ∈ en_us_7, Cond.code (en_m k).1 (en_m k).2.1 (en_m k).2.2.1 (en_m k).2.2.2.1 ∈ lw_tbl := List.forall_mem_cons.mpr ⟨en_cw_182, List.forall_mem_cons.mpr ⟨en_cw_183, List.forall_mem_cons.mpr ⟨en_cw_184, List.forall_mem_cons.mpr ⟨en_cw_185, List.forall_mem_cons.mpr ⟨en_cw_186, List.forall_mem_cons.mpr ⟨en_cw_187, List.forall_mem_cons.mpr ⟨en_cw_188, List.forall_mem_cons.mpr ⟨en_cw_189, List.forall_mem_cons.mpr ⟨en_cw_190, List.forall_mem_cons.mpr ⟨en_cw_191, List.forall_mem_cons.mpr ⟨en_cw_192, List.forall_mem_cons.mpr ⟨en_cw_193, List.forall_mem_cons.mpr ⟨en_cw_194, List.forall_mem_cons.mpr ⟨en_cw_195, List.forall_mem_cons.mpr ⟨en_cw_196, List.forall_mem_cons.mpr ⟨en_cw_197, List.forall_mem_cons.mpr ⟨en_cw_198, List.forall_mem_cons.mpr ⟨en_cw_199, List.forall_mem_cons.mpr ⟨en_cw_200, List.forall_mem_cons.mpr ⟨en_cw_201, List.forall_mem_cons.mpr ⟨en_cw_202, List.forall_mem_cons.mpr ⟨en_cw_203, List.forall_mem_cons.mpr ⟨en_cw_204, List.forall_mem_cons.mpr ⟨en_cw_205, List.forall_mem_cons.mpr ⟨en_cw_206, fun _ h => absurd h List.not_mem_nil⟩⟩⟩⟩⟩⟩⟩⟩⟩⟩⟩⟩⟩⟩⟩⟩⟩⟩⟩⟩⟩⟩⟩⟩⟩
def en_us_8 : List Nat := [207, 208, 209, 210, 211, 212, 213, 214, 215, 216, 217, 218, 219, 220, 221, 222, 223, 224, 225, 226, 227, 228, 229, 230, 231]
set_option maxRecDepth 20000 in
theorem en_cwl_8 : ∀ k ∈ en_us_8, Cond.code (en_m k).1 (en_m k).2.1 (en_m k).2.2.1 (en_m k).2.2.2.1 ∈ lw_tbl := List.forall_mem_cons.mpr ⟨en_cw_207, List.forall_mem_cons.mpr ⟨en_cw_208, List.forall_mem_cons.mpr ⟨en_cw_209, List.forall_mem_cons.mpr ⟨en_cw_210, List.forall_mem_cons.mpr ⟨en_cw_211, List.forall_mem_cons.mpr ⟨en_cw_212, List.forall_mem_cons.mpr ⟨en_cw_213, List.forall_mem_cons.mpr ⟨en_cw_214, List.forall_mem_cons.mpr ⟨en_cw_215, List.forall_mem_cons.mpr ⟨en_cw_216, List.forall_mem_cons.mpr ⟨en_cw_217, List.forall_mem_cons.mpr ⟨en_cw_218, List.forall_mem_cons.mpr ⟨en_cw_219, List.forall_mem_cons.mpr ⟨en_cw_220, List.forall_mem_cons.mpr ⟨en_cw_221, List.forall_mem_cons.mpr ⟨en_cw_222, List.forall_mem_cons.mpr ⟨en_cw_223, List.forall_mem_cons.mpr ⟨en_cw_224, List.forall_mem_cons.mpr ⟨en_cw_225, List.forall_mem_cons.mpr ⟨en_cw_226, List.forall_mem_cons.mpr ⟨en_cw_227, List.forall_mem_cons.mpr ⟨en_cw_228, List.forall_mem_cons.mpr ⟨en_cw_229, List.forall_mem_cons.mpr ⟨en_cw_230, List.forall_mem_cons.mpr ⟨en_cw_231, fun _ h => absurd h List.not_mem_nil⟩⟩⟩⟩⟩⟩⟩⟩⟩⟩⟩⟩⟩⟩⟩⟩⟩⟩⟩⟩⟩⟩⟩⟩⟩
def en_us_9 : List Nat := [232, 233, 234, 235, 236, 237, 238, 239, 240, 241, 242, 243, 246, 247, 248, 249, 250, 251, 256]
set_option maxRecDepth 20000 in
theorem en_cwl_9 : ∀ k ∈ en_us_9, Cond.code (en_m k).1 (en_m k).2.1 (en_m k).2.2.1 (en_m k).2.2.2.1 ∈ lw_tbl := List.forall_mem_cons.mpr ⟨en_cw_232, List.forall_mem_cons.mpr ⟨en_cw_233, List.forall_mem_cons.mpr ⟨en_cw_234, List.forall_mem_cons.mpr ⟨en_cw_235, List.forall_mem_cons.mpr ⟨en_cw_236, List.forall_mem_cons.mpr ⟨en_cw_237, List.forall_mem_cons.mpr ⟨en_cw_238, List.forall_mem_cons.mpr ⟨en_cw_239, List.forall_mem_cons.mpr ⟨en_cw_240, List.forall_mem_cons.mpr ⟨en_cw_241, List.forall_mem_cons.mpr ⟨en_cw_242, List.forall_mem_cons.mpr ⟨en_cw_243, List.forall_mem_cons.mpr ⟨en_cw_246, List.forall_mem_cons.mpr ⟨en_cw_247, List.forall_mem_cons.mpr ⟨en_cw_248, List.forall_mem_cons.mpr ⟨en_cw_249, List.forall_mem_cons.mpr ⟨en_cw_250, List.forall_mem_cons.mpr ⟨en_cw_251, List.forall_mem_cons.mpr ⟨en_cw_256, fun _ h => absurd h List.not_mem_nil⟩⟩⟩⟩⟩⟩⟩⟩⟩⟩⟩⟩⟩⟩⟩⟩⟩⟩⟩
def en_used : List Nat := en_us_0 ++ (en_us_1 ++ (en_us_2 ++ (en_us_3 ++ (en_us_4 ++ (en_us_5 ++ (en_us_6 ++ (en_us_7 ++ (en_us_8 ++ (en_us_9)))))))))
theorem en_cw_all : ∀ k ∈ en_used, Cond.code (en_m k).1 (en_m k).2.1 (en_m k).2.2.1 (en_m k).2.2.2.1 ∈ lw_tbl := List.forall_mem_append.mpr ⟨en_cwl_0, List.forall_mem_append.mpr ⟨en_cwl_1, List.forall_mem_append.mpr ⟨en_cwl_2, List.forall_mem_append.mpr ⟨en_cwl_3, List.forall_mem_append.mpr ⟨en_cwl_4, List.forall_mem_append.mpr ⟨en_cwl_5, List.forall_mem_append.mpr ⟨en_cwl_6, List.forall_mem_append.mpr ⟨en_cwl_7, List.forall_mem_append.mpr ⟨en_cwl_8, en_cwl_9⟩⟩⟩⟩⟩⟩⟩⟩⟩
/-- what is asked of a method's words -/
def en_mck (k : Nat) : Bool :=
  let q := en_m k
  let t := en_mp.getD k (0, 0, 0, 0)
  (decide (lw_tbl[t.2.1]? = some (Cond.initialized q.1.cls)) && (decide (lw_tbl[t.2.2.1]? = some (if q.2.2.2.2.2.1 then Cond.static q.1 else Cond.instanceMethod q.1)) && ((q.2.2.2.2.2.1 || decide (lw_tbl[t.2.2.2]? = some (Cond.selects q.1.cls q.1 q.1))) && (decide (q.1.cls ≠ "java/lang/invoke/MethodHandle" ∧ q.1.cls ≠ "java/lang/invoke/VarHandle") && (decide ((parseMethodDescriptor q.1.desc).map (fun d => d.parameters.length) = some q.2.2.2.2.1) && (plainName q.1.cls && (decide (en_cn[q.2.2.2.2.2.2]? = some q.1.cls) && decide (q.2.2.1 ≤ 20))))))))
theorem en_mck_all : en_used.all en_mck = true := by decide +kernel
def en_xn (x : Nat) : MethodName := match x with | 1000 => arraycopyName | 1001 => Lib.Math.max.name | _ => Lib.Math.min.name
def en_xck (q : (Nat × Nat × Nat) × Nat) : Bool := decide (lw_tbl[q.2]? = some (Cond.methodLink (en_cn.getD q.1.1 "") q.1.2.1 (en_xn q.1.2.2)))
theorem en_xck_all : (en_xlk.zip en_xlp).all en_xck = true := by decide +kernel
theorem en_xlk_len : en_xlk.length = en_xlp.length := by decide +kernel
theorem en_mck_at {k : Nat} (h : en_used.contains k = true) : en_mck k = true := List.all_eq_true.mp en_mck_all k (List.contains_iff_mem.mp h)
theorem en_gw_of {i : Nat} {w : Cond} (h : lw_tbl[i]? = some w) (hg : goodWord w = true) : w ∈ en_gw := List.mem_filter.mpr ⟨List.mem_of_getElem? h, hg⟩
/-- a link of a method: own class, pool index, method, nest -/
def en_lck (q : (Nat × Nat × Nat × Nat) × Nat) : Bool :=
  en_used.contains q.1.2.2.1 && (match q.1.2.2.2 with
    | 0 => decide (lw_tbl[q.2]? = some (Cond.methodLink (en_cn.getD q.1.1 "") q.1.2.1 (en_m q.1.2.2.1).1))
    | _ => decide (Cond.methodLinkNest (en_cn.getD q.1.1 "") q.1.2.1 (en_m q.1.2.2.1).1 "TownRiverBeast" ∈ en_nest))
theorem en_lck_all : (en_mlk.zip en_mlp).all en_lck = true := by decide +kernel
theorem en_mlk_len : en_mlk.length = en_mlp.length := by decide +kernel
theorem en_link_M {j o i k : Nat} {n : Nat} (h : en_mlk[j]? = some (o, i, k, n)) : en_used.contains k = true ∧ ((n = 0 ∧ Cond.methodLink (en_cn.getD o "") i (en_m k).1 ∈ en_gw) ∨ (¬ n = 0 ∧ Cond.methodLinkNest (en_cn.getD o "") i (en_m k).1 "TownRiverBeast" ∈ en_nest)) := by
  have hj := (List.getElem?_eq_some_iff.mp h).1
  have hj2 : j < en_mlp.length := by rw [← en_mlk_len]; exact hj
  have hz : (en_mlk.zip en_mlp)[j]? = some ((o, i, k, n), en_mlp[j]) := by
    rw [List.getElem?_zip_eq_some]
    exact ⟨h, List.getElem?_eq_getElem hj2⟩
  have hc := List.all_eq_true.mp en_lck_all _ (List.mem_of_getElem? hz)
  unfold en_lck at hc
  simp only [Bool.and_eq_true] at hc
  refine ⟨hc.1, ?_⟩
  cases n with
  | zero => exact Or.inl ⟨rfl, en_gw_of (of_decide_eq_true hc.2) rfl⟩
  | succ n => exact Or.inr ⟨by omega, of_decide_eq_true hc.2⟩
theorem en_link_X {j o i x : Nat} (h : en_xlk[j]? = some (o, i, x)) : Cond.methodLink (en_cn.getD o "") i (en_xn x) ∈ en_gw := by
  have hj := (List.getElem?_eq_some_iff.mp h).1
  have hj2 : j < en_xlp.length := by rw [← en_xlk_len]; exact hj
  have hz : (en_xlk.zip en_xlp)[j]? = some ((o, i, x), en_xlp[j]) := by
    rw [List.getElem?_zip_eq_some]
    exact ⟨h, List.getElem?_eq_getElem hj2⟩
  exact en_gw_of (of_decide_eq_true (List.all_eq_true.mp en_xck_all _ (List.mem_of_getElem? hz))) rfl
theorem en_w_misc : [Cond.native arraycopyName, Cond.static arraycopyName, Cond.initialized "java/lang/System", Cond.static Lib.Math.max.name, Cond.static Lib.Math.min.name, Cond.initialized "java/lang/Math", Cond.code Lib.Math.max.name Lib.Math.max.code 2 (some .int), Cond.code Lib.Math.min.name Lib.Math.min.code 2 (some .int)].all (fun w => decide (w ∈ lw_tbl) && goodWord w) = true := by decide +kernel
theorem en_w_m {w : Cond} (h : w ∈ [Cond.native arraycopyName, Cond.static arraycopyName, Cond.initialized "java/lang/System", Cond.static Lib.Math.max.name, Cond.static Lib.Math.min.name, Cond.initialized "java/lang/Math", Cond.code Lib.Math.max.name Lib.Math.max.code 2 (some .int), Cond.code Lib.Math.min.name Lib.Math.min.code 2 (some .int)]) : w ∈ en_gw := by
  have h1 := List.all_eq_true.mp en_w_misc w h
  simp only [Bool.and_eq_true] at h1
  exact List.mem_filter.mpr ⟨of_decide_eq_true h1.1, h1.2⟩
/-- a link of a field -/
def en_fck (q : (Nat × Nat × Nat × Nat) × Nat) : Bool := match vwCl[q.1.2.2.1]? with
  | some r => decide (q.1.2.2.2 < r.2.2) && decide (lw_tbl[q.2]? = some (Cond.fieldLink (en_cn.getD q.1.1 "") q.1.2.1 (r.2.1 q.1.2.2.2).1 (r.2.1 q.1.2.2.2).2.1 (r.2.1 q.1.2.2.2).2.2.1))
  | none => false
theorem en_fck_all : (en_flk.zip en_flp).all en_fck = true := by decide +kernel
theorem en_flk_len : en_flk.length = en_flp.length := by decide +kernel
theorem en_link_F {j o i c k : Nat} (h : en_flk[j]? = some (o, i, c, k)) : ∃ r : vw_C, vwCl[c]? = some r ∧ k < r.2.2 ∧ Cond.fieldLink (en_cn.getD o "") i (r.2.1 k).1 (r.2.1 k).2.1 (r.2.1 k).2.2.1 ∈ en_gw := by
  have hj := (List.getElem?_eq_some_iff.mp h).1
  have hj2 : j < en_flp.length := by rw [← en_flk_len]; exact hj
  have hz : (en_flk.zip en_flp)[j]? = some ((o, i, c, k), en_flp[j]) := by
    rw [List.getElem?_zip_eq_some]
    exact ⟨h, List.getElem?_eq_getElem hj2⟩
  have hc := List.all_eq_true.mp en_fck_all _ (List.mem_of_getElem? hz)
  unfold en_fck at hc
  dsimp only at hc
  cases hr : vwCl[c]? with
  | none => rw [hr] at hc; cases hc
  | some r =>
    rw [hr] at hc
    simp only [Bool.and_eq_true] at hc
    exact ⟨r, rfl, of_decide_eq_true hc.1, en_gw_of (of_decide_eq_true hc.2) rfl⟩
/-- the classes' own words -/
theorem en_uw_all : vwCl.all (fun r => (u_ws r.1 r.2.1 r.2.2).all (fun w => decide (w ∈ lw_tbl) && goodWord w)) = true := by decide +kernel
theorem en_uw {c : Nat} {r : vw_C} (h : vwCl[c]? = some r) : ∀ w ∈ u_ws r.1 r.2.1 r.2.2, w ∈ en_gw := by
  intro w hw
  have h1 := List.all_eq_true.mp (List.all_eq_true.mp en_uw_all r (List.mem_of_getElem? h)) w hw
  simp only [Bool.and_eq_true] at h1
  exact List.mem_filter.mpr ⟨of_decide_eq_true h1.1, h1.2⟩
theorem en_ty {c : Nat} {r : vw_C} (h : vwCl[c]? = some r) : ∃ ty0 : Nat → FieldType, (∀ k, k < r.2.2 → parseFieldDescriptor (r.2.1 k).2.2.1 = some (ty0 k)) ∧ ∀ a, a < r.2.2 → ∀ b, b < r.2.2 → a ≠ b → (r.2.1 a).2.1 ≠ (r.2.1 b).2.1 := by
  match c, h with
  | 0, h => cases h; exact ⟨tyX0, tyX0_ok, nmX0⟩
  | 1, h => cases h; exact ⟨tyX1, tyX1_ok, nmX1⟩
  | 2, h => cases h; exact ⟨tyX2, tyX2_ok, nmX2⟩
  | 3, h => cases h; exact ⟨tyX3, tyX3_ok, nmX3⟩
  | 4, h => cases h; exact ⟨tyX4, tyX4_ok, nmX4⟩
  | 5, h => cases h; exact ⟨tyX5, tyX5_ok, nmX5⟩
  | 6, h => cases h; exact ⟨tyX6, tyX6_ok, nmX6⟩
  | c + 7, h => cases h
/-- field kinds against descriptors -/
def en_kck (c : Nat) : Bool := match vwCl[c]? with
  | some r => decide (r.2.2 = (en_ft.getD c []).length) && (List.range r.2.2).all (fun k => match (en_ft.getD c []).getD k (9, 0, 0, 0) with
      | (0, _) => decide ((r.2.1 k).2.2.2 = false ∧ parseFieldDescriptor (r.2.1 k).2.2.1 = some .int)
      | (1, _) => decide ((r.2.1 k).2.2.2 = false ∧ parseFieldDescriptor (r.2.1 k).2.2.1 = some .boolean)
      | _ => true)
  | none => true
theorem en_kck_all : (List.range 7).all en_kck = true := by decide +kernel
theorem en_kinds {c k : Nat} {r : vw_C} (h : vwCl[c]? = some r) (hk : k < r.2.2) : r.2.2 = (en_ft.getD c []).length ∧ (∀ t, (en_ft.getD c []).getD k (9, 0, 0, 0) = (0, t) → (r.2.1 k).2.2.2 = false ∧ parseFieldDescriptor (r.2.1 k).2.2.1 = some .int) ∧ ∀ t, (en_ft.getD c []).getD k (9, 0, 0, 0) = (1, t) → (r.2.1 k).2.2.2 = false ∧ parseFieldDescriptor (r.2.1 k).2.2.1 = some .boolean := by
  have hc : c < 7 := (List.getElem?_eq_some_iff.mp h).1
  have h1 := List.all_eq_true.mp en_kck_all c (List.mem_range.mpr hc)
  unfold en_kck at h1
  rw [h] at h1
  simp only [Bool.and_eq_true] at h1
  have h2 := List.all_eq_true.mp h1.2 k (List.mem_range.mpr hk)
  refine ⟨of_decide_eq_true h1.1, fun t ht => ?_, fun t ht => ?_⟩
  · rw [ht] at h2
    exact of_decide_eq_true h2
  · rw [ht] at h2
    exact of_decide_eq_true h2
theorem en_lay_small : en_lay.all (fun q => decide (q.2 < 1000)) = true := by decide +kernel
theorem en_lay_n {a k n : Nat} (h : en_lay[a]? = some (k, n)) : n < 2 ^ 31 := by
  have := of_decide_eq_true (List.all_eq_true.mp en_lay_small _ (List.mem_of_getElem? h))
  dsimp only at this
  omega
theorem en_lay84 {c : Nat} (h : en_lay[84]? = some (1, c)) : c = 6 := by
  have : en_lay[84]? = some (1, 6) := by decide +kernel
  rw [this] at h
  cases h
  rfl
theorem en_lay84k {k n : Nat} (h : en_lay[84]? = some (k, n)) : k = 1 := by
  have : en_lay[84]? = some (1, 6) := by decide +kernel
  rw [this] at h
  cases h
  rfl
theorem en_nf {s tk tn off : Nat} (h : (en_ft.getD 6 []).getD s (9, 0, 0, 0) = (3, tk, tn, off)) : (s = 24 ∧ tk = 1 ∧ tn = 6 ∧ off = 74) ∨ (s = 25 ∧ tk = 1 ∧ tn = 6 ∧ off = 37) := by
  by_cases hs : s < 41
  · have key : (List.range 41).all (fun s => match (en_ft.getD 6 []).getD s (9, 0, 0, 0) with | (3, tk, tn, off) => decide ((s = 24 ∧ tk = 1 ∧ tn = 6 ∧ off = 74) ∨ (s = 25 ∧ tk = 1 ∧ tn = 6 ∧ off = 37)) | _ => true) = true := by decide +kernel
    have := List.all_eq_true.mp key s (List.mem_range.mpr hs)
    rw [h] at this
    exact of_decide_eq_true this
  · rw [List.getD_eq_getElem?_getD, List.getElem?_eq_none (by have : (en_ft.getD 6 []).length = 41 := by decide +kernel
                                                              omega)] at h
    cases h
theorem en_nf2 {s : Nat} (h : s = 24 ∨ s = 25) : ∃ t, (en_ft.getD 6 []).getD s (9, 0, 0, 0) = (3, t) := by
  rcases h with rfl | rfl
  · exact ⟨_, rfl⟩
  · exact ⟨_, rfl⟩
end
section
/-! instructions on fields and rows -/
section EN3
variable {ad : Nat → Nat} {H : Heap} {locs : List Loc} {lsA : Array Slot}
variable {p : Program} {l : Launch} {e : Env} {R : Room} {s : State} {m : MethodId} {args : Array Value} {below : List Frame} {meth : Method} {c : Code} {Q : State → Prop} {cc : ByteArray} {own : String} {nL h bu0 : Nat} {A : Nat → Prop} {cd : Nat → Nat → Nat} {D : va_G} {cs : Nat → ClassId} {sc : Nat × (Nat → Int)} {ad0 : Nat → Nat} {M0 : Mm} {pc : Nat} {ls : AL} {st r : List AV} {M : Mm} {bu : Nat} {k : AK} {K : Nat → AK}
theorem en_ok_ref {sL kd n a : Nat} (h : en_ok sL M (.inr (.inr (kd, n, a)))) (h1 : 1 ≤ kd) (h2 : kd ≤ 5) : en_lay[a]? = some (kd, n) ∧ a ∈ en_pl M := by
  cases kd with
  | zero => omega
  | succ kd =>
    rcases h with ⟨-, h3, h4⟩ | h | h | h | h | h
    · exact ⟨h3, h4⟩
    all_goals omega
theorem en_layD {a kd n : Nat} (h : en_lay[a]? = some (kd, n)) : en_lay.getD a (0, 0) = (kd, n) := by
  rw [List.getD_eq_getElem?_getD, h]
  rfl
theorem en_rv_ref {tk tn b : Nat} (h1 : 1 ≤ tk) (h2 : tk ≤ 5) : en_rv ad cd (.inr (.inr (tk, tn, b))) = .ref (ad b) := by
  match tk, h1, h2 with
  | 1, _, _ => rfl
  | 2, _, _ => rfl
  | 3, _, _ => rfl
  | 4, _, _ => rfl
  | 5, _, _ => rfl
theorem en_fs_at {a cl k : Nat} (hk : k < (en_ft.getD cl []).length) : (en_fs ad M a cl)[k]? = some (en_fv ad M a k ((en_ft.getD cl []).getD k (9, 0, 0, 0))) := by
  unfold en_fs
  generalize en_ft.getD cl [] = L at hk ⊢
  rw [List.getElem?_map, List.getElem?_zipIdx, List.getD_eq_getElem?_getD, List.getElem?_eq_getElem hk]
  simp
theorem en_fs_len {a cl : Nat} : (en_fs ad M a cl).length = (en_ft.getD cl []).length := by
  unfold en_fs
  simp
theorem en_fv_set {a k j : Nat} {x : Int} {t : Nat × Nat × Nat × Nat} (h : j ≠ k) : en_fv ad (en_wI M a k x) a j t = en_fv ad M a j t := by
  unfold en_fv
  rw [en_wI_at, if_neg h]
/-- the part of a block that a field holds -/
theorem en_part {cl a k tk tn off : Nat} (hl : en_lay[a]? = some (1, cl)) (ha : a ∈ en_pl M) (hf : (en_ft.getD cl []).getD k (9, 0, 0, 0) = (2, tk, tn, off)) : 1 ≤ tk ∧ tk ≤ 5 ∧ en_lay[a + off]? = some (tk, tn) ∧ a + off ∈ en_pl M := by
  have hc := en_chk_at (en_pl_lt ha)
  unfold en_chk at hc
  rw [en_layD hl] at hc
  simp only [Bool.and_eq_true] at hc
  have hm : ((2, tk, tn, off) : Nat × Nat × Nat × Nat) ∈ en_ft.getD cl [] := by
    rw [List.getD_eq_getElem?_getD] at hf
    cases hg : (en_ft.getD cl [])[k]? with
    | none => rw [hg] at hf; cases hf
    | some t => rw [hg] at hf; simp only [Option.getD_some] at hf; rw [← hf]; exact List.mem_of_getElem? hg
  have h1 := List.all_eq_true.mp hc.1 _ hm
  simp only [Bool.and_eq_true, Bool.or_eq_true, decide_eq_true_eq] at h1
  obtain ⟨⟨g1, g2⟩, g3, g4⟩ := h1
  exact ⟨g1, g2, g3, en_pl_same ha (by omega)⟩
theorem en_s_getf (X : en_Fx p R s m args c cc own nL h bu0 A cd D cs sc) {o i cl a f j : Nat} (ho : en_cn.getD o "" = own) (hj : en_flk[j]? = some (o, i, cl, f)) (hdg : decode cc pc = .ok (.getfield i, 3)) (hk : ∀ ls st M bu, k ls st M bu → en_At p l e R s m args below meth c Q nL A cd D cs ad0 M0 sc.1 bu0 (pc + 3) ls st M bu) (hs : match (en_ft.getD cl []).getD f (9, 0, 0, 0) with
          | (0, _) => k ls (.inl (M.1 a f) :: r) M bu
          | (1, _) => k ls (.inl (M.1 a f) :: r) M bu
          | (2, tk, tn, off) => k ls (.inr (.inr (tk, tn, a + off)) :: r) M bu
          | (3, tk, tn, off) => a = 84 ∧ (M.1 a f = 0 → k ls (.inr (.inr (0, 0, 0)) :: r) M bu) ∧ (¬ M.1 a f = 0 → k ls (.inr (.inr (tk, tn, a + off)) :: r) M bu)
          | _ => False) : en_At p l e R s m args below meth c Q nL A cd D cs ad0 M0 sc.1 bu0 pc ls (.inr (.inr (1, cl, a)) :: r) M bu := by
  intro hb ad H locs lsA I
  obtain ⟨hl, ha⟩ := en_ok_ref I.hd (by decide) (by decide)
  obtain ⟨q, hq, hqk, hlink⟩ := en_link_F hj
  rw [ho] at hlink
  obtain ⟨i0, hi0, hi1⟩ := en_wd_at (ad := ad) (cs := cs) ha
  have hce : en_cell ad cs M a = .inr (cl, en_fs ad M a cl) := by
    unfold en_cell
    rw [en_layD hl]
    rfl
  rw [hce] at hi1
  have hlen := (en_kinds hq hqk).1
  have hv := en_fs_at (ad := ad) (M := M) (a := a) (cl := cl) (k := f) (by rw [← hlen]; exact hqk)
  refine va_get (C := q.1) (T := q.2.1) (N := q.2.2) (ci := cl) (v := en_fv ad M a f ((en_ft.getD cl []).getD f (9, 0, 0, 0))) X.1 X.2.1 X.2.2.2.2.1 (en_uw hq) X.2.2.2.1 X.2.2.2.2.2.1 I.2.2.2.2.2.1 i0 hi1 hq f hqk (X.2.2.2.2.1 _ hlink) (fun _ z => z) hv hdg ?_
  generalize hF : (en_ft.getD cl []).getD f (9, 0, 0, 0) = F at hs hv ⊢
  obtain ⟨fk, tk, tn, off⟩ := F
  match fk, hF, hs with
  | 0, hF, hs => exact hk _ _ _ _ hs hb ad H locs lsA (I.tl.pu (en_okI _ _ _))
  | 1, hF, hs => exact hk _ _ _ _ hs hb ad H locs lsA (I.tl.pu (en_okI _ _ _))
  | 2, hF, hs =>
    obtain ⟨g1, g2, g3, g4⟩ := en_part hl ha hF
    have hh := hk _ _ _ _ hs hb ad H locs lsA (I.tl.pu (by
      cases tk with
      | zero => omega
      | succ tk => exact Or.inl ⟨g2, g3, g4⟩))
    rw [List.map_cons, en_rv_ref g1 g2] at hh
    exact hh
  | 3, hF, hs =>
    obtain ⟨rfl, h0, h1⟩ := hs
    have hcl := en_lay84 hl
    subst hcl
    by_cases hz : M.1 84 f = 0
    · have hh := hk _ _ _ _ (h0 hz) hb ad H locs lsA (I.tl.pu trivial)
      show W p l e R s m args below meth c H locs _ _ Q (F0 m (pc + 3) lsA ((if M.1 84 f = 0 then Value.null else .ref (ad (84 + off))) :: r.map (en_rv ad cd)))
      rw [if_pos hz]
      exact hh
    · show W p l e R s m args below meth c H locs _ _ Q (F0 m (pc + 3) lsA ((if M.1 84 f = 0 then Value.null else .ref (ad (84 + off))) :: r.map (en_rv ad cd)))
      rw [if_neg hz]
      rcases en_nf hF with ⟨rfl, rfl, rfl, rfl⟩ | ⟨rfl, rfl, rfl, rfl⟩
      · refine hk _ _ _ _ (h1 hz) hb ad H locs lsA (I.tl.pu (Or.inl ⟨by decide, by decide +kernel, ?_⟩))
        unfold en_pl
        rw [if_neg hz]
        exact List.mem_append_right _ (List.mem_append_right _ (List.mem_map.mpr ⟨0, by decide, rfl⟩))
      · refine hk _ _ _ _ (h1 hz) hb ad H locs lsA (I.tl.pu (Or.inl ⟨by decide, by decide +kernel, ?_⟩))
        unfold en_pl
        rw [if_neg hz]
        exact List.mem_append_right _ (List.mem_append_left _ (List.mem_map.mpr ⟨0, by decide, rfl⟩))
  | fk + 4, hF, hs => exact hs.elim
/-- behind a write that leaves the places as they are -/
theorem en_In.wr {M' : Mm} {H1 : Heap} {locs1 : List Loc} (I : en_In s nL A cd D cs ad0 M0 sc.1 ad H locs lsA ls st M) (hp : en_pl M' = en_pl M) (hP : va_P D vwCl (en_wd ad cs M') H1) (hD : va_D A (en_wd ad cs M')) (hS : va_S A s.heap H1 locs1) : en_In s nL A cd D cs ad0 M0 sc.1 ad H1 locs1 lsA ls st M' :=
  ⟨I.1, I.2.1, I.2.2.1, fun i v hv => ⟨(I.2.2.2.1 i v hv).1, en_ok_mono (I.2.2.2.1 i v hv).2 (fun a h => hp ▸ h)⟩, fun v hv => en_ok_mono (I.2.2.2.2.1 v hv) (fun a h => hp ▸ h), hP, hD, hS, en_agree_trans I.2.2.2.2.2.2.2.2 (en_agree_refl hp)⟩
theorem en_cell_ne {a j b : Nat} {x : Int} (h : b ≠ a) : en_cell ad cs (en_wI M a j x) b = en_cell ad cs M b := en_cell_congr (en_wI_ne h) rfl
theorem en_s_putf (X : en_Fx p R s m args c cc own nL h bu0 A cd D cs sc) {o i cl a f j : Nat} {x : Int} (ho : en_cn.getD o "" = own) (hj : en_flk[j]? = some (o, i, cl, f)) (hdg : decode cc pc = .ok (.putfield i, 3)) (hk : ∀ ls st M bu, k ls st M bu → en_At p l e R s m args below meth c Q nL A cd D cs ad0 M0 sc.1 bu0 (pc + 3) ls st M bu) (hs : match (en_ft.getD cl []).getD f (9, 0, 0, 0) with
          | (0, _) => k ls r (en_wI M a f x) bu
          | (1, _) => (x = 0 ∨ x = 1) ∧ k ls r (en_wI M a f x) bu
          | _ => False) : en_At p l e R s m args below meth c Q nL A cd D cs ad0 M0 sc.1 bu0 pc ls (.inl x :: .inr (.inr (1, cl, a)) :: r) M bu := by
  intro hb ad H locs lsA I
  obtain ⟨hl, ha⟩ := en_ok_ref I.tl.hd (by decide) (by decide)
  obtain ⟨q, hq, hqk, hlink⟩ := en_link_F hj
  rw [ho] at hlink
  obtain ⟨i0, hi0, hi1⟩ := en_wd_at (ad := ad) (cs := cs) ha
  have hce : ∀ M : Mm, en_cell ad cs M a = .inr (cl, en_fs ad M a cl) := by
    intro M
    unfold en_cell
    rw [en_layD hl]
    rfl
  rw [hce] at hi1
  obtain ⟨hlen, hk0, hk1⟩ := en_kinds hq hqk
  obtain ⟨ty0, hty, hnm⟩ := en_ty hq
  have hfl : f < (en_ft.getD cl []).length := by rw [← hlen]; exact hqk
  have hset : ∀ t : Nat × Nat × Nat, (en_ft.getD cl []).getD f (9, 0, 0, 0) = (0, t) ∨ (en_ft.getD cl []).getD f (9, 0, 0, 0) = (1, t) → (en_fs ad M a cl).set f (.int (Int32.ofInt x)) = en_fs ad (en_wI M a f x) a cl := by
    intro t ht
    apply List.ext_getElem?
    intro j
    by_cases hjf : j = f
    · subst hjf
      rw [List.getElem?_set_self (by rw [en_fs_len]; exact hfl), en_fs_at hfl]
      rcases ht with ht | ht
      · rw [ht]; unfold en_fv; rw [en_wI_at, if_pos rfl]; rfl
      · rw [ht]; unfold en_fv; rw [en_wI_at, if_pos rfl]; rfl
    · rw [List.getElem?_set_ne (Ne.symm hjf)]
      by_cases hjl : j < (en_ft.getD cl []).length
      · rw [en_fs_at hjl, en_fs_at hjl, en_fv_set hjf]
      · rw [List.getElem?_eq_none (by rw [en_fs_len]; omega), List.getElem?_eq_none (by rw [en_fs_len]; omega)]
  have h84 : ∀ t : Nat × Nat × Nat, (en_ft.getD cl []).getD f (9, 0, 0, 0) = (0, t) ∨ (en_ft.getD cl []).getD f (9, 0, 0, 0) = (1, t) → a = 84 → f ≠ 24 ∧ f ≠ 25 := by
    intro t ht ha4
    subst ha4
    have := en_lay84 hl
    subst this
    constructor
    · intro z
      obtain ⟨t', ht'⟩ := en_nf2 (Or.inl z)
      rcases ht with ht | ht <;> (rw [ht'] at ht; cases ht)
    · intro z
      obtain ⟨t', ht'⟩ := en_nf2 (Or.inr z)
      rcases ht with ht | ht <;> (rw [ht'] at ht; cases ht)
  have fin : ∀ t : Nat × Nat × Nat, (en_ft.getD cl []).getD f (9, 0, 0, 0) = (0, t) ∨ (en_ft.getD cl []).getD f (9, 0, 0, 0) = (1, t) → k ls r (en_wI M a f x) bu → ∀ (H1 : Heap) (locs1 : List Loc), va_P D vwCl ((en_wd ad cs M).set i0 (ad a, .inr (cl, (en_fs ad M a cl).set f (.int (Int32.ofInt x))))) H1 → va_D A ((en_wd ad cs M).set i0 (ad a, .inr (cl, (en_fs ad M a cl).set f (.int (Int32.ofInt x))))) → va_S A s.heap H1 locs1 → W p l e R s m args below meth c H1 locs1 (37 * (bu0 - bu)) (932 * (bu0 - bu)) Q (F0 m (pc + 3) lsA (r.map (en_rv ad cd))) := by
    intro t ht hs H1 locs1 hP hD hS
    have hpl := en_pl_wI (M := M) (x := x) (h84 t ht)
    rw [hset t ht, ← hce, en_wd_set hi0 hpl (fun b hb => en_cell_ne hb)] at hP hD
    exact hk _ _ _ _ hs hb ad H1 locs1 lsA (I.tl.tl.wr hpl hP hD hS)
  generalize hF : (en_ft.getD cl []).getD f (9, 0, 0, 0) = F at hs
  obtain ⟨fk, t⟩ := F
  match fk, hF, hs with
  | 0, hF, hs =>
    obtain ⟨z1, z2⟩ := hk0 t hF
    exact va_put (C := q.1) (T := q.2.1) (N := q.2.2) (ci := cl) (ty := .int) X.1 X.2.1 X.2.2.2.2.1 (en_uw hq) ty0 hty hnm X.2.2.2.1 X.2.2.2.2.2.1 I.2.2.2.2.2.1 I.2.2.2.2.2.2.1 I.2.2.2.2.2.2.2.1 i0 hi1 hq f hqk (X.2.2.2.2.1 _ hlink) (fun _ z => z) z1 z2 rfl rfl (by rw [en_fs_len]; exact hfl) hdg (fin t (Or.inl hF) hs)
  | 1, hF, hs =>
    obtain ⟨z1, z2⟩ := hk1 t hF
    obtain ⟨hx, hs⟩ := hs
    have hn : narrow .boolean (.int (Int32.ofInt x)) = .int (Int32.ofInt x) ∧ fits .boolean (.int (Int32.ofInt x)) = true := by rcases hx with rfl | rfl <;> exact ⟨rfl, rfl⟩
    exact va_put (C := q.1) (T := q.2.1) (N := q.2.2) (ci := cl) (ty := .boolean) X.1 X.2.1 X.2.2.2.2.1 (en_uw hq) ty0 hty hnm X.2.2.2.1 X.2.2.2.2.2.1 I.2.2.2.2.2.1 I.2.2.2.2.2.2.1 I.2.2.2.2.2.2.2.1 i0 hi1 hq f hqk (X.2.2.2.2.1 _ hlink) (fun _ z => z) z1 z2 hn.1 hn.2 (by rw [en_fs_len]; exact hfl) hdg (fin t (Or.inr hF) hs)
  | fk + 2, hF, hs => exact hs.elim
/-- a row of ints, of booleans, of longs at its place -/
theorem en_at2 {n a : Nat} (hl : en_lay[a]? = some (2, n)) : en_cell ad cs M a = .inl (cs 0, n, .inl (fun j => Int32.ofInt (M.1 a j))) := by
  unfold en_cell
  rw [en_layD hl]
  rfl
theorem en_at3 {n a : Nat} (hl : en_lay[a]? = some (3, n)) : en_cell ad cs M a = .inl (cs 1, n, .inl (fun j => Int32.ofInt (M.1 a j))) := by
  unfold en_cell
  rw [en_layD hl]
  rfl
theorem en_at4 {n a : Nat} (hl : en_lay[a]? = some (4, n)) : en_cell ad cs M a = .inl (cs 2, n, .inr (.inl (fun j => Int64.ofInt (M.2 a j)))) := by
  unfold en_cell
  rw [en_layD hl]
  rfl
theorem en_s_iald (X : en_Fx p R s m args c cc own nL h bu0 A cd D cs sc) {n a : Nat} {i : Int} (hdg : decode cc pc = .ok (.iaload, 1)) (hk : ∀ ls st M bu, k ls st M bu → en_At p l e R s m args below meth c Q nL A cd D cs ad0 M0 sc.1 bu0 (pc + 1) ls st M bu) (hs : en_ix i n (fun j => k ls (.inl (M.1 a j) :: r) M bu)) : en_At p l e R s m args below meth c Q nL A cd D cs ad0 M0 sc.1 bu0 pc ls (.inl i :: .inr (.inr (2, n, a)) :: r) M bu := by
  intro hb ad H locs lsA I
  obtain ⟨hl, ha⟩ := en_ok_ref I.tl.hd (by decide) (by decide)
  obtain ⟨j, rfl, hj, hs⟩ := hs
  obtain ⟨i0, hi0, hi1⟩ := en_wd_at (ad := ad) (cs := cs) ha
  rw [en_at2 hl] at hi1
  obtain ⟨g1, g2⟩ := en_ix_in hj (en_lay_n hl)
  refine va_iald X.1 X.2.1 X.2.2.2.2.2.1 I.2.2.2.2.2.1 i0 0 hi1 rfl g1 hdg ?_
  rw [g2]
  exact hk _ _ _ _ hs hb ad H locs lsA (I.tl.tl.pu (en_okI _ _ _))
theorem en_s_zald (X : en_Fx p R s m args c cc own nL h bu0 A cd D cs sc) {n a : Nat} {i : Int} (hdg : decode cc pc = .ok (.baload, 1)) (hk : ∀ ls st M bu, k ls st M bu → en_At p l e R s m args below meth c Q nL A cd D cs ad0 M0 sc.1 bu0 (pc + 1) ls st M bu) (hs : en_ix i n (fun j => k ls (.inl (M.1 a j) :: r) M bu)) : en_At p l e R s m args below meth c Q nL A cd D cs ad0 M0 sc.1 bu0 pc ls (.inl i :: .inr (.inr (3, n, a)) :: r) M bu := by
  intro hb ad H locs lsA I
  obtain ⟨hl, ha⟩ := en_ok_ref I.tl.hd (by decide) (by decide)
  obtain ⟨j, rfl, hj, hs⟩ := hs
  obtain ⟨i0, hi0, hi1⟩ := en_wd_at (ad := ad) (cs := cs) ha
  rw [en_at3 hl] at hi1
  obtain ⟨g1, g2⟩ := en_ix_in hj (en_lay_n hl)
  refine va_zald X.1 X.2.1 X.2.2.2.2.2.1 I.2.2.2.2.2.1 i0 1 hi1 rfl g1 hdg ?_
  rw [g2]
  exact hk _ _ _ _ hs hb ad H locs lsA (I.tl.tl.pu (en_okI _ _ _))
theorem en_s_lald (X : en_Fx p R s m args c cc own nL h bu0 A cd D cs sc) {n a : Nat} {i : Int} (hdg : decode cc pc = .ok (.laload, 1)) (hk : ∀ ls st M bu, k ls st M bu → en_At p l e R s m args below meth c Q nL A cd D cs ad0 M0 sc.1 bu0 (pc + 1) ls st M bu) (hs : en_ix i n (fun j => k ls (.inr (.inl (M.2 a j)) :: r) M bu)) : en_At p l e R s m args below meth c Q nL A cd D cs ad0 M0 sc.1 bu0 pc ls (.inl i :: .inr (.inr (4, n, a)) :: r) M bu := by
  intro hb ad H locs lsA I
  obtain ⟨hl, ha⟩ := en_ok_ref I.tl.hd (by decide) (by decide)
  obtain ⟨j, rfl, hj, hs⟩ := hs
  obtain ⟨i0, hi0, hi1⟩ := en_wd_at (ad := ad) (cs := cs) ha
  rw [en_at4 hl] at hi1
  obtain ⟨g1, g2⟩ := en_ix_in hj (en_lay_n hl)
  refine va_lald X.1 X.2.1 X.2.2.2.2.2.1 I.2.2.2.2.2.1 i0 2 hi1 rfl g1 hdg ?_
  rw [g2]
  exact hk _ _ _ _ hs hb ad H locs lsA (I.tl.tl.pu (en_okL _ _ _))
theorem en_updI {a j : Nat} {x : Int} : upd (fun i => Int32.ofInt (M.1 a i)) j (Int32.ofInt x) = fun i => Int32.ofInt ((en_wI M a j x).1 a i) := by
  funext i
  rw [en_wI_at]
  unfold upd
  by_cases h : i = j
  · rw [if_pos h, if_pos h]
  · rw [if_neg h, if_neg h]
theorem en_updL {a j : Nat} {x : Int} : vp_updL (fun i => Int64.ofInt (M.2 a i)) j (Int64.ofInt x) = fun i => Int64.ofInt ((en_wL M a j x).2 a i) := by
  funext i
  rw [en_wL_at]
  unfold vp_updL
  by_cases h : i = j
  · rw [if_pos h, if_pos h]
  · rw [if_neg h, if_neg h]
theorem en_ne84 {a kd n : Nat} (hl : en_lay[a]? = some (kd, n)) (hk : kd ≠ 1) : a ≠ 84 := by
  intro z
  subst z
  exact hk (en_lay84k hl)
theorem en_s_iast (X : en_Fx p R s m args c cc own nL h bu0 A cd D cs sc) {n a : Nat} {i x : Int} (hdg : decode cc pc = .ok (.iastore, 1)) (hk : ∀ ls st M bu, k ls st M bu → en_At p l e R s m args below meth c Q nL A cd D cs ad0 M0 sc.1 bu0 (pc + 1) ls st M bu) (hs : en_ix i n (fun j => k ls r (en_wI M a j x) bu)) : en_At p l e R s m args below meth c Q nL A cd D cs ad0 M0 sc.1 bu0 pc ls (.inl x :: .inl i :: .inr (.inr (2, n, a)) :: r) M bu := by
  intro hb ad H locs lsA I
  obtain ⟨hl, ha⟩ := en_ok_ref I.tl.tl.hd (by decide) (by decide)
  obtain ⟨j, rfl, hj, hs⟩ := hs
  obtain ⟨i0, hi0, hi1⟩ := en_wd_at (ad := ad) (cs := cs) ha
  rw [en_at2 hl] at hi1
  obtain ⟨g1, g2⟩ := en_ix_in hj (en_lay_n hl)
  refine va_iast X.1 X.2.1 X.2.2.2.2.2.1 I.2.2.2.2.2.1 I.2.2.2.2.2.2.1 I.2.2.2.2.2.2.2.1 i0 0 hi1 rfl g1 hdg (fun H1 locs1 hP hD hS => ?_)
  have hpl := en_pl_wI (M := M) (a := a) (j := j) (x := x) (fun z => absurd z (en_ne84 hl (by decide)))
  rw [g2, en_updI, ← en_at2 (ad := ad) hl, en_wd_set hi0 hpl (fun b hb => en_cell_ne hb)] at hP hD
  exact hk _ _ _ _ hs hb ad H1 locs1 lsA (I.tl.tl.tl.wr hpl hP hD hS)
theorem en_s_zast (X : en_Fx p R s m args c cc own nL h bu0 A cd D cs sc) {n a : Nat} {i x : Int} (hx : x = 0 ∨ x = 1) (hdg : decode cc pc = .ok (.bastore, 1)) (hk : ∀ ls st M bu, k ls st M bu → en_At p l e R s m args below meth c Q nL A cd D cs ad0 M0 sc.1 bu0 (pc + 1) ls st M bu) (hs : en_ix i n (fun j => k ls r (en_wI M a j x) bu)) : en_At p l e R s m args below meth c Q nL A cd D cs ad0 M0 sc.1 bu0 pc ls (.inl x :: .inl i :: .inr (.inr (3, n, a)) :: r) M bu := by
  intro hb ad H locs lsA I
  obtain ⟨hl, ha⟩ := en_ok_ref I.tl.tl.hd (by decide) (by decide)
  obtain ⟨j, rfl, hj, hs⟩ := hs
  obtain ⟨i0, hi0, hi1⟩ := en_wd_at (ad := ad) (cs := cs) ha
  rw [en_at3 hl] at hi1
  obtain ⟨g1, g2⟩ := en_ix_in hj (en_lay_n hl)
  refine va_zast X.1 X.2.1 X.2.2.2.2.2.1 I.2.2.2.2.2.1 I.2.2.2.2.2.2.1 I.2.2.2.2.2.2.2.1 i0 1 hi1 rfl g1 hdg (fun H1 locs1 hP hD hS => ?_)
  have hpl := en_pl_wI (M := M) (a := a) (j := j) (x := x) (fun z => absurd z (en_ne84 hl (by decide)))
  have hnz : vp_nar .boolean (Int32.ofInt x) = Int32.ofInt x := by rcases hx with rfl | rfl <;> rfl
  rw [g2, hnz, en_updI, ← en_at3 (ad := ad) hl, en_wd_set hi0 hpl (fun b hb => en_cell_ne hb)] at hP hD
  exact hk _ _ _ _ hs hb ad H1 locs1 lsA (I.tl.tl.tl.wr hpl hP hD hS)
theorem en_s_last (X : en_Fx p R s m args c cc own nL h bu0 A cd D cs sc) {n a : Nat} {i x : Int} (hdg : decode cc pc = .ok (.lastore, 1)) (hk : ∀ ls st M bu, k ls st M bu → en_At p l e R s m args below meth c Q nL A cd D cs ad0 M0 sc.1 bu0 (pc + 1) ls st M bu) (hs : en_ix i n (fun j => k ls r (en_wL M a j x) bu)) : en_At p l e R s m args below meth c Q nL A cd D cs ad0 M0 sc.1 bu0 pc ls (.inr (.inl x) :: .inl i :: .inr (.inr (4, n, a)) :: r) M bu := by
  intro hb ad H locs lsA I
  obtain ⟨hl, ha⟩ := en_ok_ref I.tl.tl.hd (by decide) (by decide)
  obtain ⟨j, rfl, hj, hs⟩ := hs
  obtain ⟨i0, hi0, hi1⟩ := en_wd_at (ad := ad) (cs := cs) ha
  rw [en_at4 hl] at hi1
  obtain ⟨g1, g2⟩ := en_ix_in hj (en_lay_n hl)
  refine va_last X.1 X.2.1 X.2.2.2.2.2.1 I.2.2.2.2.2.1 I.2.2.2.2.2.2.1 I.2.2.2.2.2.2.2.1 i0 2 hi1 rfl g1 hdg (fun H1 locs1 hP hD hS => ?_)
  have hpl := en_pl_wL (M := M) (a := a) (j := j) (x := x)
  rw [g2, en_updL, ← en_at4 (ad := ad) hl, en_wd_set hi0 hpl (fun b hb => en_cell_congr rfl (en_wL_ne hb))] at hP hD
  exact hk _ _ _ _ hs hb ad H1 locs1 lsA (I.tl.tl.tl.wr hpl hP hD hS)
/-- an array of references: its parts -/
theorem en_at5 {n a : Nat} (hl : en_lay[a]? = some (5, n)) : en_cell ad cs M a = .inl (cs (en_ra.getD n (0, 0, 0, 0, 0, 0)).2.2.2.2.2, (en_ra.getD n (0, 0, 0, 0, 0, 0)).1, .inr (.inr (.inr (.inr (fun j => if j < (en_ra.getD n (0, 0, 0, 0, 0, 0)).1 then some (ad (a + (en_ra.getD n (0, 0, 0, 0, 0, 0)).2.2.2.1 + (en_ra.getD n (0, 0, 0, 0, 0, 0)).2.2.2.2.1 * j)) else none))))) := by
  unfold en_cell
  rw [en_layD hl]
  rfl
theorem en_ra_tys {n : Nat} {j : Nat} (h : j < (en_ra.getD n (0, 0, 0, 0, 0, 0)).1) : ∃ ty, (en_tys cs)[(en_ra.getD n (0, 0, 0, 0, 0, 0)).2.2.2.2.2]? = some (cs (en_ra.getD n (0, 0, 0, 0, 0, 0)).2.2.2.2.2, ty) ∧ refKind ty = true ∧ (en_ra.getD n (0, 0, 0, 0, 0, 0)).1 < 2 ^ 31 := by
  match n, h with
  | 0, _ => exact ⟨_, rfl, rfl, by decide⟩
  | 1, _ => exact ⟨_, rfl, rfl, by decide⟩
  | 2, _ => exact ⟨_, rfl, rfl, by decide⟩
  | n + 3, h => exact absurd h (Nat.not_lt_zero _)
theorem en_part5 {a n j : Nat} (hl : en_lay[a]? = some (5, n)) (ha : a ∈ en_pl M) (hj : j < (en_ra.getD n (0, 0, 0, 0, 0, 0)).1) : 1 ≤ (en_ra.getD n (0, 0, 0, 0, 0, 0)).2.1 ∧ (en_ra.getD n (0, 0, 0, 0, 0, 0)).2.1 ≤ 5 ∧ en_lay[a + (en_ra.getD n (0, 0, 0, 0, 0, 0)).2.2.2.1 + (en_ra.getD n (0, 0, 0, 0, 0, 0)).2.2.2.2.1 * j]? = some ((en_ra.getD n (0, 0, 0, 0, 0, 0)).2.1, (en_ra.getD n (0, 0, 0, 0, 0, 0)).2.2.1) ∧ a + (en_ra.getD n (0, 0, 0, 0, 0, 0)).2.2.2.1 + (en_ra.getD n (0, 0, 0, 0, 0, 0)).2.2.2.2.1 * j ∈ en_pl M := by
  have hc := en_chk_at (en_pl_lt ha)
  unfold en_chk at hc
  rw [en_layD hl] at hc
  simp only [Bool.and_eq_true, decide_eq_true_eq] at hc
  have h1 := List.all_eq_true.mp hc.2 j (List.mem_range.mpr hj)
  simp only [Bool.and_eq_true, Bool.or_eq_true, decide_eq_true_eq] at h1
  refine ⟨hc.1.1, hc.1.2, h1.1, en_pl_same ha ?_⟩
  rcases h1.2 with q | q | q
  · exact Or.inl q
  · exact Or.inr (Or.inl ⟨q.1, q.2.1, Nat.le_trans q.1 (Nat.le_trans (Nat.le_add_right _ _) (Nat.le_add_right _ _)), q.2.2⟩)
  · exact Or.inr (Or.inr ⟨q.1, Nat.le_trans q.1 (Nat.le_trans (Nat.le_add_right _ _) (Nat.le_add_right _ _)), q.2⟩)
theorem en_s_aald (X : en_Fx p R s m args c cc own nL h bu0 A cd D cs sc) {n a : Nat} {i : Int} (hdg : decode cc pc = .ok (.aaload, 1)) (hk : ∀ ls st M bu, k ls st M bu → en_At p l e R s m args below meth c Q nL A cd D cs ad0 M0 sc.1 bu0 (pc + 1) ls st M bu) (hs : en_ix i (en_ra.getD n (0, 0, 0, 0, 0, 0)).1 (fun j => k ls (.inr (.inr ((en_ra.getD n (0, 0, 0, 0, 0, 0)).2.1, (en_ra.getD n (0, 0, 0, 0, 0, 0)).2.2.1, a + (en_ra.getD n (0, 0, 0, 0, 0, 0)).2.2.2.1 + (en_ra.getD n (0, 0, 0, 0, 0, 0)).2.2.2.2.1 * j)) :: r) M bu)) : en_At p l e R s m args below meth c Q nL A cd D cs ad0 M0 sc.1 bu0 pc ls (.inl i :: .inr (.inr (5, n, a)) :: r) M bu := by
  intro hb ad H locs lsA I
  obtain ⟨hl, ha⟩ := en_ok_ref I.tl.hd (by decide) (by decide)
  obtain ⟨j, rfl, hj, hs⟩ := hs
  obtain ⟨i0, hi0, hi1⟩ := en_wd_at (ad := ad) (cs := cs) ha
  rw [en_at5 hl] at hi1
  obtain ⟨ty, ht, hr, h31⟩ := en_ra_tys (cs := cs) hj
  obtain ⟨g1, g2⟩ := en_ix_in hj h31
  obtain ⟨z1, z2, z3, z4⟩ := en_part5 hl ha hj
  have hh := hk _ _ _ _ hs hb ad H locs lsA (I.tl.tl.pu (by
      generalize (en_ra.getD n (0, 0, 0, 0, 0, 0)).2.1 = tk at z1 z2 z3 ⊢
      cases tk with
      | zero => omega
      | succ tk => exact Or.inl ⟨z2, z3, z4⟩))
  rw [List.map_cons, en_rv_ref z1 z2] at hh
  have hP := I.2.2.2.2.2.1 i0 _ hi1
  refine W.aald (v := .ref (ad (a + (en_ra.getD n (0, 0, 0, 0, 0, 0)).2.2.2.1 + (en_ra.getD n (0, 0, 0, 0, 0, 0)).2.2.2.2.1 * j))) (ty := ty) X.1 X.2.1 hP ((X.2.2.2.2.2.1.2 _ _ ht).1 _ (fun j => va_rf _)) hr (fun q => by cases q) (by show ¬ (_ ∨ (arrV _ _ _).slots.size ≤ _); rw [arrV_size]; exact g1) (by show (arrV _ _ _).slots[_]? = _; rw [g2, arrV_read _ _ hj]; dsimp only; rw [if_pos hj]; rfl) rfl rfl hdg hh
theorem en_s_alen (X : en_Fx p R s m args c cc own nL h bu0 A cd D cs sc) {kd n a : Nat} (h1 : 2 ≤ kd) (h2 : kd ≤ 4) (hdg : decode cc pc = .ok (.arraylength, 1)) (hk : ∀ ls st M bu, k ls st M bu → en_At p l e R s m args below meth c Q nL A cd D cs ad0 M0 sc.1 bu0 (pc + 1) ls st M bu) (hs : k ls (.inl (n : Nat) :: r) M bu) : en_At p l e R s m args below meth c Q nL A cd D cs ad0 M0 sc.1 bu0 pc ls (.inr (.inr (kd, n, a)) :: r) M bu := by
  intro hb ad H locs lsA I
  obtain ⟨hl, ha⟩ := en_ok_ref I.hd (by omega) (by omega)
  obtain ⟨i0, hi0, hi1⟩ := en_wd_at (ad := ad) (cs := cs) ha
  have hh := hk _ _ _ _ hs hb ad H locs lsA (I.tl.pu (en_okI _ _ _))
  match kd, h1, h2, hl with
  | 2, _, _, hl =>
    rw [en_at2 hl] at hi1
    exact va_alen X.1 X.2.1 X.2.2.2.2.2.1 I.2.2.2.2.2.1 i0 0 hi1 rfl (Int32.ofInt_eq_ofNat).symm hdg hh
  | 3, _, _, hl =>
    rw [en_at3 hl] at hi1
    exact va_alen X.1 X.2.1 X.2.2.2.2.2.1 I.2.2.2.2.2.1 i0 1 hi1 rfl (Int32.ofInt_eq_ofNat).symm hdg hh
  | 4, _, _, hl =>
    rw [en_at4 hl] at hi1
    exact va_alen X.1 X.2.1 X.2.2.2.2.2.1 I.2.2.2.2.2.1 i0 2 hi1 rfl (Int32.ofInt_eq_ofNat).symm hdg hh
end EN3
end
section
/-! constants, copies, calls, returns -/
section EN4
variable {ad : Nat → Nat} {H : Heap} {locs : List Loc} {lsA : Array Slot}
variable {p : Program} {l : Launch} {e : Env} {R : Room} {s : State} {m : MethodId} {args : Array Value} {below : List Frame} {meth : Method} {c : Code} {Q : State → Prop} {cc : ByteArray} {own : String} {nL h bu0 : Nat} {A : Nat → Prop} {cd : Nat → Nat → Nat} {D : va_G} {cs : Nat → ClassId} {sc : Nat × (Nat → Int)} {ad0 : Nat → Nat} {M0 : Mm} {pc : Nat} {ls : AL} {st r : List AV} {M : Mm} {bu : Nat} {k : AK} {K : Nat → AK}
theorem en_s_gets (X : en_Fx p R s m args c cc own nL h bu0 A cd D cs sc) {i n : Nat} (hn : n < 4) (hw : Cond.fieldLink own i "TownRiverBeast" (en_sn.getD n "") "[I" ∈ en_gw) (hdg : decode cc pc = .ok (.getstatic i, 3)) (hk : ∀ ls st M bu, k ls st M bu → en_At p l e R s m args below meth c Q nL A cd D cs ad0 M0 sc.1 bu0 (pc + 3) ls st M bu) (hs : k ls (.inr (.inr (6, n, 0)) :: st) M bu) : en_At p l e R s m args below meth c Q nL A cd D cs ad0 M0 sc.1 bu0 pc ls st M bu := by
  intro hb ad H locs lsA I
  exact va_gets X.1 X.2.1 (X.2.2.2.2.2.2.1.1 n hn).1 I.2.2.2.2.2.2.2.1 X.2.2.2.1 (X.2.2.2.2.1 _ hw) (fun _ z => z) hdg (hk _ _ _ _ hs hb ad H locs lsA (I.pu (Or.inr (Or.inl ⟨rfl, hn⟩))))
theorem en_s_getsN (X : en_Fx p R s m args c cc own nL h bu0 A cd D cs sc) {i n : Nat} (hn : n < 4) (hw : Cond.fieldLinkNest own i "TownRiverBeast" (en_sn.getD n "") "[I" "TownRiverBeast" ∈ en_nest) (hdg : decode cc pc = .ok (.getstatic i, 3)) (hk : ∀ ls st M bu, k ls st M bu → en_At p l e R s m args below meth c Q nL A cd D cs ad0 M0 sc.1 bu0 (pc + 3) ls st M bu) (hs : k ls (.inr (.inr (6, n, 0)) :: st) M bu) : en_At p l e R s m args below meth c Q nL A cd D cs ad0 M0 sc.1 bu0 pc ls st M bu := by
  intro hb ad H locs lsA I
  exact va_getsN X.1 X.2.1 (X.2.2.2.2.2.2.1.1 n hn).1 I.2.2.2.2.2.2.2.1 X.2.2.2.1 (va_Nw.use rfl (X.2.2.2.2.2.2.1.2.2.2.2.2 _ hw)) (fun _ z => z) hdg (hk _ _ _ _ hs hb ad H locs lsA (I.pu (Or.inr (Or.inl ⟨rfl, hn⟩))))
theorem en_s_getsC (X : en_Fx p R s m args c cc own nL h bu0 A cd D cs sc) {i : Nat} (hw : Cond.fieldLink own i "java/lang/String" "COMPACT_STRINGS" "Z" ∈ en_gw) (hdg : decode cc pc = .ok (.getstatic i, 3)) (hk : ∀ ls st M bu, k ls st M bu → en_At p l e R s m args below meth c Q nL A cd D cs ad0 M0 sc.1 bu0 (pc + 3) ls st M bu) (hs : k ls (.inl 1 :: st) M bu) : en_At p l e R s m args below meth c Q nL A cd D cs ad0 M0 sc.1 bu0 pc ls st M bu := by
  intro hb ad H locs lsA I
  exact va_gets X.1 X.2.1 X.2.2.2.2.2.2.1.2.1 I.2.2.2.2.2.2.2.1 X.2.2.2.1 (X.2.2.2.2.1 _ hw) (fun _ z => z) hdg (hk _ _ _ _ hs hb ad H locs lsA (I.pu (en_okI _ _ _)))
theorem en_s_getsF (X : en_Fx p R s m args c cc own nL h bu0 A cd D cs sc) {i : Nat} (hw : Cond.fieldLink own i "jdk/internal/util/Preconditions" "SIOOBE_FORMATTER" "Ljava/util/function/BiFunction;" ∈ en_gw) (hdg : decode cc pc = .ok (.getstatic i, 3)) (hk : ∀ ls st M bu, k ls st M bu → en_At p l e R s m args below meth c Q nL A cd D cs ad0 M0 sc.1 bu0 (pc + 3) ls st M bu) (hs : k ls (.inr (.inr (10, 0, 0)) :: st) M bu) : en_At p l e R s m args below meth c Q nL A cd D cs ad0 M0 sc.1 bu0 pc ls st M bu := by
  intro hb ad H locs lsA I
  exact va_gets X.1 X.2.1 X.2.2.2.2.2.2.1.2.2.1 I.2.2.2.2.2.2.2.1 X.2.2.2.1 (X.2.2.2.2.1 _ hw) (fun _ z => z) hdg (hk _ _ _ _ hs hb ad H locs lsA (I.pu (Or.inr (Or.inr (Or.inr (Or.inr (Or.inr rfl)))))))
theorem en_ok6 {sL n a : Nat} (h : en_ok sL M (.inr (.inr (6, n, a)))) : n < 4 := by
  rcases h with h | h | h | h | h | h <;> omega
theorem en_ok7 {sL n a : Nat} (h : en_ok sL M (.inr (.inr (7, n, a)))) : n < 9 := by
  rcases h with h | h | h | h | h | h <;> omega
theorem en_ok8 {sL n a : Nat} (h : en_ok sL M (.inr (.inr (8, n, a)))) : n < 9 := by
  rcases h with h | h | h | h | h | h <;> omega
theorem en_ok9 {sL n a : Nat} (h : en_ok sL M (.inr (.inr (9, n, a)))) : n + 1 = sL := by
  rcases h with h | h | h | h | h | h <;> omega
theorem en_sv_len {n : Nat} : (en_sv.getD n []).length < 2 ^ 31 := by
  match n with
  | 0 => decide
  | 1 => decide
  | 2 => decide
  | 3 => decide
  | n + 4 => exact (by decide : ([] : List Int).length < 2 ^ 31)
theorem en_s_ti (X : en_Fx p R s m args c cc own nL h bu0 A cd D cs sc) {n a : Nat} {i : Int} (hdg : decode cc pc = .ok (.iaload, 1)) (hk : ∀ ls st M bu, k ls st M bu → en_At p l e R s m args below meth c Q nL A cd D cs ad0 M0 sc.1 bu0 (pc + 1) ls st M bu) (hs : en_ix i ((en_sv.getD n []).length) (fun j => k ls (.inl ((en_sv.getD n []).getD j 0) :: r) M bu)) : en_At p l e R s m args below meth c Q nL A cd D cs ad0 M0 sc.1 bu0 pc ls (.inl i :: .inr (.inr (6, n, a)) :: r) M bu := by
  intro hb ad H locs lsA I
  have hn := en_ok6 I.tl.hd
  obtain ⟨j, rfl, hj, hs⟩ := hs
  obtain ⟨g1, g2⟩ := en_ix_in hj en_sv_len
  exact va_ti X.1 X.2.1 (X.2.2.2.2.2.2.1.1 n hn).2 I.2.2.2.2.2.2.2.1 g1 (by rw [g2]; rfl) hdg (hk _ _ _ _ hs hb ad H locs lsA (I.tl.tl.pu (en_okI _ _ _)))
theorem en_s_tlen (X : en_Fx p R s m args c cc own nL h bu0 A cd D cs sc) {n a : Nat} (hdg : decode cc pc = .ok (.arraylength, 1)) (hk : ∀ ls st M bu, k ls st M bu → en_At p l e R s m args below meth c Q nL A cd D cs ad0 M0 sc.1 bu0 (pc + 1) ls st M bu) (hs : k ls (.inl (((en_sv.getD n []).length : Nat) : Int) :: r) M bu) : en_At p l e R s m args below meth c Q nL A cd D cs ad0 M0 sc.1 bu0 pc ls (.inr (.inr (6, n, a)) :: r) M bu := by
  intro hb ad H locs lsA I
  exact va_tlen X.1 X.2.1 (X.2.2.2.2.2.2.1.1 n (en_ok6 I.hd)).2 I.2.2.2.2.2.2.2.1 (Int32.ofInt_eq_ofNat).symm hdg (hk _ _ _ _ hs hb ad H locs lsA (I.tl.pu (en_okI _ _ _)))
/-- the script -/
theorem en_s_sld (X : en_Fx p R s m args c cc own nL h bu0 A cd D cs sc) {n a : Nat} {i : Int} (hdg : decode cc pc = .ok (.iaload, 1)) (hk : ∀ ls st M bu, k ls st M bu → en_At p l e R s m args below meth c Q nL A cd D cs ad0 M0 sc.1 bu0 (pc + 1) ls st M bu) (hs : en_ix i n (fun j => k ls (.inl (sc.2 j) :: r) M bu)) : en_At p l e R s m args below meth c Q nL A cd D cs ad0 M0 sc.1 bu0 pc ls (.inl i :: .inr (.inr (9, n, a)) :: r) M bu := by
  intro hb ad H locs lsA I
  obtain ⟨z1, z2, z3, z4⟩ := X.2.2.2.2.2.2.2.2.2 n (en_ok9 I.tl.hd)
  obtain ⟨j, rfl, hj, hs⟩ := hs
  obtain ⟨g1, g2⟩ := en_ix_in hj z4
  refine va_sld X.1 X.2.1 z1 z2 z3 I.2.2.2.2.2.2.2.1 g1 hdg ?_
  rw [g2]
  exact hk _ _ _ _ hs hb ad H locs lsA (I.tl.tl.pu (en_okI _ _ _))
theorem en_s_slen (X : en_Fx p R s m args c cc own nL h bu0 A cd D cs sc) {n a : Nat} (hdg : decode cc pc = .ok (.arraylength, 1)) (hk : ∀ ls st M bu, k ls st M bu → en_At p l e R s m args below meth c Q nL A cd D cs ad0 M0 sc.1 bu0 (pc + 1) ls st M bu) (hs : k ls (.inl (n : Nat) :: r) M bu) : en_At p l e R s m args below meth c Q nL A cd D cs ad0 M0 sc.1 bu0 pc ls (.inr (.inr (9, n, a)) :: r) M bu := by
  intro hb ad H locs lsA I
  obtain ⟨z1, z2, z3, z4⟩ := X.2.2.2.2.2.2.2.2.2 n (en_ok9 I.hd)
  have hh := hk _ _ _ _ hs hb ad H locs lsA (I.tl.pu (en_okI _ _ _))
  refine va_slen X.1 X.2.1 z1 z2 z3 I.2.2.2.2.2.2.2.1 hdg ?_
  rw [← Int32.ofInt_eq_ofNat]
  exact hh
/-- Strings -/
theorem en_by_at {n j : Nat} (hj : j < en_ln n) : ((en_by.map (fun l => l.map Int32.ofInt)).getD n []).getD j 0 = Int32.ofInt ((en_by.getD n []).getD j 0) := by
  unfold en_ln at hj
  have e : (en_by.map (fun l => l.map Int32.ofInt)).getD n [] = (en_by.getD n []).map Int32.ofInt := by
    rw [List.getD_eq_getElem?_getD, List.getD_eq_getElem?_getD, List.getElem?_map]
    cases en_by[n]? <;> rfl
  rw [e]
  generalize en_by.getD n [] = L at hj ⊢
  rw [List.getD_eq_getElem?_getD, List.getD_eq_getElem?_getD, List.getElem?_map, List.getElem?_eq_getElem hj]
  rfl
theorem en_ln_eq {n : Nat} : (en_by.map List.length).getD n 0 = en_ln n := by
  unfold en_ln
  rw [List.getD_eq_getElem?_getD, List.getD_eq_getElem?_getD, List.getElem?_map]
  cases en_by[n]? <;> rfl
theorem en_ln_lt {n : Nat} : en_ln n < 2 ^ 31 := by
  match n with
  | 0 => decide
  | 1 => decide
  | 2 => decide
  | 3 => decide
  | 4 => decide
  | 5 => decide
  | 6 => decide
  | 7 => decide
  | 8 => decide
  | n + 9 => exact (by decide : ([] : List Int).length < 2 ^ 31)
theorem en_s_tb (X : en_Fx p R s m args c cc own nL h bu0 A cd D cs sc) {n a : Nat} {i : Int} (hdg : decode cc pc = .ok (.baload, 1)) (hk : ∀ ls st M bu, k ls st M bu → en_At p l e R s m args below meth c Q nL A cd D cs ad0 M0 sc.1 bu0 (pc + 1) ls st M bu) (hs : en_ix i (en_ln n) (fun j => k ls (.inl ((en_by.getD n []).getD j 0) :: r) M bu)) : en_At p l e R s m args below meth c Q nL A cd D cs ad0 M0 sc.1 bu0 pc ls (.inl i :: .inr (.inr (8, n, a)) :: r) M bu := by
  intro hb ad H locs lsA I
  have hn := en_ok8 I.tl.hd
  obtain ⟨j, rfl, hj, hs⟩ := hs
  obtain ⟨g1, g2⟩ := en_ix_in hj en_ln_lt
  have hT := (X.2.2.2.2.2.2.1.2.2.2.2.1.1 n hn).2.2.2
  rw [en_ln_eq] at hT
  exact va_tb X.1 X.2.1 hT I.2.2.2.2.2.2.2.1 g1 (by rw [g2, en_by_at hj]; rfl) hdg (hk _ _ _ _ hs hb ad H locs lsA (I.tl.tl.pu (en_okI _ _ _)))
theorem en_s_tblen (X : en_Fx p R s m args c cc own nL h bu0 A cd D cs sc) {n a : Nat} (hdg : decode cc pc = .ok (.arraylength, 1)) (hk : ∀ ls st M bu, k ls st M bu → en_At p l e R s m args below meth c Q nL A cd D cs ad0 M0 sc.1 bu0 (pc + 1) ls st M bu) (hs : k ls (.inl ((en_ln n : Nat) : Int) :: r) M bu) : en_At p l e R s m args below meth c Q nL A cd D cs ad0 M0 sc.1 bu0 pc ls (.inr (.inr (8, n, a)) :: r) M bu := by
  intro hb ad H locs lsA I
  have hT := (X.2.2.2.2.2.2.1.2.2.2.2.1.1 n (en_ok8 I.hd)).2.2.2
  rw [en_ln_eq] at hT
  exact va_tlen X.1 X.2.1 hT I.2.2.2.2.2.2.2.1 (Int32.ofInt_eq_ofNat).symm hdg (hk _ _ _ _ hs hb ad H locs lsA (I.tl.pu (en_okI _ _ _)))
theorem en_s_gval (X : en_Fx p R s m args c cc own nL h bu0 A cd D cs sc) {i n a : Nat} (hw : Cond.fieldLink own i "java/lang/String" "value" "[B" ∈ en_gw) (hdg : decode cc pc = .ok (.getfield i, 3)) (hk : ∀ ls st M bu, k ls st M bu → en_At p l e R s m args below meth c Q nL A cd D cs ad0 M0 sc.1 bu0 (pc + 3) ls st M bu) (hs : k ls (.inr (.inr (8, n, 0)) :: r) M bu) : en_At p l e R s m args below meth c Q nL A cd D cs ad0 M0 sc.1 bu0 pc ls (.inr (.inr (7, n, a)) :: r) M bu := by
  intro hb ad H locs lsA I
  have hn := en_ok7 I.hd
  exact vk_getf X.1 X.2.1 (X.2.2.2.2.2.2.1.2.2.2.2.1.1 n hn).2.2.1 I.2.2.2.2.2.2.2.1 X.2.2.2.1 (X.2.2.2.2.1 _ hw) (fun _ z => z) hdg (hk _ _ _ _ hs hb ad H locs lsA (I.tl.pu (Or.inr (Or.inr (Or.inr (Or.inl ⟨rfl, hn⟩))))))
theorem en_s_gcod (X : en_Fx p R s m args c cc own nL h bu0 A cd D cs sc) {i n a : Nat} (hw : Cond.fieldLink own i "java/lang/String" "coder" "B" ∈ en_gw) (hdg : decode cc pc = .ok (.getfield i, 3)) (hk : ∀ ls st M bu, k ls st M bu → en_At p l e R s m args below meth c Q nL A cd D cs ad0 M0 sc.1 bu0 (pc + 3) ls st M bu) (hs : k ls (.inl 0 :: r) M bu) : en_At p l e R s m args below meth c Q nL A cd D cs ad0 M0 sc.1 bu0 pc ls (.inr (.inr (7, n, a)) :: r) M bu := by
  intro hb ad H locs lsA I
  exact vk_getf X.1 X.2.1 (X.2.2.2.2.2.2.1.2.2.2.2.1.1 n (en_ok7 I.hd)).2.1 I.2.2.2.2.2.2.2.1 X.2.2.2.1 (X.2.2.2.2.1 _ hw) (fun _ z => z) hdg (hk _ _ _ _ hs hb ad H locs lsA (I.tl.pu (en_okI _ _ _)))
/-- copies -/
theorem en_nat_of {n : Nat} (h : n < 2 ^ 31) : (Int32.ofInt (n : Int)).toNatClampNeg = n ∧ ¬ Int32.ofInt (n : Int) < 0 := by
  rw [Int32.ofInt_eq_ofNat]
  exact ⟨nI_clamp h, nI_pos h⟩
theorem en_s_cpi (X : en_Fx p R s m args c cc own nL h bu0 A cd D cs sc) {o i j a0 a1 n0 n1 sp dp n : Nat} (ho : en_cn.getD o "" = own) (hj : en_xlk[j]? = some (o, i, 1000)) (h1 : sp + n ≤ n0) (h2 : dp + n ≤ n1) (hr : (Nat.ble (en_sum r) 8 && Nat.ble 1 h) = true) (hdg : decode cc pc = .ok (.invokestatic i, 3)) (hk : ∀ ls st M bu, k ls st M bu → en_At p l e R s m args below meth c Q nL A cd D cs ad0 M0 sc.1 bu0 (pc + 3) ls st M bu) (hs : k ls r (en_cI M a0 a1 sp dp n) bu) : en_At p l e R s m args below meth c Q nL A cd D cs ad0 M0 sc.1 bu0 pc ls (.inl (n : Int) :: .inl (dp : Int) :: .inr (.inr (2, n1, a1)) :: .inl (sp : Int) :: .inr (.inr (2, n0, a0)) :: r) M bu := by
  intro hb ad H locs lsA I
  obtain ⟨hl1, ha1⟩ := en_ok_ref I.tl.tl.hd (by decide) (by decide)
  obtain ⟨hl0, ha0⟩ := en_ok_ref I.tl.tl.tl.tl.hd (by decide) (by decide)
  have m0 := en_lay_n hl0
  have m1 := en_lay_n hl1
  obtain ⟨i0, hi0, hj0⟩ := en_wd_at (ad := ad) (cs := cs) ha0
  obtain ⟨i1, hi1, hj1⟩ := en_wd_at (ad := ad) (cs := cs) ha1
  rw [en_at2 hl0] at hj0
  rw [en_at2 hl1] at hj1
  have hlk := en_link_X hj
  rw [ho] at hlk
  simp only [Bool.and_eq_true, Nat.ble_eq] at hr
  obtain ⟨f1, f2, f3, f4⟩ := X.2.2.2.2.2.2.2.1
  obtain ⟨q1, q2⟩ := en_nat_of (n := sp) (by omega)
  obtain ⟨q3, q4⟩ := en_nat_of (n := dp) (by omega)
  obtain ⟨q5, q6⟩ := en_nat_of (n := n) (by omega)
  refine va_copyi X.1 X.2.1 (by rw [X.2.2.1, I.1]) X.2.2.2.1 (X.2.2.2.2.1 _ hlk) (X.2.2.2.2.1 _ (en_w_m (by simp))) (X.2.2.2.2.1 _ (en_w_m (by simp))) (X.2.2.2.2.1 _ (en_w_m (by simp))) X.2.2.2.2.2.1 I.2.2.2.2.2.1 I.2.2.2.2.2.2.1 I.2.2.2.2.2.2.2.1 i0 i1 0 0 hj0 hj1 rfl rfl rfl q2 q4 q6 (by rw [q1, q5]; exact h1) (by rw [q3, q5]; exact h2) (fun _ _ => rfl) (by omega) (by rw [en_sum_eq]; show en_sum r + (7 + 11) ≤ _; omega) hdg (fun H1 locs1 hP hD hS => ?_)
  have hpl := en_pl_cI (M := M) (a0 := a0) (a1 := a1) (sp := sp) (dp := dp) (n := n) (en_ne84 hl1 (by decide))
  have hcp : va_cpy (fun j => Int32.ofInt (M.1 a0 j)) (fun j => Int32.ofInt (M.1 a1 j)) sp dp n = fun j => Int32.ofInt ((en_cI M a0 a1 sp dp n).1 a1 j) := by
    funext j
    show _ = Int32.ofInt ((if a1 = a1 then va_cpy (M.1 a0) (M.1 a1) sp dp n else M.1 a1) j)
    rw [if_pos rfl]
    unfold va_cpy
    by_cases hq : dp ≤ j ∧ j < dp + n
    · rw [if_pos hq, if_pos hq]
    · rw [if_neg hq, if_neg hq]
  rw [q1, q3, q5, hcp, ← en_at2 (ad := ad) hl1, en_wd_set hi1 hpl (fun b hb => en_cell_congr (by simp [en_cI, hb]) rfl)] at hP hD
  exact hk _ _ _ _ hs hb ad H1 locs1 lsA (I.tl.tl.tl.tl.tl.wr hpl hP hD hS)
theorem en_s_cpl (X : en_Fx p R s m args c cc own nL h bu0 A cd D cs sc) {o i j a0 a1 n0 n1 sp dp n : Nat} (ho : en_cn.getD o "" = own) (hj : en_xlk[j]? = some (o, i, 1000)) (h1 : sp + n ≤ n0) (h2 : dp + n ≤ n1) (hr : (Nat.ble (en_sum r) 8 && Nat.ble 1 h) = true) (hdg : decode cc pc = .ok (.invokestatic i, 3)) (hk : ∀ ls st M bu, k ls st M bu → en_At p l e R s m args below meth c Q nL A cd D cs ad0 M0 sc.1 bu0 (pc + 3) ls st M bu) (hs : k ls r (en_cL M a0 a1 sp dp n) bu) : en_At p l e R s m args below meth c Q nL A cd D cs ad0 M0 sc.1 bu0 pc ls (.inl (n : Int) :: .inl (dp : Int) :: .inr (.inr (4, n1, a1)) :: .inl (sp : Int) :: .inr (.inr (4, n0, a0)) :: r) M bu := by
  intro hb ad H locs lsA I
  obtain ⟨hl1, ha1⟩ := en_ok_ref I.tl.tl.hd (by decide) (by decide)
  obtain ⟨hl0, ha0⟩ := en_ok_ref I.tl.tl.tl.tl.hd (by decide) (by decide)
  have m0 := en_lay_n hl0
  have m1 := en_lay_n hl1
  obtain ⟨i0, hi0, hj0⟩ := en_wd_at (ad := ad) (cs := cs) ha0
  obtain ⟨i1, hi1, hj1⟩ := en_wd_at (ad := ad) (cs := cs) ha1
  rw [en_at4 hl0] at hj0
  rw [en_at4 hl1] at hj1
  have hlk := en_link_X hj
  rw [ho] at hlk
  simp only [Bool.and_eq_true, Nat.ble_eq] at hr
  obtain ⟨f1, f2, f3, f4⟩ := X.2.2.2.2.2.2.2.1
  obtain ⟨q1, q2⟩ := en_nat_of (n := sp) (by omega)
  obtain ⟨q3, q4⟩ := en_nat_of (n := dp) (by omega)
  obtain ⟨q5, q6⟩ := en_nat_of (n := n) (by omega)
  refine va_copyl X.1 X.2.1 (by rw [X.2.2.1, I.1]) X.2.2.2.1 (X.2.2.2.2.1 _ hlk) (X.2.2.2.2.1 _ (en_w_m (by simp))) (X.2.2.2.2.1 _ (en_w_m (by simp))) (X.2.2.2.2.1 _ (en_w_m (by simp))) X.2.2.2.2.2.1 I.2.2.2.2.2.1 I.2.2.2.2.2.2.1 I.2.2.2.2.2.2.2.1 i0 i1 2 2 hj0 hj1 rfl rfl rfl q2 q4 q6 (by rw [q1, q5]; exact h1) (by rw [q3, q5]; exact h2) (fun _ _ => rfl) (by omega) (by rw [en_sum_eq]; show en_sum r + (7 + 11) ≤ _; omega) hdg (fun H1 locs1 hP hD hS => ?_)
  have hpl := en_pl_cL (M := M) (a0 := a0) (a1 := a1) (sp := sp) (dp := dp) (n := n)
  have hcp : va_cpy (fun j => Int64.ofInt (M.2 a0 j)) (fun j => Int64.ofInt (M.2 a1 j)) sp dp n = fun j => Int64.ofInt ((en_cL M a0 a1 sp dp n).2 a1 j) := by
    funext j
    show _ = Int64.ofInt ((if a1 = a1 then va_cpy (M.2 a0) (M.2 a1) sp dp n else M.2 a1) j)
    rw [if_pos rfl]
    unfold va_cpy
    by_cases hq : dp ≤ j ∧ j < dp + n
    · rw [if_pos hq, if_pos hq]
    · rw [if_neg hq, if_neg hq]
  rw [q1, q3, q5, hcp, ← en_at4 (ad := ad) hl1, en_wd_set hi1 hpl (fun b hb => en_cell_congr rfl (by simp [en_cL, hb]))] at hP hD
  exact hk _ _ _ _ hs hb ad H1 locs1 lsA (I.tl.tl.tl.tl.tl.wr hpl hP hD hS)
theorem en_s_max (X : en_Fx p R s m args c cc own nL h bu0 A cd D cs sc) {o i j : Nat} {a b : Int} (ho : en_cn.getD o "" = own) (hj : en_xlk[j]? = some (o, i, 1001)) (hr : (Nat.ble (en_sum r) 8 && Nat.ble 1 h) = true) (hdg : decode cc pc = .ok (.invokestatic i, 3)) (hk : ∀ ls st M bu, k ls st M bu → en_At p l e R s m args below meth c Q nL A cd D cs ad0 M0 sc.1 bu0 (pc + 3) ls st M bu) (hs : k ls (.inl (if en_wr a < en_wr b then b else a) :: r) M bu) : en_At p l e R s m args below meth c Q nL A cd D cs ad0 M0 sc.1 bu0 pc ls (.inl b :: .inl a :: r) M bu := by
  intro hb ad H locs lsA I
  have hlk := en_link_X hj
  rw [ho] at hlk
  simp only [Bool.and_eq_true, Nat.ble_eq] at hr
  obtain ⟨f1, f2, f3, f4⟩ := X.2.2.2.2.2.2.2.1
  have hh := hk _ _ _ _ hs hb ad H locs lsA (I.tl.tl.pu (en_okI _ _ _))
  refine va_mmax X.1 X.2.1 (by rw [X.2.2.1, I.1]) X.2.2.2.1 (X.2.2.2.2.1 _ hlk) (X.2.2.2.2.1 _ (en_w_m (by simp))) (X.2.2.2.2.1 _ (en_w_m (by simp))) (X.2.2.2.2.1 _ (en_w_m (by simp))) (by omega) (by rw [en_sum_eq]; omega) (by have := Nat.mul_le_mul_left 37 (Nat.sub_le bu0 bu); omega) (by have := Nat.mul_le_mul_left 932 (Nat.sub_le bu0 bu); omega) hdg ?_
  rw [List.map_cons, show en_rv ad cd (.inl (if en_wr a < en_wr b then b else a)) = .int (if Int32.ofInt a < Int32.ofInt b then Int32.ofInt b else Int32.ofInt a) from congrArg Value.int (by
    by_cases hq : Int32.ofInt a < Int32.ofInt b
    · rw [if_pos hq, if_pos (en_lt_iff.mp hq)]
    · rw [if_neg hq, if_neg (fun z => hq (en_lt_iff.mpr z))])] at hh
  exact hh
theorem en_s_min (X : en_Fx p R s m args c cc own nL h bu0 A cd D cs sc) {o i j : Nat} {a b : Int} (ho : en_cn.getD o "" = own) (hj : en_xlk[j]? = some (o, i, 1002)) (hr : (Nat.ble (en_sum r) 8 && Nat.ble 1 h) = true) (hdg : decode cc pc = .ok (.invokestatic i, 3)) (hk : ∀ ls st M bu, k ls st M bu → en_At p l e R s m args below meth c Q nL A cd D cs ad0 M0 sc.1 bu0 (pc + 3) ls st M bu) (hs : k ls (.inl (if en_wr b < en_wr a then b else a) :: r) M bu) : en_At p l e R s m args below meth c Q nL A cd D cs ad0 M0 sc.1 bu0 pc ls (.inl b :: .inl a :: r) M bu := by
  intro hb ad H locs lsA I
  have hlk := en_link_X hj
  rw [ho] at hlk
  simp only [Bool.and_eq_true, Nat.ble_eq] at hr
  obtain ⟨f1, f2, f3, f4⟩ := X.2.2.2.2.2.2.2.1
  have hh := hk _ _ _ _ hs hb ad H locs lsA (I.tl.tl.pu (en_okI _ _ _))
  refine va_mmin X.1 X.2.1 (by rw [X.2.2.1, I.1]) X.2.2.2.1 (X.2.2.2.2.1 _ hlk) (X.2.2.2.2.1 _ (en_w_m (by simp))) (X.2.2.2.2.1 _ (en_w_m (by simp))) (X.2.2.2.2.1 _ (en_w_m (by simp))) (by omega) (by rw [en_sum_eq]; omega) (by have := Nat.mul_le_mul_left 37 (Nat.sub_le bu0 bu); omega) (by have := Nat.mul_le_mul_left 932 (Nat.sub_le bu0 bu); omega) hdg ?_
  rw [List.map_cons, show en_rv ad cd (.inl (if en_wr b < en_wr a then b else a)) = .int (if Int32.ofInt b < Int32.ofInt a then Int32.ofInt b else Int32.ofInt a) from congrArg Value.int (by
    by_cases hq : Int32.ofInt b < Int32.ofInt a
    · rw [if_pos hq, if_pos (en_lt_iff.mp hq)]
    · rw [if_neg hq, if_neg (fun z => hq (en_lt_iff.mpr z))])] at hh
  exact hh
end EN4
end
section
/-! calls -/
theorem en_K_move {cd : Nat → Nat → Nat} {A B : Nat → Prop} {s U : State} {H : Heap} (hK : en_K cd A s s.heap) (hq : ∀ a : Nat, a < s.heap.size → ¬ A a → H[a]? = s.heap[a]?) (hAB : ∀ q, B q → A q) (hW : s.WarmedH U.vm) : en_K cd B U H := by
  obtain ⟨h1, h2, h3, h4, h5, h6⟩ := hK
  refine ⟨fun i hi => ⟨(((h1 i hi).1.kept hq).narrow hAB).moved hW.alike, (((h1 i hi).2.kept hq).narrow hAB).moved hW.alike⟩, ((h2.kept hq).narrow hAB).moved hW.alike, ((h3.kept hq).narrow hAB).moved hW.alike, fun q hq => (h4 q hq).warm hW, ((h5.kept hq).narrow hAB).moved hW.alike, fun w hw => ?_⟩
  have h7 := h6 w hw
  simp only [en_nest, List.mem_cons, List.not_mem_nil, or_false] at hw
  rcases hw with rfl | rfl | rfl | rfl | rfl
  · exact va_Nw.warmM hW h7
  · exact va_Nw.warmM hW h7
  · exact va_Nw.warmM hW h7
  · exact va_Nw.warmF hW h7
  · exact va_Nw.warmF hW h7
theorem en_K_same {cd : Nat → Nat → Nat} {A : Nat → Prop} {u U : State} (hv : U.vm = u.vm) (hh : U.heap = u.heap) (hK : en_K cd A u u.heap) : en_K cd A U U.heap := by
  obtain ⟨h1, h2, h3, h4, h5, h6⟩ := hK
  have hal : u.vm.Alike U.vm := by rw [hv]; exact Vm.Alike.refl _
  rw [hh]
  refine ⟨fun i hi => ⟨(h1 i hi).1.moved hal, (h1 i hi).2.moved hal⟩, h2.moved hal, h3.moved hal, fun q hq => (h4 q hq).same hv, h5.moved hal, fun w hw => ?_⟩
  have h7 := h6 w hw
  refine va_Nw.same ?_ hv.symm h7
  simp only [en_nest, List.mem_cons, List.not_mem_nil, or_false] at hw
  rcases hw with rfl | rfl | rfl | rfl | rfl <;> rfl
theorem en_blind (as : List Value) (ad : Nat → Nat) (cd : Nat → Nat → Nat) (D : va_G) (cs : Nat → ClassId) (M : Mm) (sz : Nat) : FrameBlind (va_Pc as (en_Wd ad cd D cs M sz)) := by
  intro a U g mk q
  obtain ⟨q0, q1, qP, qK, qD, qC⟩ := q
  exact ⟨q0, q1, qP, va_K.moved (u := U) (U := U.calling g mk a) (Vm.Alike.refl U.vm) qK, qD, en_K_same (u := U) (U := U.calling g mk a) rfl rfl qC⟩
theorem en_good {k : Nat} (hk : en_used.contains k = true) : GoodIn en_gw (en_ws k) := by
  intro w hw
  rcases List.mem_cons.mp hw with rfl | hw
  · refine ⟨List.mem_filter.mpr ⟨?_, rfl⟩, Or.inl rfl⟩
    exact en_cw_all k (List.contains_iff_mem.mp hk)
  · exact ⟨hw, good_of_word (List.mem_filter.mp hw).2⟩
theorem en_minfo {k : Nat} (hk : en_used.contains k = true) : Cond.initialized (en_m k).1.cls ∈ en_gw ∧ ((en_m k).2.2.2.2.2.1 = true → Cond.static (en_m k).1 ∈ en_gw) ∧ ((en_m k).2.2.2.2.2.1 = false → Cond.instanceMethod (en_m k).1 ∈ en_gw ∧ Cond.selects (en_m k).1.cls (en_m k).1 (en_m k).1 ∈ en_gw) ∧ ((en_m k).1.cls ≠ "java/lang/invoke/MethodHandle" ∧ (en_m k).1.cls ≠ "java/lang/invoke/VarHandle" ∧ (parseMethodDescriptor (en_m k).1.desc).map (fun d => d.parameters.length) = some (en_m k).2.2.2.2.1) ∧ plainName (en_m k).1.cls = true ∧ en_cn[(en_m k).2.2.2.2.2.2]? = some (en_m k).1.cls ∧ (en_m k).2.2.1 ≤ 20 := by
  have h := en_mck_at hk
  unfold en_mck at h
  simp only [Bool.and_eq_true, Bool.or_eq_true, decide_eq_true_eq] at h
  obtain ⟨h1, h2, h3, h4, h5, h6, h7, h8⟩ := h
  refine ⟨en_gw_of h1 rfl, fun hs => ?_, fun hs => ⟨?_, ?_⟩, ⟨h4.1, h4.2, h5⟩, h6, h7, h8⟩
  · rw [hs] at h2
    exact en_gw_of h2 rfl
  · rw [hs] at h2
    exact en_gw_of h2 rfl
  · rcases h3 with h3 | h3
    · rw [hs] at h3; cases h3
    · exact en_gw_of h3 rfl
section EN5
variable {ad : Nat → Nat} {H : Heap} {locs : List Loc} {lsA : Array Slot}
variable {p : Program} {l : Launch} {e : Env} {R : Room} {s : State} {m : MethodId} {args : Array Value} {below : List Frame} {meth : Method} {c : Code} {Q : State → Prop} {cc : ByteArray} {own : String} {nL h bu0 : Nat} {A : Nat → Prop} {cd : Nat → Nat → Nat} {D : va_G} {cs : Nat → ClassId} {sc : Nat × (Nat → Int)} {ad0 : Nat → Nat} {M0 : Mm} {pc : Nat} {ls : AL} {st r : List AV} {M : Mm} {bu : Nat} {k : AK} {K : Nat → AK}
theorem en_In.sub (I : en_In s nL A cd D cs ad0 M0 sc.1 ad H locs lsA ls st M) (X : en_Fx p R s m args c cc own nL h bu0 A cd D cs sc) : ∀ q, va_A (en_wd ad cs M) H.size q → A q := by
  intro q hq
  rcases hq with ⟨k, e, hk⟩ | hq
  · exact I.2.2.2.2.2.2.1.2 k (q, e) hk
  · exact X.2.2.2.2.2.2.2.2.1 q (Nat.le_trans I.2.2.2.2.2.2.2.1.1 hq)
/-- the world that a callee sees -/
theorem en_In.wd (I : en_In s nL A cd D cs ad0 M0 sc.1 ad H locs lsA ls st M) (X : en_Fx p R s m args c cc own nL h bu0 A cd D cs sc) {U : State} (hU : U.heap = H) (hW : s.WarmedH U.vm) : en_Wd ad cd D cs M H.size U := by
  refine ⟨by rw [hU], by rw [hU]; exact I.2.2.2.2.2.1, va_K.moved hW.alike X.2.2.2.2.2.1, I.2.2.2.2.2.2.1.weaken (fun _ _ _ _ => trivial), ?_⟩
  rw [hU]
  exact en_K_move X.2.2.2.2.2.2.1 I.2.2.2.2.2.2.2.1.2.1 (I.sub X) hW
theorem en_call {post : Option AV → Mm → Prop} {mc ms cells slots : Nat} {a : Array Value} {st0 rest : List Value} (hS : va_S A s.heap H locs) (hA : ∀ q, va_A (en_wd ad cs M) H.size q → A q)
    (hr : va_Run p l e R s m args below meth c H locs cells slots mc ms (F0 m pc lsA st0) rest (en_Q post ad cd D cs M H.size a) (va_A (en_wd ad cs M) H.size))
    (kk : ∀ (v : Option AV) (M' : Mm) (ad' : Nat → Nat) (H1 : Heap) (locs1 : List Loc), post v M' → (∀ u, v = some u → en_ok 0 M' u) → en_agree ad ad' M M' → va_P D vwCl (en_wd ad' cs M') H1 → va_D A (en_wd ad' cs M') → va_S A s.heap H1 locs1 → W p l e R s m args below meth c H1 locs1 (cells + mc) (slots + ms) Q (F0 m (pc + 3) lsA ((v.map (en_rv ad' cd)).toList ++ rest))) :
    W p l e R s m args below meth c H locs cells slots Q (F0 m pc lsA st0) := by
  intro T hT X
  obtain ⟨v, st₀, t, T', L, h0, X', hL, e1, e2, ⟨⟨u, M', ad', hv, hp, hok, hag, hP, hD⟩, hz, hk⟩, st⟩ := hr T hT X
  cases hv
  rw [h0] at hz hk
  obtain ⟨t2, a1, b1⟩ := kk u M' ad' T'.heap (locs ++ L) hp hok hag (by rw [e1]; exact hP) (hD.weaken (fun k q _ hq => hA q.1 hq))
    ⟨Nat.le_trans hS.1 (by rw [e1]; exact hz), fun q h1 h2 => by rw [e1, hk q (Nat.lt_of_lt_of_le h1 hS.1) (fun z => h2 (hA q z))]; exact hS.2.1 q h1 h2, fun q hq => by
      rcases List.mem_append.mp hq with h | h
      · exact hS.2.2 q h
      · exact hA _ (hL q h)⟩ T' rfl X'
  exact ⟨t2, st t2 a1, b1⟩
/-- behind a call -/
theorem en_In.back {st0 : List AV} {M' : Mm} {ad' : Nat → Nat} {H1 : Heap} {locs1 : List Loc} (I : en_In s nL A cd D cs ad0 M0 sc.1 ad H locs lsA ls st0 M) (hr : ∀ v ∈ r, v ∈ st0) {v : Option AV} (hok : ∀ u, v = some u → en_ok 0 M' u) (hag : en_agree ad ad' M M') (hP : va_P D vwCl (en_wd ad' cs M') H1) (hD : va_D A (en_wd ad' cs M')) (hS : va_S A s.heap H1 locs1) : en_In s nL A cd D cs ad0 M0 sc.1 ad' H1 locs1 lsA ls (v.toList ++ r) M' ∧ ((v.map (en_rv ad' cd)).toList ++ r.map (en_rv ad cd)) = (v.toList ++ r).map (en_rv ad' cd) := by
  have hr2 : r.map (en_rv ad cd) = r.map (en_rv ad' cd) := List.map_congr_left (fun w hw => (en_rv_agree (I.2.2.2.2.1 w (hr w hw)) hag).symm)
  refine ⟨⟨I.1, I.2.1, I.2.2.1, fun i w hw => ?_, fun w hw => ?_, hP, hD, hS, en_agree_trans I.2.2.2.2.2.2.2.2 hag⟩, ?_⟩
  · obtain ⟨h1, h2⟩ := I.2.2.2.1 i w hw
    exact ⟨by rw [en_rv_agree h2 hag]; exact h1, en_ok_mono h2 (fun a ha => (hag a ha).1)⟩
  · rcases List.mem_append.mp hw with h | h
    · exact en_ok_up (hok w (Option.mem_toList.mp h))
    · exact en_ok_mono (I.2.2.2.2.1 w (hr w h)) (fun a ha => (hag a ha).1)
  · rw [hr2, List.map_append]
    congr 1
    cases v <;> rfl
theorem en_pop_eq : ∀ (n : Nat) (acc st as r : List AV), en_pop n acc st = some (as, r) → ∃ as', as = as' ++ acc ∧ st = as'.reverse ++ r ∧ as'.length = n
  | 0, acc, st, as, r, h => by
    cases h
    exact ⟨[], rfl, rfl, rfl⟩
  | n + 1, acc, [], as, r, h => by cases h
  | n + 1, acc, v :: st, as, r, h => by
    obtain ⟨as', h1, h2, h3⟩ := en_pop_eq n (v :: acc) st as r h
    refine ⟨as' ++ [v], by rw [h1]; simp, ?_, by simp [h3]⟩
    rw [h2]
    simp
theorem en_s_calls (X : en_Fx p R s m args c cc own nL h bu0 A cd D cs sc) {o i j f n nz h' b' : Nat} {as : List AV} (ho : en_cn.getD o "" = own) (hj : en_mlk[j]? = some (o, i, f, nz)) (hst : (en_m f).2.2.2.2.2.1 = true) (hn : (en_m f).2.2.2.2.1 = n) (hpop : en_pop n [] st = some (as, r)) (hr : (Nat.ble (en_sum r) 8 && as.all en_n9) = true) (hh' : h' < h) (hbu : b' ≤ bu) (hdg : decode cc pc = .ok (.invokestatic i, 3)) (hk : ∀ ls st M bu, k ls st M bu → en_At p l e R s m args below meth c Q nL A cd D cs ad0 M0 sc.1 bu0 (pc + 3) ls st M bu)
    (hs : en_Ct h' b' f as M (fun v M' => match v with | some v => k ls (v :: r) M' (bu - b') | none => k ls r M' (bu - b'))) : en_At p l e R s m args below meth c Q nL A cd D cs ad0 M0 sc.1 bu0 pc ls st M bu := by
  intro hb ad H locs lsA I
  obtain ⟨as', h1, h2, h3⟩ := en_pop_eq n [] st as r hpop
  rw [List.append_nil] at h1
  subst h1
  simp only [Bool.and_eq_true, Nat.ble_eq, List.all_eq_true] at hr
  obtain ⟨f1, f2, f3, f4⟩ := X.2.2.2.2.2.2.2.1
  obtain ⟨hu, hl⟩ := en_link_M hj
  rw [ho] at hl
  obtain ⟨i1, i2, -, i4, -, -, i7⟩ := en_minfo hu
  have hM := hs l ad cd D cs H.size (fun v hv => en_ok_0 (I.2.2.2.2.1 v (by rw [h2]; exact List.mem_append_left _ (List.mem_reverse.mpr hv))) (hr.2 v hv))
  have hcat := en_sum_eq ad cd r
  have hroom : (en_rm h' b').frames + 1 ≤ R.frames ∧ 8 + ((en_m f).2.2.1 + 11) + (en_rm h' b').locals ≤ R.locals := ⟨by show h' + 1 ≤ _; omega, by show 8 + ((en_m f).2.2.1 + 11) + 64 * h' ≤ _; omega⟩
  have hfit : 37 * (bu0 - bu) + 37 * b' ≤ R.cells ∧ 932 * (bu0 - bu) + 932 * b' ≤ R.slots := ⟨by omega, by omega⟩
  have hstk : st.map (en_rv ad cd) = (as.map (en_rv ad cd)).reverse ++ r.map (en_rv ad cd) := by rw [h2, List.map_append, List.map_reverse]
  have hrun : va_Run p l e R s m args below meth c H locs (37 * (bu0 - bu)) (932 * (bu0 - bu)) (37 * b') (932 * b') (F0 m pc lsA (st.map (en_rv ad cd))) (r.map (en_rv ad cd)) (en_Q (fun v M' => match v with | some v => k ls (v :: r) M' (bu - b') | none => k ls r M' (bu - b')) ad cd D cs M H.size (as.map (en_rv ad cd)).toArray) (va_A (en_wd ad cs M) H.size) := by
    rcases hl with ⟨-, hl⟩ | ⟨-, hl⟩
    · exact va_runS (n := n) ⟨X.1, X.2.1, X.2.2.1, X.2.2.2.1, X.2.2.2.2.1⟩ hM ⟨callB_of n X.2.2.2.2.1 (en_good hu) rfl rfl rfl (X.2.2.2.2.1 _ i1) (X.2.2.2.2.1 _ hl) ⟨i4.1, i4.2.1, by rw [i4.2.2, hn]⟩ hroom, X.2.2.2.2.1 _ (i2 hst)⟩ ⟨en_blind _ _ _ _ _ _ _, fun U hU hW => ⟨rfl, I.wd X hU hW⟩⟩ rfl (by rw [List.length_map]; exact h3) I.1 hstk (lv_room (by rw [hcat]; exact hr.1)) hdg hfit
    · exact va_runSN (n := n) ⟨X.1, X.2.1, X.2.2.1, X.2.2.2.1, X.2.2.2.2.1⟩ hM ⟨va_cnB n X.2.2.2.2.1 (en_good hu) rfl rfl rfl (X.2.2.2.2.2.2.1.2.2.2.2.2 _ hl) (X.2.2.2.2.1 _ i1) ⟨i4.1, i4.2.1, by rw [i4.2.2, hn]⟩ hroom, X.2.2.2.2.1 _ (i2 hst), trivial⟩ ⟨en_blind _ _ _ _ _ _ _, fun U hU hW => ⟨rfl, I.wd X hU hW⟩⟩ rfl (by rw [List.length_map]; exact h3) I.1 hstk (lv_room (by rw [hcat]; exact hr.1)) hdg hfit
  refine en_call I.2.2.2.2.2.2.2.1 (I.sub X) hrun (fun v M' ad' H1 locs1 hp hok hag hP hD hS => ?_)
  obtain ⟨I', he⟩ := I.back (r := r) (fun w hw => by rw [h2]; exact List.mem_append_right _ hw) hok hag hP hD hS
  rw [he, show 37 * (bu0 - bu) + 37 * b' = 37 * (bu0 - (bu - b')) by omega, show 932 * (bu0 - bu) + 932 * b' = 932 * (bu0 - (bu - b')) by omega]
  cases v with
  | none => exact hk _ _ _ _ hp (by omega) ad' H1 locs1 lsA I'
  | some v => exact hk _ _ _ _ hp (by omega) ad' H1 locs1 lsA I'
theorem en_s_callv (X : en_Fx p R s m args c cc own nL h bu0 A cd D cs sc) {o i j f n nz h' b' cl : Nat} {v0 : AV} {as : List AV} (ho : en_cn.getD o "" = own) (hj : en_mlk[j]? = some (o, i, f, nz)) (hst : (en_m f).2.2.2.2.2.1 = false) (hn : (en_m f).2.2.2.2.1 + 1 = n) (hpop : en_pop n [] st = some (v0 :: as, r)) (hr : (Nat.ble (en_sum r) 8 && (Nat.beq (en_m f).2.2.2.2.2.2 cl && as.all en_n9)) = true) (h9 : en_n9 v0 = true)
    (hv0 : ∀ (ad : Nat → Nat) (H : Heap) (locs : List Loc), en_ok sc.1 M v0 → va_P D vwCl (en_wd ad cs M) H → va_S A s.heap H locs → ∃ b, en_rv ad cd v0 = .ref b ∧ ∃ cell : Cell, H[b]? = some cell ∧ cell.vm.isStatics = false ∧ s.vm.findClass (en_m f).1.cls = some cell.cls)
    (hh' : h' < h) (hbu : b' ≤ bu) (hdg : decode cc pc = .ok (.invokevirtual i, 3)) (hk : ∀ ls st M bu, k ls st M bu → en_At p l e R s m args below meth c Q nL A cd D cs ad0 M0 sc.1 bu0 (pc + 3) ls st M bu)
    (hs : en_Ct h' b' f (v0 :: as) M (fun v M' => match v with | some v => k ls (v :: r) M' (bu - b') | none => k ls r M' (bu - b'))) : en_At p l e R s m args below meth c Q nL A cd D cs ad0 M0 sc.1 bu0 pc ls st M bu := by
  intro hb ad H locs lsA I
  obtain ⟨as', h1, h2, h3⟩ := en_pop_eq n [] st (v0 :: as) r hpop
  rw [List.append_nil] at h1
  subst h1
  simp only [Bool.and_eq_true, Nat.ble_eq, List.all_eq_true] at hr
  obtain ⟨f1, f2, f3, f4⟩ := X.2.2.2.2.2.2.2.1
  obtain ⟨hu, hl⟩ := en_link_M hj
  rw [ho] at hl
  obtain ⟨i1, -, i3, i4, -, -, i7⟩ := en_minfo hu
  have hM := hs l ad cd D cs H.size (fun v hv => en_ok_0 (I.2.2.2.2.1 v (by rw [h2]; exact List.mem_append_left _ (List.mem_reverse.mpr hv))) (by
    rcases List.mem_cons.mp hv with rfl | hv
    · exact h9
    · exact hr.2.2 v hv))
  obtain ⟨b, hbv, hcell⟩ := hv0 ad H locs (I.2.2.2.2.1 v0 (by rw [h2]; exact List.mem_append_left _ (List.mem_reverse.mpr List.mem_cons_self))) I.2.2.2.2.2.1 I.2.2.2.2.2.2.2.1
  rw [List.map_cons, hbv] at hM
  have hcat := en_sum_eq ad cd r
  have hroom : (en_rm h' b').frames + 1 ≤ R.frames ∧ 8 + ((en_m f).2.2.1 + 11) + (en_rm h' b').locals ≤ R.locals := ⟨by show h' + 1 ≤ _; omega, by show 8 + ((en_m f).2.2.1 + 11) + 64 * h' ≤ _; omega⟩
  have hfit : 37 * (bu0 - bu) + 37 * b' ≤ R.cells ∧ 932 * (bu0 - bu) + 932 * b' ≤ R.slots := ⟨by omega, by omega⟩
  have hstk : st.map (en_rv ad cd) = (as.map (en_rv ad cd)).reverse ++ .ref b :: r.map (en_rv ad cd) := by rw [h2, List.map_append, List.map_reverse, List.map_cons, hbv]; simp
  have hlen : (as.map (en_rv ad cd)).length = (en_m f).2.2.2.2.1 := by
    rw [List.length_map]
    simp only [List.length_cons] at h3
    omega
  have hrun : va_Run p l e R s m args below meth c H locs (37 * (bu0 - bu)) (932 * (bu0 - bu)) (37 * b') (932 * b') (F0 m pc lsA (st.map (en_rv ad cd))) (r.map (en_rv ad cd)) (en_Q (fun v M' => match v with | some v => k ls (v :: r) M' (bu - b') | none => k ls r M' (bu - b')) ad cd D cs M H.size (Value.ref b :: as.map (en_rv ad cd)).toArray) (va_A (en_wd ad cs M) H.size) := by
    rcases hl with ⟨-, hl⟩ | ⟨-, hl⟩
    · exact va_runV (n := (en_m f).2.2.2.2.1) ⟨X.1, X.2.1, X.2.2.1, X.2.2.2.1, X.2.2.2.2.1⟩ hM ⟨callB_of _ X.2.2.2.2.1 (en_good hu) rfl rfl rfl (X.2.2.2.2.1 _ i1) (X.2.2.2.2.1 _ hl) i4 hroom, X.2.2.2.2.1 _ (i3 hst).1, X.2.2.2.2.1 _ (i3 hst).2⟩ ⟨en_blind _ _ _ _ _ _ _, hcell, fun U hU hW => ⟨rfl, I.wd X hU hW⟩⟩ rfl hlen I.1 hstk (lv_room (by rw [hcat]; exact hr.1)) hdg hfit
    · exact va_runVN (n := (en_m f).2.2.2.2.1) ⟨X.1, X.2.1, X.2.2.1, X.2.2.2.1, X.2.2.2.2.1⟩ hM ⟨va_cnB _ X.2.2.2.2.1 (en_good hu) rfl rfl rfl (X.2.2.2.2.2.2.1.2.2.2.2.2 _ hl) (X.2.2.2.2.1 _ i1) i4 hroom, X.2.2.2.2.1 _ (i3 hst).1, X.2.2.2.2.1 _ (i3 hst).2⟩ ⟨en_blind _ _ _ _ _ _ _, hcell, fun U hU hW => ⟨rfl, I.wd X hU hW⟩⟩ rfl hlen I.1 hstk (lv_room (by rw [hcat]; exact hr.1)) hdg hfit
  refine en_call I.2.2.2.2.2.2.2.1 (I.sub X) hrun (fun v M' ad' H1 locs1 hp hok hag hP hD hS => ?_)
  obtain ⟨I', he⟩ := I.back (r := r) (fun w hw => by rw [h2]; exact List.mem_append_right _ hw) hok hag hP hD hS
  rw [he, show 37 * (bu0 - bu) + 37 * b' = 37 * (bu0 - (bu - b')) by omega, show 932 * (bu0 - bu) + 932 * b' = 932 * (bu0 - (bu - b')) by omega]
  cases v with
  | none => exact hk _ _ _ _ hp (by omega) ad' H1 locs1 lsA I'
  | some v => exact hk _ _ _ _ hp (by omega) ad' H1 locs1 lsA I'
/-- the receiver of a call: an object of the block -/
theorem en_rcv1 {f cl a : Nat} (X : en_Fx p R s m args c cc own nL h bu0 A cd D cs sc) (hf : en_used.contains f = true) (hcl : Nat.beq (en_m f).2.2.2.2.2.2 cl = true) : ∀ (ad : Nat → Nat) (H : Heap) (locs : List Loc), en_ok sc.1 M (.inr (.inr (1, cl, a))) → va_P D vwCl (en_wd ad cs M) H → va_S A s.heap H locs → ∃ b, en_rv ad cd (.inr (.inr (1, cl, a))) = .ref b ∧ ∃ cell : Cell, H[b]? = some cell ∧ cell.vm.isStatics = false ∧ s.vm.findClass (en_m f).1.cls = some cell.cls := by
  intro ad H locs hok hP hS
  obtain ⟨hl, ha⟩ := en_ok_ref hok (by decide) (by decide)
  obtain ⟨i0, hi0, hi1⟩ := en_wd_at (ad := ad) (cs := cs) ha
  have hce : en_cell ad cs M a = .inr (cl, en_fs ad M a cl) := by
    unfold en_cell
    rw [en_layD hl]
    rfl
  rw [hce] at hi1
  have hc7 : cl < 7 := by
    have hc := en_chk_at (en_pl_lt ha)
    unfold en_chk at hc
    rw [en_layD hl] at hc
    simp only [Bool.and_eq_true, decide_eq_true_eq] at hc
    cases hv : vwCl[cl]? with
    | none => rw [hv] at hc; cases hc.2
    | some q => exact (List.getElem?_eq_some_iff.mp hv).1
  have hcl2 := Nat.eq_of_beq_eq_true hcl
  obtain ⟨-, -, -, -, -, i6, -⟩ := en_minfo hf
  rw [hcl2] at i6
  have hq : ∃ q : vw_C, vwCl[cl]? = some q ∧ q.1 = (en_m f).1.cls := by
    have key : ∀ n, n < 7 → (vwCl[n]?).map (fun q => q.1) = en_cn[n]? := by decide +kernel
    have := key cl hc7
    rw [i6] at this
    cases hv : vwCl[cl]? with
    | none => rw [hv] at this; cases this
    | some q => rw [hv] at this; exact ⟨q, rfl, Option.some.inj this⟩
  obtain ⟨q, hq1, hq2⟩ := hq
  obtain ⟨cell, g1, g2, g3⟩ := va_recv X.2.2.2.2.2.1 hP hq1 hi1
  exact ⟨ad a, rfl, cell, g1, g2, by rw [← hq2]; exact g3⟩
theorem en_rcv7 {f n a : Nat} (X : en_Fx p R s m args c cc own nL h bu0 A cd D cs sc) (hf : en_used.contains f = true) (hcl : Nat.beq (en_m f).2.2.2.2.2.2 10 = true) : ∀ (ad : Nat → Nat) (H : Heap) (locs : List Loc), en_ok sc.1 M (.inr (.inr (7, n, a))) → va_P D vwCl (en_wd ad cs M) H → va_S A s.heap H locs → ∃ b, en_rv ad cd (.inr (.inr (7, n, a))) = .ref b ∧ ∃ cell : Cell, H[b]? = some cell ∧ cell.vm.isStatics = false ∧ s.vm.findClass (en_m f).1.cls = some cell.cls := by
  intro ad H locs hok hP hS
  have hn := en_ok7 hok
  obtain ⟨-, -, -, -, -, i6, -⟩ := en_minfo hf
  rw [Nat.eq_of_beq_eq_true hcl] at i6
  have e : (en_m f).1.cls = "java/lang/String" := (Option.some.inj i6).symm
  rw [e]
  exact ⟨cd 7 n, rfl, vk_recv X.2.2.2.2.2.2.1.2.2.2.2.1 hn hS⟩
end EN5
end
section
/-! a stretch of instructions, a method, a contract -/
def en_len : Instr → Nat
  | .bipush _ => 2
  | .sipush _ => 3
  | .ldc _ => 2
  | .ldc_w _ => 3
  | .ldc2_w _ => 3
  | .iload _ => 2
  | .aload _ => 2
  | .lload _ => 2
  | .istore _ => 2
  | .astore _ => 2
  | .iinc _ _ => 3
  | .goto _ => 3
  | .ifCond _ _ => 3
  | .if_icmp _ _ => 3
  | .ifnonnull _ => 3
  | .getfield _ => 3
  | .putfield _ => 3
  | .getstatic _ => 3
  | .invokestatic _ => 3
  | .invokevirtual _ => 3
  | _ => 1
/-- what is asked of an instruction's links -/
def en_lk (o pc : Nat) : AI → Bool
  | (.bipush n, _) => decide ((Int8.ofInt n).toInt32 = Int32.ofInt n)
  | (.sipush n, _) => decide ((Int16.ofInt n).toInt32 = Int32.ofInt n)
  | (.ldc j, 0, _, v, _) => decide (Cond.constant (en_cn.getD o "") j (Int32.ofInt v) ∈ lw_tbl)
  | (.ldc j, _, n, _, _) => decide ((o, j, n) ∈ en_sr)
  | (.ldc_w j, _, _, v, _) => decide (Cond.constant (en_cn.getD o "") j (Int32.ofInt v) ∈ lw_tbl)
  | (.ldc2_w j, _, _, v, _) => decide (Cond.constantLong (en_cn.getD o "") j (Int64.ofInt v) ∈ lw_tbl)
  | (.getfield j, c, s, _, ts) => (match Nat.beq 100 c with
      | true => (match s with | 0 => decide (Cond.fieldLink (en_cn.getD o "") j "java/lang/String" "value" "[B" ∈ lw_tbl) | _ => decide (Cond.fieldLink (en_cn.getD o "") j "java/lang/String" "coder" "B" ∈ lw_tbl))
      | false => decide (en_flk[ts.getD 0 0]? = some (o, j, c, s)))
  | (.putfield j, c, s, _, ts) => decide (en_flk[ts.getD 0 0]? = some (o, j, c, s))
  | (.getstatic j, 4, _, _, _) => decide (Cond.fieldLink (en_cn.getD o "") j "java/lang/String" "COMPACT_STRINGS" "Z" ∈ lw_tbl)
  | (.getstatic j, 5, _, _, _) => decide (Cond.fieldLink (en_cn.getD o "") j "jdk/internal/util/Preconditions" "SIOOBE_FORMATTER" "Ljava/util/function/BiFunction;" ∈ lw_tbl)
  | (.getstatic j, n, 0, _, _) => decide (Cond.fieldLink (en_cn.getD o "") j "TownRiverBeast" (en_sn.getD n "") "[I" ∈ lw_tbl)
  | (.getstatic j, n, _, _, _) => decide (Cond.fieldLinkNest (en_cn.getD o "") j "TownRiverBeast" (en_sn.getD n "") "[I" "TownRiverBeast" ∈ en_nest)
  | (.invokestatic j, x, n, _, ts) => (match Nat.ble 1000 x with
      | true => decide (en_xlk[ts.getD 0 0]? = some (o, j, x))
      | false => (match en_mlk[ts.getD 0 0]? with | some (o', j', x', _) => decide (o' = o ∧ j' = j ∧ x' = x) | none => false) && ((en_m x).2.2.2.2.2.1 && decide ((en_m x).2.2.2.2.1 = n)))
  | (.invokevirtual j, x, n, _, ts) => (match en_mlk[ts.getD 0 0]? with | some (o', j', x', _) => decide (o' = o ∧ j' = j ∧ x' = x) | none => false) && (!(en_m x).2.2.2.2.2.1 && decide ((en_m x).2.2.2.2.1 + 1 = n))
  | (.goto off, _, _, _, ts) => decide ((pc : Int) + off = ((ts.getD 0 0 : Nat) : Int))
  | (.ifCond _ off, _, _, _, ts) => decide ((pc : Int) + off = ((ts.getD 0 0 : Nat) : Int))
  | (.if_icmp _ off, _, _, _, ts) => decide ((pc : Int) + off = ((ts.getD 0 0 : Nat) : Int))
  | (.ifnonnull off, _, _, _, ts) => decide ((pc : Int) + off = ((ts.getD 0 0 : Nat) : Int))
  | (.tableswitch d lo hi offs, _, _, _, ts) => decide ((pc : Int) + d = ((ts.getD 0 0 : Nat) : Int)) && (en_tbok pc offs.toList (ts.drop 1) && decide (hi = lo + (ts.drop 1).length - 1))
  | _ => true
def en_okB (o : Nat) (cc : ByteArray) : Nat → List AI → Bool
  | _, [] => true
  | pc, (.nop, t, _) :: _ => decide (t = pc)
  | pc, (.tableswitch d lo hi offs, x) :: _ => (match decode cc pc with | .ok (j, _) => decide (j = .tableswitch d lo hi offs) | _ => false) && en_lk o pc (.tableswitch d lo hi offs, x)
  | pc, i :: is => decide (decode cc pc = .ok (i.1, en_len i.1)) && (en_lk o pc i && en_okB o cc (pc + en_len i.1) is)
theorem en_okB_cons {o pc : Nat} {cc : ByteArray} {ins : Instr} {x y : Nat} {v : Int} {ts : List Nat} {is : List AI} (h : en_okB o cc pc ((ins, x, y, v, ts) :: is) = true) (h1 : ∀ d lo hi offs, ins ≠ .tableswitch d lo hi offs) (h2 : ins ≠ .nop) : decode cc pc = .ok (ins, en_len ins) ∧ en_lk o pc (ins, x, y, v, ts) = true ∧ en_okB o cc (pc + en_len ins) is = true := by
  cases ins <;> first | exact absurd rfl h2 | exact absurd rfl (h1 _ _ _ _) | (simp only [en_okB, Bool.and_eq_true, decide_eq_true_eq] at h; exact h)
section EN6
variable {p : Program} {l : Launch} {e : Env} {R : Room} {s : State} {m : MethodId} {args : Array Value} {below : List Frame} {meth : Method} {c : Code} {Q : State → Prop} {cc : ByteArray} {own : String} {nL h bu0 : Nat} {A : Nat → Prop} {cd : Nat → Nat → Nat} {D : va_G} {cs : Nat → ClassId} {sc : Nat × (Nat → Int)} {ad0 : Nat → Nat} {M0 : Mm} {K : Nat → AK}
def en_isR : Instr → Bool
  | .ireturn => true
  | .lreturn => true
  | .areturn => true
  | .return_ => true
  | _ => false
theorem en_al {v : AV} {c' n a : Nat} (h : v = .inr (.inr (c', n, a))) (h1 : 1 ≤ c') (h2 : c' ≤ 9) : ∀ ad, ∃ x, en_rv ad cd v = .ref x := by
  intro ad
  subst h
  match c', h1, h2 with
  | 1, _, _ => exact ⟨_, rfl⟩
  | 2, _, _ => exact ⟨_, rfl⟩
  | 3, _, _ => exact ⟨_, rfl⟩
  | 4, _, _ => exact ⟨_, rfl⟩
  | 5, _, _ => exact ⟨_, rfl⟩
  | 6, _, _ => exact ⟨_, rfl⟩
  | 7, _, _ => exact ⟨_, rfl⟩
  | 8, _, _ => exact ⟨_, rfl⟩
  | 9, _, _ => exact ⟨_, rfl⟩
set_option maxHeartbeats 4000000 in
theorem en_sound {o : Nat} {rt : Option FieldType} {post : Option AV → Mm → Prop} (X : en_Fx p R s m args c cc own nL h bu0 A cd D cs sc) (ho : en_cn.getD o "" = own) (hK : ∀ t ls st M bu, K t ls st M bu → en_At p l e R s m args below meth c Q nL A cd D cs ad0 M0 sc.1 bu0 t ls st M bu)
    (hR : ∀ (i : AI) (pc : Nat) (ls : AL) (st : List AV) (M : Mm) (bu : Nat), en_isR i.1 = true → decode cc pc = .ok (i.1, 1) → en_st h rt sc K post i (fun _ _ _ _ => False) ls st M bu → en_At p l e R s m args below meth c Q nL A cd D cs ad0 M0 sc.1 bu0 pc ls st M bu) :
    ∀ (is : List AI) (pc : Nat) (ls : AL) (st : List AV) (M : Mm) (bu : Nat), en_okB o cc pc is = true → en_vc h rt sc K post is ls st M bu → en_At p l e R s m args below meth c Q nL A cd D cs ad0 M0 sc.1 bu0 pc ls st M bu := by
  subst ho
  intro is
  induction is with
  | nil => intro pc ls st M bu _ hs; exact hs.elim
  | cons i is ih =>
    intro pc ls st M bu hok hs
    obtain ⟨ins, x, y, v, ts⟩ := i
    cases ins
    case nop =>
      have ht : x = pc := of_decide_eq_true hok
      subst ht
      exact hK _ _ _ _ _ hs
    case tableswitch d lo hi offs =>
      simp only [en_okB, Bool.and_eq_true] at hok
      obtain ⟨h1, h2⟩ := hok
      simp only [en_lk, Bool.and_eq_true, decide_eq_true_eq] at h2
      cases hd : decode cc pc with
      | error z => rw [hd] at h1; cases h1
      | ok q =>
        obtain ⟨q1, q2⟩ := q
        rw [hd] at h1
        have hq : q1 = .tableswitch d lo hi offs := of_decide_eq_true h1
        subst hq
        dsimp only [en_vc, en_st] at hs
        split at hs
        · exact en_s_sw X h2.1 h2.2.1 h2.2.2 hd hK hs
        · exact hs.elim
    all_goals (first | exact False.elim hs | skip)
    all_goals (obtain ⟨hdg, hlk, hok'⟩ := en_okB_cons hok (by intros; exact fun q => by cases q) (fun q => by cases q))
    all_goals (have hk := fun ls st M bu => ih _ ls st M bu hok')
    case iconst n => exact en_s_iconst X hdg hk hs
    case bipush n => exact en_s_bipush X hdg (of_decide_eq_true hlk) hk hs
    case sipush n => exact en_s_sipush X hdg (of_decide_eq_true hlk) hk hs
    case lconst n => exact en_s_lconst X hdg hk hs
    case ldc j =>
      cases x with
      | zero =>
        simp only [en_lk, decide_eq_true_eq] at hlk
        exact en_s_ldc X (List.mem_filter.mpr ⟨hlk, rfl⟩) hdg hk hs
      | succ x =>
        obtain ⟨hn, hs⟩ := en_if_t hs
        simp only [en_lk, decide_eq_true_eq] at hlk
        exact en_s_ldcS X rfl hlk (Nat.le_of_ble_eq_true hn) hdg hk hs
    case ldc_w j =>
      simp only [en_lk, decide_eq_true_eq] at hlk
      exact en_s_ldcw X (List.mem_filter.mpr ⟨hlk, rfl⟩) hdg hk hs
    case ldc2_w j =>
      simp only [en_lk, decide_eq_true_eq] at hlk
      exact en_s_ldc2 X (List.mem_filter.mpr ⟨hlk, rfl⟩) hdg hk hs
    case iload_n j =>
      obtain ⟨w, h1, hs⟩ := en_ld_get hs
      obtain x | x | x := w
      · exact en_s_iload_n X hdg hk ⟨x, rfl⟩ h1 hs
      · exact hs.elim
      · exact hs.elim
    case iload j =>
      obtain ⟨w, h1, hs⟩ := en_ld_get hs
      obtain x | x | x := w
      · exact en_s_iload X hdg hk ⟨x, rfl⟩ h1 hs
      · exact hs.elim
      · exact hs.elim
    case lload_n j =>
      obtain ⟨w, h1, hs⟩ := en_ld_get hs
      obtain x | x | x := w
      · exact hs.elim
      · exact en_s_lload_n X hdg hk ⟨x, rfl⟩ h1 hs
      · exact hs.elim
    case lload j =>
      obtain ⟨w, h1, hs⟩ := en_ld_get hs
      obtain x | x | x := w
      · exact hs.elim
      · exact en_s_lload X hdg hk ⟨x, rfl⟩ h1 hs
      · exact hs.elim
    case aload_n j =>
      obtain ⟨w, h1, hs⟩ := en_ld_get hs
      obtain x | x | ⟨a, b, d⟩ := w
      · exact hs.elim
      · exact hs.elim
      · obtain ⟨hb, hs⟩ := en_if_t hs
        simp only [Bool.and_eq_true, Nat.ble_eq] at hb
        exact en_s_aload_n X hdg hk (en_al rfl hb.1 hb.2) h1 hs
    case aload j =>
      obtain ⟨w, h1, hs⟩ := en_ld_get hs
      obtain x | x | ⟨a, b, d⟩ := w
      · exact hs.elim
      · exact hs.elim
      · obtain ⟨hb, hs⟩ := en_if_t hs
        simp only [Bool.and_eq_true, Nat.ble_eq] at hb
        exact en_s_aload X hdg hk (en_al rfl hb.1 hb.2) h1 hs
    case istore_n j =>
      dsimp only [en_vc, en_st] at hs
      split at hs
      · obtain ⟨hb, hs⟩ := en_if_t hs
        exact en_s_istore_n X hdg hk hb hs
      · exact hs.elim
    case istore j =>
      dsimp only [en_vc, en_st] at hs
      split at hs
      · obtain ⟨hb, hs⟩ := en_if_t hs
        exact en_s_istore X hdg hk hb hs
      · exact hs.elim
    case astore_n j =>
      dsimp only [en_vc, en_st] at hs
      split at hs
      · obtain ⟨hb, hs⟩ := en_if_t hs
        exact en_s_astore_n X (en_al rfl (by decide) (by decide)) hdg hk hb hs
      · obtain ⟨hb, hs⟩ := en_if_t hs
        exact en_s_astore_n X (en_al rfl (by decide) (by decide)) hdg hk hb hs
      · exact hs.elim
    case astore j =>
      dsimp only [en_vc, en_st] at hs
      split at hs
      · obtain ⟨hb, hs⟩ := en_if_t hs
        exact en_s_astore X (en_al rfl (by decide) (by decide)) hdg hk hb hs
      · obtain ⟨hb, hs⟩ := en_if_t hs
        exact en_s_astore X (en_al rfl (by decide) (by decide)) hdg hk hb hs
      · exact hs.elim
    case iinc j n =>
      obtain ⟨w, h1, hs⟩ := en_ld_get hs
      obtain x | x | x := w
      · obtain ⟨hb, hs⟩ := en_if_t hs
        exact en_s_iinc X hdg hk h1 hb hs
      · exact hs.elim
      · exact hs.elim
    case iadd =>
      dsimp only [en_vc, en_st] at hs
      split at hs
      · exact en_s_iadd X hdg hk hs
      · exact hs.elim
    case isub =>
      dsimp only [en_vc, en_st] at hs
      split at hs
      · exact en_s_isub X hdg hk hs
      · exact hs.elim
    case imul =>
      dsimp only [en_vc, en_st] at hs
      split at hs
      · exact en_s_imul X hdg hk hs
      · exact hs.elim
    case iand =>
      dsimp only [en_vc, en_st] at hs
      split at hs
      · exact en_s_iand X hdg hk hs
      · exact hs.elim
    case ior =>
      dsimp only [en_vc, en_st] at hs
      split at hs
      · exact en_s_ior X hdg hk hs
      · exact hs.elim
    case ixor =>
      dsimp only [en_vc, en_st] at hs
      split at hs
      · exact en_s_ixor X hdg hk hs
      · exact hs.elim
    case ishl =>
      dsimp only [en_vc, en_st] at hs
      split at hs
      · exact en_s_ishl X hdg hk hs
      · exact hs.elim
    case ishr =>
      dsimp only [en_vc, en_st] at hs
      split at hs
      · exact en_s_ishr X hdg hk hs
      · exact hs.elim
    case iushr =>
      dsimp only [en_vc, en_st] at hs
      split at hs
      · exact en_s_iushr X hdg hk hs
      · exact hs.elim
    case ineg =>
      dsimp only [en_vc, en_st] at hs
      split at hs
      · exact en_s_ineg X hdg hk hs
      · exact hs.elim
    case i2l =>
      dsimp only [en_vc, en_st] at hs
      split at hs
      · exact en_s_i2l X hdg hk hs
      · exact hs.elim
    case l2i =>
      dsimp only [en_vc, en_st] at hs
      split at hs
      · exact en_s_l2i X hdg hk hs
      · exact hs.elim
    case i2b =>
      dsimp only [en_vc, en_st] at hs
      split at hs
      · exact en_s_i2b X hdg hk hs
      · exact hs.elim
    case i2s =>
      dsimp only [en_vc, en_st] at hs
      split at hs
      · exact en_s_i2s X hdg hk hs
      · exact hs.elim
    case i2c =>
      dsimp only [en_vc, en_st] at hs
      split at hs
      · exact en_s_i2c X hdg hk hs
      · exact hs.elim
    case lshl =>
      dsimp only [en_vc, en_st] at hs
      split at hs
      · exact en_s_lshl X hdg hk hs
      · exact hs.elim
    case lor =>
      dsimp only [en_vc, en_st] at hs
      split at hs
      · exact en_s_lor X hdg hk hs
      · exact hs.elim
    case land =>
      dsimp only [en_vc, en_st] at hs
      split at hs
      · exact en_s_land X hdg hk hs
      · exact hs.elim
    case lcmp =>
      dsimp only [en_vc, en_st] at hs
      split at hs
      · exact en_s_lcmp X hdg hk hs
      · exact hs.elim
    case idiv =>
      dsimp only [en_vc, en_st] at hs
      split at hs
      · exact en_s_idiv X hs.1 hdg hk hs.2
      · exact hs.elim
    case irem =>
      dsimp only [en_vc, en_st] at hs
      split at hs
      · exact en_s_irem X hs.1 hdg hk hs.2
      · exact hs.elim
    case dup =>
      dsimp only [en_vc, en_st] at hs
      split at hs
      · obtain ⟨hb, hs⟩ := en_if_t hs
        exact en_s_dup X hb hdg hk hs
      · exact hs.elim
    case pop =>
      dsimp only [en_vc, en_st] at hs
      split at hs
      · obtain ⟨hb, hs⟩ := en_if_t hs
        exact en_s_pop X hb hdg hk hs
      · exact hs.elim
    case dup_x1 =>
      dsimp only [en_vc, en_st] at hs
      split at hs
      · obtain ⟨hb, hs⟩ := en_if_t hs
        simp only [Bool.and_eq_true] at hb
        exact en_s_dup_x1 X hb.1 hb.2 hdg hk hs
      · exact hs.elim
    case dup2 =>
      dsimp only [en_vc, en_st] at hs
      split at hs
      · obtain ⟨hb, hs⟩ := en_if_t hs
        simp only [Bool.and_eq_true] at hb
        exact en_s_dup2 X hb.1 hb.2 hdg hk hs
      · exact hs.elim
    case dup_x2 =>
      dsimp only [en_vc, en_st] at hs
      split at hs
      · obtain ⟨hb, hs⟩ := en_if_t hs
        simp only [Bool.and_eq_true] at hb
        exact en_s_dup_x2 X hb.1 hb.2.1 hb.2.2 hdg hk hs
      · exact hs.elim
    case goto off =>
      simp only [en_lk, decide_eq_true_eq] at hlk
      exact en_s_goto X hlk hdg hK hs
    case ifCond cn off =>
      simp only [en_lk, decide_eq_true_eq] at hlk
      dsimp only [en_vc, en_st] at hs
      split at hs
      · exact en_s_if X hlk hdg hk hK hs
      · exact hs.elim
    case if_icmp cn off =>
      simp only [en_lk, decide_eq_true_eq] at hlk
      dsimp only [en_vc, en_st] at hs
      split at hs
      · exact en_s_icmp X hlk hdg hk hK hs
      · exact hs.elim
    case ifnonnull off =>
      simp only [en_lk, decide_eq_true_eq] at hlk
      dsimp only [en_vc, en_st] at hs
      split at hs
      · exact en_s_nnN X hdg hk hs
      · exact en_s_nn X hlk hdg hK hs
      · exact hs.elim
    case getfield j =>
      dsimp only [en_vc, en_st] at hs
      split at hs
      · obtain ⟨hb, hs⟩ := en_if_t hs
        have hb := Nat.eq_of_beq_eq_true hb
        subst hb
        rename_i c' a r z
        cases h100 : Nat.beq 100 c' with
        | true =>
          have h100 := Nat.eq_of_beq_eq_true h100
          subst h100
          exact False.elim hs
        | false =>
          simp only [en_lk, h100, decide_eq_true_eq] at hlk
          exact en_s_getf X rfl hlk hdg hk hs
      · obtain ⟨hb, hs⟩ := en_if_t hs
        have hb := Nat.eq_of_beq_eq_true hb
        subst hb
        cases y with
        | zero =>
          simp only [en_lk, Nat.beq_refl, decide_eq_true_eq] at hlk
          exact en_s_gval X (List.mem_filter.mpr ⟨hlk, rfl⟩) hdg hk hs
        | succ y =>
          simp only [en_lk, Nat.beq_refl, decide_eq_true_eq] at hlk
          exact en_s_gcod X (List.mem_filter.mpr ⟨hlk, rfl⟩) hdg hk hs
      · exact hs.elim
    case putfield j =>
      simp only [en_lk, decide_eq_true_eq] at hlk
      dsimp only [en_vc, en_st] at hs
      split at hs
      · obtain ⟨hb, hs⟩ := en_if_t hs
        have hb := Nat.eq_of_beq_eq_true hb
        subst hb
        exact en_s_putf X rfl hlk hdg hk hs
      · exact hs.elim
    case iaload =>
      dsimp only [en_vc, en_st] at hs
      split at hs
      · exact en_s_iald X hdg hk hs
      · exact en_s_ti X hdg hk hs
      · exact en_s_sld X hdg hk hs
      · exact hs.elim
    case baload =>
      dsimp only [en_vc, en_st] at hs
      split at hs
      · exact en_s_zald X hdg hk hs
      · exact en_s_tb X hdg hk hs
      · exact hs.elim
    case laload =>
      dsimp only [en_vc, en_st] at hs
      split at hs
      · exact en_s_lald X hdg hk hs
      · exact hs.elim
    case aaload =>
      dsimp only [en_vc, en_st] at hs
      split at hs
      · exact en_s_aald X hdg hk hs
      · exact hs.elim
    case iastore =>
      dsimp only [en_vc, en_st] at hs
      split at hs
      · exact en_s_iast X hdg hk hs
      · exact hs.elim
    case bastore =>
      dsimp only [en_vc, en_st] at hs
      split at hs
      · exact en_s_zast X hs.1 hdg hk hs.2
      · exact hs.elim
    case lastore =>
      dsimp only [en_vc, en_st] at hs
      split at hs
      · exact en_s_last X hdg hk hs
      · exact hs.elim
    case arraylength =>
      dsimp only [en_vc, en_st] at hs
      split at hs
      · exact en_s_alen X (by decide) (by decide) hdg hk hs
      · exact en_s_alen X (by decide) (by decide) hdg hk hs
      · exact en_s_alen X (by decide) (by decide) hdg hk hs
      · exact en_s_tlen X hdg hk hs
      · exact en_s_tblen X hdg hk hs
      · exact en_s_slen X hdg hk hs
      · exact hs.elim
    case ireturn => exact hR (.ireturn, x, y, v, ts) pc ls st M bu rfl hdg hs
    case lreturn => exact hR (.lreturn, x, y, v, ts) pc ls st M bu rfl hdg hs
    case areturn => exact hR (.areturn, x, y, v, ts) pc ls st M bu rfl hdg hs
    case return_ => exact hR (.return_, x, y, v, ts) pc ls st M bu rfl hdg hs
    case getstatic j =>
      match x, hlk, hs with
      | 0, hlk, hs =>
        cases y with
        | zero => simp only [en_lk, decide_eq_true_eq] at hlk; exact en_s_gets X (by decide) (List.mem_filter.mpr ⟨hlk, rfl⟩) hdg hk hs
        | succ y => simp only [en_lk, decide_eq_true_eq] at hlk; exact en_s_getsN X (by decide) hlk hdg hk hs
      | 1, hlk, hs =>
        cases y with
        | zero => simp only [en_lk, decide_eq_true_eq] at hlk; exact en_s_gets X (by decide) (List.mem_filter.mpr ⟨hlk, rfl⟩) hdg hk hs
        | succ y => simp only [en_lk, decide_eq_true_eq] at hlk; exact en_s_getsN X (by decide) hlk hdg hk hs
      | 2, hlk, hs =>
        cases y with
        | zero => simp only [en_lk, decide_eq_true_eq] at hlk; exact en_s_gets X (by decide) (List.mem_filter.mpr ⟨hlk, rfl⟩) hdg hk hs
        | succ y => simp only [en_lk, decide_eq_true_eq] at hlk; exact en_s_getsN X (by decide) hlk hdg hk hs
      | 3, hlk, hs =>
        cases y with
        | zero => simp only [en_lk, decide_eq_true_eq] at hlk; exact en_s_gets X (by decide) (List.mem_filter.mpr ⟨hlk, rfl⟩) hdg hk hs
        | succ y => simp only [en_lk, decide_eq_true_eq] at hlk; exact en_s_getsN X (by decide) hlk hdg hk hs
      | 4, hlk, hs => simp only [en_lk, decide_eq_true_eq] at hlk; exact en_s_getsC X (List.mem_filter.mpr ⟨hlk, rfl⟩) hdg hk hs
      | 5, hlk, hs => simp only [en_lk, decide_eq_true_eq] at hlk; exact en_s_getsF X (List.mem_filter.mpr ⟨hlk, rfl⟩) hdg hk hs
      | x + 6, hlk, hs => exact False.elim hs
    case invokestatic j =>
      cases h1000 : Nat.ble 1000 x with
      | true =>
        simp only [en_lk, h1000, decide_eq_true_eq] at hlk
        dsimp only [en_vc, en_st] at hs
        rw [h1000] at hs
        dsimp only at hs
        split at hs
        · split at hs
          · obtain ⟨n', dp', sp', rfl, rfl, rfl, g1, g2, hs⟩ := hs
            obtain ⟨hb, hs⟩ := en_if_t hs
            exact en_s_cpi X rfl hlk g1 g2 hb hdg hk hs
          · obtain ⟨n', dp', sp', rfl, rfl, rfl, g1, g2, hs⟩ := hs
            obtain ⟨hb, hs⟩ := en_if_t hs
            exact en_s_cpl X rfl hlk g1 g2 hb hdg hk hs
          · exact hs.elim
        · split at hs
          · obtain ⟨hb, hs⟩ := en_if_t hs
            exact en_s_max X rfl hlk hb hdg hk hs
          · exact hs.elim
        · split at hs
          · obtain ⟨hb, hs⟩ := en_if_t hs
            exact en_s_min X rfl hlk hb hdg hk hs
          · exact hs.elim
        · exact hs.elim
      | false =>
        simp only [en_lk, h1000, Bool.and_eq_true, decide_eq_true_eq] at hlk
        obtain ⟨g1, g2, g3⟩ := hlk
        dsimp only [en_vc, en_st] at hs
        rw [h1000] at hs
        dsimp only at hs
        split at g1
        · rename_i o' j' x' nz hq
          obtain ⟨rfl, rfl, rfl⟩ := of_decide_eq_true g1
          split at hs
          · rename_i as r hpop
            obtain ⟨hb, h', b', z1, z2, hs⟩ := en_if_t hs
            exact en_s_calls X rfl hq g2 g3 hpop hb z1 z2 hdg hk hs
          · exact hs.elim
        · cases g1
    case invokevirtual j =>
      simp only [en_lk, Bool.and_eq_true, decide_eq_true_eq, Bool.not_eq_true'] at hlk
      obtain ⟨g1, g2, g3⟩ := hlk
      dsimp only [en_vc, en_st] at hs
      split at g1
      · rename_i o' j' x' nz hq
        obtain ⟨rfl, rfl, rfl⟩ := of_decide_eq_true g1
        have hu := (en_link_M hq).1
        split at hs
        · rename_i cl a as r hpop
          obtain ⟨hb, h', b', z1, z2, hs⟩ := en_if_t hs
          have hb2 := hb
          simp only [Bool.and_eq_true] at hb2
          exact en_s_callv X rfl hq g2 g3 hpop hb rfl (en_rcv1 X hu hb2.2.1) z1 z2 hdg hk hs
        · rename_i cl a as r hpop
          obtain ⟨hb, h', b', z1, z2, hs⟩ := en_if_t hs
          have hb2 := hb
          simp only [Bool.and_eq_true] at hb2
          exact en_s_callv X rfl hq g2 g3 hpop hb rfl (en_rcv7 X hu hb2.2.1) z1 z2 hdg hk hs
        · exact hs.elim
      · cases g1
end EN6
end
section
theorem xx_1 : True := trivial
end
