-- ===== PART A: goes FIRST, ahead of the names: the tables' words, and 'selects' of the private methods out of them =====
/-- a private method of a class that the tables say can be made, by its rows of tables_1 -/
def lw_okq (q : MethodName × Nat) : Prop := (q.1.cls ≠ "java/lang/invoke/MethodHandle" ∧ q.1.cls ≠ "java/lang/invoke/VarHandle") ∧ Cond.instantiable q.1.cls q.2 ∈ tables_1 ∧ Cond.privateMethod q.1 ∈ tables_1 ∧ Cond.instanceMethod q.1 ∈ tables_1
theorem lw_p0 : lw_okq (⟨"HelmHand$Tape", "addByte", "(I)V"⟩, 2) := ⟨⟨by decide +kernel, by decide +kernel⟩, List.mem_of_getElem? (i := 34) (by decide +kernel), List.mem_of_getElem? (i := 387) (by decide +kernel), List.mem_of_getElem? (i := 388) (by decide +kernel)⟩
theorem lw_p1 : lw_okq (⟨"HelmHand$Reader", "next", "()V"⟩, 12) := ⟨⟨by decide +kernel, by decide +kernel⟩, List.mem_of_getElem? (i := 233) (by decide +kernel), List.mem_of_getElem? (i := 444) (by decide +kernel), List.mem_of_getElem? (i := 445) (by decide +kernel)⟩
theorem lw_p2 : lw_okq (⟨"HelmHand$Reader", "takeLine", "(I)Z"⟩, 12) := ⟨⟨by decide +kernel, by decide +kernel⟩, List.mem_of_getElem? (i := 233) (by decide +kernel), List.mem_of_getElem? (i := 455) (by decide +kernel), List.mem_of_getElem? (i := 456) (by decide +kernel)⟩
theorem lw_p3 : lw_okq (⟨"HelmHand$Reader", "isWord", "(Ljava/lang/String;)Z"⟩, 12) := ⟨⟨by decide +kernel, by decide +kernel⟩, List.mem_of_getElem? (i := 233) (by decide +kernel), List.mem_of_getElem? (i := 460) (by decide +kernel), List.mem_of_getElem? (i := 461) (by decide +kernel)⟩
theorem lw_p4 : lw_okq (⟨"HelmHand$Reader", "takeSeas", "()Z"⟩, 12) := ⟨⟨by decide +kernel, by decide +kernel⟩, List.mem_of_getElem? (i := 233) (by decide +kernel), List.mem_of_getElem? (i := 512) (by decide +kernel), List.mem_of_getElem? (i := 513) (by decide +kernel)⟩
theorem lw_p5 : lw_okq (⟨"HelmHand$Reader", "goesOnWithNumber", "()Z"⟩, 12) := ⟨⟨by decide +kernel, by decide +kernel⟩, List.mem_of_getElem? (i := 233) (by decide +kernel), List.mem_of_getElem? (i := 516) (by decide +kernel), List.mem_of_getElem? (i := 517) (by decide +kernel)⟩
theorem lw_p6 : lw_okq (⟨"HelmHand$Reader", "takeNumber", "(ZII)Z"⟩, 12) := ⟨⟨by decide +kernel, by decide +kernel⟩, List.mem_of_getElem? (i := 233) (by decide +kernel), List.mem_of_getElem? (i := 520) (by decide +kernel), List.mem_of_getElem? (i := 521) (by decide +kernel)⟩
theorem lw_p7 : lw_okq (⟨"HelmHand$Reader", "note", "(II)V"⟩, 12) := ⟨⟨by decide +kernel, by decide +kernel⟩, List.mem_of_getElem? (i := 233) (by decide +kernel), List.mem_of_getElem? (i := 524) (by decide +kernel), List.mem_of_getElem? (i := 525) (by decide +kernel)⟩
theorem lw_p8 : lw_okq (⟨"HelmHand$Reader", "takeShipNumbers", "()Z"⟩, 12) := ⟨⟨by decide +kernel, by decide +kernel⟩, List.mem_of_getElem? (i := 233) (by decide +kernel), List.mem_of_getElem? (i := 532) (by decide +kernel), List.mem_of_getElem? (i := 533) (by decide +kernel)⟩
theorem lw_p9 : lw_okq (⟨"HelmHand$Reader", "shipWord", "()I"⟩, 12) := ⟨⟨by decide +kernel, by decide +kernel⟩, List.mem_of_getElem? (i := 233) (by decide +kernel), List.mem_of_getElem? (i := 536) (by decide +kernel), List.mem_of_getElem? (i := 537) (by decide +kernel)⟩
theorem lw_p10 : lw_okq (⟨"HelmHand$Reader", "takeShipNumber", "(I)Z"⟩, 12) := ⟨⟨by decide +kernel, by decide +kernel⟩, List.mem_of_getElem? (i := 233) (by decide +kernel), List.mem_of_getElem? (i := 549) (by decide +kernel), List.mem_of_getElem? (i := 550) (by decide +kernel)⟩
theorem lw_p11 : lw_okq (⟨"HelmHand$Reader", "takeStar", "()Z"⟩, 12) := ⟨⟨by decide +kernel, by decide +kernel⟩, List.mem_of_getElem? (i := 233) (by decide +kernel), List.mem_of_getElem? (i := 565) (by decide +kernel), List.mem_of_getElem? (i := 566) (by decide +kernel)⟩
theorem lw_p12 : lw_okq (⟨"HelmHand$Reader", "takeHandNumber", "()Z"⟩, 12) := ⟨⟨by decide +kernel, by decide +kernel⟩, List.mem_of_getElem? (i := 233) (by decide +kernel), List.mem_of_getElem? (i := 574) (by decide +kernel), List.mem_of_getElem? (i := 575) (by decide +kernel)⟩
theorem lw_p13 : lw_okq (⟨"HelmHand$Reader", "handWord", "()I"⟩, 12) := ⟨⟨by decide +kernel, by decide +kernel⟩, List.mem_of_getElem? (i := 233) (by decide +kernel), List.mem_of_getElem? (i := 578) (by decide +kernel), List.mem_of_getElem? (i := 579) (by decide +kernel)⟩
theorem lw_p14 : lw_okq (⟨"HelmHand$Reader", "takeHeadings", "()Z"⟩, 12) := ⟨⟨by decide +kernel, by decide +kernel⟩, List.mem_of_getElem? (i := 233) (by decide +kernel), List.mem_of_getElem? (i := 597) (by decide +kernel), List.mem_of_getElem? (i := 598) (by decide +kernel)⟩
theorem lw_p15 : lw_okq (⟨"HelmHand$Reader", "takeMan", "()Z"⟩, 12) := ⟨⟨by decide +kernel, by decide +kernel⟩, List.mem_of_getElem? (i := 233) (by decide +kernel), List.mem_of_getElem? (i := 607) (by decide +kernel), List.mem_of_getElem? (i := 608) (by decide +kernel)⟩
def lw_privs_1 : List (MethodName × Nat) := [(⟨"HelmHand$Tape", "addByte", "(I)V"⟩, 2), (⟨"HelmHand$Reader", "next", "()V"⟩, 12), (⟨"HelmHand$Reader", "takeLine", "(I)Z"⟩, 12), (⟨"HelmHand$Reader", "isWord", "(Ljava/lang/String;)Z"⟩, 12), (⟨"HelmHand$Reader", "takeSeas", "()Z"⟩, 12), (⟨"HelmHand$Reader", "goesOnWithNumber", "()Z"⟩, 12), (⟨"HelmHand$Reader", "takeNumber", "(ZII)Z"⟩, 12), (⟨"HelmHand$Reader", "note", "(II)V"⟩, 12), (⟨"HelmHand$Reader", "takeShipNumbers", "()Z"⟩, 12), (⟨"HelmHand$Reader", "shipWord", "()I"⟩, 12), (⟨"HelmHand$Reader", "takeShipNumber", "(I)Z"⟩, 12), (⟨"HelmHand$Reader", "takeStar", "()Z"⟩, 12), (⟨"HelmHand$Reader", "takeHandNumber", "()Z"⟩, 12), (⟨"HelmHand$Reader", "handWord", "()I"⟩, 12), (⟨"HelmHand$Reader", "takeHeadings", "()Z"⟩, 12), (⟨"HelmHand$Reader", "takeMan", "()Z"⟩, 12)]
theorem lw_r1 : ∀ q ∈ lw_privs_1, lw_okq q := List.forall_mem_cons.mpr ⟨lw_p0, List.forall_mem_cons.mpr ⟨lw_p1, List.forall_mem_cons.mpr ⟨lw_p2, List.forall_mem_cons.mpr ⟨lw_p3, List.forall_mem_cons.mpr ⟨lw_p4, List.forall_mem_cons.mpr ⟨lw_p5, List.forall_mem_cons.mpr ⟨lw_p6, List.forall_mem_cons.mpr ⟨lw_p7, List.forall_mem_cons.mpr ⟨lw_p8, List.forall_mem_cons.mpr ⟨lw_p9, List.forall_mem_cons.mpr ⟨lw_p10, List.forall_mem_cons.mpr ⟨lw_p11, List.forall_mem_cons.mpr ⟨lw_p12, List.forall_mem_cons.mpr ⟨lw_p13, List.forall_mem_cons.mpr ⟨lw_p14, List.forall_mem_cons.mpr ⟨lw_p15, fun _ h => absurd h List.not_mem_nil⟩⟩⟩⟩⟩⟩⟩⟩⟩⟩⟩⟩⟩⟩⟩⟩
theorem lw_p16 : lw_okq (⟨"HelmHand$Reader", "takeSemicolon", "()Z"⟩, 12) := ⟨⟨by decide +kernel, by decide +kernel⟩, List.mem_of_getElem? (i := 233) (by decide +kernel), List.mem_of_getElem? (i := 616) (by decide +kernel), List.mem_of_getElem? (i := 617) (by decide +kernel)⟩
theorem lw_p17 : lw_okq (⟨"HelmHand$Book", "copyShip", "(LHelmHand$Ship;I)V"⟩, 11) := ⟨⟨by decide +kernel, by decide +kernel⟩, List.mem_of_getElem? (i := 28) (by decide +kernel), List.mem_of_getElem? (i := 627) (by decide +kernel), List.mem_of_getElem? (i := 628) (by decide +kernel)⟩
theorem lw_p18 : lw_okq (⟨"HelmHand$Book", "copyHand", "(LHelmHand$Hand;I)V"⟩, 11) := ⟨⟨by decide +kernel, by decide +kernel⟩, List.mem_of_getElem? (i := 28) (by decide +kernel), List.mem_of_getElem? (i := 651) (by decide +kernel), List.mem_of_getElem? (i := 652) (by decide +kernel)⟩
theorem lw_p19 : lw_okq (⟨"HelmHand$Hand", "lookStar", "(I)I"⟩, 12) := ⟨⟨by decide +kernel, by decide +kernel⟩, List.mem_of_getElem? (i := 112) (by decide +kernel), List.mem_of_getElem? (i := 667) (by decide +kernel), List.mem_of_getElem? (i := 668) (by decide +kernel)⟩
theorem lw_p20 : lw_okq (⟨"HelmHand$Book", "copyPaper", "(LHelmHand$Paper;I)V"⟩, 11) := ⟨⟨by decide +kernel, by decide +kernel⟩, List.mem_of_getElem? (i := 28) (by decide +kernel), List.mem_of_getElem? (i := 673) (by decide +kernel), List.mem_of_getElem? (i := 674) (by decide +kernel)⟩
theorem lw_p21 : lw_okq (⟨"HelmHand$Book", "copyWatch", "(LHelmHand$Watch;I)V"⟩, 11) := ⟨⟨by decide +kernel, by decide +kernel⟩, List.mem_of_getElem? (i := 28) (by decide +kernel), List.mem_of_getElem? (i := 686) (by decide +kernel), List.mem_of_getElem? (i := 687) (by decide +kernel)⟩
theorem lw_p22 : lw_okq (⟨"HelmHand", "sailed", "(IIII)Z"⟩, 7) := ⟨⟨by decide +kernel, by decide +kernel⟩, List.mem_of_getElem? (i := 20) (by decide +kernel), List.mem_of_getElem? (i := 731) (by decide +kernel), List.mem_of_getElem? (i := 732) (by decide +kernel)⟩
theorem lw_p23 : lw_okq (⟨"HelmHand$Wheel", "move", "(I)V"⟩, 9) := ⟨⟨by decide +kernel, by decide +kernel⟩, List.mem_of_getElem? (i := 293) (by decide +kernel), List.mem_of_getElem? (i := 792) (by decide +kernel), List.mem_of_getElem? (i := 793) (by decide +kernel)⟩
theorem lw_p24 : lw_okq (⟨"HelmHand$Wheel", "costAt", "(I)J"⟩, 9) := ⟨⟨by decide +kernel, by decide +kernel⟩, List.mem_of_getElem? (i := 293) (by decide +kernel), List.mem_of_getElem? (i := 815) (by decide +kernel), List.mem_of_getElem? (i := 816) (by decide +kernel)⟩
theorem lw_p25 : lw_okq (⟨"HelmHand$Wheel", "offAt", "(I)I"⟩, 9) := ⟨⟨by decide +kernel, by decide +kernel⟩, List.mem_of_getElem? (i := 293) (by decide +kernel), List.mem_of_getElem? (i := 819) (by decide +kernel), List.mem_of_getElem? (i := 820) (by decide +kernel)⟩
theorem lw_p26 : lw_okq (⟨"HelmHand$Wheel", "turnedAt", "(I)I"⟩, 9) := ⟨⟨by decide +kernel, by decide +kernel⟩, List.mem_of_getElem? (i := 293) (by decide +kernel), List.mem_of_getElem? (i := 826) (by decide +kernel), List.mem_of_getElem? (i := 827) (by decide +kernel)⟩
theorem lw_p27 : lw_okq (⟨"HelmHand$Wheel", "signAt", "(I)I"⟩, 9) := ⟨⟨by decide +kernel, by decide +kernel⟩, List.mem_of_getElem? (i := 293) (by decide +kernel), List.mem_of_getElem? (i := 854) (by decide +kernel), List.mem_of_getElem? (i := 855) (by decide +kernel)⟩
theorem lw_p28 : lw_okq (⟨"HelmHand", "ready", "(III)Z"⟩, 7) := ⟨⟨by decide +kernel, by decide +kernel⟩, List.mem_of_getElem? (i := 20) (by decide +kernel), List.mem_of_getElem? (i := 887) (by decide +kernel), List.mem_of_getElem? (i := 888) (by decide +kernel)⟩
theorem lw_p29 : lw_okq (⟨"HelmHand", "leastRule", "(LHelmHand$Paper;IIII)J"⟩, 7) := ⟨⟨by decide +kernel, by decide +kernel⟩, List.mem_of_getElem? (i := 20) (by decide +kernel), List.mem_of_getElem? (i := 897) (by decide +kernel), List.mem_of_getElem? (i := 898) (by decide +kernel)⟩
theorem lw_p30 : lw_okq (⟨"HelmHand", "trialCost", "(I)J"⟩, 7) := ⟨⟨by decide +kernel, by decide +kernel⟩, List.mem_of_getElem? (i := 20) (by decide +kernel), List.mem_of_getElem? (i := 903) (by decide +kernel), List.mem_of_getElem? (i := 904) (by decide +kernel)⟩
theorem lw_p31 : lw_okq (⟨"HelmHand", "trialApart", "(LHelmHand$Paper;)I"⟩, 7) := ⟨⟨by decide +kernel, by decide +kernel⟩, List.mem_of_getElem? (i := 20) (by decide +kernel), List.mem_of_getElem? (i := 908) (by decide +kernel), List.mem_of_getElem? (i := 909) (by decide +kernel)⟩
def lw_privs_2 : List (MethodName × Nat) := [(⟨"HelmHand$Reader", "takeSemicolon", "()Z"⟩, 12), (⟨"HelmHand$Book", "copyShip", "(LHelmHand$Ship;I)V"⟩, 11), (⟨"HelmHand$Book", "copyHand", "(LHelmHand$Hand;I)V"⟩, 11), (⟨"HelmHand$Hand", "lookStar", "(I)I"⟩, 12), (⟨"HelmHand$Book", "copyPaper", "(LHelmHand$Paper;I)V"⟩, 11), (⟨"HelmHand$Book", "copyWatch", "(LHelmHand$Watch;I)V"⟩, 11), (⟨"HelmHand", "sailed", "(IIII)Z"⟩, 7), (⟨"HelmHand$Wheel", "move", "(I)V"⟩, 9), (⟨"HelmHand$Wheel", "costAt", "(I)J"⟩, 9), (⟨"HelmHand$Wheel", "offAt", "(I)I"⟩, 9), (⟨"HelmHand$Wheel", "turnedAt", "(I)I"⟩, 9), (⟨"HelmHand$Wheel", "signAt", "(I)I"⟩, 9), (⟨"HelmHand", "ready", "(III)Z"⟩, 7), (⟨"HelmHand", "leastRule", "(LHelmHand$Paper;IIII)J"⟩, 7), (⟨"HelmHand", "trialCost", "(I)J"⟩, 7), (⟨"HelmHand", "trialApart", "(LHelmHand$Paper;)I"⟩, 7)]
theorem lw_r2 : ∀ q ∈ lw_privs_2, lw_okq q := List.forall_mem_cons.mpr ⟨lw_p16, List.forall_mem_cons.mpr ⟨lw_p17, List.forall_mem_cons.mpr ⟨lw_p18, List.forall_mem_cons.mpr ⟨lw_p19, List.forall_mem_cons.mpr ⟨lw_p20, List.forall_mem_cons.mpr ⟨lw_p21, List.forall_mem_cons.mpr ⟨lw_p22, List.forall_mem_cons.mpr ⟨lw_p23, List.forall_mem_cons.mpr ⟨lw_p24, List.forall_mem_cons.mpr ⟨lw_p25, List.forall_mem_cons.mpr ⟨lw_p26, List.forall_mem_cons.mpr ⟨lw_p27, List.forall_mem_cons.mpr ⟨lw_p28, List.forall_mem_cons.mpr ⟨lw_p29, List.forall_mem_cons.mpr ⟨lw_p30, List.forall_mem_cons.mpr ⟨lw_p31, fun _ h => absurd h List.not_mem_nil⟩⟩⟩⟩⟩⟩⟩⟩⟩⟩⟩⟩⟩⟩⟩⟩
theorem lw_p32 : lw_okq (⟨"HelmHand", "costWith", "(III)J"⟩, 7) := ⟨⟨by decide +kernel, by decide +kernel⟩, List.mem_of_getElem? (i := 20) (by decide +kernel), List.mem_of_getElem? (i := 920) (by decide +kernel), List.mem_of_getElem? (i := 921) (by decide +kernel)⟩
theorem lw_p33 : lw_okq (⟨"HelmHand", "lagged", "(IIII)Z"⟩, 7) := ⟨⟨by decide +kernel, by decide +kernel⟩, List.mem_of_getElem? (i := 20) (by decide +kernel), List.mem_of_getElem? (i := 928) (by decide +kernel), List.mem_of_getElem? (i := 929) (by decide +kernel)⟩
theorem lw_p34 : lw_okq (⟨"HelmHand", "growsWith", "(III)Z"⟩, 7) := ⟨⟨by decide +kernel, by decide +kernel⟩, List.mem_of_getElem? (i := 20) (by decide +kernel), List.mem_of_getElem? (i := 933) (by decide +kernel), List.mem_of_getElem? (i := 934) (by decide +kernel)⟩
theorem lw_p35 : lw_okq (⟨"HelmHand", "trialWidest", "(I)J"⟩, 7) := ⟨⟨by decide +kernel, by decide +kernel⟩, List.mem_of_getElem? (i := 20) (by decide +kernel), List.mem_of_getElem? (i := 951) (by decide +kernel), List.mem_of_getElem? (i := 952) (by decide +kernel)⟩
theorem lw_p36 : lw_okq (⟨"HelmHand", "leastOfThree", "(III)I"⟩, 7) := ⟨⟨by decide +kernel, by decide +kernel⟩, List.mem_of_getElem? (i := 20) (by decide +kernel), List.mem_of_getElem? (i := 996) (by decide +kernel), List.mem_of_getElem? (i := 997) (by decide +kernel)⟩
theorem lw_p37 : lw_okq (⟨"HelmHand", "learnt", "(II)I"⟩, 7) := ⟨⟨by decide +kernel, by decide +kernel⟩, List.mem_of_getElem? (i := 20) (by decide +kernel), List.mem_of_getElem? (i := 1007) (by decide +kernel), List.mem_of_getElem? (i := 1008) (by decide +kernel)⟩
theorem lw_p38 : lw_okq (⟨"HelmHand", "isManned", "(LHelmHand$Watch;)Z"⟩, 7) := ⟨⟨by decide +kernel, by decide +kernel⟩, List.mem_of_getElem? (i := 20) (by decide +kernel), List.mem_of_getElem? (i := 1015) (by decide +kernel), List.mem_of_getElem? (i := 1016) (by decide +kernel)⟩
theorem lw_p39 : lw_okq (⟨"HelmHand", "sailChanged", "(LHelmHand$Ship;LHelmHand$Hand;LHelmHand$Hand;II)V"⟩, 7) := ⟨⟨by decide +kernel, by decide +kernel⟩, List.mem_of_getElem? (i := 20) (by decide +kernel), List.mem_of_getElem? (i := 1028) (by decide +kernel), List.mem_of_getElem? (i := 1029) (by decide +kernel)⟩
theorem lw_p40 : lw_okq (⟨"HelmHand", "costInTurns", "(LHelmHand$Ship;III)J"⟩, 7) := ⟨⟨by decide +kernel, by decide +kernel⟩, List.mem_of_getElem? (i := 20) (by decide +kernel), List.mem_of_getElem? (i := 1048) (by decide +kernel), List.mem_of_getElem? (i := 1049) (by decide +kernel)⟩
theorem lw_p41 : lw_okq (⟨"HelmHand", "deadest", "(II)I"⟩, 7) := ⟨⟨by decide +kernel, by decide +kernel⟩, List.mem_of_getElem? (i := 20) (by decide +kernel), List.mem_of_getElem? (i := 1089) (by decide +kernel), List.mem_of_getElem? (i := 1090) (by decide +kernel)⟩
theorem lw_p42 : lw_okq (⟨"HelmHand", "leastGear", "(III)I"⟩, 7) := ⟨⟨by decide +kernel, by decide +kernel⟩, List.mem_of_getElem? (i := 20) (by decide +kernel), List.mem_of_getElem? (i := 1093) (by decide +kernel), List.mem_of_getElem? (i := 1094) (by decide +kernel)⟩
theorem lw_p43 : lw_okq (⟨"HelmHandModel", "four", "(I)V"⟩, 46) := ⟨⟨by decide +kernel, by decide +kernel⟩, List.mem_of_getElem? (i := 1140) (by decide +kernel), List.mem_of_getElem? (i := 1289) (by decide +kernel), List.mem_of_getElem? (i := 1290) (by decide +kernel)⟩
theorem lw_p44 : lw_okq (⟨"HelmHandModel", "is", "(II)Z"⟩, 46) := ⟨⟨by decide +kernel, by decide +kernel⟩, List.mem_of_getElem? (i := 1140) (by decide +kernel), List.mem_of_getElem? (i := 1307) (by decide +kernel), List.mem_of_getElem? (i := 1308) (by decide +kernel)⟩
theorem lw_p45 : lw_okq (⟨"HelmHandModel", "readText", "(I)Z"⟩, 46) := ⟨⟨by decide +kernel, by decide +kernel⟩, List.mem_of_getElem? (i := 1140) (by decide +kernel), List.mem_of_getElem? (i := 1311) (by decide +kernel), List.mem_of_getElem? (i := 1312) (by decide +kernel)⟩
theorem lw_p46 : lw_okq (⟨"HelmHandModel", "clear", "(I)V"⟩, 46) := ⟨⟨by decide +kernel, by decide +kernel⟩, List.mem_of_getElem? (i := 1140) (by decide +kernel), List.mem_of_getElem? (i := 1315) (by decide +kernel), List.mem_of_getElem? (i := 1316) (by decide +kernel)⟩
theorem lw_p47 : lw_okq (⟨"HelmHandModel", "token", "()V"⟩, 46) := ⟨⟨by decide +kernel, by decide +kernel⟩, List.mem_of_getElem? (i := 1140) (by decide +kernel), List.mem_of_getElem? (i := 1319) (by decide +kernel), List.mem_of_getElem? (i := 1320) (by decide +kernel)⟩
def lw_privs_3 : List (MethodName × Nat) := [(⟨"HelmHand", "costWith", "(III)J"⟩, 7), (⟨"HelmHand", "lagged", "(IIII)Z"⟩, 7), (⟨"HelmHand", "growsWith", "(III)Z"⟩, 7), (⟨"HelmHand", "trialWidest", "(I)J"⟩, 7), (⟨"HelmHand", "leastOfThree", "(III)I"⟩, 7), (⟨"HelmHand", "learnt", "(II)I"⟩, 7), (⟨"HelmHand", "isManned", "(LHelmHand$Watch;)Z"⟩, 7), (⟨"HelmHand", "sailChanged", "(LHelmHand$Ship;LHelmHand$Hand;LHelmHand$Hand;II)V"⟩, 7), (⟨"HelmHand", "costInTurns", "(LHelmHand$Ship;III)J"⟩, 7), (⟨"HelmHand", "deadest", "(II)I"⟩, 7), (⟨"HelmHand", "leastGear", "(III)I"⟩, 7), (⟨"HelmHandModel", "four", "(I)V"⟩, 46), (⟨"HelmHandModel", "is", "(II)Z"⟩, 46), (⟨"HelmHandModel", "readText", "(I)Z"⟩, 46), (⟨"HelmHandModel", "clear", "(I)V"⟩, 46), (⟨"HelmHandModel", "token", "()V"⟩, 46)]
theorem lw_r3 : ∀ q ∈ lw_privs_3, lw_okq q := List.forall_mem_cons.mpr ⟨lw_p32, List.forall_mem_cons.mpr ⟨lw_p33, List.forall_mem_cons.mpr ⟨lw_p34, List.forall_mem_cons.mpr ⟨lw_p35, List.forall_mem_cons.mpr ⟨lw_p36, List.forall_mem_cons.mpr ⟨lw_p37, List.forall_mem_cons.mpr ⟨lw_p38, List.forall_mem_cons.mpr ⟨lw_p39, List.forall_mem_cons.mpr ⟨lw_p40, List.forall_mem_cons.mpr ⟨lw_p41, List.forall_mem_cons.mpr ⟨lw_p42, List.forall_mem_cons.mpr ⟨lw_p43, List.forall_mem_cons.mpr ⟨lw_p44, List.forall_mem_cons.mpr ⟨lw_p45, List.forall_mem_cons.mpr ⟨lw_p46, List.forall_mem_cons.mpr ⟨lw_p47, fun _ h => absurd h List.not_mem_nil⟩⟩⟩⟩⟩⟩⟩⟩⟩⟩⟩⟩⟩⟩⟩⟩
theorem lw_p48 : lw_okq (⟨"HelmHandModel", "see", "()I"⟩, 46) := ⟨⟨by decide +kernel, by decide +kernel⟩, List.mem_of_getElem? (i := 1140) (by decide +kernel), List.mem_of_getElem? (i := 1323) (by decide +kernel), List.mem_of_getElem? (i := 1324) (by decide +kernel)⟩
theorem lw_p49 : lw_okq (⟨"HelmHandModel", "shipLine", "(J)Z"⟩, 46) := ⟨⟨by decide +kernel, by decide +kernel⟩, List.mem_of_getElem? (i := 1140) (by decide +kernel), List.mem_of_getElem? (i := 1327) (by decide +kernel), List.mem_of_getElem? (i := 1328) (by decide +kernel)⟩
theorem lw_p50 : lw_okq (⟨"HelmHandModel", "stops", "()Z"⟩, 46) := ⟨⟨by decide +kernel, by decide +kernel⟩, List.mem_of_getElem? (i := 1140) (by decide +kernel), List.mem_of_getElem? (i := 1341) (by decide +kernel), List.mem_of_getElem? (i := 1342) (by decide +kernel)⟩
theorem lw_p51 : lw_okq (⟨"HelmHandModel", "signedInto", "(II)Z"⟩, 46) := ⟨⟨by decide +kernel, by decide +kernel⟩, List.mem_of_getElem? (i := 1140) (by decide +kernel), List.mem_of_getElem? (i := 1345) (by decide +kernel), List.mem_of_getElem? (i := 1346) (by decide +kernel)⟩
theorem lw_p52 : lw_okq (⟨"HelmHandModel", "signed", "(I)Z"⟩, 46) := ⟨⟨by decide +kernel, by decide +kernel⟩, List.mem_of_getElem? (i := 1140) (by decide +kernel), List.mem_of_getElem? (i := 1349) (by decide +kernel), List.mem_of_getElem? (i := 1350) (by decide +kernel)⟩
theorem lw_p53 : lw_okq (⟨"HelmHandModel", "number", "(II)Z"⟩, 46) := ⟨⟨by decide +kernel, by decide +kernel⟩, List.mem_of_getElem? (i := 1140) (by decide +kernel), List.mem_of_getElem? (i := 1353) (by decide +kernel), List.mem_of_getElem? (i := 1354) (by decide +kernel)⟩
theorem lw_p54 : lw_okq (⟨"HelmHandModel", "later", "(II)V"⟩, 46) := ⟨⟨by decide +kernel, by decide +kernel⟩, List.mem_of_getElem? (i := 1140) (by decide +kernel), List.mem_of_getElem? (i := 1357) (by decide +kernel), List.mem_of_getElem? (i := 1358) (by decide +kernel)⟩
theorem lw_p55 : lw_okq (⟨"HelmHandModel", "list", "(IIII)Z"⟩, 46) := ⟨⟨by decide +kernel, by decide +kernel⟩, List.mem_of_getElem? (i := 1140) (by decide +kernel), List.mem_of_getElem? (i := 1361) (by decide +kernel), List.mem_of_getElem? (i := 1362) (by decide +kernel)⟩
theorem lw_p56 : lw_okq (⟨"HelmHandModel", "into", "(III)Z"⟩, 46) := ⟨⟨by decide +kernel, by decide +kernel⟩, List.mem_of_getElem? (i := 1140) (by decide +kernel), List.mem_of_getElem? (i := 1365) (by decide +kernel), List.mem_of_getElem? (i := 1366) (by decide +kernel)⟩
theorem lw_p57 : lw_okq (⟨"HelmHandModel", "handLine", "(JI)Z"⟩, 46) := ⟨⟨by decide +kernel, by decide +kernel⟩, List.mem_of_getElem? (i := 1140) (by decide +kernel), List.mem_of_getElem? (i := 1369) (by decide +kernel), List.mem_of_getElem? (i := 1370) (by decide +kernel)⟩
theorem lw_p58 : lw_okq (⟨"HelmHandModel", "paperLine", "(J)Z"⟩, 46) := ⟨⟨by decide +kernel, by decide +kernel⟩, List.mem_of_getElem? (i := 1140) (by decide +kernel), List.mem_of_getElem? (i := 1383) (by decide +kernel), List.mem_of_getElem? (i := 1384) (by decide +kernel)⟩
theorem lw_p59 : lw_okq (⟨"HelmHandModel", "watchLine", "(JI)Z"⟩, 46) := ⟨⟨by decide +kernel, by decide +kernel⟩, List.mem_of_getElem? (i := 1140) (by decide +kernel), List.mem_of_getElem? (i := 1388) (by decide +kernel), List.mem_of_getElem? (i := 1389) (by decide +kernel)⟩
theorem lw_p60 : lw_okq (⟨"HelmHandModel", "store", "(II)V"⟩, 46) := ⟨⟨by decide +kernel, by decide +kernel⟩, List.mem_of_getElem? (i := 1140) (by decide +kernel), List.mem_of_getElem? (i := 1393) (by decide +kernel), List.mem_of_getElem? (i := 1394) (by decide +kernel)⟩
theorem lw_p61 : lw_okq (⟨"HelmHandModel", "lay", "(IIZ)Z"⟩, 46) := ⟨⟨by decide +kernel, by decide +kernel⟩, List.mem_of_getElem? (i := 1140) (by decide +kernel), List.mem_of_getElem? (i := 1422) (by decide +kernel), List.mem_of_getElem? (i := 1423) (by decide +kernel)⟩
theorem lw_p62 : lw_okq (⟨"HelmHandModel", "layShip", "(I)V"⟩, 46) := ⟨⟨by decide +kernel, by decide +kernel⟩, List.mem_of_getElem? (i := 1140) (by decide +kernel), List.mem_of_getElem? (i := 1426) (by decide +kernel), List.mem_of_getElem? (i := 1427) (by decide +kernel)⟩
theorem lw_p63 : lw_okq (⟨"HelmHandModel", "layHand", "(II)V"⟩, 46) := ⟨⟨by decide +kernel, by decide +kernel⟩, List.mem_of_getElem? (i := 1140) (by decide +kernel), List.mem_of_getElem? (i := 1430) (by decide +kernel), List.mem_of_getElem? (i := 1431) (by decide +kernel)⟩
def lw_privs_4 : List (MethodName × Nat) := [(⟨"HelmHandModel", "see", "()I"⟩, 46), (⟨"HelmHandModel", "shipLine", "(J)Z"⟩, 46), (⟨"HelmHandModel", "stops", "()Z"⟩, 46), (⟨"HelmHandModel", "signedInto", "(II)Z"⟩, 46), (⟨"HelmHandModel", "signed", "(I)Z"⟩, 46), (⟨"HelmHandModel", "number", "(II)Z"⟩, 46), (⟨"HelmHandModel", "later", "(II)V"⟩, 46), (⟨"HelmHandModel", "list", "(IIII)Z"⟩, 46), (⟨"HelmHandModel", "into", "(III)Z"⟩, 46), (⟨"HelmHandModel", "handLine", "(JI)Z"⟩, 46), (⟨"HelmHandModel", "paperLine", "(J)Z"⟩, 46), (⟨"HelmHandModel", "watchLine", "(JI)Z"⟩, 46), (⟨"HelmHandModel", "store", "(II)V"⟩, 46), (⟨"HelmHandModel", "lay", "(IIZ)Z"⟩, 46), (⟨"HelmHandModel", "layShip", "(I)V"⟩, 46), (⟨"HelmHandModel", "layHand", "(II)V"⟩, 46)]
theorem lw_r4 : ∀ q ∈ lw_privs_4, lw_okq q := List.forall_mem_cons.mpr ⟨lw_p48, List.forall_mem_cons.mpr ⟨lw_p49, List.forall_mem_cons.mpr ⟨lw_p50, List.forall_mem_cons.mpr ⟨lw_p51, List.forall_mem_cons.mpr ⟨lw_p52, List.forall_mem_cons.mpr ⟨lw_p53, List.forall_mem_cons.mpr ⟨lw_p54, List.forall_mem_cons.mpr ⟨lw_p55, List.forall_mem_cons.mpr ⟨lw_p56, List.forall_mem_cons.mpr ⟨lw_p57, List.forall_mem_cons.mpr ⟨lw_p58, List.forall_mem_cons.mpr ⟨lw_p59, List.forall_mem_cons.mpr ⟨lw_p60, List.forall_mem_cons.mpr ⟨lw_p61, List.forall_mem_cons.mpr ⟨lw_p62, List.forall_mem_cons.mpr ⟨lw_p63, fun _ h => absurd h List.not_mem_nil⟩⟩⟩⟩⟩⟩⟩⟩⟩⟩⟩⟩⟩⟩⟩⟩
theorem lw_p64 : lw_okq (⟨"HelmHandModel", "runBy", "(ZII)V"⟩, 46) := ⟨⟨by decide +kernel, by decide +kernel⟩, List.mem_of_getElem? (i := 1140) (by decide +kernel), List.mem_of_getElem? (i := 1434) (by decide +kernel), List.mem_of_getElem? (i := 1435) (by decide +kernel)⟩
theorem lw_p65 : lw_okq (⟨"HelmHandModel", "begin", "(I)V"⟩, 46) := ⟨⟨by decide +kernel, by decide +kernel⟩, List.mem_of_getElem? (i := 1140) (by decide +kernel), List.mem_of_getElem? (i := 1438) (by decide +kernel), List.mem_of_getElem? (i := 1439) (by decide +kernel)⟩
theorem lw_p66 : lw_okq (⟨"HelmHandModel", "steer", "(II)V"⟩, 46) := ⟨⟨by decide +kernel, by decide +kernel⟩, List.mem_of_getElem? (i := 1140) (by decide +kernel), List.mem_of_getElem? (i := 1445) (by decide +kernel), List.mem_of_getElem? (i := 1446) (by decide +kernel)⟩
theorem lw_p67 : lw_okq (⟨"HelmHandModel", "takes", "(I)V"⟩, 46) := ⟨⟨by decide +kernel, by decide +kernel⟩, List.mem_of_getElem? (i := 1140) (by decide +kernel), List.mem_of_getElem? (i := 1449) (by decide +kernel), List.mem_of_getElem? (i := 1450) (by decide +kernel)⟩
theorem lw_p68 : lw_okq (⟨"HelmHandModel", "wants", "(I)I"⟩, 46) := ⟨⟨by decide +kernel, by decide +kernel⟩, List.mem_of_getElem? (i := 1140) (by decide +kernel), List.mem_of_getElem? (i := 1453) (by decide +kernel), List.mem_of_getElem? (i := 1454) (by decide +kernel)⟩
theorem lw_p69 : lw_okq (⟨"HelmHandModel", "sees", "(II)I"⟩, 46) := ⟨⟨by decide +kernel, by decide +kernel⟩, List.mem_of_getElem? (i := 1140) (by decide +kernel), List.mem_of_getElem? (i := 1457) (by decide +kernel), List.mem_of_getElem? (i := 1458) (by decide +kernel)⟩
theorem lw_p70 : lw_okq (⟨"HelmHandModel", "of", "(II)I"⟩, 46) := ⟨⟨by decide +kernel, by decide +kernel⟩, List.mem_of_getElem? (i := 1140) (by decide +kernel), List.mem_of_getElem? (i := 1461) (by decide +kernel), List.mem_of_getElem? (i := 1462) (by decide +kernel)⟩
theorem lw_p71 : lw_okq (⟨"HelmHandModel", "isStar", "(II)Z"⟩, 46) := ⟨⟨by decide +kernel, by decide +kernel⟩, List.mem_of_getElem? (i := 1140) (by decide +kernel), List.mem_of_getElem? (i := 1465) (by decide +kernel), List.mem_of_getElem? (i := 1466) (by decide +kernel)⟩
theorem lw_p72 : lw_okq (⟨"HelmHandModel", "draw", "(I)I"⟩, 46) := ⟨⟨by decide +kernel, by decide +kernel⟩, List.mem_of_getElem? (i := 1140) (by decide +kernel), List.mem_of_getElem? (i := 1475) (by decide +kernel), List.mem_of_getElem? (i := 1476) (by decide +kernel)⟩
theorem lw_p73 : lw_okq (⟨"HelmHandModel", "pass", "(II)V"⟩, 46) := ⟨⟨by decide +kernel, by decide +kernel⟩, List.mem_of_getElem? (i := 1140) (by decide +kernel), List.mem_of_getElem? (i := 1480) (by decide +kernel), List.mem_of_getElem? (i := 1481) (by decide +kernel)⟩
theorem lw_p74 : lw_okq (⟨"HelmHandModel", "tally", "()V"⟩, 46) := ⟨⟨by decide +kernel, by decide +kernel⟩, List.mem_of_getElem? (i := 1140) (by decide +kernel), List.mem_of_getElem? (i := 1484) (by decide +kernel), List.mem_of_getElem? (i := 1485) (by decide +kernel)⟩
theorem lw_p75 : lw_okq (⟨"HelmHandModel", "cost", "()J"⟩, 46) := ⟨⟨by decide +kernel, by decide +kernel⟩, List.mem_of_getElem? (i := 1140) (by decide +kernel), List.mem_of_getElem? (i := 1494) (by decide +kernel), List.mem_of_getElem? (i := 1495) (by decide +kernel)⟩
theorem lw_p76 : lw_okq (⟨"HelmHandModel", "grows", "()Z"⟩, 46) := ⟨⟨by decide +kernel, by decide +kernel⟩, List.mem_of_getElem? (i := 1140) (by decide +kernel), List.mem_of_getElem? (i := 1498) (by decide +kernel), List.mem_of_getElem? (i := 1499) (by decide +kernel)⟩
theorem lw_p77 : lw_okq (⟨"HelmHandModel", "layFor", "(III)Z"⟩, 46) := ⟨⟨by decide +kernel, by decide +kernel⟩, List.mem_of_getElem? (i := 1140) (by decide +kernel), List.mem_of_getElem? (i := 1510) (by decide +kernel), List.mem_of_getElem? (i := 1511) (by decide +kernel)⟩
theorem lw_p78 : lw_okq (⟨"HelmHandModel", "put", "(II)V"⟩, 46) := ⟨⟨by decide +kernel, by decide +kernel⟩, List.mem_of_getElem? (i := 1140) (by decide +kernel), List.mem_of_getElem? (i := 1515) (by decide +kernel), List.mem_of_getElem? (i := 1516) (by decide +kernel)⟩
theorem lw_p79 : lw_okq (⟨"HelmHandModel", "costBy", "(I)J"⟩, 46) := ⟨⟨by decide +kernel, by decide +kernel⟩, List.mem_of_getElem? (i := 1140) (by decide +kernel), List.mem_of_getElem? (i := 1519) (by decide +kernel), List.mem_of_getElem? (i := 1520) (by decide +kernel)⟩
def lw_privs_5 : List (MethodName × Nat) := [(⟨"HelmHandModel", "runBy", "(ZII)V"⟩, 46), (⟨"HelmHandModel", "begin", "(I)V"⟩, 46), (⟨"HelmHandModel", "steer", "(II)V"⟩, 46), (⟨"HelmHandModel", "takes", "(I)V"⟩, 46), (⟨"HelmHandModel", "wants", "(I)I"⟩, 46), (⟨"HelmHandModel", "sees", "(II)I"⟩, 46), (⟨"HelmHandModel", "of", "(II)I"⟩, 46), (⟨"HelmHandModel", "isStar", "(II)Z"⟩, 46), (⟨"HelmHandModel", "draw", "(I)I"⟩, 46), (⟨"HelmHandModel", "pass", "(II)V"⟩, 46), (⟨"HelmHandModel", "tally", "()V"⟩, 46), (⟨"HelmHandModel", "cost", "()J"⟩, 46), (⟨"HelmHandModel", "grows", "()Z"⟩, 46), (⟨"HelmHandModel", "layFor", "(III)Z"⟩, 46), (⟨"HelmHandModel", "put", "(II)V"⟩, 46), (⟨"HelmHandModel", "costBy", "(I)J"⟩, 46)]
theorem lw_r5 : ∀ q ∈ lw_privs_5, lw_okq q := List.forall_mem_cons.mpr ⟨lw_p64, List.forall_mem_cons.mpr ⟨lw_p65, List.forall_mem_cons.mpr ⟨lw_p66, List.forall_mem_cons.mpr ⟨lw_p67, List.forall_mem_cons.mpr ⟨lw_p68, List.forall_mem_cons.mpr ⟨lw_p69, List.forall_mem_cons.mpr ⟨lw_p70, List.forall_mem_cons.mpr ⟨lw_p71, List.forall_mem_cons.mpr ⟨lw_p72, List.forall_mem_cons.mpr ⟨lw_p73, List.forall_mem_cons.mpr ⟨lw_p74, List.forall_mem_cons.mpr ⟨lw_p75, List.forall_mem_cons.mpr ⟨lw_p76, List.forall_mem_cons.mpr ⟨lw_p77, List.forall_mem_cons.mpr ⟨lw_p78, List.forall_mem_cons.mpr ⟨lw_p79, fun _ h => absurd h List.not_mem_nil⟩⟩⟩⟩⟩⟩⟩⟩⟩⟩⟩⟩⟩⟩⟩⟩
theorem lw_p80 : lw_okq (⟨"HelmHandModel", "costWith", "(III)J"⟩, 46) := ⟨⟨by decide +kernel, by decide +kernel⟩, List.mem_of_getElem? (i := 1140) (by decide +kernel), List.mem_of_getElem? (i := 1547) (by decide +kernel), List.mem_of_getElem? (i := 1548) (by decide +kernel)⟩
theorem lw_p81 : lw_okq (⟨"HelmHandModel", "third", "(III)I"⟩, 46) := ⟨⟨by decide +kernel, by decide +kernel⟩, List.mem_of_getElem? (i := 1140) (by decide +kernel), List.mem_of_getElem? (i := 1571) (by decide +kernel), List.mem_of_getElem? (i := 1572) (by decide +kernel)⟩
theorem lw_p82 : lw_okq (⟨"HelmHandModel", "isOrder", "(III)Z"⟩, 46) := ⟨⟨by decide +kernel, by decide +kernel⟩, List.mem_of_getElem? (i := 1140) (by decide +kernel), List.mem_of_getElem? (i := 1595) (by decide +kernel), List.mem_of_getElem? (i := 1596) (by decide +kernel)⟩
theorem lw_p83 : lw_okq (⟨"HelmHandModel", "apartFrom", "(I)J"⟩, 46) := ⟨⟨by decide +kernel, by decide +kernel⟩, List.mem_of_getElem? (i := 1140) (by decide +kernel), List.mem_of_getElem? (i := 1607) (by decide +kernel), List.mem_of_getElem? (i := 1608) (by decide +kernel)⟩
theorem lw_p84 : lw_okq (⟨"HelmHandModel", "costOf", "(I)J"⟩, 46) := ⟨⟨by decide +kernel, by decide +kernel⟩, List.mem_of_getElem? (i := 1140) (by decide +kernel), List.mem_of_getElem? (i := 1635) (by decide +kernel), List.mem_of_getElem? (i := 1636) (by decide +kernel)⟩
theorem lw_p85 : lw_okq (⟨"HelmHandModel", "copyAll", "(II)V"⟩, 46) := ⟨⟨by decide +kernel, by decide +kernel⟩, List.mem_of_getElem? (i := 1140) (by decide +kernel), List.mem_of_getElem? (i := 1660) (by decide +kernel), List.mem_of_getElem? (i := 1661) (by decide +kernel)⟩
def lw_privs_6 : List (MethodName × Nat) := [(⟨"HelmHandModel", "costWith", "(III)J"⟩, 46), (⟨"HelmHandModel", "third", "(III)I"⟩, 46), (⟨"HelmHandModel", "isOrder", "(III)Z"⟩, 46), (⟨"HelmHandModel", "apartFrom", "(I)J"⟩, 46), (⟨"HelmHandModel", "costOf", "(I)J"⟩, 46), (⟨"HelmHandModel", "copyAll", "(II)V"⟩, 46)]
theorem lw_r6 : ∀ q ∈ lw_privs_6, lw_okq q := List.forall_mem_cons.mpr ⟨lw_p80, List.forall_mem_cons.mpr ⟨lw_p81, List.forall_mem_cons.mpr ⟨lw_p82, List.forall_mem_cons.mpr ⟨lw_p83, List.forall_mem_cons.mpr ⟨lw_p84, List.forall_mem_cons.mpr ⟨lw_p85, fun _ h => absurd h List.not_mem_nil⟩⟩⟩⟩⟩⟩
def lw_privs : List (MethodName × Nat) := lw_privs_1 ++ (lw_privs_2 ++ (lw_privs_3 ++ (lw_privs_4 ++ (lw_privs_5 ++ (lw_privs_6)))))
def lw_tbl : List Cond := k2_sels lw_privs ++ tables_1
theorem lw_privs_ok : ∀ q ∈ lw_privs, lw_okq q := by
  show ∀ q ∈ lw_privs_1 ++ (lw_privs_2 ++ (lw_privs_3 ++ (lw_privs_4 ++ (lw_privs_5 ++ (lw_privs_6))))), lw_okq q
  exact List.forall_mem_append.mpr ⟨lw_r1, List.forall_mem_append.mpr ⟨lw_r2, List.forall_mem_append.mpr ⟨lw_r3, List.forall_mem_append.mpr ⟨lw_r4, List.forall_mem_append.mpr ⟨lw_r5, lw_r6⟩⟩⟩⟩⟩
-- ===== end of PART A; then your names; then what follows =====
/-! ===== BEGIN words of one list among another's, by their places ===== -/
theorem goodIn_r {big : List Cond} (ws : List Cond) (ps : List Nat) (hp : ws = ps.filterMap (fun i => big[i]?)) (h : ws.all goodWord = true) : GoodIn big ws := by
  intro w hw
  have h1 := List.all_eq_true.mp h w hw
  rw [hp] at hw
  obtain ⟨i, -, hi⟩ := List.mem_filterMap.mp hw
  have hm : w ∈ big := by first | exact List.mem_of_getElem? hi | exact List.getElem?_mem hi
  exact ⟨hm, good_of_word h1⟩
theorem goodIn_app {big a b : List Cond} (ha : GoodIn big a) (hb : GoodIn big b) : GoodIn big (a ++ b) := fun w h => (List.mem_append.mp h).elim (ha w) (hb w)
theorem goodIn_ca {big a b : List Cond} {c : Cond} (ha : GoodIn big (c :: a)) (hb : GoodIn big b) : GoodIn big (c :: (a ++ b)) := fun w h => (List.mem_cons.mp h).elim (fun e => ha w (List.mem_cons.mpr (Or.inl e))) (fun h => (List.mem_append.mp h).elim (fun h => ha w (List.mem_cons.mpr (Or.inr h))) (hb w))
theorem goodIn_sub {big ws : List Cond} (hm : ∀ w ∈ ws, w ∈ big) (h : ws.all goodWord = true) : GoodIn big ws := fun w hw => ⟨hm w hw, good_of_word (List.all_eq_true.mp h w hw)⟩
/-! ===== END ===== -/

/-! ===== BEGIN printed: names, fields, word lists, decode rows ===== -/
def RX0 : String := "HelmHand$Book"
def TX0 : u_T := fun k => match k with
  | 0 => ("HelmHand$Book", "tape", "LHelmHand$Tape;", true)
  | 1 => ("HelmHand$Book", "fault", "I", false)
  | 2 => ("HelmHand$Book", "faultPlace", "I", false)
  | 3 => ("HelmHand$Book", "ships", "I", false)
  | 4 => ("HelmHand$Book", "hands", "I", false)
  | 5 => ("HelmHand$Book", "papers", "I", false)
  | 6 => ("HelmHand$Book", "watches", "I", false)
  | 7 => ("HelmHand$Book", "shipRow", "[LHelmHand$Ship;", true)
  | 8 => ("HelmHand$Book", "handRow", "[LHelmHand$Hand;", true)
  | 9 => ("HelmHand$Book", "paperRow", "[LHelmHand$Paper;", true)
  | _ => ("HelmHand$Book", "watchRow", "[LHelmHand$Watch;", true)
def tyX0 : Nat → FieldType := fun k => match k with
  | 0 => .object "HelmHand$Tape"
  | 1 => .int
  | 2 => .int
  | 3 => .int
  | 4 => .int
  | 5 => .int
  | 6 => .int
  | 7 => .array (.object "HelmHand$Ship")
  | 8 => .array (.object "HelmHand$Hand")
  | 9 => .array (.object "HelmHand$Paper")
  | _ => .array (.object "HelmHand$Watch")
abbrev wsX00 : List Cond := u_ws RX0 TX0 11
theorem nmX0 : ∀ a, a < 11 → ∀ b, b < 11 → a ≠ b → (TX0 a).2.1 ≠ (TX0 b).2.1 := by decide +kernel
theorem tyX0_ok : ∀ k, k < 11 → parseFieldDescriptor (TX0 k).2.2.1 = some (tyX0 k) := by decide +kernel
abbrev cX0_init : ByteArray := prog_2_method_1_code
def yX0_init : MethodName := ⟨RX0, "<init>", "()V"⟩
abbrev cX0_shipAt : ByteArray := prog_2_method_2_code
def yX0_shipAt : MethodName := ⟨RX0, "shipAt", "(I)LHelmHand$Ship;"⟩
abbrev cX0_handAt : ByteArray := prog_2_method_3_code
def yX0_handAt : MethodName := ⟨RX0, "handAt", "(I)LHelmHand$Hand;"⟩
abbrev cX0_paperAt : ByteArray := prog_2_method_4_code
def yX0_paperAt : MethodName := ⟨RX0, "paperAt", "(I)LHelmHand$Paper;"⟩
abbrev cX0_watchAt : ByteArray := prog_2_method_5_code
def yX0_watchAt : MethodName := ⟨RX0, "watchAt", "(I)LHelmHand$Watch;"⟩
abbrev cX0_countOf : ByteArray := prog_2_method_6_code
def yX0_countOf : MethodName := ⟨RX0, "countOf", "(I)I"⟩
abbrev cX0_placeFor : ByteArray := prog_2_method_7_code
def yX0_placeFor : MethodName := ⟨RX0, "placeFor", "(II)I"⟩
abbrev cX0_keep : ByteArray := prog_2_method_8_code
def yX0_keep : MethodName := ⟨RX0, "keep", "(IILHelmHand$Reader;)V"⟩
abbrev cX0_copy : ByteArray := prog_2_method_9_code
def yX0_copy : MethodName := ⟨RX0, "copy", "(LHelmHand$Book;)V"⟩
abbrev cX0_copyShip : ByteArray := prog_2_method_10_code
def yX0_copyShip : MethodName := ⟨RX0, "copyShip", "(LHelmHand$Ship;I)V"⟩
abbrev cX0_copyHand : ByteArray := prog_2_method_11_code
def yX0_copyHand : MethodName := ⟨RX0, "copyHand", "(LHelmHand$Hand;I)V"⟩
abbrev cX0_copyPaper : ByteArray := prog_2_method_12_code
def yX0_copyPaper : MethodName := ⟨RX0, "copyPaper", "(LHelmHand$Paper;I)V"⟩
abbrev cX0_copyWatch : ByteArray := prog_2_method_13_code
def yX0_copyWatch : MethodName := ⟨RX0, "copyWatch", "(LHelmHand$Watch;I)V"⟩
def RX1 : String := "HelmHand$Hand"
def TX1 : u_T := fun k => match k with
  | 0 => ("HelmHand$Hand", "far", "I", false)
  | 1 => ("HelmHand$Hand", "quick", "I", false)
  | 2 => ("HelmHand$Hand", "been", "I", false)
  | 3 => ("HelmHand$Hand", "dead", "I", false)
  | 4 => ("HelmHand$Hand", "point", "I", false)
  | 5 => ("HelmHand$Hand", "wrong", "I", false)
  | 6 => ("HelmHand$Hand", "tired", "I", false)
  | 7 => ("HelmHand$Hand", "slips", "I", false)
  | 8 => ("HelmHand$Hand", "easy", "Z", false)
  | 9 => ("HelmHand$Hand", "stars", "I", false)
  | 10 => ("HelmHand$Hand", "from", "[I", true)
  | _ => ("HelmHand$Hand", "till", "[I", true)
def tyX1 : Nat → FieldType := fun k => match k with
  | 0 => .int
  | 1 => .int
  | 2 => .int
  | 3 => .int
  | 4 => .int
  | 5 => .int
  | 6 => .int
  | 7 => .int
  | 8 => .boolean
  | 9 => .int
  | 10 => .array .int
  | _ => .array .int
abbrev wsX10 : List Cond := u_ws RX1 TX1 12
theorem nmX1 : ∀ a, a < 12 → ∀ b, b < 12 → a ≠ b → (TX1 a).2.1 ≠ (TX1 b).2.1 := by decide +kernel
theorem tyX1_ok : ∀ k, k < 12 → parseFieldDescriptor (TX1 k).2.2.1 = some (tyX1 k) := by decide +kernel
abbrev cX1_init : ByteArray := prog_3_method_1_code
def yX1_init : MethodName := ⟨RX1, "<init>", "()V"⟩
abbrev cX1_clear : ByteArray := prog_3_method_2_code
def yX1_clear : MethodName := ⟨RX1, "clear", "()V"⟩
abbrev cX1_copy : ByteArray := prog_3_method_3_code
def yX1_copy : MethodName := ⟨RX1, "copy", "(LHelmHand$Hand;)V"⟩
abbrev cX1_write : ByteArray := prog_3_method_4_code
def yX1_write : MethodName := ⟨RX1, "write", "(II)V"⟩
abbrev cX1_look : ByteArray := prog_3_method_5_code
def yX1_look : MethodName := ⟨RX1, "look", "(I)I"⟩
abbrev cX1_lookStar : ByteArray := prog_3_method_6_code
def yX1_lookStar : MethodName := ⟨RX1, "lookStar", "(I)I"⟩
abbrev cX1_addStar : ByteArray := prog_3_method_7_code
def yX1_addStar : MethodName := ⟨RX1, "addStar", "(II)Z"⟩
abbrev cX1_hasStarAt : ByteArray := prog_3_method_8_code
def yX1_hasStarAt : MethodName := ⟨RX1, "hasStarAt", "(I)Z"⟩
abbrev cX1_slowBy : ByteArray := prog_3_method_9_code
def yX1_slowBy : MethodName := ⟨RX1, "slowBy", "(I)I"⟩
abbrev cX1_pointed : ByteArray := prog_3_method_10_code
def yX1_pointed : MethodName := ⟨RX1, "pointed", "(I)I"⟩
abbrev cX1_ruled : ByteArray := prog_3_method_11_code
def yX1_ruled : MethodName := ⟨RX1, "ruled", "(III)I"⟩
def RX2 : String := "HelmHand$Mate"
def TX2 : u_T := fun k => match k with
  | 0 => ("HelmHand$Mate", "hand", "LHelmHand$Hand;", false)
  | 1 => ("HelmHand$Mate", "t", "I", false)
  | 2 => ("HelmHand$Mate", "sum", "I", false)
  | _ => ("HelmHand$Mate", "saw", "I", false)
def tyX2 : Nat → FieldType := fun k => match k with
  | 0 => .object "HelmHand$Hand"
  | 1 => .int
  | 2 => .int
  | _ => .int
abbrev wsX20 : List Cond := u_ws RX2 TX2 4
theorem nmX2 : ∀ a, a < 4 → ∀ b, b < 4 → a ≠ b → (TX2 a).2.1 ≠ (TX2 b).2.1 := by decide +kernel
theorem tyX2_ok : ∀ k, k < 4 → parseFieldDescriptor (TX2 k).2.2.1 = some (tyX2 k) := by decide +kernel
abbrev cX2_init : ByteArray := prog_4_method_1_code
def yX2_init : MethodName := ⟨RX2, "<init>", "()V"⟩
abbrev cX2_relieve : ByteArray := prog_4_method_2_code
def yX2_relieve : MethodName := ⟨RX2, "relieve", "(LHelmHand$Hand;)V"⟩
abbrev cX2_wants : ByteArray := prog_4_method_3_code
def yX2_wants : MethodName := ⟨RX2, "wants", "(LHelmHand$Wheel;)I"⟩
def RX3 : String := "HelmHand$Paper"
def TX3 : u_T := fun k => match k with
  | 0 => ("HelmHand$Paper", "headings", "[I", true)
  | _ => ("HelmHand$Paper", "size", "I", false)
def tyX3 : Nat → FieldType := fun k => match k with
  | 0 => .array .int
  | _ => .int
abbrev wsX30 : List Cond := u_ws RX3 TX3 2
theorem nmX3 : ∀ a, a < 2 → ∀ b, b < 2 → a ≠ b → (TX3 a).2.1 ≠ (TX3 b).2.1 := by decide +kernel
theorem tyX3_ok : ∀ k, k < 2 → parseFieldDescriptor (TX3 k).2.2.1 = some (tyX3 k) := by decide +kernel
abbrev cX3_init : ByteArray := prog_5_method_1_code
def yX3_init : MethodName := ⟨RX3, "<init>", "()V"⟩
abbrev cX3_clear : ByteArray := prog_5_method_2_code
def yX3_clear : MethodName := ⟨RX3, "clear", "()V"⟩
abbrev cX3_copy : ByteArray := prog_5_method_3_code
def yX3_copy : MethodName := ⟨RX3, "copy", "(LHelmHand$Paper;)V"⟩
abbrev cX3_addHeading : ByteArray := prog_5_method_4_code
def yX3_addHeading : MethodName := ⟨RX3, "addHeading", "(I)Z"⟩
def RX4 : String := "HelmHand$Reader"
def TX4 : u_T := fun k => match k with
  | 0 => ("HelmHand$Reader", "ship", "LHelmHand$Ship;", true)
  | 1 => ("HelmHand$Reader", "hand", "LHelmHand$Hand;", true)
  | 2 => ("HelmHand$Reader", "paper", "LHelmHand$Paper;", true)
  | 3 => ("HelmHand$Reader", "watch", "LHelmHand$Watch;", true)
  | 4 => ("HelmHand$Reader", "fault", "I", false)
  | 5 => ("HelmHand$Reader", "faultPlace", "I", false)
  | 6 => ("HelmHand$Reader", "tape", "LHelmHand$Tape;", true)
  | 7 => ("HelmHand$Reader", "kind", "I", false)
  | 8 => ("HelmHand$Reader", "place", "I", false)
  | 9 => ("HelmHand$Reader", "behind", "I", false)
  | 10 => ("HelmHand$Reader", "value", "I", false)
  | _ => ("HelmHand$Reader", "begun", "I", false)
def tyX4 : Nat → FieldType := fun k => match k with
  | 0 => .object "HelmHand$Ship"
  | 1 => .object "HelmHand$Hand"
  | 2 => .object "HelmHand$Paper"
  | 3 => .object "HelmHand$Watch"
  | 4 => .int
  | 5 => .int
  | 6 => .object "HelmHand$Tape"
  | 7 => .int
  | 8 => .int
  | 9 => .int
  | 10 => .int
  | _ => .int
abbrev wsX40 : List Cond := u_ws RX4 TX4 12
theorem nmX4 : ∀ a, a < 12 → ∀ b, b < 12 → a ≠ b → (TX4 a).2.1 ≠ (TX4 b).2.1 := by decide +kernel
theorem tyX4_ok : ∀ k, k < 12 → parseFieldDescriptor (TX4 k).2.2.1 = some (tyX4 k) := by decide +kernel
abbrev cX4_init : ByteArray := prog_6_method_1_code
def yX4_init : MethodName := ⟨RX4, "<init>", "()V"⟩
abbrev cX4_take : ByteArray := prog_6_method_2_code
def yX4_take : MethodName := ⟨RX4, "take", "(ILHelmHand$Tape;)V"⟩
abbrev cX4_note : ByteArray := prog_6_method_3_code
def yX4_note : MethodName := ⟨RX4, "note", "(II)V"⟩
abbrev cX4_takeLine : ByteArray := prog_6_method_4_code
def yX4_takeLine : MethodName := ⟨RX4, "takeLine", "(I)Z"⟩
abbrev cX4_takeSemicolon : ByteArray := prog_6_method_5_code
def yX4_takeSemicolon : MethodName := ⟨RX4, "takeSemicolon", "()Z"⟩
abbrev cX4_takeShipNumbers : ByteArray := prog_6_method_6_code
def yX4_takeShipNumbers : MethodName := ⟨RX4, "takeShipNumbers", "()Z"⟩
abbrev cX4_takeShipNumber : ByteArray := prog_6_method_7_code
def yX4_takeShipNumber : MethodName := ⟨RX4, "takeShipNumber", "(I)Z"⟩
abbrev cX4_takeSeas : ByteArray := prog_6_method_8_code
def yX4_takeSeas : MethodName := ⟨RX4, "takeSeas", "()Z"⟩
abbrev cX4_takeHandNumber : ByteArray := prog_6_method_9_code
def yX4_takeHandNumber : MethodName := ⟨RX4, "takeHandNumber", "()Z"⟩
abbrev cX4_takeStar : ByteArray := prog_6_method_10_code
def yX4_takeStar : MethodName := ⟨RX4, "takeStar", "()Z"⟩
abbrev cX4_takeHeadings : ByteArray := prog_6_method_11_code
def yX4_takeHeadings : MethodName := ⟨RX4, "takeHeadings", "()Z"⟩
abbrev cX4_takeMan : ByteArray := prog_6_method_12_code
def yX4_takeMan : MethodName := ⟨RX4, "takeMan", "()Z"⟩
abbrev cX4_goesOnWithNumber : ByteArray := prog_6_method_13_code
def yX4_goesOnWithNumber : MethodName := ⟨RX4, "goesOnWithNumber", "()Z"⟩
abbrev cX4_takeNumber : ByteArray := prog_6_method_14_code
def yX4_takeNumber : MethodName := ⟨RX4, "takeNumber", "(ZII)Z"⟩
abbrev cX4_shipWord : ByteArray := prog_6_method_15_code
def yX4_shipWord : MethodName := ⟨RX4, "shipWord", "()I"⟩
abbrev cX4_handWord : ByteArray := prog_6_method_16_code
def yX4_handWord : MethodName := ⟨RX4, "handWord", "()I"⟩
abbrev cX4_isWord : ByteArray := prog_6_method_17_code
def yX4_isWord : MethodName := ⟨RX4, "isWord", "(Ljava/lang/String;)Z"⟩
abbrev cX4_next : ByteArray := prog_6_method_18_code
def yX4_next : MethodName := ⟨RX4, "next", "()V"⟩
abbrev cX4_kindOf : ByteArray := prog_6_method_19_code
def yX4_kindOf : MethodName := ⟨RX4, "kindOf", "(I)I"⟩
def RX5 : String := "HelmHand$Ship"
def TX5 : u_T := fun k => match k with
  | 0 => ("HelmHand$Ship", "turn", "I", false)
  | 1 => ("HelmHand$Ship", "calm", "I", false)
  | 2 => ("HelmHand$Ship", "lag", "I", false)
  | 3 => ("HelmHand$Ship", "most", "I", false)
  | 4 => ("HelmHand$Ship", "gear", "I", false)
  | 5 => ("HelmHand$Ship", "rub", "I", false)
  | 6 => ("HelmHand$Ship", "wind", "I", false)
  | 7 => ("HelmHand$Ship", "trim", "I", false)
  | 8 => ("HelmHand$Ship", "heading", "I", false)
  | 9 => ("HelmHand$Ship", "pace", "I", false)
  | 10 => ("HelmHand$Ship", "seaCount", "I", false)
  | _ => ("HelmHand$Ship", "seas", "[I", true)
def tyX5 : Nat → FieldType := fun k => match k with
  | 0 => .int
  | 1 => .int
  | 2 => .int
  | 3 => .int
  | 4 => .int
  | 5 => .int
  | 6 => .int
  | 7 => .int
  | 8 => .int
  | 9 => .int
  | 10 => .int
  | _ => .array .int
abbrev wsX50 : List Cond := u_ws RX5 TX5 12
theorem nmX5 : ∀ a, a < 12 → ∀ b, b < 12 → a ≠ b → (TX5 a).2.1 ≠ (TX5 b).2.1 := by decide +kernel
theorem tyX5_ok : ∀ k, k < 12 → parseFieldDescriptor (TX5 k).2.2.1 = some (tyX5 k) := by decide +kernel
abbrev cX5_init : ByteArray := prog_7_method_1_code
def yX5_init : MethodName := ⟨RX5, "<init>", "()V"⟩
abbrev cX5_clear : ByteArray := prog_7_method_2_code
def yX5_clear : MethodName := ⟨RX5, "clear", "()V"⟩
abbrev cX5_copy : ByteArray := prog_7_method_3_code
def yX5_copy : MethodName := ⟨RX5, "copy", "(LHelmHand$Ship;)V"⟩
abbrev cX5_write : ByteArray := prog_7_method_4_code
def yX5_write : MethodName := ⟨RX5, "write", "(II)V"⟩
abbrev cX5_look : ByteArray := prog_7_method_5_code
def yX5_look : MethodName := ⟨RX5, "look", "(I)I"⟩
abbrev cX5_addSea : ByteArray := prog_7_method_6_code
def yX5_addSea : MethodName := ⟨RX5, "addSea", "(I)Z"⟩
abbrev cX5_takeSeas : ByteArray := prog_7_method_7_code
def yX5_takeSeas : MethodName := ⟨RX5, "takeSeas", "(LHelmHand$Ship;I)V"⟩
abbrev cX5_seaOf : ByteArray := prog_7_method_8_code
def yX5_seaOf : MethodName := ⟨RX5, "seaOf", "(I)I"⟩
def RX6 : String := "HelmHand$Tape"
def TX6 : u_T := fun k => match k with
  | 0 => ("HelmHand$Tape", "bytes", "[B", true)
  | _ => ("HelmHand$Tape", "length", "I", false)
def tyX6 : Nat → FieldType := fun k => match k with
  | 0 => .array .byte
  | _ => .int
abbrev wsX60 : List Cond := u_ws RX6 TX6 2
theorem nmX6 : ∀ a, a < 2 → ∀ b, b < 2 → a ≠ b → (TX6 a).2.1 ≠ (TX6 b).2.1 := by decide +kernel
theorem tyX6_ok : ∀ k, k < 2 → parseFieldDescriptor (TX6 k).2.2.1 = some (tyX6 k) := by decide +kernel
abbrev cX6_init : ByteArray := prog_8_method_1_code
def yX6_init : MethodName := ⟨RX6, "<init>", "()V"⟩
abbrev cX6_addWord : ByteArray := prog_8_method_2_code
def yX6_addWord : MethodName := ⟨RX6, "addWord", "(I)V"⟩
abbrev cX6_addByte : ByteArray := prog_8_method_3_code
def yX6_addByte : MethodName := ⟨RX6, "addByte", "(I)V"⟩
abbrev cX6_byteAt : ByteArray := prog_8_method_4_code
def yX6_byteAt : MethodName := ⟨RX6, "byteAt", "(I)I"⟩
abbrev cX6_copy : ByteArray := prog_8_method_5_code
def yX6_copy : MethodName := ⟨RX6, "copy", "(LHelmHand$Tape;)V"⟩
def RX7 : String := "HelmHand$Watch"
def TX7 : u_T := fun k => match k with
  | 0 => ("HelmHand$Watch", "hands", "[I", true)
  | 1 => ("HelmHand$Watch", "seconds", "[I", true)
  | _ => ("HelmHand$Watch", "men", "I", false)
def tyX7 : Nat → FieldType := fun k => match k with
  | 0 => .array .int
  | 1 => .array .int
  | _ => .int
abbrev wsX70 : List Cond := u_ws RX7 TX7 3
theorem nmX7 : ∀ a, a < 3 → ∀ b, b < 3 → a ≠ b → (TX7 a).2.1 ≠ (TX7 b).2.1 := by decide +kernel
theorem tyX7_ok : ∀ k, k < 3 → parseFieldDescriptor (TX7 k).2.2.1 = some (tyX7 k) := by decide +kernel
abbrev cX7_init : ByteArray := prog_9_method_1_code
def yX7_init : MethodName := ⟨RX7, "<init>", "()V"⟩
abbrev cX7_clear : ByteArray := prog_9_method_2_code
def yX7_clear : MethodName := ⟨RX7, "clear", "()V"⟩
abbrev cX7_copy : ByteArray := prog_9_method_3_code
def yX7_copy : MethodName := ⟨RX7, "copy", "(LHelmHand$Watch;)V"⟩
abbrev cX7_addMan : ByteArray := prog_9_method_4_code
def yX7_addMan : MethodName := ⟨RX7, "addMan", "(II)Z"⟩
def RX8 : String := "HelmHand$Wheel"
def TX8 : u_T := fun k => match k with
  | 0 => ("HelmHand$Wheel", "ship", "LHelmHand$Ship;", false)
  | 1 => ("HelmHand$Wheel", "last", "I", false)
  | 2 => ("HelmHand$Wheel", "headings", "[I", true)
  | 3 => ("HelmHand$Wheel", "paces", "[I", true)
  | 4 => ("HelmHand$Wheel", "rudders", "[I", true)
  | 5 => ("HelmHand$Wheel", "saws", "[I", true)
  | 6 => ("HelmHand$Wheel", "seed", "I", false)
  | 7 => ("HelmHand$Wheel", "mate", "LHelmHand$Mate;", true)
  | _ => ("HelmHand$Wheel", "helper", "LHelmHand$Mate;", true)
def tyX8 : Nat → FieldType := fun k => match k with
  | 0 => .object "HelmHand$Ship"
  | 1 => .int
  | 2 => .array .int
  | 3 => .array .int
  | 4 => .array .int
  | 5 => .array .int
  | 6 => .int
  | 7 => .object "HelmHand$Mate"
  | _ => .object "HelmHand$Mate"
abbrev wsX80 : List Cond := u_ws RX8 TX8 9
theorem nmX8 : ∀ a, a < 9 → ∀ b, b < 9 → a ≠ b → (TX8 a).2.1 ≠ (TX8 b).2.1 := by decide +kernel
theorem tyX8_ok : ∀ k, k < 9 → parseFieldDescriptor (TX8 k).2.2.1 = some (tyX8 k) := by decide +kernel
abbrev cX8_init : ByteArray := prog_10_method_1_code
def yX8_init : MethodName := ⟨RX8, "<init>", "()V"⟩
abbrev cX8_sail : ByteArray := prog_10_method_2_code
def yX8_sail : MethodName := ⟨RX8, "sail", "(LHelmHand$Ship;LHelmHand$Hand;II)V"⟩
abbrev cX8_begin : ByteArray := prog_10_method_3_code
def yX8_begin : MethodName := ⟨RX8, "begin", "(LHelmHand$Ship;I)V"⟩
abbrev cX8_steer : ByteArray := prog_10_method_4_code
def yX8_steer : MethodName := ⟨RX8, "steer", "(LHelmHand$Hand;I)V"⟩
abbrev cX8_steerTogether : ByteArray := prog_10_method_5_code
def yX8_steerTogether : MethodName := ⟨RX8, "steerTogether", "(LHelmHand$Hand;LHelmHand$Hand;I)V"⟩
abbrev cX8_move : ByteArray := prog_10_method_6_code
def yX8_move : MethodName := ⟨RX8, "move", "(I)V"⟩
abbrev cX8_headingAgo : ByteArray := prog_10_method_7_code
def yX8_headingAgo : MethodName := ⟨RX8, "headingAgo", "(I)I"⟩
abbrev cX8_rudderNow : ByteArray := prog_10_method_8_code
def yX8_rudderNow : MethodName := ⟨RX8, "rudderNow", "()I"⟩
abbrev cX8_drawn : ByteArray := prog_10_method_9_code
def yX8_drawn : MethodName := ⟨RX8, "drawn", "()I"⟩
abbrev cX8_tally : ByteArray := prog_10_method_10_code
def yX8_tally : MethodName := ⟨RX8, "tally", "(I)J"⟩
abbrev cX8_offAt : ByteArray := prog_10_method_11_code
def yX8_offAt : MethodName := ⟨RX8, "offAt", "(I)I"⟩
abbrev cX8_turnedAt : ByteArray := prog_10_method_12_code
def yX8_turnedAt : MethodName := ⟨RX8, "turnedAt", "(I)I"⟩
abbrev cX8_costAt : ByteArray := prog_10_method_13_code
def yX8_costAt : MethodName := ⟨RX8, "costAt", "(I)J"⟩
abbrev cX8_cost : ByteArray := prog_10_method_14_code
def yX8_cost : MethodName := ⟨RX8, "cost", "()J"⟩
abbrev cX8_off : ByteArray := prog_10_method_15_code
def yX8_off : MethodName := ⟨RX8, "off", "()J"⟩
abbrev cX8_wear : ByteArray := prog_10_method_16_code
def yX8_wear : MethodName := ⟨RX8, "wear", "()J"⟩
abbrev cX8_lost : ByteArray := prog_10_method_17_code
def yX8_lost : MethodName := ⟨RX8, "lost", "()J"⟩
abbrev cX8_widest : ByteArray := prog_10_method_18_code
def yX8_widest : MethodName := ⟨RX8, "widest", "()J"⟩
abbrev cX8_drift : ByteArray := prog_10_method_19_code
def yX8_drift : MethodName := ⟨RX8, "drift", "()J"⟩
abbrev cX8_signAt : ByteArray := prog_10_method_20_code
def yX8_signAt : MethodName := ⟨RX8, "signAt", "(I)I"⟩
abbrev cX8_crossings : ByteArray := prog_10_method_21_code
def yX8_crossings : MethodName := ⟨RX8, "crossings", "()J"⟩
abbrev cX8_peakAt : ByteArray := prog_10_method_22_code
def yX8_peakAt : MethodName := ⟨RX8, "peakAt", "(I)I"⟩
abbrev cX8_grows : ByteArray := prog_10_method_23_code
def yX8_grows : MethodName := ⟨RX8, "grows", "()Z"⟩
abbrev cX8_spokes : ByteArray := prog_10_method_24_code
def yX8_spokes : MethodName := ⟨RX8, "spokes", "()J"⟩
abbrev cX8_waits : ByteArray := prog_10_method_25_code
def yX8_waits : MethodName := ⟨RX8, "waits", "()J"⟩
abbrev cX8_earliestBeyond : ByteArray := prog_10_method_26_code
def yX8_earliestBeyond : MethodName := ⟨RX8, "earliestBeyond", "(I)I"⟩
abbrev cX8_latestBeyond : ByteArray := prog_10_method_27_code
def yX8_latestBeyond : MethodName := ⟨RX8, "latestBeyond", "(I)I"⟩
abbrev cX8_dearest : ByteArray := prog_10_method_28_code
def yX8_dearest : MethodName := ⟨RX8, "dearest", "()I"⟩
abbrev cX8_halfway : ByteArray := prog_10_method_29_code
def yX8_halfway : MethodName := ⟨RX8, "halfway", "()I"⟩
abbrev cX8_apartFrom : ByteArray := prog_10_method_30_code
def yX8_apartFrom : MethodName := ⟨RX8, "apartFrom", "(LHelmHand$Paper;)I"⟩
abbrev cX8_alikeTo : ByteArray := prog_10_method_31_code
def yX8_alikeTo : MethodName := ⟨RX8, "alikeTo", "(LHelmHand$Paper;)I"⟩
def RX9 : String := "HelmHand"
def TX9 : u_T := fun k => match k with
  | 0 => ("HelmHand", "book", "LHelmHand$Book;", true)
  | 1 => ("HelmHand", "images", "[LHelmHand$Book;", true)
  | 2 => ("HelmHand", "imaged", "[Z", true)
  | 3 => ("HelmHand", "reader", "LHelmHand$Reader;", true)
  | 4 => ("HelmHand", "wheel", "LHelmHand$Wheel;", true)
  | 5 => ("HelmHand", "trialShip", "LHelmHand$Ship;", true)
  | _ => ("HelmHand", "trialHand", "LHelmHand$Hand;", true)
def tyX9 : Nat → FieldType := fun k => match k with
  | 0 => .object "HelmHand$Book"
  | 1 => .array (.object "HelmHand$Book")
  | 2 => .array .boolean
  | 3 => .object "HelmHand$Reader"
  | 4 => .object "HelmHand$Wheel"
  | 5 => .object "HelmHand$Ship"
  | _ => .object "HelmHand$Hand"
abbrev wsX90 : List Cond := u_ws RX9 TX9 7
theorem nmX9 : ∀ a, a < 7 → ∀ b, b < 7 → a ≠ b → (TX9 a).2.1 ≠ (TX9 b).2.1 := by decide +kernel
theorem tyX9_ok : ∀ k, k < 7 → parseFieldDescriptor (TX9 k).2.2.1 = some (tyX9 k) := by decide +kernel
abbrev cX9_init : ByteArray := prog_1_method_1_code
def yX9_init : MethodName := ⟨RX9, "<init>", "()V"⟩
abbrev cX9_feed : ByteArray := prog_1_method_2_code
def yX9_feed : MethodName := ⟨RX9, "feed", "(IIIII)I"⟩
abbrev cX9_end : ByteArray := prog_1_method_3_code
def yX9_end : MethodName := ⟨RX9, "end", "(I)I"⟩
abbrev cX9_text : ByteArray := prog_1_method_4_code
def yX9_text : MethodName := ⟨RX9, "text", "(II)I"⟩
abbrev cX9_fault : ByteArray := prog_1_method_5_code
def yX9_fault : MethodName := ⟨RX9, "fault", "(I)I"⟩
abbrev cX9_ship : ByteArray := prog_1_method_6_code
def yX9_ship : MethodName := ⟨RX9, "ship", "(II)I"⟩
abbrev cX9_hand : ByteArray := prog_1_method_7_code
def yX9_hand : MethodName := ⟨RX9, "hand", "(II)I"⟩
abbrev cX9_paper : ByteArray := prog_1_method_8_code
def yX9_paper : MethodName := ⟨RX9, "paper", "(II)I"⟩
abbrev cX9_watch : ByteArray := prog_1_method_9_code
def yX9_watch : MethodName := ⟨RX9, "watch", "(III)I"⟩
abbrev cX9_second : ByteArray := prog_1_method_10_code
def yX9_second : MethodName := ⟨RX9, "second", "(IIIII)I"⟩
abbrev cX9_run : ByteArray := prog_1_method_11_code
def yX9_run : MethodName := ⟨RX9, "run", "(IIIII)J"⟩
abbrev cX9_peak : ByteArray := prog_1_method_12_code
def yX9_peak : MethodName := ⟨RX9, "peak", "(IIIII)I"⟩
abbrev cX9_found : ByteArray := prog_1_method_13_code
def yX9_found : MethodName := ⟨RX9, "found", "(IIIIII)J"⟩
abbrev cX9_iron : ByteArray := prog_1_method_14_code
def yX9_iron : MethodName := ⟨RX9, "iron", "(IIIZ)J"⟩
abbrev cX9_line : ByteArray := prog_1_method_15_code
def yX9_line : MethodName := ⟨RX9, "line", "(IIII)I"⟩
abbrev cX9_alone : ByteArray := prog_1_method_16_code
def yX9_alone : MethodName := ⟨RX9, "alone", "(III)I"⟩
abbrev cX9_hard : ByteArray := prog_1_method_17_code
def yX9_hard : MethodName := ⟨RX9, "hard", "(IIII)I"⟩
abbrev cX9_set : ByteArray := prog_1_method_18_code
def yX9_set : MethodName := ⟨RX9, "set", "(III)I"⟩
abbrev cX9_worth : ByteArray := prog_1_method_19_code
def yX9_worth : MethodName := ⟨RX9, "worth", "(IIII)J"⟩
abbrev cX9_night : ByteArray := prog_1_method_20_code
def yX9_night : MethodName := ⟨RX9, "night", "(IIII)J"⟩
abbrev cX9_cloud : ByteArray := prog_1_method_21_code
def yX9_cloud : MethodName := ⟨RX9, "cloud", "(IIII)I"⟩
abbrev cX9_coarse : ByteArray := prog_1_method_22_code
def yX9_coarse : MethodName := ⟨RX9, "coarse", "(IIII)I"⟩
abbrev cX9_weary : ByteArray := prog_1_method_23_code
def yX9_weary : MethodName := ⟨RX9, "weary", "(IIIIZ)I"⟩
abbrev cX9_tries : ByteArray := prog_1_method_24_code
def yX9_tries : MethodName := ⟨RX9, "tries", "(IIIZ)J"⟩
abbrev cX9_learning : ByteArray := prog_1_method_25_code
def yX9_learning : MethodName := ⟨RX9, "learning", "(IIII)I"⟩
abbrev cX9_steers : ByteArray := prog_1_method_26_code
def yX9_steers : MethodName := ⟨RX9, "steers", "(IIII)J"⟩
abbrev cX9_change : ByteArray := prog_1_method_27_code
def yX9_change : MethodName := ⟨RX9, "change", "(IIII)I"⟩
abbrev cX9_order : ByteArray := prog_1_method_28_code
def yX9_order : MethodName := ⟨RX9, "order", "(IIII)I"⟩
abbrev cX9_both : ByteArray := prog_1_method_29_code
def yX9_both : MethodName := ⟨RX9, "both", "(IIIIZ)J"⟩
abbrev cX9_apart : ByteArray := prog_1_method_30_code
def yX9_apart : MethodName := ⟨RX9, "apart", "(IIIZ)I"⟩
abbrev cX9_whose : ByteArray := prog_1_method_31_code
def yX9_whose : MethodName := ⟨RX9, "whose", "(II)I"⟩
abbrev cX9_tells : ByteArray := prog_1_method_32_code
def yX9_tells : MethodName := ⟨RX9, "tells", "(III)I"⟩
abbrev cX9_slipped : ByteArray := prog_1_method_33_code
def yX9_slipped : MethodName := ⟨RX9, "slipped", "(IIIIIZ)J"⟩
abbrev cX9_lead : ByteArray := prog_1_method_34_code
def yX9_lead : MethodName := ⟨RX9, "lead", "(IIII)I"⟩
abbrev cX9_bound : ByteArray := prog_1_method_35_code
def yX9_bound : MethodName := ⟨RX9, "bound", "(IIIII)I"⟩
abbrev cX9_first : ByteArray := prog_1_method_36_code
def yX9_first : MethodName := ⟨RX9, "first", "(IIII)I"⟩
abbrev cX9_better : ByteArray := prog_1_method_37_code
def yX9_better : MethodName := ⟨RX9, "better", "(IIII)I"⟩
abbrev cX9_reads : ByteArray := prog_1_method_38_code
def yX9_reads : MethodName := ⟨RX9, "reads", "(IIIIII)I"⟩
abbrev cX9_parted : ByteArray := prog_1_method_39_code
def yX9_parted : MethodName := ⟨RX9, "parted", "(IIII)I"⟩
abbrev cX9_count : ByteArray := prog_1_method_40_code
def yX9_count : MethodName := ⟨RX9, "count", "(I)I"⟩
abbrev cX9_image : ByteArray := prog_1_method_41_code
def yX9_image : MethodName := ⟨RX9, "image", "(I)Z"⟩
abbrev cX9_again : ByteArray := prog_1_method_42_code
def yX9_again : MethodName := ⟨RX9, "again", "(I)Z"⟩
abbrev cX9_isTrial : ByteArray := prog_1_method_43_code
def yX9_isTrial : MethodName := ⟨RX9, "isTrial", "(I)Z"⟩
abbrev cX9_sailed : ByteArray := prog_1_method_44_code
def yX9_sailed : MethodName := ⟨RX9, "sailed", "(IIII)Z"⟩
abbrev cX9_ready : ByteArray := prog_1_method_45_code
def yX9_ready : MethodName := ⟨RX9, "ready", "(III)Z"⟩
abbrev cX9_lagged : ByteArray := prog_1_method_46_code
def yX9_lagged : MethodName := ⟨RX9, "lagged", "(IIII)Z"⟩
abbrev cX9_trialCost : ByteArray := prog_1_method_47_code
def yX9_trialCost : MethodName := ⟨RX9, "trialCost", "(I)J"⟩
abbrev cX9_trialWidest : ByteArray := prog_1_method_48_code
def yX9_trialWidest : MethodName := ⟨RX9, "trialWidest", "(I)J"⟩
abbrev cX9_trialApart : ByteArray := prog_1_method_49_code
def yX9_trialApart : MethodName := ⟨RX9, "trialApart", "(LHelmHand$Paper;)I"⟩
abbrev cX9_costWith : ByteArray := prog_1_method_50_code
def yX9_costWith : MethodName := ⟨RX9, "costWith", "(III)J"⟩
abbrev cX9_growsWith : ByteArray := prog_1_method_51_code
def yX9_growsWith : MethodName := ⟨RX9, "growsWith", "(III)Z"⟩
abbrev cX9_leastRule : ByteArray := prog_1_method_52_code
def yX9_leastRule : MethodName := ⟨RX9, "leastRule", "(LHelmHand$Paper;IIII)J"⟩
abbrev cX9_leastOfThree : ByteArray := prog_1_method_53_code
def yX9_leastOfThree : MethodName := ⟨RX9, "leastOfThree", "(III)I"⟩
abbrev cX9_learnt : ByteArray := prog_1_method_54_code
def yX9_learnt : MethodName := ⟨RX9, "learnt", "(II)I"⟩
abbrev cX9_deadest : ByteArray := prog_1_method_55_code
def yX9_deadest : MethodName := ⟨RX9, "deadest", "(II)I"⟩
abbrev cX9_leastGear : ByteArray := prog_1_method_56_code
def yX9_leastGear : MethodName := ⟨RX9, "leastGear", "(III)I"⟩
abbrev cX9_isManned : ByteArray := prog_1_method_57_code
def yX9_isManned : MethodName := ⟨RX9, "isManned", "(LHelmHand$Watch;)Z"⟩
abbrev cX9_sailChanged : ByteArray := prog_1_method_58_code
def yX9_sailChanged : MethodName := ⟨RX9, "sailChanged", "(LHelmHand$Ship;LHelmHand$Hand;LHelmHand$Hand;II)V"⟩
abbrev cX9_handIn : ByteArray := prog_1_method_59_code
def yX9_handIn : MethodName := ⟨RX9, "handIn", "(III)I"⟩
abbrev cX9_handsOf : ByteArray := prog_1_method_60_code
def yX9_handsOf : MethodName := ⟨RX9, "handsOf", "(II)I"⟩
abbrev cX9_costInTurns : ByteArray := prog_1_method_61_code
def yX9_costInTurns : MethodName := ⟨RX9, "costInTurns", "(LHelmHand$Ship;III)J"⟩
abbrev cX9_at : ByteArray := prog_1_method_62_code
def yX9_at : MethodName := ⟨RX9, "at", "([II)I"⟩
abbrev cX9_put : ByteArray := prog_1_method_63_code
def yX9_put : MethodName := ⟨RX9, "put", "([III)V"⟩
abbrev cX9_copyRow : ByteArray := prog_1_method_64_code
def yX9_copyRow : MethodName := ⟨RX9, "copyRow", "([I[I)V"⟩
abbrev cX9_within : ByteArray := prog_1_method_65_code
def yX9_within : MethodName := ⟨RX9, "within", "(II)I"⟩
def RX10 : String := "HelmHandModel"
def TX10 : u_T := fun k => match k with
  | 0 => ("HelmHandModel", "code", "I", false)
  | 1 => ("HelmHandModel", "tape", "[B", true)
  | 2 => ("HelmHandModel", "size", "[I", true)
  | 3 => ("HelmHandModel", "fault", "[I", true)
  | 4 => ("HelmHandModel", "faultPlace", "[I", true)
  | 5 => ("HelmHandModel", "many", "[I", true)
  | 6 => ("HelmHandModel", "ships", "[I", true)
  | 7 => ("HelmHandModel", "hands", "[I", true)
  | 8 => ("HelmHandModel", "papers", "[I", true)
  | 9 => ("HelmHandModel", "watches", "[I", true)
  | 10 => ("HelmHandModel", "ahead", "I", false)
  | 11 => ("HelmHandModel", "length", "I", false)
  | 12 => ("HelmHandModel", "begins", "I", false)
  | 13 => ("HelmHandModel", "sort", "I", false)
  | 14 => ("HelmHandModel", "value", "I", false)
  | 15 => ("HelmHandModel", "word", "J", false)
  | 16 => ("HelmHandModel", "wrongAt", "I", false)
  | 17 => ("HelmHandModel", "laterFault", "I", false)
  | 18 => ("HelmHandModel", "laterPlace", "I", false)
  | 19 => ("HelmHandModel", "row", "[I", true)
  | 20 => ("HelmHandModel", "read", "I", false)
  | 21 => ("HelmHandModel", "now", "[I", true)
  | 22 => ("HelmHandModel", "man", "[I", true)
  | 23 => ("HelmHandModel", "saw", "[I", true)
  | 24 => ("HelmHandModel", "sum", "[I", true)
  | 25 => ("HelmHandModel", "begun", "[I", true)
  | 26 => ("HelmHandModel", "drawn", "I", false)
  | 27 => ("HelmHandModel", "heads", "[I", true)
  | 28 => ("HelmHandModel", "paces", "[I", true)
  | 29 => ("HelmHandModel", "rudders", "[I", true)
  | 30 => ("HelmHandModel", "seen", "[I", true)
  | 31 => ("HelmHandModel", "peaks", "[I", true)
  | 32 => ("HelmHandModel", "done", "I", false)
  | 33 => ("HelmHandModel", "off", "J", false)
  | 34 => ("HelmHandModel", "wear", "I", false)
  | 35 => ("HelmHandModel", "lost", "J", false)
  | 36 => ("HelmHandModel", "widest", "I", false)
  | 37 => ("HelmHandModel", "drift", "J", false)
  | 38 => ("HelmHandModel", "times", "I", false)
  | 39 => ("HelmHandModel", "sign", "I", false)
  | 40 => ("HelmHandModel", "spokes", "I", false)
  | 41 => ("HelmHandModel", "still", "I", false)
  | 42 => ("HelmHandModel", "longest", "I", false)
  | 43 => ("HelmHandModel", "order", "[I", true)
  | 44 => ("HelmHandModel", "best", "[I", true)
  | _ => ("HelmHandModel", "kept", "[Z", true)
def tyX10 : Nat → FieldType := fun k => match k with
  | 0 => .int
  | 1 => .array .byte
  | 2 => .array .int
  | 3 => .array .int
  | 4 => .array .int
  | 5 => .array .int
  | 6 => .array .int
  | 7 => .array .int
  | 8 => .array .int
  | 9 => .array .int
  | 10 => .int
  | 11 => .int
  | 12 => .int
  | 13 => .int
  | 14 => .int
  | 15 => .long
  | 16 => .int
  | 17 => .int
  | 18 => .int
  | 19 => .array .int
  | 20 => .int
  | 21 => .array .int
  | 22 => .array .int
  | 23 => .array .int
  | 24 => .array .int
  | 25 => .array .int
  | 26 => .int
  | 27 => .array .int
  | 28 => .array .int
  | 29 => .array .int
  | 30 => .array .int
  | 31 => .array .int
  | 32 => .int
  | 33 => .long
  | 34 => .int
  | 35 => .long
  | 36 => .int
  | 37 => .long
  | 38 => .int
  | 39 => .int
  | 40 => .int
  | 41 => .int
  | 42 => .int
  | 43 => .array .int
  | 44 => .array .int
  | _ => .array .boolean
abbrev wsX100 : List Cond := u_ws RX10 TX10 46
theorem nmX10 : ∀ a, a < 46 → ∀ b, b < 46 → a ≠ b → (TX10 a).2.1 ≠ (TX10 b).2.1 := by decide +kernel
theorem tyX10_ok : ∀ k, k < 46 → parseFieldDescriptor (TX10 k).2.2.1 = some (tyX10 k) := by decide +kernel
abbrev cX10_init : ByteArray := prog_12_method_1_code
def yX10_init : MethodName := ⟨RX10, "<init>", "()V"⟩
abbrev cX10_in : ByteArray := prog_12_method_3_code
def yX10_in : MethodName := ⟨RX10, "in", "(III)Z"⟩
abbrev cX10_has : ByteArray := prog_12_method_4_code
def yX10_has : MethodName := ⟨RX10, "has", "(II)Z"⟩
abbrev cX10_plain : ByteArray := prog_12_method_5_code
def yX10_plain : MethodName := ⟨RX10, "plain", "(I)I"⟩
abbrev cX10_within : ByteArray := prog_12_method_6_code
def yX10_within : MethodName := ⟨RX10, "within", "(II)I"⟩
abbrev cX10_copyRow : ByteArray := prog_12_method_7_code
def yX10_copyRow : MethodName := ⟨RX10, "copyRow", "([IIII)V"⟩
abbrev cX10_copyAll : ByteArray := prog_12_method_8_code
def yX10_copyAll : MethodName := ⟨RX10, "copyAll", "(II)V"⟩
abbrev cX10_mostOf : ByteArray := prog_12_method_9_code
def yX10_mostOf : MethodName := ⟨RX10, "mostOf", "(I)I"⟩
abbrev cX10_is : ByteArray := prog_12_method_10_code
def yX10_is : MethodName := ⟨RX10, "is", "(II)Z"⟩
abbrev cX10_feed : ByteArray := prog_12_method_11_code
def yX10_feed : MethodName := ⟨RX10, "feed", "(IIIII)I"⟩
abbrev cX10_four : ByteArray := prog_12_method_12_code
def yX10_four : MethodName := ⟨RX10, "four", "(I)V"⟩
abbrev cX10_end : ByteArray := prog_12_method_13_code
def yX10_end : MethodName := ⟨RX10, "end", "(I)I"⟩
abbrev cX10_see : ByteArray := prog_12_method_14_code
def yX10_see : MethodName := ⟨RX10, "see", "()I"⟩
abbrev cX10_token : ByteArray := prog_12_method_15_code
def yX10_token : MethodName := ⟨RX10, "token", "()V"⟩
abbrev cX10_stops : ByteArray := prog_12_method_16_code
def yX10_stops : MethodName := ⟨RX10, "stops", "()Z"⟩
abbrev cX10_later : ByteArray := prog_12_method_17_code
def yX10_later : MethodName := ⟨RX10, "later", "(II)V"⟩
abbrev cX10_number : ByteArray := prog_12_method_18_code
def yX10_number : MethodName := ⟨RX10, "number", "(II)Z"⟩
abbrev cX10_signed : ByteArray := prog_12_method_19_code
def yX10_signed : MethodName := ⟨RX10, "signed", "(I)Z"⟩
abbrev cX10_into : ByteArray := prog_12_method_20_code
def yX10_into : MethodName := ⟨RX10, "into", "(III)Z"⟩
abbrev cX10_signedInto : ByteArray := prog_12_method_21_code
def yX10_signedInto : MethodName := ⟨RX10, "signedInto", "(II)Z"⟩
abbrev cX10_list : ByteArray := prog_12_method_22_code
def yX10_list : MethodName := ⟨RX10, "list", "(IIII)Z"⟩
abbrev cX10_shipLine : ByteArray := prog_12_method_23_code
def yX10_shipLine : MethodName := ⟨RX10, "shipLine", "(J)Z"⟩
abbrev cX10_handLine : ByteArray := prog_12_method_24_code
def yX10_handLine : MethodName := ⟨RX10, "handLine", "(JI)Z"⟩
abbrev cX10_paperLine : ByteArray := prog_12_method_25_code
def yX10_paperLine : MethodName := ⟨RX10, "paperLine", "(J)Z"⟩
abbrev cX10_watchLine : ByteArray := prog_12_method_26_code
def yX10_watchLine : MethodName := ⟨RX10, "watchLine", "(JI)Z"⟩
abbrev cX10_clear : ByteArray := prog_12_method_27_code
def yX10_clear : MethodName := ⟨RX10, "clear", "(I)V"⟩
abbrev cX10_readText : ByteArray := prog_12_method_28_code
def yX10_readText : MethodName := ⟨RX10, "readText", "(I)Z"⟩
abbrev cX10_store : ByteArray := prog_12_method_29_code
def yX10_store : MethodName := ⟨RX10, "store", "(II)V"⟩
abbrev cX10_text : ByteArray := prog_12_method_30_code
def yX10_text : MethodName := ⟨RX10, "text", "(II)I"⟩
abbrev cX10_fault : ByteArray := prog_12_method_31_code
def yX10_fault : MethodName := ⟨RX10, "fault", "(I)I"⟩
abbrev cX10_ship : ByteArray := prog_12_method_32_code
def yX10_ship : MethodName := ⟨RX10, "ship", "(II)I"⟩
abbrev cX10_hand : ByteArray := prog_12_method_33_code
def yX10_hand : MethodName := ⟨RX10, "hand", "(II)I"⟩
abbrev cX10_paper : ByteArray := prog_12_method_34_code
def yX10_paper : MethodName := ⟨RX10, "paper", "(II)I"⟩
abbrev cX10_watch : ByteArray := prog_12_method_35_code
def yX10_watch : MethodName := ⟨RX10, "watch", "(III)I"⟩
abbrev cX10_layShip : ByteArray := prog_12_method_36_code
def yX10_layShip : MethodName := ⟨RX10, "layShip", "(I)V"⟩
abbrev cX10_layHand : ByteArray := prog_12_method_37_code
def yX10_layHand : MethodName := ⟨RX10, "layHand", "(II)V"⟩
abbrev cX10_of : ByteArray := prog_12_method_38_code
def yX10_of : MethodName := ⟨RX10, "of", "(II)I"⟩
abbrev cX10_draw : ByteArray := prog_12_method_39_code
def yX10_draw : MethodName := ⟨RX10, "draw", "(I)I"⟩
abbrev cX10_signOf : ByteArray := prog_12_method_40_code
def yX10_signOf : MethodName := ⟨RX10, "signOf", "(I)I"⟩
abbrev cX10_begin : ByteArray := prog_12_method_41_code
def yX10_begin : MethodName := ⟨RX10, "begin", "(I)V"⟩
abbrev cX10_takes : ByteArray := prog_12_method_42_code
def yX10_takes : MethodName := ⟨RX10, "takes", "(I)V"⟩
abbrev cX10_isStar : ByteArray := prog_12_method_43_code
def yX10_isStar : MethodName := ⟨RX10, "isStar", "(II)Z"⟩
abbrev cX10_sees : ByteArray := prog_12_method_44_code
def yX10_sees : MethodName := ⟨RX10, "sees", "(II)I"⟩
abbrev cX10_wants : ByteArray := prog_12_method_45_code
def yX10_wants : MethodName := ⟨RX10, "wants", "(I)I"⟩
abbrev cX10_pass : ByteArray := prog_12_method_46_code
def yX10_pass : MethodName := ⟨RX10, "pass", "(II)V"⟩
abbrev cX10_tally : ByteArray := prog_12_method_47_code
def yX10_tally : MethodName := ⟨RX10, "tally", "()V"⟩
abbrev cX10_steer : ByteArray := prog_12_method_48_code
def yX10_steer : MethodName := ⟨RX10, "steer", "(II)V"⟩
abbrev cX10_runBy : ByteArray := prog_12_method_49_code
def yX10_runBy : MethodName := ⟨RX10, "runBy", "(ZII)V"⟩
abbrev cX10_cost : ByteArray := prog_12_method_50_code
def yX10_cost : MethodName := ⟨RX10, "cost", "()J"⟩
abbrev cX10_costBy : ByteArray := prog_12_method_51_code
def yX10_costBy : MethodName := ⟨RX10, "costBy", "(I)J"⟩
abbrev cX10_grows : ByteArray := prog_12_method_52_code
def yX10_grows : MethodName := ⟨RX10, "grows", "()Z"⟩
abbrev cX10_lay : ByteArray := prog_12_method_53_code
def yX10_lay : MethodName := ⟨RX10, "lay", "(IIZ)Z"⟩
abbrev cX10_second : ByteArray := prog_12_method_54_code
def yX10_second : MethodName := ⟨RX10, "second", "(IIIII)I"⟩
abbrev cX10_run : ByteArray := prog_12_method_55_code
def yX10_run : MethodName := ⟨RX10, "run", "(IIIII)J"⟩
abbrev cX10_peak : ByteArray := prog_12_method_56_code
def yX10_peak : MethodName := ⟨RX10, "peak", "(IIIII)I"⟩
abbrev cX10_layFor : ByteArray := prog_12_method_57_code
def yX10_layFor : MethodName := ⟨RX10, "layFor", "(III)Z"⟩
abbrev cX10_put : ByteArray := prog_12_method_58_code
def yX10_put : MethodName := ⟨RX10, "put", "(II)V"⟩
abbrev cX10_found : ByteArray := prog_12_method_59_code
def yX10_found : MethodName := ⟨RX10, "found", "(IIIIII)J"⟩
abbrev cX10_iron : ByteArray := prog_12_method_60_code
def yX10_iron : MethodName := ⟨RX10, "iron", "(IIIZ)J"⟩
abbrev cX10_line : ByteArray := prog_12_method_61_code
def yX10_line : MethodName := ⟨RX10, "line", "(IIII)I"⟩
abbrev cX10_alone : ByteArray := prog_12_method_62_code
def yX10_alone : MethodName := ⟨RX10, "alone", "(III)I"⟩
abbrev cX10_hard : ByteArray := prog_12_method_63_code
def yX10_hard : MethodName := ⟨RX10, "hard", "(IIII)I"⟩
abbrev cX10_set : ByteArray := prog_12_method_64_code
def yX10_set : MethodName := ⟨RX10, "set", "(III)I"⟩
abbrev cX10_costWith : ByteArray := prog_12_method_65_code
def yX10_costWith : MethodName := ⟨RX10, "costWith", "(III)J"⟩
abbrev cX10_worth : ByteArray := prog_12_method_66_code
def yX10_worth : MethodName := ⟨RX10, "worth", "(IIII)J"⟩
abbrev cX10_night : ByteArray := prog_12_method_67_code
def yX10_night : MethodName := ⟨RX10, "night", "(IIII)J"⟩
abbrev cX10_cloud : ByteArray := prog_12_method_68_code
def yX10_cloud : MethodName := ⟨RX10, "cloud", "(IIII)I"⟩
abbrev cX10_coarse : ByteArray := prog_12_method_69_code
def yX10_coarse : MethodName := ⟨RX10, "coarse", "(IIII)I"⟩
abbrev cX10_weary : ByteArray := prog_12_method_70_code
def yX10_weary : MethodName := ⟨RX10, "weary", "(IIIIZ)I"⟩
abbrev cX10_third : ByteArray := prog_12_method_71_code
def yX10_third : MethodName := ⟨RX10, "third", "(III)I"⟩
abbrev cX10_tries : ByteArray := prog_12_method_72_code
def yX10_tries : MethodName := ⟨RX10, "tries", "(IIIZ)J"⟩
abbrev cX10_learning : ByteArray := prog_12_method_73_code
def yX10_learning : MethodName := ⟨RX10, "learning", "(IIII)I"⟩
abbrev cX10_steers : ByteArray := prog_12_method_74_code
def yX10_steers : MethodName := ⟨RX10, "steers", "(IIII)J"⟩
abbrev cX10_change : ByteArray := prog_12_method_75_code
def yX10_change : MethodName := ⟨RX10, "change", "(IIII)I"⟩
abbrev cX10_isOrder : ByteArray := prog_12_method_76_code
def yX10_isOrder : MethodName := ⟨RX10, "isOrder", "(III)Z"⟩
abbrev cX10_order : ByteArray := prog_12_method_77_code
def yX10_order : MethodName := ⟨RX10, "order", "(IIII)I"⟩
abbrev cX10_both : ByteArray := prog_12_method_78_code
def yX10_both : MethodName := ⟨RX10, "both", "(IIIIZ)J"⟩
abbrev cX10_apartFrom : ByteArray := prog_12_method_79_code
def yX10_apartFrom : MethodName := ⟨RX10, "apartFrom", "(I)J"⟩
abbrev cX10_apart : ByteArray := prog_12_method_80_code
def yX10_apart : MethodName := ⟨RX10, "apart", "(IIIZ)I"⟩
abbrev cX10_whose : ByteArray := prog_12_method_81_code
def yX10_whose : MethodName := ⟨RX10, "whose", "(II)I"⟩
abbrev cX10_tells : ByteArray := prog_12_method_82_code
def yX10_tells : MethodName := ⟨RX10, "tells", "(III)I"⟩
abbrev cX10_slipped : ByteArray := prog_12_method_83_code
def yX10_slipped : MethodName := ⟨RX10, "slipped", "(IIIIIZ)J"⟩
abbrev cX10_lead : ByteArray := prog_12_method_84_code
def yX10_lead : MethodName := ⟨RX10, "lead", "(IIII)I"⟩
abbrev cX10_bound : ByteArray := prog_12_method_85_code
def yX10_bound : MethodName := ⟨RX10, "bound", "(IIIII)I"⟩
abbrev cX10_costOf : ByteArray := prog_12_method_86_code
def yX10_costOf : MethodName := ⟨RX10, "costOf", "(I)J"⟩
abbrev cX10_first : ByteArray := prog_12_method_87_code
def yX10_first : MethodName := ⟨RX10, "first", "(IIII)I"⟩
abbrev cX10_better : ByteArray := prog_12_method_88_code
def yX10_better : MethodName := ⟨RX10, "better", "(IIII)I"⟩
abbrev cX10_reads : ByteArray := prog_12_method_89_code
def yX10_reads : MethodName := ⟨RX10, "reads", "(IIIIII)I"⟩
abbrev cX10_parted : ByteArray := prog_12_method_90_code
def yX10_parted : MethodName := ⟨RX10, "parted", "(IIII)I"⟩
abbrev cX10_count : ByteArray := prog_12_method_91_code
def yX10_count : MethodName := ⟨RX10, "count", "(I)I"⟩
abbrev cX10_image : ByteArray := prog_12_method_92_code
def yX10_image : MethodName := ⟨RX10, "image", "(I)Z"⟩
abbrev cX10_again : ByteArray := prog_12_method_93_code
def yX10_again : MethodName := ⟨RX10, "again", "(I)Z"⟩
def RJ6 : String := "java/lang/Integer"
def TJ6 : u_T := fun k => match k with
  | _ => ("", "", "", false)
def tyJ6 : Nat → FieldType := fun k => match k with
  | _ => .int
abbrev wsJ60 : List Cond := u_ws RJ6 TJ6 0
theorem nmJ6 : ∀ a, a < 0 → ∀ b, b < 0 → a ≠ b → (TJ6 a).2.1 ≠ (TJ6 b).2.1 := by decide +kernel
theorem tyJ6_ok : ∀ k, k < 0 → parseFieldDescriptor (TJ6 k).2.2.1 = some (tyJ6 k) := by decide +kernel
abbrev cJ6_compare_7cf53 : ByteArray := prog_13_method_40_code
def yJ6_compare_7cf53 : MethodName := ⟨RJ6, "compare", "(II)I"⟩
abbrev cJ6_bitCount_0f7a4 : ByteArray := prog_13_method_49_code
def yJ6_bitCount_0f7a4 : MethodName := ⟨RJ6, "bitCount", "(I)I"⟩
def RJ9 : String := "java/lang/Math"
def TJ9 : u_T := fun k => match k with
  | _ => ("", "", "", false)
def tyJ9 : Nat → FieldType := fun k => match k with
  | _ => .int
abbrev wsJ90 : List Cond := u_ws RJ9 TJ9 0
theorem nmJ9 : ∀ a, a < 0 → ∀ b, b < 0 → a ≠ b → (TJ9 a).2.1 ≠ (TJ9 b).2.1 := by decide +kernel
theorem tyJ9_ok : ∀ k, k < 0 → parseFieldDescriptor (TJ9 k).2.2.1 = some (tyJ9 k) := by decide +kernel
abbrev cJ9_abs_0f7a4 : ByteArray := prog_14_method_59_code
def yJ9_abs_0f7a4 : MethodName := ⟨RJ9, "abs", "(I)I"⟩
abbrev cJ9_abs_067f4 : ByteArray := prog_14_method_61_code
def yJ9_abs_067f4 : MethodName := ⟨RJ9, "abs", "(J)J"⟩
abbrev cJ9_max_7cf53 : ByteArray := prog_14_method_65_code
def yJ9_max_7cf53 : MethodName := ⟨RJ9, "max", "(II)I"⟩
abbrev cJ9_min_7cf53 : ByteArray := prog_14_method_69_code
def yJ9_min_7cf53 : MethodName := ⟨RJ9, "min", "(II)I"⟩
abbrev cJ9_min_f86c9 : ByteArray := prog_14_method_70_code
def yJ9_min_f86c9 : MethodName := ⟨RJ9, "min", "(JJ)J"⟩
def RJ0 : String := "java/lang/String"
def TJ0 : u_T := fun k => match k with
  | _ => ("", "", "", false)
def tyJ0 : Nat → FieldType := fun k => match k with
  | _ => .int
abbrev wsJ00 : List Cond := u_ws RJ0 TJ0 0
theorem nmJ0 : ∀ a, a < 0 → ∀ b, b < 0 → a ≠ b → (TJ0 a).2.1 ≠ (TJ0 b).2.1 := by decide +kernel
theorem tyJ0_ok : ∀ k, k < 0 → parseFieldDescriptor (TJ0 k).2.2.1 = some (tyJ0 k) := by decide +kernel
abbrev cJ0_length_8abf5 : ByteArray := prog_15_method_54_code
def yJ0_length_8abf5 : MethodName := ⟨RJ0, "length", "()I"⟩
abbrev cJ0_charAt_5068e : ByteArray := prog_15_method_56_code
def yJ0_charAt_5068e : MethodName := ⟨RJ0, "charAt", "(I)C"⟩
abbrev cJ0_coder_7d493 : ByteArray := prog_15_method_152_code
def yJ0_coder_7d493 : MethodName := ⟨RJ0, "coder", "()B"⟩
abbrev cJ0_isLatin1_aae02 : ByteArray := prog_15_method_154_code
def yJ0_isLatin1_aae02 : MethodName := ⟨RJ0, "isLatin1", "()Z"⟩
abbrev cJ0_checkIndex_df160 : ByteArray := prog_15_method_155_code
def yJ0_checkIndex_df160 : MethodName := ⟨RJ0, "checkIndex", "(II)V"⟩
def RJ1 : String := "java/lang/StringLatin1"
def TJ1 : u_T := fun k => match k with
  | _ => ("", "", "", false)
def tyJ1 : Nat → FieldType := fun k => match k with
  | _ => .int
abbrev wsJ10 : List Cond := u_ws RJ1 TJ1 0
theorem nmJ1 : ∀ a, a < 0 → ∀ b, b < 0 → a ≠ b → (TJ1 a).2.1 ≠ (TJ1 b).2.1 := by decide +kernel
theorem tyJ1_ok : ∀ k, k < 0 → parseFieldDescriptor (TJ1 k).2.2.1 = some (tyJ1 k) := by decide +kernel
abbrev cJ1_charAt_3b067 : ByteArray := prog_16_method_2_code
def yJ1_charAt_3b067 : MethodName := ⟨RJ1, "charAt", "([BI)C"⟩
def RJ2 : String := "java/lang/StringUTF16"
def TJ2 : u_T := fun k => match k with
  | _ => ("", "", "", false)
def tyJ2 : Nat → FieldType := fun k => match k with
  | _ => .int
abbrev wsJ20 : List Cond := u_ws RJ2 TJ2 0
theorem nmJ2 : ∀ a, a < 0 → ∀ b, b < 0 → a ≠ b → (TJ2 a).2.1 ≠ (TJ2 b).2.1 := by decide +kernel
theorem tyJ2_ok : ∀ k, k < 0 → parseFieldDescriptor (TJ2 k).2.2.1 = some (tyJ2 k) := by decide +kernel
abbrev cJ2_getChar_3b067 : ByteArray := prog_17_method_5_code
def yJ2_getChar_3b067 : MethodName := ⟨RJ2, "getChar", "([BI)C"⟩
abbrev cJ2_length_9d52b : ByteArray := prog_17_method_6_code
def yJ2_length_9d52b : MethodName := ⟨RJ2, "length", "([B)I"⟩
abbrev cJ2_charAt_3b067 : ByteArray := prog_17_method_83_code
def yJ2_charAt_3b067 : MethodName := ⟨RJ2, "charAt", "([BI)C"⟩
abbrev cJ2_checkIndex_2214a : ByteArray := prog_17_method_91_code
def yJ2_checkIndex_2214a : MethodName := ⟨RJ2, "checkIndex", "(I[B)V"⟩
def RJ10 : String := "java/lang/System"
def TJ10 : u_T := fun k => match k with
  | _ => ("", "", "", false)
def tyJ10 : Nat → FieldType := fun k => match k with
  | _ => .int
abbrev wsJ100 : List Cond := u_ws RJ10 TJ10 0
theorem nmJ10 : ∀ a, a < 0 → ∀ b, b < 0 → a ≠ b → (TJ10 a).2.1 ≠ (TJ10 b).2.1 := by decide +kernel
theorem tyJ10_ok : ∀ k, k < 0 → parseFieldDescriptor (TJ10 k).2.2.1 = some (tyJ10 k) := by decide +kernel
def RJ3 : String := "jdk/internal/util/Preconditions"
def TJ3 : u_T := fun k => match k with
  | _ => ("", "", "", false)
def tyJ3 : Nat → FieldType := fun k => match k with
  | _ => .int
abbrev wsJ30 : List Cond := u_ws RJ3 TJ3 0
theorem nmJ3 : ∀ a, a < 0 → ∀ b, b < 0 → a ≠ b → (TJ3 a).2.1 ≠ (TJ3 b).2.1 := by decide +kernel
theorem tyJ3_ok : ∀ k, k < 0 → parseFieldDescriptor (TJ3 k).2.2.1 = some (tyJ3 k) := by decide +kernel
abbrev cJ3_checkIndex_8e157 : ByteArray := prog_19_method_11_code
def yJ3_checkIndex_8e157 : MethodName := ⟨RJ3, "checkIndex", "(IILjava/util/function/BiFunction;)I"⟩
def RL : String := "HelmHandLaw"
abbrev cL_law : ByteArray := code
def yL_law : MethodName := ⟨RL, "law", "([I)Z"⟩
