section
-- ===== PART A: goes FIRST, ahead of the names: the tables' words, and 'selects' of the private methods out of them =====
/-- a private method of a class that the tables say can be made, by its rows of tables_1 -/
def lw_okq (q : MethodName × Nat) : Prop := (q.1.cls ≠ "java/lang/invoke/MethodHandle" ∧ q.1.cls ≠ "java/lang/invoke/VarHandle") ∧ Cond.instantiable q.1.cls q.2 ∈ tables_1 ∧ Cond.privateMethod q.1 ∈ tables_1 ∧ Cond.instanceMethod q.1 ∈ tables_1
theorem lw_p0 : lw_okq (⟨"PrintShore", "tell", "(I)I"⟩, 7) := ⟨⟨by decide +kernel, by decide +kernel⟩, List.mem_of_getElem? (i := 14) (by decide +kernel), List.mem_of_getElem? (i := 146) (by decide +kernel), List.mem_of_getElem? (i := 147) (by decide +kernel)⟩
theorem lw_p1 : lw_okq (⟨"PrintShore$Shore", "goOn", "(I)V"⟩, 8) := ⟨⟨by decide +kernel, by decide +kernel⟩, List.mem_of_getElem? (i := 22) (by decide +kernel), List.mem_of_getElem? (i := 250) (by decide +kernel), List.mem_of_getElem? (i := 251) (by decide +kernel)⟩
theorem lw_p2 : lw_okq (⟨"PrintShore", "hoursUntilWhose", "(II)I"⟩, 7) := ⟨⟨by decide +kernel, by decide +kernel⟩, List.mem_of_getElem? (i := 14) (by decide +kernel), List.mem_of_getElem? (i := 324) (by decide +kernel), List.mem_of_getElem? (i := 325) (by decide +kernel)⟩
theorem lw_p3 : lw_okq (⟨"PrintShore", "traitForMostWork", "(III)I"⟩, 7) := ⟨⟨by decide +kernel, by decide +kernel⟩, List.mem_of_getElem? (i := 14) (by decide +kernel), List.mem_of_getElem? (i := 342) (by decide +kernel), List.mem_of_getElem? (i := 343) (by decide +kernel)⟩
theorem lw_p4 : lw_okq (⟨"PrintShore", "tryTrait", "(IIII)V"⟩, 7) := ⟨⟨by decide +kernel, by decide +kernel⟩, List.mem_of_getElem? (i := 14) (by decide +kernel), List.mem_of_getElem? (i := 346) (by decide +kernel), List.mem_of_getElem? (i := 347) (by decide +kernel)⟩
theorem lw_p5 : lw_okq (⟨"PrintShore", "staysWithout", "(III)Z"⟩, 7) := ⟨⟨by decide +kernel, by decide +kernel⟩, List.mem_of_getElem? (i := 14) (by decide +kernel), List.mem_of_getElem? (i := 371) (by decide +kernel), List.mem_of_getElem? (i := 372) (by decide +kernel)⟩
theorem lw_p6 : lw_okq (⟨"PrintShore", "guessFinding", "(III)I"⟩, 7) := ⟨⟨by decide +kernel, by decide +kernel⟩, List.mem_of_getElem? (i := 14) (by decide +kernel), List.mem_of_getElem? (i := 384) (by decide +kernel), List.mem_of_getElem? (i := 385) (by decide +kernel)⟩
theorem lw_p7 : lw_okq (⟨"PrintShore", "fittingSet", "(IIII)I"⟩, 7) := ⟨⟨by decide +kernel, by decide +kernel⟩, List.mem_of_getElem? (i := 14) (by decide +kernel), List.mem_of_getElem? (i := 402) (by decide +kernel), List.mem_of_getElem? (i := 403) (by decide +kernel)⟩
theorem lw_p8 : lw_okq (⟨"PrintShore", "trialIsAsTold", "(II)Z"⟩, 7) := ⟨⟨by decide +kernel, by decide +kernel⟩, List.mem_of_getElem? (i := 14) (by decide +kernel), List.mem_of_getElem? (i := 406) (by decide +kernel), List.mem_of_getElem? (i := 407) (by decide +kernel)⟩
theorem lw_p9 : lw_okq (⟨"PrintShore$Shore", "draw", "()I"⟩, 8) := ⟨⟨by decide +kernel, by decide +kernel⟩, List.mem_of_getElem? (i := 22) (by decide +kernel), List.mem_of_getElem? (i := 431) (by decide +kernel), List.mem_of_getElem? (i := 432) (by decide +kernel)⟩
theorem lw_p10 : lw_okq (⟨"PrintShore$Tape", "step", "()V"⟩, 6) := ⟨⟨by decide +kernel, by decide +kernel⟩, List.mem_of_getElem? (i := 67) (by decide +kernel), List.mem_of_getElem? (i := 473) (by decide +kernel), List.mem_of_getElem? (i := 474) (by decide +kernel)⟩
theorem lw_p11 : lw_okq (⟨"PrintShore$Tape", "readItem", "(LPrintShore$Shore;)Z"⟩, 6) := ⟨⟨by decide +kernel, by decide +kernel⟩, List.mem_of_getElem? (i := 67) (by decide +kernel), List.mem_of_getElem? (i := 481) (by decide +kernel), List.mem_of_getElem? (i := 482) (by decide +kernel)⟩
theorem lw_p12 : lw_okq (⟨"PrintShore$Tape", "kindOfWord", "()I"⟩, 6) := ⟨⟨by decide +kernel, by decide +kernel⟩, List.mem_of_getElem? (i := 67) (by decide +kernel), List.mem_of_getElem? (i := 485) (by decide +kernel), List.mem_of_getElem? (i := 486) (by decide +kernel)⟩
theorem lw_p13 : lw_okq (⟨"PrintShore$Tape", "isWord", "(Ljava/lang/String;)Z"⟩, 6) := ⟨⟨by decide +kernel, by decide +kernel⟩, List.mem_of_getElem? (i := 67) (by decide +kernel), List.mem_of_getElem? (i := 499) (by decide +kernel), List.mem_of_getElem? (i := 500) (by decide +kernel)⟩
theorem lw_p14 : lw_okq (⟨"PrintShore$Tape", "readWalker", "(LPrintShore$Shore;I)Z"⟩, 6) := ⟨⟨by decide +kernel, by decide +kernel⟩, List.mem_of_getElem? (i := 67) (by decide +kernel), List.mem_of_getElem? (i := 551) (by decide +kernel), List.mem_of_getElem? (i := 552) (by decide +kernel)⟩
theorem lw_p15 : lw_okq (⟨"PrintShore$Tape", "readTrait", "(LPrintShore$Shore;ILjava/lang/String;I)Z"⟩, 6) := ⟨⟨by decide +kernel, by decide +kernel⟩, List.mem_of_getElem? (i := 67) (by decide +kernel), List.mem_of_getElem? (i := 558) (by decide +kernel), List.mem_of_getElem? (i := 559) (by decide +kernel)⟩
def lw_privs_1 : List (MethodName × Nat) := [(⟨"PrintShore", "tell", "(I)I"⟩, 7), (⟨"PrintShore$Shore", "goOn", "(I)V"⟩, 8), (⟨"PrintShore", "hoursUntilWhose", "(II)I"⟩, 7), (⟨"PrintShore", "traitForMostWork", "(III)I"⟩, 7), (⟨"PrintShore", "tryTrait", "(IIII)V"⟩, 7), (⟨"PrintShore", "staysWithout", "(III)Z"⟩, 7), (⟨"PrintShore", "guessFinding", "(III)I"⟩, 7), (⟨"PrintShore", "fittingSet", "(IIII)I"⟩, 7), (⟨"PrintShore", "trialIsAsTold", "(II)Z"⟩, 7), (⟨"PrintShore$Shore", "draw", "()I"⟩, 8), (⟨"PrintShore$Tape", "step", "()V"⟩, 6), (⟨"PrintShore$Tape", "readItem", "(LPrintShore$Shore;)Z"⟩, 6), (⟨"PrintShore$Tape", "kindOfWord", "()I"⟩, 6), (⟨"PrintShore$Tape", "isWord", "(Ljava/lang/String;)Z"⟩, 6), (⟨"PrintShore$Tape", "readWalker", "(LPrintShore$Shore;I)Z"⟩, 6), (⟨"PrintShore$Tape", "readTrait", "(LPrintShore$Shore;ILjava/lang/String;I)Z"⟩, 6)]
theorem lw_r1 : ∀ q ∈ lw_privs_1, lw_okq q := List.forall_mem_cons.mpr ⟨lw_p0, List.forall_mem_cons.mpr ⟨lw_p1, List.forall_mem_cons.mpr ⟨lw_p2, List.forall_mem_cons.mpr ⟨lw_p3, List.forall_mem_cons.mpr ⟨lw_p4, List.forall_mem_cons.mpr ⟨lw_p5, List.forall_mem_cons.mpr ⟨lw_p6, List.forall_mem_cons.mpr ⟨lw_p7, List.forall_mem_cons.mpr ⟨lw_p8, List.forall_mem_cons.mpr ⟨lw_p9, List.forall_mem_cons.mpr ⟨lw_p10, List.forall_mem_cons.mpr ⟨lw_p11, List.forall_mem_cons.mpr ⟨lw_p12, List.forall_mem_cons.mpr ⟨lw_p13, List.forall_mem_cons.mpr ⟨lw_p14, List.forall_mem_cons.mpr ⟨lw_p15, fun _ h => absurd h List.not_mem_nil⟩⟩⟩⟩⟩⟩⟩⟩⟩⟩⟩⟩⟩⟩⟩⟩
theorem lw_p16 : lw_okq (⟨"PrintShore$Tape", "isNumber", "(II)Z"⟩, 6) := ⟨⟨by decide +kernel, by decide +kernel⟩, List.mem_of_getElem? (i := 67) (by decide +kernel), List.mem_of_getElem? (i := 564) (by decide +kernel), List.mem_of_getElem? (i := 565) (by decide +kernel)⟩
theorem lw_p17 : lw_okq (⟨"PrintShore$Tape", "readReach", "(LPrintShore$Shore;)Z"⟩, 6) := ⟨⟨by decide +kernel, by decide +kernel⟩, List.mem_of_getElem? (i := 67) (by decide +kernel), List.mem_of_getElem? (i := 573) (by decide +kernel), List.mem_of_getElem? (i := 574) (by decide +kernel)⟩
theorem lw_p18 : lw_okq (⟨"PrintShore$Tape", "readPrint", "(LPrintShore$Shore;)Z"⟩, 6) := ⟨⟨by decide +kernel, by decide +kernel⟩, List.mem_of_getElem? (i := 67) (by decide +kernel), List.mem_of_getElem? (i := 578) (by decide +kernel), List.mem_of_getElem? (i := 579) (by decide +kernel)⟩
theorem lw_p19 : lw_okq (⟨"PrintShoreModel", "finds", "(I)I"⟩, 15) := ⟨⟨by decide +kernel, by decide +kernel⟩, List.mem_of_getElem? (i := 662) (by decide +kernel), List.mem_of_getElem? (i := 726) (by decide +kernel), List.mem_of_getElem? (i := 727) (by decide +kernel)⟩
theorem lw_p20 : lw_okq (⟨"PrintShoreModel", "walkersAt", "(I)I"⟩, 15) := ⟨⟨by decide +kernel, by decide +kernel⟩, List.mem_of_getElem? (i := 662) (by decide +kernel), List.mem_of_getElem? (i := 731) (by decide +kernel), List.mem_of_getElem? (i := 732) (by decide +kernel)⟩
theorem lw_p21 : lw_okq (⟨"PrintShoreModel", "its", "(II)I"⟩, 15) := ⟨⟨by decide +kernel, by decide +kernel⟩, List.mem_of_getElem? (i := 662) (by decide +kernel), List.mem_of_getElem? (i := 735) (by decide +kernel), List.mem_of_getElem? (i := 736) (by decide +kernel)⟩
theorem lw_p22 : lw_okq (⟨"PrintShoreModel", "isWalker", "(I)Z"⟩, 15) := ⟨⟨by decide +kernel, by decide +kernel⟩, List.mem_of_getElem? (i := 662) (by decide +kernel), List.mem_of_getElem? (i := 743) (by decide +kernel), List.mem_of_getElem? (i := 744) (by decide +kernel)⟩
theorem lw_p23 : lw_okq (⟨"PrintShoreModel", "prints", "(IIII)V"⟩, 15) := ⟨⟨by decide +kernel, by decide +kernel⟩, List.mem_of_getElem? (i := 662) (by decide +kernel), List.mem_of_getElem? (i := 748) (by decide +kernel), List.mem_of_getElem? (i := 749) (by decide +kernel)⟩
theorem lw_p24 : lw_okq (⟨"PrintShoreModel", "becomes", "(II)I"⟩, 15) := ⟨⟨by decide +kernel, by decide +kernel⟩, List.mem_of_getElem? (i := 662) (by decide +kernel), List.mem_of_getElem? (i := 757) (by decide +kernel), List.mem_of_getElem? (i := 758) (by decide +kernel)⟩
theorem lw_p25 : lw_okq (⟨"PrintShoreModel", "theTide", "()I"⟩, 15) := ⟨⟨by decide +kernel, by decide +kernel⟩, List.mem_of_getElem? (i := 662) (by decide +kernel), List.mem_of_getElem? (i := 765) (by decide +kernel), List.mem_of_getElem? (i := 766) (by decide +kernel)⟩
theorem lw_p26 : lw_okq (⟨"PrintShoreModel", "adds", "(II)I"⟩, 15) := ⟨⟨by decide +kernel, by decide +kernel⟩, List.mem_of_getElem? (i := 662) (by decide +kernel), List.mem_of_getElem? (i := 777) (by decide +kernel), List.mem_of_getElem? (i := 778) (by decide +kernel)⟩
theorem lw_p27 : lw_okq (⟨"PrintShoreModel", "sets", "(III)V"⟩, 15) := ⟨⟨by decide +kernel, by decide +kernel⟩, List.mem_of_getElem? (i := 662) (by decide +kernel), List.mem_of_getElem? (i := 781) (by decide +kernel), List.mem_of_getElem? (i := 782) (by decide +kernel)⟩
theorem lw_p28 : lw_okq (⟨"PrintShoreModel", "strides", "(I)I"⟩, 15) := ⟨⟨by decide +kernel, by decide +kernel⟩, List.mem_of_getElem? (i := 662) (by decide +kernel), List.mem_of_getElem? (i := 789) (by decide +kernel), List.mem_of_getElem? (i := 790) (by decide +kernel)⟩
theorem lw_p29 : lw_okq (⟨"PrintShoreModel", "presses", "(I)I"⟩, 15) := ⟨⟨by decide +kernel, by decide +kernel⟩, List.mem_of_getElem? (i := 662) (by decide +kernel), List.mem_of_getElem? (i := 793) (by decide +kernel), List.mem_of_getElem? (i := 794) (by decide +kernel)⟩
theorem lw_p30 : lw_okq (⟨"PrintShoreModel", "looks", "(I)I"⟩, 15) := ⟨⟨by decide +kernel, by decide +kernel⟩, List.mem_of_getElem? (i := 662) (by decide +kernel), List.mem_of_getElem? (i := 799) (by decide +kernel), List.mem_of_getElem? (i := 800) (by decide +kernel)⟩
theorem lw_p31 : lw_okq (⟨"PrintShoreModel", "workOf", "(I)I"⟩, 15) := ⟨⟨by decide +kernel, by decide +kernel⟩, List.mem_of_getElem? (i := 662) (by decide +kernel), List.mem_of_getElem? (i := 803) (by decide +kernel), List.mem_of_getElem? (i := 804) (by decide +kernel)⟩
def lw_privs_2 : List (MethodName × Nat) := [(⟨"PrintShore$Tape", "isNumber", "(II)Z"⟩, 6), (⟨"PrintShore$Tape", "readReach", "(LPrintShore$Shore;)Z"⟩, 6), (⟨"PrintShore$Tape", "readPrint", "(LPrintShore$Shore;)Z"⟩, 6), (⟨"PrintShoreModel", "finds", "(I)I"⟩, 15), (⟨"PrintShoreModel", "walkersAt", "(I)I"⟩, 15), (⟨"PrintShoreModel", "its", "(II)I"⟩, 15), (⟨"PrintShoreModel", "isWalker", "(I)Z"⟩, 15), (⟨"PrintShoreModel", "prints", "(IIII)V"⟩, 15), (⟨"PrintShoreModel", "becomes", "(II)I"⟩, 15), (⟨"PrintShoreModel", "theTide", "()I"⟩, 15), (⟨"PrintShoreModel", "adds", "(II)I"⟩, 15), (⟨"PrintShoreModel", "sets", "(III)V"⟩, 15), (⟨"PrintShoreModel", "strides", "(I)I"⟩, 15), (⟨"PrintShoreModel", "presses", "(I)I"⟩, 15), (⟨"PrintShoreModel", "looks", "(I)I"⟩, 15), (⟨"PrintShoreModel", "workOf", "(I)I"⟩, 15)]
theorem lw_r2 : ∀ q ∈ lw_privs_2, lw_okq q := List.forall_mem_cons.mpr ⟨lw_p16, List.forall_mem_cons.mpr ⟨lw_p17, List.forall_mem_cons.mpr ⟨lw_p18, List.forall_mem_cons.mpr ⟨lw_p19, List.forall_mem_cons.mpr ⟨lw_p20, List.forall_mem_cons.mpr ⟨lw_p21, List.forall_mem_cons.mpr ⟨lw_p22, List.forall_mem_cons.mpr ⟨lw_p23, List.forall_mem_cons.mpr ⟨lw_p24, List.forall_mem_cons.mpr ⟨lw_p25, List.forall_mem_cons.mpr ⟨lw_p26, List.forall_mem_cons.mpr ⟨lw_p27, List.forall_mem_cons.mpr ⟨lw_p28, List.forall_mem_cons.mpr ⟨lw_p29, List.forall_mem_cons.mpr ⟨lw_p30, List.forall_mem_cons.mpr ⟨lw_p31, fun _ h => absurd h List.not_mem_nil⟩⟩⟩⟩⟩⟩⟩⟩⟩⟩⟩⟩⟩⟩⟩⟩
theorem lw_p32 : lw_okq (⟨"PrintShoreModel", "hours", "(I)V"⟩, 15) := ⟨⟨by decide +kernel, by decide +kernel⟩, List.mem_of_getElem? (i := 662) (by decide +kernel), List.mem_of_getElem? (i := 821) (by decide +kernel), List.mem_of_getElem? (i := 822) (by decide +kernel)⟩
theorem lw_p33 : lw_okq (⟨"PrintShoreModel", "anHour", "()V"⟩, 15) := ⟨⟨by decide +kernel, by decide +kernel⟩, List.mem_of_getElem? (i := 662) (by decide +kernel), List.mem_of_getElem? (i := 825) (by decide +kernel), List.mem_of_getElem? (i := 826) (by decide +kernel)⟩
theorem lw_p34 : lw_okq (⟨"PrintShoreModel", "goes", "(I)V"⟩, 15) := ⟨⟨by decide +kernel, by decide +kernel⟩, List.mem_of_getElem? (i := 662) (by decide +kernel), List.mem_of_getElem? (i := 829) (by decide +kernel), List.mem_of_getElem? (i := 830) (by decide +kernel)⟩
theorem lw_p35 : lw_okq (⟨"PrintShoreModel", "printed", "()I"⟩, 15) := ⟨⟨by decide +kernel, by decide +kernel⟩, List.mem_of_getElem? (i := 662) (by decide +kernel), List.mem_of_getElem? (i := 833) (by decide +kernel), List.mem_of_getElem? (i := 834) (by decide +kernel)⟩
theorem lw_p36 : lw_okq (⟨"PrintShoreModel", "depths", "()I"⟩, 15) := ⟨⟨by decide +kernel, by decide +kernel⟩, List.mem_of_getElem? (i := 662) (by decide +kernel), List.mem_of_getElem? (i := 844) (by decide +kernel), List.mem_of_getElem? (i := 845) (by decide +kernel)⟩
theorem lw_p37 : lw_okq (⟨"PrintShoreModel", "greatest", "()I"⟩, 15) := ⟨⟨by decide +kernel, by decide +kernel⟩, List.mem_of_getElem? (i := 662) (by decide +kernel), List.mem_of_getElem? (i := 848) (by decide +kernel), List.mem_of_getElem? (i := 849) (by decide +kernel)⟩
theorem lw_p38 : lw_okq (⟨"PrintShoreModel", "allSteps", "()I"⟩, 15) := ⟨⟨by decide +kernel, by decide +kernel⟩, List.mem_of_getElem? (i := 662) (by decide +kernel), List.mem_of_getElem? (i := 852) (by decide +kernel), List.mem_of_getElem? (i := 853) (by decide +kernel)⟩
theorem lw_p39 : lw_okq (⟨"PrintShoreModel", "lends", "()V"⟩, 15) := ⟨⟨by decide +kernel, by decide +kernel⟩, List.mem_of_getElem? (i := 662) (by decide +kernel), List.mem_of_getElem? (i := 869) (by decide +kernel), List.mem_of_getElem? (i := 870) (by decide +kernel)⟩
theorem lw_p40 : lw_okq (⟨"PrintShoreModel", "laysBack", "()V"⟩, 15) := ⟨⟨by decide +kernel, by decide +kernel⟩, List.mem_of_getElem? (i := 662) (by decide +kernel), List.mem_of_getElem? (i := 876) (by decide +kernel), List.mem_of_getElem? (i := 877) (by decide +kernel)⟩
theorem lw_p41 : lw_okq (⟨"PrintShoreModel", "workIn", "(II)I"⟩, 15) := ⟨⟨by decide +kernel, by decide +kernel⟩, List.mem_of_getElem? (i := 662) (by decide +kernel), List.mem_of_getElem? (i := 884) (by decide +kernel), List.mem_of_getElem? (i := 885) (by decide +kernel)⟩
theorem lw_p42 : lw_okq (⟨"PrintShoreModel", "orNone", "(II)I"⟩, 15) := ⟨⟨by decide +kernel, by decide +kernel⟩, List.mem_of_getElem? (i := 662) (by decide +kernel), List.mem_of_getElem? (i := 892) (by decide +kernel), List.mem_of_getElem? (i := 893) (by decide +kernel)⟩
theorem lw_p43 : lw_okq (⟨"PrintShoreModel", "isAsked", "(II)Z"⟩, 15) := ⟨⟨by decide +kernel, by decide +kernel⟩, List.mem_of_getElem? (i := 662) (by decide +kernel), List.mem_of_getElem? (i := 908) (by decide +kernel), List.mem_of_getElem? (i := 909) (by decide +kernel)⟩
theorem lw_p44 : lw_okq (⟨"PrintShoreModel", "bestBy", "(IIIII)I"⟩, 15) := ⟨⟨by decide +kernel, by decide +kernel⟩, List.mem_of_getElem? (i := 662) (by decide +kernel), List.mem_of_getElem? (i := 916) (by decide +kernel), List.mem_of_getElem? (i := 917) (by decide +kernel)⟩
theorem lw_p45 : lw_okq (⟨"PrintShoreModel", "whoseIn", "(II)I"⟩, 15) := ⟨⟨by decide +kernel, by decide +kernel⟩, List.mem_of_getElem? (i := 662) (by decide +kernel), List.mem_of_getElem? (i := 932) (by decide +kernel), List.mem_of_getElem? (i := 933) (by decide +kernel)⟩
theorem lw_p46 : lw_okq (⟨"PrintShoreModel", "lacksAsked", "(III)I"⟩, 15) := ⟨⟨by decide +kernel, by decide +kernel⟩, List.mem_of_getElem? (i := 662) (by decide +kernel), List.mem_of_getElem? (i := 953) (by decide +kernel), List.mem_of_getElem? (i := 954) (by decide +kernel)⟩
theorem lw_p47 : lw_okq (⟨"PrintShoreModel", "lacks", "(I)I"⟩, 15) := ⟨⟨by decide +kernel, by decide +kernel⟩, List.mem_of_getElem? (i := 662) (by decide +kernel), List.mem_of_getElem? (i := 957) (by decide +kernel), List.mem_of_getElem? (i := 958) (by decide +kernel)⟩
def lw_privs_3 : List (MethodName × Nat) := [(⟨"PrintShoreModel", "hours", "(I)V"⟩, 15), (⟨"PrintShoreModel", "anHour", "()V"⟩, 15), (⟨"PrintShoreModel", "goes", "(I)V"⟩, 15), (⟨"PrintShoreModel", "printed", "()I"⟩, 15), (⟨"PrintShoreModel", "depths", "()I"⟩, 15), (⟨"PrintShoreModel", "greatest", "()I"⟩, 15), (⟨"PrintShoreModel", "allSteps", "()I"⟩, 15), (⟨"PrintShoreModel", "lends", "()V"⟩, 15), (⟨"PrintShoreModel", "laysBack", "()V"⟩, 15), (⟨"PrintShoreModel", "workIn", "(II)I"⟩, 15), (⟨"PrintShoreModel", "orNone", "(II)I"⟩, 15), (⟨"PrintShoreModel", "isAsked", "(II)Z"⟩, 15), (⟨"PrintShoreModel", "bestBy", "(IIIII)I"⟩, 15), (⟨"PrintShoreModel", "whoseIn", "(II)I"⟩, 15), (⟨"PrintShoreModel", "lacksAsked", "(III)I"⟩, 15), (⟨"PrintShoreModel", "lacks", "(I)I"⟩, 15)]
theorem lw_r3 : ∀ q ∈ lw_privs_3, lw_okq q := List.forall_mem_cons.mpr ⟨lw_p32, List.forall_mem_cons.mpr ⟨lw_p33, List.forall_mem_cons.mpr ⟨lw_p34, List.forall_mem_cons.mpr ⟨lw_p35, List.forall_mem_cons.mpr ⟨lw_p36, List.forall_mem_cons.mpr ⟨lw_p37, List.forall_mem_cons.mpr ⟨lw_p38, List.forall_mem_cons.mpr ⟨lw_p39, List.forall_mem_cons.mpr ⟨lw_p40, List.forall_mem_cons.mpr ⟨lw_p41, List.forall_mem_cons.mpr ⟨lw_p42, List.forall_mem_cons.mpr ⟨lw_p43, List.forall_mem_cons.mpr ⟨lw_p44, List.forall_mem_cons.mpr ⟨lw_p45, List.forall_mem_cons.mpr ⟨lw_p46, List.forall_mem_cons.mpr ⟨lw_p47, fun _ h => absurd h List.not_mem_nil⟩⟩⟩⟩⟩⟩⟩⟩⟩⟩⟩⟩⟩⟩⟩⟩
theorem lw_p48 : lw_okq (⟨"PrintShoreModel", "thoseBy", "(IIIIII)I"⟩, 15) := ⟨⟨by decide +kernel, by decide +kernel⟩, List.mem_of_getElem? (i := 662) (by decide +kernel), List.mem_of_getElem? (i := 964) (by decide +kernel), List.mem_of_getElem? (i := 965) (by decide +kernel)⟩
theorem lw_p49 : lw_okq (⟨"PrintShoreModel", "isSo", "(III)Z"⟩, 15) := ⟨⟨by decide +kernel, by decide +kernel⟩, List.mem_of_getElem? (i := 662) (by decide +kernel), List.mem_of_getElem? (i := 968) (by decide +kernel), List.mem_of_getElem? (i := 969) (by decide +kernel)⟩
theorem lw_p50 : lw_okq (⟨"PrintShoreModel", "draw", "()I"⟩, 15) := ⟨⟨by decide +kernel, by decide +kernel⟩, List.mem_of_getElem? (i := 662) (by decide +kernel), List.mem_of_getElem? (i := 984) (by decide +kernel), List.mem_of_getElem? (i := 985) (by decide +kernel)⟩
theorem lw_p51 : lw_okq (⟨"PrintShoreModel", "next", "()V"⟩, 15) := ⟨⟨by decide +kernel, by decide +kernel⟩, List.mem_of_getElem? (i := 662) (by decide +kernel), List.mem_of_getElem? (i := 1012) (by decide +kernel), List.mem_of_getElem? (i := 1013) (by decide +kernel)⟩
theorem lw_p52 : lw_okq (⟨"PrintShoreModel", "isByte", "(III)Z"⟩, 15) := ⟨⟨by decide +kernel, by decide +kernel⟩, List.mem_of_getElem? (i := 662) (by decide +kernel), List.mem_of_getElem? (i := 1016) (by decide +kernel), List.mem_of_getElem? (i := 1017) (by decide +kernel)⟩
theorem lw_p53 : lw_okq (⟨"PrintShoreModel", "item", "()V"⟩, 15) := ⟨⟨by decide +kernel, by decide +kernel⟩, List.mem_of_getElem? (i := 662) (by decide +kernel), List.mem_of_getElem? (i := 1020) (by decide +kernel), List.mem_of_getElem? (i := 1021) (by decide +kernel)⟩
theorem lw_p54 : lw_okq (⟨"PrintShoreModel", "kindHere", "()I"⟩, 15) := ⟨⟨by decide +kernel, by decide +kernel⟩, List.mem_of_getElem? (i := 662) (by decide +kernel), List.mem_of_getElem? (i := 1024) (by decide +kernel), List.mem_of_getElem? (i := 1025) (by decide +kernel)⟩
theorem lw_p55 : lw_okq (⟨"PrintShoreModel", "isWord", "(Ljava/lang/String;)Z"⟩, 15) := ⟨⟨by decide +kernel, by decide +kernel⟩, List.mem_of_getElem? (i := 662) (by decide +kernel), List.mem_of_getElem? (i := 1029) (by decide +kernel), List.mem_of_getElem? (i := 1030) (by decide +kernel)⟩
theorem lw_p56 : lw_okq (⟨"PrintShoreModel", "walkerTold", "(I)V"⟩, 15) := ⟨⟨by decide +kernel, by decide +kernel⟩, List.mem_of_getElem? (i := 662) (by decide +kernel), List.mem_of_getElem? (i := 1041) (by decide +kernel), List.mem_of_getElem? (i := 1042) (by decide +kernel)⟩
theorem lw_p57 : lw_okq (⟨"PrintShoreModel", "must", "(Z)V"⟩, 15) := ⟨⟨by decide +kernel, by decide +kernel⟩, List.mem_of_getElem? (i := 662) (by decide +kernel), List.mem_of_getElem? (i := 1045) (by decide +kernel), List.mem_of_getElem? (i := 1046) (by decide +kernel)⟩
theorem lw_p58 : lw_okq (⟨"PrintShoreModel", "takes", "(Ljava/lang/String;)Z"⟩, 15) := ⟨⟨by decide +kernel, by decide +kernel⟩, List.mem_of_getElem? (i := 662) (by decide +kernel), List.mem_of_getElem? (i := 1050) (by decide +kernel), List.mem_of_getElem? (i := 1051) (by decide +kernel)⟩
theorem lw_p59 : lw_okq (⟨"PrintShoreModel", "numberRead", "(II)I"⟩, 15) := ⟨⟨by decide +kernel, by decide +kernel⟩, List.mem_of_getElem? (i := 662) (by decide +kernel), List.mem_of_getElem? (i := 1054) (by decide +kernel), List.mem_of_getElem? (i := 1055) (by decide +kernel)⟩
theorem lw_p60 : lw_okq (⟨"PrintShoreModel", "printTold", "()V"⟩, 15) := ⟨⟨by decide +kernel, by decide +kernel⟩, List.mem_of_getElem? (i := 662) (by decide +kernel), List.mem_of_getElem? (i := 1063) (by decide +kernel), List.mem_of_getElem? (i := 1064) (by decide +kernel)⟩
theorem lw_p61 : lw_okq (⟨"PrintShoreModel", "held", "()I"⟩, 15) := ⟨⟨by decide +kernel, by decide +kernel⟩, List.mem_of_getElem? (i := 662) (by decide +kernel), List.mem_of_getElem? (i := 1121) (by decide +kernel), List.mem_of_getElem? (i := 1122) (by decide +kernel)⟩
def lw_privs_4 : List (MethodName × Nat) := [(⟨"PrintShoreModel", "thoseBy", "(IIIIII)I"⟩, 15), (⟨"PrintShoreModel", "isSo", "(III)Z"⟩, 15), (⟨"PrintShoreModel", "draw", "()I"⟩, 15), (⟨"PrintShoreModel", "next", "()V"⟩, 15), (⟨"PrintShoreModel", "isByte", "(III)Z"⟩, 15), (⟨"PrintShoreModel", "item", "()V"⟩, 15), (⟨"PrintShoreModel", "kindHere", "()I"⟩, 15), (⟨"PrintShoreModel", "isWord", "(Ljava/lang/String;)Z"⟩, 15), (⟨"PrintShoreModel", "walkerTold", "(I)V"⟩, 15), (⟨"PrintShoreModel", "must", "(Z)V"⟩, 15), (⟨"PrintShoreModel", "takes", "(Ljava/lang/String;)Z"⟩, 15), (⟨"PrintShoreModel", "numberRead", "(II)I"⟩, 15), (⟨"PrintShoreModel", "printTold", "()V"⟩, 15), (⟨"PrintShoreModel", "held", "()I"⟩, 15)]
theorem lw_r4 : ∀ q ∈ lw_privs_4, lw_okq q := List.forall_mem_cons.mpr ⟨lw_p48, List.forall_mem_cons.mpr ⟨lw_p49, List.forall_mem_cons.mpr ⟨lw_p50, List.forall_mem_cons.mpr ⟨lw_p51, List.forall_mem_cons.mpr ⟨lw_p52, List.forall_mem_cons.mpr ⟨lw_p53, List.forall_mem_cons.mpr ⟨lw_p54, List.forall_mem_cons.mpr ⟨lw_p55, List.forall_mem_cons.mpr ⟨lw_p56, List.forall_mem_cons.mpr ⟨lw_p57, List.forall_mem_cons.mpr ⟨lw_p58, List.forall_mem_cons.mpr ⟨lw_p59, List.forall_mem_cons.mpr ⟨lw_p60, List.forall_mem_cons.mpr ⟨lw_p61, fun _ h => absurd h List.not_mem_nil⟩⟩⟩⟩⟩⟩⟩⟩⟩⟩⟩⟩⟩⟩
def lw_privs : List (MethodName × Nat) := lw_privs_1 ++ (lw_privs_2 ++ (lw_privs_3 ++ (lw_privs_4)))
def lw_tbl : List Cond := k2_sels lw_privs ++ tables_1
theorem lw_privs_ok : ∀ q ∈ lw_privs, lw_okq q := by
  show ∀ q ∈ lw_privs_1 ++ (lw_privs_2 ++ (lw_privs_3 ++ (lw_privs_4))), lw_okq q
  exact List.forall_mem_append.mpr ⟨lw_r1, List.forall_mem_append.mpr ⟨lw_r2, List.forall_mem_append.mpr ⟨lw_r3, lw_r4⟩⟩⟩
end
section
/-! ===== BEGIN words of one list among another's, by their places ===== -/
theorem goodIn_r {big : List Cond} (ws : List Cond) (ps : List Nat) (hp : ws = ps.filterMap (fun i => big[i]?)) (h : ws.all goodWord = true) : GoodIn big ws := by
  intro w hw
  have h1 := List.all_eq_true.mp h w hw
  rw [hp] at hw
  obtain ⟨i, -, hi⟩ := List.mem_filterMap.mp hw
  have hm : w ∈ big := by first | exact List.mem_of_getElem? hi | exact List.getElem?_mem hi
  exact ⟨hm, good_of_word h1⟩
theorem goodIn_app {big a b : List Cond} (ha : GoodIn big a) (hb : GoodIn big b) : GoodIn big (a ++ b) := fun w h => (List.mem_append.mp h).elim (ha w) (hb w)
theorem goodIn_ca {big a b : List Cond} {c : Cond} (ha : GoodIn big (c :: a)) (hb : GoodIn big b) : GoodIn big (c :: (a ++ b)) := fun w h => (List.mem_cons.mp h).elim (fun e => ha w (List.mem_cons.mpr (Or.inl e))) (fun h => (List.mem_append.mp h).elim (fun h => ha w (List.mem_cons.mpr (Or.inr h))) (hb w))
theorem goodIn_sub {big ws : List Cond} (hm : ∀ w ∈ ws, w ∈ big) (h : ws.all goodWord = true) : GoodIn big ws := fun w hw => ⟨hm w hw, good_of_word (List.all_eq_true.mp h w hw)⟩
/-! ===== END ===== -/

def va_AOA (t : FieldType) (U : State) : Prop := (Cond.arrayOver (.array t)).before #[] U = true
theorem va_AOA.use {t : FieldType} {A : Array Value} {U : State} (h : va_AOA t U) : (Cond.arrayOver (.array t)).before A U = true := h
/-! ===== BEGIN new T[n][m]: the outer array a place, the inner ones among the pooled ===== -/
/-- f, but v at every address of l -/
def vr_up {α : Type} (f : Nat → α) (l : List Nat) (v : α) : Nat → α := fun a => if a ∈ l then v else f a
theorem vr_up_in {α : Type} {f : Nat → α} {l : List Nat} {v : α} {a : Nat} (h : a ∈ l) : vr_up f l v a = v := if_pos h
theorem vr_up_ne {α : Type} {f : Nat → α} {l : List Nat} {v : α} {a : Nat} (h : a ∉ l) : vr_up f l v a = f a := if_neg h
theorem vr_rows {L l : List Nat} {f : Nat → va_E} {e : va_E} (h : ∀ a, a ∈ l → a ∉ L) : va_pl L f ++ l.map (fun a => (a, e)) = va_pl (L ++ l) (vr_up f l e) := by
  unfold va_pl
  rw [List.map_append]
  congr 1
  · apply List.map_congr_left
    intro a ha
    rw [vr_up_ne (fun q => h a q ha)]
  · apply List.map_congr_left
    intro a ha
    rw [vr_up_in ha]
theorem vr_lay {X rows : va_W} {x : Nat × va_E} {pl : va_W} {D : va_G} {cl : List vw_C} {H : Heap} (hP : va_P D cl (((X ++ pl) ++ [x]) ++ rows) H) : va_P D cl ((X ++ [x]) ++ (pl ++ rows)) H := by
  rw [List.append_assoc (X ++ pl)] at hP
  have h := va_P.swap hP
  rw [← List.append_assoc X] at h
  have h2 := va_P.swap h
  rw [List.append_assoc (X ++ [x])] at h2
  exact h2
theorem vr_layD {X rows : va_W} {x : Nat × va_E} {pl : va_W} {A : Nat → Prop} (hD : va_D A (((X ++ pl) ++ [x]) ++ rows)) : va_D A ((X ++ [x]) ++ (pl ++ rows)) := by
  rw [List.append_assoc (X ++ pl)] at hD
  have h := va_D.swap hD
  rw [← List.append_assoc X] at h
  have h2 := va_D.swap h
  rw [List.append_assoc (X ++ [x])] at h2
  exact h2
theorem vr_outer (c : ClassId) (N h0 : Nat) : ∀ i : Nat, Jvm.Free.Multi.outerC c N h0 i = arrV c N (fun j => va_rf (if j < i then some (h0 + 1 + j) else none))
  | 0 => by
    show ({ cls := c, slots := Array.replicate N .null, vm := .none } : Cell) = _
    rw [arrV_new]
    refine congrArg (arrV c N) (funext fun j => ?_)
    simp [va_rf]
  | i + 1 => by
    show (Jvm.Free.Multi.outerC c N h0 i).setSlot i (.ref (h0 + 1 + i)) = _
    rw [vr_outer c N h0 i, arrV_store]
    refine congrArg (arrV c N) (funext fun j => ?_)
    by_cases e : j = i
    · subst e
      simp [updV, va_rf]
    · by_cases h : j < i
      · simp [updV, e, h, Nat.lt_succ_of_lt h]
      · simp [updV, e, h, show ¬ j < i + 1 by omega]
section VGM
variable {p : Program} {l : Launch} {e : Env} {R : Room} {s : State} {m : MethodId} {args : Array Value} {below : List Frame} {meth : Method} {c : Code} {H : Heap} {locs : List Loc} {cells slots : Nat} {Q : State → Prop}
variable {cc : ByteArray} {pc : Nat} {ls : Array Slot} {rest : List Value} {D : va_G} {cl : List vw_C} {A : Nat → Prop} {a : Nat} {tys : List (ClassId × FieldType)} {ws : va_W} {H0 : Heap}
theorem va_mna {X : va_W} {L : List Nat} {f : Nat → va_E} {cc : ByteArray} (hexec : p.tables.exec = Jvm.exec) (hb : c.code = cc) {own : String} {index : Nat} {ty : FieldType} {cy : ClassId} (hown : s.vm.findClass own = some m.cls) (hclink : (Cond.classLink own index ("[" ++ (FieldType.array ty).toString)).before args s = true) (hover : va_AOA ty s) (harr : (Cond.arrayClass ty).before args s = true) (hcy : s.vm.findClass (FieldType.array ty).toString = some cy)
    (hK : va_K D cl tys s) (hP : va_P D cl (X ++ va_pl L f) H) (hD : va_D A (X ++ va_pl L f)) (hS : va_S A H0 H locs) (hA : ∀ q, H0.size ≤ q → A q) {n k : Int32} {N' K' : Nat} {z : vp_A} (hn : ¬ n < 0) (hk : ¬ k < 0) (hN : n.toNatClampNeg = N') (hM : k.toNatClampNeg = K')
    (hb1 : N' * 4 ≤ 536870912) (hb2 : K' * componentBytes ty ≤ 536870912) (hb3 : K' ≤ 536870912) (hdf : fits ty (defaultValue ty) = true) (hdd : (defaultValue ty).isDefault = true) (hcells : cells + (1 + N') ≤ R.cells) (hslots : slots + (N' + N' * K') ≤ R.slots) (hz : ∀ c : ClassId, Jvm.Free.Multi.innerC c K' (defaultValue ty) = vp_cell c z) (hdg : decode cc pc = .ok (.multianewarray index 2, 4))
    (kk : ∀ (q : Nat) (r : Nat → Nat) (cA : ClassId) (H1 : Heap), (∀ i j : Nat, i < N' → j < N' → r i = r j → i = j) → (∀ i : Nat, i < N' → r i ∉ L) → va_K D cl (tys ++ [(cA, .array ty)]) s →
      va_P D cl ((X ++ [(q, .inl (cA, N', .inr (.inr (.inr (.inr (fun i => if i < N' then some (r i) else none))))))]) ++ va_pl (L ++ (List.range N').map r) (vr_up f ((List.range N').map r) (.inl (cy, z)))) H1 → va_D A ((X ++ [(q, .inl (cA, N', .inr (.inr (.inr (.inr (fun i => if i < N' then some (r i) else none))))))]) ++ va_pl (L ++ (List.range N').map r) (vr_up f ((List.range N').map r) (.inl (cy, z)))) → va_S A H0 H1 locs →
      W p l e R s m args below meth c H1 locs (cells + 1 + N') (slots + N' + N' * K') Q (F0 m (pc + 4) ls (.ref q :: rest))) : W p l e R s m args below meth c H locs cells slots Q (F0 m pc ls (.int k :: .int n :: rest)) := by
  subst hN
  subst hM
  intro T hT Xs
  obtain ⟨vm₁, cA, comp, -, fA, fC, hO, -, X', step⟩ := Xs.multianewarray2F hexec hown hclink (va_AOA.use hover) harr (g := F0 m pc ls (.int k :: .int n :: rest)) rfl (by rw [hb]; exact hdg) rfl hn hk hb1 hb2 hb3 hdf hdd hcells hslots
  have ec : some cy = some comp := hcy.symm.trans fC
  cases ec
  generalize hF : Jvm.Free.Multi.fill (T.setVm vm₁) cA cy n.toNatClampNeg k.toNatClampNeg (defaultValue ty) n.toNatClampNeg = F at X' step
  have hTh : (T.setVm vm₁).heap = H := hT
  obtain ⟨f1, f2, -, -⟩ := Jvm.Free.Multi.fill_facts (T.setVm vm₁) cA cy n.toNatClampNeg k.toNatClampNeg (defaultValue ty) n.toNatClampNeg
  rw [hF, hTh] at f1 f2
  have hold : ∀ x : Nat, x < H.size → F.heap[x]? = H[x]? := fun x hx => by
    have := Jvm.Free.Multi.fill_old (T.setVm vm₁) cA cy n.toNatClampNeg k.toNatClampNeg (defaultValue ty) (a := x) (by rw [hTh]; exact hx) n.toNatClampNeg
    rw [hF, hTh] at this
    exact this
  have hrow : ∀ j : Nat, j < n.toNatClampNeg → F.heap[H.size + 1 + j]? = some (vp_cell cy z) := fun j hj => by
    have := Jvm.Free.Multi.fill_inner (T.setVm vm₁) cA cy n.toNatClampNeg k.toNatClampNeg (defaultValue ty) n.toNatClampNeg j hj
    rw [hF, hTh, hz] at this
    exact this
  have hout : Jvm.Free.Multi.outerC cA n.toNatClampNeg H.size n.toNatClampNeg = vp_cell cA (n.toNatClampNeg, .inr (.inr (.inr (.inr (fun i => if i < n.toNatClampNeg then some (H.size + 1 + i) else none))))) := by
    rw [vp_cell_q]
    exact vr_outer cA n.toNatClampNeg H.size n.toNatClampNeg
  rw [hout] at f2
  have hlt : ∀ a, a ∈ L → a < H.size := fun a ha => by
    obtain ⟨k9, hk9⟩ := va_pl_get (X := X) (f := f) ha
    exact (hP k9 _ hk9).lt
  have hnl : ∀ i : Nat, i < n.toNatClampNeg → H.size + 1 + i ∉ L := fun i _ h => by
    have := hlt _ h
    omega
  have hnm : ∀ a, a ∈ (List.range n.toNatClampNeg).map (fun i => H.size + 1 + i) → a ∉ L := fun a ha h => by
    obtain ⟨i, -, rfl⟩ := List.mem_map.mp ha
    have := hlt _ h
    omega
  have hP0 : va_P D cl (X ++ va_pl L f) F.heap := hP.kept (fun k9 x hx => hold x.1 ((hP k9 x hx).lt))
  have hP1 : va_P D cl ((X ++ va_pl L f) ++ [(H.size, .inl (cA, n.toNatClampNeg, .inr (.inr (.inr (.inr (fun i => if i < n.toNatClampNeg then some (H.size + 1 + i) else none))))))]) F.heap := hP0.app (fun k9 x hx => by
    have h0 : k9 < 1 := (List.getElem?_eq_some_iff.mp hx).1
    rw [show k9 = 0 by omega] at hx
    cases hx
    exact f2)
  have hP2 : va_P D cl (((X ++ va_pl L f) ++ [(H.size, .inl (cA, n.toNatClampNeg, .inr (.inr (.inr (.inr (fun i => if i < n.toNatClampNeg then some (H.size + 1 + i) else none))))))]) ++ ((List.range n.toNatClampNeg).map (fun i => H.size + 1 + i)).map (fun a => (a, .inl (cy, z)))) F.heap := hP1.app (fun k9 x hx => by
    obtain ⟨a, ha, rfl⟩ := List.mem_map.mp (List.mem_of_getElem? hx)
    obtain ⟨i, hi, rfl⟩ := List.mem_map.mp ha
    exact hrow i (List.mem_range.mp hi))
  have hD2 : va_D A (((X ++ va_pl L f) ++ [(H.size, .inl (cA, n.toNatClampNeg, .inr (.inr (.inr (.inr (fun i => if i < n.toNatClampNeg then some (H.size + 1 + i) else none))))))]) ++ ((List.range n.toNatClampNeg).map (fun i => H.size + 1 + i)).map (fun a => (a, .inl (cy, z)))) := by
    have hD1 := hD.push (e := .inl (cA, n.toNatClampNeg, .inr (.inr (.inr (.inr (fun i => if i < n.toNatClampNeg then some (H.size + 1 + i) else none)))))) hP rfl (hA _ hS.1)
    generalize hW1 : (X ++ va_pl L f) ++ [(H.size, .inl (cA, n.toNatClampNeg, .inr (.inr (.inr (.inr (fun i => if i < n.toNatClampNeg then some (H.size + 1 + i) else none))))))] = W1 at hD1 hP1 ⊢
    have hle : ∀ (k9 : Nat) (x : Nat × va_E), W1[k9]? = some x → x.1 ≤ H.size := fun k9 x hx => by
      rw [← hW1] at hx
      by_cases hl : k9 < (X ++ va_pl L f).length
      · rw [List.getElem?_append_left hl] at hx
        exact Nat.le_of_lt ((hP k9 x hx).lt)
      · rw [List.getElem?_append_right (by omega)] at hx
        have h0 : k9 - (X ++ va_pl L f).length < 1 := (List.getElem?_eq_some_iff.mp hx).1
        rw [show k9 - (X ++ va_pl L f).length = 0 by omega] at hx
        cases hx
        exact Nat.le_refl _
    have hr : ∀ (k9 : Nat) (x : Nat × va_E), (((List.range n.toNatClampNeg).map (fun i => H.size + 1 + i)).map (fun a => ((a, .inl (cy, z)) : Nat × va_E)))[k9]? = some x → x.1 = H.size + 1 + k9 := fun k9 x hx => by
      rw [List.getElem?_map, List.getElem?_map] at hx
      by_cases h9 : k9 < n.toNatClampNeg
      · rw [List.getElem?_range h9] at hx
        cases hx
        rfl
      · have hn0 : (List.range n.toNatClampNeg)[k9]? = none := List.getElem?_eq_none (by rw [List.length_range]; omega)
        rw [hn0] at hx
        cases hx
    refine ⟨fun i j x y hi hj hxy => ?_, fun k9 x hx => ?_⟩
    · by_cases h1 : i < W1.length <;> by_cases h2 : j < W1.length
      · rw [List.getElem?_append_left h1] at hi
        rw [List.getElem?_append_left h2] at hj
        exact hD1.1 i j x y hi hj hxy
      · rw [List.getElem?_append_left h1] at hi
        rw [List.getElem?_append_right (by omega)] at hj
        have := hle _ _ hi
        have := hr _ _ hj
        omega
      · rw [List.getElem?_append_right (by omega)] at hi
        rw [List.getElem?_append_left h2] at hj
        have := hle _ _ hj
        have := hr _ _ hi
        omega
      · rw [List.getElem?_append_right (by omega)] at hi hj
        have := hr _ _ hi
        have := hr _ _ hj
        omega
    · by_cases h1 : k9 < W1.length
      · rw [List.getElem?_append_left h1] at hx
        exact hD1.2 k9 x hx
      · rw [List.getElem?_append_right (by omega)] at hx
        have := hr _ _ hx
        exact hA _ (by have := hS.1; omega)
  have hAr : ArrOfT s cA (.array ty) := fun N9 z9 => by
    obtain ⟨-, k9, hk9, cm9, hkk9⟩ := (hO 0 0 0).1
    exact ⟨(fun q hq => by cases hq), k9, hk9, cm9, hkk9⟩
  have hK2 : va_K D cl (tys ++ [(cA, .array ty)]) s := ⟨hK.1, fun k9 x hx => by
    by_cases hl : k9 < tys.length
    · rw [List.getElem?_append_left hl] at hx
      exact hK.2 k9 x hx
    · rw [List.getElem?_append_right (by omega)] at hx
      have h0 : k9 - tys.length < 1 := (List.getElem?_eq_some_iff.mp hx).1
      rw [show k9 - tys.length = 0 by omega] at hx
      cases hx
      exact ⟨hAr, fA⟩⟩
  obtain ⟨t, a1, b1⟩ := kk H.size (fun i => H.size + 1 + i) cA F.heap (fun i j _ _ h => by have h9 : H.size + 1 + i = H.size + 1 + j := h; omega) hnl hK2 (by rw [← vr_rows hnm]; exact vr_lay hP2) (by rw [← vr_rows hnm]; exact vr_layD hD2) ⟨by rw [f1]; have := hS.1; omega, fun x h1 h2 => (hold x (Nat.lt_of_lt_of_le h1 hS.1)).trans (hS.2.1 x h1 h2), hS.2.2⟩ F rfl X'
  refine ⟨t, step t ?_, b1⟩
  have e : T.heap.size = H.size := by rw [hT]
  rw [e]
  exact a1
end VGM
/-! ===== END ===== -/

/-! ===== BEGIN printed: names, fields, word lists, decode rows ===== -/
def RX0 : String := "PrintShore$Sheets"
def TX0 : u_T := fun k => match k with
  | 0 => ("PrintShore$Sheets", "numbers", "[[I", true)
  | 1 => ("PrintShore$Sheets", "widths", "[I", true)
  | _ => ("PrintShore$Sheets", "sizes", "[I", true)
def tyX0 : Nat → FieldType := fun k => match k with
  | 0 => .array (.array .int)
  | 1 => .array .int
  | _ => .array .int
abbrev wsX00 : List Cond := u_ws RX0 TX0 3
theorem nmX0 : ∀ a, a < 3 → ∀ b, b < 3 → a ≠ b → (TX0 a).2.1 ≠ (TX0 b).2.1 := by decide +kernel
theorem tyX0_ok : ∀ k, k < 3 → parseFieldDescriptor (TX0 k).2.2.1 = some (tyX0 k) := by decide +kernel
abbrev cX0_init : ByteArray := prog_2_method_1_code
def yX0_init : MethodName := ⟨RX0, "<init>", "()V"⟩
abbrev cX0_isSheet : ByteArray := prog_2_method_2_code
def yX0_isSheet : MethodName := ⟨RX0, "isSheet", "(I)Z"⟩
abbrev cX0_isWidth : ByteArray := prog_2_method_3_code
def yX0_isWidth : MethodName := ⟨RX0, "isWidth", "(I)Z"⟩
abbrev cX0_isMissing : ByteArray := prog_2_method_4_code
def yX0_isMissing : MethodName := ⟨RX0, "isMissing", "(I)Z"⟩
abbrev cX0_findingOf : ByteArray := prog_2_method_5_code
def yX0_findingOf : MethodName := ⟨RX0, "findingOf", "(I)I"⟩
abbrev cX0_lay : ByteArray := prog_2_method_6_code
def yX0_lay : MethodName := ⟨RX0, "lay", "(III)I"⟩
abbrev cX0_put : ByteArray := prog_2_method_7_code
def yX0_put : MethodName := ⟨RX0, "put", "(III)V"⟩
abbrev cX0_hasPart : ByteArray := prog_2_method_8_code
def yX0_hasPart : MethodName := ⟨RX0, "hasPart", "(III)Z"⟩
def RX1 : String := "PrintShore$Shore"
def TX1 : u_T := fun k => match k with
  | 0 => ("PrintShore$Shore", "prints", "[[I", true)
  | 1 => ("PrintShore$Shore", "traits", "[[I", true)
  | 2 => ("PrintShore$Shore", "spots", "[I", true)
  | 3 => ("PrintShore$Shore", "walkers", "I", false)
  | 4 => ("PrintShore$Shore", "reach", "I", false)
  | 5 => ("PrintShore$Shore", "quoted", "I", false)
  | 6 => ("PrintShore$Shore", "hour", "I", false)
  | _ => ("PrintShore$Shore", "z", "I", false)
def tyX1 : Nat → FieldType := fun k => match k with
  | 0 => .array (.array .int)
  | 1 => .array (.array .int)
  | 2 => .array .int
  | 3 => .int
  | 4 => .int
  | 5 => .int
  | 6 => .int
  | _ => .int
abbrev wsX10 : List Cond := u_ws RX1 TX1 8
theorem nmX1 : ∀ a, a < 8 → ∀ b, b < 8 → a ≠ b → (TX1 a).2.1 ≠ (TX1 b).2.1 := by decide +kernel
theorem tyX1_ok : ∀ k, k < 8 → parseFieldDescriptor (TX1 k).2.2.1 = some (tyX1 k) := by decide +kernel
abbrev cX1_init : ByteArray := prog_3_method_1_code
def yX1_init : MethodName := ⟨RX1, "<init>", "()V"⟩
abbrev cX1_become : ByteArray := prog_3_method_2_code
def yX1_become : MethodName := ⟨RX1, "become", "(LPrintShore$Shore;)V"⟩
abbrev cX1_isWalker : ByteArray := prog_3_method_3_code
def yX1_isWalker : MethodName := ⟨RX1, "isWalker", "(I)Z"⟩
abbrev cX1_isWalkerOrNobody : ByteArray := prog_3_method_4_code
def yX1_isWalkerOrNobody : MethodName := ⟨RX1, "isWalkerOrNobody", "(I)Z"⟩
abbrev cX1_hasRoom : ByteArray := prog_3_method_5_code
def yX1_hasRoom : MethodName := ⟨RX1, "hasRoom", "()Z"⟩
abbrev cX1_add : ByteArray := prog_3_method_6_code
def yX1_add : MethodName := ⟨RX1, "add", "(II)I"⟩
abbrev cX1_put : ByteArray := prog_3_method_7_code
def yX1_put : MethodName := ⟨RX1, "put", "(IIII)V"⟩
abbrev cX1_clear : ByteArray := prog_3_method_8_code
def yX1_clear : MethodName := ⟨RX1, "clear", "(I)V"⟩
abbrev cX1_strides : ByteArray := prog_3_method_9_code
def yX1_strides : MethodName := ⟨RX1, "strides", "(I)I"⟩
abbrev cX1_presses : ByteArray := prog_3_method_10_code
def yX1_presses : MethodName := ⟨RX1, "presses", "(I)I"⟩
abbrev cX1_looks : ByteArray := prog_3_method_11_code
def yX1_looks : MethodName := ⟨RX1, "looks", "(I)I"⟩
abbrev cX1_passHours : ByteArray := prog_3_method_12_code
def yX1_passHours : MethodName := ⟨RX1, "passHours", "(II)V"⟩
abbrev cX1_passHour : ByteArray := prog_3_method_13_code
def yX1_passHour : MethodName := ⟨RX1, "passHour", "(I)V"⟩
abbrev cX1_goOn : ByteArray := prog_3_method_14_code
def yX1_goOn : MethodName := ⟨RX1, "goOn", "(I)V"⟩
abbrev cX1_comeTide : ByteArray := prog_3_method_15_code
def yX1_comeTide : MethodName := ⟨RX1, "comeTide", "()I"⟩
abbrev cX1_passDrawnHour : ByteArray := prog_3_method_16_code
def yX1_passDrawnHour : MethodName := ⟨RX1, "passDrawnHour", "()V"⟩
abbrev cX1_draw : ByteArray := prog_3_method_17_code
def yX1_draw : MethodName := ⟨RX1, "draw", "()I"⟩
abbrev cX1_walkersAt : ByteArray := prog_3_method_18_code
def yX1_walkersAt : MethodName := ⟨RX1, "walkersAt", "(I)I"⟩
abbrev cX1_workSet : ByteArray := prog_3_method_19_code
def yX1_workSet : MethodName := ⟨RX1, "workSet", "(I)I"⟩
abbrev cX1_workSize : ByteArray := prog_3_method_20_code
def yX1_workSize : MethodName := ⟨RX1, "workSize", "(I)I"⟩
abbrev cX1_longestLine : ByteArray := prog_3_method_21_code
def yX1_longestLine : MethodName := ⟨RX1, "longestLine", "(I)I"⟩
abbrev cX1_printSet : ByteArray := prog_3_method_22_code
def yX1_printSet : MethodName := ⟨RX1, "printSet", "()I"⟩
abbrev cX1_printCount : ByteArray := prog_3_method_23_code
def yX1_printCount : MethodName := ⟨RX1, "printCount", "()I"⟩
abbrev cX1_depthSum : ByteArray := prog_3_method_24_code
def yX1_depthSum : MethodName := ⟨RX1, "depthSum", "()I"⟩
abbrev cX1_greatestAuthor : ByteArray := prog_3_method_25_code
def yX1_greatestAuthor : MethodName := ⟨RX1, "greatestAuthor", "()I"⟩
abbrev cX1_stepSum : ByteArray := prog_3_method_26_code
def yX1_stepSum : MethodName := ⟨RX1, "stepSum", "()I"⟩
abbrev cX1_heldCount : ByteArray := prog_3_method_27_code
def yX1_heldCount : MethodName := ⟨RX1, "heldCount", "()I"⟩
def RX2 : String := "PrintShore$Tape"
def TX2 : u_T := fun k => match k with
  | 0 => ("PrintShore$Tape", "bytes", "[I", true)
  | 1 => ("PrintShore$Tape", "size", "I", false)
  | 2 => ("PrintShore$Tape", "token", "I", false)
  | 3 => ("PrintShore$Tape", "begin", "I", false)
  | 4 => ("PrintShore$Tape", "end", "I", false)
  | _ => ("PrintShore$Tape", "value", "I", false)
def tyX2 : Nat → FieldType := fun k => match k with
  | 0 => .array .int
  | 1 => .int
  | 2 => .int
  | 3 => .int
  | 4 => .int
  | _ => .int
abbrev wsX20 : List Cond := u_ws RX2 TX2 6
theorem nmX2 : ∀ a, a < 6 → ∀ b, b < 6 → a ≠ b → (TX2 a).2.1 ≠ (TX2 b).2.1 := by decide +kernel
theorem tyX2_ok : ∀ k, k < 6 → parseFieldDescriptor (TX2 k).2.2.1 = some (tyX2 k) := by decide +kernel
abbrev cX2_init : ByteArray := prog_4_method_1_code
def yX2_init : MethodName := ⟨RX2, "<init>", "()V"⟩
abbrev cX2_hasRoom : ByteArray := prog_4_method_2_code
def yX2_hasRoom : MethodName := ⟨RX2, "hasRoom", "(I)Z"⟩
abbrev cX2_append : ByteArray := prog_4_method_3_code
def yX2_append : MethodName := ⟨RX2, "append", "(I)V"⟩
abbrev cX2_readText : ByteArray := prog_4_method_4_code
def yX2_readText : MethodName := ⟨RX2, "readText", "(LPrintShore$Shore;)I"⟩
abbrev cX2_readItem : ByteArray := prog_4_method_5_code
def yX2_readItem : MethodName := ⟨RX2, "readItem", "(LPrintShore$Shore;)Z"⟩
abbrev cX2_readWalker : ByteArray := prog_4_method_6_code
def yX2_readWalker : MethodName := ⟨RX2, "readWalker", "(LPrintShore$Shore;I)Z"⟩
abbrev cX2_readTrait : ByteArray := prog_4_method_7_code
def yX2_readTrait : MethodName := ⟨RX2, "readTrait", "(LPrintShore$Shore;ILjava/lang/String;I)Z"⟩
abbrev cX2_readReach : ByteArray := prog_4_method_8_code
def yX2_readReach : MethodName := ⟨RX2, "readReach", "(LPrintShore$Shore;)Z"⟩
abbrev cX2_readPrint : ByteArray := prog_4_method_9_code
def yX2_readPrint : MethodName := ⟨RX2, "readPrint", "(LPrintShore$Shore;)Z"⟩
abbrev cX2_isNumber : ByteArray := prog_4_method_10_code
def yX2_isNumber : MethodName := ⟨RX2, "isNumber", "(II)Z"⟩
abbrev cX2_isWord : ByteArray := prog_4_method_11_code
def yX2_isWord : MethodName := ⟨RX2, "isWord", "(Ljava/lang/String;)Z"⟩
abbrev cX2_kindOfWord : ByteArray := prog_4_method_12_code
def yX2_kindOfWord : MethodName := ⟨RX2, "kindOfWord", "()I"⟩
abbrev cX2_wordOfKind : ByteArray := prog_4_method_13_code
def yX2_wordOfKind : MethodName := ⟨RX2, "wordOfKind", "(I)Ljava/lang/String;"⟩
abbrev cX2_step : ByteArray := prog_4_method_14_code
def yX2_step : MethodName := ⟨RX2, "step", "()V"⟩
abbrev cX2_tokenOfByte : ByteArray := prog_4_method_15_code
def yX2_tokenOfByte : MethodName := ⟨RX2, "tokenOfByte", "(I)I"⟩
def RX3 : String := "PrintShore"
def TX3 : u_T := fun k => match k with
  | 0 => ("PrintShore", "shore", "LPrintShore$Shore;", true)
  | 1 => ("PrintShore", "trial", "LPrintShore$Shore;", true)
  | 2 => ("PrintShore", "kept", "LPrintShore$Shore;", true)
  | 3 => ("PrintShore", "isKept", "Z", false)
  | 4 => ("PrintShore", "tape", "LPrintShore$Tape;", true)
  | 5 => ("PrintShore", "sheets", "LPrintShore$Sheets;", true)
  | _ => ("PrintShore", "findings", "[I", true)
def tyX3 : Nat → FieldType := fun k => match k with
  | 0 => .object "PrintShore$Shore"
  | 1 => .object "PrintShore$Shore"
  | 2 => .object "PrintShore$Shore"
  | 3 => .boolean
  | 4 => .object "PrintShore$Tape"
  | 5 => .object "PrintShore$Sheets"
  | _ => .array .int
abbrev wsX30 : List Cond := u_ws RX3 TX3 7
theorem nmX3 : ∀ a, a < 7 → ∀ b, b < 7 → a ≠ b → (TX3 a).2.1 ≠ (TX3 b).2.1 := by decide +kernel
theorem tyX3_ok : ∀ k, k < 7 → parseFieldDescriptor (TX3 k).2.2.1 = some (tyX3 k) := by decide +kernel
abbrev cX3_init : ByteArray := prog_1_method_1_code
def yX3_init : MethodName := ⟨RX3, "<init>", "()V"⟩
abbrev cX3_cell : ByteArray := prog_1_method_2_code
def yX3_cell : MethodName := ⟨RX3, "cell", "(II)I"⟩
abbrev cX3_print : ByteArray := prog_1_method_3_code
def yX3_print : MethodName := ⟨RX3, "print", "(III)I"⟩
abbrev cX3_reach : ByteArray := prog_1_method_4_code
def yX3_reach : MethodName := ⟨RX3, "reach", "(I)I"⟩
abbrev cX3_tide : ByteArray := prog_1_method_5_code
def yX3_tide : MethodName := ⟨RX3, "tide", "()I"⟩
abbrev cX3_walker : ByteArray := prog_1_method_6_code
def yX3_walker : MethodName := ⟨RX3, "walker", "(II)I"⟩
abbrev cX3_of : ByteArray := prog_1_method_7_code
def yX3_of : MethodName := ⟨RX3, "of", "(II)I"⟩
abbrev cX3_change : ByteArray := prog_1_method_8_code
def yX3_change : MethodName := ⟨RX3, "change", "(III)I"⟩
abbrev cX3_go : ByteArray := prog_1_method_9_code
def yX3_go : MethodName := ⟨RX3, "go", "(I)I"⟩
abbrev cX3_now : ByteArray := prog_1_method_10_code
def yX3_now : MethodName := ⟨RX3, "now", "(I)I"⟩
abbrev cX3_line : ByteArray := prog_1_method_11_code
def yX3_line : MethodName := ⟨RX3, "line", "(I)I"⟩
abbrev cX3_ahead : ByteArray := prog_1_method_12_code
def yX3_ahead : MethodName := ⟨RX3, "ahead", "(III)I"⟩
abbrev cX3_work : ByteArray := prog_1_method_13_code
def yX3_work : MethodName := ⟨RX3, "work", "(II)I"⟩
abbrev cX3_when : ByteArray := prog_1_method_14_code
def yX3_when : MethodName := ⟨RX3, "when", "(II)I"⟩
abbrev cX3_gone : ByteArray := prog_1_method_15_code
def yX3_gone : MethodName := ⟨RX3, "gone", "(I)I"⟩
abbrev cX3_meet : ByteArray := prog_1_method_16_code
def yX3_meet : MethodName := ⟨RX3, "meet", "(II)I"⟩
abbrev cX3_strideFor : ByteArray := prog_1_method_17_code
def yX3_strideFor : MethodName := ⟨RX3, "strideFor", "(II)I"⟩
abbrev cX3_start : ByteArray := prog_1_method_18_code
def yX3_start : MethodName := ⟨RX3, "start", "(II)I"⟩
abbrev cX3_kindFor : ByteArray := prog_1_method_19_code
def yX3_kindFor : MethodName := ⟨RX3, "kindFor", "(II)I"⟩
abbrev cX3_reachFor : ByteArray := prog_1_method_20_code
def yX3_reachFor : MethodName := ⟨RX3, "reachFor", "(II)I"⟩
abbrev cX3_weightFor : ByteArray := prog_1_method_21_code
def yX3_weightFor : MethodName := ⟨RX3, "weightFor", "(III)I"⟩
abbrev cX3_away : ByteArray := prog_1_method_22_code
def yX3_away : MethodName := ⟨RX3, "away", "(II)I"⟩
abbrev cX3_censor : ByteArray := prog_1_method_23_code
def yX3_censor : MethodName := ⟨RX3, "censor", "(I)I"⟩
abbrev cX3_fits : ByteArray := prog_1_method_24_code
def yX3_fits : MethodName := ⟨RX3, "fits", "(III)I"⟩
abbrev cX3_strode : ByteArray := prog_1_method_25_code
def yX3_strode : MethodName := ⟨RX3, "strode", "(III)I"⟩
abbrev cX3_kinds : ByteArray := prog_1_method_26_code
def yX3_kinds : MethodName := ⟨RX3, "kinds", "(III)I"⟩
abbrev cX3_tides : ByteArray := prog_1_method_27_code
def yX3_tides : MethodName := ⟨RX3, "tides", "(I)I"⟩
abbrev cX3_odds : ByteArray := prog_1_method_28_code
def yX3_odds : MethodName := ⟨RX3, "odds", "(III)J"⟩
abbrev cX3_seed : ByteArray := prog_1_method_29_code
def yX3_seed : MethodName := ⟨RX3, "seed", "(I)I"⟩
abbrev cX3_feed : ByteArray := prog_1_method_30_code
def yX3_feed : MethodName := ⟨RX3, "feed", "(II)I"⟩
abbrev cX3_wipe : ByteArray := prog_1_method_31_code
def yX3_wipe : MethodName := ⟨RX3, "wipe", "()I"⟩
abbrev cX3_text : ByteArray := prog_1_method_32_code
def yX3_text : MethodName := ⟨RX3, "text", "()I"⟩
abbrev cX3_hold : ByteArray := prog_1_method_33_code
def yX3_hold : MethodName := ⟨RX3, "hold", "(II)I"⟩
abbrev cX3_as : ByteArray := prog_1_method_34_code
def yX3_as : MethodName := ⟨RX3, "as", "(II)I"⟩
abbrev cX3_sheet : ByteArray := prog_1_method_35_code
def yX3_sheet : MethodName := ⟨RX3, "sheet", "(III)I"⟩
abbrev cX3_write : ByteArray := prog_1_method_36_code
def yX3_write : MethodName := ⟨RX3, "write", "(III)I"⟩
abbrev cX3_copy : ByteArray := prog_1_method_37_code
def yX3_copy : MethodName := ⟨RX3, "copy", "(IIIII)I"⟩
abbrev cX3_load : ByteArray := prog_1_method_38_code
def yX3_load : MethodName := ⟨RX3, "load", "(I)I"⟩
abbrev cX3_judge : ByteArray := prog_1_method_39_code
def yX3_judge : MethodName := ⟨RX3, "judge", "(I)I"⟩
abbrev cX3_image : ByteArray := prog_1_method_40_code
def yX3_image : MethodName := ⟨RX3, "image", "()I"⟩
abbrev cX3_undo : ByteArray := prog_1_method_41_code
def yX3_undo : MethodName := ⟨RX3, "undo", "()I"⟩
abbrev cX3_tear : ByteArray := prog_1_method_42_code
def yX3_tear : MethodName := ⟨RX3, "tear", "()I"⟩
abbrev cX3_count : ByteArray := prog_1_method_43_code
def yX3_count : MethodName := ⟨RX3, "count", "(I)I"⟩
abbrev cX3_status : ByteArray := prog_1_method_44_code
def yX3_status : MethodName := ⟨RX3, "status", "(I)I"⟩
abbrev cX3_tell : ByteArray := prog_1_method_45_code
def yX3_tell : MethodName := ⟨RX3, "tell", "(I)I"⟩
abbrev cX3_within : ByteArray := prog_1_method_46_code
def yX3_within : MethodName := ⟨RX3, "within", "(III)Z"⟩
abbrev cX3_isCell : ByteArray := prog_1_method_47_code
def yX3_isCell : MethodName := ⟨RX3, "isCell", "(I)Z"⟩
abbrev cX3_isUnder : ByteArray := prog_1_method_48_code
def yX3_isUnder : MethodName := ⟨RX3, "isUnder", "(II)Z"⟩
abbrev cX3_power : ByteArray := prog_1_method_49_code
def yX3_power : MethodName := ⟨RX3, "power", "(JI)J"⟩
abbrev cX3_hoursUntilWhose : ByteArray := prog_1_method_50_code
def yX3_hoursUntilWhose : MethodName := ⟨RX3, "hoursUntilWhose", "(II)I"⟩
abbrev cX3_tryTrait : ByteArray := prog_1_method_51_code
def yX3_tryTrait : MethodName := ⟨RX3, "tryTrait", "(IIII)V"⟩
abbrev cX3_traitForMostWork : ByteArray := prog_1_method_52_code
def yX3_traitForMostWork : MethodName := ⟨RX3, "traitForMostWork", "(III)I"⟩
abbrev cX3_staysWithout : ByteArray := prog_1_method_53_code
def yX3_staysWithout : MethodName := ⟨RX3, "staysWithout", "(III)Z"⟩
abbrev cX3_guessFinding : ByteArray := prog_1_method_54_code
def yX3_guessFinding : MethodName := ⟨RX3, "guessFinding", "(III)I"⟩
abbrev cX3_fittingSet : ByteArray := prog_1_method_55_code
def yX3_fittingSet : MethodName := ⟨RX3, "fittingSet", "(IIII)I"⟩
abbrev cX3_trialIsAsTold : ByteArray := prog_1_method_56_code
def yX3_trialIsAsTold : MethodName := ⟨RX3, "trialIsAsTold", "(II)Z"⟩
def RX4 : String := "PrintShoreModel"
def TX4 : u_T := fun k => match k with
  | 0 => ("PrintShoreModel", "s", "[I", true)
  | 1 => ("PrintShoreModel", "kept", "[I", true)
  | 2 => ("PrintShoreModel", "aside", "[I", true)
  | 3 => ("PrintShoreModel", "isKept", "Z", false)
  | 4 => ("PrintShoreModel", "found", "[I", true)
  | 5 => ("PrintShoreModel", "away", "I", false)
  | 6 => ("PrintShoreModel", "tape", "[I", true)
  | 7 => ("PrintShoreModel", "taped", "I", false)
  | 8 => ("PrintShoreModel", "from", "I", false)
  | 9 => ("PrintShoreModel", "to", "I", false)
  | 10 => ("PrintShoreModel", "isWrong", "Z", false)
  | 11 => ("PrintShoreModel", "bitsOf", "[I", true)
  | 12 => ("PrintShoreModel", "sizeOf", "[I", true)
  | 13 => ("PrintShoreModel", "number", "[I", true)
  | _ => ("PrintShoreModel", "moved", "[I", true)
def tyX4 : Nat → FieldType := fun k => match k with
  | 0 => .array .int
  | 1 => .array .int
  | 2 => .array .int
  | 3 => .boolean
  | 4 => .array .int
  | 5 => .int
  | 6 => .array .int
  | 7 => .int
  | 8 => .int
  | 9 => .int
  | 10 => .boolean
  | 11 => .array .int
  | 12 => .array .int
  | 13 => .array .int
  | _ => .array .int
abbrev wsX40 : List Cond := u_ws RX4 TX4 15
theorem nmX4 : ∀ a, a < 15 → ∀ b, b < 15 → a ≠ b → (TX4 a).2.1 ≠ (TX4 b).2.1 := by decide +kernel
theorem tyX4_ok : ∀ k, k < 15 → parseFieldDescriptor (TX4 k).2.2.1 = some (tyX4 k) := by decide +kernel
abbrev cX4_init : ByteArray := prog_6_method_1_code
def yX4_init : MethodName := ⟨RX4, "<init>", "()V"⟩
abbrev cX4_finds : ByteArray := prog_6_method_2_code
def yX4_finds : MethodName := ⟨RX4, "finds", "(I)I"⟩
abbrev cX4_in : ByteArray := prog_6_method_3_code
def yX4_in : MethodName := ⟨RX4, "in", "(JJJ)Z"⟩
abbrev cX4_become : ByteArray := prog_6_method_4_code
def yX4_become : MethodName := ⟨RX4, "become", "([I[I)V"⟩
abbrev cX4_lends : ByteArray := prog_6_method_5_code
def yX4_lends : MethodName := ⟨RX4, "lends", "()V"⟩
abbrev cX4_laysBack : ByteArray := prog_6_method_6_code
def yX4_laysBack : MethodName := ⟨RX4, "laysBack", "()V"⟩
abbrev cX4_isWalker : ByteArray := prog_6_method_7_code
def yX4_isWalker : MethodName := ⟨RX4, "isWalker", "(I)Z"⟩
abbrev cX4_isCell : ByteArray := prog_6_method_8_code
def yX4_isCell : MethodName := ⟨RX4, "isCell", "(I)Z"⟩
abbrev cX4_its : ByteArray := prog_6_method_9_code
def yX4_its : MethodName := ⟨RX4, "its", "(II)I"⟩
abbrev cX4_sets : ByteArray := prog_6_method_10_code
def yX4_sets : MethodName := ⟨RX4, "sets", "(III)V"⟩
abbrev cX4_becomes : ByteArray := prog_6_method_11_code
def yX4_becomes : MethodName := ⟨RX4, "becomes", "(II)I"⟩
abbrev cX4_ones : ByteArray := prog_6_method_12_code
def yX4_ones : MethodName := ⟨RX4, "ones", "(I)I"⟩
abbrev cX4_aboveOf : ByteArray := prog_6_method_13_code
def yX4_aboveOf : MethodName := ⟨RX4, "aboveOf", "(I)I"⟩
abbrev cX4_isUnder : ByteArray := prog_6_method_14_code
def yX4_isUnder : MethodName := ⟨RX4, "isUnder", "(II)Z"⟩
abbrev cX4_isKind : ByteArray := prog_6_method_15_code
def yX4_isKind : MethodName := ⟨RX4, "isKind", "(I)Z"⟩
abbrev cX4_strides : ByteArray := prog_6_method_16_code
def yX4_strides : MethodName := ⟨RX4, "strides", "(I)I"⟩
abbrev cX4_presses : ByteArray := prog_6_method_17_code
def yX4_presses : MethodName := ⟨RX4, "presses", "(I)I"⟩
abbrev cX4_looks : ByteArray := prog_6_method_18_code
def yX4_looks : MethodName := ⟨RX4, "looks", "(I)I"⟩
abbrev cX4_workOf : ByteArray := prog_6_method_19_code
def yX4_workOf : MethodName := ⟨RX4, "workOf", "(I)I"⟩
abbrev cX4_adds : ByteArray := prog_6_method_20_code
def yX4_adds : MethodName := ⟨RX4, "adds", "(II)I"⟩
abbrev cX4_walkersAt : ByteArray := prog_6_method_21_code
def yX4_walkersAt : MethodName := ⟨RX4, "walkersAt", "(I)I"⟩
abbrev cX4_cell : ByteArray := prog_6_method_22_code
def yX4_cell : MethodName := ⟨RX4, "cell", "(II)I"⟩
abbrev cX4_prints : ByteArray := prog_6_method_23_code
def yX4_prints : MethodName := ⟨RX4, "prints", "(IIII)V"⟩
abbrev cX4_print : ByteArray := prog_6_method_24_code
def yX4_print : MethodName := ⟨RX4, "print", "(III)I"⟩
abbrev cX4_reach : ByteArray := prog_6_method_25_code
def yX4_reach : MethodName := ⟨RX4, "reach", "(I)I"⟩
abbrev cX4_theTide : ByteArray := prog_6_method_26_code
def yX4_theTide : MethodName := ⟨RX4, "theTide", "()I"⟩
abbrev cX4_tide : ByteArray := prog_6_method_27_code
def yX4_tide : MethodName := ⟨RX4, "tide", "()I"⟩
abbrev cX4_walker : ByteArray := prog_6_method_28_code
def yX4_walker : MethodName := ⟨RX4, "walker", "(II)I"⟩
abbrev cX4_of : ByteArray := prog_6_method_29_code
def yX4_of : MethodName := ⟨RX4, "of", "(II)I"⟩
abbrev cX4_mayBe : ByteArray := prog_6_method_30_code
def yX4_mayBe : MethodName := ⟨RX4, "mayBe", "(II)Z"⟩
abbrev cX4_change : ByteArray := prog_6_method_31_code
def yX4_change : MethodName := ⟨RX4, "change", "(III)I"⟩
abbrev cX4_goes : ByteArray := prog_6_method_32_code
def yX4_goes : MethodName := ⟨RX4, "goes", "(I)V"⟩
abbrev cX4_anHour : ByteArray := prog_6_method_33_code
def yX4_anHour : MethodName := ⟨RX4, "anHour", "()V"⟩
abbrev cX4_hours : ByteArray := prog_6_method_34_code
def yX4_hours : MethodName := ⟨RX4, "hours", "(I)V"⟩
abbrev cX4_printed : ByteArray := prog_6_method_35_code
def yX4_printed : MethodName := ⟨RX4, "printed", "()I"⟩
abbrev cX4_go : ByteArray := prog_6_method_36_code
def yX4_go : MethodName := ⟨RX4, "go", "(I)I"⟩
abbrev cX4_depths : ByteArray := prog_6_method_37_code
def yX4_depths : MethodName := ⟨RX4, "depths", "()I"⟩
abbrev cX4_greatest : ByteArray := prog_6_method_38_code
def yX4_greatest : MethodName := ⟨RX4, "greatest", "()I"⟩
abbrev cX4_allSteps : ByteArray := prog_6_method_39_code
def yX4_allSteps : MethodName := ⟨RX4, "allSteps", "()I"⟩
abbrev cX4_now : ByteArray := prog_6_method_40_code
def yX4_now : MethodName := ⟨RX4, "now", "(I)I"⟩
abbrev cX4_line : ByteArray := prog_6_method_41_code
def yX4_line : MethodName := ⟨RX4, "line", "(I)I"⟩
abbrev cX4_isAhead : ByteArray := prog_6_method_42_code
def yX4_isAhead : MethodName := ⟨RX4, "isAhead", "(I)Z"⟩
abbrev cX4_isSoon : ByteArray := prog_6_method_43_code
def yX4_isSoon : MethodName := ⟨RX4, "isSoon", "(I)Z"⟩
abbrev cX4_orNone : ByteArray := prog_6_method_44_code
def yX4_orNone : MethodName := ⟨RX4, "orNone", "(II)I"⟩
abbrev cX4_ahead : ByteArray := prog_6_method_45_code
def yX4_ahead : MethodName := ⟨RX4, "ahead", "(III)I"⟩
abbrev cX4_workIn : ByteArray := prog_6_method_46_code
def yX4_workIn : MethodName := ⟨RX4, "workIn", "(II)I"⟩
abbrev cX4_work : ByteArray := prog_6_method_47_code
def yX4_work : MethodName := ⟨RX4, "work", "(II)I"⟩
abbrev cX4_when : ByteArray := prog_6_method_48_code
def yX4_when : MethodName := ⟨RX4, "when", "(II)I"⟩
abbrev cX4_gone : ByteArray := prog_6_method_49_code
def yX4_gone : MethodName := ⟨RX4, "gone", "(I)I"⟩
abbrev cX4_meet : ByteArray := prog_6_method_50_code
def yX4_meet : MethodName := ⟨RX4, "meet", "(II)I"⟩
abbrev cX4_bestBy : ByteArray := prog_6_method_51_code
def yX4_bestBy : MethodName := ⟨RX4, "bestBy", "(IIIII)I"⟩
abbrev cX4_isAsked : ByteArray := prog_6_method_52_code
def yX4_isAsked : MethodName := ⟨RX4, "isAsked", "(II)Z"⟩
abbrev cX4_strideFor : ByteArray := prog_6_method_53_code
def yX4_strideFor : MethodName := ⟨RX4, "strideFor", "(II)I"⟩
abbrev cX4_start : ByteArray := prog_6_method_54_code
def yX4_start : MethodName := ⟨RX4, "start", "(II)I"⟩
abbrev cX4_kindFor : ByteArray := prog_6_method_55_code
def yX4_kindFor : MethodName := ⟨RX4, "kindFor", "(II)I"⟩
abbrev cX4_whoseIn : ByteArray := prog_6_method_56_code
def yX4_whoseIn : MethodName := ⟨RX4, "whoseIn", "(II)I"⟩
abbrev cX4_reachFor : ByteArray := prog_6_method_57_code
def yX4_reachFor : MethodName := ⟨RX4, "reachFor", "(II)I"⟩
abbrev cX4_weightFor : ByteArray := prog_6_method_58_code
def yX4_weightFor : MethodName := ⟨RX4, "weightFor", "(III)I"⟩
abbrev cX4_away : ByteArray := prog_6_method_59_code
def yX4_away : MethodName := ⟨RX4, "away", "(II)I"⟩
abbrev cX4_censor : ByteArray := prog_6_method_60_code
def yX4_censor : MethodName := ⟨RX4, "censor", "(I)I"⟩
abbrev cX4_isSo : ByteArray := prog_6_method_61_code
def yX4_isSo : MethodName := ⟨RX4, "isSo", "(III)Z"⟩
abbrev cX4_lacksAsked : ByteArray := prog_6_method_62_code
def yX4_lacksAsked : MethodName := ⟨RX4, "lacksAsked", "(III)I"⟩
abbrev cX4_thoseBy : ByteArray := prog_6_method_63_code
def yX4_thoseBy : MethodName := ⟨RX4, "thoseBy", "(IIIIII)I"⟩
abbrev cX4_fits : ByteArray := prog_6_method_64_code
def yX4_fits : MethodName := ⟨RX4, "fits", "(III)I"⟩
abbrev cX4_strode : ByteArray := prog_6_method_65_code
def yX4_strode : MethodName := ⟨RX4, "strode", "(III)I"⟩
abbrev cX4_kinds : ByteArray := prog_6_method_66_code
def yX4_kinds : MethodName := ⟨RX4, "kinds", "(III)I"⟩
abbrev cX4_draw : ByteArray := prog_6_method_67_code
def yX4_draw : MethodName := ⟨RX4, "draw", "()I"⟩
abbrev cX4_tides : ByteArray := prog_6_method_68_code
def yX4_tides : MethodName := ⟨RX4, "tides", "(I)I"⟩
abbrev cX4_odds : ByteArray := prog_6_method_69_code
def yX4_odds : MethodName := ⟨RX4, "odds", "(III)J"⟩
abbrev cX4_seed : ByteArray := prog_6_method_70_code
def yX4_seed : MethodName := ⟨RX4, "seed", "(I)I"⟩
abbrev cX4_feed : ByteArray := prog_6_method_71_code
def yX4_feed : MethodName := ⟨RX4, "feed", "(II)I"⟩
abbrev cX4_wipe : ByteArray := prog_6_method_72_code
def yX4_wipe : MethodName := ⟨RX4, "wipe", "()I"⟩
abbrev cX4_isByte : ByteArray := prog_6_method_73_code
def yX4_isByte : MethodName := ⟨RX4, "isByte", "(III)Z"⟩
abbrev cX4_next : ByteArray := prog_6_method_74_code
def yX4_next : MethodName := ⟨RX4, "next", "()V"⟩
abbrev cX4_isWord : ByteArray := prog_6_method_75_code
def yX4_isWord : MethodName := ⟨RX4, "isWord", "(Ljava/lang/String;)Z"⟩
abbrev cX4_must : ByteArray := prog_6_method_76_code
def yX4_must : MethodName := ⟨RX4, "must", "(Z)V"⟩
abbrev cX4_takes : ByteArray := prog_6_method_77_code
def yX4_takes : MethodName := ⟨RX4, "takes", "(Ljava/lang/String;)Z"⟩
abbrev cX4_numberRead : ByteArray := prog_6_method_78_code
def yX4_numberRead : MethodName := ⟨RX4, "numberRead", "(II)I"⟩
abbrev cX4_kindHere : ByteArray := prog_6_method_79_code
def yX4_kindHere : MethodName := ⟨RX4, "kindHere", "()I"⟩
abbrev cX4_walkerTold : ByteArray := prog_6_method_80_code
def yX4_walkerTold : MethodName := ⟨RX4, "walkerTold", "(I)V"⟩
abbrev cX4_printTold : ByteArray := prog_6_method_81_code
def yX4_printTold : MethodName := ⟨RX4, "printTold", "()V"⟩
abbrev cX4_item : ByteArray := prog_6_method_82_code
def yX4_item : MethodName := ⟨RX4, "item", "()V"⟩
abbrev cX4_text : ByteArray := prog_6_method_83_code
def yX4_text : MethodName := ⟨RX4, "text", "()I"⟩
abbrev cX4_isSpot : ByteArray := prog_6_method_84_code
def yX4_isSpot : MethodName := ⟨RX4, "isSpot", "(I)Z"⟩
abbrev cX4_hold : ByteArray := prog_6_method_85_code
def yX4_hold : MethodName := ⟨RX4, "hold", "(II)I"⟩
abbrev cX4_as : ByteArray := prog_6_method_86_code
def yX4_as : MethodName := ⟨RX4, "as", "(II)I"⟩
abbrev cX4_isSheet : ByteArray := prog_6_method_87_code
def yX4_isSheet : MethodName := ⟨RX4, "isSheet", "(I)Z"⟩
abbrev cX4_sheet : ByteArray := prog_6_method_88_code
def yX4_sheet : MethodName := ⟨RX4, "sheet", "(III)I"⟩
abbrev cX4_lacks : ByteArray := prog_6_method_89_code
def yX4_lacks : MethodName := ⟨RX4, "lacks", "(I)I"⟩
abbrev cX4_write : ByteArray := prog_6_method_90_code
def yX4_write : MethodName := ⟨RX4, "write", "(III)I"⟩
abbrev cX4_copy : ByteArray := prog_6_method_91_code
def yX4_copy : MethodName := ⟨RX4, "copy", "(IIIII)I"⟩
abbrev cX4_load : ByteArray := prog_6_method_92_code
def yX4_load : MethodName := ⟨RX4, "load", "(I)I"⟩
abbrev cX4_judge : ByteArray := prog_6_method_93_code
def yX4_judge : MethodName := ⟨RX4, "judge", "(I)I"⟩
abbrev cX4_image : ByteArray := prog_6_method_94_code
def yX4_image : MethodName := ⟨RX4, "image", "()I"⟩
abbrev cX4_undo : ByteArray := prog_6_method_95_code
def yX4_undo : MethodName := ⟨RX4, "undo", "()I"⟩
abbrev cX4_tear : ByteArray := prog_6_method_96_code
def yX4_tear : MethodName := ⟨RX4, "tear", "()I"⟩
abbrev cX4_held : ByteArray := prog_6_method_97_code
def yX4_held : MethodName := ⟨RX4, "held", "()I"⟩
abbrev cX4_count : ByteArray := prog_6_method_98_code
def yX4_count : MethodName := ⟨RX4, "count", "(I)I"⟩
abbrev cX4_status : ByteArray := prog_6_method_99_code
def yX4_status : MethodName := ⟨RX4, "status", "(I)I"⟩
def RJ6 : String := "java/lang/Integer"
def TJ6 : u_T := fun k => match k with
  | _ => ("", "", "", false)
def tyJ6 : Nat → FieldType := fun k => match k with
  | _ => .int
abbrev wsJ60 : List Cond := u_ws RJ6 TJ6 0
theorem nmJ6 : ∀ a, a < 0 → ∀ b, b < 0 → a ≠ b → (TJ6 a).2.1 ≠ (TJ6 b).2.1 := by decide +kernel
theorem tyJ6_ok : ∀ k, k < 0 → parseFieldDescriptor (TJ6 k).2.2.1 = some (tyJ6 k) := by decide +kernel
abbrev cJ6_numberOfTrailingZeros_0f7a4 : ByteArray := prog_7_method_48_code
def yJ6_numberOfTrailingZeros_0f7a4 : MethodName := ⟨RJ6, "numberOfTrailingZeros", "(I)I"⟩
abbrev cJ6_bitCount_0f7a4 : ByteArray := prog_7_method_49_code
def yJ6_bitCount_0f7a4 : MethodName := ⟨RJ6, "bitCount", "(I)I"⟩
def RJ9 : String := "java/lang/Math"
def TJ9 : u_T := fun k => match k with
  | _ => ("", "", "", false)
def tyJ9 : Nat → FieldType := fun k => match k with
  | _ => .int
abbrev wsJ90 : List Cond := u_ws RJ9 TJ9 0
theorem nmJ9 : ∀ a, a < 0 → ∀ b, b < 0 → a ≠ b → (TJ9 a).2.1 ≠ (TJ9 b).2.1 := by decide +kernel
theorem tyJ9_ok : ∀ k, k < 0 → parseFieldDescriptor (TJ9 k).2.2.1 = some (tyJ9 k) := by decide +kernel
abbrev cJ9_max_7cf53 : ByteArray := prog_8_method_65_code
def yJ9_max_7cf53 : MethodName := ⟨RJ9, "max", "(II)I"⟩
abbrev cJ9_min_7cf53 : ByteArray := prog_8_method_69_code
def yJ9_min_7cf53 : MethodName := ⟨RJ9, "min", "(II)I"⟩
def RJ0 : String := "java/lang/String"
def TJ0 : u_T := fun k => match k with
  | _ => ("", "", "", false)
def tyJ0 : Nat → FieldType := fun k => match k with
  | _ => .int
abbrev wsJ00 : List Cond := u_ws RJ0 TJ0 0
theorem nmJ0 : ∀ a, a < 0 → ∀ b, b < 0 → a ≠ b → (TJ0 a).2.1 ≠ (TJ0 b).2.1 := by decide +kernel
theorem tyJ0_ok : ∀ k, k < 0 → parseFieldDescriptor (TJ0 k).2.2.1 = some (tyJ0 k) := by decide +kernel
abbrev cJ0_length_8abf5 : ByteArray := prog_9_method_54_code
def yJ0_length_8abf5 : MethodName := ⟨RJ0, "length", "()I"⟩
abbrev cJ0_charAt_5068e : ByteArray := prog_9_method_56_code
def yJ0_charAt_5068e : MethodName := ⟨RJ0, "charAt", "(I)C"⟩
abbrev cJ0_coder_7d493 : ByteArray := prog_9_method_152_code
def yJ0_coder_7d493 : MethodName := ⟨RJ0, "coder", "()B"⟩
abbrev cJ0_isLatin1_aae02 : ByteArray := prog_9_method_154_code
def yJ0_isLatin1_aae02 : MethodName := ⟨RJ0, "isLatin1", "()Z"⟩
abbrev cJ0_checkIndex_df160 : ByteArray := prog_9_method_155_code
def yJ0_checkIndex_df160 : MethodName := ⟨RJ0, "checkIndex", "(II)V"⟩
def RJ1 : String := "java/lang/StringLatin1"
def TJ1 : u_T := fun k => match k with
  | _ => ("", "", "", false)
def tyJ1 : Nat → FieldType := fun k => match k with
  | _ => .int
abbrev wsJ10 : List Cond := u_ws RJ1 TJ1 0
theorem nmJ1 : ∀ a, a < 0 → ∀ b, b < 0 → a ≠ b → (TJ1 a).2.1 ≠ (TJ1 b).2.1 := by decide +kernel
theorem tyJ1_ok : ∀ k, k < 0 → parseFieldDescriptor (TJ1 k).2.2.1 = some (tyJ1 k) := by decide +kernel
abbrev cJ1_charAt_3b067 : ByteArray := prog_10_method_2_code
def yJ1_charAt_3b067 : MethodName := ⟨RJ1, "charAt", "([BI)C"⟩
def RJ2 : String := "java/lang/StringUTF16"
def TJ2 : u_T := fun k => match k with
  | _ => ("", "", "", false)
def tyJ2 : Nat → FieldType := fun k => match k with
  | _ => .int
abbrev wsJ20 : List Cond := u_ws RJ2 TJ2 0
theorem nmJ2 : ∀ a, a < 0 → ∀ b, b < 0 → a ≠ b → (TJ2 a).2.1 ≠ (TJ2 b).2.1 := by decide +kernel
theorem tyJ2_ok : ∀ k, k < 0 → parseFieldDescriptor (TJ2 k).2.2.1 = some (tyJ2 k) := by decide +kernel
abbrev cJ2_getChar_3b067 : ByteArray := prog_11_method_5_code
def yJ2_getChar_3b067 : MethodName := ⟨RJ2, "getChar", "([BI)C"⟩
abbrev cJ2_length_9d52b : ByteArray := prog_11_method_6_code
def yJ2_length_9d52b : MethodName := ⟨RJ2, "length", "([B)I"⟩
abbrev cJ2_charAt_3b067 : ByteArray := prog_11_method_83_code
def yJ2_charAt_3b067 : MethodName := ⟨RJ2, "charAt", "([BI)C"⟩
abbrev cJ2_checkIndex_2214a : ByteArray := prog_11_method_91_code
def yJ2_checkIndex_2214a : MethodName := ⟨RJ2, "checkIndex", "(I[B)V"⟩
def RJ10 : String := "java/lang/System"
def TJ10 : u_T := fun k => match k with
  | _ => ("", "", "", false)
def tyJ10 : Nat → FieldType := fun k => match k with
  | _ => .int
abbrev wsJ100 : List Cond := u_ws RJ10 TJ10 0
theorem nmJ10 : ∀ a, a < 0 → ∀ b, b < 0 → a ≠ b → (TJ10 a).2.1 ≠ (TJ10 b).2.1 := by decide +kernel
theorem tyJ10_ok : ∀ k, k < 0 → parseFieldDescriptor (TJ10 k).2.2.1 = some (tyJ10 k) := by decide +kernel
def RJ3 : String := "jdk/internal/util/Preconditions"
def TJ3 : u_T := fun k => match k with
  | _ => ("", "", "", false)
def tyJ3 : Nat → FieldType := fun k => match k with
  | _ => .int
abbrev wsJ30 : List Cond := u_ws RJ3 TJ3 0
theorem nmJ3 : ∀ a, a < 0 → ∀ b, b < 0 → a ≠ b → (TJ3 a).2.1 ≠ (TJ3 b).2.1 := by decide +kernel
theorem tyJ3_ok : ∀ k, k < 0 → parseFieldDescriptor (TJ3 k).2.2.1 = some (tyJ3 k) := by decide +kernel
abbrev cJ3_checkIndex_8e157 : ByteArray := prog_13_method_11_code
def yJ3_checkIndex_8e157 : MethodName := ⟨RJ3, "checkIndex", "(IILjava/util/function/BiFunction;)I"⟩
def RL : String := "PrintShoreLaw"
abbrev cL_law : ByteArray := code
def yL_law : MethodName := ⟨RL, "law", "([I)Z"⟩
abbrev vwCl : List vw_C := [(RX0, TX0, 3), (RX1, TX1, 8), (RX2, TX2, 6), (RX3, TX3, 7), (RX4, TX4, 15)]
end
section
theorem dX0_init_0 : decode cX0_init 0 = .ok (.aload_n 0, 1) := by decide +kernel
theorem dX0_init_1 : decode cX0_init 1 = .ok (.invokespecial 3, 3) := by decide +kernel
theorem dX0_init_4 : decode cX0_init 4 = .ok (.aload_n 0, 1) := by decide +kernel
theorem dX0_init_5 : decode cX0_init 5 = .ok (.iconst 4, 1) := by decide +kernel
theorem dX0_init_6 : decode cX0_init 6 = .ok (.bipush 40, 2) := by decide +kernel
theorem dX0_init_8 : decode cX0_init 8 = .ok (.multianewarray 11 2, 4) := by decide +kernel
theorem dX0_init_12 : decode cX0_init 12 = .ok (.putfield 13, 3) := by decide +kernel
theorem dX0_init_15 : decode cX0_init 15 = .ok (.aload_n 0, 1) := by decide +kernel
theorem dX0_init_16 : decode cX0_init 16 = .ok (.iconst 4, 1) := by decide +kernel
theorem dX0_init_17 : decode cX0_init 17 = .ok (.newarray .int, 2) := by decide +kernel
theorem dX0_init_19 : decode cX0_init 19 = .ok (.putfield 16, 3) := by decide +kernel
theorem dX0_init_22 : decode cX0_init 22 = .ok (.aload_n 0, 1) := by decide +kernel
theorem dX0_init_23 : decode cX0_init 23 = .ok (.iconst 4, 1) := by decide +kernel
theorem dX0_init_24 : decode cX0_init 24 = .ok (.newarray .int, 2) := by decide +kernel
theorem dX0_init_26 : decode cX0_init 26 = .ok (.putfield 20, 3) := by decide +kernel
theorem dX0_init_29 : decode cX0_init 29 = .ok (.return_, 1) := by decide +kernel
theorem dX0_isSheet_0 : decode cX0_isSheet 0 = .ok (.iload_n 0, 1) := by decide +kernel
theorem dX0_isSheet_1 : decode cX0_isSheet 1 = .ok (.iconst 0, 1) := by decide +kernel
theorem dX0_isSheet_2 : decode cX0_isSheet 2 = .ok (.iconst 3, 1) := by decide +kernel
theorem dX0_isSheet_3 : decode cX0_isSheet 3 = .ok (.invokestatic 23, 3) := by decide +kernel
theorem dX0_isSheet_6 : decode cX0_isSheet 6 = .ok (.ireturn, 1) := by decide +kernel
theorem dX0_isWidth_0 : decode cX0_isWidth 0 = .ok (.iload_n 0, 1) := by decide +kernel
theorem dX0_isWidth_1 : decode cX0_isWidth 1 = .ok (.ifCond .eq 21, 3) := by decide +kernel
theorem dX0_isWidth_4 : decode cX0_isWidth 4 = .ok (.iload_n 0, 1) := by decide +kernel
theorem dX0_isWidth_5 : decode cX0_isWidth 5 = .ok (.bipush 8, 2) := by decide +kernel
theorem dX0_isWidth_7 : decode cX0_isWidth 7 = .ok (.if_icmp .eq 15, 3) := by decide +kernel
theorem dX0_isWidth_10 : decode cX0_isWidth 10 = .ok (.iload_n 0, 1) := by decide +kernel
theorem dX0_isWidth_11 : decode cX0_isWidth 11 = .ok (.bipush 16, 2) := by decide +kernel
theorem dX0_isWidth_13 : decode cX0_isWidth 13 = .ok (.if_icmp .eq 9, 3) := by decide +kernel
theorem dX0_isWidth_16 : decode cX0_isWidth 16 = .ok (.iload_n 0, 1) := by decide +kernel
theorem dX0_isWidth_17 : decode cX0_isWidth 17 = .ok (.bipush 32, 2) := by decide +kernel
theorem dX0_isWidth_19 : decode cX0_isWidth 19 = .ok (.if_icmp .ne 7, 3) := by decide +kernel
theorem dX0_isWidth_22 : decode cX0_isWidth 22 = .ok (.iconst 1, 1) := by decide +kernel
theorem dX0_isWidth_23 : decode cX0_isWidth 23 = .ok (.goto 4, 3) := by decide +kernel
theorem dX0_isWidth_26 : decode cX0_isWidth 26 = .ok (.iconst 0, 1) := by decide +kernel
theorem dX0_isWidth_27 : decode cX0_isWidth 27 = .ok (.ireturn, 1) := by decide +kernel
theorem dX0_isMissing_0 : decode cX0_isMissing 0 = .ok (.aload_n 0, 1) := by decide +kernel
theorem dX0_isMissing_1 : decode cX0_isMissing 1 = .ok (.getfield 16, 3) := by decide +kernel
theorem dX0_isMissing_4 : decode cX0_isMissing 4 = .ok (.iload_n 1, 1) := by decide +kernel
theorem dX0_isMissing_5 : decode cX0_isMissing 5 = .ok (.iaload, 1) := by decide +kernel
theorem dX0_isMissing_6 : decode cX0_isMissing 6 = .ok (.ifCond .ne 7, 3) := by decide +kernel
theorem dX0_isMissing_9 : decode cX0_isMissing 9 = .ok (.iconst 1, 1) := by decide +kernel
theorem dX0_isMissing_10 : decode cX0_isMissing 10 = .ok (.goto 4, 3) := by decide +kernel
theorem dX0_isMissing_13 : decode cX0_isMissing 13 = .ok (.iconst 0, 1) := by decide +kernel
theorem dX0_isMissing_14 : decode cX0_isMissing 14 = .ok (.ireturn, 1) := by decide +kernel
theorem dX0_findingOf_0 : decode cX0_findingOf 0 = .ok (.iload_n 1, 1) := by decide +kernel
theorem dX0_findingOf_1 : decode cX0_findingOf 1 = .ok (.invokestatic 27, 3) := by decide +kernel
theorem dX0_findingOf_4 : decode cX0_findingOf 4 = .ok (.ifCond .ne 6, 3) := by decide +kernel
theorem dX0_findingOf_7 : decode cX0_findingOf 7 = .ok (.ldc 31, 2) := by decide +kernel
theorem dX0_findingOf_9 : decode cX0_findingOf 9 = .ok (.ireturn, 1) := by decide +kernel
theorem dX0_findingOf_10 : decode cX0_findingOf 10 = .ok (.aload_n 0, 1) := by decide +kernel
theorem dX0_findingOf_11 : decode cX0_findingOf 11 = .ok (.iload_n 1, 1) := by decide +kernel
theorem dX0_findingOf_12 : decode cX0_findingOf 12 = .ok (.invokevirtual 32, 3) := by decide +kernel
theorem dX0_findingOf_15 : decode cX0_findingOf 15 = .ok (.ifCond .eq 8, 3) := by decide +kernel
theorem dX0_findingOf_18 : decode cX0_findingOf 18 = .ok (.ldc 35, 2) := by decide +kernel
theorem dX0_findingOf_20 : decode cX0_findingOf 20 = .ok (.goto 4, 3) := by decide +kernel
theorem dX0_findingOf_23 : decode cX0_findingOf 23 = .ok (.iconst 0, 1) := by decide +kernel
theorem dX0_findingOf_24 : decode cX0_findingOf 24 = .ok (.ireturn, 1) := by decide +kernel
theorem dX0_lay_0 : decode cX0_lay 0 = .ok (.aload_n 0, 1) := by decide +kernel
theorem dX0_lay_1 : decode cX0_lay 1 = .ok (.getfield 16, 3) := by decide +kernel
theorem dX0_lay_4 : decode cX0_lay 4 = .ok (.iload_n 1, 1) := by decide +kernel
theorem dX0_lay_5 : decode cX0_lay 5 = .ok (.iload_n 2, 1) := by decide +kernel
theorem dX0_lay_6 : decode cX0_lay 6 = .ok (.iastore, 1) := by decide +kernel
theorem dX0_lay_7 : decode cX0_lay 7 = .ok (.aload_n 0, 1) := by decide +kernel
theorem dX0_lay_8 : decode cX0_lay 8 = .ok (.getfield 20, 3) := by decide +kernel
theorem dX0_lay_11 : decode cX0_lay 11 = .ok (.iload_n 1, 1) := by decide +kernel
theorem dX0_lay_12 : decode cX0_lay 12 = .ok (.iload_n 2, 1) := by decide +kernel
theorem dX0_lay_13 : decode cX0_lay 13 = .ok (.ifCond .ne 7, 3) := by decide +kernel
theorem dX0_lay_16 : decode cX0_lay 16 = .ok (.iconst 0, 1) := by decide +kernel
theorem dX0_lay_17 : decode cX0_lay 17 = .ok (.goto 4, 3) := by decide +kernel
theorem dX0_lay_20 : decode cX0_lay 20 = .ok (.iload_n 3, 1) := by decide +kernel
theorem dX0_lay_21 : decode cX0_lay 21 = .ok (.iastore, 1) := by decide +kernel
theorem dX0_lay_22 : decode cX0_lay 22 = .ok (.iconst 0, 1) := by decide +kernel
theorem dX0_lay_23 : decode cX0_lay 23 = .ok (.istore 4, 2) := by decide +kernel
theorem dX0_lay_25 : decode cX0_lay 25 = .ok (.iload 4, 2) := by decide +kernel
theorem dX0_lay_27 : decode cX0_lay 27 = .ok (.bipush 40, 2) := by decide +kernel
theorem dX0_lay_29 : decode cX0_lay 29 = .ok (.if_icmp .ge 19, 3) := by decide +kernel
theorem dX0_lay_32 : decode cX0_lay 32 = .ok (.aload_n 0, 1) := by decide +kernel
theorem dX0_lay_33 : decode cX0_lay 33 = .ok (.getfield 13, 3) := by decide +kernel
theorem dX0_lay_36 : decode cX0_lay 36 = .ok (.iload_n 1, 1) := by decide +kernel
theorem dX0_lay_37 : decode cX0_lay 37 = .ok (.aaload, 1) := by decide +kernel
theorem dX0_lay_38 : decode cX0_lay 38 = .ok (.iload 4, 2) := by decide +kernel
theorem dX0_lay_40 : decode cX0_lay 40 = .ok (.iconst 0, 1) := by decide +kernel
theorem dX0_lay_41 : decode cX0_lay 41 = .ok (.iastore, 1) := by decide +kernel
theorem dX0_lay_42 : decode cX0_lay 42 = .ok (.iinc 4 1, 3) := by decide +kernel
theorem dX0_lay_45 : decode cX0_lay 45 = .ok (.goto (-20), 3) := by decide +kernel
theorem dX0_lay_48 : decode cX0_lay 48 = .ok (.aload_n 0, 1) := by decide +kernel
theorem dX0_lay_49 : decode cX0_lay 49 = .ok (.getfield 20, 3) := by decide +kernel
theorem dX0_lay_52 : decode cX0_lay 52 = .ok (.iload_n 1, 1) := by decide +kernel
theorem dX0_lay_53 : decode cX0_lay 53 = .ok (.iaload, 1) := by decide +kernel
theorem dX0_lay_54 : decode cX0_lay 54 = .ok (.ireturn, 1) := by decide +kernel
theorem dX0_put_0 : decode cX0_put 0 = .ok (.bipush 32, 2) := by decide +kernel
theorem dX0_put_2 : decode cX0_put 2 = .ok (.aload_n 0, 1) := by decide +kernel
theorem dX0_put_3 : decode cX0_put 3 = .ok (.getfield 16, 3) := by decide +kernel
theorem dX0_put_6 : decode cX0_put 6 = .ok (.iload_n 1, 1) := by decide +kernel
theorem dX0_put_7 : decode cX0_put 7 = .ok (.iaload, 1) := by decide +kernel
theorem dX0_put_8 : decode cX0_put 8 = .ok (.isub, 1) := by decide +kernel
theorem dX0_put_9 : decode cX0_put 9 = .ok (.istore 4, 2) := by decide +kernel
theorem dX0_put_11 : decode cX0_put 11 = .ok (.aload_n 0, 1) := by decide +kernel
theorem dX0_put_12 : decode cX0_put 12 = .ok (.getfield 13, 3) := by decide +kernel
theorem dX0_put_15 : decode cX0_put 15 = .ok (.iload_n 1, 1) := by decide +kernel
theorem dX0_put_16 : decode cX0_put 16 = .ok (.aaload, 1) := by decide +kernel
theorem dX0_put_17 : decode cX0_put 17 = .ok (.iload_n 2, 1) := by decide +kernel
theorem dX0_put_18 : decode cX0_put 18 = .ok (.iload_n 3, 1) := by decide +kernel
theorem dX0_put_19 : decode cX0_put 19 = .ok (.iload 4, 2) := by decide +kernel
theorem dX0_put_21 : decode cX0_put 21 = .ok (.ishl, 1) := by decide +kernel
theorem dX0_put_22 : decode cX0_put 22 = .ok (.iload 4, 2) := by decide +kernel
theorem dX0_put_24 : decode cX0_put 24 = .ok (.ishr, 1) := by decide +kernel
theorem dX0_put_25 : decode cX0_put 25 = .ok (.iastore, 1) := by decide +kernel
theorem dX0_put_26 : decode cX0_put 26 = .ok (.return_, 1) := by decide +kernel
theorem dX0_hasPart_0 : decode cX0_hasPart 0 = .ok (.iload_n 3, 1) := by decide +kernel
theorem dX0_hasPart_1 : decode cX0_hasPart 1 = .ok (.ifCond .lt 33, 3) := by decide +kernel
theorem dX0_hasPart_4 : decode cX0_hasPart 4 = .ok (.iload_n 3, 1) := by decide +kernel
theorem dX0_hasPart_5 : decode cX0_hasPart 5 = .ok (.aload_n 0, 1) := by decide +kernel
theorem dX0_hasPart_6 : decode cX0_hasPart 6 = .ok (.getfield 20, 3) := by decide +kernel
theorem dX0_hasPart_9 : decode cX0_hasPart 9 = .ok (.iload_n 1, 1) := by decide +kernel
theorem dX0_hasPart_10 : decode cX0_hasPart 10 = .ok (.iaload, 1) := by decide +kernel
theorem dX0_hasPart_11 : decode cX0_hasPart 11 = .ok (.if_icmp .gt 23, 3) := by decide +kernel
theorem dX0_hasPart_14 : decode cX0_hasPart 14 = .ok (.iload_n 2, 1) := by decide +kernel
theorem dX0_hasPart_15 : decode cX0_hasPart 15 = .ok (.ifCond .lt 19, 3) := by decide +kernel
theorem dX0_hasPart_18 : decode cX0_hasPart 18 = .ok (.iload_n 2, 1) := by decide +kernel
theorem dX0_hasPart_19 : decode cX0_hasPart 19 = .ok (.aload_n 0, 1) := by decide +kernel
theorem dX0_hasPart_20 : decode cX0_hasPart 20 = .ok (.getfield 20, 3) := by decide +kernel
theorem dX0_hasPart_23 : decode cX0_hasPart 23 = .ok (.iload_n 1, 1) := by decide +kernel
theorem dX0_hasPart_24 : decode cX0_hasPart 24 = .ok (.iaload, 1) := by decide +kernel
theorem dX0_hasPart_25 : decode cX0_hasPart 25 = .ok (.iload_n 3, 1) := by decide +kernel
theorem dX0_hasPart_26 : decode cX0_hasPart 26 = .ok (.isub, 1) := by decide +kernel
theorem dX0_hasPart_27 : decode cX0_hasPart 27 = .ok (.if_icmp .gt 7, 3) := by decide +kernel
theorem dX0_hasPart_30 : decode cX0_hasPart 30 = .ok (.iconst 1, 1) := by decide +kernel
theorem dX0_hasPart_31 : decode cX0_hasPart 31 = .ok (.goto 4, 3) := by decide +kernel
theorem dX0_hasPart_34 : decode cX0_hasPart 34 = .ok (.iconst 0, 1) := by decide +kernel
theorem dX0_hasPart_35 : decode cX0_hasPart 35 = .ok (.ireturn, 1) := by decide +kernel
theorem dX1_init_0 : decode cX1_init 0 = .ok (.aload_n 0, 1) := by decide +kernel
theorem dX1_init_1 : decode cX1_init 1 = .ok (.invokespecial 3, 3) := by decide +kernel
theorem dX1_init_4 : decode cX1_init 4 = .ok (.aload_n 0, 1) := by decide +kernel
theorem dX1_init_5 : decode cX1_init 5 = .ok (.iconst 3, 1) := by decide +kernel
theorem dX1_init_6 : decode cX1_init 6 = .ok (.bipush 24, 2) := by decide +kernel
theorem dX1_init_8 : decode cX1_init 8 = .ok (.multianewarray 9 2, 4) := by decide +kernel
theorem dX1_init_12 : decode cX1_init 12 = .ok (.putfield 11, 3) := by decide +kernel
theorem dX1_init_15 : decode cX1_init 15 = .ok (.aload_n 0, 1) := by decide +kernel
theorem dX1_init_16 : decode cX1_init 16 = .ok (.bipush 6, 2) := by decide +kernel
theorem dX1_init_18 : decode cX1_init 18 = .ok (.bipush 8, 2) := by decide +kernel
theorem dX1_init_20 : decode cX1_init 20 = .ok (.multianewarray 9 2, 4) := by decide +kernel
theorem dX1_init_24 : decode cX1_init 24 = .ok (.putfield 16, 3) := by decide +kernel
theorem dX1_init_27 : decode cX1_init 27 = .ok (.aload_n 0, 1) := by decide +kernel
theorem dX1_init_28 : decode cX1_init 28 = .ok (.bipush 10, 2) := by decide +kernel
theorem dX1_init_30 : decode cX1_init 30 = .ok (.newarray .int, 2) := by decide +kernel
theorem dX1_init_32 : decode cX1_init 32 = .ok (.putfield 19, 3) := by decide +kernel
theorem dX1_init_35 : decode cX1_init 35 = .ok (.aload_n 0, 1) := by decide +kernel
theorem dX1_init_36 : decode cX1_init 36 = .ok (.bipush 8, 2) := by decide +kernel
theorem dX1_init_38 : decode cX1_init 38 = .ok (.putfield 23, 3) := by decide +kernel
theorem dX1_init_41 : decode cX1_init 41 = .ok (.aload_n 0, 1) := by decide +kernel
theorem dX1_init_42 : decode cX1_init 42 = .ok (.iconst 1, 1) := by decide +kernel
theorem dX1_init_43 : decode cX1_init 43 = .ok (.putfield 27, 3) := by decide +kernel
theorem dX1_init_46 : decode cX1_init 46 = .ok (.iconst 0, 1) := by decide +kernel
theorem dX1_init_47 : decode cX1_init 47 = .ok (.istore_n 1, 1) := by decide +kernel
theorem dX1_init_48 : decode cX1_init 48 = .ok (.iload_n 1, 1) := by decide +kernel
theorem dX1_init_49 : decode cX1_init 49 = .ok (.bipush 24, 2) := by decide +kernel
theorem dX1_init_51 : decode cX1_init 51 = .ok (.if_icmp .ge 18, 3) := by decide +kernel
theorem dX1_init_54 : decode cX1_init 54 = .ok (.aload_n 0, 1) := by decide +kernel
theorem dX1_init_55 : decode cX1_init 55 = .ok (.getfield 11, 3) := by decide +kernel
theorem dX1_init_58 : decode cX1_init 58 = .ok (.iconst 0, 1) := by decide +kernel
theorem dX1_init_59 : decode cX1_init 59 = .ok (.aaload, 1) := by decide +kernel
theorem dX1_init_60 : decode cX1_init 60 = .ok (.iload_n 1, 1) := by decide +kernel
theorem dX1_init_61 : decode cX1_init 61 = .ok (.iconst (-1), 1) := by decide +kernel
theorem dX1_init_62 : decode cX1_init 62 = .ok (.iastore, 1) := by decide +kernel
theorem dX1_init_63 : decode cX1_init 63 = .ok (.iinc 1 1, 3) := by decide +kernel
theorem dX1_init_66 : decode cX1_init 66 = .ok (.goto (-18), 3) := by decide +kernel
theorem dX1_init_69 : decode cX1_init 69 = .ok (.iconst 0, 1) := by decide +kernel
theorem dX1_init_70 : decode cX1_init 70 = .ok (.istore_n 1, 1) := by decide +kernel
theorem dX1_init_71 : decode cX1_init 71 = .ok (.iload_n 1, 1) := by decide +kernel
theorem dX1_init_72 : decode cX1_init 72 = .ok (.bipush 10, 2) := by decide +kernel
theorem dX1_init_74 : decode cX1_init 74 = .ok (.if_icmp .ge 16, 3) := by decide +kernel
theorem dX1_init_77 : decode cX1_init 77 = .ok (.aload_n 0, 1) := by decide +kernel
theorem dX1_init_78 : decode cX1_init 78 = .ok (.getfield 19, 3) := by decide +kernel
theorem dX1_init_81 : decode cX1_init 81 = .ok (.iload_n 1, 1) := by decide +kernel
theorem dX1_init_82 : decode cX1_init 82 = .ok (.iconst (-1), 1) := by decide +kernel
theorem dX1_init_83 : decode cX1_init 83 = .ok (.iastore, 1) := by decide +kernel
theorem dX1_init_84 : decode cX1_init 84 = .ok (.iinc 1 1, 3) := by decide +kernel
theorem dX1_init_87 : decode cX1_init 87 = .ok (.goto (-16), 3) := by decide +kernel
theorem dX1_init_90 : decode cX1_init 90 = .ok (.return_, 1) := by decide +kernel
theorem dX1_become_0 : decode cX1_become 0 = .ok (.iconst 0, 1) := by decide +kernel
theorem dX1_become_1 : decode cX1_become 1 = .ok (.istore_n 2, 1) := by decide +kernel
theorem dX1_become_2 : decode cX1_become 2 = .ok (.iload_n 2, 1) := by decide +kernel
theorem dX1_become_3 : decode cX1_become 3 = .ok (.iconst 3, 1) := by decide +kernel
theorem dX1_become_4 : decode cX1_become 4 = .ok (.if_icmp .ge 28, 3) := by decide +kernel
theorem dX1_become_7 : decode cX1_become 7 = .ok (.aload_n 1, 1) := by decide +kernel
theorem dX1_become_8 : decode cX1_become 8 = .ok (.getfield 11, 3) := by decide +kernel
theorem dX1_become_11 : decode cX1_become 11 = .ok (.iload_n 2, 1) := by decide +kernel
theorem dX1_become_12 : decode cX1_become 12 = .ok (.aaload, 1) := by decide +kernel
theorem dX1_become_13 : decode cX1_become 13 = .ok (.iconst 0, 1) := by decide +kernel
theorem dX1_become_14 : decode cX1_become 14 = .ok (.aload_n 0, 1) := by decide +kernel
theorem dX1_become_15 : decode cX1_become 15 = .ok (.getfield 11, 3) := by decide +kernel
theorem dX1_become_18 : decode cX1_become 18 = .ok (.iload_n 2, 1) := by decide +kernel
theorem dX1_become_19 : decode cX1_become 19 = .ok (.aaload, 1) := by decide +kernel
theorem dX1_become_20 : decode cX1_become 20 = .ok (.iconst 0, 1) := by decide +kernel
theorem dX1_become_21 : decode cX1_become 21 = .ok (.bipush 24, 2) := by decide +kernel
theorem dX1_become_23 : decode cX1_become 23 = .ok (.invokestatic 30, 3) := by decide +kernel
theorem dX1_become_26 : decode cX1_become 26 = .ok (.iinc 2 1, 3) := by decide +kernel
theorem dX1_become_29 : decode cX1_become 29 = .ok (.goto (-27), 3) := by decide +kernel
theorem dX1_become_32 : decode cX1_become 32 = .ok (.iconst 0, 1) := by decide +kernel
theorem dX1_become_33 : decode cX1_become 33 = .ok (.istore_n 2, 1) := by decide +kernel
theorem dX1_become_34 : decode cX1_become 34 = .ok (.iload_n 2, 1) := by decide +kernel
theorem dX1_become_35 : decode cX1_become 35 = .ok (.bipush 6, 2) := by decide +kernel
theorem dX1_become_37 : decode cX1_become 37 = .ok (.if_icmp .ge 28, 3) := by decide +kernel
theorem dX1_become_40 : decode cX1_become 40 = .ok (.aload_n 1, 1) := by decide +kernel
theorem dX1_become_41 : decode cX1_become 41 = .ok (.getfield 16, 3) := by decide +kernel
theorem dX1_become_44 : decode cX1_become 44 = .ok (.iload_n 2, 1) := by decide +kernel
theorem dX1_become_45 : decode cX1_become 45 = .ok (.aaload, 1) := by decide +kernel
theorem dX1_become_46 : decode cX1_become 46 = .ok (.iconst 0, 1) := by decide +kernel
theorem dX1_become_47 : decode cX1_become 47 = .ok (.aload_n 0, 1) := by decide +kernel
theorem dX1_become_48 : decode cX1_become 48 = .ok (.getfield 16, 3) := by decide +kernel
theorem dX1_become_51 : decode cX1_become 51 = .ok (.iload_n 2, 1) := by decide +kernel
theorem dX1_become_52 : decode cX1_become 52 = .ok (.aaload, 1) := by decide +kernel
theorem dX1_become_53 : decode cX1_become 53 = .ok (.iconst 0, 1) := by decide +kernel
theorem dX1_become_54 : decode cX1_become 54 = .ok (.bipush 8, 2) := by decide +kernel
theorem dX1_become_56 : decode cX1_become 56 = .ok (.invokestatic 30, 3) := by decide +kernel
theorem dX1_become_59 : decode cX1_become 59 = .ok (.iinc 2 1, 3) := by decide +kernel
theorem dX1_become_62 : decode cX1_become 62 = .ok (.goto (-28), 3) := by decide +kernel
theorem dX1_become_65 : decode cX1_become 65 = .ok (.aload_n 1, 1) := by decide +kernel
theorem dX1_become_66 : decode cX1_become 66 = .ok (.getfield 19, 3) := by decide +kernel
theorem dX1_become_69 : decode cX1_become 69 = .ok (.iconst 0, 1) := by decide +kernel
theorem dX1_become_70 : decode cX1_become 70 = .ok (.aload_n 0, 1) := by decide +kernel
theorem dX1_become_71 : decode cX1_become 71 = .ok (.getfield 19, 3) := by decide +kernel
theorem dX1_become_74 : decode cX1_become 74 = .ok (.iconst 0, 1) := by decide +kernel
theorem dX1_become_75 : decode cX1_become 75 = .ok (.bipush 10, 2) := by decide +kernel
theorem dX1_become_77 : decode cX1_become 77 = .ok (.invokestatic 30, 3) := by decide +kernel
theorem dX1_become_80 : decode cX1_become 80 = .ok (.aload_n 0, 1) := by decide +kernel
theorem dX1_become_81 : decode cX1_become 81 = .ok (.aload_n 1, 1) := by decide +kernel
theorem dX1_become_82 : decode cX1_become 82 = .ok (.getfield 36, 3) := by decide +kernel
theorem dX1_become_85 : decode cX1_become 85 = .ok (.putfield 36, 3) := by decide +kernel
theorem dX1_become_88 : decode cX1_become 88 = .ok (.aload_n 0, 1) := by decide +kernel
theorem dX1_become_89 : decode cX1_become 89 = .ok (.aload_n 1, 1) := by decide +kernel
theorem dX1_become_90 : decode cX1_become 90 = .ok (.getfield 23, 3) := by decide +kernel
theorem dX1_become_93 : decode cX1_become 93 = .ok (.putfield 23, 3) := by decide +kernel
theorem dX1_become_96 : decode cX1_become 96 = .ok (.aload_n 0, 1) := by decide +kernel
theorem dX1_become_97 : decode cX1_become 97 = .ok (.aload_n 1, 1) := by decide +kernel
theorem dX1_become_98 : decode cX1_become 98 = .ok (.getfield 39, 3) := by decide +kernel
theorem dX1_become_101 : decode cX1_become 101 = .ok (.putfield 39, 3) := by decide +kernel
theorem dX1_become_104 : decode cX1_become 104 = .ok (.aload_n 0, 1) := by decide +kernel
theorem dX1_become_105 : decode cX1_become 105 = .ok (.aload_n 1, 1) := by decide +kernel
theorem dX1_become_106 : decode cX1_become 106 = .ok (.getfield 42, 3) := by decide +kernel
theorem dX1_become_109 : decode cX1_become 109 = .ok (.putfield 42, 3) := by decide +kernel
theorem dX1_become_112 : decode cX1_become 112 = .ok (.aload_n 0, 1) := by decide +kernel
theorem dX1_become_113 : decode cX1_become 113 = .ok (.aload_n 1, 1) := by decide +kernel
theorem dX1_become_114 : decode cX1_become 114 = .ok (.getfield 27, 3) := by decide +kernel
theorem dX1_become_117 : decode cX1_become 117 = .ok (.putfield 27, 3) := by decide +kernel
theorem dX1_become_120 : decode cX1_become 120 = .ok (.return_, 1) := by decide +kernel
theorem dX1_isWalker_0 : decode cX1_isWalker 0 = .ok (.iload_n 1, 1) := by decide +kernel
theorem dX1_isWalker_1 : decode cX1_isWalker 1 = .ok (.iconst 0, 1) := by decide +kernel
theorem dX1_isWalker_2 : decode cX1_isWalker 2 = .ok (.aload_n 0, 1) := by decide +kernel
theorem dX1_isWalker_3 : decode cX1_isWalker 3 = .ok (.getfield 36, 3) := by decide +kernel
theorem dX1_isWalker_6 : decode cX1_isWalker 6 = .ok (.iconst 1, 1) := by decide +kernel
theorem dX1_isWalker_7 : decode cX1_isWalker 7 = .ok (.isub, 1) := by decide +kernel
theorem dX1_isWalker_8 : decode cX1_isWalker 8 = .ok (.invokestatic 45, 3) := by decide +kernel
theorem dX1_isWalker_11 : decode cX1_isWalker 11 = .ok (.ireturn, 1) := by decide +kernel
theorem dX1_isWalkerOrNobody_0 : decode cX1_isWalkerOrNobody 0 = .ok (.iload_n 1, 1) := by decide +kernel
theorem dX1_isWalkerOrNobody_1 : decode cX1_isWalkerOrNobody 1 = .ok (.iconst (-1), 1) := by decide +kernel
theorem dX1_isWalkerOrNobody_2 : decode cX1_isWalkerOrNobody 2 = .ok (.aload_n 0, 1) := by decide +kernel
theorem dX1_isWalkerOrNobody_3 : decode cX1_isWalkerOrNobody 3 = .ok (.getfield 36, 3) := by decide +kernel
theorem dX1_isWalkerOrNobody_6 : decode cX1_isWalkerOrNobody 6 = .ok (.iconst 1, 1) := by decide +kernel
theorem dX1_isWalkerOrNobody_7 : decode cX1_isWalkerOrNobody 7 = .ok (.isub, 1) := by decide +kernel
theorem dX1_isWalkerOrNobody_8 : decode cX1_isWalkerOrNobody 8 = .ok (.invokestatic 45, 3) := by decide +kernel
theorem dX1_isWalkerOrNobody_11 : decode cX1_isWalkerOrNobody 11 = .ok (.ireturn, 1) := by decide +kernel
theorem dX1_hasRoom_0 : decode cX1_hasRoom 0 = .ok (.aload_n 0, 1) := by decide +kernel
theorem dX1_hasRoom_1 : decode cX1_hasRoom 1 = .ok (.getfield 36, 3) := by decide +kernel
theorem dX1_hasRoom_4 : decode cX1_hasRoom 4 = .ok (.bipush 8, 2) := by decide +kernel
theorem dX1_hasRoom_6 : decode cX1_hasRoom 6 = .ok (.if_icmp .ge 7, 3) := by decide +kernel
theorem dX1_hasRoom_9 : decode cX1_hasRoom 9 = .ok (.iconst 1, 1) := by decide +kernel
theorem dX1_hasRoom_10 : decode cX1_hasRoom 10 = .ok (.goto 4, 3) := by decide +kernel
theorem dX1_hasRoom_13 : decode cX1_hasRoom 13 = .ok (.iconst 0, 1) := by decide +kernel
theorem dX1_hasRoom_14 : decode cX1_hasRoom 14 = .ok (.ireturn, 1) := by decide +kernel
theorem dX1_add_0 : decode cX1_add 0 = .ok (.aload_n 0, 1) := by decide +kernel
theorem dX1_add_1 : decode cX1_add 1 = .ok (.getfield 36, 3) := by decide +kernel
theorem dX1_add_4 : decode cX1_add 4 = .ok (.istore_n 3, 1) := by decide +kernel
theorem dX1_add_5 : decode cX1_add 5 = .ok (.aload_n 0, 1) := by decide +kernel
theorem dX1_add_6 : decode cX1_add 6 = .ok (.getfield 16, 3) := by decide +kernel
theorem dX1_add_9 : decode cX1_add 9 = .ok (.iconst 0, 1) := by decide +kernel
theorem dX1_add_10 : decode cX1_add 10 = .ok (.aaload, 1) := by decide +kernel
theorem dX1_add_11 : decode cX1_add 11 = .ok (.iload_n 3, 1) := by decide +kernel
theorem dX1_add_12 : decode cX1_add 12 = .ok (.iload_n 1, 1) := by decide +kernel
theorem dX1_add_13 : decode cX1_add 13 = .ok (.iastore, 1) := by decide +kernel
theorem dX1_add_14 : decode cX1_add 14 = .ok (.aload_n 0, 1) := by decide +kernel
theorem dX1_add_15 : decode cX1_add 15 = .ok (.getfield 16, 3) := by decide +kernel
theorem dX1_add_18 : decode cX1_add 18 = .ok (.iconst 1, 1) := by decide +kernel
theorem dX1_add_19 : decode cX1_add 19 = .ok (.aaload, 1) := by decide +kernel
theorem dX1_add_20 : decode cX1_add 20 = .ok (.iload_n 3, 1) := by decide +kernel
theorem dX1_add_21 : decode cX1_add 21 = .ok (.iload_n 2, 1) := by decide +kernel
theorem dX1_add_22 : decode cX1_add 22 = .ok (.iastore, 1) := by decide +kernel
theorem dX1_add_23 : decode cX1_add 23 = .ok (.aload_n 0, 1) := by decide +kernel
theorem dX1_add_24 : decode cX1_add 24 = .ok (.getfield 16, 3) := by decide +kernel
theorem dX1_add_27 : decode cX1_add 27 = .ok (.iconst 2, 1) := by decide +kernel
theorem dX1_add_28 : decode cX1_add 28 = .ok (.aaload, 1) := by decide +kernel
theorem dX1_add_29 : decode cX1_add 29 = .ok (.iload_n 3, 1) := by decide +kernel
theorem dX1_add_30 : decode cX1_add 30 = .ok (.iconst 1, 1) := by decide +kernel
theorem dX1_add_31 : decode cX1_add 31 = .ok (.iastore, 1) := by decide +kernel
theorem dX1_add_32 : decode cX1_add 32 = .ok (.aload_n 0, 1) := by decide +kernel
theorem dX1_add_33 : decode cX1_add 33 = .ok (.getfield 16, 3) := by decide +kernel
theorem dX1_add_36 : decode cX1_add 36 = .ok (.iconst 3, 1) := by decide +kernel
theorem dX1_add_37 : decode cX1_add 37 = .ok (.aaload, 1) := by decide +kernel
theorem dX1_add_38 : decode cX1_add 38 = .ok (.iload_n 3, 1) := by decide +kernel
theorem dX1_add_39 : decode cX1_add 39 = .ok (.iconst 1, 1) := by decide +kernel
theorem dX1_add_40 : decode cX1_add 40 = .ok (.iastore, 1) := by decide +kernel
theorem dX1_add_41 : decode cX1_add 41 = .ok (.aload_n 0, 1) := by decide +kernel
theorem dX1_add_42 : decode cX1_add 42 = .ok (.getfield 16, 3) := by decide +kernel
theorem dX1_add_45 : decode cX1_add 45 = .ok (.iconst 4, 1) := by decide +kernel
theorem dX1_add_46 : decode cX1_add 46 = .ok (.aaload, 1) := by decide +kernel
theorem dX1_add_47 : decode cX1_add 47 = .ok (.iload_n 3, 1) := by decide +kernel
theorem dX1_add_48 : decode cX1_add 48 = .ok (.iconst 4, 1) := by decide +kernel
theorem dX1_add_49 : decode cX1_add 49 = .ok (.iastore, 1) := by decide +kernel
theorem dX1_add_50 : decode cX1_add 50 = .ok (.aload_n 0, 1) := by decide +kernel
theorem dX1_add_51 : decode cX1_add 51 = .ok (.getfield 16, 3) := by decide +kernel
theorem dX1_add_54 : decode cX1_add 54 = .ok (.iconst 5, 1) := by decide +kernel
theorem dX1_add_55 : decode cX1_add 55 = .ok (.aaload, 1) := by decide +kernel
theorem dX1_add_56 : decode cX1_add 56 = .ok (.iload_n 3, 1) := by decide +kernel
theorem dX1_add_57 : decode cX1_add 57 = .ok (.iconst 0, 1) := by decide +kernel
theorem dX1_add_58 : decode cX1_add 58 = .ok (.iastore, 1) := by decide +kernel
theorem dX1_add_59 : decode cX1_add 59 = .ok (.aload_n 0, 1) := by decide +kernel
theorem dX1_add_60 : decode cX1_add 60 = .ok (.dup, 1) := by decide +kernel
theorem dX1_add_61 : decode cX1_add 61 = .ok (.getfield 36, 3) := by decide +kernel
theorem dX1_add_64 : decode cX1_add 64 = .ok (.iconst 1, 1) := by decide +kernel
theorem dX1_add_65 : decode cX1_add 65 = .ok (.iadd, 1) := by decide +kernel
theorem dX1_add_66 : decode cX1_add 66 = .ok (.putfield 36, 3) := by decide +kernel
theorem dX1_add_69 : decode cX1_add 69 = .ok (.iload_n 3, 1) := by decide +kernel
theorem dX1_add_70 : decode cX1_add 70 = .ok (.ireturn, 1) := by decide +kernel
theorem dX1_put_0 : decode cX1_put 0 = .ok (.aload_n 0, 1) := by decide +kernel
theorem dX1_put_1 : decode cX1_put 1 = .ok (.getfield 11, 3) := by decide +kernel
theorem dX1_put_4 : decode cX1_put 4 = .ok (.iconst 0, 1) := by decide +kernel
theorem dX1_put_5 : decode cX1_put 5 = .ok (.aaload, 1) := by decide +kernel
theorem dX1_put_6 : decode cX1_put 6 = .ok (.iload_n 1, 1) := by decide +kernel
theorem dX1_put_7 : decode cX1_put 7 = .ok (.iload_n 2, 1) := by decide +kernel
theorem dX1_put_8 : decode cX1_put 8 = .ok (.iastore, 1) := by decide +kernel
theorem dX1_put_9 : decode cX1_put 9 = .ok (.aload_n 0, 1) := by decide +kernel
theorem dX1_put_10 : decode cX1_put 10 = .ok (.getfield 11, 3) := by decide +kernel
theorem dX1_put_13 : decode cX1_put 13 = .ok (.iconst 1, 1) := by decide +kernel
theorem dX1_put_14 : decode cX1_put 14 = .ok (.aaload, 1) := by decide +kernel
theorem dX1_put_15 : decode cX1_put 15 = .ok (.iload_n 1, 1) := by decide +kernel
theorem dX1_put_16 : decode cX1_put 16 = .ok (.iload_n 3, 1) := by decide +kernel
theorem dX1_put_17 : decode cX1_put 17 = .ok (.iastore, 1) := by decide +kernel
theorem dX1_put_18 : decode cX1_put 18 = .ok (.aload_n 0, 1) := by decide +kernel
theorem dX1_put_19 : decode cX1_put 19 = .ok (.getfield 11, 3) := by decide +kernel
theorem dX1_put_22 : decode cX1_put 22 = .ok (.iconst 2, 1) := by decide +kernel
theorem dX1_put_23 : decode cX1_put 23 = .ok (.aaload, 1) := by decide +kernel
theorem dX1_put_24 : decode cX1_put 24 = .ok (.iload_n 1, 1) := by decide +kernel
theorem dX1_put_25 : decode cX1_put 25 = .ok (.iload 4, 2) := by decide +kernel
theorem dX1_put_27 : decode cX1_put 27 = .ok (.iastore, 1) := by decide +kernel
theorem dX1_put_28 : decode cX1_put 28 = .ok (.return_, 1) := by decide +kernel
theorem dX1_clear_0 : decode cX1_clear 0 = .ok (.aload_n 0, 1) := by decide +kernel
theorem dX1_clear_1 : decode cX1_clear 1 = .ok (.iload_n 1, 1) := by decide +kernel
theorem dX1_clear_2 : decode cX1_clear 2 = .ok (.iconst (-1), 1) := by decide +kernel
theorem dX1_clear_3 : decode cX1_clear 3 = .ok (.iconst 0, 1) := by decide +kernel
theorem dX1_clear_4 : decode cX1_clear 4 = .ok (.iconst 0, 1) := by decide +kernel
theorem dX1_clear_5 : decode cX1_clear 5 = .ok (.invokevirtual 49, 3) := by decide +kernel
theorem dX1_clear_8 : decode cX1_clear 8 = .ok (.return_, 1) := by decide +kernel
theorem dX1_strides_0 : decode cX1_strides 0 = .ok (.aload_n 0, 1) := by decide +kernel
theorem dX1_strides_1 : decode cX1_strides 1 = .ok (.getfield 16, 3) := by decide +kernel
theorem dX1_strides_4 : decode cX1_strides 4 = .ok (.iconst 3, 1) := by decide +kernel
theorem dX1_strides_5 : decode cX1_strides 5 = .ok (.aaload, 1) := by decide +kernel
theorem dX1_strides_6 : decode cX1_strides 6 = .ok (.iload_n 1, 1) := by decide +kernel
theorem dX1_strides_7 : decode cX1_strides 7 = .ok (.iaload, 1) := by decide +kernel
theorem dX1_strides_8 : decode cX1_strides 8 = .ok (.istore_n 2, 1) := by decide +kernel
theorem dX1_strides_9 : decode cX1_strides 9 = .ok (.iload_n 2, 1) := by decide +kernel
theorem dX1_strides_10 : decode cX1_strides 10 = .ok (.aload_n 0, 1) := by decide +kernel
theorem dX1_strides_11 : decode cX1_strides 11 = .ok (.getfield 42, 3) := by decide +kernel
theorem dX1_strides_14 : decode cX1_strides 14 = .ok (.iconst 2, 1) := by decide +kernel
theorem dX1_strides_15 : decode cX1_strides 15 = .ok (.irem, 1) := by decide +kernel
theorem dX1_strides_16 : decode cX1_strides 16 = .ok (.iadd, 1) := by decide +kernel
theorem dX1_strides_17 : decode cX1_strides 17 = .ok (.istore_n 3, 1) := by decide +kernel
theorem dX1_strides_18 : decode cX1_strides 18 = .ok (.iconst 1, 1) := by decide +kernel
theorem dX1_strides_19 : decode cX1_strides 19 = .ok (.iload_n 2, 1) := by decide +kernel
theorem dX1_strides_20 : decode cX1_strides 20 = .ok (.iconst 2, 1) := by decide +kernel
theorem dX1_strides_21 : decode cX1_strides 21 = .ok (.idiv, 1) := by decide +kernel
theorem dX1_strides_22 : decode cX1_strides 22 = .ok (.iadd, 1) := by decide +kernel
theorem dX1_strides_23 : decode cX1_strides 23 = .ok (.istore 4, 2) := by decide +kernel
theorem dX1_strides_25 : decode cX1_strides 25 = .ok (.aload_n 0, 1) := by decide +kernel
theorem dX1_strides_26 : decode cX1_strides 26 = .ok (.getfield 16, 3) := by decide +kernel
theorem dX1_strides_29 : decode cX1_strides 29 = .ok (.iconst 0, 1) := by decide +kernel
theorem dX1_strides_30 : decode cX1_strides 30 = .ok (.aaload, 1) := by decide +kernel
theorem dX1_strides_31 : decode cX1_strides 31 = .ok (.iload_n 1, 1) := by decide +kernel
theorem dX1_strides_32 : decode cX1_strides 32 = .ok (.iaload, 1) := by decide +kernel
theorem dX1_strides_33 : decode cX1_strides 33 = .ok (.tableswitch 55 1 6 #[39, 45, 47, 50, 55, 41], 39) := by decide +kernel
theorem dX1_strides_72 : decode cX1_strides 72 = .ok (.iload_n 3, 1) := by decide +kernel
theorem dX1_strides_73 : decode cX1_strides 73 = .ok (.ireturn, 1) := by decide +kernel
theorem dX1_strides_74 : decode cX1_strides 74 = .ok (.iconst 2, 1) := by decide +kernel
theorem dX1_strides_75 : decode cX1_strides 75 = .ok (.iload_n 3, 1) := by decide +kernel
theorem dX1_strides_76 : decode cX1_strides 76 = .ok (.imul, 1) := by decide +kernel
theorem dX1_strides_77 : decode cX1_strides 77 = .ok (.ireturn, 1) := by decide +kernel
theorem dX1_strides_78 : decode cX1_strides 78 = .ok (.iconst 1, 1) := by decide +kernel
theorem dX1_strides_79 : decode cX1_strides 79 = .ok (.ireturn, 1) := by decide +kernel
theorem dX1_strides_80 : decode cX1_strides 80 = .ok (.iload 4, 2) := by decide +kernel
theorem dX1_strides_82 : decode cX1_strides 82 = .ok (.ireturn, 1) := by decide +kernel
theorem dX1_strides_83 : decode cX1_strides 83 = .ok (.iload 4, 2) := by decide +kernel
theorem dX1_strides_85 : decode cX1_strides 85 = .ok (.iconst 2, 1) := by decide +kernel
theorem dX1_strides_86 : decode cX1_strides 86 = .ok (.iadd, 1) := by decide +kernel
theorem dX1_strides_87 : decode cX1_strides 87 = .ok (.ireturn, 1) := by decide +kernel
theorem dX1_strides_88 : decode cX1_strides 88 = .ok (.iload_n 2, 1) := by decide +kernel
theorem dX1_strides_89 : decode cX1_strides 89 = .ok (.ireturn, 1) := by decide +kernel
theorem dX1_presses_0 : decode cX1_presses 0 = .ok (.aload_n 0, 1) := by decide +kernel
theorem dX1_presses_1 : decode cX1_presses 1 = .ok (.getfield 16, 3) := by decide +kernel
theorem dX1_presses_4 : decode cX1_presses 4 = .ok (.iconst 4, 1) := by decide +kernel
theorem dX1_presses_5 : decode cX1_presses 5 = .ok (.aaload, 1) := by decide +kernel
theorem dX1_presses_6 : decode cX1_presses 6 = .ok (.iload_n 1, 1) := by decide +kernel
theorem dX1_presses_7 : decode cX1_presses 7 = .ok (.iaload, 1) := by decide +kernel
theorem dX1_presses_8 : decode cX1_presses 8 = .ok (.istore_n 2, 1) := by decide +kernel
theorem dX1_presses_9 : decode cX1_presses 9 = .ok (.iload_n 2, 1) := by decide +kernel
theorem dX1_presses_10 : decode cX1_presses 10 = .ok (.iconst 3, 1) := by decide +kernel
theorem dX1_presses_11 : decode cX1_presses 11 = .ok (.iadd, 1) := by decide +kernel
theorem dX1_presses_12 : decode cX1_presses 12 = .ok (.iconst 1, 1) := by decide +kernel
theorem dX1_presses_13 : decode cX1_presses 13 = .ok (.iadd, 1) := by decide +kernel
theorem dX1_presses_14 : decode cX1_presses 14 = .ok (.istore_n 3, 1) := by decide +kernel
theorem dX1_presses_15 : decode cX1_presses 15 = .ok (.aload_n 0, 1) := by decide +kernel
theorem dX1_presses_16 : decode cX1_presses 16 = .ok (.getfield 16, 3) := by decide +kernel
theorem dX1_presses_19 : decode cX1_presses 19 = .ok (.iconst 0, 1) := by decide +kernel
theorem dX1_presses_20 : decode cX1_presses 20 = .ok (.aaload, 1) := by decide +kernel
theorem dX1_presses_21 : decode cX1_presses 21 = .ok (.iload_n 1, 1) := by decide +kernel
theorem dX1_presses_22 : decode cX1_presses 22 = .ok (.iaload, 1) := by decide +kernel
theorem dX1_presses_23 : decode cX1_presses 23 = .ok (.tableswitch 94 1 6 #[37, 51, 60, 67, 92, 41], 37) := by decide +kernel
theorem dX1_presses_60 : decode cX1_presses 60 = .ok (.iload_n 2, 1) := by decide +kernel
theorem dX1_presses_61 : decode cX1_presses 61 = .ok (.iconst 2, 1) := by decide +kernel
theorem dX1_presses_62 : decode cX1_presses 62 = .ok (.idiv, 1) := by decide +kernel
theorem dX1_presses_63 : decode cX1_presses 63 = .ok (.ireturn, 1) := by decide +kernel
theorem dX1_presses_64 : decode cX1_presses 64 = .ok (.iconst 0, 1) := by decide +kernel
theorem dX1_presses_65 : decode cX1_presses 65 = .ok (.iload_n 2, 1) := by decide +kernel
theorem dX1_presses_66 : decode cX1_presses 66 = .ok (.iconst 2, 1) := by decide +kernel
theorem dX1_presses_67 : decode cX1_presses 67 = .ok (.idiv, 1) := by decide +kernel
theorem dX1_presses_68 : decode cX1_presses 68 = .ok (.iconst 1, 1) := by decide +kernel
theorem dX1_presses_69 : decode cX1_presses 69 = .ok (.isub, 1) := by decide +kernel
theorem dX1_presses_70 : decode cX1_presses 70 = .ok (.invokestatic 53, 3) := by decide +kernel
theorem dX1_presses_73 : decode cX1_presses 73 = .ok (.ireturn, 1) := by decide +kernel
theorem dX1_presses_74 : decode cX1_presses 74 = .ok (.bipush 9, 2) := by decide +kernel
theorem dX1_presses_76 : decode cX1_presses 76 = .ok (.iload_n 2, 1) := by decide +kernel
theorem dX1_presses_77 : decode cX1_presses 77 = .ok (.iconst 3, 1) := by decide +kernel
theorem dX1_presses_78 : decode cX1_presses 78 = .ok (.iadd, 1) := by decide +kernel
theorem dX1_presses_79 : decode cX1_presses 79 = .ok (.invokestatic 59, 3) := by decide +kernel
theorem dX1_presses_82 : decode cX1_presses 82 = .ok (.ireturn, 1) := by decide +kernel
theorem dX1_presses_83 : decode cX1_presses 83 = .ok (.bipush 9, 2) := by decide +kernel
theorem dX1_presses_85 : decode cX1_presses 85 = .ok (.iload_n 3, 1) := by decide +kernel
theorem dX1_presses_86 : decode cX1_presses 86 = .ok (.invokestatic 59, 3) := by decide +kernel
theorem dX1_presses_89 : decode cX1_presses 89 = .ok (.ireturn, 1) := by decide +kernel
theorem dX1_presses_90 : decode cX1_presses 90 = .ok (.bipush 9, 2) := by decide +kernel
theorem dX1_presses_92 : decode cX1_presses 92 = .ok (.aload_n 0, 1) := by decide +kernel
theorem dX1_presses_93 : decode cX1_presses 93 = .ok (.getfield 16, 3) := by decide +kernel
theorem dX1_presses_96 : decode cX1_presses 96 = .ok (.iconst 3, 1) := by decide +kernel
theorem dX1_presses_97 : decode cX1_presses 97 = .ok (.aaload, 1) := by decide +kernel
theorem dX1_presses_98 : decode cX1_presses 98 = .ok (.iload_n 1, 1) := by decide +kernel
theorem dX1_presses_99 : decode cX1_presses 99 = .ok (.iaload, 1) := by decide +kernel
theorem dX1_presses_100 : decode cX1_presses 100 = .ok (.iconst 3, 1) := by decide +kernel
theorem dX1_presses_101 : decode cX1_presses 101 = .ok (.if_icmp .le 7, 3) := by decide +kernel
theorem dX1_presses_104 : decode cX1_presses 104 = .ok (.iload_n 3, 1) := by decide +kernel
theorem dX1_presses_105 : decode cX1_presses 105 = .ok (.goto 6, 3) := by decide +kernel
theorem dX1_presses_108 : decode cX1_presses 108 = .ok (.iload_n 3, 1) := by decide +kernel
theorem dX1_presses_109 : decode cX1_presses 109 = .ok (.iconst 2, 1) := by decide +kernel
theorem dX1_presses_110 : decode cX1_presses 110 = .ok (.isub, 1) := by decide +kernel
theorem dX1_presses_111 : decode cX1_presses 111 = .ok (.invokestatic 59, 3) := by decide +kernel
theorem dX1_presses_114 : decode cX1_presses 114 = .ok (.ireturn, 1) := by decide +kernel
theorem dX1_presses_115 : decode cX1_presses 115 = .ok (.iconst 1, 1) := by decide +kernel
theorem dX1_presses_116 : decode cX1_presses 116 = .ok (.ireturn, 1) := by decide +kernel
theorem dX1_presses_117 : decode cX1_presses 117 = .ok (.iload_n 2, 1) := by decide +kernel
theorem dX1_presses_118 : decode cX1_presses 118 = .ok (.ireturn, 1) := by decide +kernel
theorem dX1_looks_0 : decode cX1_looks 0 = .ok (.aload_n 0, 1) := by decide +kernel
theorem dX1_looks_1 : decode cX1_looks 1 = .ok (.getfield 16, 3) := by decide +kernel
theorem dX1_looks_4 : decode cX1_looks 4 = .ok (.iconst 2, 1) := by decide +kernel
theorem dX1_looks_5 : decode cX1_looks 5 = .ok (.aaload, 1) := by decide +kernel
theorem dX1_looks_6 : decode cX1_looks 6 = .ok (.iload_n 1, 1) := by decide +kernel
theorem dX1_looks_7 : decode cX1_looks 7 = .ok (.iaload, 1) := by decide +kernel
theorem dX1_looks_8 : decode cX1_looks 8 = .ok (.istore_n 2, 1) := by decide +kernel
theorem dX1_looks_9 : decode cX1_looks 9 = .ok (.aload_n 0, 1) := by decide +kernel
theorem dX1_looks_10 : decode cX1_looks 10 = .ok (.getfield 16, 3) := by decide +kernel
theorem dX1_looks_13 : decode cX1_looks 13 = .ok (.iconst 0, 1) := by decide +kernel
theorem dX1_looks_14 : decode cX1_looks 14 = .ok (.aaload, 1) := by decide +kernel
theorem dX1_looks_15 : decode cX1_looks 15 = .ok (.iload_n 1, 1) := by decide +kernel
theorem dX1_looks_16 : decode cX1_looks 16 = .ok (.iaload, 1) := by decide +kernel
theorem dX1_looks_17 : decode cX1_looks 17 = .ok (.iconst 5, 1) := by decide +kernel
theorem dX1_looks_18 : decode cX1_looks 18 = .ok (.if_icmp .ne 9, 3) := by decide +kernel
theorem dX1_looks_21 : decode cX1_looks 21 = .ok (.iconst 1, 1) := by decide +kernel
theorem dX1_looks_22 : decode cX1_looks 22 = .ok (.iload_n 2, 1) := by decide +kernel
theorem dX1_looks_23 : decode cX1_looks 23 = .ok (.isub, 1) := by decide +kernel
theorem dX1_looks_24 : decode cX1_looks 24 = .ok (.goto 4, 3) := by decide +kernel
theorem dX1_looks_27 : decode cX1_looks 27 = .ok (.iload_n 2, 1) := by decide +kernel
theorem dX1_looks_28 : decode cX1_looks 28 = .ok (.ireturn, 1) := by decide +kernel
theorem dX1_passHours_0 : decode cX1_passHours 0 = .ok (.iconst 0, 1) := by decide +kernel
theorem dX1_passHours_1 : decode cX1_passHours 1 = .ok (.istore_n 3, 1) := by decide +kernel
theorem dX1_passHours_2 : decode cX1_passHours 2 = .ok (.iload_n 3, 1) := by decide +kernel
theorem dX1_passHours_3 : decode cX1_passHours 3 = .ok (.iload_n 1, 1) := by decide +kernel
theorem dX1_passHours_4 : decode cX1_passHours 4 = .ok (.if_icmp .ge 14, 3) := by decide +kernel
theorem dX1_passHours_7 : decode cX1_passHours 7 = .ok (.aload_n 0, 1) := by decide +kernel
theorem dX1_passHours_8 : decode cX1_passHours 8 = .ok (.iload_n 2, 1) := by decide +kernel
theorem dX1_passHours_9 : decode cX1_passHours 9 = .ok (.invokevirtual 62, 3) := by decide +kernel
theorem dX1_passHours_12 : decode cX1_passHours 12 = .ok (.iinc 3 1, 3) := by decide +kernel
theorem dX1_passHours_15 : decode cX1_passHours 15 = .ok (.goto (-13), 3) := by decide +kernel
theorem dX1_passHours_18 : decode cX1_passHours 18 = .ok (.return_, 1) := by decide +kernel
theorem dX1_passHour_0 : decode cX1_passHour 0 = .ok (.iconst 0, 1) := by decide +kernel
theorem dX1_passHour_1 : decode cX1_passHour 1 = .ok (.istore_n 2, 1) := by decide +kernel
theorem dX1_passHour_2 : decode cX1_passHour 2 = .ok (.iload_n 2, 1) := by decide +kernel
theorem dX1_passHour_3 : decode cX1_passHour 3 = .ok (.aload_n 0, 1) := by decide +kernel
theorem dX1_passHour_4 : decode cX1_passHour 4 = .ok (.getfield 36, 3) := by decide +kernel
theorem dX1_passHour_7 : decode cX1_passHour 7 = .ok (.if_icmp .ge 22, 3) := by decide +kernel
theorem dX1_passHour_10 : decode cX1_passHour 10 = .ok (.iload_n 1, 1) := by decide +kernel
theorem dX1_passHour_11 : decode cX1_passHour 11 = .ok (.iload_n 2, 1) := by decide +kernel
theorem dX1_passHour_12 : decode cX1_passHour 12 = .ok (.ishr, 1) := by decide +kernel
theorem dX1_passHour_13 : decode cX1_passHour 13 = .ok (.iconst 1, 1) := by decide +kernel
theorem dX1_passHour_14 : decode cX1_passHour 14 = .ok (.iand, 1) := by decide +kernel
theorem dX1_passHour_15 : decode cX1_passHour 15 = .ok (.ifCond .ne 8, 3) := by decide +kernel
theorem dX1_passHour_18 : decode cX1_passHour 18 = .ok (.aload_n 0, 1) := by decide +kernel
theorem dX1_passHour_19 : decode cX1_passHour 19 = .ok (.iload_n 2, 1) := by decide +kernel
theorem dX1_passHour_20 : decode cX1_passHour 20 = .ok (.invokevirtual 66, 3) := by decide +kernel
theorem dX1_passHour_23 : decode cX1_passHour 23 = .ok (.iinc 2 1, 3) := by decide +kernel
theorem dX1_passHour_26 : decode cX1_passHour 26 = .ok (.goto (-24), 3) := by decide +kernel
theorem dX1_passHour_29 : decode cX1_passHour 29 = .ok (.aload_n 0, 1) := by decide +kernel
theorem dX1_passHour_30 : decode cX1_passHour 30 = .ok (.ldc 69, 2) := by decide +kernel
theorem dX1_passHour_32 : decode cX1_passHour 32 = .ok (.aload_n 0, 1) := by decide +kernel
theorem dX1_passHour_33 : decode cX1_passHour 33 = .ok (.getfield 42, 3) := by decide +kernel
theorem dX1_passHour_36 : decode cX1_passHour 36 = .ok (.iconst 1, 1) := by decide +kernel
theorem dX1_passHour_37 : decode cX1_passHour 37 = .ok (.iadd, 1) := by decide +kernel
theorem dX1_passHour_38 : decode cX1_passHour 38 = .ok (.invokestatic 59, 3) := by decide +kernel
theorem dX1_passHour_41 : decode cX1_passHour 41 = .ok (.putfield 42, 3) := by decide +kernel
theorem dX1_passHour_44 : decode cX1_passHour 44 = .ok (.aload_n 0, 1) := by decide +kernel
theorem dX1_passHour_45 : decode cX1_passHour 45 = .ok (.getfield 42, 3) := by decide +kernel
theorem dX1_passHour_48 : decode cX1_passHour 48 = .ok (.bipush 6, 2) := by decide +kernel
theorem dX1_passHour_50 : decode cX1_passHour 50 = .ok (.irem, 1) := by decide +kernel
theorem dX1_passHour_51 : decode cX1_passHour 51 = .ok (.ifCond .ne 8, 3) := by decide +kernel
theorem dX1_passHour_54 : decode cX1_passHour 54 = .ok (.aload_n 0, 1) := by decide +kernel
theorem dX1_passHour_55 : decode cX1_passHour 55 = .ok (.invokevirtual 70, 3) := by decide +kernel
theorem dX1_passHour_58 : decode cX1_passHour 58 = .ok (.pop, 1) := by decide +kernel
theorem dX1_passHour_59 : decode cX1_passHour 59 = .ok (.return_, 1) := by decide +kernel
theorem dX1_goOn_0 : decode cX1_goOn 0 = .ok (.aload_n 0, 1) := by decide +kernel
theorem dX1_goOn_1 : decode cX1_goOn 1 = .ok (.getfield 16, 3) := by decide +kernel
theorem dX1_goOn_4 : decode cX1_goOn 4 = .ok (.iconst 2, 1) := by decide +kernel
theorem dX1_goOn_5 : decode cX1_goOn 5 = .ok (.aaload, 1) := by decide +kernel
theorem dX1_goOn_6 : decode cX1_goOn 6 = .ok (.iload_n 1, 1) := by decide +kernel
theorem dX1_goOn_7 : decode cX1_goOn 7 = .ok (.iaload, 1) := by decide +kernel
theorem dX1_goOn_8 : decode cX1_goOn 8 = .ok (.istore_n 2, 1) := by decide +kernel
theorem dX1_goOn_9 : decode cX1_goOn 9 = .ok (.aload_n 0, 1) := by decide +kernel
theorem dX1_goOn_10 : decode cX1_goOn 10 = .ok (.getfield 16, 3) := by decide +kernel
theorem dX1_goOn_13 : decode cX1_goOn 13 = .ok (.iconst 1, 1) := by decide +kernel
theorem dX1_goOn_14 : decode cX1_goOn 14 = .ok (.aaload, 1) := by decide +kernel
theorem dX1_goOn_15 : decode cX1_goOn 15 = .ok (.iload_n 1, 1) := by decide +kernel
theorem dX1_goOn_16 : decode cX1_goOn 16 = .ok (.iaload, 1) := by decide +kernel
theorem dX1_goOn_17 : decode cX1_goOn 17 = .ok (.iload_n 2, 1) := by decide +kernel
theorem dX1_goOn_18 : decode cX1_goOn 18 = .ok (.iconst 1, 1) := by decide +kernel
theorem dX1_goOn_19 : decode cX1_goOn 19 = .ok (.if_icmp .ne 11, 3) := by decide +kernel
theorem dX1_goOn_22 : decode cX1_goOn 22 = .ok (.aload_n 0, 1) := by decide +kernel
theorem dX1_goOn_23 : decode cX1_goOn 23 = .ok (.iload_n 1, 1) := by decide +kernel
theorem dX1_goOn_24 : decode cX1_goOn 24 = .ok (.invokevirtual 74, 3) := by decide +kernel
theorem dX1_goOn_27 : decode cX1_goOn 27 = .ok (.goto 9, 3) := by decide +kernel
theorem dX1_goOn_30 : decode cX1_goOn 30 = .ok (.aload_n 0, 1) := by decide +kernel
theorem dX1_goOn_31 : decode cX1_goOn 31 = .ok (.iload_n 1, 1) := by decide +kernel
theorem dX1_goOn_32 : decode cX1_goOn 32 = .ok (.invokevirtual 74, 3) := by decide +kernel
theorem dX1_goOn_35 : decode cX1_goOn 35 = .ok (.ineg, 1) := by decide +kernel
theorem dX1_goOn_36 : decode cX1_goOn 36 = .ok (.iadd, 1) := by decide +kernel
theorem dX1_goOn_37 : decode cX1_goOn 37 = .ok (.istore_n 3, 1) := by decide +kernel
theorem dX1_goOn_38 : decode cX1_goOn 38 = .ok (.iconst 0, 1) := by decide +kernel
theorem dX1_goOn_39 : decode cX1_goOn 39 = .ok (.bipush 23, 2) := by decide +kernel
theorem dX1_goOn_41 : decode cX1_goOn 41 = .ok (.iload_n 3, 1) := by decide +kernel
theorem dX1_goOn_42 : decode cX1_goOn 42 = .ok (.invokestatic 59, 3) := by decide +kernel
theorem dX1_goOn_45 : decode cX1_goOn 45 = .ok (.invokestatic 53, 3) := by decide +kernel
theorem dX1_goOn_48 : decode cX1_goOn 48 = .ok (.istore 4, 2) := by decide +kernel
theorem dX1_goOn_50 : decode cX1_goOn 50 = .ok (.aload_n 0, 1) := by decide +kernel
theorem dX1_goOn_51 : decode cX1_goOn 51 = .ok (.getfield 11, 3) := by decide +kernel
theorem dX1_goOn_54 : decode cX1_goOn 54 = .ok (.iconst 0, 1) := by decide +kernel
theorem dX1_goOn_55 : decode cX1_goOn 55 = .ok (.aaload, 1) := by decide +kernel
theorem dX1_goOn_56 : decode cX1_goOn 56 = .ok (.iload 4, 2) := by decide +kernel
theorem dX1_goOn_58 : decode cX1_goOn 58 = .ok (.iaload, 1) := by decide +kernel
theorem dX1_goOn_59 : decode cX1_goOn 59 = .ok (.iconst (-1), 1) := by decide +kernel
theorem dX1_goOn_60 : decode cX1_goOn 60 = .ok (.if_icmp .eq 31, 3) := by decide +kernel
theorem dX1_goOn_63 : decode cX1_goOn 63 = .ok (.aload_n 0, 1) := by decide +kernel
theorem dX1_goOn_64 : decode cX1_goOn 64 = .ok (.getfield 11, 3) := by decide +kernel
theorem dX1_goOn_67 : decode cX1_goOn 67 = .ok (.iconst 0, 1) := by decide +kernel
theorem dX1_goOn_68 : decode cX1_goOn 68 = .ok (.aaload, 1) := by decide +kernel
theorem dX1_goOn_69 : decode cX1_goOn 69 = .ok (.iload 4, 2) := by decide +kernel
theorem dX1_goOn_71 : decode cX1_goOn 71 = .ok (.iaload, 1) := by decide +kernel
theorem dX1_goOn_72 : decode cX1_goOn 72 = .ok (.iload_n 1, 1) := by decide +kernel
theorem dX1_goOn_73 : decode cX1_goOn 73 = .ok (.if_icmp .eq 18, 3) := by decide +kernel
theorem dX1_goOn_76 : decode cX1_goOn 76 = .ok (.aload_n 0, 1) := by decide +kernel
theorem dX1_goOn_77 : decode cX1_goOn 77 = .ok (.ldc 69, 2) := by decide +kernel
theorem dX1_goOn_79 : decode cX1_goOn 79 = .ok (.aload_n 0, 1) := by decide +kernel
theorem dX1_goOn_80 : decode cX1_goOn 80 = .ok (.getfield 39, 3) := by decide +kernel
theorem dX1_goOn_83 : decode cX1_goOn 83 = .ok (.iconst 1, 1) := by decide +kernel
theorem dX1_goOn_84 : decode cX1_goOn 84 = .ok (.iadd, 1) := by decide +kernel
theorem dX1_goOn_85 : decode cX1_goOn 85 = .ok (.invokestatic 59, 3) := by decide +kernel
theorem dX1_goOn_88 : decode cX1_goOn 88 = .ok (.putfield 39, 3) := by decide +kernel
theorem dX1_goOn_91 : decode cX1_goOn 91 = .ok (.aload_n 0, 1) := by decide +kernel
theorem dX1_goOn_92 : decode cX1_goOn 92 = .ok (.iload 4, 2) := by decide +kernel
theorem dX1_goOn_94 : decode cX1_goOn 94 = .ok (.iload_n 1, 1) := by decide +kernel
theorem dX1_goOn_95 : decode cX1_goOn 95 = .ok (.aload_n 0, 1) := by decide +kernel
theorem dX1_goOn_96 : decode cX1_goOn 96 = .ok (.iload_n 1, 1) := by decide +kernel
theorem dX1_goOn_97 : decode cX1_goOn 97 = .ok (.invokevirtual 78, 3) := by decide +kernel
theorem dX1_goOn_100 : decode cX1_goOn 100 = .ok (.aload_n 0, 1) := by decide +kernel
theorem dX1_goOn_101 : decode cX1_goOn 101 = .ok (.iload_n 1, 1) := by decide +kernel
theorem dX1_goOn_102 : decode cX1_goOn 102 = .ok (.invokevirtual 81, 3) := by decide +kernel
theorem dX1_goOn_105 : decode cX1_goOn 105 = .ok (.invokevirtual 49, 3) := by decide +kernel
theorem dX1_goOn_108 : decode cX1_goOn 108 = .ok (.aload_n 0, 1) := by decide +kernel
theorem dX1_goOn_109 : decode cX1_goOn 109 = .ok (.getfield 16, 3) := by decide +kernel
theorem dX1_goOn_112 : decode cX1_goOn 112 = .ok (.iconst 1, 1) := by decide +kernel
theorem dX1_goOn_113 : decode cX1_goOn 113 = .ok (.aaload, 1) := by decide +kernel
theorem dX1_goOn_114 : decode cX1_goOn 114 = .ok (.iload_n 1, 1) := by decide +kernel
theorem dX1_goOn_115 : decode cX1_goOn 115 = .ok (.iload 4, 2) := by decide +kernel
theorem dX1_goOn_117 : decode cX1_goOn 117 = .ok (.iastore, 1) := by decide +kernel
theorem dX1_goOn_118 : decode cX1_goOn 118 = .ok (.iload 4, 2) := by decide +kernel
theorem dX1_goOn_120 : decode cX1_goOn 120 = .ok (.iload_n 3, 1) := by decide +kernel
theorem dX1_goOn_121 : decode cX1_goOn 121 = .ok (.if_icmp .eq 14, 3) := by decide +kernel
theorem dX1_goOn_124 : decode cX1_goOn 124 = .ok (.aload_n 0, 1) := by decide +kernel
theorem dX1_goOn_125 : decode cX1_goOn 125 = .ok (.getfield 16, 3) := by decide +kernel
theorem dX1_goOn_128 : decode cX1_goOn 128 = .ok (.iconst 2, 1) := by decide +kernel
theorem dX1_goOn_129 : decode cX1_goOn 129 = .ok (.aaload, 1) := by decide +kernel
theorem dX1_goOn_130 : decode cX1_goOn 130 = .ok (.iload_n 1, 1) := by decide +kernel
theorem dX1_goOn_131 : decode cX1_goOn 131 = .ok (.iconst 1, 1) := by decide +kernel
theorem dX1_goOn_132 : decode cX1_goOn 132 = .ok (.iload_n 2, 1) := by decide +kernel
theorem dX1_goOn_133 : decode cX1_goOn 133 = .ok (.isub, 1) := by decide +kernel
theorem dX1_goOn_134 : decode cX1_goOn 134 = .ok (.iastore, 1) := by decide +kernel
theorem dX1_goOn_135 : decode cX1_goOn 135 = .ok (.aload_n 0, 1) := by decide +kernel
theorem dX1_goOn_136 : decode cX1_goOn 136 = .ok (.getfield 16, 3) := by decide +kernel
theorem dX1_goOn_139 : decode cX1_goOn 139 = .ok (.iconst 5, 1) := by decide +kernel
theorem dX1_goOn_140 : decode cX1_goOn 140 = .ok (.aaload, 1) := by decide +kernel
theorem dX1_goOn_141 : decode cX1_goOn 141 = .ok (.iload_n 1, 1) := by decide +kernel
theorem dX1_goOn_142 : decode cX1_goOn 142 = .ok (.ldc 69, 2) := by decide +kernel
theorem dX1_goOn_144 : decode cX1_goOn 144 = .ok (.aload_n 0, 1) := by decide +kernel
theorem dX1_goOn_145 : decode cX1_goOn 145 = .ok (.getfield 16, 3) := by decide +kernel
theorem dX1_goOn_148 : decode cX1_goOn 148 = .ok (.iconst 5, 1) := by decide +kernel
theorem dX1_goOn_149 : decode cX1_goOn 149 = .ok (.aaload, 1) := by decide +kernel
theorem dX1_goOn_150 : decode cX1_goOn 150 = .ok (.iload_n 1, 1) := by decide +kernel
theorem dX1_goOn_151 : decode cX1_goOn 151 = .ok (.iaload, 1) := by decide +kernel
theorem dX1_goOn_152 : decode cX1_goOn 152 = .ok (.iconst 1, 1) := by decide +kernel
theorem dX1_goOn_153 : decode cX1_goOn 153 = .ok (.iadd, 1) := by decide +kernel
theorem dX1_goOn_154 : decode cX1_goOn 154 = .ok (.invokestatic 59, 3) := by decide +kernel
theorem dX1_goOn_157 : decode cX1_goOn 157 = .ok (.iastore, 1) := by decide +kernel
theorem dX1_goOn_158 : decode cX1_goOn 158 = .ok (.return_, 1) := by decide +kernel
theorem dX1_comeTide_0 : decode cX1_comeTide 0 = .ok (.iconst 0, 1) := by decide +kernel
theorem dX1_comeTide_1 : decode cX1_comeTide 1 = .ok (.istore_n 1, 1) := by decide +kernel
theorem dX1_comeTide_2 : decode cX1_comeTide 2 = .ok (.iconst 0, 1) := by decide +kernel
theorem dX1_comeTide_3 : decode cX1_comeTide 3 = .ok (.istore_n 2, 1) := by decide +kernel
theorem dX1_comeTide_4 : decode cX1_comeTide 4 = .ok (.iload_n 2, 1) := by decide +kernel
theorem dX1_comeTide_5 : decode cX1_comeTide 5 = .ok (.aload_n 0, 1) := by decide +kernel
theorem dX1_comeTide_6 : decode cX1_comeTide 6 = .ok (.getfield 23, 3) := by decide +kernel
theorem dX1_comeTide_9 : decode cX1_comeTide 9 = .ok (.if_icmp .ge 63, 3) := by decide +kernel
theorem dX1_comeTide_12 : decode cX1_comeTide 12 = .ok (.iload_n 2, 1) := by decide +kernel
theorem dX1_comeTide_13 : decode cX1_comeTide 13 = .ok (.bipush 24, 2) := by decide +kernel
theorem dX1_comeTide_15 : decode cX1_comeTide 15 = .ok (.if_icmp .ge 57, 3) := by decide +kernel
theorem dX1_comeTide_18 : decode cX1_comeTide 18 = .ok (.aload_n 0, 1) := by decide +kernel
theorem dX1_comeTide_19 : decode cX1_comeTide 19 = .ok (.getfield 11, 3) := by decide +kernel
theorem dX1_comeTide_22 : decode cX1_comeTide 22 = .ok (.iconst 1, 1) := by decide +kernel
theorem dX1_comeTide_23 : decode cX1_comeTide 23 = .ok (.aaload, 1) := by decide +kernel
theorem dX1_comeTide_24 : decode cX1_comeTide 24 = .ok (.iload_n 2, 1) := by decide +kernel
theorem dX1_comeTide_25 : decode cX1_comeTide 25 = .ok (.iaload, 1) := by decide +kernel
theorem dX1_comeTide_26 : decode cX1_comeTide 26 = .ok (.bipush 8, 2) := by decide +kernel
theorem dX1_comeTide_28 : decode cX1_comeTide 28 = .ok (.if_icmp .lt 18, 3) := by decide +kernel
theorem dX1_comeTide_31 : decode cX1_comeTide 31 = .ok (.aload_n 0, 1) := by decide +kernel
theorem dX1_comeTide_32 : decode cX1_comeTide 32 = .ok (.getfield 11, 3) := by decide +kernel
theorem dX1_comeTide_35 : decode cX1_comeTide 35 = .ok (.iconst 1, 1) := by decide +kernel
theorem dX1_comeTide_36 : decode cX1_comeTide 36 = .ok (.aaload, 1) := by decide +kernel
theorem dX1_comeTide_37 : decode cX1_comeTide 37 = .ok (.iload_n 2, 1) := by decide +kernel
theorem dX1_comeTide_38 : decode cX1_comeTide 38 = .ok (.dup2, 1) := by decide +kernel
theorem dX1_comeTide_39 : decode cX1_comeTide 39 = .ok (.iaload, 1) := by decide +kernel
theorem dX1_comeTide_40 : decode cX1_comeTide 40 = .ok (.iconst 1, 1) := by decide +kernel
theorem dX1_comeTide_41 : decode cX1_comeTide 41 = .ok (.isub, 1) := by decide +kernel
theorem dX1_comeTide_42 : decode cX1_comeTide 42 = .ok (.iastore, 1) := by decide +kernel
theorem dX1_comeTide_43 : decode cX1_comeTide 43 = .ok (.goto 23, 3) := by decide +kernel
theorem dX1_comeTide_46 : decode cX1_comeTide 46 = .ok (.aload_n 0, 1) := by decide +kernel
theorem dX1_comeTide_47 : decode cX1_comeTide 47 = .ok (.getfield 11, 3) := by decide +kernel
theorem dX1_comeTide_50 : decode cX1_comeTide 50 = .ok (.iconst 0, 1) := by decide +kernel
theorem dX1_comeTide_51 : decode cX1_comeTide 51 = .ok (.aaload, 1) := by decide +kernel
theorem dX1_comeTide_52 : decode cX1_comeTide 52 = .ok (.iload_n 2, 1) := by decide +kernel
theorem dX1_comeTide_53 : decode cX1_comeTide 53 = .ok (.iaload, 1) := by decide +kernel
theorem dX1_comeTide_54 : decode cX1_comeTide 54 = .ok (.iconst (-1), 1) := by decide +kernel
theorem dX1_comeTide_55 : decode cX1_comeTide 55 = .ok (.if_icmp .eq 11, 3) := by decide +kernel
theorem dX1_comeTide_58 : decode cX1_comeTide 58 = .ok (.aload_n 0, 1) := by decide +kernel
theorem dX1_comeTide_59 : decode cX1_comeTide 59 = .ok (.iload_n 2, 1) := by decide +kernel
theorem dX1_comeTide_60 : decode cX1_comeTide 60 = .ok (.invokevirtual 84, 3) := by decide +kernel
theorem dX1_comeTide_63 : decode cX1_comeTide 63 = .ok (.iinc 1 1, 3) := by decide +kernel
theorem dX1_comeTide_66 : decode cX1_comeTide 66 = .ok (.iinc 2 1, 3) := by decide +kernel
theorem dX1_comeTide_69 : decode cX1_comeTide 69 = .ok (.goto (-65), 3) := by decide +kernel
theorem dX1_comeTide_72 : decode cX1_comeTide 72 = .ok (.iload_n 1, 1) := by decide +kernel
theorem dX1_comeTide_73 : decode cX1_comeTide 73 = .ok (.ireturn, 1) := by decide +kernel
theorem dX1_passDrawnHour_0 : decode cX1_passDrawnHour 0 = .ok (.aload_n 0, 1) := by decide +kernel
theorem dX1_passDrawnHour_1 : decode cX1_passDrawnHour 1 = .ok (.aload_n 0, 1) := by decide +kernel
theorem dX1_passDrawnHour_2 : decode cX1_passDrawnHour 2 = .ok (.invokevirtual 87, 3) := by decide +kernel
theorem dX1_passDrawnHour_5 : decode cX1_passDrawnHour 5 = .ok (.bipush 25, 2) := by decide +kernel
theorem dX1_passDrawnHour_7 : decode cX1_passDrawnHour 7 = .ok (.irem, 1) := by decide +kernel
theorem dX1_passDrawnHour_8 : decode cX1_passDrawnHour 8 = .ok (.putfield 23, 3) := by decide +kernel
theorem dX1_passDrawnHour_11 : decode cX1_passDrawnHour 11 = .ok (.aload_n 0, 1) := by decide +kernel
theorem dX1_passDrawnHour_12 : decode cX1_passDrawnHour 12 = .ok (.invokevirtual 87, 3) := by decide +kernel
theorem dX1_passDrawnHour_15 : decode cX1_passDrawnHour 15 = .ok (.bipush 8, 2) := by decide +kernel
theorem dX1_passDrawnHour_17 : decode cX1_passDrawnHour 17 = .ok (.irem, 1) := by decide +kernel
theorem dX1_passDrawnHour_18 : decode cX1_passDrawnHour 18 = .ok (.istore_n 1, 1) := by decide +kernel
theorem dX1_passDrawnHour_19 : decode cX1_passDrawnHour 19 = .ok (.aload_n 0, 1) := by decide +kernel
theorem dX1_passDrawnHour_20 : decode cX1_passDrawnHour 20 = .ok (.iload_n 1, 1) := by decide +kernel
theorem dX1_passDrawnHour_21 : decode cX1_passDrawnHour 21 = .ok (.invokevirtual 90, 3) := by decide +kernel
theorem dX1_passDrawnHour_24 : decode cX1_passDrawnHour 24 = .ok (.ifCond .eq 29, 3) := by decide +kernel
theorem dX1_passDrawnHour_27 : decode cX1_passDrawnHour 27 = .ok (.aload_n 0, 1) := by decide +kernel
theorem dX1_passDrawnHour_28 : decode cX1_passDrawnHour 28 = .ok (.getfield 16, 3) := by decide +kernel
theorem dX1_passDrawnHour_31 : decode cX1_passDrawnHour 31 = .ok (.iconst 3, 1) := by decide +kernel
theorem dX1_passDrawnHour_32 : decode cX1_passDrawnHour 32 = .ok (.aaload, 1) := by decide +kernel
theorem dX1_passDrawnHour_33 : decode cX1_passDrawnHour 33 = .ok (.iload_n 1, 1) := by decide +kernel
theorem dX1_passDrawnHour_34 : decode cX1_passDrawnHour 34 = .ok (.getstatic 94, 3) := by decide +kernel
theorem dX1_passDrawnHour_37 : decode cX1_passDrawnHour 37 = .ok (.iconst 3, 1) := by decide +kernel
theorem dX1_passDrawnHour_38 : decode cX1_passDrawnHour 38 = .ok (.iaload, 1) := by decide +kernel
theorem dX1_passDrawnHour_39 : decode cX1_passDrawnHour 39 = .ok (.aload_n 0, 1) := by decide +kernel
theorem dX1_passDrawnHour_40 : decode cX1_passDrawnHour 40 = .ok (.getfield 16, 3) := by decide +kernel
theorem dX1_passDrawnHour_43 : decode cX1_passDrawnHour 43 = .ok (.iconst 3, 1) := by decide +kernel
theorem dX1_passDrawnHour_44 : decode cX1_passDrawnHour 44 = .ok (.aaload, 1) := by decide +kernel
theorem dX1_passDrawnHour_45 : decode cX1_passDrawnHour 45 = .ok (.iload_n 1, 1) := by decide +kernel
theorem dX1_passDrawnHour_46 : decode cX1_passDrawnHour 46 = .ok (.iaload, 1) := by decide +kernel
theorem dX1_passDrawnHour_47 : decode cX1_passDrawnHour 47 = .ok (.iconst 1, 1) := by decide +kernel
theorem dX1_passDrawnHour_48 : decode cX1_passDrawnHour 48 = .ok (.iadd, 1) := by decide +kernel
theorem dX1_passDrawnHour_49 : decode cX1_passDrawnHour 49 = .ok (.invokestatic 59, 3) := by decide +kernel
theorem dX1_passDrawnHour_52 : decode cX1_passDrawnHour 52 = .ok (.iastore, 1) := by decide +kernel
theorem dX1_passDrawnHour_53 : decode cX1_passDrawnHour 53 = .ok (.aload_n 0, 1) := by decide +kernel
theorem dX1_passDrawnHour_54 : decode cX1_passDrawnHour 54 = .ok (.iconst 0, 1) := by decide +kernel
theorem dX1_passDrawnHour_55 : decode cX1_passDrawnHour 55 = .ok (.invokevirtual 62, 3) := by decide +kernel
theorem dX1_passDrawnHour_58 : decode cX1_passDrawnHour 58 = .ok (.return_, 1) := by decide +kernel
theorem dX1_draw_0 : decode cX1_draw 0 = .ok (.aload_n 0, 1) := by decide +kernel
theorem dX1_draw_1 : decode cX1_draw 1 = .ok (.aload_n 0, 1) := by decide +kernel
theorem dX1_draw_2 : decode cX1_draw 2 = .ok (.getfield 27, 3) := by decide +kernel
theorem dX1_draw_5 : decode cX1_draw 5 = .ok (.ldc 97, 2) := by decide +kernel
theorem dX1_draw_7 : decode cX1_draw 7 = .ok (.imul, 1) := by decide +kernel
theorem dX1_draw_8 : decode cX1_draw 8 = .ok (.sipush 12345, 3) := by decide +kernel
theorem dX1_draw_11 : decode cX1_draw 11 = .ok (.iadd, 1) := by decide +kernel
theorem dX1_draw_12 : decode cX1_draw 12 = .ok (.putfield 27, 3) := by decide +kernel
theorem dX1_draw_15 : decode cX1_draw 15 = .ok (.aload_n 0, 1) := by decide +kernel
theorem dX1_draw_16 : decode cX1_draw 16 = .ok (.getfield 27, 3) := by decide +kernel
theorem dX1_draw_19 : decode cX1_draw 19 = .ok (.bipush 8, 2) := by decide +kernel
theorem dX1_draw_21 : decode cX1_draw 21 = .ok (.iushr, 1) := by decide +kernel
theorem dX1_draw_22 : decode cX1_draw 22 = .ok (.ireturn, 1) := by decide +kernel
theorem dX1_walkersAt_0 : decode cX1_walkersAt 0 = .ok (.iconst 0, 1) := by decide +kernel
theorem dX1_walkersAt_1 : decode cX1_walkersAt 1 = .ok (.istore_n 2, 1) := by decide +kernel
theorem dX1_walkersAt_2 : decode cX1_walkersAt 2 = .ok (.iconst 0, 1) := by decide +kernel
theorem dX1_walkersAt_3 : decode cX1_walkersAt 3 = .ok (.istore_n 3, 1) := by decide +kernel
theorem dX1_walkersAt_4 : decode cX1_walkersAt 4 = .ok (.iload_n 3, 1) := by decide +kernel
theorem dX1_walkersAt_5 : decode cX1_walkersAt 5 = .ok (.aload_n 0, 1) := by decide +kernel
theorem dX1_walkersAt_6 : decode cX1_walkersAt 6 = .ok (.getfield 36, 3) := by decide +kernel
theorem dX1_walkersAt_9 : decode cX1_walkersAt 9 = .ok (.if_icmp .ge 27, 3) := by decide +kernel
theorem dX1_walkersAt_12 : decode cX1_walkersAt 12 = .ok (.aload_n 0, 1) := by decide +kernel
theorem dX1_walkersAt_13 : decode cX1_walkersAt 13 = .ok (.getfield 16, 3) := by decide +kernel
theorem dX1_walkersAt_16 : decode cX1_walkersAt 16 = .ok (.iconst 1, 1) := by decide +kernel
theorem dX1_walkersAt_17 : decode cX1_walkersAt 17 = .ok (.aaload, 1) := by decide +kernel
theorem dX1_walkersAt_18 : decode cX1_walkersAt 18 = .ok (.iload_n 3, 1) := by decide +kernel
theorem dX1_walkersAt_19 : decode cX1_walkersAt 19 = .ok (.iaload, 1) := by decide +kernel
theorem dX1_walkersAt_20 : decode cX1_walkersAt 20 = .ok (.iload_n 1, 1) := by decide +kernel
theorem dX1_walkersAt_21 : decode cX1_walkersAt 21 = .ok (.if_icmp .ne 9, 3) := by decide +kernel
theorem dX1_walkersAt_24 : decode cX1_walkersAt 24 = .ok (.iload_n 2, 1) := by decide +kernel
theorem dX1_walkersAt_25 : decode cX1_walkersAt 25 = .ok (.iconst 1, 1) := by decide +kernel
theorem dX1_walkersAt_26 : decode cX1_walkersAt 26 = .ok (.iload_n 3, 1) := by decide +kernel
theorem dX1_walkersAt_27 : decode cX1_walkersAt 27 = .ok (.ishl, 1) := by decide +kernel
theorem dX1_walkersAt_28 : decode cX1_walkersAt 28 = .ok (.ior, 1) := by decide +kernel
theorem dX1_walkersAt_29 : decode cX1_walkersAt 29 = .ok (.istore_n 2, 1) := by decide +kernel
theorem dX1_walkersAt_30 : decode cX1_walkersAt 30 = .ok (.iinc 3 1, 3) := by decide +kernel
theorem dX1_walkersAt_33 : decode cX1_walkersAt 33 = .ok (.goto (-29), 3) := by decide +kernel
theorem dX1_walkersAt_36 : decode cX1_walkersAt 36 = .ok (.iload_n 2, 1) := by decide +kernel
theorem dX1_walkersAt_37 : decode cX1_walkersAt 37 = .ok (.ireturn, 1) := by decide +kernel
theorem dX1_workSet_0 : decode cX1_workSet 0 = .ok (.iconst 0, 1) := by decide +kernel
theorem dX1_workSet_1 : decode cX1_workSet 1 = .ok (.istore_n 2, 1) := by decide +kernel
theorem dX1_workSet_2 : decode cX1_workSet 2 = .ok (.iconst 0, 1) := by decide +kernel
theorem dX1_workSet_3 : decode cX1_workSet 3 = .ok (.istore_n 3, 1) := by decide +kernel
theorem dX1_workSet_4 : decode cX1_workSet 4 = .ok (.iload_n 3, 1) := by decide +kernel
theorem dX1_workSet_5 : decode cX1_workSet 5 = .ok (.bipush 24, 2) := by decide +kernel
theorem dX1_workSet_7 : decode cX1_workSet 7 = .ok (.if_icmp .ge 27, 3) := by decide +kernel
theorem dX1_workSet_10 : decode cX1_workSet 10 = .ok (.aload_n 0, 1) := by decide +kernel
theorem dX1_workSet_11 : decode cX1_workSet 11 = .ok (.getfield 11, 3) := by decide +kernel
theorem dX1_workSet_14 : decode cX1_workSet 14 = .ok (.iconst 0, 1) := by decide +kernel
theorem dX1_workSet_15 : decode cX1_workSet 15 = .ok (.aaload, 1) := by decide +kernel
theorem dX1_workSet_16 : decode cX1_workSet 16 = .ok (.iload_n 3, 1) := by decide +kernel
theorem dX1_workSet_17 : decode cX1_workSet 17 = .ok (.iaload, 1) := by decide +kernel
theorem dX1_workSet_18 : decode cX1_workSet 18 = .ok (.iload_n 1, 1) := by decide +kernel
theorem dX1_workSet_19 : decode cX1_workSet 19 = .ok (.if_icmp .ne 9, 3) := by decide +kernel
theorem dX1_workSet_22 : decode cX1_workSet 22 = .ok (.iload_n 2, 1) := by decide +kernel
theorem dX1_workSet_23 : decode cX1_workSet 23 = .ok (.iconst 1, 1) := by decide +kernel
theorem dX1_workSet_24 : decode cX1_workSet 24 = .ok (.iload_n 3, 1) := by decide +kernel
theorem dX1_workSet_25 : decode cX1_workSet 25 = .ok (.ishl, 1) := by decide +kernel
theorem dX1_workSet_26 : decode cX1_workSet 26 = .ok (.ior, 1) := by decide +kernel
theorem dX1_workSet_27 : decode cX1_workSet 27 = .ok (.istore_n 2, 1) := by decide +kernel
theorem dX1_workSet_28 : decode cX1_workSet 28 = .ok (.iinc 3 1, 3) := by decide +kernel
theorem dX1_workSet_31 : decode cX1_workSet 31 = .ok (.goto (-27), 3) := by decide +kernel
theorem dX1_workSet_34 : decode cX1_workSet 34 = .ok (.iload_n 2, 1) := by decide +kernel
theorem dX1_workSet_35 : decode cX1_workSet 35 = .ok (.ireturn, 1) := by decide +kernel
theorem dX1_workSize_0 : decode cX1_workSize 0 = .ok (.aload_n 0, 1) := by decide +kernel
theorem dX1_workSize_1 : decode cX1_workSize 1 = .ok (.iload_n 1, 1) := by decide +kernel
theorem dX1_workSize_2 : decode cX1_workSize 2 = .ok (.invokevirtual 98, 3) := by decide +kernel
theorem dX1_workSize_5 : decode cX1_workSize 5 = .ok (.invokestatic 101, 3) := by decide +kernel
theorem dX1_workSize_8 : decode cX1_workSize 8 = .ok (.ireturn, 1) := by decide +kernel
theorem dX1_longestLine_0 : decode cX1_longestLine 0 = .ok (.iconst 0, 1) := by decide +kernel
theorem dX1_longestLine_1 : decode cX1_longestLine 1 = .ok (.istore_n 2, 1) := by decide +kernel
theorem dX1_longestLine_2 : decode cX1_longestLine 2 = .ok (.iconst 0, 1) := by decide +kernel
theorem dX1_longestLine_3 : decode cX1_longestLine 3 = .ok (.istore_n 3, 1) := by decide +kernel
theorem dX1_longestLine_4 : decode cX1_longestLine 4 = .ok (.iconst 0, 1) := by decide +kernel
theorem dX1_longestLine_5 : decode cX1_longestLine 5 = .ok (.istore 4, 2) := by decide +kernel
theorem dX1_longestLine_7 : decode cX1_longestLine 7 = .ok (.iload 4, 2) := by decide +kernel
theorem dX1_longestLine_9 : decode cX1_longestLine 9 = .ok (.bipush 24, 2) := by decide +kernel
theorem dX1_longestLine_11 : decode cX1_longestLine 11 = .ok (.if_icmp .ge 36, 3) := by decide +kernel
theorem dX1_longestLine_14 : decode cX1_longestLine 14 = .ok (.aload_n 0, 1) := by decide +kernel
theorem dX1_longestLine_15 : decode cX1_longestLine 15 = .ok (.getfield 11, 3) := by decide +kernel
theorem dX1_longestLine_18 : decode cX1_longestLine 18 = .ok (.iconst 0, 1) := by decide +kernel
theorem dX1_longestLine_19 : decode cX1_longestLine 19 = .ok (.aaload, 1) := by decide +kernel
theorem dX1_longestLine_20 : decode cX1_longestLine 20 = .ok (.iload 4, 2) := by decide +kernel
theorem dX1_longestLine_22 : decode cX1_longestLine 22 = .ok (.iaload, 1) := by decide +kernel
theorem dX1_longestLine_23 : decode cX1_longestLine 23 = .ok (.iload_n 1, 1) := by decide +kernel
theorem dX1_longestLine_24 : decode cX1_longestLine 24 = .ok (.if_icmp .ne 9, 3) := by decide +kernel
theorem dX1_longestLine_27 : decode cX1_longestLine 27 = .ok (.iload_n 3, 1) := by decide +kernel
theorem dX1_longestLine_28 : decode cX1_longestLine 28 = .ok (.iconst 1, 1) := by decide +kernel
theorem dX1_longestLine_29 : decode cX1_longestLine 29 = .ok (.iadd, 1) := by decide +kernel
theorem dX1_longestLine_30 : decode cX1_longestLine 30 = .ok (.goto 4, 3) := by decide +kernel
theorem dX1_longestLine_33 : decode cX1_longestLine 33 = .ok (.iconst 0, 1) := by decide +kernel
theorem dX1_longestLine_34 : decode cX1_longestLine 34 = .ok (.istore_n 3, 1) := by decide +kernel
theorem dX1_longestLine_35 : decode cX1_longestLine 35 = .ok (.iload_n 2, 1) := by decide +kernel
theorem dX1_longestLine_36 : decode cX1_longestLine 36 = .ok (.iload_n 3, 1) := by decide +kernel
theorem dX1_longestLine_37 : decode cX1_longestLine 37 = .ok (.invokestatic 53, 3) := by decide +kernel
theorem dX1_longestLine_40 : decode cX1_longestLine 40 = .ok (.istore_n 2, 1) := by decide +kernel
theorem dX1_longestLine_41 : decode cX1_longestLine 41 = .ok (.iinc 4 1, 3) := by decide +kernel
theorem dX1_longestLine_44 : decode cX1_longestLine 44 = .ok (.goto (-37), 3) := by decide +kernel
theorem dX1_longestLine_47 : decode cX1_longestLine 47 = .ok (.iload_n 2, 1) := by decide +kernel
theorem dX1_longestLine_48 : decode cX1_longestLine 48 = .ok (.ireturn, 1) := by decide +kernel
theorem dX1_printSet_0 : decode cX1_printSet 0 = .ok (.aload_n 0, 1) := by decide +kernel
theorem dX1_printSet_1 : decode cX1_printSet 1 = .ok (.iconst (-1), 1) := by decide +kernel
theorem dX1_printSet_2 : decode cX1_printSet 2 = .ok (.invokevirtual 98, 3) := by decide +kernel
theorem dX1_printSet_5 : decode cX1_printSet 5 = .ok (.iconst (-1), 1) := by decide +kernel
theorem dX1_printSet_6 : decode cX1_printSet 6 = .ok (.ixor, 1) := by decide +kernel
theorem dX1_printSet_7 : decode cX1_printSet 7 = .ok (.ldc 106, 2) := by decide +kernel
theorem dX1_printSet_9 : decode cX1_printSet 9 = .ok (.iand, 1) := by decide +kernel
theorem dX1_printSet_10 : decode cX1_printSet 10 = .ok (.ireturn, 1) := by decide +kernel
theorem dX1_printCount_0 : decode cX1_printCount 0 = .ok (.aload_n 0, 1) := by decide +kernel
theorem dX1_printCount_1 : decode cX1_printCount 1 = .ok (.invokevirtual 107, 3) := by decide +kernel
theorem dX1_printCount_4 : decode cX1_printCount 4 = .ok (.invokestatic 101, 3) := by decide +kernel
theorem dX1_printCount_7 : decode cX1_printCount 7 = .ok (.ireturn, 1) := by decide +kernel
theorem dX1_depthSum_0 : decode cX1_depthSum 0 = .ok (.iconst 0, 1) := by decide +kernel
theorem dX1_depthSum_1 : decode cX1_depthSum 1 = .ok (.istore_n 1, 1) := by decide +kernel
theorem dX1_depthSum_2 : decode cX1_depthSum 2 = .ok (.iconst 0, 1) := by decide +kernel
theorem dX1_depthSum_3 : decode cX1_depthSum 3 = .ok (.istore_n 2, 1) := by decide +kernel
theorem dX1_depthSum_4 : decode cX1_depthSum 4 = .ok (.iload_n 2, 1) := by decide +kernel
theorem dX1_depthSum_5 : decode cX1_depthSum 5 = .ok (.bipush 24, 2) := by decide +kernel
theorem dX1_depthSum_7 : decode cX1_depthSum 7 = .ok (.if_icmp .ge 20, 3) := by decide +kernel
theorem dX1_depthSum_10 : decode cX1_depthSum 10 = .ok (.iload_n 1, 1) := by decide +kernel
theorem dX1_depthSum_11 : decode cX1_depthSum 11 = .ok (.aload_n 0, 1) := by decide +kernel
theorem dX1_depthSum_12 : decode cX1_depthSum 12 = .ok (.getfield 11, 3) := by decide +kernel
theorem dX1_depthSum_15 : decode cX1_depthSum 15 = .ok (.iconst 1, 1) := by decide +kernel
theorem dX1_depthSum_16 : decode cX1_depthSum 16 = .ok (.aaload, 1) := by decide +kernel
theorem dX1_depthSum_17 : decode cX1_depthSum 17 = .ok (.iload_n 2, 1) := by decide +kernel
theorem dX1_depthSum_18 : decode cX1_depthSum 18 = .ok (.iaload, 1) := by decide +kernel
theorem dX1_depthSum_19 : decode cX1_depthSum 19 = .ok (.iadd, 1) := by decide +kernel
theorem dX1_depthSum_20 : decode cX1_depthSum 20 = .ok (.istore_n 1, 1) := by decide +kernel
theorem dX1_depthSum_21 : decode cX1_depthSum 21 = .ok (.iinc 2 1, 3) := by decide +kernel
theorem dX1_depthSum_24 : decode cX1_depthSum 24 = .ok (.goto (-20), 3) := by decide +kernel
theorem dX1_depthSum_27 : decode cX1_depthSum 27 = .ok (.iload_n 1, 1) := by decide +kernel
theorem dX1_depthSum_28 : decode cX1_depthSum 28 = .ok (.ireturn, 1) := by decide +kernel
theorem dX1_greatestAuthor_0 : decode cX1_greatestAuthor 0 = .ok (.iconst (-1), 1) := by decide +kernel
theorem dX1_greatestAuthor_1 : decode cX1_greatestAuthor 1 = .ok (.istore_n 1, 1) := by decide +kernel
theorem dX1_greatestAuthor_2 : decode cX1_greatestAuthor 2 = .ok (.iconst (-1), 1) := by decide +kernel
theorem dX1_greatestAuthor_3 : decode cX1_greatestAuthor 3 = .ok (.istore_n 2, 1) := by decide +kernel
theorem dX1_greatestAuthor_4 : decode cX1_greatestAuthor 4 = .ok (.iconst 0, 1) := by decide +kernel
theorem dX1_greatestAuthor_5 : decode cX1_greatestAuthor 5 = .ok (.istore_n 3, 1) := by decide +kernel
theorem dX1_greatestAuthor_6 : decode cX1_greatestAuthor 6 = .ok (.iload_n 3, 1) := by decide +kernel
theorem dX1_greatestAuthor_7 : decode cX1_greatestAuthor 7 = .ok (.aload_n 0, 1) := by decide +kernel
theorem dX1_greatestAuthor_8 : decode cX1_greatestAuthor 8 = .ok (.getfield 36, 3) := by decide +kernel
theorem dX1_greatestAuthor_11 : decode cX1_greatestAuthor 11 = .ok (.if_icmp .ge 27, 3) := by decide +kernel
theorem dX1_greatestAuthor_14 : decode cX1_greatestAuthor 14 = .ok (.aload_n 0, 1) := by decide +kernel
theorem dX1_greatestAuthor_15 : decode cX1_greatestAuthor 15 = .ok (.iload_n 3, 1) := by decide +kernel
theorem dX1_greatestAuthor_16 : decode cX1_greatestAuthor 16 = .ok (.invokevirtual 110, 3) := by decide +kernel
theorem dX1_greatestAuthor_19 : decode cX1_greatestAuthor 19 = .ok (.istore 4, 2) := by decide +kernel
theorem dX1_greatestAuthor_21 : decode cX1_greatestAuthor 21 = .ok (.iload 4, 2) := by decide +kernel
theorem dX1_greatestAuthor_23 : decode cX1_greatestAuthor 23 = .ok (.iload_n 2, 1) := by decide +kernel
theorem dX1_greatestAuthor_24 : decode cX1_greatestAuthor 24 = .ok (.if_icmp .le 8, 3) := by decide +kernel
theorem dX1_greatestAuthor_27 : decode cX1_greatestAuthor 27 = .ok (.iload 4, 2) := by decide +kernel
theorem dX1_greatestAuthor_29 : decode cX1_greatestAuthor 29 = .ok (.istore_n 2, 1) := by decide +kernel
theorem dX1_greatestAuthor_30 : decode cX1_greatestAuthor 30 = .ok (.iload_n 3, 1) := by decide +kernel
theorem dX1_greatestAuthor_31 : decode cX1_greatestAuthor 31 = .ok (.istore_n 1, 1) := by decide +kernel
theorem dX1_greatestAuthor_32 : decode cX1_greatestAuthor 32 = .ok (.iinc 3 1, 3) := by decide +kernel
theorem dX1_greatestAuthor_35 : decode cX1_greatestAuthor 35 = .ok (.goto (-29), 3) := by decide +kernel
theorem dX1_greatestAuthor_38 : decode cX1_greatestAuthor 38 = .ok (.iload_n 1, 1) := by decide +kernel
theorem dX1_greatestAuthor_39 : decode cX1_greatestAuthor 39 = .ok (.ireturn, 1) := by decide +kernel
theorem dX1_stepSum_0 : decode cX1_stepSum 0 = .ok (.iconst 0, 1) := by decide +kernel
theorem dX1_stepSum_1 : decode cX1_stepSum 1 = .ok (.istore_n 1, 1) := by decide +kernel
theorem dX1_stepSum_2 : decode cX1_stepSum 2 = .ok (.iconst 0, 1) := by decide +kernel
theorem dX1_stepSum_3 : decode cX1_stepSum 3 = .ok (.istore_n 2, 1) := by decide +kernel
theorem dX1_stepSum_4 : decode cX1_stepSum 4 = .ok (.iload_n 2, 1) := by decide +kernel
theorem dX1_stepSum_5 : decode cX1_stepSum 5 = .ok (.aload_n 0, 1) := by decide +kernel
theorem dX1_stepSum_6 : decode cX1_stepSum 6 = .ok (.getfield 36, 3) := by decide +kernel
theorem dX1_stepSum_9 : decode cX1_stepSum 9 = .ok (.if_icmp .ge 20, 3) := by decide +kernel
theorem dX1_stepSum_12 : decode cX1_stepSum 12 = .ok (.iload_n 1, 1) := by decide +kernel
theorem dX1_stepSum_13 : decode cX1_stepSum 13 = .ok (.aload_n 0, 1) := by decide +kernel
theorem dX1_stepSum_14 : decode cX1_stepSum 14 = .ok (.getfield 16, 3) := by decide +kernel
theorem dX1_stepSum_17 : decode cX1_stepSum 17 = .ok (.iconst 5, 1) := by decide +kernel
theorem dX1_stepSum_18 : decode cX1_stepSum 18 = .ok (.aaload, 1) := by decide +kernel
theorem dX1_stepSum_19 : decode cX1_stepSum 19 = .ok (.iload_n 2, 1) := by decide +kernel
theorem dX1_stepSum_20 : decode cX1_stepSum 20 = .ok (.iaload, 1) := by decide +kernel
theorem dX1_stepSum_21 : decode cX1_stepSum 21 = .ok (.iadd, 1) := by decide +kernel
theorem dX1_stepSum_22 : decode cX1_stepSum 22 = .ok (.istore_n 1, 1) := by decide +kernel
theorem dX1_stepSum_23 : decode cX1_stepSum 23 = .ok (.iinc 2 1, 3) := by decide +kernel
theorem dX1_stepSum_26 : decode cX1_stepSum 26 = .ok (.goto (-22), 3) := by decide +kernel
theorem dX1_stepSum_29 : decode cX1_stepSum 29 = .ok (.iload_n 1, 1) := by decide +kernel
theorem dX1_stepSum_30 : decode cX1_stepSum 30 = .ok (.ireturn, 1) := by decide +kernel
theorem dX1_heldCount_0 : decode cX1_heldCount 0 = .ok (.iconst 0, 1) := by decide +kernel
theorem dX1_heldCount_1 : decode cX1_heldCount 1 = .ok (.istore_n 1, 1) := by decide +kernel
theorem dX1_heldCount_2 : decode cX1_heldCount 2 = .ok (.iconst 0, 1) := by decide +kernel
theorem dX1_heldCount_3 : decode cX1_heldCount 3 = .ok (.istore_n 2, 1) := by decide +kernel
theorem dX1_heldCount_4 : decode cX1_heldCount 4 = .ok (.iload_n 2, 1) := by decide +kernel
theorem dX1_heldCount_5 : decode cX1_heldCount 5 = .ok (.bipush 10, 2) := by decide +kernel
theorem dX1_heldCount_7 : decode cX1_heldCount 7 = .ok (.if_icmp .ge 22, 3) := by decide +kernel
theorem dX1_heldCount_10 : decode cX1_heldCount 10 = .ok (.aload_n 0, 1) := by decide +kernel
theorem dX1_heldCount_11 : decode cX1_heldCount 11 = .ok (.getfield 19, 3) := by decide +kernel
theorem dX1_heldCount_14 : decode cX1_heldCount 14 = .ok (.iload_n 2, 1) := by decide +kernel
theorem dX1_heldCount_15 : decode cX1_heldCount 15 = .ok (.iaload, 1) := by decide +kernel
theorem dX1_heldCount_16 : decode cX1_heldCount 16 = .ok (.iconst (-1), 1) := by decide +kernel
theorem dX1_heldCount_17 : decode cX1_heldCount 17 = .ok (.if_icmp .eq 6, 3) := by decide +kernel
theorem dX1_heldCount_20 : decode cX1_heldCount 20 = .ok (.iinc 1 1, 3) := by decide +kernel
theorem dX1_heldCount_23 : decode cX1_heldCount 23 = .ok (.iinc 2 1, 3) := by decide +kernel
theorem dX1_heldCount_26 : decode cX1_heldCount 26 = .ok (.goto (-22), 3) := by decide +kernel
theorem dX1_heldCount_29 : decode cX1_heldCount 29 = .ok (.iload_n 1, 1) := by decide +kernel
theorem dX1_heldCount_30 : decode cX1_heldCount 30 = .ok (.ireturn, 1) := by decide +kernel
theorem dX2_init_0 : decode cX2_init 0 = .ok (.aload_n 0, 1) := by decide +kernel
theorem dX2_init_1 : decode cX2_init 1 = .ok (.invokespecial 3, 3) := by decide +kernel
theorem dX2_init_4 : decode cX2_init 4 = .ok (.aload_n 0, 1) := by decide +kernel
theorem dX2_init_5 : decode cX2_init 5 = .ok (.bipush 120, 2) := by decide +kernel
theorem dX2_init_7 : decode cX2_init 7 = .ok (.newarray .int, 2) := by decide +kernel
theorem dX2_init_9 : decode cX2_init 9 = .ok (.putfield 11, 3) := by decide +kernel
theorem dX2_init_12 : decode cX2_init 12 = .ok (.return_, 1) := by decide +kernel
theorem dX2_hasRoom_0 : decode cX2_hasRoom 0 = .ok (.iload_n 1, 1) := by decide +kernel
theorem dX2_hasRoom_1 : decode cX2_hasRoom 1 = .ok (.bipush 120, 2) := by decide +kernel
theorem dX2_hasRoom_3 : decode cX2_hasRoom 3 = .ok (.aload_n 0, 1) := by decide +kernel
theorem dX2_hasRoom_4 : decode cX2_hasRoom 4 = .ok (.getfield 15, 3) := by decide +kernel
theorem dX2_hasRoom_7 : decode cX2_hasRoom 7 = .ok (.isub, 1) := by decide +kernel
theorem dX2_hasRoom_8 : decode cX2_hasRoom 8 = .ok (.if_icmp .gt 7, 3) := by decide +kernel
theorem dX2_hasRoom_11 : decode cX2_hasRoom 11 = .ok (.iconst 1, 1) := by decide +kernel
theorem dX2_hasRoom_12 : decode cX2_hasRoom 12 = .ok (.goto 4, 3) := by decide +kernel
theorem dX2_hasRoom_15 : decode cX2_hasRoom 15 = .ok (.iconst 0, 1) := by decide +kernel
theorem dX2_hasRoom_16 : decode cX2_hasRoom 16 = .ok (.ireturn, 1) := by decide +kernel
theorem dX2_append_0 : decode cX2_append 0 = .ok (.aload_n 0, 1) := by decide +kernel
theorem dX2_append_1 : decode cX2_append 1 = .ok (.getfield 11, 3) := by decide +kernel
theorem dX2_append_4 : decode cX2_append 4 = .ok (.aload_n 0, 1) := by decide +kernel
theorem dX2_append_5 : decode cX2_append 5 = .ok (.getfield 15, 3) := by decide +kernel
theorem dX2_append_8 : decode cX2_append 8 = .ok (.iload_n 1, 1) := by decide +kernel
theorem dX2_append_9 : decode cX2_append 9 = .ok (.sipush 255, 3) := by decide +kernel
theorem dX2_append_12 : decode cX2_append 12 = .ok (.iand, 1) := by decide +kernel
theorem dX2_append_13 : decode cX2_append 13 = .ok (.iastore, 1) := by decide +kernel
theorem dX2_append_14 : decode cX2_append 14 = .ok (.aload_n 0, 1) := by decide +kernel
theorem dX2_append_15 : decode cX2_append 15 = .ok (.dup, 1) := by decide +kernel
theorem dX2_append_16 : decode cX2_append 16 = .ok (.getfield 15, 3) := by decide +kernel
theorem dX2_append_19 : decode cX2_append 19 = .ok (.iconst 1, 1) := by decide +kernel
theorem dX2_append_20 : decode cX2_append 20 = .ok (.iadd, 1) := by decide +kernel
theorem dX2_append_21 : decode cX2_append 21 = .ok (.putfield 15, 3) := by decide +kernel
theorem dX2_append_24 : decode cX2_append 24 = .ok (.return_, 1) := by decide +kernel
theorem dX2_readText_0 : decode cX2_readText 0 = .ok (.aload_n 0, 1) := by decide +kernel
theorem dX2_readText_1 : decode cX2_readText 1 = .ok (.iconst 0, 1) := by decide +kernel
theorem dX2_readText_2 : decode cX2_readText 2 = .ok (.putfield 19, 3) := by decide +kernel
theorem dX2_readText_5 : decode cX2_readText 5 = .ok (.aload_n 0, 1) := by decide +kernel
theorem dX2_readText_6 : decode cX2_readText 6 = .ok (.invokevirtual 22, 3) := by decide +kernel
theorem dX2_readText_9 : decode cX2_readText 9 = .ok (.iconst 1, 1) := by decide +kernel
theorem dX2_readText_10 : decode cX2_readText 10 = .ok (.istore_n 2, 1) := by decide +kernel
theorem dX2_readText_11 : decode cX2_readText 11 = .ok (.iload_n 2, 1) := by decide +kernel
theorem dX2_readText_12 : decode cX2_readText 12 = .ok (.bipush 120, 2) := by decide +kernel
theorem dX2_readText_14 : decode cX2_readText 14 = .ok (.if_icmp .gt 52, 3) := by decide +kernel
theorem dX2_readText_17 : decode cX2_readText 17 = .ok (.aload_n 0, 1) := by decide +kernel
theorem dX2_readText_18 : decode cX2_readText 18 = .ok (.aload_n 1, 1) := by decide +kernel
theorem dX2_readText_19 : decode cX2_readText 19 = .ok (.invokevirtual 25, 3) := by decide +kernel
theorem dX2_readText_22 : decode cX2_readText 22 = .ok (.ifCond .ne 10, 3) := by decide +kernel
theorem dX2_readText_25 : decode cX2_readText 25 = .ok (.iconst (-1), 1) := by decide +kernel
theorem dX2_readText_26 : decode cX2_readText 26 = .ok (.aload_n 0, 1) := by decide +kernel
theorem dX2_readText_27 : decode cX2_readText 27 = .ok (.getfield 29, 3) := by decide +kernel
theorem dX2_readText_30 : decode cX2_readText 30 = .ok (.isub, 1) := by decide +kernel
theorem dX2_readText_31 : decode cX2_readText 31 = .ok (.ireturn, 1) := by decide +kernel
theorem dX2_readText_32 : decode cX2_readText 32 = .ok (.aload_n 0, 1) := by decide +kernel
theorem dX2_readText_33 : decode cX2_readText 33 = .ok (.getfield 32, 3) := by decide +kernel
theorem dX2_readText_36 : decode cX2_readText 36 = .ok (.ifCond .ne 5, 3) := by decide +kernel
theorem dX2_readText_39 : decode cX2_readText 39 = .ok (.iload_n 2, 1) := by decide +kernel
theorem dX2_readText_40 : decode cX2_readText 40 = .ok (.ireturn, 1) := by decide +kernel
theorem dX2_readText_41 : decode cX2_readText 41 = .ok (.aload_n 0, 1) := by decide +kernel
theorem dX2_readText_42 : decode cX2_readText 42 = .ok (.getfield 32, 3) := by decide +kernel
theorem dX2_readText_45 : decode cX2_readText 45 = .ok (.iconst 3, 1) := by decide +kernel
theorem dX2_readText_46 : decode cX2_readText 46 = .ok (.if_icmp .eq 10, 3) := by decide +kernel
theorem dX2_readText_49 : decode cX2_readText 49 = .ok (.iconst (-1), 1) := by decide +kernel
theorem dX2_readText_50 : decode cX2_readText 50 = .ok (.aload_n 0, 1) := by decide +kernel
theorem dX2_readText_51 : decode cX2_readText 51 = .ok (.getfield 29, 3) := by decide +kernel
theorem dX2_readText_54 : decode cX2_readText 54 = .ok (.isub, 1) := by decide +kernel
theorem dX2_readText_55 : decode cX2_readText 55 = .ok (.ireturn, 1) := by decide +kernel
theorem dX2_readText_56 : decode cX2_readText 56 = .ok (.aload_n 0, 1) := by decide +kernel
theorem dX2_readText_57 : decode cX2_readText 57 = .ok (.invokevirtual 22, 3) := by decide +kernel
theorem dX2_readText_60 : decode cX2_readText 60 = .ok (.iinc 2 1, 3) := by decide +kernel
theorem dX2_readText_63 : decode cX2_readText 63 = .ok (.goto (-52), 3) := by decide +kernel
theorem dX2_readText_66 : decode cX2_readText 66 = .ok (.iconst (-1), 1) := by decide +kernel
theorem dX2_readText_67 : decode cX2_readText 67 = .ok (.aload_n 0, 1) := by decide +kernel
theorem dX2_readText_68 : decode cX2_readText 68 = .ok (.getfield 29, 3) := by decide +kernel
theorem dX2_readText_71 : decode cX2_readText 71 = .ok (.isub, 1) := by decide +kernel
theorem dX2_readText_72 : decode cX2_readText 72 = .ok (.ireturn, 1) := by decide +kernel
theorem dX2_readItem_0 : decode cX2_readItem 0 = .ok (.aload_n 0, 1) := by decide +kernel
theorem dX2_readItem_1 : decode cX2_readItem 1 = .ok (.invokevirtual 35, 3) := by decide +kernel
theorem dX2_readItem_4 : decode cX2_readItem 4 = .ok (.istore_n 2, 1) := by decide +kernel
theorem dX2_readItem_5 : decode cX2_readItem 5 = .ok (.iload_n 2, 1) := by decide +kernel
theorem dX2_readItem_6 : decode cX2_readItem 6 = .ok (.ifCond .lt 10, 3) := by decide +kernel
theorem dX2_readItem_9 : decode cX2_readItem 9 = .ok (.aload_n 0, 1) := by decide +kernel
theorem dX2_readItem_10 : decode cX2_readItem 10 = .ok (.aload_n 1, 1) := by decide +kernel
theorem dX2_readItem_11 : decode cX2_readItem 11 = .ok (.iload_n 2, 1) := by decide +kernel
theorem dX2_readItem_12 : decode cX2_readItem 12 = .ok (.invokevirtual 39, 3) := by decide +kernel
theorem dX2_readItem_15 : decode cX2_readItem 15 = .ok (.ireturn, 1) := by decide +kernel
theorem dX2_readItem_16 : decode cX2_readItem 16 = .ok (.aload_n 0, 1) := by decide +kernel
theorem dX2_readItem_17 : decode cX2_readItem 17 = .ok (.ldc 43, 2) := by decide +kernel
theorem dX2_readItem_19 : decode cX2_readItem 19 = .ok (.invokevirtual 45, 3) := by decide +kernel
theorem dX2_readItem_22 : decode cX2_readItem 22 = .ok (.ifCond .eq 9, 3) := by decide +kernel
theorem dX2_readItem_25 : decode cX2_readItem 25 = .ok (.aload_n 0, 1) := by decide +kernel
theorem dX2_readItem_26 : decode cX2_readItem 26 = .ok (.aload_n 1, 1) := by decide +kernel
theorem dX2_readItem_27 : decode cX2_readItem 27 = .ok (.invokevirtual 49, 3) := by decide +kernel
theorem dX2_readItem_30 : decode cX2_readItem 30 = .ok (.ireturn, 1) := by decide +kernel
theorem dX2_readItem_31 : decode cX2_readItem 31 = .ok (.aload_n 0, 1) := by decide +kernel
theorem dX2_readItem_32 : decode cX2_readItem 32 = .ok (.ldc 52, 2) := by decide +kernel
theorem dX2_readItem_34 : decode cX2_readItem 34 = .ok (.invokevirtual 45, 3) := by decide +kernel
theorem dX2_readItem_37 : decode cX2_readItem 37 = .ok (.ifCond .eq 15, 3) := by decide +kernel
theorem dX2_readItem_40 : decode cX2_readItem 40 = .ok (.aload_n 0, 1) := by decide +kernel
theorem dX2_readItem_41 : decode cX2_readItem 41 = .ok (.aload_n 1, 1) := by decide +kernel
theorem dX2_readItem_42 : decode cX2_readItem 42 = .ok (.invokevirtual 54, 3) := by decide +kernel
theorem dX2_readItem_45 : decode cX2_readItem 45 = .ok (.ifCond .eq 7, 3) := by decide +kernel
theorem dX2_readItem_48 : decode cX2_readItem 48 = .ok (.iconst 1, 1) := by decide +kernel
theorem dX2_readItem_49 : decode cX2_readItem 49 = .ok (.goto 4, 3) := by decide +kernel
theorem dX2_readItem_52 : decode cX2_readItem 52 = .ok (.iconst 0, 1) := by decide +kernel
theorem dX2_readItem_53 : decode cX2_readItem 53 = .ok (.ireturn, 1) := by decide +kernel
theorem dX2_readWalker_0 : decode cX2_readWalker 0 = .ok (.aload_n 1, 1) := by decide +kernel
theorem dX2_readWalker_1 : decode cX2_readWalker 1 = .ok (.invokevirtual 57, 3) := by decide +kernel
theorem dX2_readWalker_4 : decode cX2_readWalker 4 = .ok (.ifCond .ne 5, 3) := by decide +kernel
theorem dX2_readWalker_7 : decode cX2_readWalker 7 = .ok (.iconst 0, 1) := by decide +kernel
theorem dX2_readWalker_8 : decode cX2_readWalker 8 = .ok (.ireturn, 1) := by decide +kernel
theorem dX2_readWalker_9 : decode cX2_readWalker 9 = .ok (.aload_n 1, 1) := by decide +kernel
theorem dX2_readWalker_10 : decode cX2_readWalker 10 = .ok (.iload_n 2, 1) := by decide +kernel
theorem dX2_readWalker_11 : decode cX2_readWalker 11 = .ok (.iconst 0, 1) := by decide +kernel
theorem dX2_readWalker_12 : decode cX2_readWalker 12 = .ok (.invokevirtual 63, 3) := by decide +kernel
theorem dX2_readWalker_15 : decode cX2_readWalker 15 = .ok (.istore_n 3, 1) := by decide +kernel
theorem dX2_readWalker_16 : decode cX2_readWalker 16 = .ok (.aload_n 0, 1) := by decide +kernel
theorem dX2_readWalker_17 : decode cX2_readWalker 17 = .ok (.invokevirtual 22, 3) := by decide +kernel
theorem dX2_readWalker_20 : decode cX2_readWalker 20 = .ok (.aload_n 0, 1) := by decide +kernel
theorem dX2_readWalker_21 : decode cX2_readWalker 21 = .ok (.aload_n 1, 1) := by decide +kernel
theorem dX2_readWalker_22 : decode cX2_readWalker 22 = .ok (.iload_n 3, 1) := by decide +kernel
theorem dX2_readWalker_23 : decode cX2_readWalker 23 = .ok (.ldc 67, 2) := by decide +kernel
theorem dX2_readWalker_25 : decode cX2_readWalker 25 = .ok (.iconst 1, 1) := by decide +kernel
theorem dX2_readWalker_26 : decode cX2_readWalker 26 = .ok (.invokevirtual 69, 3) := by decide +kernel
theorem dX2_readWalker_29 : decode cX2_readWalker 29 = .ok (.ifCond .ne 5, 3) := by decide +kernel
theorem dX2_readWalker_32 : decode cX2_readWalker 32 = .ok (.iconst 0, 1) := by decide +kernel
theorem dX2_readWalker_33 : decode cX2_readWalker 33 = .ok (.ireturn, 1) := by decide +kernel
theorem dX2_readWalker_34 : decode cX2_readWalker 34 = .ok (.aload_n 0, 1) := by decide +kernel
theorem dX2_readWalker_35 : decode cX2_readWalker 35 = .ok (.ldc 73, 2) := by decide +kernel
theorem dX2_readWalker_37 : decode cX2_readWalker 37 = .ok (.invokevirtual 45, 3) := by decide +kernel
theorem dX2_readWalker_40 : decode cX2_readWalker 40 = .ok (.ifCond .eq 16, 3) := by decide +kernel
theorem dX2_readWalker_43 : decode cX2_readWalker 43 = .ok (.aload_n 1, 1) := by decide +kernel
theorem dX2_readWalker_44 : decode cX2_readWalker 44 = .ok (.getfield 75, 3) := by decide +kernel
theorem dX2_readWalker_47 : decode cX2_readWalker 47 = .ok (.iconst 2, 1) := by decide +kernel
theorem dX2_readWalker_48 : decode cX2_readWalker 48 = .ok (.aaload, 1) := by decide +kernel
theorem dX2_readWalker_49 : decode cX2_readWalker 49 = .ok (.iload_n 3, 1) := by decide +kernel
theorem dX2_readWalker_50 : decode cX2_readWalker 50 = .ok (.iconst 0, 1) := by decide +kernel
theorem dX2_readWalker_51 : decode cX2_readWalker 51 = .ok (.iastore, 1) := by decide +kernel
theorem dX2_readWalker_52 : decode cX2_readWalker 52 = .ok (.aload_n 0, 1) := by decide +kernel
theorem dX2_readWalker_53 : decode cX2_readWalker 53 = .ok (.invokevirtual 22, 3) := by decide +kernel
theorem dX2_readWalker_56 : decode cX2_readWalker 56 = .ok (.aload_n 0, 1) := by decide +kernel
theorem dX2_readWalker_57 : decode cX2_readWalker 57 = .ok (.aload_n 1, 1) := by decide +kernel
theorem dX2_readWalker_58 : decode cX2_readWalker 58 = .ok (.iload_n 3, 1) := by decide +kernel
theorem dX2_readWalker_59 : decode cX2_readWalker 59 = .ok (.ldc 79, 2) := by decide +kernel
theorem dX2_readWalker_61 : decode cX2_readWalker 61 = .ok (.iconst 3, 1) := by decide +kernel
theorem dX2_readWalker_62 : decode cX2_readWalker 62 = .ok (.invokevirtual 69, 3) := by decide +kernel
theorem dX2_readWalker_65 : decode cX2_readWalker 65 = .ok (.ifCond .eq 19, 3) := by decide +kernel
theorem dX2_readWalker_68 : decode cX2_readWalker 68 = .ok (.aload_n 0, 1) := by decide +kernel
theorem dX2_readWalker_69 : decode cX2_readWalker 69 = .ok (.aload_n 1, 1) := by decide +kernel
theorem dX2_readWalker_70 : decode cX2_readWalker 70 = .ok (.iload_n 3, 1) := by decide +kernel
theorem dX2_readWalker_71 : decode cX2_readWalker 71 = .ok (.ldc 81, 2) := by decide +kernel
theorem dX2_readWalker_73 : decode cX2_readWalker 73 = .ok (.iconst 4, 1) := by decide +kernel
theorem dX2_readWalker_74 : decode cX2_readWalker 74 = .ok (.invokevirtual 69, 3) := by decide +kernel
theorem dX2_readWalker_77 : decode cX2_readWalker 77 = .ok (.ifCond .eq 7, 3) := by decide +kernel
theorem dX2_readWalker_80 : decode cX2_readWalker 80 = .ok (.iconst 1, 1) := by decide +kernel
theorem dX2_readWalker_81 : decode cX2_readWalker 81 = .ok (.goto 4, 3) := by decide +kernel
theorem dX2_readWalker_84 : decode cX2_readWalker 84 = .ok (.iconst 0, 1) := by decide +kernel
theorem dX2_readWalker_85 : decode cX2_readWalker 85 = .ok (.ireturn, 1) := by decide +kernel
theorem dX2_readTrait_0 : decode cX2_readTrait 0 = .ok (.aload_n 0, 1) := by decide +kernel
theorem dX2_readTrait_1 : decode cX2_readTrait 1 = .ok (.aload_n 3, 1) := by decide +kernel
theorem dX2_readTrait_2 : decode cX2_readTrait 2 = .ok (.invokevirtual 45, 3) := by decide +kernel
theorem dX2_readTrait_5 : decode cX2_readTrait 5 = .ok (.ifCond .ne 5, 3) := by decide +kernel
theorem dX2_readTrait_8 : decode cX2_readTrait 8 = .ok (.iconst 1, 1) := by decide +kernel
theorem dX2_readTrait_9 : decode cX2_readTrait 9 = .ok (.ireturn, 1) := by decide +kernel
theorem dX2_readTrait_10 : decode cX2_readTrait 10 = .ok (.aload_n 0, 1) := by decide +kernel
theorem dX2_readTrait_11 : decode cX2_readTrait 11 = .ok (.invokevirtual 22, 3) := by decide +kernel
theorem dX2_readTrait_14 : decode cX2_readTrait 14 = .ok (.aload_n 0, 1) := by decide +kernel
theorem dX2_readTrait_15 : decode cX2_readTrait 15 = .ok (.getstatic 83, 3) := by decide +kernel
theorem dX2_readTrait_18 : decode cX2_readTrait 18 = .ok (.iload 4, 2) := by decide +kernel
theorem dX2_readTrait_20 : decode cX2_readTrait 20 = .ok (.iaload, 1) := by decide +kernel
theorem dX2_readTrait_21 : decode cX2_readTrait 21 = .ok (.getstatic 86, 3) := by decide +kernel
theorem dX2_readTrait_24 : decode cX2_readTrait 24 = .ok (.iload 4, 2) := by decide +kernel
theorem dX2_readTrait_26 : decode cX2_readTrait 26 = .ok (.iaload, 1) := by decide +kernel
theorem dX2_readTrait_27 : decode cX2_readTrait 27 = .ok (.invokevirtual 89, 3) := by decide +kernel
theorem dX2_readTrait_30 : decode cX2_readTrait 30 = .ok (.ifCond .ne 5, 3) := by decide +kernel
theorem dX2_readTrait_33 : decode cX2_readTrait 33 = .ok (.iconst 0, 1) := by decide +kernel
theorem dX2_readTrait_34 : decode cX2_readTrait 34 = .ok (.ireturn, 1) := by decide +kernel
theorem dX2_readTrait_35 : decode cX2_readTrait 35 = .ok (.aload_n 1, 1) := by decide +kernel
theorem dX2_readTrait_36 : decode cX2_readTrait 36 = .ok (.getfield 75, 3) := by decide +kernel
theorem dX2_readTrait_39 : decode cX2_readTrait 39 = .ok (.iload 4, 2) := by decide +kernel
theorem dX2_readTrait_41 : decode cX2_readTrait 41 = .ok (.aaload, 1) := by decide +kernel
theorem dX2_readTrait_42 : decode cX2_readTrait 42 = .ok (.iload_n 2, 1) := by decide +kernel
theorem dX2_readTrait_43 : decode cX2_readTrait 43 = .ok (.aload_n 0, 1) := by decide +kernel
theorem dX2_readTrait_44 : decode cX2_readTrait 44 = .ok (.getfield 93, 3) := by decide +kernel
theorem dX2_readTrait_47 : decode cX2_readTrait 47 = .ok (.iastore, 1) := by decide +kernel
theorem dX2_readTrait_48 : decode cX2_readTrait 48 = .ok (.aload_n 0, 1) := by decide +kernel
theorem dX2_readTrait_49 : decode cX2_readTrait 49 = .ok (.invokevirtual 22, 3) := by decide +kernel
theorem dX2_readTrait_52 : decode cX2_readTrait 52 = .ok (.iconst 1, 1) := by decide +kernel
theorem dX2_readTrait_53 : decode cX2_readTrait 53 = .ok (.ireturn, 1) := by decide +kernel
theorem dX2_readReach_0 : decode cX2_readReach 0 = .ok (.aload_n 0, 1) := by decide +kernel
theorem dX2_readReach_1 : decode cX2_readReach 1 = .ok (.invokevirtual 22, 3) := by decide +kernel
theorem dX2_readReach_4 : decode cX2_readReach 4 = .ok (.aload_n 0, 1) := by decide +kernel
theorem dX2_readReach_5 : decode cX2_readReach 5 = .ok (.iconst 0, 1) := by decide +kernel
theorem dX2_readReach_6 : decode cX2_readReach 6 = .ok (.bipush 24, 2) := by decide +kernel
theorem dX2_readReach_8 : decode cX2_readReach 8 = .ok (.invokevirtual 89, 3) := by decide +kernel
theorem dX2_readReach_11 : decode cX2_readReach 11 = .ok (.ifCond .ne 5, 3) := by decide +kernel
theorem dX2_readReach_14 : decode cX2_readReach 14 = .ok (.iconst 0, 1) := by decide +kernel
theorem dX2_readReach_15 : decode cX2_readReach 15 = .ok (.ireturn, 1) := by decide +kernel
theorem dX2_readReach_16 : decode cX2_readReach 16 = .ok (.aload_n 1, 1) := by decide +kernel
theorem dX2_readReach_17 : decode cX2_readReach 17 = .ok (.aload_n 0, 1) := by decide +kernel
theorem dX2_readReach_18 : decode cX2_readReach 18 = .ok (.getfield 93, 3) := by decide +kernel
theorem dX2_readReach_21 : decode cX2_readReach 21 = .ok (.putfield 96, 3) := by decide +kernel
theorem dX2_readReach_24 : decode cX2_readReach 24 = .ok (.aload_n 0, 1) := by decide +kernel
theorem dX2_readReach_25 : decode cX2_readReach 25 = .ok (.invokevirtual 22, 3) := by decide +kernel
theorem dX2_readReach_28 : decode cX2_readReach 28 = .ok (.iconst 1, 1) := by decide +kernel
theorem dX2_readReach_29 : decode cX2_readReach 29 = .ok (.ireturn, 1) := by decide +kernel
theorem dX2_readPrint_0 : decode cX2_readPrint 0 = .ok (.aload_n 0, 1) := by decide +kernel
theorem dX2_readPrint_1 : decode cX2_readPrint 1 = .ok (.invokevirtual 22, 3) := by decide +kernel
theorem dX2_readPrint_4 : decode cX2_readPrint 4 = .ok (.aload_n 0, 1) := by decide +kernel
theorem dX2_readPrint_5 : decode cX2_readPrint 5 = .ok (.iconst 0, 1) := by decide +kernel
theorem dX2_readPrint_6 : decode cX2_readPrint 6 = .ok (.bipush 23, 2) := by decide +kernel
theorem dX2_readPrint_8 : decode cX2_readPrint 8 = .ok (.invokevirtual 89, 3) := by decide +kernel
theorem dX2_readPrint_11 : decode cX2_readPrint 11 = .ok (.ifCond .ne 5, 3) := by decide +kernel
theorem dX2_readPrint_14 : decode cX2_readPrint 14 = .ok (.iconst 0, 1) := by decide +kernel
theorem dX2_readPrint_15 : decode cX2_readPrint 15 = .ok (.ireturn, 1) := by decide +kernel
theorem dX2_readPrint_16 : decode cX2_readPrint 16 = .ok (.aload_n 0, 1) := by decide +kernel
theorem dX2_readPrint_17 : decode cX2_readPrint 17 = .ok (.getfield 93, 3) := by decide +kernel
theorem dX2_readPrint_20 : decode cX2_readPrint 20 = .ok (.istore_n 2, 1) := by decide +kernel
theorem dX2_readPrint_21 : decode cX2_readPrint 21 = .ok (.aload_n 0, 1) := by decide +kernel
theorem dX2_readPrint_22 : decode cX2_readPrint 22 = .ok (.invokevirtual 22, 3) := by decide +kernel
theorem dX2_readPrint_25 : decode cX2_readPrint 25 = .ok (.aload_n 0, 1) := by decide +kernel
theorem dX2_readPrint_26 : decode cX2_readPrint 26 = .ok (.iconst 0, 1) := by decide +kernel
theorem dX2_readPrint_27 : decode cX2_readPrint 27 = .ok (.aload_n 1, 1) := by decide +kernel
theorem dX2_readPrint_28 : decode cX2_readPrint 28 = .ok (.getfield 98, 3) := by decide +kernel
theorem dX2_readPrint_31 : decode cX2_readPrint 31 = .ok (.iconst 1, 1) := by decide +kernel
theorem dX2_readPrint_32 : decode cX2_readPrint 32 = .ok (.isub, 1) := by decide +kernel
theorem dX2_readPrint_33 : decode cX2_readPrint 33 = .ok (.invokevirtual 89, 3) := by decide +kernel
theorem dX2_readPrint_36 : decode cX2_readPrint 36 = .ok (.ifCond .ne 5, 3) := by decide +kernel
theorem dX2_readPrint_39 : decode cX2_readPrint 39 = .ok (.iconst 0, 1) := by decide +kernel
theorem dX2_readPrint_40 : decode cX2_readPrint 40 = .ok (.ireturn, 1) := by decide +kernel
theorem dX2_readPrint_41 : decode cX2_readPrint 41 = .ok (.aload_n 0, 1) := by decide +kernel
theorem dX2_readPrint_42 : decode cX2_readPrint 42 = .ok (.getfield 93, 3) := by decide +kernel
theorem dX2_readPrint_45 : decode cX2_readPrint 45 = .ok (.istore_n 3, 1) := by decide +kernel
theorem dX2_readPrint_46 : decode cX2_readPrint 46 = .ok (.aload_n 0, 1) := by decide +kernel
theorem dX2_readPrint_47 : decode cX2_readPrint 47 = .ok (.invokevirtual 22, 3) := by decide +kernel
theorem dX2_readPrint_50 : decode cX2_readPrint 50 = .ok (.aload_n 0, 1) := by decide +kernel
theorem dX2_readPrint_51 : decode cX2_readPrint 51 = .ok (.iconst 0, 1) := by decide +kernel
theorem dX2_readPrint_52 : decode cX2_readPrint 52 = .ok (.bipush 9, 2) := by decide +kernel
theorem dX2_readPrint_54 : decode cX2_readPrint 54 = .ok (.invokevirtual 89, 3) := by decide +kernel
theorem dX2_readPrint_57 : decode cX2_readPrint 57 = .ok (.ifCond .ne 5, 3) := by decide +kernel
theorem dX2_readPrint_60 : decode cX2_readPrint 60 = .ok (.iconst 0, 1) := by decide +kernel
theorem dX2_readPrint_61 : decode cX2_readPrint 61 = .ok (.ireturn, 1) := by decide +kernel
theorem dX2_readPrint_62 : decode cX2_readPrint 62 = .ok (.aload_n 0, 1) := by decide +kernel
theorem dX2_readPrint_63 : decode cX2_readPrint 63 = .ok (.getfield 93, 3) := by decide +kernel
theorem dX2_readPrint_66 : decode cX2_readPrint 66 = .ok (.istore 4, 2) := by decide +kernel
theorem dX2_readPrint_68 : decode cX2_readPrint 68 = .ok (.aload_n 0, 1) := by decide +kernel
theorem dX2_readPrint_69 : decode cX2_readPrint 69 = .ok (.invokevirtual 22, 3) := by decide +kernel
theorem dX2_readPrint_72 : decode cX2_readPrint 72 = .ok (.aload_n 0, 1) := by decide +kernel
theorem dX2_readPrint_73 : decode cX2_readPrint 73 = .ok (.ldc 73, 2) := by decide +kernel
theorem dX2_readPrint_75 : decode cX2_readPrint 75 = .ok (.invokevirtual 45, 3) := by decide +kernel
theorem dX2_readPrint_78 : decode cX2_readPrint 78 = .ok (.istore 5, 2) := by decide +kernel
theorem dX2_readPrint_80 : decode cX2_readPrint 80 = .ok (.iload 5, 2) := by decide +kernel
theorem dX2_readPrint_82 : decode cX2_readPrint 82 = .ok (.ifCond .eq 7, 3) := by decide +kernel
theorem dX2_readPrint_85 : decode cX2_readPrint 85 = .ok (.aload_n 0, 1) := by decide +kernel
theorem dX2_readPrint_86 : decode cX2_readPrint 86 = .ok (.invokevirtual 22, 3) := by decide +kernel
theorem dX2_readPrint_89 : decode cX2_readPrint 89 = .ok (.aload_n 1, 1) := by decide +kernel
theorem dX2_readPrint_90 : decode cX2_readPrint 90 = .ok (.iload_n 2, 1) := by decide +kernel
theorem dX2_readPrint_91 : decode cX2_readPrint 91 = .ok (.iload_n 3, 1) := by decide +kernel
theorem dX2_readPrint_92 : decode cX2_readPrint 92 = .ok (.iload 4, 2) := by decide +kernel
theorem dX2_readPrint_94 : decode cX2_readPrint 94 = .ok (.iload 5, 2) := by decide +kernel
theorem dX2_readPrint_96 : decode cX2_readPrint 96 = .ok (.ifCond .eq 7, 3) := by decide +kernel
theorem dX2_readPrint_99 : decode cX2_readPrint 99 = .ok (.iconst 0, 1) := by decide +kernel
theorem dX2_readPrint_100 : decode cX2_readPrint 100 = .ok (.goto 4, 3) := by decide +kernel
theorem dX2_readPrint_103 : decode cX2_readPrint 103 = .ok (.iconst 1, 1) := by decide +kernel
theorem dX2_readPrint_104 : decode cX2_readPrint 104 = .ok (.invokevirtual 101, 3) := by decide +kernel
theorem dX2_readPrint_107 : decode cX2_readPrint 107 = .ok (.iconst 1, 1) := by decide +kernel
theorem dX2_readPrint_108 : decode cX2_readPrint 108 = .ok (.ireturn, 1) := by decide +kernel
theorem dX2_isNumber_0 : decode cX2_isNumber 0 = .ok (.aload_n 0, 1) := by decide +kernel
theorem dX2_isNumber_1 : decode cX2_isNumber 1 = .ok (.getfield 32, 3) := by decide +kernel
theorem dX2_isNumber_4 : decode cX2_isNumber 4 = .ok (.iconst 2, 1) := by decide +kernel
theorem dX2_isNumber_5 : decode cX2_isNumber 5 = .ok (.if_icmp .ne 19, 3) := by decide +kernel
theorem dX2_isNumber_8 : decode cX2_isNumber 8 = .ok (.aload_n 0, 1) := by decide +kernel
theorem dX2_isNumber_9 : decode cX2_isNumber 9 = .ok (.getfield 93, 3) := by decide +kernel
theorem dX2_isNumber_12 : decode cX2_isNumber 12 = .ok (.iload_n 1, 1) := by decide +kernel
theorem dX2_isNumber_13 : decode cX2_isNumber 13 = .ok (.iload_n 2, 1) := by decide +kernel
theorem dX2_isNumber_14 : decode cX2_isNumber 14 = .ok (.invokestatic 105, 3) := by decide +kernel
theorem dX2_isNumber_17 : decode cX2_isNumber 17 = .ok (.ifCond .eq 7, 3) := by decide +kernel
theorem dX2_isNumber_20 : decode cX2_isNumber 20 = .ok (.iconst 1, 1) := by decide +kernel
theorem dX2_isNumber_21 : decode cX2_isNumber 21 = .ok (.goto 4, 3) := by decide +kernel
theorem dX2_isNumber_24 : decode cX2_isNumber 24 = .ok (.iconst 0, 1) := by decide +kernel
theorem dX2_isNumber_25 : decode cX2_isNumber 25 = .ok (.ireturn, 1) := by decide +kernel
theorem dX2_isWord_0 : decode cX2_isWord 0 = .ok (.aload_n 0, 1) := by decide +kernel
theorem dX2_isWord_1 : decode cX2_isWord 1 = .ok (.getfield 32, 3) := by decide +kernel
theorem dX2_isWord_4 : decode cX2_isWord 4 = .ok (.iconst 1, 1) := by decide +kernel
theorem dX2_isWord_5 : decode cX2_isWord 5 = .ok (.if_icmp .ne 19, 3) := by decide +kernel
theorem dX2_isWord_8 : decode cX2_isWord 8 = .ok (.aload_n 0, 1) := by decide +kernel
theorem dX2_isWord_9 : decode cX2_isWord 9 = .ok (.getfield 19, 3) := by decide +kernel
theorem dX2_isWord_12 : decode cX2_isWord 12 = .ok (.aload_n 0, 1) := by decide +kernel
theorem dX2_isWord_13 : decode cX2_isWord 13 = .ok (.getfield 29, 3) := by decide +kernel
theorem dX2_isWord_16 : decode cX2_isWord 16 = .ok (.isub, 1) := by decide +kernel
theorem dX2_isWord_17 : decode cX2_isWord 17 = .ok (.aload_n 1, 1) := by decide +kernel
theorem dX2_isWord_18 : decode cX2_isWord 18 = .ok (.invokevirtual 109, 3) := by decide +kernel
theorem dX2_isWord_21 : decode cX2_isWord 21 = .ok (.if_icmp .eq 5, 3) := by decide +kernel
theorem dX2_isWord_24 : decode cX2_isWord 24 = .ok (.iconst 0, 1) := by decide +kernel
theorem dX2_isWord_25 : decode cX2_isWord 25 = .ok (.ireturn, 1) := by decide +kernel
theorem dX2_isWord_26 : decode cX2_isWord 26 = .ok (.iconst 0, 1) := by decide +kernel
theorem dX2_isWord_27 : decode cX2_isWord 27 = .ok (.istore_n 2, 1) := by decide +kernel
theorem dX2_isWord_28 : decode cX2_isWord 28 = .ok (.iload_n 2, 1) := by decide +kernel
theorem dX2_isWord_29 : decode cX2_isWord 29 = .ok (.aload_n 1, 1) := by decide +kernel
theorem dX2_isWord_30 : decode cX2_isWord 30 = .ok (.invokevirtual 109, 3) := by decide +kernel
theorem dX2_isWord_33 : decode cX2_isWord 33 = .ok (.if_icmp .ge 30, 3) := by decide +kernel
theorem dX2_isWord_36 : decode cX2_isWord 36 = .ok (.aload_n 0, 1) := by decide +kernel
theorem dX2_isWord_37 : decode cX2_isWord 37 = .ok (.getfield 11, 3) := by decide +kernel
theorem dX2_isWord_40 : decode cX2_isWord 40 = .ok (.aload_n 0, 1) := by decide +kernel
theorem dX2_isWord_41 : decode cX2_isWord 41 = .ok (.getfield 29, 3) := by decide +kernel
theorem dX2_isWord_44 : decode cX2_isWord 44 = .ok (.iload_n 2, 1) := by decide +kernel
theorem dX2_isWord_45 : decode cX2_isWord 45 = .ok (.iadd, 1) := by decide +kernel
theorem dX2_isWord_46 : decode cX2_isWord 46 = .ok (.iaload, 1) := by decide +kernel
theorem dX2_isWord_47 : decode cX2_isWord 47 = .ok (.aload_n 1, 1) := by decide +kernel
theorem dX2_isWord_48 : decode cX2_isWord 48 = .ok (.iload_n 2, 1) := by decide +kernel
theorem dX2_isWord_49 : decode cX2_isWord 49 = .ok (.invokevirtual 114, 3) := by decide +kernel
theorem dX2_isWord_52 : decode cX2_isWord 52 = .ok (.if_icmp .eq 5, 3) := by decide +kernel
theorem dX2_isWord_55 : decode cX2_isWord 55 = .ok (.iconst 0, 1) := by decide +kernel
theorem dX2_isWord_56 : decode cX2_isWord 56 = .ok (.ireturn, 1) := by decide +kernel
theorem dX2_isWord_57 : decode cX2_isWord 57 = .ok (.iinc 2 1, 3) := by decide +kernel
theorem dX2_isWord_60 : decode cX2_isWord 60 = .ok (.goto (-32), 3) := by decide +kernel
theorem dX2_isWord_63 : decode cX2_isWord 63 = .ok (.iconst 1, 1) := by decide +kernel
theorem dX2_isWord_64 : decode cX2_isWord 64 = .ok (.ireturn, 1) := by decide +kernel
theorem dX2_kindOfWord_0 : decode cX2_kindOfWord 0 = .ok (.iconst 0, 1) := by decide +kernel
theorem dX2_kindOfWord_1 : decode cX2_kindOfWord 1 = .ok (.istore_n 1, 1) := by decide +kernel
theorem dX2_kindOfWord_2 : decode cX2_kindOfWord 2 = .ok (.iload_n 1, 1) := by decide +kernel
theorem dX2_kindOfWord_3 : decode cX2_kindOfWord 3 = .ok (.bipush 7, 2) := by decide +kernel
theorem dX2_kindOfWord_5 : decode cX2_kindOfWord 5 = .ok (.if_icmp .ge 22, 3) := by decide +kernel
theorem dX2_kindOfWord_8 : decode cX2_kindOfWord 8 = .ok (.aload_n 0, 1) := by decide +kernel
theorem dX2_kindOfWord_9 : decode cX2_kindOfWord 9 = .ok (.iload_n 1, 1) := by decide +kernel
theorem dX2_kindOfWord_10 : decode cX2_kindOfWord 10 = .ok (.invokestatic 118, 3) := by decide +kernel
theorem dX2_kindOfWord_13 : decode cX2_kindOfWord 13 = .ok (.invokevirtual 45, 3) := by decide +kernel
theorem dX2_kindOfWord_16 : decode cX2_kindOfWord 16 = .ok (.ifCond .eq 5, 3) := by decide +kernel
theorem dX2_kindOfWord_19 : decode cX2_kindOfWord 19 = .ok (.iload_n 1, 1) := by decide +kernel
theorem dX2_kindOfWord_20 : decode cX2_kindOfWord 20 = .ok (.ireturn, 1) := by decide +kernel
theorem dX2_kindOfWord_21 : decode cX2_kindOfWord 21 = .ok (.iinc 1 1, 3) := by decide +kernel
theorem dX2_kindOfWord_24 : decode cX2_kindOfWord 24 = .ok (.goto (-22), 3) := by decide +kernel
theorem dX2_kindOfWord_27 : decode cX2_kindOfWord 27 = .ok (.iconst (-1), 1) := by decide +kernel
theorem dX2_kindOfWord_28 : decode cX2_kindOfWord 28 = .ok (.ireturn, 1) := by decide +kernel
theorem dX2_wordOfKind_0 : decode cX2_wordOfKind 0 = .ok (.iload_n 0, 1) := by decide +kernel
theorem dX2_wordOfKind_1 : decode cX2_wordOfKind 1 = .ok (.tableswitch 57 1 6 #[39, 42, 45, 48, 51, 54], 39) := by decide +kernel
theorem dX2_wordOfKind_40 : decode cX2_wordOfKind 40 = .ok (.ldc 122, 2) := by decide +kernel
theorem dX2_wordOfKind_42 : decode cX2_wordOfKind 42 = .ok (.areturn, 1) := by decide +kernel
theorem dX2_wordOfKind_43 : decode cX2_wordOfKind 43 = .ok (.ldc 124, 2) := by decide +kernel
theorem dX2_wordOfKind_45 : decode cX2_wordOfKind 45 = .ok (.areturn, 1) := by decide +kernel
theorem dX2_wordOfKind_46 : decode cX2_wordOfKind 46 = .ok (.ldc 126, 2) := by decide +kernel
theorem dX2_wordOfKind_48 : decode cX2_wordOfKind 48 = .ok (.areturn, 1) := by decide +kernel
theorem dX2_wordOfKind_49 : decode cX2_wordOfKind 49 = .ok (.ldc 128, 2) := by decide +kernel
theorem dX2_wordOfKind_51 : decode cX2_wordOfKind 51 = .ok (.areturn, 1) := by decide +kernel
theorem dX2_wordOfKind_52 : decode cX2_wordOfKind 52 = .ok (.ldc 130, 2) := by decide +kernel
theorem dX2_wordOfKind_54 : decode cX2_wordOfKind 54 = .ok (.areturn, 1) := by decide +kernel
theorem dX2_wordOfKind_55 : decode cX2_wordOfKind 55 = .ok (.ldc 132, 2) := by decide +kernel
theorem dX2_wordOfKind_57 : decode cX2_wordOfKind 57 = .ok (.areturn, 1) := by decide +kernel
theorem dX2_wordOfKind_58 : decode cX2_wordOfKind 58 = .ok (.ldc 134, 2) := by decide +kernel
theorem dX2_wordOfKind_60 : decode cX2_wordOfKind 60 = .ok (.areturn, 1) := by decide +kernel
theorem dX2_step_0 : decode cX2_step 0 = .ok (.aload_n 0, 1) := by decide +kernel
theorem dX2_step_1 : decode cX2_step 1 = .ok (.aload_n 0, 1) := by decide +kernel
theorem dX2_step_2 : decode cX2_step 2 = .ok (.getfield 19, 3) := by decide +kernel
theorem dX2_step_5 : decode cX2_step 5 = .ok (.putfield 29, 3) := by decide +kernel
theorem dX2_step_8 : decode cX2_step 8 = .ok (.aload_n 0, 1) := by decide +kernel
theorem dX2_step_9 : decode cX2_step 9 = .ok (.getfield 29, 3) := by decide +kernel
theorem dX2_step_12 : decode cX2_step 12 = .ok (.aload_n 0, 1) := by decide +kernel
theorem dX2_step_13 : decode cX2_step 13 = .ok (.getfield 15, 3) := by decide +kernel
theorem dX2_step_16 : decode cX2_step 16 = .ok (.if_icmp .ge 30, 3) := by decide +kernel
theorem dX2_step_19 : decode cX2_step 19 = .ok (.aload_n 0, 1) := by decide +kernel
theorem dX2_step_20 : decode cX2_step 20 = .ok (.getfield 11, 3) := by decide +kernel
theorem dX2_step_23 : decode cX2_step 23 = .ok (.aload_n 0, 1) := by decide +kernel
theorem dX2_step_24 : decode cX2_step 24 = .ok (.getfield 29, 3) := by decide +kernel
theorem dX2_step_27 : decode cX2_step 27 = .ok (.iaload, 1) := by decide +kernel
theorem dX2_step_28 : decode cX2_step 28 = .ok (.bipush 32, 2) := by decide +kernel
theorem dX2_step_30 : decode cX2_step 30 = .ok (.if_icmp .ne 16, 3) := by decide +kernel
theorem dX2_step_33 : decode cX2_step 33 = .ok (.aload_n 0, 1) := by decide +kernel
theorem dX2_step_34 : decode cX2_step 34 = .ok (.dup, 1) := by decide +kernel
theorem dX2_step_35 : decode cX2_step 35 = .ok (.getfield 29, 3) := by decide +kernel
theorem dX2_step_38 : decode cX2_step 38 = .ok (.iconst 1, 1) := by decide +kernel
theorem dX2_step_39 : decode cX2_step 39 = .ok (.iadd, 1) := by decide +kernel
theorem dX2_step_40 : decode cX2_step 40 = .ok (.putfield 29, 3) := by decide +kernel
theorem dX2_step_43 : decode cX2_step 43 = .ok (.goto (-35), 3) := by decide +kernel
theorem dX2_step_46 : decode cX2_step 46 = .ok (.aload_n 0, 1) := by decide +kernel
theorem dX2_step_47 : decode cX2_step 47 = .ok (.aload_n 0, 1) := by decide +kernel
theorem dX2_step_48 : decode cX2_step 48 = .ok (.getfield 29, 3) := by decide +kernel
theorem dX2_step_51 : decode cX2_step 51 = .ok (.putfield 19, 3) := by decide +kernel
theorem dX2_step_54 : decode cX2_step 54 = .ok (.aload_n 0, 1) := by decide +kernel
theorem dX2_step_55 : decode cX2_step 55 = .ok (.iconst 0, 1) := by decide +kernel
theorem dX2_step_56 : decode cX2_step 56 = .ok (.putfield 93, 3) := by decide +kernel
theorem dX2_step_59 : decode cX2_step 59 = .ok (.aload_n 0, 1) := by decide +kernel
theorem dX2_step_60 : decode cX2_step 60 = .ok (.aload_n 0, 1) := by decide +kernel
theorem dX2_step_61 : decode cX2_step 61 = .ok (.getfield 29, 3) := by decide +kernel
theorem dX2_step_64 : decode cX2_step 64 = .ok (.aload_n 0, 1) := by decide +kernel
theorem dX2_step_65 : decode cX2_step 65 = .ok (.getfield 15, 3) := by decide +kernel
theorem dX2_step_68 : decode cX2_step 68 = .ok (.if_icmp .ge 18, 3) := by decide +kernel
theorem dX2_step_71 : decode cX2_step 71 = .ok (.aload_n 0, 1) := by decide +kernel
theorem dX2_step_72 : decode cX2_step 72 = .ok (.getfield 11, 3) := by decide +kernel
theorem dX2_step_75 : decode cX2_step 75 = .ok (.aload_n 0, 1) := by decide +kernel
theorem dX2_step_76 : decode cX2_step 76 = .ok (.getfield 29, 3) := by decide +kernel
theorem dX2_step_79 : decode cX2_step 79 = .ok (.iaload, 1) := by decide +kernel
theorem dX2_step_80 : decode cX2_step 80 = .ok (.invokestatic 136, 3) := by decide +kernel
theorem dX2_step_83 : decode cX2_step 83 = .ok (.goto 4, 3) := by decide +kernel
theorem dX2_step_86 : decode cX2_step 86 = .ok (.iconst 0, 1) := by decide +kernel
theorem dX2_step_87 : decode cX2_step 87 = .ok (.putfield 32, 3) := by decide +kernel
theorem dX2_step_90 : decode cX2_step 90 = .ok (.aload_n 0, 1) := by decide +kernel
theorem dX2_step_91 : decode cX2_step 91 = .ok (.getfield 32, 3) := by decide +kernel
theorem dX2_step_94 : decode cX2_step 94 = .ok (.ifCond .eq 7, 3) := by decide +kernel
theorem dX2_step_97 : decode cX2_step 97 = .ok (.iconst 1, 1) := by decide +kernel
theorem dX2_step_98 : decode cX2_step 98 = .ok (.goto 4, 3) := by decide +kernel
theorem dX2_step_101 : decode cX2_step 101 = .ok (.iconst 0, 1) := by decide +kernel
theorem dX2_step_102 : decode cX2_step 102 = .ok (.istore_n 1, 1) := by decide +kernel
theorem dX2_step_103 : decode cX2_step 103 = .ok (.iload_n 1, 1) := by decide +kernel
theorem dX2_step_104 : decode cX2_step 104 = .ok (.ifCond .eq 127, 3) := by decide +kernel
theorem dX2_step_107 : decode cX2_step 107 = .ok (.aload_n 0, 1) := by decide +kernel
theorem dX2_step_108 : decode cX2_step 108 = .ok (.getfield 19, 3) := by decide +kernel
theorem dX2_step_111 : decode cX2_step 111 = .ok (.aload_n 0, 1) := by decide +kernel
theorem dX2_step_112 : decode cX2_step 112 = .ok (.getfield 15, 3) := by decide +kernel
theorem dX2_step_115 : decode cX2_step 115 = .ok (.if_icmp .ge 116, 3) := by decide +kernel
theorem dX2_step_118 : decode cX2_step 118 = .ok (.aload_n 0, 1) := by decide +kernel
theorem dX2_step_119 : decode cX2_step 119 = .ok (.getfield 32, 3) := by decide +kernel
theorem dX2_step_122 : decode cX2_step 122 = .ok (.iconst 2, 1) := by decide +kernel
theorem dX2_step_123 : decode cX2_step 123 = .ok (.if_icmp .ne 33, 3) := by decide +kernel
theorem dX2_step_126 : decode cX2_step 126 = .ok (.aload_n 0, 1) := by decide +kernel
theorem dX2_step_127 : decode cX2_step 127 = .ok (.sipush 1000, 3) := by decide +kernel
theorem dX2_step_130 : decode cX2_step 130 = .ok (.aload_n 0, 1) := by decide +kernel
theorem dX2_step_131 : decode cX2_step 131 = .ok (.getfield 93, 3) := by decide +kernel
theorem dX2_step_134 : decode cX2_step 134 = .ok (.bipush 10, 2) := by decide +kernel
theorem dX2_step_136 : decode cX2_step 136 = .ok (.imul, 1) := by decide +kernel
theorem dX2_step_137 : decode cX2_step 137 = .ok (.aload_n 0, 1) := by decide +kernel
theorem dX2_step_138 : decode cX2_step 138 = .ok (.getfield 11, 3) := by decide +kernel
theorem dX2_step_141 : decode cX2_step 141 = .ok (.aload_n 0, 1) := by decide +kernel
theorem dX2_step_142 : decode cX2_step 142 = .ok (.getfield 19, 3) := by decide +kernel
theorem dX2_step_145 : decode cX2_step 145 = .ok (.iaload, 1) := by decide +kernel
theorem dX2_step_146 : decode cX2_step 146 = .ok (.iadd, 1) := by decide +kernel
theorem dX2_step_147 : decode cX2_step 147 = .ok (.bipush 48, 2) := by decide +kernel
theorem dX2_step_149 : decode cX2_step 149 = .ok (.isub, 1) := by decide +kernel
theorem dX2_step_150 : decode cX2_step 150 = .ok (.invokestatic 140, 3) := by decide +kernel
theorem dX2_step_153 : decode cX2_step 153 = .ok (.putfield 93, 3) := by decide +kernel
theorem dX2_step_156 : decode cX2_step 156 = .ok (.aload_n 0, 1) := by decide +kernel
theorem dX2_step_157 : decode cX2_step 157 = .ok (.dup, 1) := by decide +kernel
theorem dX2_step_158 : decode cX2_step 158 = .ok (.getfield 19, 3) := by decide +kernel
theorem dX2_step_161 : decode cX2_step 161 = .ok (.iconst 1, 1) := by decide +kernel
theorem dX2_step_162 : decode cX2_step 162 = .ok (.iadd, 1) := by decide +kernel
theorem dX2_step_163 : decode cX2_step 163 = .ok (.putfield 19, 3) := by decide +kernel
theorem dX2_step_166 : decode cX2_step 166 = .ok (.aload_n 0, 1) := by decide +kernel
theorem dX2_step_167 : decode cX2_step 167 = .ok (.getfield 32, 3) := by decide +kernel
theorem dX2_step_170 : decode cX2_step 170 = .ok (.iconst 1, 1) := by decide +kernel
theorem dX2_step_171 : decode cX2_step 171 = .ok (.if_icmp .eq 11, 3) := by decide +kernel
theorem dX2_step_174 : decode cX2_step 174 = .ok (.aload_n 0, 1) := by decide +kernel
theorem dX2_step_175 : decode cX2_step 175 = .ok (.getfield 32, 3) := by decide +kernel
theorem dX2_step_178 : decode cX2_step 178 = .ok (.iconst 2, 1) := by decide +kernel
theorem dX2_step_179 : decode cX2_step 179 = .ok (.if_icmp .ne 7, 3) := by decide +kernel
theorem dX2_step_182 : decode cX2_step 182 = .ok (.iconst 1, 1) := by decide +kernel
theorem dX2_step_183 : decode cX2_step 183 = .ok (.goto 4, 3) := by decide +kernel
theorem dX2_step_186 : decode cX2_step 186 = .ok (.iconst 0, 1) := by decide +kernel
theorem dX2_step_187 : decode cX2_step 187 = .ok (.istore_n 2, 1) := by decide +kernel
theorem dX2_step_188 : decode cX2_step 188 = .ok (.iload_n 2, 1) := by decide +kernel
theorem dX2_step_189 : decode cX2_step 189 = .ok (.ifCond .eq 37, 3) := by decide +kernel
theorem dX2_step_192 : decode cX2_step 192 = .ok (.aload_n 0, 1) := by decide +kernel
theorem dX2_step_193 : decode cX2_step 193 = .ok (.getfield 19, 3) := by decide +kernel
theorem dX2_step_196 : decode cX2_step 196 = .ok (.aload_n 0, 1) := by decide +kernel
theorem dX2_step_197 : decode cX2_step 197 = .ok (.getfield 15, 3) := by decide +kernel
theorem dX2_step_200 : decode cX2_step 200 = .ok (.if_icmp .ge 26, 3) := by decide +kernel
theorem dX2_step_203 : decode cX2_step 203 = .ok (.aload_n 0, 1) := by decide +kernel
theorem dX2_step_204 : decode cX2_step 204 = .ok (.getfield 11, 3) := by decide +kernel
theorem dX2_step_207 : decode cX2_step 207 = .ok (.aload_n 0, 1) := by decide +kernel
theorem dX2_step_208 : decode cX2_step 208 = .ok (.getfield 19, 3) := by decide +kernel
theorem dX2_step_211 : decode cX2_step 211 = .ok (.iaload, 1) := by decide +kernel
theorem dX2_step_212 : decode cX2_step 212 = .ok (.invokestatic 136, 3) := by decide +kernel
theorem dX2_step_215 : decode cX2_step 215 = .ok (.aload_n 0, 1) := by decide +kernel
theorem dX2_step_216 : decode cX2_step 216 = .ok (.getfield 32, 3) := by decide +kernel
theorem dX2_step_219 : decode cX2_step 219 = .ok (.if_icmp .ne 7, 3) := by decide +kernel
theorem dX2_step_222 : decode cX2_step 222 = .ok (.iconst 1, 1) := by decide +kernel
theorem dX2_step_223 : decode cX2_step 223 = .ok (.goto 4, 3) := by decide +kernel
theorem dX2_step_226 : decode cX2_step 226 = .ok (.iconst 0, 1) := by decide +kernel
theorem dX2_step_227 : decode cX2_step 227 = .ok (.istore_n 1, 1) := by decide +kernel
theorem dX2_step_228 : decode cX2_step 228 = .ok (.goto (-125), 3) := by decide +kernel
theorem dX2_step_231 : decode cX2_step 231 = .ok (.return_, 1) := by decide +kernel
theorem dX2_tokenOfByte_0 : decode cX2_tokenOfByte 0 = .ok (.iload_n 0, 1) := by decide +kernel
theorem dX2_tokenOfByte_1 : decode cX2_tokenOfByte 1 = .ok (.bipush 97, 2) := by decide +kernel
theorem dX2_tokenOfByte_3 : decode cX2_tokenOfByte 3 = .ok (.if_icmp .lt 11, 3) := by decide +kernel
theorem dX2_tokenOfByte_6 : decode cX2_tokenOfByte 6 = .ok (.iload_n 0, 1) := by decide +kernel
theorem dX2_tokenOfByte_7 : decode cX2_tokenOfByte 7 = .ok (.bipush 122, 2) := by decide +kernel
theorem dX2_tokenOfByte_9 : decode cX2_tokenOfByte 9 = .ok (.if_icmp .gt 5, 3) := by decide +kernel
theorem dX2_tokenOfByte_12 : decode cX2_tokenOfByte 12 = .ok (.iconst 1, 1) := by decide +kernel
theorem dX2_tokenOfByte_13 : decode cX2_tokenOfByte 13 = .ok (.ireturn, 1) := by decide +kernel
theorem dX2_tokenOfByte_14 : decode cX2_tokenOfByte 14 = .ok (.iload_n 0, 1) := by decide +kernel
theorem dX2_tokenOfByte_15 : decode cX2_tokenOfByte 15 = .ok (.bipush 48, 2) := by decide +kernel
theorem dX2_tokenOfByte_17 : decode cX2_tokenOfByte 17 = .ok (.if_icmp .lt 11, 3) := by decide +kernel
theorem dX2_tokenOfByte_20 : decode cX2_tokenOfByte 20 = .ok (.iload_n 0, 1) := by decide +kernel
theorem dX2_tokenOfByte_21 : decode cX2_tokenOfByte 21 = .ok (.bipush 57, 2) := by decide +kernel
theorem dX2_tokenOfByte_23 : decode cX2_tokenOfByte 23 = .ok (.if_icmp .gt 5, 3) := by decide +kernel
theorem dX2_tokenOfByte_26 : decode cX2_tokenOfByte 26 = .ok (.iconst 2, 1) := by decide +kernel
theorem dX2_tokenOfByte_27 : decode cX2_tokenOfByte 27 = .ok (.ireturn, 1) := by decide +kernel
theorem dX2_tokenOfByte_28 : decode cX2_tokenOfByte 28 = .ok (.iload_n 0, 1) := by decide +kernel
theorem dX2_tokenOfByte_29 : decode cX2_tokenOfByte 29 = .ok (.bipush 59, 2) := by decide +kernel
theorem dX2_tokenOfByte_31 : decode cX2_tokenOfByte 31 = .ok (.if_icmp .ne 7, 3) := by decide +kernel
theorem dX2_tokenOfByte_34 : decode cX2_tokenOfByte 34 = .ok (.iconst 3, 1) := by decide +kernel
theorem dX2_tokenOfByte_35 : decode cX2_tokenOfByte 35 = .ok (.goto 4, 3) := by decide +kernel
theorem dX2_tokenOfByte_38 : decode cX2_tokenOfByte 38 = .ok (.iconst 4, 1) := by decide +kernel
theorem dX2_tokenOfByte_39 : decode cX2_tokenOfByte 39 = .ok (.ireturn, 1) := by decide +kernel
end
section
theorem dX3_init_0 : decode cX3_init 0 = .ok (.aload_n 0, 1) := by decide +kernel
theorem dX3_init_1 : decode cX3_init 1 = .ok (.invokespecial 3, 3) := by decide +kernel
theorem dX3_init_4 : decode cX3_init 4 = .ok (.aload_n 0, 1) := by decide +kernel
theorem dX3_init_5 : decode cX3_init 5 = .ok (.new 9, 3) := by decide +kernel
theorem dX3_init_8 : decode cX3_init 8 = .ok (.dup, 1) := by decide +kernel
theorem dX3_init_9 : decode cX3_init 9 = .ok (.invokespecial 11, 3) := by decide +kernel
theorem dX3_init_12 : decode cX3_init 12 = .ok (.putfield 12, 3) := by decide +kernel
theorem dX3_init_15 : decode cX3_init 15 = .ok (.aload_n 0, 1) := by decide +kernel
theorem dX3_init_16 : decode cX3_init 16 = .ok (.new 9, 3) := by decide +kernel
theorem dX3_init_19 : decode cX3_init 19 = .ok (.dup, 1) := by decide +kernel
theorem dX3_init_20 : decode cX3_init 20 = .ok (.invokespecial 11, 3) := by decide +kernel
theorem dX3_init_23 : decode cX3_init 23 = .ok (.putfield 16, 3) := by decide +kernel
theorem dX3_init_26 : decode cX3_init 26 = .ok (.aload_n 0, 1) := by decide +kernel
theorem dX3_init_27 : decode cX3_init 27 = .ok (.new 9, 3) := by decide +kernel
theorem dX3_init_30 : decode cX3_init 30 = .ok (.dup, 1) := by decide +kernel
theorem dX3_init_31 : decode cX3_init 31 = .ok (.invokespecial 11, 3) := by decide +kernel
theorem dX3_init_34 : decode cX3_init 34 = .ok (.putfield 19, 3) := by decide +kernel
theorem dX3_init_37 : decode cX3_init 37 = .ok (.aload_n 0, 1) := by decide +kernel
theorem dX3_init_38 : decode cX3_init 38 = .ok (.new 22, 3) := by decide +kernel
theorem dX3_init_41 : decode cX3_init 41 = .ok (.dup, 1) := by decide +kernel
theorem dX3_init_42 : decode cX3_init 42 = .ok (.invokespecial 24, 3) := by decide +kernel
theorem dX3_init_45 : decode cX3_init 45 = .ok (.putfield 25, 3) := by decide +kernel
theorem dX3_init_48 : decode cX3_init 48 = .ok (.aload_n 0, 1) := by decide +kernel
theorem dX3_init_49 : decode cX3_init 49 = .ok (.new 29, 3) := by decide +kernel
theorem dX3_init_52 : decode cX3_init 52 = .ok (.dup, 1) := by decide +kernel
theorem dX3_init_53 : decode cX3_init 53 = .ok (.invokespecial 31, 3) := by decide +kernel
theorem dX3_init_56 : decode cX3_init 56 = .ok (.putfield 32, 3) := by decide +kernel
theorem dX3_init_59 : decode cX3_init 59 = .ok (.aload_n 0, 1) := by decide +kernel
theorem dX3_init_60 : decode cX3_init 60 = .ok (.bipush 7, 2) := by decide +kernel
theorem dX3_init_62 : decode cX3_init 62 = .ok (.newarray .int, 2) := by decide +kernel
theorem dX3_init_64 : decode cX3_init 64 = .ok (.putfield 36, 3) := by decide +kernel
theorem dX3_init_67 : decode cX3_init 67 = .ok (.return_, 1) := by decide +kernel
theorem dX3_cell_0 : decode cX3_cell 0 = .ok (.iload_n 1, 1) := by decide +kernel
theorem dX3_cell_1 : decode cX3_cell 1 = .ok (.invokestatic 40, 3) := by decide +kernel
theorem dX3_cell_4 : decode cX3_cell 4 = .ok (.ifCond .eq 12, 3) := by decide +kernel
theorem dX3_cell_7 : decode cX3_cell 7 = .ok (.iload_n 2, 1) := by decide +kernel
theorem dX3_cell_8 : decode cX3_cell 8 = .ok (.iconst 0, 1) := by decide +kernel
theorem dX3_cell_9 : decode cX3_cell 9 = .ok (.iconst 3, 1) := by decide +kernel
theorem dX3_cell_10 : decode cX3_cell 10 = .ok (.invokestatic 44, 3) := by decide +kernel
theorem dX3_cell_13 : decode cX3_cell 13 = .ok (.ifCond .ne 10, 3) := by decide +kernel
theorem dX3_cell_16 : decode cX3_cell 16 = .ok (.aload_n 0, 1) := by decide +kernel
theorem dX3_cell_17 : decode cX3_cell 17 = .ok (.ldc 48, 2) := by decide +kernel
theorem dX3_cell_19 : decode cX3_cell 19 = .ok (.invokevirtual 49, 3) := by decide +kernel
theorem dX3_cell_22 : decode cX3_cell 22 = .ok (.ireturn, 1) := by decide +kernel
theorem dX3_cell_23 : decode cX3_cell 23 = .ok (.iload_n 2, 1) := by decide +kernel
theorem dX3_cell_24 : decode cX3_cell 24 = .ok (.iconst 3, 1) := by decide +kernel
theorem dX3_cell_25 : decode cX3_cell 25 = .ok (.if_icmp .ge 15, 3) := by decide +kernel
theorem dX3_cell_28 : decode cX3_cell 28 = .ok (.aload_n 0, 1) := by decide +kernel
theorem dX3_cell_29 : decode cX3_cell 29 = .ok (.getfield 12, 3) := by decide +kernel
theorem dX3_cell_32 : decode cX3_cell 32 = .ok (.getfield 53, 3) := by decide +kernel
theorem dX3_cell_35 : decode cX3_cell 35 = .ok (.iload_n 2, 1) := by decide +kernel
theorem dX3_cell_36 : decode cX3_cell 36 = .ok (.aaload, 1) := by decide +kernel
theorem dX3_cell_37 : decode cX3_cell 37 = .ok (.iload_n 1, 1) := by decide +kernel
theorem dX3_cell_38 : decode cX3_cell 38 = .ok (.iaload, 1) := by decide +kernel
theorem dX3_cell_39 : decode cX3_cell 39 = .ok (.ireturn, 1) := by decide +kernel
theorem dX3_cell_40 : decode cX3_cell 40 = .ok (.aload_n 0, 1) := by decide +kernel
theorem dX3_cell_41 : decode cX3_cell 41 = .ok (.getfield 12, 3) := by decide +kernel
theorem dX3_cell_44 : decode cX3_cell 44 = .ok (.iload_n 1, 1) := by decide +kernel
theorem dX3_cell_45 : decode cX3_cell 45 = .ok (.invokevirtual 57, 3) := by decide +kernel
theorem dX3_cell_48 : decode cX3_cell 48 = .ok (.ireturn, 1) := by decide +kernel
theorem dX3_print_0 : decode cX3_print 0 = .ok (.iload_n 1, 1) := by decide +kernel
theorem dX3_print_1 : decode cX3_print 1 = .ok (.invokestatic 40, 3) := by decide +kernel
theorem dX3_print_4 : decode cX3_print 4 = .ok (.ifCond .eq 24, 3) := by decide +kernel
theorem dX3_print_7 : decode cX3_print 7 = .ok (.aload_n 0, 1) := by decide +kernel
theorem dX3_print_8 : decode cX3_print 8 = .ok (.getfield 12, 3) := by decide +kernel
theorem dX3_print_11 : decode cX3_print 11 = .ok (.iload_n 2, 1) := by decide +kernel
theorem dX3_print_12 : decode cX3_print 12 = .ok (.invokevirtual 60, 3) := by decide +kernel
theorem dX3_print_15 : decode cX3_print 15 = .ok (.ifCond .eq 13, 3) := by decide +kernel
theorem dX3_print_18 : decode cX3_print 18 = .ok (.iload_n 3, 1) := by decide +kernel
theorem dX3_print_19 : decode cX3_print 19 = .ok (.iconst 0, 1) := by decide +kernel
theorem dX3_print_20 : decode cX3_print 20 = .ok (.bipush 9, 2) := by decide +kernel
theorem dX3_print_22 : decode cX3_print 22 = .ok (.invokestatic 44, 3) := by decide +kernel
theorem dX3_print_25 : decode cX3_print 25 = .ok (.ifCond .ne 10, 3) := by decide +kernel
theorem dX3_print_28 : decode cX3_print 28 = .ok (.aload_n 0, 1) := by decide +kernel
theorem dX3_print_29 : decode cX3_print 29 = .ok (.ldc 48, 2) := by decide +kernel
theorem dX3_print_31 : decode cX3_print 31 = .ok (.invokevirtual 49, 3) := by decide +kernel
theorem dX3_print_34 : decode cX3_print 34 = .ok (.ireturn, 1) := by decide +kernel
theorem dX3_print_35 : decode cX3_print 35 = .ok (.aload_n 0, 1) := by decide +kernel
theorem dX3_print_36 : decode cX3_print 36 = .ok (.getfield 12, 3) := by decide +kernel
theorem dX3_print_39 : decode cX3_print 39 = .ok (.getfield 53, 3) := by decide +kernel
theorem dX3_print_42 : decode cX3_print 42 = .ok (.iconst 0, 1) := by decide +kernel
theorem dX3_print_43 : decode cX3_print 43 = .ok (.aaload, 1) := by decide +kernel
theorem dX3_print_44 : decode cX3_print 44 = .ok (.iload_n 1, 1) := by decide +kernel
theorem dX3_print_45 : decode cX3_print 45 = .ok (.iaload, 1) := by decide +kernel
theorem dX3_print_46 : decode cX3_print 46 = .ok (.istore 4, 2) := by decide +kernel
theorem dX3_print_48 : decode cX3_print 48 = .ok (.iload_n 2, 1) := by decide +kernel
theorem dX3_print_49 : decode cX3_print 49 = .ok (.iconst (-1), 1) := by decide +kernel
theorem dX3_print_50 : decode cX3_print 50 = .ok (.if_icmp .ne 14, 3) := by decide +kernel
theorem dX3_print_53 : decode cX3_print 53 = .ok (.aload_n 0, 1) := by decide +kernel
theorem dX3_print_54 : decode cX3_print 54 = .ok (.getfield 12, 3) := by decide +kernel
theorem dX3_print_57 : decode cX3_print 57 = .ok (.iload_n 1, 1) := by decide +kernel
theorem dX3_print_58 : decode cX3_print 58 = .ok (.invokevirtual 63, 3) := by decide +kernel
theorem dX3_print_61 : decode cX3_print 61 = .ok (.goto 24, 3) := by decide +kernel
theorem dX3_print_64 : decode cX3_print 64 = .ok (.aload_n 0, 1) := by decide +kernel
theorem dX3_print_65 : decode cX3_print 65 = .ok (.getfield 12, 3) := by decide +kernel
theorem dX3_print_68 : decode cX3_print 68 = .ok (.iload_n 1, 1) := by decide +kernel
theorem dX3_print_69 : decode cX3_print 69 = .ok (.iload_n 2, 1) := by decide +kernel
theorem dX3_print_70 : decode cX3_print 70 = .ok (.iload_n 3, 1) := by decide +kernel
theorem dX3_print_71 : decode cX3_print 71 = .ok (.aload_n 0, 1) := by decide +kernel
theorem dX3_print_72 : decode cX3_print 72 = .ok (.getfield 12, 3) := by decide +kernel
theorem dX3_print_75 : decode cX3_print 75 = .ok (.getfield 67, 3) := by decide +kernel
theorem dX3_print_78 : decode cX3_print 78 = .ok (.iconst 2, 1) := by decide +kernel
theorem dX3_print_79 : decode cX3_print 79 = .ok (.aaload, 1) := by decide +kernel
theorem dX3_print_80 : decode cX3_print 80 = .ok (.iload_n 2, 1) := by decide +kernel
theorem dX3_print_81 : decode cX3_print 81 = .ok (.iaload, 1) := by decide +kernel
theorem dX3_print_82 : decode cX3_print 82 = .ok (.invokevirtual 70, 3) := by decide +kernel
theorem dX3_print_85 : decode cX3_print 85 = .ok (.iload 4, 2) := by decide +kernel
theorem dX3_print_87 : decode cX3_print 87 = .ok (.ireturn, 1) := by decide +kernel
theorem dX3_reach_0 : decode cX3_reach 0 = .ok (.iload_n 1, 1) := by decide +kernel
theorem dX3_reach_1 : decode cX3_reach 1 = .ok (.iconst 0, 1) := by decide +kernel
theorem dX3_reach_2 : decode cX3_reach 2 = .ok (.bipush 24, 2) := by decide +kernel
theorem dX3_reach_4 : decode cX3_reach 4 = .ok (.invokestatic 44, 3) := by decide +kernel
theorem dX3_reach_7 : decode cX3_reach 7 = .ok (.ifCond .ne 10, 3) := by decide +kernel
theorem dX3_reach_10 : decode cX3_reach 10 = .ok (.aload_n 0, 1) := by decide +kernel
theorem dX3_reach_11 : decode cX3_reach 11 = .ok (.ldc 48, 2) := by decide +kernel
theorem dX3_reach_13 : decode cX3_reach 13 = .ok (.invokevirtual 49, 3) := by decide +kernel
theorem dX3_reach_16 : decode cX3_reach 16 = .ok (.ireturn, 1) := by decide +kernel
theorem dX3_reach_17 : decode cX3_reach 17 = .ok (.aload_n 0, 1) := by decide +kernel
theorem dX3_reach_18 : decode cX3_reach 18 = .ok (.getfield 12, 3) := by decide +kernel
theorem dX3_reach_21 : decode cX3_reach 21 = .ok (.getfield 74, 3) := by decide +kernel
theorem dX3_reach_24 : decode cX3_reach 24 = .ok (.istore_n 2, 1) := by decide +kernel
theorem dX3_reach_25 : decode cX3_reach 25 = .ok (.aload_n 0, 1) := by decide +kernel
theorem dX3_reach_26 : decode cX3_reach 26 = .ok (.getfield 12, 3) := by decide +kernel
theorem dX3_reach_29 : decode cX3_reach 29 = .ok (.iload_n 1, 1) := by decide +kernel
theorem dX3_reach_30 : decode cX3_reach 30 = .ok (.putfield 74, 3) := by decide +kernel
theorem dX3_reach_33 : decode cX3_reach 33 = .ok (.iload_n 2, 1) := by decide +kernel
theorem dX3_reach_34 : decode cX3_reach 34 = .ok (.ireturn, 1) := by decide +kernel
theorem dX3_tide_0 : decode cX3_tide 0 = .ok (.aload_n 0, 1) := by decide +kernel
theorem dX3_tide_1 : decode cX3_tide 1 = .ok (.getfield 12, 3) := by decide +kernel
theorem dX3_tide_4 : decode cX3_tide 4 = .ok (.invokevirtual 78, 3) := by decide +kernel
theorem dX3_tide_7 : decode cX3_tide 7 = .ok (.ireturn, 1) := by decide +kernel
theorem dX3_walker_0 : decode cX3_walker 0 = .ok (.iload_n 1, 1) := by decide +kernel
theorem dX3_walker_1 : decode cX3_walker 1 = .ok (.iconst 0, 1) := by decide +kernel
theorem dX3_walker_2 : decode cX3_walker 2 = .ok (.bipush 6, 2) := by decide +kernel
theorem dX3_walker_4 : decode cX3_walker 4 = .ok (.invokestatic 44, 3) := by decide +kernel
theorem dX3_walker_7 : decode cX3_walker 7 = .ok (.ifCond .eq 10, 3) := by decide +kernel
theorem dX3_walker_10 : decode cX3_walker 10 = .ok (.iload_n 2, 1) := by decide +kernel
theorem dX3_walker_11 : decode cX3_walker 11 = .ok (.invokestatic 40, 3) := by decide +kernel
theorem dX3_walker_14 : decode cX3_walker 14 = .ok (.ifCond .ne 10, 3) := by decide +kernel
theorem dX3_walker_17 : decode cX3_walker 17 = .ok (.aload_n 0, 1) := by decide +kernel
theorem dX3_walker_18 : decode cX3_walker 18 = .ok (.ldc 48, 2) := by decide +kernel
theorem dX3_walker_20 : decode cX3_walker 20 = .ok (.invokevirtual 49, 3) := by decide +kernel
theorem dX3_walker_23 : decode cX3_walker 23 = .ok (.ireturn, 1) := by decide +kernel
theorem dX3_walker_24 : decode cX3_walker 24 = .ok (.aload_n 0, 1) := by decide +kernel
theorem dX3_walker_25 : decode cX3_walker 25 = .ok (.getfield 12, 3) := by decide +kernel
theorem dX3_walker_28 : decode cX3_walker 28 = .ok (.invokevirtual 82, 3) := by decide +kernel
theorem dX3_walker_31 : decode cX3_walker 31 = .ok (.ifCond .ne 10, 3) := by decide +kernel
theorem dX3_walker_34 : decode cX3_walker 34 = .ok (.aload_n 0, 1) := by decide +kernel
theorem dX3_walker_35 : decode cX3_walker 35 = .ok (.ldc 86, 2) := by decide +kernel
theorem dX3_walker_37 : decode cX3_walker 37 = .ok (.invokevirtual 49, 3) := by decide +kernel
theorem dX3_walker_40 : decode cX3_walker 40 = .ok (.ireturn, 1) := by decide +kernel
theorem dX3_walker_41 : decode cX3_walker 41 = .ok (.aload_n 0, 1) := by decide +kernel
theorem dX3_walker_42 : decode cX3_walker 42 = .ok (.getfield 12, 3) := by decide +kernel
theorem dX3_walker_45 : decode cX3_walker 45 = .ok (.iload_n 1, 1) := by decide +kernel
theorem dX3_walker_46 : decode cX3_walker 46 = .ok (.iload_n 2, 1) := by decide +kernel
theorem dX3_walker_47 : decode cX3_walker 47 = .ok (.invokevirtual 87, 3) := by decide +kernel
theorem dX3_walker_50 : decode cX3_walker 50 = .ok (.ireturn, 1) := by decide +kernel
theorem dX3_of_0 : decode cX3_of 0 = .ok (.aload_n 0, 1) := by decide +kernel
theorem dX3_of_1 : decode cX3_of 1 = .ok (.getfield 12, 3) := by decide +kernel
theorem dX3_of_4 : decode cX3_of 4 = .ok (.iload_n 1, 1) := by decide +kernel
theorem dX3_of_5 : decode cX3_of 5 = .ok (.invokevirtual 91, 3) := by decide +kernel
theorem dX3_of_8 : decode cX3_of 8 = .ok (.ifCond .eq 13, 3) := by decide +kernel
theorem dX3_of_11 : decode cX3_of 11 = .ok (.iload_n 2, 1) := by decide +kernel
theorem dX3_of_12 : decode cX3_of 12 = .ok (.iconst 0, 1) := by decide +kernel
theorem dX3_of_13 : decode cX3_of 13 = .ok (.bipush 9, 2) := by decide +kernel
theorem dX3_of_15 : decode cX3_of 15 = .ok (.invokestatic 44, 3) := by decide +kernel
theorem dX3_of_18 : decode cX3_of 18 = .ok (.ifCond .ne 10, 3) := by decide +kernel
theorem dX3_of_21 : decode cX3_of 21 = .ok (.aload_n 0, 1) := by decide +kernel
theorem dX3_of_22 : decode cX3_of 22 = .ok (.ldc 48, 2) := by decide +kernel
theorem dX3_of_24 : decode cX3_of 24 = .ok (.invokevirtual 49, 3) := by decide +kernel
theorem dX3_of_27 : decode cX3_of 27 = .ok (.ireturn, 1) := by decide +kernel
theorem dX3_of_28 : decode cX3_of 28 = .ok (.iload_n 2, 1) := by decide +kernel
theorem dX3_of_29 : decode cX3_of 29 = .ok (.tableswitch 67 6 9 #[31, 40, 49, 58], 31) := by decide +kernel
theorem dX3_of_60 : decode cX3_of 60 = .ok (.aload_n 0, 1) := by decide +kernel
theorem dX3_of_61 : decode cX3_of 61 = .ok (.getfield 12, 3) := by decide +kernel
theorem dX3_of_64 : decode cX3_of 64 = .ok (.iload_n 1, 1) := by decide +kernel
theorem dX3_of_65 : decode cX3_of 65 = .ok (.invokevirtual 94, 3) := by decide +kernel
theorem dX3_of_68 : decode cX3_of 68 = .ok (.ireturn, 1) := by decide +kernel
theorem dX3_of_69 : decode cX3_of 69 = .ok (.aload_n 0, 1) := by decide +kernel
theorem dX3_of_70 : decode cX3_of 70 = .ok (.getfield 12, 3) := by decide +kernel
theorem dX3_of_73 : decode cX3_of 73 = .ok (.iload_n 1, 1) := by decide +kernel
theorem dX3_of_74 : decode cX3_of 74 = .ok (.invokevirtual 97, 3) := by decide +kernel
theorem dX3_of_77 : decode cX3_of 77 = .ok (.ireturn, 1) := by decide +kernel
theorem dX3_of_78 : decode cX3_of 78 = .ok (.aload_n 0, 1) := by decide +kernel
theorem dX3_of_79 : decode cX3_of 79 = .ok (.getfield 12, 3) := by decide +kernel
theorem dX3_of_82 : decode cX3_of 82 = .ok (.iload_n 1, 1) := by decide +kernel
theorem dX3_of_83 : decode cX3_of 83 = .ok (.invokevirtual 100, 3) := by decide +kernel
theorem dX3_of_86 : decode cX3_of 86 = .ok (.ireturn, 1) := by decide +kernel
theorem dX3_of_87 : decode cX3_of 87 = .ok (.aload_n 0, 1) := by decide +kernel
theorem dX3_of_88 : decode cX3_of 88 = .ok (.getfield 12, 3) := by decide +kernel
theorem dX3_of_91 : decode cX3_of 91 = .ok (.iload_n 1, 1) := by decide +kernel
theorem dX3_of_92 : decode cX3_of 92 = .ok (.invokevirtual 103, 3) := by decide +kernel
theorem dX3_of_95 : decode cX3_of 95 = .ok (.ireturn, 1) := by decide +kernel
theorem dX3_of_96 : decode cX3_of 96 = .ok (.aload_n 0, 1) := by decide +kernel
theorem dX3_of_97 : decode cX3_of 97 = .ok (.getfield 12, 3) := by decide +kernel
theorem dX3_of_100 : decode cX3_of 100 = .ok (.getfield 67, 3) := by decide +kernel
theorem dX3_of_103 : decode cX3_of 103 = .ok (.iload_n 2, 1) := by decide +kernel
theorem dX3_of_104 : decode cX3_of 104 = .ok (.aaload, 1) := by decide +kernel
theorem dX3_of_105 : decode cX3_of 105 = .ok (.iload_n 1, 1) := by decide +kernel
theorem dX3_of_106 : decode cX3_of 106 = .ok (.iaload, 1) := by decide +kernel
theorem dX3_of_107 : decode cX3_of 107 = .ok (.ireturn, 1) := by decide +kernel
theorem dX3_change_0 : decode cX3_change 0 = .ok (.aload_n 0, 1) := by decide +kernel
theorem dX3_change_1 : decode cX3_change 1 = .ok (.getfield 12, 3) := by decide +kernel
theorem dX3_change_4 : decode cX3_change 4 = .ok (.iload_n 1, 1) := by decide +kernel
theorem dX3_change_5 : decode cX3_change 5 = .ok (.invokevirtual 91, 3) := by decide +kernel
theorem dX3_change_8 : decode cX3_change 8 = .ok (.ifCond .eq 29, 3) := by decide +kernel
theorem dX3_change_11 : decode cX3_change 11 = .ok (.iload_n 2, 1) := by decide +kernel
theorem dX3_change_12 : decode cX3_change 12 = .ok (.iconst 0, 1) := by decide +kernel
theorem dX3_change_13 : decode cX3_change 13 = .ok (.iconst 5, 1) := by decide +kernel
theorem dX3_change_14 : decode cX3_change 14 = .ok (.invokestatic 44, 3) := by decide +kernel
theorem dX3_change_17 : decode cX3_change 17 = .ok (.ifCond .eq 20, 3) := by decide +kernel
theorem dX3_change_20 : decode cX3_change 20 = .ok (.iload_n 3, 1) := by decide +kernel
theorem dX3_change_21 : decode cX3_change 21 = .ok (.getstatic 106, 3) := by decide +kernel
theorem dX3_change_24 : decode cX3_change 24 = .ok (.iload_n 2, 1) := by decide +kernel
theorem dX3_change_25 : decode cX3_change 25 = .ok (.iaload, 1) := by decide +kernel
theorem dX3_change_26 : decode cX3_change 26 = .ok (.getstatic 109, 3) := by decide +kernel
theorem dX3_change_29 : decode cX3_change 29 = .ok (.iload_n 2, 1) := by decide +kernel
theorem dX3_change_30 : decode cX3_change 30 = .ok (.iaload, 1) := by decide +kernel
theorem dX3_change_31 : decode cX3_change 31 = .ok (.invokestatic 44, 3) := by decide +kernel
theorem dX3_change_34 : decode cX3_change 34 = .ok (.ifCond .ne 10, 3) := by decide +kernel
theorem dX3_change_37 : decode cX3_change 37 = .ok (.aload_n 0, 1) := by decide +kernel
theorem dX3_change_38 : decode cX3_change 38 = .ok (.ldc 48, 2) := by decide +kernel
theorem dX3_change_40 : decode cX3_change 40 = .ok (.invokevirtual 49, 3) := by decide +kernel
theorem dX3_change_43 : decode cX3_change 43 = .ok (.ireturn, 1) := by decide +kernel
theorem dX3_change_44 : decode cX3_change 44 = .ok (.aload_n 0, 1) := by decide +kernel
theorem dX3_change_45 : decode cX3_change 45 = .ok (.getfield 12, 3) := by decide +kernel
theorem dX3_change_48 : decode cX3_change 48 = .ok (.getfield 67, 3) := by decide +kernel
theorem dX3_change_51 : decode cX3_change 51 = .ok (.iload_n 2, 1) := by decide +kernel
theorem dX3_change_52 : decode cX3_change 52 = .ok (.aaload, 1) := by decide +kernel
theorem dX3_change_53 : decode cX3_change 53 = .ok (.iload_n 1, 1) := by decide +kernel
theorem dX3_change_54 : decode cX3_change 54 = .ok (.iaload, 1) := by decide +kernel
theorem dX3_change_55 : decode cX3_change 55 = .ok (.istore 4, 2) := by decide +kernel
theorem dX3_change_57 : decode cX3_change 57 = .ok (.aload_n 0, 1) := by decide +kernel
theorem dX3_change_58 : decode cX3_change 58 = .ok (.getfield 12, 3) := by decide +kernel
theorem dX3_change_61 : decode cX3_change 61 = .ok (.getfield 67, 3) := by decide +kernel
theorem dX3_change_64 : decode cX3_change 64 = .ok (.iload_n 2, 1) := by decide +kernel
theorem dX3_change_65 : decode cX3_change 65 = .ok (.aaload, 1) := by decide +kernel
theorem dX3_change_66 : decode cX3_change 66 = .ok (.iload_n 1, 1) := by decide +kernel
theorem dX3_change_67 : decode cX3_change 67 = .ok (.iload_n 3, 1) := by decide +kernel
theorem dX3_change_68 : decode cX3_change 68 = .ok (.iastore, 1) := by decide +kernel
theorem dX3_change_69 : decode cX3_change 69 = .ok (.iload 4, 2) := by decide +kernel
theorem dX3_change_71 : decode cX3_change 71 = .ok (.ireturn, 1) := by decide +kernel
theorem dX3_go_0 : decode cX3_go 0 = .ok (.iload_n 1, 1) := by decide +kernel
theorem dX3_go_1 : decode cX3_go 1 = .ok (.iconst 1, 1) := by decide +kernel
theorem dX3_go_2 : decode cX3_go 2 = .ok (.bipush 60, 2) := by decide +kernel
theorem dX3_go_4 : decode cX3_go 4 = .ok (.invokestatic 44, 3) := by decide +kernel
theorem dX3_go_7 : decode cX3_go 7 = .ok (.ifCond .ne 10, 3) := by decide +kernel
theorem dX3_go_10 : decode cX3_go 10 = .ok (.aload_n 0, 1) := by decide +kernel
theorem dX3_go_11 : decode cX3_go 11 = .ok (.ldc 48, 2) := by decide +kernel
theorem dX3_go_13 : decode cX3_go 13 = .ok (.invokevirtual 49, 3) := by decide +kernel
theorem dX3_go_16 : decode cX3_go 16 = .ok (.ireturn, 1) := by decide +kernel
theorem dX3_go_17 : decode cX3_go 17 = .ok (.aload_n 0, 1) := by decide +kernel
theorem dX3_go_18 : decode cX3_go 18 = .ok (.getfield 12, 3) := by decide +kernel
theorem dX3_go_21 : decode cX3_go 21 = .ok (.getfield 112, 3) := by decide +kernel
theorem dX3_go_24 : decode cX3_go 24 = .ok (.iload_n 1, 1) := by decide +kernel
theorem dX3_go_25 : decode cX3_go 25 = .ok (.iadd, 1) := by decide +kernel
theorem dX3_go_26 : decode cX3_go 26 = .ok (.ldc 115, 2) := by decide +kernel
theorem dX3_go_28 : decode cX3_go 28 = .ok (.if_icmp .le 10, 3) := by decide +kernel
theorem dX3_go_31 : decode cX3_go 31 = .ok (.aload_n 0, 1) := by decide +kernel
theorem dX3_go_32 : decode cX3_go 32 = .ok (.ldc 116, 2) := by decide +kernel
theorem dX3_go_34 : decode cX3_go 34 = .ok (.invokevirtual 49, 3) := by decide +kernel
theorem dX3_go_37 : decode cX3_go 37 = .ok (.ireturn, 1) := by decide +kernel
theorem dX3_go_38 : decode cX3_go 38 = .ok (.aload_n 0, 1) := by decide +kernel
theorem dX3_go_39 : decode cX3_go 39 = .ok (.getfield 12, 3) := by decide +kernel
theorem dX3_go_42 : decode cX3_go 42 = .ok (.iload_n 1, 1) := by decide +kernel
theorem dX3_go_43 : decode cX3_go 43 = .ok (.iconst 0, 1) := by decide +kernel
theorem dX3_go_44 : decode cX3_go 44 = .ok (.invokevirtual 117, 3) := by decide +kernel
theorem dX3_go_47 : decode cX3_go 47 = .ok (.aload_n 0, 1) := by decide +kernel
theorem dX3_go_48 : decode cX3_go 48 = .ok (.getfield 12, 3) := by decide +kernel
theorem dX3_go_51 : decode cX3_go 51 = .ok (.invokevirtual 121, 3) := by decide +kernel
theorem dX3_go_54 : decode cX3_go 54 = .ok (.ireturn, 1) := by decide +kernel
theorem dX3_now_0 : decode cX3_now 0 = .ok (.iload_n 1, 1) := by decide +kernel
theorem dX3_now_1 : decode cX3_now 1 = .ok (.tableswitch 99 0 6 #[43, 51, 59, 67, 75, 83, 91], 43) := by decide +kernel
theorem dX3_now_44 : decode cX3_now 44 = .ok (.aload_n 0, 1) := by decide +kernel
theorem dX3_now_45 : decode cX3_now 45 = .ok (.getfield 12, 3) := by decide +kernel
theorem dX3_now_48 : decode cX3_now 48 = .ok (.getfield 112, 3) := by decide +kernel
theorem dX3_now_51 : decode cX3_now 51 = .ok (.ireturn, 1) := by decide +kernel
theorem dX3_now_52 : decode cX3_now 52 = .ok (.aload_n 0, 1) := by decide +kernel
theorem dX3_now_53 : decode cX3_now 53 = .ok (.getfield 12, 3) := by decide +kernel
theorem dX3_now_56 : decode cX3_now 56 = .ok (.invokevirtual 121, 3) := by decide +kernel
theorem dX3_now_59 : decode cX3_now 59 = .ok (.ireturn, 1) := by decide +kernel
theorem dX3_now_60 : decode cX3_now 60 = .ok (.aload_n 0, 1) := by decide +kernel
theorem dX3_now_61 : decode cX3_now 61 = .ok (.getfield 12, 3) := by decide +kernel
theorem dX3_now_64 : decode cX3_now 64 = .ok (.getfield 124, 3) := by decide +kernel
theorem dX3_now_67 : decode cX3_now 67 = .ok (.ireturn, 1) := by decide +kernel
theorem dX3_now_68 : decode cX3_now 68 = .ok (.aload_n 0, 1) := by decide +kernel
theorem dX3_now_69 : decode cX3_now 69 = .ok (.getfield 12, 3) := by decide +kernel
theorem dX3_now_72 : decode cX3_now 72 = .ok (.invokevirtual 127, 3) := by decide +kernel
theorem dX3_now_75 : decode cX3_now 75 = .ok (.ireturn, 1) := by decide +kernel
theorem dX3_now_76 : decode cX3_now 76 = .ok (.aload_n 0, 1) := by decide +kernel
theorem dX3_now_77 : decode cX3_now 77 = .ok (.getfield 12, 3) := by decide +kernel
theorem dX3_now_80 : decode cX3_now 80 = .ok (.invokevirtual 130, 3) := by decide +kernel
theorem dX3_now_83 : decode cX3_now 83 = .ok (.ireturn, 1) := by decide +kernel
theorem dX3_now_84 : decode cX3_now 84 = .ok (.aload_n 0, 1) := by decide +kernel
theorem dX3_now_85 : decode cX3_now 85 = .ok (.getfield 12, 3) := by decide +kernel
theorem dX3_now_88 : decode cX3_now 88 = .ok (.invokevirtual 133, 3) := by decide +kernel
theorem dX3_now_91 : decode cX3_now 91 = .ok (.ireturn, 1) := by decide +kernel
theorem dX3_now_92 : decode cX3_now 92 = .ok (.aload_n 0, 1) := by decide +kernel
theorem dX3_now_93 : decode cX3_now 93 = .ok (.getfield 12, 3) := by decide +kernel
theorem dX3_now_96 : decode cX3_now 96 = .ok (.invokevirtual 136, 3) := by decide +kernel
theorem dX3_now_99 : decode cX3_now 99 = .ok (.ireturn, 1) := by decide +kernel
theorem dX3_now_100 : decode cX3_now 100 = .ok (.aload_n 0, 1) := by decide +kernel
theorem dX3_now_101 : decode cX3_now 101 = .ok (.ldc 48, 2) := by decide +kernel
theorem dX3_now_103 : decode cX3_now 103 = .ok (.invokevirtual 49, 3) := by decide +kernel
theorem dX3_now_106 : decode cX3_now 106 = .ok (.ireturn, 1) := by decide +kernel
theorem dX3_line_0 : decode cX3_line 0 = .ok (.aload_n 0, 1) := by decide +kernel
theorem dX3_line_1 : decode cX3_line 1 = .ok (.getfield 12, 3) := by decide +kernel
theorem dX3_line_4 : decode cX3_line 4 = .ok (.iload_n 1, 1) := by decide +kernel
theorem dX3_line_5 : decode cX3_line 5 = .ok (.invokevirtual 91, 3) := by decide +kernel
theorem dX3_line_8 : decode cX3_line 8 = .ok (.ifCond .ne 10, 3) := by decide +kernel
theorem dX3_line_11 : decode cX3_line 11 = .ok (.aload_n 0, 1) := by decide +kernel
theorem dX3_line_12 : decode cX3_line 12 = .ok (.ldc 48, 2) := by decide +kernel
theorem dX3_line_14 : decode cX3_line 14 = .ok (.invokevirtual 49, 3) := by decide +kernel
theorem dX3_line_17 : decode cX3_line 17 = .ok (.ireturn, 1) := by decide +kernel
theorem dX3_line_18 : decode cX3_line 18 = .ok (.aload_n 0, 1) := by decide +kernel
theorem dX3_line_19 : decode cX3_line 19 = .ok (.getfield 12, 3) := by decide +kernel
theorem dX3_line_22 : decode cX3_line 22 = .ok (.iload_n 1, 1) := by decide +kernel
theorem dX3_line_23 : decode cX3_line 23 = .ok (.invokevirtual 139, 3) := by decide +kernel
theorem dX3_line_26 : decode cX3_line 26 = .ok (.ireturn, 1) := by decide +kernel
theorem dX3_ahead_0 : decode cX3_ahead 0 = .ok (.iload_n 1, 1) := by decide +kernel
theorem dX3_ahead_1 : decode cX3_ahead 1 = .ok (.invokestatic 40, 3) := by decide +kernel
theorem dX3_ahead_4 : decode cX3_ahead 4 = .ok (.ifCond .eq 22, 3) := by decide +kernel
theorem dX3_ahead_7 : decode cX3_ahead 7 = .ok (.iload_n 2, 1) := by decide +kernel
theorem dX3_ahead_8 : decode cX3_ahead 8 = .ok (.iconst 0, 1) := by decide +kernel
theorem dX3_ahead_9 : decode cX3_ahead 9 = .ok (.iconst 2, 1) := by decide +kernel
theorem dX3_ahead_10 : decode cX3_ahead 10 = .ok (.invokestatic 44, 3) := by decide +kernel
theorem dX3_ahead_13 : decode cX3_ahead 13 = .ok (.ifCond .eq 13, 3) := by decide +kernel
theorem dX3_ahead_16 : decode cX3_ahead 16 = .ok (.iload_n 3, 1) := by decide +kernel
theorem dX3_ahead_17 : decode cX3_ahead 17 = .ok (.iconst 0, 1) := by decide +kernel
theorem dX3_ahead_18 : decode cX3_ahead 18 = .ok (.bipush 100, 2) := by decide +kernel
theorem dX3_ahead_20 : decode cX3_ahead 20 = .ok (.invokestatic 44, 3) := by decide +kernel
theorem dX3_ahead_23 : decode cX3_ahead 23 = .ok (.ifCond .ne 10, 3) := by decide +kernel
theorem dX3_ahead_26 : decode cX3_ahead 26 = .ok (.aload_n 0, 1) := by decide +kernel
theorem dX3_ahead_27 : decode cX3_ahead 27 = .ok (.ldc 48, 2) := by decide +kernel
theorem dX3_ahead_29 : decode cX3_ahead 29 = .ok (.invokevirtual 49, 3) := by decide +kernel
theorem dX3_ahead_32 : decode cX3_ahead 32 = .ok (.ireturn, 1) := by decide +kernel
theorem dX3_ahead_33 : decode cX3_ahead 33 = .ok (.aload_n 0, 1) := by decide +kernel
theorem dX3_ahead_34 : decode cX3_ahead 34 = .ok (.getfield 16, 3) := by decide +kernel
theorem dX3_ahead_37 : decode cX3_ahead 37 = .ok (.aload_n 0, 1) := by decide +kernel
theorem dX3_ahead_38 : decode cX3_ahead 38 = .ok (.getfield 12, 3) := by decide +kernel
theorem dX3_ahead_41 : decode cX3_ahead 41 = .ok (.invokevirtual 142, 3) := by decide +kernel
theorem dX3_ahead_44 : decode cX3_ahead 44 = .ok (.aload_n 0, 1) := by decide +kernel
theorem dX3_ahead_45 : decode cX3_ahead 45 = .ok (.getfield 16, 3) := by decide +kernel
theorem dX3_ahead_48 : decode cX3_ahead 48 = .ok (.iload_n 3, 1) := by decide +kernel
theorem dX3_ahead_49 : decode cX3_ahead 49 = .ok (.iconst 0, 1) := by decide +kernel
theorem dX3_ahead_50 : decode cX3_ahead 50 = .ok (.invokevirtual 117, 3) := by decide +kernel
theorem dX3_ahead_53 : decode cX3_ahead 53 = .ok (.aload_n 0, 1) := by decide +kernel
theorem dX3_ahead_54 : decode cX3_ahead 54 = .ok (.getfield 16, 3) := by decide +kernel
theorem dX3_ahead_57 : decode cX3_ahead 57 = .ok (.getfield 53, 3) := by decide +kernel
theorem dX3_ahead_60 : decode cX3_ahead 60 = .ok (.iload_n 2, 1) := by decide +kernel
theorem dX3_ahead_61 : decode cX3_ahead 61 = .ok (.aaload, 1) := by decide +kernel
theorem dX3_ahead_62 : decode cX3_ahead 62 = .ok (.iload_n 1, 1) := by decide +kernel
theorem dX3_ahead_63 : decode cX3_ahead 63 = .ok (.iaload, 1) := by decide +kernel
theorem dX3_ahead_64 : decode cX3_ahead 64 = .ok (.ireturn, 1) := by decide +kernel
theorem dX3_work_0 : decode cX3_work 0 = .ok (.aload_n 0, 1) := by decide +kernel
theorem dX3_work_1 : decode cX3_work 1 = .ok (.getfield 12, 3) := by decide +kernel
theorem dX3_work_4 : decode cX3_work 4 = .ok (.iload_n 1, 1) := by decide +kernel
theorem dX3_work_5 : decode cX3_work 5 = .ok (.invokevirtual 91, 3) := by decide +kernel
theorem dX3_work_8 : decode cX3_work 8 = .ok (.ifCond .eq 13, 3) := by decide +kernel
theorem dX3_work_11 : decode cX3_work 11 = .ok (.iload_n 2, 1) := by decide +kernel
theorem dX3_work_12 : decode cX3_work 12 = .ok (.iconst 0, 1) := by decide +kernel
theorem dX3_work_13 : decode cX3_work 13 = .ok (.bipush 100, 2) := by decide +kernel
theorem dX3_work_15 : decode cX3_work 15 = .ok (.invokestatic 44, 3) := by decide +kernel
theorem dX3_work_18 : decode cX3_work 18 = .ok (.ifCond .ne 10, 3) := by decide +kernel
theorem dX3_work_21 : decode cX3_work 21 = .ok (.aload_n 0, 1) := by decide +kernel
theorem dX3_work_22 : decode cX3_work 22 = .ok (.ldc 48, 2) := by decide +kernel
theorem dX3_work_24 : decode cX3_work 24 = .ok (.invokevirtual 49, 3) := by decide +kernel
theorem dX3_work_27 : decode cX3_work 27 = .ok (.ireturn, 1) := by decide +kernel
theorem dX3_work_28 : decode cX3_work 28 = .ok (.aload_n 0, 1) := by decide +kernel
theorem dX3_work_29 : decode cX3_work 29 = .ok (.getfield 16, 3) := by decide +kernel
theorem dX3_work_32 : decode cX3_work 32 = .ok (.aload_n 0, 1) := by decide +kernel
theorem dX3_work_33 : decode cX3_work 33 = .ok (.getfield 12, 3) := by decide +kernel
theorem dX3_work_36 : decode cX3_work 36 = .ok (.invokevirtual 142, 3) := by decide +kernel
theorem dX3_work_39 : decode cX3_work 39 = .ok (.aload_n 0, 1) := by decide +kernel
theorem dX3_work_40 : decode cX3_work 40 = .ok (.getfield 16, 3) := by decide +kernel
theorem dX3_work_43 : decode cX3_work 43 = .ok (.iload_n 2, 1) := by decide +kernel
theorem dX3_work_44 : decode cX3_work 44 = .ok (.iconst 0, 1) := by decide +kernel
theorem dX3_work_45 : decode cX3_work 45 = .ok (.invokevirtual 117, 3) := by decide +kernel
theorem dX3_work_48 : decode cX3_work 48 = .ok (.aload_n 0, 1) := by decide +kernel
theorem dX3_work_49 : decode cX3_work 49 = .ok (.getfield 16, 3) := by decide +kernel
theorem dX3_work_52 : decode cX3_work 52 = .ok (.iload_n 1, 1) := by decide +kernel
theorem dX3_work_53 : decode cX3_work 53 = .ok (.invokevirtual 146, 3) := by decide +kernel
theorem dX3_work_56 : decode cX3_work 56 = .ok (.ireturn, 1) := by decide +kernel
theorem dX3_when_0 : decode cX3_when 0 = .ok (.aload_n 0, 1) := by decide +kernel
theorem dX3_when_1 : decode cX3_when 1 = .ok (.getfield 12, 3) := by decide +kernel
theorem dX3_when_4 : decode cX3_when 4 = .ok (.iload_n 1, 1) := by decide +kernel
theorem dX3_when_5 : decode cX3_when 5 = .ok (.invokevirtual 91, 3) := by decide +kernel
theorem dX3_when_8 : decode cX3_when 8 = .ok (.ifCond .eq 10, 3) := by decide +kernel
theorem dX3_when_11 : decode cX3_when 11 = .ok (.iload_n 2, 1) := by decide +kernel
theorem dX3_when_12 : decode cX3_when 12 = .ok (.invokestatic 40, 3) := by decide +kernel
theorem dX3_when_15 : decode cX3_when 15 = .ok (.ifCond .ne 10, 3) := by decide +kernel
theorem dX3_when_18 : decode cX3_when 18 = .ok (.aload_n 0, 1) := by decide +kernel
theorem dX3_when_19 : decode cX3_when 19 = .ok (.ldc 48, 2) := by decide +kernel
theorem dX3_when_21 : decode cX3_when 21 = .ok (.invokevirtual 49, 3) := by decide +kernel
theorem dX3_when_24 : decode cX3_when 24 = .ok (.ireturn, 1) := by decide +kernel
theorem dX3_when_25 : decode cX3_when 25 = .ok (.aload_n 0, 1) := by decide +kernel
theorem dX3_when_26 : decode cX3_when 26 = .ok (.iload_n 2, 1) := by decide +kernel
theorem dX3_when_27 : decode cX3_when 27 = .ok (.iload_n 1, 1) := by decide +kernel
theorem dX3_when_28 : decode cX3_when 28 = .ok (.invokevirtual 149, 3) := by decide +kernel
theorem dX3_when_31 : decode cX3_when 31 = .ok (.ireturn, 1) := by decide +kernel
theorem dX3_gone_0 : decode cX3_gone 0 = .ok (.iload_n 1, 1) := by decide +kernel
theorem dX3_gone_1 : decode cX3_gone 1 = .ok (.invokestatic 40, 3) := by decide +kernel
theorem dX3_gone_4 : decode cX3_gone 4 = .ok (.ifCond .ne 10, 3) := by decide +kernel
theorem dX3_gone_7 : decode cX3_gone 7 = .ok (.aload_n 0, 1) := by decide +kernel
theorem dX3_gone_8 : decode cX3_gone 8 = .ok (.ldc 48, 2) := by decide +kernel
theorem dX3_gone_10 : decode cX3_gone 10 = .ok (.invokevirtual 49, 3) := by decide +kernel
theorem dX3_gone_13 : decode cX3_gone 13 = .ok (.ireturn, 1) := by decide +kernel
theorem dX3_gone_14 : decode cX3_gone 14 = .ok (.aload_n 0, 1) := by decide +kernel
theorem dX3_gone_15 : decode cX3_gone 15 = .ok (.iload_n 1, 1) := by decide +kernel
theorem dX3_gone_16 : decode cX3_gone 16 = .ok (.iconst (-1), 1) := by decide +kernel
theorem dX3_gone_17 : decode cX3_gone 17 = .ok (.invokevirtual 149, 3) := by decide +kernel
theorem dX3_gone_20 : decode cX3_gone 20 = .ok (.ireturn, 1) := by decide +kernel
theorem dX3_meet_0 : decode cX3_meet 0 = .ok (.aload_n 0, 1) := by decide +kernel
theorem dX3_meet_1 : decode cX3_meet 1 = .ok (.getfield 12, 3) := by decide +kernel
theorem dX3_meet_4 : decode cX3_meet 4 = .ok (.iload_n 1, 1) := by decide +kernel
theorem dX3_meet_5 : decode cX3_meet 5 = .ok (.invokevirtual 91, 3) := by decide +kernel
theorem dX3_meet_8 : decode cX3_meet 8 = .ok (.ifCond .eq 19, 3) := by decide +kernel
theorem dX3_meet_11 : decode cX3_meet 11 = .ok (.aload_n 0, 1) := by decide +kernel
theorem dX3_meet_12 : decode cX3_meet 12 = .ok (.getfield 12, 3) := by decide +kernel
theorem dX3_meet_15 : decode cX3_meet 15 = .ok (.iload_n 2, 1) := by decide +kernel
theorem dX3_meet_16 : decode cX3_meet 16 = .ok (.invokevirtual 91, 3) := by decide +kernel
theorem dX3_meet_19 : decode cX3_meet 19 = .ok (.ifCond .eq 8, 3) := by decide +kernel
theorem dX3_meet_22 : decode cX3_meet 22 = .ok (.iload_n 1, 1) := by decide +kernel
theorem dX3_meet_23 : decode cX3_meet 23 = .ok (.iload_n 2, 1) := by decide +kernel
theorem dX3_meet_24 : decode cX3_meet 24 = .ok (.if_icmp .ne 10, 3) := by decide +kernel
theorem dX3_meet_27 : decode cX3_meet 27 = .ok (.aload_n 0, 1) := by decide +kernel
theorem dX3_meet_28 : decode cX3_meet 28 = .ok (.ldc 48, 2) := by decide +kernel
theorem dX3_meet_30 : decode cX3_meet 30 = .ok (.invokevirtual 49, 3) := by decide +kernel
theorem dX3_meet_33 : decode cX3_meet 33 = .ok (.ireturn, 1) := by decide +kernel
theorem dX3_meet_34 : decode cX3_meet 34 = .ok (.aload_n 0, 1) := by decide +kernel
theorem dX3_meet_35 : decode cX3_meet 35 = .ok (.getfield 16, 3) := by decide +kernel
theorem dX3_meet_38 : decode cX3_meet 38 = .ok (.aload_n 0, 1) := by decide +kernel
theorem dX3_meet_39 : decode cX3_meet 39 = .ok (.getfield 12, 3) := by decide +kernel
theorem dX3_meet_42 : decode cX3_meet 42 = .ok (.invokevirtual 142, 3) := by decide +kernel
theorem dX3_meet_45 : decode cX3_meet 45 = .ok (.iconst 0, 1) := by decide +kernel
theorem dX3_meet_46 : decode cX3_meet 46 = .ok (.istore_n 3, 1) := by decide +kernel
theorem dX3_meet_47 : decode cX3_meet 47 = .ok (.iload_n 3, 1) := by decide +kernel
theorem dX3_meet_48 : decode cX3_meet 48 = .ok (.sipush 200, 3) := by decide +kernel
theorem dX3_meet_51 : decode cX3_meet 51 = .ok (.if_icmp .gt 44, 3) := by decide +kernel
theorem dX3_meet_54 : decode cX3_meet 54 = .ok (.aload_n 0, 1) := by decide +kernel
theorem dX3_meet_55 : decode cX3_meet 55 = .ok (.getfield 16, 3) := by decide +kernel
theorem dX3_meet_58 : decode cX3_meet 58 = .ok (.getfield 67, 3) := by decide +kernel
theorem dX3_meet_61 : decode cX3_meet 61 = .ok (.iconst 1, 1) := by decide +kernel
theorem dX3_meet_62 : decode cX3_meet 62 = .ok (.aaload, 1) := by decide +kernel
theorem dX3_meet_63 : decode cX3_meet 63 = .ok (.iload_n 1, 1) := by decide +kernel
theorem dX3_meet_64 : decode cX3_meet 64 = .ok (.iaload, 1) := by decide +kernel
theorem dX3_meet_65 : decode cX3_meet 65 = .ok (.aload_n 0, 1) := by decide +kernel
theorem dX3_meet_66 : decode cX3_meet 66 = .ok (.getfield 16, 3) := by decide +kernel
theorem dX3_meet_69 : decode cX3_meet 69 = .ok (.getfield 67, 3) := by decide +kernel
theorem dX3_meet_72 : decode cX3_meet 72 = .ok (.iconst 1, 1) := by decide +kernel
theorem dX3_meet_73 : decode cX3_meet 73 = .ok (.aaload, 1) := by decide +kernel
theorem dX3_meet_74 : decode cX3_meet 74 = .ok (.iload_n 2, 1) := by decide +kernel
theorem dX3_meet_75 : decode cX3_meet 75 = .ok (.iaload, 1) := by decide +kernel
theorem dX3_meet_76 : decode cX3_meet 76 = .ok (.if_icmp .ne 5, 3) := by decide +kernel
theorem dX3_meet_79 : decode cX3_meet 79 = .ok (.iload_n 3, 1) := by decide +kernel
theorem dX3_meet_80 : decode cX3_meet 80 = .ok (.ireturn, 1) := by decide +kernel
theorem dX3_meet_81 : decode cX3_meet 81 = .ok (.aload_n 0, 1) := by decide +kernel
theorem dX3_meet_82 : decode cX3_meet 82 = .ok (.getfield 16, 3) := by decide +kernel
theorem dX3_meet_85 : decode cX3_meet 85 = .ok (.iconst 0, 1) := by decide +kernel
theorem dX3_meet_86 : decode cX3_meet 86 = .ok (.invokevirtual 152, 3) := by decide +kernel
theorem dX3_meet_89 : decode cX3_meet 89 = .ok (.iinc 3 1, 3) := by decide +kernel
theorem dX3_meet_92 : decode cX3_meet 92 = .ok (.goto (-45), 3) := by decide +kernel
theorem dX3_meet_95 : decode cX3_meet 95 = .ok (.aload_n 0, 1) := by decide +kernel
theorem dX3_meet_96 : decode cX3_meet 96 = .ok (.ldc 155, 2) := by decide +kernel
theorem dX3_meet_98 : decode cX3_meet 98 = .ok (.invokevirtual 49, 3) := by decide +kernel
theorem dX3_meet_101 : decode cX3_meet 101 = .ok (.ireturn, 1) := by decide +kernel
theorem dX3_strideFor_0 : decode cX3_strideFor 0 = .ok (.aload_n 0, 1) := by decide +kernel
theorem dX3_strideFor_1 : decode cX3_strideFor 1 = .ok (.iload_n 1, 1) := by decide +kernel
theorem dX3_strideFor_2 : decode cX3_strideFor 2 = .ok (.iconst 3, 1) := by decide +kernel
theorem dX3_strideFor_3 : decode cX3_strideFor 3 = .ok (.iload_n 2, 1) := by decide +kernel
theorem dX3_strideFor_4 : decode cX3_strideFor 4 = .ok (.invokevirtual 156, 3) := by decide +kernel
theorem dX3_strideFor_7 : decode cX3_strideFor 7 = .ok (.ireturn, 1) := by decide +kernel
theorem dX3_start_0 : decode cX3_start 0 = .ok (.aload_n 0, 1) := by decide +kernel
theorem dX3_start_1 : decode cX3_start 1 = .ok (.iload_n 1, 1) := by decide +kernel
theorem dX3_start_2 : decode cX3_start 2 = .ok (.iconst 1, 1) := by decide +kernel
theorem dX3_start_3 : decode cX3_start 3 = .ok (.iload_n 2, 1) := by decide +kernel
theorem dX3_start_4 : decode cX3_start 4 = .ok (.invokevirtual 156, 3) := by decide +kernel
theorem dX3_start_7 : decode cX3_start 7 = .ok (.ireturn, 1) := by decide +kernel
theorem dX3_kindFor_0 : decode cX3_kindFor 0 = .ok (.aload_n 0, 1) := by decide +kernel
theorem dX3_kindFor_1 : decode cX3_kindFor 1 = .ok (.iload_n 1, 1) := by decide +kernel
theorem dX3_kindFor_2 : decode cX3_kindFor 2 = .ok (.iconst 0, 1) := by decide +kernel
theorem dX3_kindFor_3 : decode cX3_kindFor 3 = .ok (.iload_n 2, 1) := by decide +kernel
theorem dX3_kindFor_4 : decode cX3_kindFor 4 = .ok (.invokevirtual 156, 3) := by decide +kernel
theorem dX3_kindFor_7 : decode cX3_kindFor 7 = .ok (.ireturn, 1) := by decide +kernel
theorem dX3_reachFor_0 : decode cX3_reachFor 0 = .ok (.iload_n 1, 1) := by decide +kernel
theorem dX3_reachFor_1 : decode cX3_reachFor 1 = .ok (.invokestatic 40, 3) := by decide +kernel
theorem dX3_reachFor_4 : decode cX3_reachFor 4 = .ok (.ifCond .eq 13, 3) := by decide +kernel
theorem dX3_reachFor_7 : decode cX3_reachFor 7 = .ok (.iload_n 2, 1) := by decide +kernel
theorem dX3_reachFor_8 : decode cX3_reachFor 8 = .ok (.iconst 0, 1) := by decide +kernel
theorem dX3_reachFor_9 : decode cX3_reachFor 9 = .ok (.bipush 40, 2) := by decide +kernel
theorem dX3_reachFor_11 : decode cX3_reachFor 11 = .ok (.invokestatic 44, 3) := by decide +kernel
theorem dX3_reachFor_14 : decode cX3_reachFor 14 = .ok (.ifCond .ne 10, 3) := by decide +kernel
theorem dX3_reachFor_17 : decode cX3_reachFor 17 = .ok (.aload_n 0, 1) := by decide +kernel
theorem dX3_reachFor_18 : decode cX3_reachFor 18 = .ok (.ldc 48, 2) := by decide +kernel
theorem dX3_reachFor_20 : decode cX3_reachFor 20 = .ok (.invokevirtual 49, 3) := by decide +kernel
theorem dX3_reachFor_23 : decode cX3_reachFor 23 = .ok (.ireturn, 1) := by decide +kernel
theorem dX3_reachFor_24 : decode cX3_reachFor 24 = .ok (.bipush 24, 2) := by decide +kernel
theorem dX3_reachFor_26 : decode cX3_reachFor 26 = .ok (.istore_n 3, 1) := by decide +kernel
theorem dX3_reachFor_27 : decode cX3_reachFor 27 = .ok (.iload_n 3, 1) := by decide +kernel
theorem dX3_reachFor_28 : decode cX3_reachFor 28 = .ok (.ifCond .lt 54, 3) := by decide +kernel
theorem dX3_reachFor_31 : decode cX3_reachFor 31 = .ok (.aload_n 0, 1) := by decide +kernel
theorem dX3_reachFor_32 : decode cX3_reachFor 32 = .ok (.getfield 16, 3) := by decide +kernel
theorem dX3_reachFor_35 : decode cX3_reachFor 35 = .ok (.aload_n 0, 1) := by decide +kernel
theorem dX3_reachFor_36 : decode cX3_reachFor 36 = .ok (.getfield 12, 3) := by decide +kernel
theorem dX3_reachFor_39 : decode cX3_reachFor 39 = .ok (.invokevirtual 142, 3) := by decide +kernel
theorem dX3_reachFor_42 : decode cX3_reachFor 42 = .ok (.aload_n 0, 1) := by decide +kernel
theorem dX3_reachFor_43 : decode cX3_reachFor 43 = .ok (.getfield 16, 3) := by decide +kernel
theorem dX3_reachFor_46 : decode cX3_reachFor 46 = .ok (.iload_n 3, 1) := by decide +kernel
theorem dX3_reachFor_47 : decode cX3_reachFor 47 = .ok (.putfield 74, 3) := by decide +kernel
theorem dX3_reachFor_50 : decode cX3_reachFor 50 = .ok (.aload_n 0, 1) := by decide +kernel
theorem dX3_reachFor_51 : decode cX3_reachFor 51 = .ok (.getfield 16, 3) := by decide +kernel
theorem dX3_reachFor_54 : decode cX3_reachFor 54 = .ok (.iload_n 2, 1) := by decide +kernel
theorem dX3_reachFor_55 : decode cX3_reachFor 55 = .ok (.iconst 0, 1) := by decide +kernel
theorem dX3_reachFor_56 : decode cX3_reachFor 56 = .ok (.invokevirtual 117, 3) := by decide +kernel
theorem dX3_reachFor_59 : decode cX3_reachFor 59 = .ok (.aload_n 0, 1) := by decide +kernel
theorem dX3_reachFor_60 : decode cX3_reachFor 60 = .ok (.getfield 16, 3) := by decide +kernel
theorem dX3_reachFor_63 : decode cX3_reachFor 63 = .ok (.getfield 53, 3) := by decide +kernel
theorem dX3_reachFor_66 : decode cX3_reachFor 66 = .ok (.iconst 0, 1) := by decide +kernel
theorem dX3_reachFor_67 : decode cX3_reachFor 67 = .ok (.aaload, 1) := by decide +kernel
theorem dX3_reachFor_68 : decode cX3_reachFor 68 = .ok (.iload_n 1, 1) := by decide +kernel
theorem dX3_reachFor_69 : decode cX3_reachFor 69 = .ok (.iaload, 1) := by decide +kernel
theorem dX3_reachFor_70 : decode cX3_reachFor 70 = .ok (.iconst (-1), 1) := by decide +kernel
theorem dX3_reachFor_71 : decode cX3_reachFor 71 = .ok (.if_icmp .eq 5, 3) := by decide +kernel
theorem dX3_reachFor_74 : decode cX3_reachFor 74 = .ok (.iload_n 3, 1) := by decide +kernel
theorem dX3_reachFor_75 : decode cX3_reachFor 75 = .ok (.ireturn, 1) := by decide +kernel
theorem dX3_reachFor_76 : decode cX3_reachFor 76 = .ok (.iinc 3 (-1), 3) := by decide +kernel
theorem dX3_reachFor_79 : decode cX3_reachFor 79 = .ok (.goto (-52), 3) := by decide +kernel
theorem dX3_reachFor_82 : decode cX3_reachFor 82 = .ok (.aload_n 0, 1) := by decide +kernel
theorem dX3_reachFor_83 : decode cX3_reachFor 83 = .ok (.ldc 155, 2) := by decide +kernel
theorem dX3_reachFor_85 : decode cX3_reachFor 85 = .ok (.invokevirtual 49, 3) := by decide +kernel
theorem dX3_reachFor_88 : decode cX3_reachFor 88 = .ok (.ireturn, 1) := by decide +kernel
theorem dX3_weightFor_0 : decode cX3_weightFor 0 = .ok (.aload_n 0, 1) := by decide +kernel
theorem dX3_weightFor_1 : decode cX3_weightFor 1 = .ok (.getfield 12, 3) := by decide +kernel
theorem dX3_weightFor_4 : decode cX3_weightFor 4 = .ok (.iload_n 1, 1) := by decide +kernel
theorem dX3_weightFor_5 : decode cX3_weightFor 5 = .ok (.invokevirtual 91, 3) := by decide +kernel
theorem dX3_weightFor_8 : decode cX3_weightFor 8 = .ok (.ifCond .eq 20, 3) := by decide +kernel
theorem dX3_weightFor_11 : decode cX3_weightFor 11 = .ok (.iload_n 2, 1) := by decide +kernel
theorem dX3_weightFor_12 : decode cX3_weightFor 12 = .ok (.invokestatic 40, 3) := by decide +kernel
theorem dX3_weightFor_15 : decode cX3_weightFor 15 = .ok (.ifCond .eq 13, 3) := by decide +kernel
theorem dX3_weightFor_18 : decode cX3_weightFor 18 = .ok (.iload_n 3, 1) := by decide +kernel
theorem dX3_weightFor_19 : decode cX3_weightFor 19 = .ok (.iconst 0, 1) := by decide +kernel
theorem dX3_weightFor_20 : decode cX3_weightFor 20 = .ok (.bipush 40, 2) := by decide +kernel
theorem dX3_weightFor_22 : decode cX3_weightFor 22 = .ok (.invokestatic 44, 3) := by decide +kernel
theorem dX3_weightFor_25 : decode cX3_weightFor 25 = .ok (.ifCond .ne 10, 3) := by decide +kernel
theorem dX3_weightFor_28 : decode cX3_weightFor 28 = .ok (.aload_n 0, 1) := by decide +kernel
theorem dX3_weightFor_29 : decode cX3_weightFor 29 = .ok (.ldc 48, 2) := by decide +kernel
theorem dX3_weightFor_31 : decode cX3_weightFor 31 = .ok (.invokevirtual 49, 3) := by decide +kernel
theorem dX3_weightFor_34 : decode cX3_weightFor 34 = .ok (.ireturn, 1) := by decide +kernel
theorem dX3_weightFor_35 : decode cX3_weightFor 35 = .ok (.getstatic 106, 3) := by decide +kernel
theorem dX3_weightFor_38 : decode cX3_weightFor 38 = .ok (.iconst 4, 1) := by decide +kernel
theorem dX3_weightFor_39 : decode cX3_weightFor 39 = .ok (.iaload, 1) := by decide +kernel
theorem dX3_weightFor_40 : decode cX3_weightFor 40 = .ok (.istore 4, 2) := by decide +kernel
theorem dX3_weightFor_42 : decode cX3_weightFor 42 = .ok (.iload 4, 2) := by decide +kernel
theorem dX3_weightFor_44 : decode cX3_weightFor 44 = .ok (.getstatic 109, 3) := by decide +kernel
theorem dX3_weightFor_47 : decode cX3_weightFor 47 = .ok (.iconst 4, 1) := by decide +kernel
theorem dX3_weightFor_48 : decode cX3_weightFor 48 = .ok (.iaload, 1) := by decide +kernel
theorem dX3_weightFor_49 : decode cX3_weightFor 49 = .ok (.if_icmp .gt 36, 3) := by decide +kernel
theorem dX3_weightFor_52 : decode cX3_weightFor 52 = .ok (.aload_n 0, 1) := by decide +kernel
theorem dX3_weightFor_53 : decode cX3_weightFor 53 = .ok (.iload_n 1, 1) := by decide +kernel
theorem dX3_weightFor_54 : decode cX3_weightFor 54 = .ok (.iconst 4, 1) := by decide +kernel
theorem dX3_weightFor_55 : decode cX3_weightFor 55 = .ok (.iload 4, 2) := by decide +kernel
theorem dX3_weightFor_57 : decode cX3_weightFor 57 = .ok (.iload_n 3, 1) := by decide +kernel
theorem dX3_weightFor_58 : decode cX3_weightFor 58 = .ok (.invokevirtual 160, 3) := by decide +kernel
theorem dX3_weightFor_61 : decode cX3_weightFor 61 = .ok (.aload_n 0, 1) := by decide +kernel
theorem dX3_weightFor_62 : decode cX3_weightFor 62 = .ok (.getfield 16, 3) := by decide +kernel
theorem dX3_weightFor_65 : decode cX3_weightFor 65 = .ok (.getfield 53, 3) := by decide +kernel
theorem dX3_weightFor_68 : decode cX3_weightFor 68 = .ok (.iconst 0, 1) := by decide +kernel
theorem dX3_weightFor_69 : decode cX3_weightFor 69 = .ok (.aaload, 1) := by decide +kernel
theorem dX3_weightFor_70 : decode cX3_weightFor 70 = .ok (.iload_n 2, 1) := by decide +kernel
theorem dX3_weightFor_71 : decode cX3_weightFor 71 = .ok (.iaload, 1) := by decide +kernel
theorem dX3_weightFor_72 : decode cX3_weightFor 72 = .ok (.iload_n 1, 1) := by decide +kernel
theorem dX3_weightFor_73 : decode cX3_weightFor 73 = .ok (.if_icmp .ne 6, 3) := by decide +kernel
theorem dX3_weightFor_76 : decode cX3_weightFor 76 = .ok (.iload 4, 2) := by decide +kernel
theorem dX3_weightFor_78 : decode cX3_weightFor 78 = .ok (.ireturn, 1) := by decide +kernel
theorem dX3_weightFor_79 : decode cX3_weightFor 79 = .ok (.iinc 4 1, 3) := by decide +kernel
theorem dX3_weightFor_82 : decode cX3_weightFor 82 = .ok (.goto (-40), 3) := by decide +kernel
theorem dX3_weightFor_85 : decode cX3_weightFor 85 = .ok (.aload_n 0, 1) := by decide +kernel
theorem dX3_weightFor_86 : decode cX3_weightFor 86 = .ok (.ldc 155, 2) := by decide +kernel
theorem dX3_weightFor_88 : decode cX3_weightFor 88 = .ok (.invokevirtual 49, 3) := by decide +kernel
theorem dX3_weightFor_91 : decode cX3_weightFor 91 = .ok (.ireturn, 1) := by decide +kernel
theorem dX3_away_0 : decode cX3_away 0 = .ok (.iload_n 1, 1) := by decide +kernel
theorem dX3_away_1 : decode cX3_away 1 = .ok (.invokestatic 40, 3) := by decide +kernel
theorem dX3_away_4 : decode cX3_away 4 = .ok (.ifCond .eq 13, 3) := by decide +kernel
theorem dX3_away_7 : decode cX3_away 7 = .ok (.iload_n 2, 1) := by decide +kernel
theorem dX3_away_8 : decode cX3_away 8 = .ok (.iconst 0, 1) := by decide +kernel
theorem dX3_away_9 : decode cX3_away 9 = .ok (.bipush 20, 2) := by decide +kernel
theorem dX3_away_11 : decode cX3_away 11 = .ok (.invokestatic 44, 3) := by decide +kernel
theorem dX3_away_14 : decode cX3_away 14 = .ok (.ifCond .ne 10, 3) := by decide +kernel
theorem dX3_away_17 : decode cX3_away 17 = .ok (.aload_n 0, 1) := by decide +kernel
theorem dX3_away_18 : decode cX3_away 18 = .ok (.ldc 48, 2) := by decide +kernel
theorem dX3_away_20 : decode cX3_away 20 = .ok (.invokevirtual 49, 3) := by decide +kernel
theorem dX3_away_23 : decode cX3_away 23 = .ok (.ireturn, 1) := by decide +kernel
theorem dX3_away_24 : decode cX3_away 24 = .ok (.iconst 1, 1) := by decide +kernel
theorem dX3_away_25 : decode cX3_away 25 = .ok (.aload_n 0, 1) := by decide +kernel
theorem dX3_away_26 : decode cX3_away 26 = .ok (.getfield 12, 3) := by decide +kernel
theorem dX3_away_29 : decode cX3_away 29 = .ok (.getfield 163, 3) := by decide +kernel
theorem dX3_away_32 : decode cX3_away 32 = .ok (.ishl, 1) := by decide +kernel
theorem dX3_away_33 : decode cX3_away 33 = .ok (.istore_n 3, 1) := by decide +kernel
theorem dX3_away_34 : decode cX3_away 34 = .ok (.iconst (-1), 1) := by decide +kernel
theorem dX3_away_35 : decode cX3_away 35 = .ok (.istore 4, 2) := by decide +kernel
theorem dX3_away_37 : decode cX3_away 37 = .ok (.iconst 0, 1) := by decide +kernel
theorem dX3_away_38 : decode cX3_away 38 = .ok (.istore 5, 2) := by decide +kernel
theorem dX3_away_40 : decode cX3_away 40 = .ok (.iload 5, 2) := by decide +kernel
theorem dX3_away_42 : decode cX3_away 42 = .ok (.iload_n 3, 1) := by decide +kernel
theorem dX3_away_43 : decode cX3_away 43 = .ok (.if_icmp .ge 55, 3) := by decide +kernel
theorem dX3_away_46 : decode cX3_away 46 = .ok (.iload 4, 2) := by decide +kernel
theorem dX3_away_48 : decode cX3_away 48 = .ok (.iconst (-1), 1) := by decide +kernel
theorem dX3_away_49 : decode cX3_away 49 = .ok (.if_icmp .eq 16, 3) := by decide +kernel
theorem dX3_away_52 : decode cX3_away 52 = .ok (.iload 5, 2) := by decide +kernel
theorem dX3_away_54 : decode cX3_away 54 = .ok (.invokestatic 166, 3) := by decide +kernel
theorem dX3_away_57 : decode cX3_away 57 = .ok (.iload 4, 2) := by decide +kernel
theorem dX3_away_59 : decode cX3_away 59 = .ok (.invokestatic 166, 3) := by decide +kernel
theorem dX3_away_62 : decode cX3_away 62 = .ok (.if_icmp .ge 7, 3) := by decide +kernel
theorem dX3_away_65 : decode cX3_away 65 = .ok (.iconst 1, 1) := by decide +kernel
theorem dX3_away_66 : decode cX3_away 66 = .ok (.goto 4, 3) := by decide +kernel
theorem dX3_away_69 : decode cX3_away 69 = .ok (.iconst 0, 1) := by decide +kernel
theorem dX3_away_70 : decode cX3_away 70 = .ok (.istore 6, 2) := by decide +kernel
theorem dX3_away_72 : decode cX3_away 72 = .ok (.iload 6, 2) := by decide +kernel
theorem dX3_away_74 : decode cX3_away 74 = .ok (.ifCond .eq 18, 3) := by decide +kernel
theorem dX3_away_77 : decode cX3_away 77 = .ok (.aload_n 0, 1) := by decide +kernel
theorem dX3_away_78 : decode cX3_away 78 = .ok (.iload 5, 2) := by decide +kernel
theorem dX3_away_80 : decode cX3_away 80 = .ok (.iload_n 1, 1) := by decide +kernel
theorem dX3_away_81 : decode cX3_away 81 = .ok (.iload_n 2, 1) := by decide +kernel
theorem dX3_away_82 : decode cX3_away 82 = .ok (.invokevirtual 171, 3) := by decide +kernel
theorem dX3_away_85 : decode cX3_away 85 = .ok (.ifCond .eq 7, 3) := by decide +kernel
theorem dX3_away_88 : decode cX3_away 88 = .ok (.iload 5, 2) := by decide +kernel
theorem dX3_away_90 : decode cX3_away 90 = .ok (.istore 4, 2) := by decide +kernel
theorem dX3_away_92 : decode cX3_away 92 = .ok (.iinc 5 1, 3) := by decide +kernel
theorem dX3_away_95 : decode cX3_away 95 = .ok (.goto (-55), 3) := by decide +kernel
theorem dX3_away_98 : decode cX3_away 98 = .ok (.iload 4, 2) := by decide +kernel
theorem dX3_away_100 : decode cX3_away 100 = .ok (.iconst (-1), 1) := by decide +kernel
theorem dX3_away_101 : decode cX3_away 101 = .ok (.if_icmp .ne 12, 3) := by decide +kernel
theorem dX3_away_104 : decode cX3_away 104 = .ok (.aload_n 0, 1) := by decide +kernel
theorem dX3_away_105 : decode cX3_away 105 = .ok (.ldc 155, 2) := by decide +kernel
theorem dX3_away_107 : decode cX3_away 107 = .ok (.invokevirtual 49, 3) := by decide +kernel
theorem dX3_away_110 : decode cX3_away 110 = .ok (.goto 5, 3) := by decide +kernel
theorem dX3_away_113 : decode cX3_away 113 = .ok (.iload 4, 2) := by decide +kernel
theorem dX3_away_115 : decode cX3_away 115 = .ok (.ireturn, 1) := by decide +kernel
theorem dX3_censor_0 : decode cX3_censor 0 = .ok (.iload_n 1, 1) := by decide +kernel
theorem dX3_censor_1 : decode cX3_censor 1 = .ok (.iconst 0, 1) := by decide +kernel
theorem dX3_censor_2 : decode cX3_censor 2 = .ok (.bipush 40, 2) := by decide +kernel
theorem dX3_censor_4 : decode cX3_censor 4 = .ok (.invokestatic 44, 3) := by decide +kernel
theorem dX3_censor_7 : decode cX3_censor 7 = .ok (.ifCond .ne 10, 3) := by decide +kernel
theorem dX3_censor_10 : decode cX3_censor 10 = .ok (.aload_n 0, 1) := by decide +kernel
theorem dX3_censor_11 : decode cX3_censor 11 = .ok (.ldc 48, 2) := by decide +kernel
theorem dX3_censor_13 : decode cX3_censor 13 = .ok (.invokevirtual 49, 3) := by decide +kernel
theorem dX3_censor_16 : decode cX3_censor 16 = .ok (.ireturn, 1) := by decide +kernel
theorem dX3_censor_17 : decode cX3_censor 17 = .ok (.aload_n 0, 1) := by decide +kernel
theorem dX3_censor_18 : decode cX3_censor 18 = .ok (.getfield 12, 3) := by decide +kernel
theorem dX3_censor_21 : decode cX3_censor 21 = .ok (.getfield 163, 3) := by decide +kernel
theorem dX3_censor_24 : decode cX3_censor 24 = .ok (.ifCond .ne 10, 3) := by decide +kernel
theorem dX3_censor_27 : decode cX3_censor 27 = .ok (.aload_n 0, 1) := by decide +kernel
theorem dX3_censor_28 : decode cX3_censor 28 = .ok (.ldc 155, 2) := by decide +kernel
theorem dX3_censor_30 : decode cX3_censor 30 = .ok (.invokevirtual 49, 3) := by decide +kernel
theorem dX3_censor_33 : decode cX3_censor 33 = .ok (.ireturn, 1) := by decide +kernel
theorem dX3_censor_34 : decode cX3_censor 34 = .ok (.iconst 0, 1) := by decide +kernel
theorem dX3_censor_35 : decode cX3_censor 35 = .ok (.istore_n 2, 1) := by decide +kernel
theorem dX3_censor_36 : decode cX3_censor 36 = .ok (.ldc 174, 2) := by decide +kernel
theorem dX3_censor_38 : decode cX3_censor 38 = .ok (.istore_n 3, 1) := by decide +kernel
theorem dX3_censor_39 : decode cX3_censor 39 = .ok (.iconst 0, 1) := by decide +kernel
theorem dX3_censor_40 : decode cX3_censor 40 = .ok (.istore 4, 2) := by decide +kernel
theorem dX3_censor_42 : decode cX3_censor 42 = .ok (.iload 4, 2) := by decide +kernel
theorem dX3_censor_44 : decode cX3_censor 44 = .ok (.aload_n 0, 1) := by decide +kernel
theorem dX3_censor_45 : decode cX3_censor 45 = .ok (.getfield 12, 3) := by decide +kernel
theorem dX3_censor_48 : decode cX3_censor 48 = .ok (.getfield 163, 3) := by decide +kernel
theorem dX3_censor_51 : decode cX3_censor 51 = .ok (.if_icmp .ge 54, 3) := by decide +kernel
theorem dX3_censor_54 : decode cX3_censor 54 = .ok (.aload_n 0, 1) := by decide +kernel
theorem dX3_censor_55 : decode cX3_censor 55 = .ok (.getfield 16, 3) := by decide +kernel
theorem dX3_censor_58 : decode cX3_censor 58 = .ok (.aload_n 0, 1) := by decide +kernel
theorem dX3_censor_59 : decode cX3_censor 59 = .ok (.getfield 12, 3) := by decide +kernel
theorem dX3_censor_62 : decode cX3_censor 62 = .ok (.invokevirtual 142, 3) := by decide +kernel
theorem dX3_censor_65 : decode cX3_censor 65 = .ok (.aload_n 0, 1) := by decide +kernel
theorem dX3_censor_66 : decode cX3_censor 66 = .ok (.getfield 16, 3) := by decide +kernel
theorem dX3_censor_69 : decode cX3_censor 69 = .ok (.iload_n 1, 1) := by decide +kernel
theorem dX3_censor_70 : decode cX3_censor 70 = .ok (.iconst 1, 1) := by decide +kernel
theorem dX3_censor_71 : decode cX3_censor 71 = .ok (.iload 4, 2) := by decide +kernel
theorem dX3_censor_73 : decode cX3_censor 73 = .ok (.ishl, 1) := by decide +kernel
theorem dX3_censor_74 : decode cX3_censor 74 = .ok (.invokevirtual 117, 3) := by decide +kernel
theorem dX3_censor_77 : decode cX3_censor 77 = .ok (.aload_n 0, 1) := by decide +kernel
theorem dX3_censor_78 : decode cX3_censor 78 = .ok (.getfield 16, 3) := by decide +kernel
theorem dX3_censor_81 : decode cX3_censor 81 = .ok (.getfield 124, 3) := by decide +kernel
theorem dX3_censor_84 : decode cX3_censor 84 = .ok (.iload_n 3, 1) := by decide +kernel
theorem dX3_censor_85 : decode cX3_censor 85 = .ok (.if_icmp .ge 14, 3) := by decide +kernel
theorem dX3_censor_88 : decode cX3_censor 88 = .ok (.aload_n 0, 1) := by decide +kernel
theorem dX3_censor_89 : decode cX3_censor 89 = .ok (.getfield 16, 3) := by decide +kernel
theorem dX3_censor_92 : decode cX3_censor 92 = .ok (.getfield 124, 3) := by decide +kernel
theorem dX3_censor_95 : decode cX3_censor 95 = .ok (.istore_n 3, 1) := by decide +kernel
theorem dX3_censor_96 : decode cX3_censor 96 = .ok (.iload 4, 2) := by decide +kernel
theorem dX3_censor_98 : decode cX3_censor 98 = .ok (.istore_n 2, 1) := by decide +kernel
theorem dX3_censor_99 : decode cX3_censor 99 = .ok (.iinc 4 1, 3) := by decide +kernel
theorem dX3_censor_102 : decode cX3_censor 102 = .ok (.goto (-60), 3) := by decide +kernel
theorem dX3_censor_105 : decode cX3_censor 105 = .ok (.iload_n 2, 1) := by decide +kernel
theorem dX3_censor_106 : decode cX3_censor 106 = .ok (.ireturn, 1) := by decide +kernel
theorem dX3_fits_0 : decode cX3_fits 0 = .ok (.aload_n 0, 1) := by decide +kernel
theorem dX3_fits_1 : decode cX3_fits 1 = .ok (.iload_n 1, 1) := by decide +kernel
theorem dX3_fits_2 : decode cX3_fits 2 = .ok (.iload_n 2, 1) := by decide +kernel
theorem dX3_fits_3 : decode cX3_fits 3 = .ok (.iload_n 3, 1) := by decide +kernel
theorem dX3_fits_4 : decode cX3_fits 4 = .ok (.invokevirtual 175, 3) := by decide +kernel
theorem dX3_fits_7 : decode cX3_fits 7 = .ok (.istore 4, 2) := by decide +kernel
theorem dX3_fits_9 : decode cX3_fits 9 = .ok (.iload 4, 2) := by decide +kernel
theorem dX3_fits_11 : decode cX3_fits 11 = .ok (.ifCond .eq 10, 3) := by decide +kernel
theorem dX3_fits_14 : decode cX3_fits 14 = .ok (.aload_n 0, 1) := by decide +kernel
theorem dX3_fits_15 : decode cX3_fits 15 = .ok (.iload 4, 2) := by decide +kernel
theorem dX3_fits_17 : decode cX3_fits 17 = .ok (.invokevirtual 49, 3) := by decide +kernel
theorem dX3_fits_20 : decode cX3_fits 20 = .ok (.ireturn, 1) := by decide +kernel
theorem dX3_fits_21 : decode cX3_fits 21 = .ok (.aload_n 0, 1) := by decide +kernel
theorem dX3_fits_22 : decode cX3_fits 22 = .ok (.iload_n 1, 1) := by decide +kernel
theorem dX3_fits_23 : decode cX3_fits 23 = .ok (.iload_n 2, 1) := by decide +kernel
theorem dX3_fits_24 : decode cX3_fits 24 = .ok (.iconst 3, 1) := by decide +kernel
theorem dX3_fits_25 : decode cX3_fits 25 = .ok (.iload_n 3, 1) := by decide +kernel
theorem dX3_fits_26 : decode cX3_fits 26 = .ok (.invokevirtual 178, 3) := by decide +kernel
theorem dX3_fits_29 : decode cX3_fits 29 = .ok (.invokestatic 166, 3) := by decide +kernel
theorem dX3_fits_32 : decode cX3_fits 32 = .ok (.ireturn, 1) := by decide +kernel
theorem dX3_strode_0 : decode cX3_strode 0 = .ok (.aload_n 0, 1) := by decide +kernel
theorem dX3_strode_1 : decode cX3_strode 1 = .ok (.iload_n 1, 1) := by decide +kernel
theorem dX3_strode_2 : decode cX3_strode 2 = .ok (.iload_n 2, 1) := by decide +kernel
theorem dX3_strode_3 : decode cX3_strode 3 = .ok (.iload_n 3, 1) := by decide +kernel
theorem dX3_strode_4 : decode cX3_strode 4 = .ok (.invokevirtual 175, 3) := by decide +kernel
theorem dX3_strode_7 : decode cX3_strode 7 = .ok (.istore 4, 2) := by decide +kernel
theorem dX3_strode_9 : decode cX3_strode 9 = .ok (.iload 4, 2) := by decide +kernel
theorem dX3_strode_11 : decode cX3_strode 11 = .ok (.ifCond .eq 10, 3) := by decide +kernel
theorem dX3_strode_14 : decode cX3_strode 14 = .ok (.aload_n 0, 1) := by decide +kernel
theorem dX3_strode_15 : decode cX3_strode 15 = .ok (.iload 4, 2) := by decide +kernel
theorem dX3_strode_17 : decode cX3_strode 17 = .ok (.invokevirtual 49, 3) := by decide +kernel
theorem dX3_strode_20 : decode cX3_strode 20 = .ok (.ireturn, 1) := by decide +kernel
theorem dX3_strode_21 : decode cX3_strode 21 = .ok (.aload_n 0, 1) := by decide +kernel
theorem dX3_strode_22 : decode cX3_strode 22 = .ok (.iload_n 1, 1) := by decide +kernel
theorem dX3_strode_23 : decode cX3_strode 23 = .ok (.iload_n 2, 1) := by decide +kernel
theorem dX3_strode_24 : decode cX3_strode 24 = .ok (.iconst 3, 1) := by decide +kernel
theorem dX3_strode_25 : decode cX3_strode 25 = .ok (.iload_n 3, 1) := by decide +kernel
theorem dX3_strode_26 : decode cX3_strode 26 = .ok (.invokevirtual 178, 3) := by decide +kernel
theorem dX3_strode_29 : decode cX3_strode 29 = .ok (.istore 5, 2) := by decide +kernel
theorem dX3_strode_31 : decode cX3_strode 31 = .ok (.iload 5, 2) := by decide +kernel
theorem dX3_strode_33 : decode cX3_strode 33 = .ok (.ifCond .ne 12, 3) := by decide +kernel
theorem dX3_strode_36 : decode cX3_strode 36 = .ok (.aload_n 0, 1) := by decide +kernel
theorem dX3_strode_37 : decode cX3_strode 37 = .ok (.ldc 155, 2) := by decide +kernel
theorem dX3_strode_39 : decode cX3_strode 39 = .ok (.invokevirtual 49, 3) := by decide +kernel
theorem dX3_strode_42 : decode cX3_strode 42 = .ok (.goto 8, 3) := by decide +kernel
theorem dX3_strode_45 : decode cX3_strode 45 = .ok (.iload 5, 2) := by decide +kernel
theorem dX3_strode_47 : decode cX3_strode 47 = .ok (.invokestatic 182, 3) := by decide +kernel
theorem dX3_strode_50 : decode cX3_strode 50 = .ok (.ireturn, 1) := by decide +kernel
theorem dX3_kinds_0 : decode cX3_kinds 0 = .ok (.aload_n 0, 1) := by decide +kernel
theorem dX3_kinds_1 : decode cX3_kinds 1 = .ok (.iload_n 1, 1) := by decide +kernel
theorem dX3_kinds_2 : decode cX3_kinds 2 = .ok (.iload_n 2, 1) := by decide +kernel
theorem dX3_kinds_3 : decode cX3_kinds 3 = .ok (.iload_n 3, 1) := by decide +kernel
theorem dX3_kinds_4 : decode cX3_kinds 4 = .ok (.invokevirtual 175, 3) := by decide +kernel
theorem dX3_kinds_7 : decode cX3_kinds 7 = .ok (.istore 4, 2) := by decide +kernel
theorem dX3_kinds_9 : decode cX3_kinds 9 = .ok (.iload 4, 2) := by decide +kernel
theorem dX3_kinds_11 : decode cX3_kinds 11 = .ok (.ifCond .eq 10, 3) := by decide +kernel
theorem dX3_kinds_14 : decode cX3_kinds 14 = .ok (.aload_n 0, 1) := by decide +kernel
theorem dX3_kinds_15 : decode cX3_kinds 15 = .ok (.iload 4, 2) := by decide +kernel
theorem dX3_kinds_17 : decode cX3_kinds 17 = .ok (.invokevirtual 49, 3) := by decide +kernel
theorem dX3_kinds_20 : decode cX3_kinds 20 = .ok (.ireturn, 1) := by decide +kernel
theorem dX3_kinds_21 : decode cX3_kinds 21 = .ok (.aload_n 0, 1) := by decide +kernel
theorem dX3_kinds_22 : decode cX3_kinds 22 = .ok (.iload_n 1, 1) := by decide +kernel
theorem dX3_kinds_23 : decode cX3_kinds 23 = .ok (.iload_n 2, 1) := by decide +kernel
theorem dX3_kinds_24 : decode cX3_kinds 24 = .ok (.iconst 0, 1) := by decide +kernel
theorem dX3_kinds_25 : decode cX3_kinds 25 = .ok (.iload_n 3, 1) := by decide +kernel
theorem dX3_kinds_26 : decode cX3_kinds 26 = .ok (.invokevirtual 178, 3) := by decide +kernel
theorem dX3_kinds_29 : decode cX3_kinds 29 = .ok (.ireturn, 1) := by decide +kernel
theorem dX3_tides_0 : decode cX3_tides 0 = .ok (.iload_n 1, 1) := by decide +kernel
theorem dX3_tides_1 : decode cX3_tides 1 = .ok (.iconst 1, 1) := by decide +kernel
theorem dX3_tides_2 : decode cX3_tides 2 = .ok (.bipush 20, 2) := by decide +kernel
theorem dX3_tides_4 : decode cX3_tides 4 = .ok (.invokestatic 44, 3) := by decide +kernel
theorem dX3_tides_7 : decode cX3_tides 7 = .ok (.ifCond .ne 10, 3) := by decide +kernel
theorem dX3_tides_10 : decode cX3_tides 10 = .ok (.aload_n 0, 1) := by decide +kernel
theorem dX3_tides_11 : decode cX3_tides 11 = .ok (.ldc 48, 2) := by decide +kernel
theorem dX3_tides_13 : decode cX3_tides 13 = .ok (.invokevirtual 49, 3) := by decide +kernel
theorem dX3_tides_16 : decode cX3_tides 16 = .ok (.ireturn, 1) := by decide +kernel
theorem dX3_tides_17 : decode cX3_tides 17 = .ok (.aload_n 0, 1) := by decide +kernel
theorem dX3_tides_18 : decode cX3_tides 18 = .ok (.getfield 12, 3) := by decide +kernel
theorem dX3_tides_21 : decode cX3_tides 21 = .ok (.getfield 112, 3) := by decide +kernel
theorem dX3_tides_24 : decode cX3_tides 24 = .ok (.iload_n 1, 1) := by decide +kernel
theorem dX3_tides_25 : decode cX3_tides 25 = .ok (.iadd, 1) := by decide +kernel
theorem dX3_tides_26 : decode cX3_tides 26 = .ok (.ldc 115, 2) := by decide +kernel
theorem dX3_tides_28 : decode cX3_tides 28 = .ok (.if_icmp .le 10, 3) := by decide +kernel
theorem dX3_tides_31 : decode cX3_tides 31 = .ok (.aload_n 0, 1) := by decide +kernel
theorem dX3_tides_32 : decode cX3_tides 32 = .ok (.ldc 116, 2) := by decide +kernel
theorem dX3_tides_34 : decode cX3_tides 34 = .ok (.invokevirtual 49, 3) := by decide +kernel
theorem dX3_tides_37 : decode cX3_tides 37 = .ok (.ireturn, 1) := by decide +kernel
theorem dX3_tides_38 : decode cX3_tides 38 = .ok (.iconst 0, 1) := by decide +kernel
theorem dX3_tides_39 : decode cX3_tides 39 = .ok (.istore_n 2, 1) := by decide +kernel
theorem dX3_tides_40 : decode cX3_tides 40 = .ok (.iload_n 2, 1) := by decide +kernel
theorem dX3_tides_41 : decode cX3_tides 41 = .ok (.iload_n 1, 1) := by decide +kernel
theorem dX3_tides_42 : decode cX3_tides 42 = .ok (.if_icmp .ge 16, 3) := by decide +kernel
theorem dX3_tides_45 : decode cX3_tides 45 = .ok (.aload_n 0, 1) := by decide +kernel
theorem dX3_tides_46 : decode cX3_tides 46 = .ok (.getfield 12, 3) := by decide +kernel
theorem dX3_tides_49 : decode cX3_tides 49 = .ok (.invokevirtual 185, 3) := by decide +kernel
theorem dX3_tides_52 : decode cX3_tides 52 = .ok (.iinc 2 1, 3) := by decide +kernel
theorem dX3_tides_55 : decode cX3_tides 55 = .ok (.goto (-15), 3) := by decide +kernel
theorem dX3_tides_58 : decode cX3_tides 58 = .ok (.aload_n 0, 1) := by decide +kernel
theorem dX3_tides_59 : decode cX3_tides 59 = .ok (.getfield 12, 3) := by decide +kernel
theorem dX3_tides_62 : decode cX3_tides 62 = .ok (.invokevirtual 121, 3) := by decide +kernel
theorem dX3_tides_65 : decode cX3_tides 65 = .ok (.ireturn, 1) := by decide +kernel
theorem dX3_odds_0 : decode cX3_odds 0 = .ok (.iload_n 1, 1) := by decide +kernel
theorem dX3_odds_1 : decode cX3_odds 1 = .ok (.invokestatic 40, 3) := by decide +kernel
theorem dX3_odds_4 : decode cX3_odds 4 = .ok (.ifCond .eq 22, 3) := by decide +kernel
theorem dX3_odds_7 : decode cX3_odds 7 = .ok (.iload_n 2, 1) := by decide +kernel
theorem dX3_odds_8 : decode cX3_odds 8 = .ok (.iconst 0, 1) := by decide +kernel
theorem dX3_odds_9 : decode cX3_odds 9 = .ok (.bipush 12, 2) := by decide +kernel
theorem dX3_odds_11 : decode cX3_odds 11 = .ok (.invokestatic 44, 3) := by decide +kernel
theorem dX3_odds_14 : decode cX3_odds 14 = .ok (.ifCond .eq 12, 3) := by decide +kernel
theorem dX3_odds_17 : decode cX3_odds 17 = .ok (.iload_n 3, 1) := by decide +kernel
theorem dX3_odds_18 : decode cX3_odds 18 = .ok (.iconst 0, 1) := by decide +kernel
theorem dX3_odds_19 : decode cX3_odds 19 = .ok (.iconst 1, 1) := by decide +kernel
theorem dX3_odds_20 : decode cX3_odds 20 = .ok (.invokestatic 44, 3) := by decide +kernel
theorem dX3_odds_23 : decode cX3_odds 23 = .ok (.ifCond .ne 11, 3) := by decide +kernel
theorem dX3_odds_26 : decode cX3_odds 26 = .ok (.aload_n 0, 1) := by decide +kernel
theorem dX3_odds_27 : decode cX3_odds 27 = .ok (.ldc 48, 2) := by decide +kernel
theorem dX3_odds_29 : decode cX3_odds 29 = .ok (.invokevirtual 49, 3) := by decide +kernel
theorem dX3_odds_32 : decode cX3_odds 32 = .ok (.i2l, 1) := by decide +kernel
theorem dX3_odds_33 : decode cX3_odds 33 = .ok (.lreturn, 1) := by decide +kernel
theorem dX3_odds_34 : decode cX3_odds 34 = .ok (.iload_n 1, 1) := by decide +kernel
theorem dX3_odds_35 : decode cX3_odds 35 = .ok (.iconst 1, 1) := by decide +kernel
theorem dX3_odds_36 : decode cX3_odds 36 = .ok (.iadd, 1) := by decide +kernel
theorem dX3_odds_37 : decode cX3_odds 37 = .ok (.istore 4, 2) := by decide +kernel
theorem dX3_odds_39 : decode cX3_odds 39 = .ok (.iload 4, 2) := by decide +kernel
theorem dX3_odds_41 : decode cX3_odds 41 = .ok (.iconst 5, 1) := by decide +kernel
theorem dX3_odds_42 : decode cX3_odds 42 = .ok (.irem, 1) := by decide +kernel
theorem dX3_odds_43 : decode cX3_odds 43 = .ok (.ifCond .ne 7, 3) := by decide +kernel
theorem dX3_odds_46 : decode cX3_odds 46 = .ok (.iconst 5, 1) := by decide +kernel
theorem dX3_odds_47 : decode cX3_odds 47 = .ok (.goto 4, 3) := by decide +kernel
theorem dX3_odds_50 : decode cX3_odds 50 = .ok (.iconst 1, 1) := by decide +kernel
theorem dX3_odds_51 : decode cX3_odds 51 = .ok (.istore 5, 2) := by decide +kernel
theorem dX3_odds_53 : decode cX3_odds 53 = .ok (.iload_n 3, 1) := by decide +kernel
theorem dX3_odds_54 : decode cX3_odds 54 = .ok (.ifCond .ne 8, 3) := by decide +kernel
theorem dX3_odds_57 : decode cX3_odds 57 = .ok (.iload 4, 2) := by decide +kernel
theorem dX3_odds_59 : decode cX3_odds 59 = .ok (.goto 5, 3) := by decide +kernel
theorem dX3_odds_62 : decode cX3_odds 62 = .ok (.bipush 25, 2) := by decide +kernel
theorem dX3_odds_64 : decode cX3_odds 64 = .ok (.iload 5, 2) := by decide +kernel
theorem dX3_odds_66 : decode cX3_odds 66 = .ok (.idiv, 1) := by decide +kernel
theorem dX3_odds_67 : decode cX3_odds 67 = .ok (.i2l, 1) := by decide +kernel
theorem dX3_odds_68 : decode cX3_odds 68 = .ok (.iload_n 2, 1) := by decide +kernel
theorem dX3_odds_69 : decode cX3_odds 69 = .ok (.invokestatic 188, 3) := by decide +kernel
theorem dX3_odds_72 : decode cX3_odds 72 = .ok (.lreturn, 1) := by decide +kernel
theorem dX3_seed_0 : decode cX3_seed 0 = .ok (.aload_n 0, 1) := by decide +kernel
theorem dX3_seed_1 : decode cX3_seed 1 = .ok (.getfield 12, 3) := by decide +kernel
theorem dX3_seed_4 : decode cX3_seed 4 = .ok (.getfield 192, 3) := by decide +kernel
theorem dX3_seed_7 : decode cX3_seed 7 = .ok (.istore_n 2, 1) := by decide +kernel
theorem dX3_seed_8 : decode cX3_seed 8 = .ok (.aload_n 0, 1) := by decide +kernel
theorem dX3_seed_9 : decode cX3_seed 9 = .ok (.getfield 12, 3) := by decide +kernel
theorem dX3_seed_12 : decode cX3_seed 12 = .ok (.iload_n 1, 1) := by decide +kernel
theorem dX3_seed_13 : decode cX3_seed 13 = .ok (.putfield 192, 3) := by decide +kernel
theorem dX3_seed_16 : decode cX3_seed 16 = .ok (.iload_n 2, 1) := by decide +kernel
theorem dX3_seed_17 : decode cX3_seed 17 = .ok (.ireturn, 1) := by decide +kernel
theorem dX3_feed_0 : decode cX3_feed 0 = .ok (.iload_n 2, 1) := by decide +kernel
theorem dX3_feed_1 : decode cX3_feed 1 = .ok (.iconst 1, 1) := by decide +kernel
theorem dX3_feed_2 : decode cX3_feed 2 = .ok (.iconst 4, 1) := by decide +kernel
theorem dX3_feed_3 : decode cX3_feed 3 = .ok (.invokestatic 44, 3) := by decide +kernel
theorem dX3_feed_6 : decode cX3_feed 6 = .ok (.ifCond .ne 10, 3) := by decide +kernel
theorem dX3_feed_9 : decode cX3_feed 9 = .ok (.aload_n 0, 1) := by decide +kernel
theorem dX3_feed_10 : decode cX3_feed 10 = .ok (.ldc 48, 2) := by decide +kernel
theorem dX3_feed_12 : decode cX3_feed 12 = .ok (.invokevirtual 49, 3) := by decide +kernel
theorem dX3_feed_15 : decode cX3_feed 15 = .ok (.ireturn, 1) := by decide +kernel
theorem dX3_feed_16 : decode cX3_feed 16 = .ok (.aload_n 0, 1) := by decide +kernel
theorem dX3_feed_17 : decode cX3_feed 17 = .ok (.getfield 25, 3) := by decide +kernel
theorem dX3_feed_20 : decode cX3_feed 20 = .ok (.iload_n 2, 1) := by decide +kernel
theorem dX3_feed_21 : decode cX3_feed 21 = .ok (.invokevirtual 195, 3) := by decide +kernel
theorem dX3_feed_24 : decode cX3_feed 24 = .ok (.ifCond .ne 10, 3) := by decide +kernel
theorem dX3_feed_27 : decode cX3_feed 27 = .ok (.aload_n 0, 1) := by decide +kernel
theorem dX3_feed_28 : decode cX3_feed 28 = .ok (.ldc 86, 2) := by decide +kernel
theorem dX3_feed_30 : decode cX3_feed 30 = .ok (.invokevirtual 49, 3) := by decide +kernel
theorem dX3_feed_33 : decode cX3_feed 33 = .ok (.ireturn, 1) := by decide +kernel
theorem dX3_feed_34 : decode cX3_feed 34 = .ok (.iload_n 2, 1) := by decide +kernel
theorem dX3_feed_35 : decode cX3_feed 35 = .ok (.iconst 1, 1) := by decide +kernel
theorem dX3_feed_36 : decode cX3_feed 36 = .ok (.isub, 1) := by decide +kernel
theorem dX3_feed_37 : decode cX3_feed 37 = .ok (.istore_n 3, 1) := by decide +kernel
theorem dX3_feed_38 : decode cX3_feed 38 = .ok (.iload_n 3, 1) := by decide +kernel
theorem dX3_feed_39 : decode cX3_feed 39 = .ok (.ifCond .lt 22, 3) := by decide +kernel
theorem dX3_feed_42 : decode cX3_feed 42 = .ok (.aload_n 0, 1) := by decide +kernel
theorem dX3_feed_43 : decode cX3_feed 43 = .ok (.getfield 25, 3) := by decide +kernel
theorem dX3_feed_46 : decode cX3_feed 46 = .ok (.iload_n 1, 1) := by decide +kernel
theorem dX3_feed_47 : decode cX3_feed 47 = .ok (.bipush 8, 2) := by decide +kernel
theorem dX3_feed_49 : decode cX3_feed 49 = .ok (.iload_n 3, 1) := by decide +kernel
theorem dX3_feed_50 : decode cX3_feed 50 = .ok (.imul, 1) := by decide +kernel
theorem dX3_feed_51 : decode cX3_feed 51 = .ok (.iushr, 1) := by decide +kernel
theorem dX3_feed_52 : decode cX3_feed 52 = .ok (.invokevirtual 197, 3) := by decide +kernel
theorem dX3_feed_55 : decode cX3_feed 55 = .ok (.iinc 3 (-1), 3) := by decide +kernel
theorem dX3_feed_58 : decode cX3_feed 58 = .ok (.goto (-20), 3) := by decide +kernel
theorem dX3_feed_61 : decode cX3_feed 61 = .ok (.aload_n 0, 1) := by decide +kernel
theorem dX3_feed_62 : decode cX3_feed 62 = .ok (.getfield 25, 3) := by decide +kernel
theorem dX3_feed_65 : decode cX3_feed 65 = .ok (.getfield 200, 3) := by decide +kernel
theorem dX3_feed_68 : decode cX3_feed 68 = .ok (.ireturn, 1) := by decide +kernel
theorem dX3_wipe_0 : decode cX3_wipe 0 = .ok (.aload_n 0, 1) := by decide +kernel
theorem dX3_wipe_1 : decode cX3_wipe 1 = .ok (.getfield 25, 3) := by decide +kernel
theorem dX3_wipe_4 : decode cX3_wipe 4 = .ok (.getfield 200, 3) := by decide +kernel
theorem dX3_wipe_7 : decode cX3_wipe 7 = .ok (.istore_n 1, 1) := by decide +kernel
theorem dX3_wipe_8 : decode cX3_wipe 8 = .ok (.aload_n 0, 1) := by decide +kernel
theorem dX3_wipe_9 : decode cX3_wipe 9 = .ok (.getfield 25, 3) := by decide +kernel
theorem dX3_wipe_12 : decode cX3_wipe 12 = .ok (.iconst 0, 1) := by decide +kernel
theorem dX3_wipe_13 : decode cX3_wipe 13 = .ok (.putfield 200, 3) := by decide +kernel
theorem dX3_wipe_16 : decode cX3_wipe 16 = .ok (.iload_n 1, 1) := by decide +kernel
theorem dX3_wipe_17 : decode cX3_wipe 17 = .ok (.ireturn, 1) := by decide +kernel
theorem dX3_text_0 : decode cX3_text 0 = .ok (.aload_n 0, 1) := by decide +kernel
theorem dX3_text_1 : decode cX3_text 1 = .ok (.getfield 16, 3) := by decide +kernel
theorem dX3_text_4 : decode cX3_text 4 = .ok (.aload_n 0, 1) := by decide +kernel
theorem dX3_text_5 : decode cX3_text 5 = .ok (.getfield 12, 3) := by decide +kernel
theorem dX3_text_8 : decode cX3_text 8 = .ok (.invokevirtual 142, 3) := by decide +kernel
theorem dX3_text_11 : decode cX3_text 11 = .ok (.aload_n 0, 1) := by decide +kernel
theorem dX3_text_12 : decode cX3_text 12 = .ok (.getfield 25, 3) := by decide +kernel
theorem dX3_text_15 : decode cX3_text 15 = .ok (.aload_n 0, 1) := by decide +kernel
theorem dX3_text_16 : decode cX3_text 16 = .ok (.getfield 16, 3) := by decide +kernel
theorem dX3_text_19 : decode cX3_text 19 = .ok (.invokevirtual 203, 3) := by decide +kernel
theorem dX3_text_22 : decode cX3_text 22 = .ok (.istore_n 1, 1) := by decide +kernel
theorem dX3_text_23 : decode cX3_text 23 = .ok (.aload_n 0, 1) := by decide +kernel
theorem dX3_text_24 : decode cX3_text 24 = .ok (.getfield 25, 3) := by decide +kernel
theorem dX3_text_27 : decode cX3_text 27 = .ok (.iconst 0, 1) := by decide +kernel
theorem dX3_text_28 : decode cX3_text 28 = .ok (.putfield 200, 3) := by decide +kernel
theorem dX3_text_31 : decode cX3_text 31 = .ok (.iload_n 1, 1) := by decide +kernel
theorem dX3_text_32 : decode cX3_text 32 = .ok (.ifCond .lt 14, 3) := by decide +kernel
theorem dX3_text_35 : decode cX3_text 35 = .ok (.aload_n 0, 1) := by decide +kernel
theorem dX3_text_36 : decode cX3_text 36 = .ok (.getfield 12, 3) := by decide +kernel
theorem dX3_text_39 : decode cX3_text 39 = .ok (.aload_n 0, 1) := by decide +kernel
theorem dX3_text_40 : decode cX3_text 40 = .ok (.getfield 16, 3) := by decide +kernel
theorem dX3_text_43 : decode cX3_text 43 = .ok (.invokevirtual 142, 3) := by decide +kernel
theorem dX3_text_46 : decode cX3_text 46 = .ok (.iload_n 1, 1) := by decide +kernel
theorem dX3_text_47 : decode cX3_text 47 = .ok (.ireturn, 1) := by decide +kernel
theorem dX3_hold_0 : decode cX3_hold 0 = .ok (.iload_n 1, 1) := by decide +kernel
theorem dX3_hold_1 : decode cX3_hold 1 = .ok (.iconst 0, 1) := by decide +kernel
theorem dX3_hold_2 : decode cX3_hold 2 = .ok (.bipush 9, 2) := by decide +kernel
theorem dX3_hold_4 : decode cX3_hold 4 = .ok (.invokestatic 44, 3) := by decide +kernel
theorem dX3_hold_7 : decode cX3_hold 7 = .ok (.ifCond .eq 14, 3) := by decide +kernel
theorem dX3_hold_10 : decode cX3_hold 10 = .ok (.aload_n 0, 1) := by decide +kernel
theorem dX3_hold_11 : decode cX3_hold 11 = .ok (.getfield 12, 3) := by decide +kernel
theorem dX3_hold_14 : decode cX3_hold 14 = .ok (.iload_n 2, 1) := by decide +kernel
theorem dX3_hold_15 : decode cX3_hold 15 = .ok (.invokevirtual 60, 3) := by decide +kernel
theorem dX3_hold_18 : decode cX3_hold 18 = .ok (.ifCond .ne 10, 3) := by decide +kernel
theorem dX3_hold_21 : decode cX3_hold 21 = .ok (.aload_n 0, 1) := by decide +kernel
theorem dX3_hold_22 : decode cX3_hold 22 = .ok (.ldc 48, 2) := by decide +kernel
theorem dX3_hold_24 : decode cX3_hold 24 = .ok (.invokevirtual 49, 3) := by decide +kernel
theorem dX3_hold_27 : decode cX3_hold 27 = .ok (.ireturn, 1) := by decide +kernel
theorem dX3_hold_28 : decode cX3_hold 28 = .ok (.aload_n 0, 1) := by decide +kernel
theorem dX3_hold_29 : decode cX3_hold 29 = .ok (.getfield 12, 3) := by decide +kernel
theorem dX3_hold_32 : decode cX3_hold 32 = .ok (.getfield 207, 3) := by decide +kernel
theorem dX3_hold_35 : decode cX3_hold 35 = .ok (.iload_n 1, 1) := by decide +kernel
theorem dX3_hold_36 : decode cX3_hold 36 = .ok (.iload_n 2, 1) := by decide +kernel
theorem dX3_hold_37 : decode cX3_hold 37 = .ok (.iastore, 1) := by decide +kernel
theorem dX3_hold_38 : decode cX3_hold 38 = .ok (.iconst 1, 1) := by decide +kernel
theorem dX3_hold_39 : decode cX3_hold 39 = .ok (.ireturn, 1) := by decide +kernel
theorem dX3_as_0 : decode cX3_as 0 = .ok (.iload_n 1, 1) := by decide +kernel
theorem dX3_as_1 : decode cX3_as 1 = .ok (.iconst 0, 1) := by decide +kernel
theorem dX3_as_2 : decode cX3_as 2 = .ok (.bipush 9, 2) := by decide +kernel
theorem dX3_as_4 : decode cX3_as 4 = .ok (.invokestatic 44, 3) := by decide +kernel
theorem dX3_as_7 : decode cX3_as 7 = .ok (.ifCond .eq 13, 3) := by decide +kernel
theorem dX3_as_10 : decode cX3_as 10 = .ok (.iload_n 2, 1) := by decide +kernel
theorem dX3_as_11 : decode cX3_as 11 = .ok (.iconst 0, 1) := by decide +kernel
theorem dX3_as_12 : decode cX3_as 12 = .ok (.bipush 6, 2) := by decide +kernel
theorem dX3_as_14 : decode cX3_as 14 = .ok (.invokestatic 44, 3) := by decide +kernel
theorem dX3_as_17 : decode cX3_as 17 = .ok (.ifCond .ne 10, 3) := by decide +kernel
theorem dX3_as_20 : decode cX3_as 20 = .ok (.aload_n 0, 1) := by decide +kernel
theorem dX3_as_21 : decode cX3_as 21 = .ok (.ldc 48, 2) := by decide +kernel
theorem dX3_as_23 : decode cX3_as 23 = .ok (.invokevirtual 49, 3) := by decide +kernel
theorem dX3_as_26 : decode cX3_as 26 = .ok (.ireturn, 1) := by decide +kernel
theorem dX3_as_27 : decode cX3_as 27 = .ok (.aload_n 0, 1) := by decide +kernel
theorem dX3_as_28 : decode cX3_as 28 = .ok (.getfield 12, 3) := by decide +kernel
theorem dX3_as_31 : decode cX3_as 31 = .ok (.getfield 207, 3) := by decide +kernel
theorem dX3_as_34 : decode cX3_as 34 = .ok (.iload_n 1, 1) := by decide +kernel
theorem dX3_as_35 : decode cX3_as 35 = .ok (.iaload, 1) := by decide +kernel
theorem dX3_as_36 : decode cX3_as 36 = .ok (.istore_n 3, 1) := by decide +kernel
theorem dX3_as_37 : decode cX3_as 37 = .ok (.aload_n 0, 1) := by decide +kernel
theorem dX3_as_38 : decode cX3_as 38 = .ok (.getfield 12, 3) := by decide +kernel
theorem dX3_as_41 : decode cX3_as 41 = .ok (.iload_n 3, 1) := by decide +kernel
theorem dX3_as_42 : decode cX3_as 42 = .ok (.invokevirtual 91, 3) := by decide +kernel
theorem dX3_as_45 : decode cX3_as 45 = .ok (.ifCond .ne 10, 3) := by decide +kernel
theorem dX3_as_48 : decode cX3_as 48 = .ok (.aload_n 0, 1) := by decide +kernel
theorem dX3_as_49 : decode cX3_as 49 = .ok (.ldc 210, 2) := by decide +kernel
theorem dX3_as_51 : decode cX3_as 51 = .ok (.invokevirtual 49, 3) := by decide +kernel
theorem dX3_as_54 : decode cX3_as 54 = .ok (.ireturn, 1) := by decide +kernel
theorem dX3_as_55 : decode cX3_as 55 = .ok (.aload_n 0, 1) := by decide +kernel
theorem dX3_as_56 : decode cX3_as 56 = .ok (.getfield 12, 3) := by decide +kernel
theorem dX3_as_59 : decode cX3_as 59 = .ok (.getfield 67, 3) := by decide +kernel
theorem dX3_as_62 : decode cX3_as 62 = .ok (.iconst 0, 1) := by decide +kernel
theorem dX3_as_63 : decode cX3_as 63 = .ok (.aaload, 1) := by decide +kernel
theorem dX3_as_64 : decode cX3_as 64 = .ok (.iload_n 3, 1) := by decide +kernel
theorem dX3_as_65 : decode cX3_as 65 = .ok (.iaload, 1) := by decide +kernel
theorem dX3_as_66 : decode cX3_as 66 = .ok (.iload_n 2, 1) := by decide +kernel
theorem dX3_as_67 : decode cX3_as 67 = .ok (.invokestatic 211, 3) := by decide +kernel
theorem dX3_as_70 : decode cX3_as 70 = .ok (.ifCond .eq 7, 3) := by decide +kernel
theorem dX3_as_73 : decode cX3_as 73 = .ok (.iload_n 3, 1) := by decide +kernel
theorem dX3_as_74 : decode cX3_as 74 = .ok (.goto 9, 3) := by decide +kernel
theorem dX3_as_77 : decode cX3_as 77 = .ok (.aload_n 0, 1) := by decide +kernel
theorem dX3_as_78 : decode cX3_as 78 = .ok (.ldc 215, 2) := by decide +kernel
theorem dX3_as_80 : decode cX3_as 80 = .ok (.invokevirtual 49, 3) := by decide +kernel
theorem dX3_as_83 : decode cX3_as 83 = .ok (.ireturn, 1) := by decide +kernel
theorem dX3_sheet_0 : decode cX3_sheet 0 = .ok (.iload_n 1, 1) := by decide +kernel
theorem dX3_sheet_1 : decode cX3_sheet 1 = .ok (.invokestatic 216, 3) := by decide +kernel
theorem dX3_sheet_4 : decode cX3_sheet 4 = .ok (.ifCond .eq 10, 3) := by decide +kernel
theorem dX3_sheet_7 : decode cX3_sheet 7 = .ok (.iload_n 2, 1) := by decide +kernel
theorem dX3_sheet_8 : decode cX3_sheet 8 = .ok (.invokestatic 219, 3) := by decide +kernel
theorem dX3_sheet_11 : decode cX3_sheet 11 = .ok (.ifCond .ne 10, 3) := by decide +kernel
theorem dX3_sheet_14 : decode cX3_sheet 14 = .ok (.aload_n 0, 1) := by decide +kernel
theorem dX3_sheet_15 : decode cX3_sheet 15 = .ok (.ldc 48, 2) := by decide +kernel
theorem dX3_sheet_17 : decode cX3_sheet 17 = .ok (.invokevirtual 49, 3) := by decide +kernel
theorem dX3_sheet_20 : decode cX3_sheet 20 = .ok (.ireturn, 1) := by decide +kernel
theorem dX3_sheet_21 : decode cX3_sheet 21 = .ok (.iload_n 3, 1) := by decide +kernel
theorem dX3_sheet_22 : decode cX3_sheet 22 = .ok (.ifCond .ge 10, 3) := by decide +kernel
theorem dX3_sheet_25 : decode cX3_sheet 25 = .ok (.aload_n 0, 1) := by decide +kernel
theorem dX3_sheet_26 : decode cX3_sheet 26 = .ok (.ldc 222, 2) := by decide +kernel
theorem dX3_sheet_28 : decode cX3_sheet 28 = .ok (.invokevirtual 49, 3) := by decide +kernel
theorem dX3_sheet_31 : decode cX3_sheet 31 = .ok (.ireturn, 1) := by decide +kernel
theorem dX3_sheet_32 : decode cX3_sheet 32 = .ok (.iload_n 3, 1) := by decide +kernel
theorem dX3_sheet_33 : decode cX3_sheet 33 = .ok (.bipush 40, 2) := by decide +kernel
theorem dX3_sheet_35 : decode cX3_sheet 35 = .ok (.if_icmp .le 10, 3) := by decide +kernel
theorem dX3_sheet_38 : decode cX3_sheet 38 = .ok (.aload_n 0, 1) := by decide +kernel
theorem dX3_sheet_39 : decode cX3_sheet 39 = .ok (.ldc 48, 2) := by decide +kernel
theorem dX3_sheet_41 : decode cX3_sheet 41 = .ok (.invokevirtual 49, 3) := by decide +kernel
theorem dX3_sheet_44 : decode cX3_sheet 44 = .ok (.ireturn, 1) := by decide +kernel
theorem dX3_sheet_45 : decode cX3_sheet 45 = .ok (.aload_n 0, 1) := by decide +kernel
theorem dX3_sheet_46 : decode cX3_sheet 46 = .ok (.getfield 32, 3) := by decide +kernel
theorem dX3_sheet_49 : decode cX3_sheet 49 = .ok (.iload_n 1, 1) := by decide +kernel
theorem dX3_sheet_50 : decode cX3_sheet 50 = .ok (.iload_n 2, 1) := by decide +kernel
theorem dX3_sheet_51 : decode cX3_sheet 51 = .ok (.iload_n 3, 1) := by decide +kernel
theorem dX3_sheet_52 : decode cX3_sheet 52 = .ok (.invokevirtual 223, 3) := by decide +kernel
theorem dX3_sheet_55 : decode cX3_sheet 55 = .ok (.ireturn, 1) := by decide +kernel
theorem dX3_write_0 : decode cX3_write 0 = .ok (.aload_n 0, 1) := by decide +kernel
theorem dX3_write_1 : decode cX3_write 1 = .ok (.getfield 32, 3) := by decide +kernel
theorem dX3_write_4 : decode cX3_write 4 = .ok (.iload_n 1, 1) := by decide +kernel
theorem dX3_write_5 : decode cX3_write 5 = .ok (.invokevirtual 226, 3) := by decide +kernel
theorem dX3_write_8 : decode cX3_write 8 = .ok (.istore 4, 2) := by decide +kernel
theorem dX3_write_10 : decode cX3_write 10 = .ok (.iload 4, 2) := by decide +kernel
theorem dX3_write_12 : decode cX3_write 12 = .ok (.ifCond .eq 10, 3) := by decide +kernel
theorem dX3_write_15 : decode cX3_write 15 = .ok (.aload_n 0, 1) := by decide +kernel
theorem dX3_write_16 : decode cX3_write 16 = .ok (.iload 4, 2) := by decide +kernel
theorem dX3_write_18 : decode cX3_write 18 = .ok (.invokevirtual 49, 3) := by decide +kernel
theorem dX3_write_21 : decode cX3_write 21 = .ok (.ireturn, 1) := by decide +kernel
theorem dX3_write_22 : decode cX3_write 22 = .ok (.iload_n 2, 1) := by decide +kernel
theorem dX3_write_23 : decode cX3_write 23 = .ok (.iconst 0, 1) := by decide +kernel
theorem dX3_write_24 : decode cX3_write 24 = .ok (.aload_n 0, 1) := by decide +kernel
theorem dX3_write_25 : decode cX3_write 25 = .ok (.getfield 32, 3) := by decide +kernel
theorem dX3_write_28 : decode cX3_write 28 = .ok (.getfield 229, 3) := by decide +kernel
theorem dX3_write_31 : decode cX3_write 31 = .ok (.iload_n 1, 1) := by decide +kernel
theorem dX3_write_32 : decode cX3_write 32 = .ok (.iaload, 1) := by decide +kernel
theorem dX3_write_33 : decode cX3_write 33 = .ok (.iconst 1, 1) := by decide +kernel
theorem dX3_write_34 : decode cX3_write 34 = .ok (.isub, 1) := by decide +kernel
theorem dX3_write_35 : decode cX3_write 35 = .ok (.invokestatic 44, 3) := by decide +kernel
theorem dX3_write_38 : decode cX3_write 38 = .ok (.ifCond .ne 10, 3) := by decide +kernel
theorem dX3_write_41 : decode cX3_write 41 = .ok (.aload_n 0, 1) := by decide +kernel
theorem dX3_write_42 : decode cX3_write 42 = .ok (.ldc 48, 2) := by decide +kernel
theorem dX3_write_44 : decode cX3_write 44 = .ok (.invokevirtual 49, 3) := by decide +kernel
theorem dX3_write_47 : decode cX3_write 47 = .ok (.ireturn, 1) := by decide +kernel
theorem dX3_write_48 : decode cX3_write 48 = .ok (.aload_n 0, 1) := by decide +kernel
theorem dX3_write_49 : decode cX3_write 49 = .ok (.getfield 32, 3) := by decide +kernel
theorem dX3_write_52 : decode cX3_write 52 = .ok (.iload_n 1, 1) := by decide +kernel
theorem dX3_write_53 : decode cX3_write 53 = .ok (.iload_n 2, 1) := by decide +kernel
theorem dX3_write_54 : decode cX3_write 54 = .ok (.iload_n 3, 1) := by decide +kernel
theorem dX3_write_55 : decode cX3_write 55 = .ok (.invokevirtual 232, 3) := by decide +kernel
theorem dX3_write_58 : decode cX3_write 58 = .ok (.iconst 1, 1) := by decide +kernel
theorem dX3_write_59 : decode cX3_write 59 = .ok (.ireturn, 1) := by decide +kernel
theorem dX3_copy_0 : decode cX3_copy 0 = .ok (.iload_n 1, 1) := by decide +kernel
theorem dX3_copy_1 : decode cX3_copy 1 = .ok (.invokestatic 216, 3) := by decide +kernel
theorem dX3_copy_4 : decode cX3_copy 4 = .ok (.ifCond .eq 10, 3) := by decide +kernel
theorem dX3_copy_7 : decode cX3_copy 7 = .ok (.iload_n 3, 1) := by decide +kernel
theorem dX3_copy_8 : decode cX3_copy 8 = .ok (.invokestatic 216, 3) := by decide +kernel
theorem dX3_copy_11 : decode cX3_copy 11 = .ok (.ifCond .ne 10, 3) := by decide +kernel
theorem dX3_copy_14 : decode cX3_copy 14 = .ok (.aload_n 0, 1) := by decide +kernel
theorem dX3_copy_15 : decode cX3_copy 15 = .ok (.ldc 48, 2) := by decide +kernel
theorem dX3_copy_17 : decode cX3_copy 17 = .ok (.invokevirtual 49, 3) := by decide +kernel
theorem dX3_copy_20 : decode cX3_copy 20 = .ok (.ireturn, 1) := by decide +kernel
theorem dX3_copy_21 : decode cX3_copy 21 = .ok (.aload_n 0, 1) := by decide +kernel
theorem dX3_copy_22 : decode cX3_copy 22 = .ok (.getfield 32, 3) := by decide +kernel
theorem dX3_copy_25 : decode cX3_copy 25 = .ok (.iload_n 1, 1) := by decide +kernel
theorem dX3_copy_26 : decode cX3_copy 26 = .ok (.invokevirtual 235, 3) := by decide +kernel
theorem dX3_copy_29 : decode cX3_copy 29 = .ok (.ifCond .ne 14, 3) := by decide +kernel
theorem dX3_copy_32 : decode cX3_copy 32 = .ok (.aload_n 0, 1) := by decide +kernel
theorem dX3_copy_33 : decode cX3_copy 33 = .ok (.getfield 32, 3) := by decide +kernel
theorem dX3_copy_36 : decode cX3_copy 36 = .ok (.iload_n 3, 1) := by decide +kernel
theorem dX3_copy_37 : decode cX3_copy 37 = .ok (.invokevirtual 235, 3) := by decide +kernel
theorem dX3_copy_40 : decode cX3_copy 40 = .ok (.ifCond .eq 10, 3) := by decide +kernel
theorem dX3_copy_43 : decode cX3_copy 43 = .ok (.aload_n 0, 1) := by decide +kernel
theorem dX3_copy_44 : decode cX3_copy 44 = .ok (.ldc 210, 2) := by decide +kernel
theorem dX3_copy_46 : decode cX3_copy 46 = .ok (.invokevirtual 49, 3) := by decide +kernel
theorem dX3_copy_49 : decode cX3_copy 49 = .ok (.ireturn, 1) := by decide +kernel
theorem dX3_copy_50 : decode cX3_copy 50 = .ok (.aload_n 0, 1) := by decide +kernel
theorem dX3_copy_51 : decode cX3_copy 51 = .ok (.getfield 32, 3) := by decide +kernel
theorem dX3_copy_54 : decode cX3_copy 54 = .ok (.getfield 238, 3) := by decide +kernel
theorem dX3_copy_57 : decode cX3_copy 57 = .ok (.iload_n 1, 1) := by decide +kernel
theorem dX3_copy_58 : decode cX3_copy 58 = .ok (.iaload, 1) := by decide +kernel
theorem dX3_copy_59 : decode cX3_copy 59 = .ok (.aload_n 0, 1) := by decide +kernel
theorem dX3_copy_60 : decode cX3_copy 60 = .ok (.getfield 32, 3) := by decide +kernel
theorem dX3_copy_63 : decode cX3_copy 63 = .ok (.getfield 238, 3) := by decide +kernel
theorem dX3_copy_66 : decode cX3_copy 66 = .ok (.iload_n 3, 1) := by decide +kernel
theorem dX3_copy_67 : decode cX3_copy 67 = .ok (.iaload, 1) := by decide +kernel
theorem dX3_copy_68 : decode cX3_copy 68 = .ok (.if_icmp .eq 10, 3) := by decide +kernel
theorem dX3_copy_71 : decode cX3_copy 71 = .ok (.aload_n 0, 1) := by decide +kernel
theorem dX3_copy_72 : decode cX3_copy 72 = .ok (.ldc 215, 2) := by decide +kernel
theorem dX3_copy_74 : decode cX3_copy 74 = .ok (.invokevirtual 49, 3) := by decide +kernel
theorem dX3_copy_77 : decode cX3_copy 77 = .ok (.ireturn, 1) := by decide +kernel
theorem dX3_copy_78 : decode cX3_copy 78 = .ok (.aload_n 0, 1) := by decide +kernel
theorem dX3_copy_79 : decode cX3_copy 79 = .ok (.getfield 32, 3) := by decide +kernel
theorem dX3_copy_82 : decode cX3_copy 82 = .ok (.iload_n 1, 1) := by decide +kernel
theorem dX3_copy_83 : decode cX3_copy 83 = .ok (.iload_n 2, 1) := by decide +kernel
theorem dX3_copy_84 : decode cX3_copy 84 = .ok (.iload 5, 2) := by decide +kernel
theorem dX3_copy_86 : decode cX3_copy 86 = .ok (.invokevirtual 241, 3) := by decide +kernel
theorem dX3_copy_89 : decode cX3_copy 89 = .ok (.ifCond .eq 18, 3) := by decide +kernel
theorem dX3_copy_92 : decode cX3_copy 92 = .ok (.aload_n 0, 1) := by decide +kernel
theorem dX3_copy_93 : decode cX3_copy 93 = .ok (.getfield 32, 3) := by decide +kernel
theorem dX3_copy_96 : decode cX3_copy 96 = .ok (.iload_n 3, 1) := by decide +kernel
theorem dX3_copy_97 : decode cX3_copy 97 = .ok (.iload 4, 2) := by decide +kernel
theorem dX3_copy_99 : decode cX3_copy 99 = .ok (.iload 5, 2) := by decide +kernel
theorem dX3_copy_101 : decode cX3_copy 101 = .ok (.invokevirtual 241, 3) := by decide +kernel
theorem dX3_copy_104 : decode cX3_copy 104 = .ok (.ifCond .ne 10, 3) := by decide +kernel
theorem dX3_copy_107 : decode cX3_copy 107 = .ok (.aload_n 0, 1) := by decide +kernel
theorem dX3_copy_108 : decode cX3_copy 108 = .ok (.ldc 48, 2) := by decide +kernel
theorem dX3_copy_110 : decode cX3_copy 110 = .ok (.invokevirtual 49, 3) := by decide +kernel
theorem dX3_copy_113 : decode cX3_copy 113 = .ok (.ireturn, 1) := by decide +kernel
theorem dX3_copy_114 : decode cX3_copy 114 = .ok (.aload_n 0, 1) := by decide +kernel
theorem dX3_copy_115 : decode cX3_copy 115 = .ok (.getfield 32, 3) := by decide +kernel
theorem dX3_copy_118 : decode cX3_copy 118 = .ok (.getfield 244, 3) := by decide +kernel
theorem dX3_copy_121 : decode cX3_copy 121 = .ok (.iload_n 1, 1) := by decide +kernel
theorem dX3_copy_122 : decode cX3_copy 122 = .ok (.aaload, 1) := by decide +kernel
theorem dX3_copy_123 : decode cX3_copy 123 = .ok (.iload_n 2, 1) := by decide +kernel
theorem dX3_copy_124 : decode cX3_copy 124 = .ok (.aload_n 0, 1) := by decide +kernel
theorem dX3_copy_125 : decode cX3_copy 125 = .ok (.getfield 32, 3) := by decide +kernel
theorem dX3_copy_128 : decode cX3_copy 128 = .ok (.getfield 244, 3) := by decide +kernel
theorem dX3_copy_131 : decode cX3_copy 131 = .ok (.iload_n 3, 1) := by decide +kernel
theorem dX3_copy_132 : decode cX3_copy 132 = .ok (.aaload, 1) := by decide +kernel
theorem dX3_copy_133 : decode cX3_copy 133 = .ok (.iload 4, 2) := by decide +kernel
theorem dX3_copy_135 : decode cX3_copy 135 = .ok (.iload 5, 2) := by decide +kernel
theorem dX3_copy_137 : decode cX3_copy 137 = .ok (.invokestatic 247, 3) := by decide +kernel
theorem dX3_copy_140 : decode cX3_copy 140 = .ok (.iload 5, 2) := by decide +kernel
theorem dX3_copy_142 : decode cX3_copy 142 = .ok (.ireturn, 1) := by decide +kernel
theorem dX3_load_0 : decode cX3_load 0 = .ok (.aload_n 0, 1) := by decide +kernel
theorem dX3_load_1 : decode cX3_load 1 = .ok (.getfield 32, 3) := by decide +kernel
theorem dX3_load_4 : decode cX3_load 4 = .ok (.iload_n 1, 1) := by decide +kernel
theorem dX3_load_5 : decode cX3_load 5 = .ok (.invokevirtual 226, 3) := by decide +kernel
theorem dX3_load_8 : decode cX3_load 8 = .ok (.istore_n 2, 1) := by decide +kernel
theorem dX3_load_9 : decode cX3_load 9 = .ok (.iload_n 2, 1) := by decide +kernel
theorem dX3_load_10 : decode cX3_load 10 = .ok (.ifCond .eq 9, 3) := by decide +kernel
theorem dX3_load_13 : decode cX3_load 13 = .ok (.aload_n 0, 1) := by decide +kernel
theorem dX3_load_14 : decode cX3_load 14 = .ok (.iload_n 2, 1) := by decide +kernel
theorem dX3_load_15 : decode cX3_load 15 = .ok (.invokevirtual 49, 3) := by decide +kernel
theorem dX3_load_18 : decode cX3_load 18 = .ok (.ireturn, 1) := by decide +kernel
theorem dX3_load_19 : decode cX3_load 19 = .ok (.aload_n 0, 1) := by decide +kernel
theorem dX3_load_20 : decode cX3_load 20 = .ok (.getfield 32, 3) := by decide +kernel
theorem dX3_load_23 : decode cX3_load 23 = .ok (.getfield 229, 3) := by decide +kernel
theorem dX3_load_26 : decode cX3_load 26 = .ok (.iload_n 1, 1) := by decide +kernel
theorem dX3_load_27 : decode cX3_load 27 = .ok (.iaload, 1) := by decide +kernel
theorem dX3_load_28 : decode cX3_load 28 = .ok (.aload_n 0, 1) := by decide +kernel
theorem dX3_load_29 : decode cX3_load 29 = .ok (.getfield 12, 3) := by decide +kernel
theorem dX3_load_32 : decode cX3_load 32 = .ok (.getfield 163, 3) := by decide +kernel
theorem dX3_load_35 : decode cX3_load 35 = .ok (.invokestatic 253, 3) := by decide +kernel
theorem dX3_load_38 : decode cX3_load 38 = .ok (.istore_n 3, 1) := by decide +kernel
theorem dX3_load_39 : decode cX3_load 39 = .ok (.iconst 0, 1) := by decide +kernel
theorem dX3_load_40 : decode cX3_load 40 = .ok (.istore 4, 2) := by decide +kernel
theorem dX3_load_42 : decode cX3_load 42 = .ok (.iload 4, 2) := by decide +kernel
theorem dX3_load_44 : decode cX3_load 44 = .ok (.iload_n 3, 1) := by decide +kernel
theorem dX3_load_45 : decode cX3_load 45 = .ok (.if_icmp .ge 58, 3) := by decide +kernel
theorem dX3_load_48 : decode cX3_load 48 = .ok (.aload_n 0, 1) := by decide +kernel
theorem dX3_load_49 : decode cX3_load 49 = .ok (.getfield 32, 3) := by decide +kernel
theorem dX3_load_52 : decode cX3_load 52 = .ok (.getfield 244, 3) := by decide +kernel
theorem dX3_load_55 : decode cX3_load 55 = .ok (.iload_n 1, 1) := by decide +kernel
theorem dX3_load_56 : decode cX3_load 56 = .ok (.aaload, 1) := by decide +kernel
theorem dX3_load_57 : decode cX3_load 57 = .ok (.iload 4, 2) := by decide +kernel
theorem dX3_load_59 : decode cX3_load 59 = .ok (.iaload, 1) := by decide +kernel
theorem dX3_load_60 : decode cX3_load 60 = .ok (.istore 5, 2) := by decide +kernel
theorem dX3_load_62 : decode cX3_load 62 = .ok (.iload 5, 2) := by decide +kernel
theorem dX3_load_64 : decode cX3_load 64 = .ok (.getstatic 106, 3) := by decide +kernel
theorem dX3_load_67 : decode cX3_load 67 = .ok (.iconst 3, 1) := by decide +kernel
theorem dX3_load_68 : decode cX3_load 68 = .ok (.iaload, 1) := by decide +kernel
theorem dX3_load_69 : decode cX3_load 69 = .ok (.getstatic 109, 3) := by decide +kernel
theorem dX3_load_72 : decode cX3_load 72 = .ok (.iconst 3, 1) := by decide +kernel
theorem dX3_load_73 : decode cX3_load 73 = .ok (.iaload, 1) := by decide +kernel
theorem dX3_load_74 : decode cX3_load 74 = .ok (.invokestatic 44, 3) := by decide +kernel
theorem dX3_load_77 : decode cX3_load 77 = .ok (.ifCond .ne 6, 3) := by decide +kernel
theorem dX3_load_80 : decode cX3_load 80 = .ok (.iload 4, 2) := by decide +kernel
theorem dX3_load_82 : decode cX3_load 82 = .ok (.ireturn, 1) := by decide +kernel
theorem dX3_load_83 : decode cX3_load 83 = .ok (.aload_n 0, 1) := by decide +kernel
theorem dX3_load_84 : decode cX3_load 84 = .ok (.getfield 12, 3) := by decide +kernel
theorem dX3_load_87 : decode cX3_load 87 = .ok (.getfield 67, 3) := by decide +kernel
theorem dX3_load_90 : decode cX3_load 90 = .ok (.iconst 3, 1) := by decide +kernel
theorem dX3_load_91 : decode cX3_load 91 = .ok (.aaload, 1) := by decide +kernel
theorem dX3_load_92 : decode cX3_load 92 = .ok (.iload 4, 2) := by decide +kernel
theorem dX3_load_94 : decode cX3_load 94 = .ok (.iload 5, 2) := by decide +kernel
theorem dX3_load_96 : decode cX3_load 96 = .ok (.iastore, 1) := by decide +kernel
theorem dX3_load_97 : decode cX3_load 97 = .ok (.iinc 4 1, 3) := by decide +kernel
theorem dX3_load_100 : decode cX3_load 100 = .ok (.goto (-58), 3) := by decide +kernel
theorem dX3_load_103 : decode cX3_load 103 = .ok (.iload_n 3, 1) := by decide +kernel
theorem dX3_load_104 : decode cX3_load 104 = .ok (.ireturn, 1) := by decide +kernel
theorem dX3_judge_0 : decode cX3_judge 0 = .ok (.aload_n 0, 1) := by decide +kernel
theorem dX3_judge_1 : decode cX3_judge 1 = .ok (.getfield 32, 3) := by decide +kernel
theorem dX3_judge_4 : decode cX3_judge 4 = .ok (.iload_n 1, 1) := by decide +kernel
theorem dX3_judge_5 : decode cX3_judge 5 = .ok (.invokevirtual 226, 3) := by decide +kernel
theorem dX3_judge_8 : decode cX3_judge 8 = .ok (.istore_n 2, 1) := by decide +kernel
theorem dX3_judge_9 : decode cX3_judge 9 = .ok (.iload_n 2, 1) := by decide +kernel
theorem dX3_judge_10 : decode cX3_judge 10 = .ok (.ifCond .eq 9, 3) := by decide +kernel
theorem dX3_judge_13 : decode cX3_judge 13 = .ok (.aload_n 0, 1) := by decide +kernel
theorem dX3_judge_14 : decode cX3_judge 14 = .ok (.iload_n 2, 1) := by decide +kernel
theorem dX3_judge_15 : decode cX3_judge 15 = .ok (.invokevirtual 49, 3) := by decide +kernel
theorem dX3_judge_18 : decode cX3_judge 18 = .ok (.ireturn, 1) := by decide +kernel
theorem dX3_judge_19 : decode cX3_judge 19 = .ok (.iconst 0, 1) := by decide +kernel
theorem dX3_judge_20 : decode cX3_judge 20 = .ok (.istore_n 3, 1) := by decide +kernel
theorem dX3_judge_21 : decode cX3_judge 21 = .ok (.iload_n 3, 1) := by decide +kernel
theorem dX3_judge_22 : decode cX3_judge 22 = .ok (.aload_n 0, 1) := by decide +kernel
theorem dX3_judge_23 : decode cX3_judge 23 = .ok (.getfield 32, 3) := by decide +kernel
theorem dX3_judge_26 : decode cX3_judge 26 = .ok (.getfield 229, 3) := by decide +kernel
theorem dX3_judge_29 : decode cX3_judge 29 = .ok (.iload_n 1, 1) := by decide +kernel
theorem dX3_judge_30 : decode cX3_judge 30 = .ok (.iaload, 1) := by decide +kernel
theorem dX3_judge_31 : decode cX3_judge 31 = .ok (.if_icmp .ge 45, 3) := by decide +kernel
theorem dX3_judge_34 : decode cX3_judge 34 = .ok (.iload_n 3, 1) := by decide +kernel
theorem dX3_judge_35 : decode cX3_judge 35 = .ok (.invokestatic 40, 3) := by decide +kernel
theorem dX3_judge_38 : decode cX3_judge 38 = .ok (.ifCond .eq 28, 3) := by decide +kernel
theorem dX3_judge_41 : decode cX3_judge 41 = .ok (.aload_n 0, 1) := by decide +kernel
theorem dX3_judge_42 : decode cX3_judge 42 = .ok (.getfield 32, 3) := by decide +kernel
theorem dX3_judge_45 : decode cX3_judge 45 = .ok (.getfield 244, 3) := by decide +kernel
theorem dX3_judge_48 : decode cX3_judge 48 = .ok (.iload_n 1, 1) := by decide +kernel
theorem dX3_judge_49 : decode cX3_judge 49 = .ok (.aaload, 1) := by decide +kernel
theorem dX3_judge_50 : decode cX3_judge 50 = .ok (.iload_n 3, 1) := by decide +kernel
theorem dX3_judge_51 : decode cX3_judge 51 = .ok (.iaload, 1) := by decide +kernel
theorem dX3_judge_52 : decode cX3_judge 52 = .ok (.aload_n 0, 1) := by decide +kernel
theorem dX3_judge_53 : decode cX3_judge 53 = .ok (.getfield 12, 3) := by decide +kernel
theorem dX3_judge_56 : decode cX3_judge 56 = .ok (.getfield 53, 3) := by decide +kernel
theorem dX3_judge_59 : decode cX3_judge 59 = .ok (.iconst 0, 1) := by decide +kernel
theorem dX3_judge_60 : decode cX3_judge 60 = .ok (.aaload, 1) := by decide +kernel
theorem dX3_judge_61 : decode cX3_judge 61 = .ok (.iload_n 3, 1) := by decide +kernel
theorem dX3_judge_62 : decode cX3_judge 62 = .ok (.iaload, 1) := by decide +kernel
theorem dX3_judge_63 : decode cX3_judge 63 = .ok (.if_icmp .eq 7, 3) := by decide +kernel
theorem dX3_judge_66 : decode cX3_judge 66 = .ok (.iconst 1, 1) := by decide +kernel
theorem dX3_judge_67 : decode cX3_judge 67 = .ok (.iload_n 3, 1) := by decide +kernel
theorem dX3_judge_68 : decode cX3_judge 68 = .ok (.iadd, 1) := by decide +kernel
theorem dX3_judge_69 : decode cX3_judge 69 = .ok (.ireturn, 1) := by decide +kernel
theorem dX3_judge_70 : decode cX3_judge 70 = .ok (.iinc 3 1, 3) := by decide +kernel
theorem dX3_judge_73 : decode cX3_judge 73 = .ok (.goto (-52), 3) := by decide +kernel
theorem dX3_judge_76 : decode cX3_judge 76 = .ok (.iconst 0, 1) := by decide +kernel
theorem dX3_judge_77 : decode cX3_judge 77 = .ok (.ireturn, 1) := by decide +kernel
theorem dX3_image_0 : decode cX3_image 0 = .ok (.aload_n 0, 1) := by decide +kernel
theorem dX3_image_1 : decode cX3_image 1 = .ok (.getfield 19, 3) := by decide +kernel
theorem dX3_image_4 : decode cX3_image 4 = .ok (.aload_n 0, 1) := by decide +kernel
theorem dX3_image_5 : decode cX3_image 5 = .ok (.getfield 12, 3) := by decide +kernel
theorem dX3_image_8 : decode cX3_image 8 = .ok (.invokevirtual 142, 3) := by decide +kernel
theorem dX3_image_11 : decode cX3_image 11 = .ok (.aload_n 0, 1) := by decide +kernel
theorem dX3_image_12 : decode cX3_image 12 = .ok (.iconst 1, 1) := by decide +kernel
theorem dX3_image_13 : decode cX3_image 13 = .ok (.putfield 258, 3) := by decide +kernel
theorem dX3_image_16 : decode cX3_image 16 = .ok (.iconst 1, 1) := by decide +kernel
theorem dX3_image_17 : decode cX3_image 17 = .ok (.ireturn, 1) := by decide +kernel
theorem dX3_undo_0 : decode cX3_undo 0 = .ok (.aload_n 0, 1) := by decide +kernel
theorem dX3_undo_1 : decode cX3_undo 1 = .ok (.getfield 258, 3) := by decide +kernel
theorem dX3_undo_4 : decode cX3_undo 4 = .ok (.ifCond .ne 10, 3) := by decide +kernel
theorem dX3_undo_7 : decode cX3_undo 7 = .ok (.aload_n 0, 1) := by decide +kernel
theorem dX3_undo_8 : decode cX3_undo 8 = .ok (.ldc 155, 2) := by decide +kernel
theorem dX3_undo_10 : decode cX3_undo 10 = .ok (.invokevirtual 49, 3) := by decide +kernel
theorem dX3_undo_13 : decode cX3_undo 13 = .ok (.ireturn, 1) := by decide +kernel
theorem dX3_undo_14 : decode cX3_undo 14 = .ok (.aload_n 0, 1) := by decide +kernel
theorem dX3_undo_15 : decode cX3_undo 15 = .ok (.getfield 12, 3) := by decide +kernel
theorem dX3_undo_18 : decode cX3_undo 18 = .ok (.aload_n 0, 1) := by decide +kernel
theorem dX3_undo_19 : decode cX3_undo 19 = .ok (.getfield 19, 3) := by decide +kernel
theorem dX3_undo_22 : decode cX3_undo 22 = .ok (.invokevirtual 142, 3) := by decide +kernel
theorem dX3_undo_25 : decode cX3_undo 25 = .ok (.aload_n 0, 1) := by decide +kernel
theorem dX3_undo_26 : decode cX3_undo 26 = .ok (.getfield 12, 3) := by decide +kernel
theorem dX3_undo_29 : decode cX3_undo 29 = .ok (.getfield 112, 3) := by decide +kernel
theorem dX3_undo_32 : decode cX3_undo 32 = .ok (.ireturn, 1) := by decide +kernel
theorem dX3_tear_0 : decode cX3_tear 0 = .ok (.aload_n 0, 1) := by decide +kernel
theorem dX3_tear_1 : decode cX3_tear 1 = .ok (.getfield 258, 3) := by decide +kernel
theorem dX3_tear_4 : decode cX3_tear 4 = .ok (.ifCond .eq 7, 3) := by decide +kernel
theorem dX3_tear_7 : decode cX3_tear 7 = .ok (.iconst 1, 1) := by decide +kernel
theorem dX3_tear_8 : decode cX3_tear 8 = .ok (.goto 4, 3) := by decide +kernel
theorem dX3_tear_11 : decode cX3_tear 11 = .ok (.iconst 0, 1) := by decide +kernel
theorem dX3_tear_12 : decode cX3_tear 12 = .ok (.istore_n 1, 1) := by decide +kernel
theorem dX3_tear_13 : decode cX3_tear 13 = .ok (.aload_n 0, 1) := by decide +kernel
theorem dX3_tear_14 : decode cX3_tear 14 = .ok (.iconst 0, 1) := by decide +kernel
theorem dX3_tear_15 : decode cX3_tear 15 = .ok (.putfield 258, 3) := by decide +kernel
theorem dX3_tear_18 : decode cX3_tear 18 = .ok (.iload_n 1, 1) := by decide +kernel
theorem dX3_tear_19 : decode cX3_tear 19 = .ok (.ireturn, 1) := by decide +kernel
theorem dX3_count_0 : decode cX3_count 0 = .ok (.iload_n 1, 1) := by decide +kernel
theorem dX3_count_1 : decode cX3_count 1 = .ok (.tableswitch 111 0 7 #[47, 55, 63, 71, 79, 87, 95, 103], 47) := by decide +kernel
theorem dX3_count_48 : decode cX3_count 48 = .ok (.aload_n 0, 1) := by decide +kernel
theorem dX3_count_49 : decode cX3_count 49 = .ok (.getfield 12, 3) := by decide +kernel
theorem dX3_count_52 : decode cX3_count 52 = .ok (.getfield 112, 3) := by decide +kernel
theorem dX3_count_55 : decode cX3_count 55 = .ok (.ireturn, 1) := by decide +kernel
theorem dX3_count_56 : decode cX3_count 56 = .ok (.aload_n 0, 1) := by decide +kernel
theorem dX3_count_57 : decode cX3_count 57 = .ok (.getfield 12, 3) := by decide +kernel
theorem dX3_count_60 : decode cX3_count 60 = .ok (.getfield 163, 3) := by decide +kernel
theorem dX3_count_63 : decode cX3_count 63 = .ok (.ireturn, 1) := by decide +kernel
theorem dX3_count_64 : decode cX3_count 64 = .ok (.aload_n 0, 1) := by decide +kernel
theorem dX3_count_65 : decode cX3_count 65 = .ok (.getfield 12, 3) := by decide +kernel
theorem dX3_count_68 : decode cX3_count 68 = .ok (.invokevirtual 121, 3) := by decide +kernel
theorem dX3_count_71 : decode cX3_count 71 = .ok (.ireturn, 1) := by decide +kernel
theorem dX3_count_72 : decode cX3_count 72 = .ok (.aload_n 0, 1) := by decide +kernel
theorem dX3_count_73 : decode cX3_count 73 = .ok (.getfield 12, 3) := by decide +kernel
theorem dX3_count_76 : decode cX3_count 76 = .ok (.getfield 124, 3) := by decide +kernel
theorem dX3_count_79 : decode cX3_count 79 = .ok (.ireturn, 1) := by decide +kernel
theorem dX3_count_80 : decode cX3_count 80 = .ok (.aload_n 0, 1) := by decide +kernel
theorem dX3_count_81 : decode cX3_count 81 = .ok (.getfield 12, 3) := by decide +kernel
theorem dX3_count_84 : decode cX3_count 84 = .ok (.invokevirtual 136, 3) := by decide +kernel
theorem dX3_count_87 : decode cX3_count 87 = .ok (.ireturn, 1) := by decide +kernel
theorem dX3_count_88 : decode cX3_count 88 = .ok (.aload_n 0, 1) := by decide +kernel
theorem dX3_count_89 : decode cX3_count 89 = .ok (.getfield 25, 3) := by decide +kernel
theorem dX3_count_92 : decode cX3_count 92 = .ok (.getfield 200, 3) := by decide +kernel
theorem dX3_count_95 : decode cX3_count 95 = .ok (.ireturn, 1) := by decide +kernel
theorem dX3_count_96 : decode cX3_count 96 = .ok (.aload_n 0, 1) := by decide +kernel
theorem dX3_count_97 : decode cX3_count 97 = .ok (.getfield 12, 3) := by decide +kernel
theorem dX3_count_100 : decode cX3_count 100 = .ok (.getfield 192, 3) := by decide +kernel
theorem dX3_count_103 : decode cX3_count 103 = .ok (.ireturn, 1) := by decide +kernel
theorem dX3_count_104 : decode cX3_count 104 = .ok (.aload_n 0, 1) := by decide +kernel
theorem dX3_count_105 : decode cX3_count 105 = .ok (.getfield 12, 3) := by decide +kernel
theorem dX3_count_108 : decode cX3_count 108 = .ok (.invokevirtual 262, 3) := by decide +kernel
theorem dX3_count_111 : decode cX3_count 111 = .ok (.ireturn, 1) := by decide +kernel
theorem dX3_count_112 : decode cX3_count 112 = .ok (.aload_n 0, 1) := by decide +kernel
theorem dX3_count_113 : decode cX3_count 113 = .ok (.ldc 48, 2) := by decide +kernel
theorem dX3_count_115 : decode cX3_count 115 = .ok (.invokevirtual 49, 3) := by decide +kernel
theorem dX3_count_118 : decode cX3_count 118 = .ok (.ireturn, 1) := by decide +kernel
theorem dX3_status_0 : decode cX3_status 0 = .ok (.iload_n 1, 1) := by decide +kernel
theorem dX3_status_1 : decode cX3_status 1 = .ok (.iconst (-1), 1) := by decide +kernel
theorem dX3_status_2 : decode cX3_status 2 = .ok (.bipush 6, 2) := by decide +kernel
theorem dX3_status_4 : decode cX3_status 4 = .ok (.invokestatic 44, 3) := by decide +kernel
theorem dX3_status_7 : decode cX3_status 7 = .ok (.ifCond .ne 10, 3) := by decide +kernel
theorem dX3_status_10 : decode cX3_status 10 = .ok (.aload_n 0, 1) := by decide +kernel
theorem dX3_status_11 : decode cX3_status 11 = .ok (.ldc 48, 2) := by decide +kernel
theorem dX3_status_13 : decode cX3_status 13 = .ok (.invokevirtual 49, 3) := by decide +kernel
theorem dX3_status_16 : decode cX3_status 16 = .ok (.ireturn, 1) := by decide +kernel
theorem dX3_status_17 : decode cX3_status 17 = .ok (.iload_n 1, 1) := by decide +kernel
theorem dX3_status_18 : decode cX3_status 18 = .ok (.ifCond .lt 10, 3) := by decide +kernel
theorem dX3_status_21 : decode cX3_status 21 = .ok (.aload_n 0, 1) := by decide +kernel
theorem dX3_status_22 : decode cX3_status 22 = .ok (.getfield 36, 3) := by decide +kernel
theorem dX3_status_25 : decode cX3_status 25 = .ok (.iload_n 1, 1) := by decide +kernel
theorem dX3_status_26 : decode cX3_status 26 = .ok (.iaload, 1) := by decide +kernel
theorem dX3_status_27 : decode cX3_status 27 = .ok (.ireturn, 1) := by decide +kernel
theorem dX3_status_28 : decode cX3_status 28 = .ok (.iconst 0, 1) := by decide +kernel
theorem dX3_status_29 : decode cX3_status 29 = .ok (.istore_n 2, 1) := by decide +kernel
theorem dX3_status_30 : decode cX3_status 30 = .ok (.iconst 0, 1) := by decide +kernel
theorem dX3_status_31 : decode cX3_status 31 = .ok (.istore_n 3, 1) := by decide +kernel
theorem dX3_status_32 : decode cX3_status 32 = .ok (.iload_n 3, 1) := by decide +kernel
theorem dX3_status_33 : decode cX3_status 33 = .ok (.bipush 7, 2) := by decide +kernel
theorem dX3_status_35 : decode cX3_status 35 = .ok (.if_icmp .ge 18, 3) := by decide +kernel
theorem dX3_status_38 : decode cX3_status 38 = .ok (.iload_n 2, 1) := by decide +kernel
theorem dX3_status_39 : decode cX3_status 39 = .ok (.aload_n 0, 1) := by decide +kernel
theorem dX3_status_40 : decode cX3_status 40 = .ok (.getfield 36, 3) := by decide +kernel
theorem dX3_status_43 : decode cX3_status 43 = .ok (.iload_n 3, 1) := by decide +kernel
theorem dX3_status_44 : decode cX3_status 44 = .ok (.iaload, 1) := by decide +kernel
theorem dX3_status_45 : decode cX3_status 45 = .ok (.iadd, 1) := by decide +kernel
theorem dX3_status_46 : decode cX3_status 46 = .ok (.istore_n 2, 1) := by decide +kernel
theorem dX3_status_47 : decode cX3_status 47 = .ok (.iinc 3 1, 3) := by decide +kernel
theorem dX3_status_50 : decode cX3_status 50 = .ok (.goto (-18), 3) := by decide +kernel
theorem dX3_status_53 : decode cX3_status 53 = .ok (.iload_n 2, 1) := by decide +kernel
theorem dX3_status_54 : decode cX3_status 54 = .ok (.ireturn, 1) := by decide +kernel
theorem dX3_tell_0 : decode cX3_tell 0 = .ok (.ldc 48, 2) := by decide +kernel
theorem dX3_tell_2 : decode cX3_tell 2 = .ok (.iload_n 1, 1) := by decide +kernel
theorem dX3_tell_3 : decode cX3_tell 3 = .ok (.isub, 1) := by decide +kernel
theorem dX3_tell_4 : decode cX3_tell 4 = .ok (.istore_n 2, 1) := by decide +kernel
theorem dX3_tell_5 : decode cX3_tell 5 = .ok (.iload_n 2, 1) := by decide +kernel
theorem dX3_tell_6 : decode cX3_tell 6 = .ok (.iconst 0, 1) := by decide +kernel
theorem dX3_tell_7 : decode cX3_tell 7 = .ok (.bipush 6, 2) := by decide +kernel
theorem dX3_tell_9 : decode cX3_tell 9 = .ok (.invokestatic 44, 3) := by decide +kernel
theorem dX3_tell_12 : decode cX3_tell 12 = .ok (.ifCond .eq 13, 3) := by decide +kernel
theorem dX3_tell_15 : decode cX3_tell 15 = .ok (.aload_n 0, 1) := by decide +kernel
theorem dX3_tell_16 : decode cX3_tell 16 = .ok (.getfield 36, 3) := by decide +kernel
theorem dX3_tell_19 : decode cX3_tell 19 = .ok (.iload_n 2, 1) := by decide +kernel
theorem dX3_tell_20 : decode cX3_tell 20 = .ok (.dup2, 1) := by decide +kernel
theorem dX3_tell_21 : decode cX3_tell 21 = .ok (.iaload, 1) := by decide +kernel
theorem dX3_tell_22 : decode cX3_tell 22 = .ok (.iconst 1, 1) := by decide +kernel
theorem dX3_tell_23 : decode cX3_tell 23 = .ok (.iadd, 1) := by decide +kernel
theorem dX3_tell_24 : decode cX3_tell 24 = .ok (.iastore, 1) := by decide +kernel
theorem dX3_tell_25 : decode cX3_tell 25 = .ok (.iload_n 1, 1) := by decide +kernel
theorem dX3_tell_26 : decode cX3_tell 26 = .ok (.ireturn, 1) := by decide +kernel
theorem dX3_within_0 : decode cX3_within 0 = .ok (.iload_n 0, 1) := by decide +kernel
theorem dX3_within_1 : decode cX3_within 1 = .ok (.iload_n 1, 1) := by decide +kernel
theorem dX3_within_2 : decode cX3_within 2 = .ok (.if_icmp .lt 12, 3) := by decide +kernel
theorem dX3_within_5 : decode cX3_within 5 = .ok (.iload_n 0, 1) := by decide +kernel
theorem dX3_within_6 : decode cX3_within 6 = .ok (.iload_n 2, 1) := by decide +kernel
theorem dX3_within_7 : decode cX3_within 7 = .ok (.if_icmp .gt 7, 3) := by decide +kernel
theorem dX3_within_10 : decode cX3_within 10 = .ok (.iconst 1, 1) := by decide +kernel
theorem dX3_within_11 : decode cX3_within 11 = .ok (.goto 4, 3) := by decide +kernel
theorem dX3_within_14 : decode cX3_within 14 = .ok (.iconst 0, 1) := by decide +kernel
theorem dX3_within_15 : decode cX3_within 15 = .ok (.ireturn, 1) := by decide +kernel
theorem dX3_isCell_0 : decode cX3_isCell 0 = .ok (.iload_n 0, 1) := by decide +kernel
theorem dX3_isCell_1 : decode cX3_isCell 1 = .ok (.iconst 0, 1) := by decide +kernel
theorem dX3_isCell_2 : decode cX3_isCell 2 = .ok (.bipush 23, 2) := by decide +kernel
theorem dX3_isCell_4 : decode cX3_isCell 4 = .ok (.invokestatic 44, 3) := by decide +kernel
theorem dX3_isCell_7 : decode cX3_isCell 7 = .ok (.ireturn, 1) := by decide +kernel
theorem dX3_isUnder_0 : decode cX3_isUnder 0 = .ok (.iload_n 0, 1) := by decide +kernel
theorem dX3_isUnder_1 : decode cX3_isUnder 1 = .ok (.istore_n 2, 1) := by decide +kernel
theorem dX3_isUnder_2 : decode cX3_isUnder 2 = .ok (.iconst 0, 1) := by decide +kernel
theorem dX3_isUnder_3 : decode cX3_isUnder 3 = .ok (.istore_n 3, 1) := by decide +kernel
theorem dX3_isUnder_4 : decode cX3_isUnder 4 = .ok (.iload_n 3, 1) := by decide +kernel
theorem dX3_isUnder_5 : decode cX3_isUnder 5 = .ok (.bipush 7, 2) := by decide +kernel
theorem dX3_isUnder_7 : decode cX3_isUnder 7 = .ok (.if_icmp .ge 34, 3) := by decide +kernel
theorem dX3_isUnder_10 : decode cX3_isUnder 10 = .ok (.iload_n 2, 1) := by decide +kernel
theorem dX3_isUnder_11 : decode cX3_isUnder 11 = .ok (.iload_n 1, 1) := by decide +kernel
theorem dX3_isUnder_12 : decode cX3_isUnder 12 = .ok (.if_icmp .ne 5, 3) := by decide +kernel
theorem dX3_isUnder_15 : decode cX3_isUnder 15 = .ok (.iconst 1, 1) := by decide +kernel
theorem dX3_isUnder_16 : decode cX3_isUnder 16 = .ok (.ireturn, 1) := by decide +kernel
theorem dX3_isUnder_17 : decode cX3_isUnder 17 = .ok (.iload_n 2, 1) := by decide +kernel
theorem dX3_isUnder_18 : decode cX3_isUnder 18 = .ok (.iconst 0, 1) := by decide +kernel
theorem dX3_isUnder_19 : decode cX3_isUnder 19 = .ok (.bipush 6, 2) := by decide +kernel
theorem dX3_isUnder_21 : decode cX3_isUnder 21 = .ok (.invokestatic 44, 3) := by decide +kernel
theorem dX3_isUnder_24 : decode cX3_isUnder 24 = .ok (.ifCond .ne 5, 3) := by decide +kernel
theorem dX3_isUnder_27 : decode cX3_isUnder 27 = .ok (.iconst 0, 1) := by decide +kernel
theorem dX3_isUnder_28 : decode cX3_isUnder 28 = .ok (.ireturn, 1) := by decide +kernel
theorem dX3_isUnder_29 : decode cX3_isUnder 29 = .ok (.getstatic 265, 3) := by decide +kernel
theorem dX3_isUnder_32 : decode cX3_isUnder 32 = .ok (.iload_n 2, 1) := by decide +kernel
theorem dX3_isUnder_33 : decode cX3_isUnder 33 = .ok (.iaload, 1) := by decide +kernel
theorem dX3_isUnder_34 : decode cX3_isUnder 34 = .ok (.istore_n 2, 1) := by decide +kernel
theorem dX3_isUnder_35 : decode cX3_isUnder 35 = .ok (.iinc 3 1, 3) := by decide +kernel
theorem dX3_isUnder_38 : decode cX3_isUnder 38 = .ok (.goto (-34), 3) := by decide +kernel
theorem dX3_isUnder_41 : decode cX3_isUnder 41 = .ok (.iconst 0, 1) := by decide +kernel
theorem dX3_isUnder_42 : decode cX3_isUnder 42 = .ok (.ireturn, 1) := by decide +kernel
theorem dX3_power_0 : decode cX3_power 0 = .ok (.lconst 1, 1) := by decide +kernel
theorem dX3_power_1 : decode cX3_power 1 = .ok (.lstore_n 3, 1) := by decide +kernel
theorem dX3_power_2 : decode cX3_power 2 = .ok (.iconst 0, 1) := by decide +kernel
theorem dX3_power_3 : decode cX3_power 3 = .ok (.istore 5, 2) := by decide +kernel
theorem dX3_power_5 : decode cX3_power 5 = .ok (.iload 5, 2) := by decide +kernel
theorem dX3_power_7 : decode cX3_power 7 = .ok (.iload_n 2, 1) := by decide +kernel
theorem dX3_power_8 : decode cX3_power 8 = .ok (.if_icmp .ge 13, 3) := by decide +kernel
theorem dX3_power_11 : decode cX3_power 11 = .ok (.lload_n 3, 1) := by decide +kernel
theorem dX3_power_12 : decode cX3_power 12 = .ok (.lload_n 0, 1) := by decide +kernel
theorem dX3_power_13 : decode cX3_power 13 = .ok (.lmul, 1) := by decide +kernel
theorem dX3_power_14 : decode cX3_power 14 = .ok (.lstore_n 3, 1) := by decide +kernel
theorem dX3_power_15 : decode cX3_power 15 = .ok (.iinc 5 1, 3) := by decide +kernel
theorem dX3_power_18 : decode cX3_power 18 = .ok (.goto (-13), 3) := by decide +kernel
theorem dX3_power_21 : decode cX3_power 21 = .ok (.lload_n 3, 1) := by decide +kernel
theorem dX3_power_22 : decode cX3_power 22 = .ok (.lreturn, 1) := by decide +kernel
theorem dX3_hoursUntilWhose_0 : decode cX3_hoursUntilWhose 0 = .ok (.aload_n 0, 1) := by decide +kernel
theorem dX3_hoursUntilWhose_1 : decode cX3_hoursUntilWhose 1 = .ok (.getfield 16, 3) := by decide +kernel
theorem dX3_hoursUntilWhose_4 : decode cX3_hoursUntilWhose 4 = .ok (.aload_n 0, 1) := by decide +kernel
theorem dX3_hoursUntilWhose_5 : decode cX3_hoursUntilWhose 5 = .ok (.getfield 12, 3) := by decide +kernel
theorem dX3_hoursUntilWhose_8 : decode cX3_hoursUntilWhose 8 = .ok (.invokevirtual 142, 3) := by decide +kernel
theorem dX3_hoursUntilWhose_11 : decode cX3_hoursUntilWhose 11 = .ok (.iconst 0, 1) := by decide +kernel
theorem dX3_hoursUntilWhose_12 : decode cX3_hoursUntilWhose 12 = .ok (.istore_n 3, 1) := by decide +kernel
theorem dX3_hoursUntilWhose_13 : decode cX3_hoursUntilWhose 13 = .ok (.iload_n 3, 1) := by decide +kernel
theorem dX3_hoursUntilWhose_14 : decode cX3_hoursUntilWhose 14 = .ok (.sipush 200, 3) := by decide +kernel
theorem dX3_hoursUntilWhose_17 : decode cX3_hoursUntilWhose 17 = .ok (.if_icmp .gt 34, 3) := by decide +kernel
theorem dX3_hoursUntilWhose_20 : decode cX3_hoursUntilWhose 20 = .ok (.aload_n 0, 1) := by decide +kernel
theorem dX3_hoursUntilWhose_21 : decode cX3_hoursUntilWhose 21 = .ok (.getfield 16, 3) := by decide +kernel
theorem dX3_hoursUntilWhose_24 : decode cX3_hoursUntilWhose 24 = .ok (.getfield 53, 3) := by decide +kernel
theorem dX3_hoursUntilWhose_27 : decode cX3_hoursUntilWhose 27 = .ok (.iconst 0, 1) := by decide +kernel
theorem dX3_hoursUntilWhose_28 : decode cX3_hoursUntilWhose 28 = .ok (.aaload, 1) := by decide +kernel
theorem dX3_hoursUntilWhose_29 : decode cX3_hoursUntilWhose 29 = .ok (.iload_n 1, 1) := by decide +kernel
theorem dX3_hoursUntilWhose_30 : decode cX3_hoursUntilWhose 30 = .ok (.iaload, 1) := by decide +kernel
theorem dX3_hoursUntilWhose_31 : decode cX3_hoursUntilWhose 31 = .ok (.iload_n 2, 1) := by decide +kernel
theorem dX3_hoursUntilWhose_32 : decode cX3_hoursUntilWhose 32 = .ok (.if_icmp .ne 5, 3) := by decide +kernel
theorem dX3_hoursUntilWhose_35 : decode cX3_hoursUntilWhose 35 = .ok (.iload_n 3, 1) := by decide +kernel
theorem dX3_hoursUntilWhose_36 : decode cX3_hoursUntilWhose 36 = .ok (.ireturn, 1) := by decide +kernel
theorem dX3_hoursUntilWhose_37 : decode cX3_hoursUntilWhose 37 = .ok (.aload_n 0, 1) := by decide +kernel
theorem dX3_hoursUntilWhose_38 : decode cX3_hoursUntilWhose 38 = .ok (.getfield 16, 3) := by decide +kernel
theorem dX3_hoursUntilWhose_41 : decode cX3_hoursUntilWhose 41 = .ok (.iconst 0, 1) := by decide +kernel
theorem dX3_hoursUntilWhose_42 : decode cX3_hoursUntilWhose 42 = .ok (.invokevirtual 152, 3) := by decide +kernel
theorem dX3_hoursUntilWhose_45 : decode cX3_hoursUntilWhose 45 = .ok (.iinc 3 1, 3) := by decide +kernel
theorem dX3_hoursUntilWhose_48 : decode cX3_hoursUntilWhose 48 = .ok (.goto (-35), 3) := by decide +kernel
theorem dX3_hoursUntilWhose_51 : decode cX3_hoursUntilWhose 51 = .ok (.aload_n 0, 1) := by decide +kernel
theorem dX3_hoursUntilWhose_52 : decode cX3_hoursUntilWhose 52 = .ok (.ldc 155, 2) := by decide +kernel
theorem dX3_hoursUntilWhose_54 : decode cX3_hoursUntilWhose 54 = .ok (.invokevirtual 49, 3) := by decide +kernel
theorem dX3_hoursUntilWhose_57 : decode cX3_hoursUntilWhose 57 = .ok (.ireturn, 1) := by decide +kernel
theorem dX3_tryTrait_0 : decode cX3_tryTrait 0 = .ok (.aload_n 0, 1) := by decide +kernel
theorem dX3_tryTrait_1 : decode cX3_tryTrait 1 = .ok (.getfield 16, 3) := by decide +kernel
theorem dX3_tryTrait_4 : decode cX3_tryTrait 4 = .ok (.aload_n 0, 1) := by decide +kernel
theorem dX3_tryTrait_5 : decode cX3_tryTrait 5 = .ok (.getfield 12, 3) := by decide +kernel
theorem dX3_tryTrait_8 : decode cX3_tryTrait 8 = .ok (.invokevirtual 142, 3) := by decide +kernel
theorem dX3_tryTrait_11 : decode cX3_tryTrait 11 = .ok (.aload_n 0, 1) := by decide +kernel
theorem dX3_tryTrait_12 : decode cX3_tryTrait 12 = .ok (.getfield 16, 3) := by decide +kernel
theorem dX3_tryTrait_15 : decode cX3_tryTrait 15 = .ok (.getfield 67, 3) := by decide +kernel
theorem dX3_tryTrait_18 : decode cX3_tryTrait 18 = .ok (.iload_n 2, 1) := by decide +kernel
theorem dX3_tryTrait_19 : decode cX3_tryTrait 19 = .ok (.aaload, 1) := by decide +kernel
theorem dX3_tryTrait_20 : decode cX3_tryTrait 20 = .ok (.iload_n 1, 1) := by decide +kernel
theorem dX3_tryTrait_21 : decode cX3_tryTrait 21 = .ok (.iload_n 3, 1) := by decide +kernel
theorem dX3_tryTrait_22 : decode cX3_tryTrait 22 = .ok (.iastore, 1) := by decide +kernel
theorem dX3_tryTrait_23 : decode cX3_tryTrait 23 = .ok (.aload_n 0, 1) := by decide +kernel
theorem dX3_tryTrait_24 : decode cX3_tryTrait 24 = .ok (.getfield 16, 3) := by decide +kernel
theorem dX3_tryTrait_27 : decode cX3_tryTrait 27 = .ok (.iload 4, 2) := by decide +kernel
theorem dX3_tryTrait_29 : decode cX3_tryTrait 29 = .ok (.iconst 0, 1) := by decide +kernel
theorem dX3_tryTrait_30 : decode cX3_tryTrait 30 = .ok (.invokevirtual 117, 3) := by decide +kernel
theorem dX3_tryTrait_33 : decode cX3_tryTrait 33 = .ok (.return_, 1) := by decide +kernel
theorem dX3_traitForMostWork_0 : decode cX3_traitForMostWork 0 = .ok (.aload_n 0, 1) := by decide +kernel
theorem dX3_traitForMostWork_1 : decode cX3_traitForMostWork 1 = .ok (.getfield 12, 3) := by decide +kernel
theorem dX3_traitForMostWork_4 : decode cX3_traitForMostWork 4 = .ok (.iload_n 1, 1) := by decide +kernel
theorem dX3_traitForMostWork_5 : decode cX3_traitForMostWork 5 = .ok (.invokevirtual 91, 3) := by decide +kernel
theorem dX3_traitForMostWork_8 : decode cX3_traitForMostWork 8 = .ok (.ifCond .eq 13, 3) := by decide +kernel
theorem dX3_traitForMostWork_11 : decode cX3_traitForMostWork 11 = .ok (.iload_n 3, 1) := by decide +kernel
theorem dX3_traitForMostWork_12 : decode cX3_traitForMostWork 12 = .ok (.iconst 0, 1) := by decide +kernel
theorem dX3_traitForMostWork_13 : decode cX3_traitForMostWork 13 = .ok (.bipush 40, 2) := by decide +kernel
theorem dX3_traitForMostWork_15 : decode cX3_traitForMostWork 15 = .ok (.invokestatic 44, 3) := by decide +kernel
theorem dX3_traitForMostWork_18 : decode cX3_traitForMostWork 18 = .ok (.ifCond .ne 10, 3) := by decide +kernel
theorem dX3_traitForMostWork_21 : decode cX3_traitForMostWork 21 = .ok (.aload_n 0, 1) := by decide +kernel
theorem dX3_traitForMostWork_22 : decode cX3_traitForMostWork 22 = .ok (.ldc 48, 2) := by decide +kernel
theorem dX3_traitForMostWork_24 : decode cX3_traitForMostWork 24 = .ok (.invokevirtual 49, 3) := by decide +kernel
theorem dX3_traitForMostWork_27 : decode cX3_traitForMostWork 27 = .ok (.ireturn, 1) := by decide +kernel
theorem dX3_traitForMostWork_28 : decode cX3_traitForMostWork 28 = .ok (.getstatic 106, 3) := by decide +kernel
theorem dX3_traitForMostWork_31 : decode cX3_traitForMostWork 31 = .ok (.iload_n 2, 1) := by decide +kernel
theorem dX3_traitForMostWork_32 : decode cX3_traitForMostWork 32 = .ok (.iaload, 1) := by decide +kernel
theorem dX3_traitForMostWork_33 : decode cX3_traitForMostWork 33 = .ok (.istore 4, 2) := by decide +kernel
theorem dX3_traitForMostWork_35 : decode cX3_traitForMostWork 35 = .ok (.iconst (-1), 1) := by decide +kernel
theorem dX3_traitForMostWork_36 : decode cX3_traitForMostWork 36 = .ok (.istore 5, 2) := by decide +kernel
theorem dX3_traitForMostWork_38 : decode cX3_traitForMostWork 38 = .ok (.getstatic 106, 3) := by decide +kernel
theorem dX3_traitForMostWork_41 : decode cX3_traitForMostWork 41 = .ok (.iload_n 2, 1) := by decide +kernel
theorem dX3_traitForMostWork_42 : decode cX3_traitForMostWork 42 = .ok (.iaload, 1) := by decide +kernel
theorem dX3_traitForMostWork_43 : decode cX3_traitForMostWork 43 = .ok (.istore 6, 2) := by decide +kernel
theorem dX3_traitForMostWork_45 : decode cX3_traitForMostWork 45 = .ok (.iload 6, 2) := by decide +kernel
theorem dX3_traitForMostWork_47 : decode cX3_traitForMostWork 47 = .ok (.getstatic 109, 3) := by decide +kernel
theorem dX3_traitForMostWork_50 : decode cX3_traitForMostWork 50 = .ok (.iload_n 2, 1) := by decide +kernel
theorem dX3_traitForMostWork_51 : decode cX3_traitForMostWork 51 = .ok (.iaload, 1) := by decide +kernel
theorem dX3_traitForMostWork_52 : decode cX3_traitForMostWork 52 = .ok (.if_icmp .gt 43, 3) := by decide +kernel
theorem dX3_traitForMostWork_55 : decode cX3_traitForMostWork 55 = .ok (.aload_n 0, 1) := by decide +kernel
theorem dX3_traitForMostWork_56 : decode cX3_traitForMostWork 56 = .ok (.iload_n 1, 1) := by decide +kernel
theorem dX3_traitForMostWork_57 : decode cX3_traitForMostWork 57 = .ok (.iload_n 2, 1) := by decide +kernel
theorem dX3_traitForMostWork_58 : decode cX3_traitForMostWork 58 = .ok (.iload 6, 2) := by decide +kernel
theorem dX3_traitForMostWork_60 : decode cX3_traitForMostWork 60 = .ok (.iload_n 3, 1) := by decide +kernel
theorem dX3_traitForMostWork_61 : decode cX3_traitForMostWork 61 = .ok (.invokevirtual 160, 3) := by decide +kernel
theorem dX3_traitForMostWork_64 : decode cX3_traitForMostWork 64 = .ok (.aload_n 0, 1) := by decide +kernel
theorem dX3_traitForMostWork_65 : decode cX3_traitForMostWork 65 = .ok (.getfield 16, 3) := by decide +kernel
theorem dX3_traitForMostWork_68 : decode cX3_traitForMostWork 68 = .ok (.iload_n 1, 1) := by decide +kernel
theorem dX3_traitForMostWork_69 : decode cX3_traitForMostWork 69 = .ok (.invokevirtual 146, 3) := by decide +kernel
theorem dX3_traitForMostWork_72 : decode cX3_traitForMostWork 72 = .ok (.istore 7, 2) := by decide +kernel
theorem dX3_traitForMostWork_74 : decode cX3_traitForMostWork 74 = .ok (.iload 7, 2) := by decide +kernel
theorem dX3_traitForMostWork_76 : decode cX3_traitForMostWork 76 = .ok (.iload 5, 2) := by decide +kernel
theorem dX3_traitForMostWork_78 : decode cX3_traitForMostWork 78 = .ok (.if_icmp .le 11, 3) := by decide +kernel
theorem dX3_traitForMostWork_81 : decode cX3_traitForMostWork 81 = .ok (.iload 7, 2) := by decide +kernel
theorem dX3_traitForMostWork_83 : decode cX3_traitForMostWork 83 = .ok (.istore 5, 2) := by decide +kernel
theorem dX3_traitForMostWork_85 : decode cX3_traitForMostWork 85 = .ok (.iload 6, 2) := by decide +kernel
theorem dX3_traitForMostWork_87 : decode cX3_traitForMostWork 87 = .ok (.istore 4, 2) := by decide +kernel
theorem dX3_traitForMostWork_89 : decode cX3_traitForMostWork 89 = .ok (.iinc 6 1, 3) := by decide +kernel
theorem dX3_traitForMostWork_92 : decode cX3_traitForMostWork 92 = .ok (.goto (-47), 3) := by decide +kernel
theorem dX3_traitForMostWork_95 : decode cX3_traitForMostWork 95 = .ok (.iload 4, 2) := by decide +kernel
theorem dX3_traitForMostWork_97 : decode cX3_traitForMostWork 97 = .ok (.ireturn, 1) := by decide +kernel
theorem dX3_staysWithout_0 : decode cX3_staysWithout 0 = .ok (.aload_n 0, 1) := by decide +kernel
theorem dX3_staysWithout_1 : decode cX3_staysWithout 1 = .ok (.getfield 16, 3) := by decide +kernel
theorem dX3_staysWithout_4 : decode cX3_staysWithout 4 = .ok (.aload_n 0, 1) := by decide +kernel
theorem dX3_staysWithout_5 : decode cX3_staysWithout 5 = .ok (.getfield 12, 3) := by decide +kernel
theorem dX3_staysWithout_8 : decode cX3_staysWithout 8 = .ok (.invokevirtual 142, 3) := by decide +kernel
theorem dX3_staysWithout_11 : decode cX3_staysWithout 11 = .ok (.aload_n 0, 1) := by decide +kernel
theorem dX3_staysWithout_12 : decode cX3_staysWithout 12 = .ok (.getfield 16, 3) := by decide +kernel
theorem dX3_staysWithout_15 : decode cX3_staysWithout 15 = .ok (.iload_n 3, 1) := by decide +kernel
theorem dX3_staysWithout_16 : decode cX3_staysWithout 16 = .ok (.iload_n 1, 1) := by decide +kernel
theorem dX3_staysWithout_17 : decode cX3_staysWithout 17 = .ok (.invokevirtual 117, 3) := by decide +kernel
theorem dX3_staysWithout_20 : decode cX3_staysWithout 20 = .ok (.aload_n 0, 1) := by decide +kernel
theorem dX3_staysWithout_21 : decode cX3_staysWithout 21 = .ok (.getfield 16, 3) := by decide +kernel
theorem dX3_staysWithout_24 : decode cX3_staysWithout 24 = .ok (.getfield 53, 3) := by decide +kernel
theorem dX3_staysWithout_27 : decode cX3_staysWithout 27 = .ok (.iconst 0, 1) := by decide +kernel
theorem dX3_staysWithout_28 : decode cX3_staysWithout 28 = .ok (.aaload, 1) := by decide +kernel
theorem dX3_staysWithout_29 : decode cX3_staysWithout 29 = .ok (.iload_n 2, 1) := by decide +kernel
theorem dX3_staysWithout_30 : decode cX3_staysWithout 30 = .ok (.iaload, 1) := by decide +kernel
theorem dX3_staysWithout_31 : decode cX3_staysWithout 31 = .ok (.aload_n 0, 1) := by decide +kernel
theorem dX3_staysWithout_32 : decode cX3_staysWithout 32 = .ok (.getfield 12, 3) := by decide +kernel
theorem dX3_staysWithout_35 : decode cX3_staysWithout 35 = .ok (.getfield 53, 3) := by decide +kernel
theorem dX3_staysWithout_38 : decode cX3_staysWithout 38 = .ok (.iconst 0, 1) := by decide +kernel
theorem dX3_staysWithout_39 : decode cX3_staysWithout 39 = .ok (.aaload, 1) := by decide +kernel
theorem dX3_staysWithout_40 : decode cX3_staysWithout 40 = .ok (.iload_n 2, 1) := by decide +kernel
theorem dX3_staysWithout_41 : decode cX3_staysWithout 41 = .ok (.iaload, 1) := by decide +kernel
theorem dX3_staysWithout_42 : decode cX3_staysWithout 42 = .ok (.if_icmp .ne 7, 3) := by decide +kernel
theorem dX3_staysWithout_45 : decode cX3_staysWithout 45 = .ok (.iconst 1, 1) := by decide +kernel
theorem dX3_staysWithout_46 : decode cX3_staysWithout 46 = .ok (.goto 4, 3) := by decide +kernel
theorem dX3_staysWithout_49 : decode cX3_staysWithout 49 = .ok (.iconst 0, 1) := by decide +kernel
theorem dX3_staysWithout_50 : decode cX3_staysWithout 50 = .ok (.ireturn, 1) := by decide +kernel
theorem dX3_guessFinding_0 : decode cX3_guessFinding 0 = .ok (.aload_n 0, 1) := by decide +kernel
theorem dX3_guessFinding_1 : decode cX3_guessFinding 1 = .ok (.getfield 32, 3) := by decide +kernel
theorem dX3_guessFinding_4 : decode cX3_guessFinding 4 = .ok (.iload_n 1, 1) := by decide +kernel
theorem dX3_guessFinding_5 : decode cX3_guessFinding 5 = .ok (.invokevirtual 226, 3) := by decide +kernel
theorem dX3_guessFinding_8 : decode cX3_guessFinding 8 = .ok (.istore 4, 2) := by decide +kernel
theorem dX3_guessFinding_10 : decode cX3_guessFinding 10 = .ok (.iload 4, 2) := by decide +kernel
theorem dX3_guessFinding_12 : decode cX3_guessFinding 12 = .ok (.ifCond .eq 6, 3) := by decide +kernel
theorem dX3_guessFinding_15 : decode cX3_guessFinding 15 = .ok (.iload 4, 2) := by decide +kernel
theorem dX3_guessFinding_17 : decode cX3_guessFinding 17 = .ok (.ireturn, 1) := by decide +kernel
theorem dX3_guessFinding_18 : decode cX3_guessFinding 18 = .ok (.aload_n 0, 1) := by decide +kernel
theorem dX3_guessFinding_19 : decode cX3_guessFinding 19 = .ok (.getfield 12, 3) := by decide +kernel
theorem dX3_guessFinding_22 : decode cX3_guessFinding 22 = .ok (.iload_n 2, 1) := by decide +kernel
theorem dX3_guessFinding_23 : decode cX3_guessFinding 23 = .ok (.invokevirtual 91, 3) := by decide +kernel
theorem dX3_guessFinding_26 : decode cX3_guessFinding 26 = .ok (.ifCond .eq 17, 3) := by decide +kernel
theorem dX3_guessFinding_29 : decode cX3_guessFinding 29 = .ok (.iload_n 3, 1) := by decide +kernel
theorem dX3_guessFinding_30 : decode cX3_guessFinding 30 = .ok (.iconst 0, 1) := by decide +kernel
theorem dX3_guessFinding_31 : decode cX3_guessFinding 31 = .ok (.bipush 20, 2) := by decide +kernel
theorem dX3_guessFinding_33 : decode cX3_guessFinding 33 = .ok (.invokestatic 44, 3) := by decide +kernel
theorem dX3_guessFinding_36 : decode cX3_guessFinding 36 = .ok (.ifCond .eq 7, 3) := by decide +kernel
theorem dX3_guessFinding_39 : decode cX3_guessFinding 39 = .ok (.iconst 0, 1) := by decide +kernel
theorem dX3_guessFinding_40 : decode cX3_guessFinding 40 = .ok (.goto 5, 3) := by decide +kernel
theorem dX3_guessFinding_43 : decode cX3_guessFinding 43 = .ok (.ldc 48, 2) := by decide +kernel
theorem dX3_guessFinding_45 : decode cX3_guessFinding 45 = .ok (.ireturn, 1) := by decide +kernel
theorem dX3_fittingSet_0 : decode cX3_fittingSet 0 = .ok (.iconst 0, 1) := by decide +kernel
theorem dX3_fittingSet_1 : decode cX3_fittingSet 1 = .ok (.istore 5, 2) := by decide +kernel
theorem dX3_fittingSet_3 : decode cX3_fittingSet 3 = .ok (.getstatic 106, 3) := by decide +kernel
theorem dX3_fittingSet_6 : decode cX3_fittingSet 6 = .ok (.iload_n 3, 1) := by decide +kernel
theorem dX3_fittingSet_7 : decode cX3_fittingSet 7 = .ok (.iaload, 1) := by decide +kernel
theorem dX3_fittingSet_8 : decode cX3_fittingSet 8 = .ok (.istore 6, 2) := by decide +kernel
theorem dX3_fittingSet_10 : decode cX3_fittingSet 10 = .ok (.iload 6, 2) := by decide +kernel
theorem dX3_fittingSet_12 : decode cX3_fittingSet 12 = .ok (.getstatic 109, 3) := by decide +kernel
theorem dX3_fittingSet_15 : decode cX3_fittingSet 15 = .ok (.iload_n 3, 1) := by decide +kernel
theorem dX3_fittingSet_16 : decode cX3_fittingSet 16 = .ok (.iaload, 1) := by decide +kernel
theorem dX3_fittingSet_17 : decode cX3_fittingSet 17 = .ok (.if_icmp .gt 37, 3) := by decide +kernel
theorem dX3_fittingSet_20 : decode cX3_fittingSet 20 = .ok (.aload_n 0, 1) := by decide +kernel
theorem dX3_fittingSet_21 : decode cX3_fittingSet 21 = .ok (.iload_n 2, 1) := by decide +kernel
theorem dX3_fittingSet_22 : decode cX3_fittingSet 22 = .ok (.iload_n 3, 1) := by decide +kernel
theorem dX3_fittingSet_23 : decode cX3_fittingSet 23 = .ok (.iload 6, 2) := by decide +kernel
theorem dX3_fittingSet_25 : decode cX3_fittingSet 25 = .ok (.iload 4, 2) := by decide +kernel
theorem dX3_fittingSet_27 : decode cX3_fittingSet 27 = .ok (.invokevirtual 160, 3) := by decide +kernel
theorem dX3_fittingSet_30 : decode cX3_fittingSet 30 = .ok (.aload_n 0, 1) := by decide +kernel
theorem dX3_fittingSet_31 : decode cX3_fittingSet 31 = .ok (.iload_n 1, 1) := by decide +kernel
theorem dX3_fittingSet_32 : decode cX3_fittingSet 32 = .ok (.iload_n 2, 1) := by decide +kernel
theorem dX3_fittingSet_33 : decode cX3_fittingSet 33 = .ok (.invokevirtual 268, 3) := by decide +kernel
theorem dX3_fittingSet_36 : decode cX3_fittingSet 36 = .ok (.ifCond .eq 12, 3) := by decide +kernel
theorem dX3_fittingSet_39 : decode cX3_fittingSet 39 = .ok (.iload 5, 2) := by decide +kernel
theorem dX3_fittingSet_41 : decode cX3_fittingSet 41 = .ok (.iconst 1, 1) := by decide +kernel
theorem dX3_fittingSet_42 : decode cX3_fittingSet 42 = .ok (.iload 6, 2) := by decide +kernel
theorem dX3_fittingSet_44 : decode cX3_fittingSet 44 = .ok (.ishl, 1) := by decide +kernel
theorem dX3_fittingSet_45 : decode cX3_fittingSet 45 = .ok (.ior, 1) := by decide +kernel
theorem dX3_fittingSet_46 : decode cX3_fittingSet 46 = .ok (.istore 5, 2) := by decide +kernel
theorem dX3_fittingSet_48 : decode cX3_fittingSet 48 = .ok (.iinc 6 1, 3) := by decide +kernel
theorem dX3_fittingSet_51 : decode cX3_fittingSet 51 = .ok (.goto (-41), 3) := by decide +kernel
theorem dX3_fittingSet_54 : decode cX3_fittingSet 54 = .ok (.iload 5, 2) := by decide +kernel
theorem dX3_fittingSet_56 : decode cX3_fittingSet 56 = .ok (.ireturn, 1) := by decide +kernel
theorem dX3_trialIsAsTold_0 : decode cX3_trialIsAsTold 0 = .ok (.aload_n 0, 1) := by decide +kernel
theorem dX3_trialIsAsTold_1 : decode cX3_trialIsAsTold 1 = .ok (.getfield 32, 3) := by decide +kernel
theorem dX3_trialIsAsTold_4 : decode cX3_trialIsAsTold 4 = .ok (.getfield 229, 3) := by decide +kernel
theorem dX3_trialIsAsTold_7 : decode cX3_trialIsAsTold 7 = .ok (.iload_n 1, 1) := by decide +kernel
theorem dX3_trialIsAsTold_8 : decode cX3_trialIsAsTold 8 = .ok (.iaload, 1) := by decide +kernel
theorem dX3_trialIsAsTold_9 : decode cX3_trialIsAsTold 9 = .ok (.bipush 24, 2) := by decide +kernel
theorem dX3_trialIsAsTold_11 : decode cX3_trialIsAsTold 11 = .ok (.invokestatic 253, 3) := by decide +kernel
theorem dX3_trialIsAsTold_14 : decode cX3_trialIsAsTold 14 = .ok (.istore_n 3, 1) := by decide +kernel
theorem dX3_trialIsAsTold_15 : decode cX3_trialIsAsTold 15 = .ok (.iconst 0, 1) := by decide +kernel
theorem dX3_trialIsAsTold_16 : decode cX3_trialIsAsTold 16 = .ok (.istore 4, 2) := by decide +kernel
theorem dX3_trialIsAsTold_18 : decode cX3_trialIsAsTold 18 = .ok (.iload 4, 2) := by decide +kernel
theorem dX3_trialIsAsTold_20 : decode cX3_trialIsAsTold 20 = .ok (.iload_n 3, 1) := by decide +kernel
theorem dX3_trialIsAsTold_21 : decode cX3_trialIsAsTold 21 = .ok (.if_icmp .ge 61, 3) := by decide +kernel
theorem dX3_trialIsAsTold_24 : decode cX3_trialIsAsTold 24 = .ok (.aload_n 0, 1) := by decide +kernel
theorem dX3_trialIsAsTold_25 : decode cX3_trialIsAsTold 25 = .ok (.getfield 32, 3) := by decide +kernel
theorem dX3_trialIsAsTold_28 : decode cX3_trialIsAsTold 28 = .ok (.getfield 244, 3) := by decide +kernel
theorem dX3_trialIsAsTold_31 : decode cX3_trialIsAsTold 31 = .ok (.iload_n 1, 1) := by decide +kernel
theorem dX3_trialIsAsTold_32 : decode cX3_trialIsAsTold 32 = .ok (.aaload, 1) := by decide +kernel
theorem dX3_trialIsAsTold_33 : decode cX3_trialIsAsTold 33 = .ok (.iload 4, 2) := by decide +kernel
theorem dX3_trialIsAsTold_35 : decode cX3_trialIsAsTold 35 = .ok (.iaload, 1) := by decide +kernel
theorem dX3_trialIsAsTold_36 : decode cX3_trialIsAsTold 36 = .ok (.istore 5, 2) := by decide +kernel
theorem dX3_trialIsAsTold_38 : decode cX3_trialIsAsTold 38 = .ok (.aload_n 0, 1) := by decide +kernel
theorem dX3_trialIsAsTold_39 : decode cX3_trialIsAsTold 39 = .ok (.getfield 16, 3) := by decide +kernel
theorem dX3_trialIsAsTold_42 : decode cX3_trialIsAsTold 42 = .ok (.getfield 53, 3) := by decide +kernel
theorem dX3_trialIsAsTold_45 : decode cX3_trialIsAsTold 45 = .ok (.iconst 0, 1) := by decide +kernel
theorem dX3_trialIsAsTold_46 : decode cX3_trialIsAsTold 46 = .ok (.aaload, 1) := by decide +kernel
theorem dX3_trialIsAsTold_47 : decode cX3_trialIsAsTold 47 = .ok (.iload 4, 2) := by decide +kernel
theorem dX3_trialIsAsTold_49 : decode cX3_trialIsAsTold 49 = .ok (.iaload, 1) := by decide +kernel
theorem dX3_trialIsAsTold_50 : decode cX3_trialIsAsTold 50 = .ok (.iload_n 2, 1) := by decide +kernel
theorem dX3_trialIsAsTold_51 : decode cX3_trialIsAsTold 51 = .ok (.if_icmp .ne 7, 3) := by decide +kernel
theorem dX3_trialIsAsTold_54 : decode cX3_trialIsAsTold 54 = .ok (.iconst 1, 1) := by decide +kernel
theorem dX3_trialIsAsTold_55 : decode cX3_trialIsAsTold 55 = .ok (.goto 4, 3) := by decide +kernel
theorem dX3_trialIsAsTold_58 : decode cX3_trialIsAsTold 58 = .ok (.iconst 0, 1) := by decide +kernel
theorem dX3_trialIsAsTold_59 : decode cX3_trialIsAsTold 59 = .ok (.istore 6, 2) := by decide +kernel
theorem dX3_trialIsAsTold_61 : decode cX3_trialIsAsTold 61 = .ok (.iload 5, 2) := by decide +kernel
theorem dX3_trialIsAsTold_63 : decode cX3_trialIsAsTold 63 = .ok (.iconst (-1), 1) := by decide +kernel
theorem dX3_trialIsAsTold_64 : decode cX3_trialIsAsTold 64 = .ok (.if_icmp .eq 12, 3) := by decide +kernel
theorem dX3_trialIsAsTold_67 : decode cX3_trialIsAsTold 67 = .ok (.iload 5, 2) := by decide +kernel
theorem dX3_trialIsAsTold_69 : decode cX3_trialIsAsTold 69 = .ok (.iload 6, 2) := by decide +kernel
theorem dX3_trialIsAsTold_71 : decode cX3_trialIsAsTold 71 = .ok (.if_icmp .eq 5, 3) := by decide +kernel
theorem dX3_trialIsAsTold_74 : decode cX3_trialIsAsTold 74 = .ok (.iconst 0, 1) := by decide +kernel
theorem dX3_trialIsAsTold_75 : decode cX3_trialIsAsTold 75 = .ok (.ireturn, 1) := by decide +kernel
theorem dX3_trialIsAsTold_76 : decode cX3_trialIsAsTold 76 = .ok (.iinc 4 1, 3) := by decide +kernel
theorem dX3_trialIsAsTold_79 : decode cX3_trialIsAsTold 79 = .ok (.goto (-61), 3) := by decide +kernel
theorem dX3_trialIsAsTold_82 : decode cX3_trialIsAsTold 82 = .ok (.iconst 1, 1) := by decide +kernel
theorem dX3_trialIsAsTold_83 : decode cX3_trialIsAsTold 83 = .ok (.ireturn, 1) := by decide +kernel
end
section
theorem dX4_init_0 : decode cX4_init 0 = .ok (.aload_n 0, 1) := by decide +kernel
theorem dX4_init_1 : decode cX4_init 1 = .ok (.invokespecial 3, 3) := by decide +kernel
theorem dX4_init_4 : decode cX4_init 4 = .ok (.aload_n 0, 1) := by decide +kernel
theorem dX4_init_5 : decode cX4_init 5 = .ok (.sipush 135, 3) := by decide +kernel
theorem dX4_init_8 : decode cX4_init 8 = .ok (.newarray .int, 2) := by decide +kernel
theorem dX4_init_10 : decode cX4_init 10 = .ok (.putfield 9, 3) := by decide +kernel
theorem dX4_init_13 : decode cX4_init 13 = .ok (.aload_n 0, 1) := by decide +kernel
theorem dX4_init_14 : decode cX4_init 14 = .ok (.sipush 135, 3) := by decide +kernel
theorem dX4_init_17 : decode cX4_init 17 = .ok (.newarray .int, 2) := by decide +kernel
theorem dX4_init_19 : decode cX4_init 19 = .ok (.putfield 13, 3) := by decide +kernel
theorem dX4_init_22 : decode cX4_init 22 = .ok (.aload_n 0, 1) := by decide +kernel
theorem dX4_init_23 : decode cX4_init 23 = .ok (.sipush 135, 3) := by decide +kernel
theorem dX4_init_26 : decode cX4_init 26 = .ok (.newarray .int, 2) := by decide +kernel
theorem dX4_init_28 : decode cX4_init 28 = .ok (.putfield 16, 3) := by decide +kernel
theorem dX4_init_31 : decode cX4_init 31 = .ok (.aload_n 0, 1) := by decide +kernel
theorem dX4_init_32 : decode cX4_init 32 = .ok (.bipush 7, 2) := by decide +kernel
theorem dX4_init_34 : decode cX4_init 34 = .ok (.newarray .int, 2) := by decide +kernel
theorem dX4_init_36 : decode cX4_init 36 = .ok (.putfield 19, 3) := by decide +kernel
theorem dX4_init_39 : decode cX4_init 39 = .ok (.aload_n 0, 1) := by decide +kernel
theorem dX4_init_40 : decode cX4_init 40 = .ok (.bipush 120, 2) := by decide +kernel
theorem dX4_init_42 : decode cX4_init 42 = .ok (.newarray .int, 2) := by decide +kernel
theorem dX4_init_44 : decode cX4_init 44 = .ok (.putfield 22, 3) := by decide +kernel
theorem dX4_init_47 : decode cX4_init 47 = .ok (.aload_n 0, 1) := by decide +kernel
theorem dX4_init_48 : decode cX4_init 48 = .ok (.iconst 4, 1) := by decide +kernel
theorem dX4_init_49 : decode cX4_init 49 = .ok (.newarray .int, 2) := by decide +kernel
theorem dX4_init_51 : decode cX4_init 51 = .ok (.putfield 25, 3) := by decide +kernel
theorem dX4_init_54 : decode cX4_init 54 = .ok (.aload_n 0, 1) := by decide +kernel
theorem dX4_init_55 : decode cX4_init 55 = .ok (.iconst 4, 1) := by decide +kernel
theorem dX4_init_56 : decode cX4_init 56 = .ok (.newarray .int, 2) := by decide +kernel
theorem dX4_init_58 : decode cX4_init 58 = .ok (.putfield 28, 3) := by decide +kernel
theorem dX4_init_61 : decode cX4_init 61 = .ok (.aload_n 0, 1) := by decide +kernel
theorem dX4_init_62 : decode cX4_init 62 = .ok (.sipush 160, 3) := by decide +kernel
theorem dX4_init_65 : decode cX4_init 65 = .ok (.newarray .int, 2) := by decide +kernel
theorem dX4_init_67 : decode cX4_init 67 = .ok (.putfield 31, 3) := by decide +kernel
theorem dX4_init_70 : decode cX4_init 70 = .ok (.aload_n 0, 1) := by decide +kernel
theorem dX4_init_71 : decode cX4_init 71 = .ok (.bipush 40, 2) := by decide +kernel
theorem dX4_init_73 : decode cX4_init 73 = .ok (.newarray .int, 2) := by decide +kernel
theorem dX4_init_75 : decode cX4_init 75 = .ok (.putfield 34, 3) := by decide +kernel
theorem dX4_init_78 : decode cX4_init 78 = .ok (.aload_n 0, 1) := by decide +kernel
theorem dX4_init_79 : decode cX4_init 79 = .ok (.getfield 9, 3) := by decide +kernel
theorem dX4_init_82 : decode cX4_init 82 = .ok (.iconst 1, 1) := by decide +kernel
theorem dX4_init_83 : decode cX4_init 83 = .ok (.iconst 1, 1) := by decide +kernel
theorem dX4_init_84 : decode cX4_init 84 = .ok (.iastore, 1) := by decide +kernel
theorem dX4_init_85 : decode cX4_init 85 = .ok (.aload_n 0, 1) := by decide +kernel
theorem dX4_init_86 : decode cX4_init 86 = .ok (.getfield 9, 3) := by decide +kernel
theorem dX4_init_89 : decode cX4_init 89 = .ok (.iconst 3, 1) := by decide +kernel
theorem dX4_init_90 : decode cX4_init 90 = .ok (.bipush 8, 2) := by decide +kernel
theorem dX4_init_92 : decode cX4_init 92 = .ok (.iastore, 1) := by decide +kernel
theorem dX4_init_93 : decode cX4_init 93 = .ok (.iconst 0, 1) := by decide +kernel
theorem dX4_init_94 : decode cX4_init 94 = .ok (.istore_n 1, 1) := by decide +kernel
theorem dX4_init_95 : decode cX4_init 95 = .ok (.iload_n 1, 1) := by decide +kernel
theorem dX4_init_96 : decode cX4_init 96 = .ok (.bipush 24, 2) := by decide +kernel
theorem dX4_init_98 : decode cX4_init 98 = .ok (.if_icmp .ge 18, 3) := by decide +kernel
theorem dX4_init_101 : decode cX4_init 101 = .ok (.aload_n 0, 1) := by decide +kernel
theorem dX4_init_102 : decode cX4_init 102 = .ok (.getfield 9, 3) := by decide +kernel
theorem dX4_init_105 : decode cX4_init 105 = .ok (.iconst 5, 1) := by decide +kernel
theorem dX4_init_106 : decode cX4_init 106 = .ok (.iload_n 1, 1) := by decide +kernel
theorem dX4_init_107 : decode cX4_init 107 = .ok (.iadd, 1) := by decide +kernel
theorem dX4_init_108 : decode cX4_init 108 = .ok (.iconst (-1), 1) := by decide +kernel
theorem dX4_init_109 : decode cX4_init 109 = .ok (.iastore, 1) := by decide +kernel
theorem dX4_init_110 : decode cX4_init 110 = .ok (.iinc 1 1, 3) := by decide +kernel
theorem dX4_init_113 : decode cX4_init 113 = .ok (.goto (-18), 3) := by decide +kernel
theorem dX4_init_116 : decode cX4_init 116 = .ok (.iconst 0, 1) := by decide +kernel
theorem dX4_init_117 : decode cX4_init 117 = .ok (.istore_n 1, 1) := by decide +kernel
theorem dX4_init_118 : decode cX4_init 118 = .ok (.iload_n 1, 1) := by decide +kernel
theorem dX4_init_119 : decode cX4_init 119 = .ok (.bipush 10, 2) := by decide +kernel
theorem dX4_init_121 : decode cX4_init 121 = .ok (.if_icmp .ge 19, 3) := by decide +kernel
theorem dX4_init_124 : decode cX4_init 124 = .ok (.aload_n 0, 1) := by decide +kernel
theorem dX4_init_125 : decode cX4_init 125 = .ok (.getfield 9, 3) := by decide +kernel
theorem dX4_init_128 : decode cX4_init 128 = .ok (.bipush 125, 2) := by decide +kernel
theorem dX4_init_130 : decode cX4_init 130 = .ok (.iload_n 1, 1) := by decide +kernel
theorem dX4_init_131 : decode cX4_init 131 = .ok (.iadd, 1) := by decide +kernel
theorem dX4_init_132 : decode cX4_init 132 = .ok (.iconst (-1), 1) := by decide +kernel
theorem dX4_init_133 : decode cX4_init 133 = .ok (.iastore, 1) := by decide +kernel
theorem dX4_init_134 : decode cX4_init 134 = .ok (.iinc 1 1, 3) := by decide +kernel
theorem dX4_init_137 : decode cX4_init 137 = .ok (.goto (-19), 3) := by decide +kernel
theorem dX4_init_140 : decode cX4_init 140 = .ok (.return_, 1) := by decide +kernel
theorem dX4_finds_0 : decode cX4_finds 0 = .ok (.aload_n 0, 1) := by decide +kernel
theorem dX4_finds_1 : decode cX4_finds 1 = .ok (.getfield 19, 3) := by decide +kernel
theorem dX4_finds_4 : decode cX4_finds 4 = .ok (.iload_n 1, 1) := by decide +kernel
theorem dX4_finds_5 : decode cX4_finds 5 = .ok (.dup2, 1) := by decide +kernel
theorem dX4_finds_6 : decode cX4_finds 6 = .ok (.iaload, 1) := by decide +kernel
theorem dX4_finds_7 : decode cX4_finds 7 = .ok (.iconst 1, 1) := by decide +kernel
theorem dX4_finds_8 : decode cX4_finds 8 = .ok (.iadd, 1) := by decide +kernel
theorem dX4_finds_9 : decode cX4_finds 9 = .ok (.iastore, 1) := by decide +kernel
theorem dX4_finds_10 : decode cX4_finds 10 = .ok (.ldc 37, 2) := by decide +kernel
theorem dX4_finds_12 : decode cX4_finds 12 = .ok (.iload_n 1, 1) := by decide +kernel
theorem dX4_finds_13 : decode cX4_finds 13 = .ok (.isub, 1) := by decide +kernel
theorem dX4_finds_14 : decode cX4_finds 14 = .ok (.ireturn, 1) := by decide +kernel
theorem dX4_in_0 : decode cX4_in 0 = .ok (.lload_n 0, 1) := by decide +kernel
theorem dX4_in_1 : decode cX4_in 1 = .ok (.lload_n 2, 1) := by decide +kernel
theorem dX4_in_2 : decode cX4_in 2 = .ok (.lcmp, 1) := by decide +kernel
theorem dX4_in_3 : decode cX4_in 3 = .ok (.ifCond .lt 14, 3) := by decide +kernel
theorem dX4_in_6 : decode cX4_in 6 = .ok (.lload_n 0, 1) := by decide +kernel
theorem dX4_in_7 : decode cX4_in 7 = .ok (.lload 4, 2) := by decide +kernel
theorem dX4_in_9 : decode cX4_in 9 = .ok (.lcmp, 1) := by decide +kernel
theorem dX4_in_10 : decode cX4_in 10 = .ok (.ifCond .gt 7, 3) := by decide +kernel
theorem dX4_in_13 : decode cX4_in 13 = .ok (.iconst 1, 1) := by decide +kernel
theorem dX4_in_14 : decode cX4_in 14 = .ok (.goto 4, 3) := by decide +kernel
theorem dX4_in_17 : decode cX4_in 17 = .ok (.iconst 0, 1) := by decide +kernel
theorem dX4_in_18 : decode cX4_in 18 = .ok (.ireturn, 1) := by decide +kernel
theorem dX4_become_0 : decode cX4_become 0 = .ok (.iconst 0, 1) := by decide +kernel
theorem dX4_become_1 : decode cX4_become 1 = .ok (.istore_n 2, 1) := by decide +kernel
theorem dX4_become_2 : decode cX4_become 2 = .ok (.iload_n 2, 1) := by decide +kernel
theorem dX4_become_3 : decode cX4_become 3 = .ok (.sipush 135, 3) := by decide +kernel
theorem dX4_become_6 : decode cX4_become 6 = .ok (.if_icmp .ge 15, 3) := by decide +kernel
theorem dX4_become_9 : decode cX4_become 9 = .ok (.aload_n 1, 1) := by decide +kernel
theorem dX4_become_10 : decode cX4_become 10 = .ok (.iload_n 2, 1) := by decide +kernel
theorem dX4_become_11 : decode cX4_become 11 = .ok (.aload_n 0, 1) := by decide +kernel
theorem dX4_become_12 : decode cX4_become 12 = .ok (.iload_n 2, 1) := by decide +kernel
theorem dX4_become_13 : decode cX4_become 13 = .ok (.iaload, 1) := by decide +kernel
theorem dX4_become_14 : decode cX4_become 14 = .ok (.iastore, 1) := by decide +kernel
theorem dX4_become_15 : decode cX4_become 15 = .ok (.iinc 2 1, 3) := by decide +kernel
theorem dX4_become_18 : decode cX4_become 18 = .ok (.goto (-16), 3) := by decide +kernel
theorem dX4_become_21 : decode cX4_become 21 = .ok (.return_, 1) := by decide +kernel
theorem dX4_lends_0 : decode cX4_lends 0 = .ok (.aload_n 0, 1) := by decide +kernel
theorem dX4_lends_1 : decode cX4_lends 1 = .ok (.getfield 9, 3) := by decide +kernel
theorem dX4_lends_4 : decode cX4_lends 4 = .ok (.aload_n 0, 1) := by decide +kernel
theorem dX4_lends_5 : decode cX4_lends 5 = .ok (.getfield 16, 3) := by decide +kernel
theorem dX4_lends_8 : decode cX4_lends 8 = .ok (.invokestatic 38, 3) := by decide +kernel
theorem dX4_lends_11 : decode cX4_lends 11 = .ok (.return_, 1) := by decide +kernel
theorem dX4_laysBack_0 : decode cX4_laysBack 0 = .ok (.aload_n 0, 1) := by decide +kernel
theorem dX4_laysBack_1 : decode cX4_laysBack 1 = .ok (.getfield 16, 3) := by decide +kernel
theorem dX4_laysBack_4 : decode cX4_laysBack 4 = .ok (.aload_n 0, 1) := by decide +kernel
theorem dX4_laysBack_5 : decode cX4_laysBack 5 = .ok (.getfield 9, 3) := by decide +kernel
theorem dX4_laysBack_8 : decode cX4_laysBack 8 = .ok (.invokestatic 38, 3) := by decide +kernel
theorem dX4_laysBack_11 : decode cX4_laysBack 11 = .ok (.return_, 1) := by decide +kernel
theorem dX4_isWalker_0 : decode cX4_isWalker 0 = .ok (.iload_n 1, 1) := by decide +kernel
theorem dX4_isWalker_1 : decode cX4_isWalker 1 = .ok (.i2l, 1) := by decide +kernel
theorem dX4_isWalker_2 : decode cX4_isWalker 2 = .ok (.lconst 0, 1) := by decide +kernel
theorem dX4_isWalker_3 : decode cX4_isWalker 3 = .ok (.aload_n 0, 1) := by decide +kernel
theorem dX4_isWalker_4 : decode cX4_isWalker 4 = .ok (.getfield 9, 3) := by decide +kernel
theorem dX4_isWalker_7 : decode cX4_isWalker 7 = .ok (.iconst 2, 1) := by decide +kernel
theorem dX4_isWalker_8 : decode cX4_isWalker 8 = .ok (.iaload, 1) := by decide +kernel
theorem dX4_isWalker_9 : decode cX4_isWalker 9 = .ok (.iconst 1, 1) := by decide +kernel
theorem dX4_isWalker_10 : decode cX4_isWalker 10 = .ok (.isub, 1) := by decide +kernel
theorem dX4_isWalker_11 : decode cX4_isWalker 11 = .ok (.i2l, 1) := by decide +kernel
theorem dX4_isWalker_12 : decode cX4_isWalker 12 = .ok (.invokestatic 42, 3) := by decide +kernel
theorem dX4_isWalker_15 : decode cX4_isWalker 15 = .ok (.ireturn, 1) := by decide +kernel
theorem dX4_isCell_0 : decode cX4_isCell 0 = .ok (.iload_n 0, 1) := by decide +kernel
theorem dX4_isCell_1 : decode cX4_isCell 1 = .ok (.i2l, 1) := by decide +kernel
theorem dX4_isCell_2 : decode cX4_isCell 2 = .ok (.lconst 0, 1) := by decide +kernel
theorem dX4_isCell_3 : decode cX4_isCell 3 = .ok (.ldc2_w 46, 3) := by decide +kernel
theorem dX4_isCell_6 : decode cX4_isCell 6 = .ok (.invokestatic 42, 3) := by decide +kernel
theorem dX4_isCell_9 : decode cX4_isCell 9 = .ok (.ireturn, 1) := by decide +kernel
theorem dX4_its_0 : decode cX4_its 0 = .ok (.aload_n 0, 1) := by decide +kernel
theorem dX4_its_1 : decode cX4_its 1 = .ok (.getfield 9, 3) := by decide +kernel
theorem dX4_its_4 : decode cX4_its 4 = .ok (.bipush 77, 2) := by decide +kernel
theorem dX4_its_6 : decode cX4_its 6 = .ok (.bipush 6, 2) := by decide +kernel
theorem dX4_its_8 : decode cX4_its 8 = .ok (.iload_n 1, 1) := by decide +kernel
theorem dX4_its_9 : decode cX4_its 9 = .ok (.imul, 1) := by decide +kernel
theorem dX4_its_10 : decode cX4_its 10 = .ok (.iadd, 1) := by decide +kernel
theorem dX4_its_11 : decode cX4_its 11 = .ok (.iload_n 2, 1) := by decide +kernel
theorem dX4_its_12 : decode cX4_its 12 = .ok (.iadd, 1) := by decide +kernel
theorem dX4_its_13 : decode cX4_its 13 = .ok (.iaload, 1) := by decide +kernel
theorem dX4_its_14 : decode cX4_its 14 = .ok (.ireturn, 1) := by decide +kernel
theorem dX4_sets_0 : decode cX4_sets 0 = .ok (.aload_n 0, 1) := by decide +kernel
theorem dX4_sets_1 : decode cX4_sets 1 = .ok (.getfield 9, 3) := by decide +kernel
theorem dX4_sets_4 : decode cX4_sets 4 = .ok (.bipush 77, 2) := by decide +kernel
theorem dX4_sets_6 : decode cX4_sets 6 = .ok (.bipush 6, 2) := by decide +kernel
theorem dX4_sets_8 : decode cX4_sets 8 = .ok (.iload_n 1, 1) := by decide +kernel
theorem dX4_sets_9 : decode cX4_sets 9 = .ok (.imul, 1) := by decide +kernel
theorem dX4_sets_10 : decode cX4_sets 10 = .ok (.iadd, 1) := by decide +kernel
theorem dX4_sets_11 : decode cX4_sets 11 = .ok (.iload_n 2, 1) := by decide +kernel
theorem dX4_sets_12 : decode cX4_sets 12 = .ok (.iadd, 1) := by decide +kernel
theorem dX4_sets_13 : decode cX4_sets 13 = .ok (.iload_n 3, 1) := by decide +kernel
theorem dX4_sets_14 : decode cX4_sets 14 = .ok (.iastore, 1) := by decide +kernel
theorem dX4_sets_15 : decode cX4_sets 15 = .ok (.return_, 1) := by decide +kernel
theorem dX4_becomes_0 : decode cX4_becomes 0 = .ok (.aload_n 0, 1) := by decide +kernel
theorem dX4_becomes_1 : decode cX4_becomes 1 = .ok (.getfield 9, 3) := by decide +kernel
theorem dX4_becomes_4 : decode cX4_becomes 4 = .ok (.iload_n 1, 1) := by decide +kernel
theorem dX4_becomes_5 : decode cX4_becomes 5 = .ok (.iaload, 1) := by decide +kernel
theorem dX4_becomes_6 : decode cX4_becomes 6 = .ok (.istore_n 3, 1) := by decide +kernel
theorem dX4_becomes_7 : decode cX4_becomes 7 = .ok (.aload_n 0, 1) := by decide +kernel
theorem dX4_becomes_8 : decode cX4_becomes 8 = .ok (.getfield 9, 3) := by decide +kernel
theorem dX4_becomes_11 : decode cX4_becomes 11 = .ok (.iload_n 1, 1) := by decide +kernel
theorem dX4_becomes_12 : decode cX4_becomes 12 = .ok (.iload_n 2, 1) := by decide +kernel
theorem dX4_becomes_13 : decode cX4_becomes 13 = .ok (.iastore, 1) := by decide +kernel
theorem dX4_becomes_14 : decode cX4_becomes 14 = .ok (.iload_n 3, 1) := by decide +kernel
theorem dX4_becomes_15 : decode cX4_becomes 15 = .ok (.ireturn, 1) := by decide +kernel
theorem dX4_ones_0 : decode cX4_ones 0 = .ok (.iconst 0, 1) := by decide +kernel
theorem dX4_ones_1 : decode cX4_ones 1 = .ok (.istore_n 1, 1) := by decide +kernel
theorem dX4_ones_2 : decode cX4_ones 2 = .ok (.iconst 0, 1) := by decide +kernel
theorem dX4_ones_3 : decode cX4_ones 3 = .ok (.istore_n 2, 1) := by decide +kernel
theorem dX4_ones_4 : decode cX4_ones 4 = .ok (.iload_n 2, 1) := by decide +kernel
theorem dX4_ones_5 : decode cX4_ones 5 = .ok (.bipush 24, 2) := by decide +kernel
theorem dX4_ones_7 : decode cX4_ones 7 = .ok (.if_icmp .ge 17, 3) := by decide +kernel
theorem dX4_ones_10 : decode cX4_ones 10 = .ok (.iload_n 1, 1) := by decide +kernel
theorem dX4_ones_11 : decode cX4_ones 11 = .ok (.iload_n 0, 1) := by decide +kernel
theorem dX4_ones_12 : decode cX4_ones 12 = .ok (.iload_n 2, 1) := by decide +kernel
theorem dX4_ones_13 : decode cX4_ones 13 = .ok (.ishr, 1) := by decide +kernel
theorem dX4_ones_14 : decode cX4_ones 14 = .ok (.iconst 1, 1) := by decide +kernel
theorem dX4_ones_15 : decode cX4_ones 15 = .ok (.iand, 1) := by decide +kernel
theorem dX4_ones_16 : decode cX4_ones 16 = .ok (.iadd, 1) := by decide +kernel
theorem dX4_ones_17 : decode cX4_ones 17 = .ok (.istore_n 1, 1) := by decide +kernel
theorem dX4_ones_18 : decode cX4_ones 18 = .ok (.iinc 2 1, 3) := by decide +kernel
theorem dX4_ones_21 : decode cX4_ones 21 = .ok (.goto (-17), 3) := by decide +kernel
theorem dX4_ones_24 : decode cX4_ones 24 = .ok (.iload_n 1, 1) := by decide +kernel
theorem dX4_ones_25 : decode cX4_ones 25 = .ok (.ireturn, 1) := by decide +kernel
theorem dX4_aboveOf_0 : decode cX4_aboveOf 0 = .ok (.iload_n 0, 1) := by decide +kernel
theorem dX4_aboveOf_1 : decode cX4_aboveOf 1 = .ok (.iconst 3, 1) := by decide +kernel
theorem dX4_aboveOf_2 : decode cX4_aboveOf 2 = .ok (.if_icmp .ne 7, 3) := by decide +kernel
theorem dX4_aboveOf_5 : decode cX4_aboveOf 5 = .ok (.iconst 2, 1) := by decide +kernel
theorem dX4_aboveOf_6 : decode cX4_aboveOf 6 = .ok (.goto 23, 3) := by decide +kernel
theorem dX4_aboveOf_9 : decode cX4_aboveOf 9 = .ok (.iload_n 0, 1) := by decide +kernel
theorem dX4_aboveOf_10 : decode cX4_aboveOf 10 = .ok (.iconst 4, 1) := by decide +kernel
theorem dX4_aboveOf_11 : decode cX4_aboveOf 11 = .ok (.if_icmp .ne 7, 3) := by decide +kernel
theorem dX4_aboveOf_14 : decode cX4_aboveOf 14 = .ok (.iconst 3, 1) := by decide +kernel
theorem dX4_aboveOf_15 : decode cX4_aboveOf 15 = .ok (.goto 14, 3) := by decide +kernel
theorem dX4_aboveOf_18 : decode cX4_aboveOf 18 = .ok (.iload_n 0, 1) := by decide +kernel
theorem dX4_aboveOf_19 : decode cX4_aboveOf 19 = .ok (.bipush 6, 2) := by decide +kernel
theorem dX4_aboveOf_21 : decode cX4_aboveOf 21 = .ok (.if_icmp .ne 7, 3) := by decide +kernel
theorem dX4_aboveOf_24 : decode cX4_aboveOf 24 = .ok (.iconst 1, 1) := by decide +kernel
theorem dX4_aboveOf_25 : decode cX4_aboveOf 25 = .ok (.goto 4, 3) := by decide +kernel
theorem dX4_aboveOf_28 : decode cX4_aboveOf 28 = .ok (.iconst 0, 1) := by decide +kernel
theorem dX4_aboveOf_29 : decode cX4_aboveOf 29 = .ok (.ireturn, 1) := by decide +kernel
theorem dX4_isUnder_0 : decode cX4_isUnder 0 = .ok (.iload_n 0, 1) := by decide +kernel
theorem dX4_isUnder_1 : decode cX4_isUnder 1 = .ok (.istore_n 2, 1) := by decide +kernel
theorem dX4_isUnder_2 : decode cX4_isUnder 2 = .ok (.iload_n 2, 1) := by decide +kernel
theorem dX4_isUnder_3 : decode cX4_isUnder 3 = .ok (.ifCond .eq 16, 3) := by decide +kernel
theorem dX4_isUnder_6 : decode cX4_isUnder 6 = .ok (.iload_n 2, 1) := by decide +kernel
theorem dX4_isUnder_7 : decode cX4_isUnder 7 = .ok (.iload_n 1, 1) := by decide +kernel
theorem dX4_isUnder_8 : decode cX4_isUnder 8 = .ok (.if_icmp .eq 11, 3) := by decide +kernel
theorem dX4_isUnder_11 : decode cX4_isUnder 11 = .ok (.iload_n 2, 1) := by decide +kernel
theorem dX4_isUnder_12 : decode cX4_isUnder 12 = .ok (.invokestatic 48, 3) := by decide +kernel
theorem dX4_isUnder_15 : decode cX4_isUnder 15 = .ok (.istore_n 2, 1) := by decide +kernel
theorem dX4_isUnder_16 : decode cX4_isUnder 16 = .ok (.goto (-14), 3) := by decide +kernel
theorem dX4_isUnder_19 : decode cX4_isUnder 19 = .ok (.iload_n 2, 1) := by decide +kernel
theorem dX4_isUnder_20 : decode cX4_isUnder 20 = .ok (.iload_n 1, 1) := by decide +kernel
theorem dX4_isUnder_21 : decode cX4_isUnder 21 = .ok (.if_icmp .ne 7, 3) := by decide +kernel
theorem dX4_isUnder_24 : decode cX4_isUnder 24 = .ok (.iconst 1, 1) := by decide +kernel
theorem dX4_isUnder_25 : decode cX4_isUnder 25 = .ok (.goto 4, 3) := by decide +kernel
theorem dX4_isUnder_28 : decode cX4_isUnder 28 = .ok (.iconst 0, 1) := by decide +kernel
theorem dX4_isUnder_29 : decode cX4_isUnder 29 = .ok (.ireturn, 1) := by decide +kernel
theorem dX4_isKind_0 : decode cX4_isKind 0 = .ok (.iload_n 0, 1) := by decide +kernel
theorem dX4_isKind_1 : decode cX4_isKind 1 = .ok (.i2l, 1) := by decide +kernel
theorem dX4_isKind_2 : decode cX4_isKind 2 = .ok (.lconst 0, 1) := by decide +kernel
theorem dX4_isKind_3 : decode cX4_isKind 3 = .ok (.ldc2_w 52, 3) := by decide +kernel
theorem dX4_isKind_6 : decode cX4_isKind 6 = .ok (.invokestatic 42, 3) := by decide +kernel
theorem dX4_isKind_9 : decode cX4_isKind 9 = .ok (.ireturn, 1) := by decide +kernel
theorem dX4_strides_0 : decode cX4_strides 0 = .ok (.aload_n 0, 1) := by decide +kernel
theorem dX4_strides_1 : decode cX4_strides 1 = .ok (.iload_n 1, 1) := by decide +kernel
theorem dX4_strides_2 : decode cX4_strides 2 = .ok (.iconst 3, 1) := by decide +kernel
theorem dX4_strides_3 : decode cX4_strides 3 = .ok (.invokevirtual 54, 3) := by decide +kernel
theorem dX4_strides_6 : decode cX4_strides 6 = .ok (.istore_n 2, 1) := by decide +kernel
theorem dX4_strides_7 : decode cX4_strides 7 = .ok (.iload_n 2, 1) := by decide +kernel
theorem dX4_strides_8 : decode cX4_strides 8 = .ok (.aload_n 0, 1) := by decide +kernel
theorem dX4_strides_9 : decode cX4_strides 9 = .ok (.getfield 9, 3) := by decide +kernel
theorem dX4_strides_12 : decode cX4_strides 12 = .ok (.iconst 0, 1) := by decide +kernel
theorem dX4_strides_13 : decode cX4_strides 13 = .ok (.iaload, 1) := by decide +kernel
theorem dX4_strides_14 : decode cX4_strides 14 = .ok (.iconst 2, 1) := by decide +kernel
theorem dX4_strides_15 : decode cX4_strides 15 = .ok (.irem, 1) := by decide +kernel
theorem dX4_strides_16 : decode cX4_strides 16 = .ok (.iadd, 1) := by decide +kernel
theorem dX4_strides_17 : decode cX4_strides 17 = .ok (.istore_n 3, 1) := by decide +kernel
theorem dX4_strides_18 : decode cX4_strides 18 = .ok (.aload_n 0, 1) := by decide +kernel
theorem dX4_strides_19 : decode cX4_strides 19 = .ok (.iload_n 1, 1) := by decide +kernel
theorem dX4_strides_20 : decode cX4_strides 20 = .ok (.iconst 0, 1) := by decide +kernel
theorem dX4_strides_21 : decode cX4_strides 21 = .ok (.invokevirtual 54, 3) := by decide +kernel
theorem dX4_strides_24 : decode cX4_strides 24 = .ok (.tableswitch 60 1 6 #[40, 46, 48, 54, 60, 42], 40) := by decide +kernel
theorem dX4_strides_64 : decode cX4_strides 64 = .ok (.iload_n 3, 1) := by decide +kernel
theorem dX4_strides_65 : decode cX4_strides 65 = .ok (.ireturn, 1) := by decide +kernel
theorem dX4_strides_66 : decode cX4_strides 66 = .ok (.iconst 2, 1) := by decide +kernel
theorem dX4_strides_67 : decode cX4_strides 67 = .ok (.iload_n 3, 1) := by decide +kernel
theorem dX4_strides_68 : decode cX4_strides 68 = .ok (.imul, 1) := by decide +kernel
theorem dX4_strides_69 : decode cX4_strides 69 = .ok (.ireturn, 1) := by decide +kernel
theorem dX4_strides_70 : decode cX4_strides 70 = .ok (.iconst 1, 1) := by decide +kernel
theorem dX4_strides_71 : decode cX4_strides 71 = .ok (.ireturn, 1) := by decide +kernel
theorem dX4_strides_72 : decode cX4_strides 72 = .ok (.iconst 1, 1) := by decide +kernel
theorem dX4_strides_73 : decode cX4_strides 73 = .ok (.iload_n 2, 1) := by decide +kernel
theorem dX4_strides_74 : decode cX4_strides 74 = .ok (.iconst 2, 1) := by decide +kernel
theorem dX4_strides_75 : decode cX4_strides 75 = .ok (.idiv, 1) := by decide +kernel
theorem dX4_strides_76 : decode cX4_strides 76 = .ok (.iadd, 1) := by decide +kernel
theorem dX4_strides_77 : decode cX4_strides 77 = .ok (.ireturn, 1) := by decide +kernel
theorem dX4_strides_78 : decode cX4_strides 78 = .ok (.iconst 3, 1) := by decide +kernel
theorem dX4_strides_79 : decode cX4_strides 79 = .ok (.iload_n 2, 1) := by decide +kernel
theorem dX4_strides_80 : decode cX4_strides 80 = .ok (.iconst 2, 1) := by decide +kernel
theorem dX4_strides_81 : decode cX4_strides 81 = .ok (.idiv, 1) := by decide +kernel
theorem dX4_strides_82 : decode cX4_strides 82 = .ok (.iadd, 1) := by decide +kernel
theorem dX4_strides_83 : decode cX4_strides 83 = .ok (.ireturn, 1) := by decide +kernel
theorem dX4_strides_84 : decode cX4_strides 84 = .ok (.iload_n 2, 1) := by decide +kernel
theorem dX4_strides_85 : decode cX4_strides 85 = .ok (.ireturn, 1) := by decide +kernel
theorem dX4_presses_0 : decode cX4_presses 0 = .ok (.aload_n 0, 1) := by decide +kernel
theorem dX4_presses_1 : decode cX4_presses 1 = .ok (.iload_n 1, 1) := by decide +kernel
theorem dX4_presses_2 : decode cX4_presses 2 = .ok (.iconst 4, 1) := by decide +kernel
theorem dX4_presses_3 : decode cX4_presses 3 = .ok (.invokevirtual 54, 3) := by decide +kernel
theorem dX4_presses_6 : decode cX4_presses 6 = .ok (.istore_n 2, 1) := by decide +kernel
theorem dX4_presses_7 : decode cX4_presses 7 = .ok (.iload_n 2, 1) := by decide +kernel
theorem dX4_presses_8 : decode cX4_presses 8 = .ok (.istore_n 3, 1) := by decide +kernel
theorem dX4_presses_9 : decode cX4_presses 9 = .ok (.aload_n 0, 1) := by decide +kernel
theorem dX4_presses_10 : decode cX4_presses 10 = .ok (.iload_n 1, 1) := by decide +kernel
theorem dX4_presses_11 : decode cX4_presses 11 = .ok (.iconst 0, 1) := by decide +kernel
theorem dX4_presses_12 : decode cX4_presses 12 = .ok (.invokevirtual 54, 3) := by decide +kernel
theorem dX4_presses_15 : decode cX4_presses 15 = .ok (.tableswitch 97 1 6 #[37, 57, 64, 71, 92, 44], 37) := by decide +kernel
theorem dX4_presses_52 : decode cX4_presses 52 = .ok (.iload_n 2, 1) := by decide +kernel
theorem dX4_presses_53 : decode cX4_presses 53 = .ok (.iconst 2, 1) := by decide +kernel
theorem dX4_presses_54 : decode cX4_presses 54 = .ok (.idiv, 1) := by decide +kernel
theorem dX4_presses_55 : decode cX4_presses 55 = .ok (.istore_n 3, 1) := by decide +kernel
theorem dX4_presses_56 : decode cX4_presses 56 = .ok (.goto 56, 3) := by decide +kernel
theorem dX4_presses_59 : decode cX4_presses 59 = .ok (.iconst 0, 1) := by decide +kernel
theorem dX4_presses_60 : decode cX4_presses 60 = .ok (.iload_n 2, 1) := by decide +kernel
theorem dX4_presses_61 : decode cX4_presses 61 = .ok (.iconst 2, 1) := by decide +kernel
theorem dX4_presses_62 : decode cX4_presses 62 = .ok (.idiv, 1) := by decide +kernel
theorem dX4_presses_63 : decode cX4_presses 63 = .ok (.iconst 1, 1) := by decide +kernel
theorem dX4_presses_64 : decode cX4_presses 64 = .ok (.isub, 1) := by decide +kernel
theorem dX4_presses_65 : decode cX4_presses 65 = .ok (.invokestatic 58, 3) := by decide +kernel
theorem dX4_presses_68 : decode cX4_presses 68 = .ok (.istore_n 3, 1) := by decide +kernel
theorem dX4_presses_69 : decode cX4_presses 69 = .ok (.goto 43, 3) := by decide +kernel
theorem dX4_presses_72 : decode cX4_presses 72 = .ok (.iload_n 2, 1) := by decide +kernel
theorem dX4_presses_73 : decode cX4_presses 73 = .ok (.iconst 3, 1) := by decide +kernel
theorem dX4_presses_74 : decode cX4_presses 74 = .ok (.iadd, 1) := by decide +kernel
theorem dX4_presses_75 : decode cX4_presses 75 = .ok (.istore_n 3, 1) := by decide +kernel
theorem dX4_presses_76 : decode cX4_presses 76 = .ok (.goto 36, 3) := by decide +kernel
theorem dX4_presses_79 : decode cX4_presses 79 = .ok (.iload_n 2, 1) := by decide +kernel
theorem dX4_presses_80 : decode cX4_presses 80 = .ok (.iconst 4, 1) := by decide +kernel
theorem dX4_presses_81 : decode cX4_presses 81 = .ok (.iadd, 1) := by decide +kernel
theorem dX4_presses_82 : decode cX4_presses 82 = .ok (.istore_n 3, 1) := by decide +kernel
theorem dX4_presses_83 : decode cX4_presses 83 = .ok (.goto 29, 3) := by decide +kernel
theorem dX4_presses_86 : decode cX4_presses 86 = .ok (.iload_n 2, 1) := by decide +kernel
theorem dX4_presses_87 : decode cX4_presses 87 = .ok (.aload_n 0, 1) := by decide +kernel
theorem dX4_presses_88 : decode cX4_presses 88 = .ok (.iload_n 1, 1) := by decide +kernel
theorem dX4_presses_89 : decode cX4_presses 89 = .ok (.iconst 3, 1) := by decide +kernel
theorem dX4_presses_90 : decode cX4_presses 90 = .ok (.invokevirtual 54, 3) := by decide +kernel
theorem dX4_presses_93 : decode cX4_presses 93 = .ok (.iconst 3, 1) := by decide +kernel
theorem dX4_presses_94 : decode cX4_presses 94 = .ok (.if_icmp .le 7, 3) := by decide +kernel
theorem dX4_presses_97 : decode cX4_presses 97 = .ok (.iconst 4, 1) := by decide +kernel
theorem dX4_presses_98 : decode cX4_presses 98 = .ok (.goto 4, 3) := by decide +kernel
theorem dX4_presses_101 : decode cX4_presses 101 = .ok (.iconst 2, 1) := by decide +kernel
theorem dX4_presses_102 : decode cX4_presses 102 = .ok (.iadd, 1) := by decide +kernel
theorem dX4_presses_103 : decode cX4_presses 103 = .ok (.istore_n 3, 1) := by decide +kernel
theorem dX4_presses_104 : decode cX4_presses 104 = .ok (.goto 8, 3) := by decide +kernel
theorem dX4_presses_107 : decode cX4_presses 107 = .ok (.iconst 1, 1) := by decide +kernel
theorem dX4_presses_108 : decode cX4_presses 108 = .ok (.istore_n 3, 1) := by decide +kernel
theorem dX4_presses_109 : decode cX4_presses 109 = .ok (.goto 3, 3) := by decide +kernel
theorem dX4_presses_112 : decode cX4_presses 112 = .ok (.bipush 9, 2) := by decide +kernel
theorem dX4_presses_114 : decode cX4_presses 114 = .ok (.iload_n 3, 1) := by decide +kernel
theorem dX4_presses_115 : decode cX4_presses 115 = .ok (.invokestatic 63, 3) := by decide +kernel
theorem dX4_presses_118 : decode cX4_presses 118 = .ok (.ireturn, 1) := by decide +kernel
theorem dX4_looks_0 : decode cX4_looks 0 = .ok (.aload_n 0, 1) := by decide +kernel
theorem dX4_looks_1 : decode cX4_looks 1 = .ok (.iload_n 1, 1) := by decide +kernel
theorem dX4_looks_2 : decode cX4_looks 2 = .ok (.iconst 0, 1) := by decide +kernel
theorem dX4_looks_3 : decode cX4_looks 3 = .ok (.invokevirtual 54, 3) := by decide +kernel
theorem dX4_looks_6 : decode cX4_looks 6 = .ok (.iconst 5, 1) := by decide +kernel
theorem dX4_looks_7 : decode cX4_looks 7 = .ok (.if_icmp .ne 14, 3) := by decide +kernel
theorem dX4_looks_10 : decode cX4_looks 10 = .ok (.iconst 1, 1) := by decide +kernel
theorem dX4_looks_11 : decode cX4_looks 11 = .ok (.aload_n 0, 1) := by decide +kernel
theorem dX4_looks_12 : decode cX4_looks 12 = .ok (.iload_n 1, 1) := by decide +kernel
theorem dX4_looks_13 : decode cX4_looks 13 = .ok (.iconst 2, 1) := by decide +kernel
theorem dX4_looks_14 : decode cX4_looks 14 = .ok (.invokevirtual 54, 3) := by decide +kernel
theorem dX4_looks_17 : decode cX4_looks 17 = .ok (.isub, 1) := by decide +kernel
theorem dX4_looks_18 : decode cX4_looks 18 = .ok (.goto 9, 3) := by decide +kernel
theorem dX4_looks_21 : decode cX4_looks 21 = .ok (.aload_n 0, 1) := by decide +kernel
theorem dX4_looks_22 : decode cX4_looks 22 = .ok (.iload_n 1, 1) := by decide +kernel
theorem dX4_looks_23 : decode cX4_looks 23 = .ok (.iconst 2, 1) := by decide +kernel
theorem dX4_looks_24 : decode cX4_looks 24 = .ok (.invokevirtual 54, 3) := by decide +kernel
theorem dX4_looks_27 : decode cX4_looks 27 = .ok (.ireturn, 1) := by decide +kernel
theorem dX4_workOf_0 : decode cX4_workOf 0 = .ok (.iconst 0, 1) := by decide +kernel
theorem dX4_workOf_1 : decode cX4_workOf 1 = .ok (.istore_n 2, 1) := by decide +kernel
theorem dX4_workOf_2 : decode cX4_workOf 2 = .ok (.iconst 0, 1) := by decide +kernel
theorem dX4_workOf_3 : decode cX4_workOf 3 = .ok (.istore_n 3, 1) := by decide +kernel
theorem dX4_workOf_4 : decode cX4_workOf 4 = .ok (.iload_n 3, 1) := by decide +kernel
theorem dX4_workOf_5 : decode cX4_workOf 5 = .ok (.bipush 24, 2) := by decide +kernel
theorem dX4_workOf_7 : decode cX4_workOf 7 = .ok (.if_icmp .ge 31, 3) := by decide +kernel
theorem dX4_workOf_10 : decode cX4_workOf 10 = .ok (.iload_n 2, 1) := by decide +kernel
theorem dX4_workOf_11 : decode cX4_workOf 11 = .ok (.aload_n 0, 1) := by decide +kernel
theorem dX4_workOf_12 : decode cX4_workOf 12 = .ok (.getfield 9, 3) := by decide +kernel
theorem dX4_workOf_15 : decode cX4_workOf 15 = .ok (.iconst 5, 1) := by decide +kernel
theorem dX4_workOf_16 : decode cX4_workOf 16 = .ok (.iload_n 3, 1) := by decide +kernel
theorem dX4_workOf_17 : decode cX4_workOf 17 = .ok (.iadd, 1) := by decide +kernel
theorem dX4_workOf_18 : decode cX4_workOf 18 = .ok (.iaload, 1) := by decide +kernel
theorem dX4_workOf_19 : decode cX4_workOf 19 = .ok (.iload_n 1, 1) := by decide +kernel
theorem dX4_workOf_20 : decode cX4_workOf 20 = .ok (.if_icmp .ne 9, 3) := by decide +kernel
theorem dX4_workOf_23 : decode cX4_workOf 23 = .ok (.iconst 1, 1) := by decide +kernel
theorem dX4_workOf_24 : decode cX4_workOf 24 = .ok (.iload_n 3, 1) := by decide +kernel
theorem dX4_workOf_25 : decode cX4_workOf 25 = .ok (.ishl, 1) := by decide +kernel
theorem dX4_workOf_26 : decode cX4_workOf 26 = .ok (.goto 4, 3) := by decide +kernel
theorem dX4_workOf_29 : decode cX4_workOf 29 = .ok (.iconst 0, 1) := by decide +kernel
theorem dX4_workOf_30 : decode cX4_workOf 30 = .ok (.ior, 1) := by decide +kernel
theorem dX4_workOf_31 : decode cX4_workOf 31 = .ok (.istore_n 2, 1) := by decide +kernel
theorem dX4_workOf_32 : decode cX4_workOf 32 = .ok (.iinc 3 1, 3) := by decide +kernel
theorem dX4_workOf_35 : decode cX4_workOf 35 = .ok (.goto (-31), 3) := by decide +kernel
theorem dX4_workOf_38 : decode cX4_workOf 38 = .ok (.iload_n 2, 1) := by decide +kernel
theorem dX4_workOf_39 : decode cX4_workOf 39 = .ok (.ireturn, 1) := by decide +kernel
theorem dX4_adds_0 : decode cX4_adds 0 = .ok (.aload_n 0, 1) := by decide +kernel
theorem dX4_adds_1 : decode cX4_adds 1 = .ok (.getfield 9, 3) := by decide +kernel
theorem dX4_adds_4 : decode cX4_adds 4 = .ok (.iconst 2, 1) := by decide +kernel
theorem dX4_adds_5 : decode cX4_adds 5 = .ok (.iaload, 1) := by decide +kernel
theorem dX4_adds_6 : decode cX4_adds 6 = .ok (.istore_n 3, 1) := by decide +kernel
theorem dX4_adds_7 : decode cX4_adds 7 = .ok (.aload_n 0, 1) := by decide +kernel
theorem dX4_adds_8 : decode cX4_adds 8 = .ok (.getfield 9, 3) := by decide +kernel
theorem dX4_adds_11 : decode cX4_adds 11 = .ok (.iconst 2, 1) := by decide +kernel
theorem dX4_adds_12 : decode cX4_adds 12 = .ok (.dup2, 1) := by decide +kernel
theorem dX4_adds_13 : decode cX4_adds 13 = .ok (.iaload, 1) := by decide +kernel
theorem dX4_adds_14 : decode cX4_adds 14 = .ok (.iconst 1, 1) := by decide +kernel
theorem dX4_adds_15 : decode cX4_adds 15 = .ok (.iadd, 1) := by decide +kernel
theorem dX4_adds_16 : decode cX4_adds 16 = .ok (.iastore, 1) := by decide +kernel
theorem dX4_adds_17 : decode cX4_adds 17 = .ok (.aload_n 0, 1) := by decide +kernel
theorem dX4_adds_18 : decode cX4_adds 18 = .ok (.iload_n 3, 1) := by decide +kernel
theorem dX4_adds_19 : decode cX4_adds 19 = .ok (.iconst 0, 1) := by decide +kernel
theorem dX4_adds_20 : decode cX4_adds 20 = .ok (.iload_n 1, 1) := by decide +kernel
theorem dX4_adds_21 : decode cX4_adds 21 = .ok (.invokevirtual 66, 3) := by decide +kernel
theorem dX4_adds_24 : decode cX4_adds 24 = .ok (.aload_n 0, 1) := by decide +kernel
theorem dX4_adds_25 : decode cX4_adds 25 = .ok (.iload_n 3, 1) := by decide +kernel
theorem dX4_adds_26 : decode cX4_adds 26 = .ok (.iconst 1, 1) := by decide +kernel
theorem dX4_adds_27 : decode cX4_adds 27 = .ok (.iload_n 2, 1) := by decide +kernel
theorem dX4_adds_28 : decode cX4_adds 28 = .ok (.invokevirtual 66, 3) := by decide +kernel
theorem dX4_adds_31 : decode cX4_adds 31 = .ok (.aload_n 0, 1) := by decide +kernel
theorem dX4_adds_32 : decode cX4_adds 32 = .ok (.iload_n 3, 1) := by decide +kernel
theorem dX4_adds_33 : decode cX4_adds 33 = .ok (.iconst 2, 1) := by decide +kernel
theorem dX4_adds_34 : decode cX4_adds 34 = .ok (.iconst 1, 1) := by decide +kernel
theorem dX4_adds_35 : decode cX4_adds 35 = .ok (.invokevirtual 66, 3) := by decide +kernel
theorem dX4_adds_38 : decode cX4_adds 38 = .ok (.aload_n 0, 1) := by decide +kernel
theorem dX4_adds_39 : decode cX4_adds 39 = .ok (.iload_n 3, 1) := by decide +kernel
theorem dX4_adds_40 : decode cX4_adds 40 = .ok (.iconst 3, 1) := by decide +kernel
theorem dX4_adds_41 : decode cX4_adds 41 = .ok (.iconst 1, 1) := by decide +kernel
theorem dX4_adds_42 : decode cX4_adds 42 = .ok (.invokevirtual 66, 3) := by decide +kernel
theorem dX4_adds_45 : decode cX4_adds 45 = .ok (.aload_n 0, 1) := by decide +kernel
theorem dX4_adds_46 : decode cX4_adds 46 = .ok (.iload_n 3, 1) := by decide +kernel
theorem dX4_adds_47 : decode cX4_adds 47 = .ok (.iconst 4, 1) := by decide +kernel
theorem dX4_adds_48 : decode cX4_adds 48 = .ok (.iconst 4, 1) := by decide +kernel
theorem dX4_adds_49 : decode cX4_adds 49 = .ok (.invokevirtual 66, 3) := by decide +kernel
theorem dX4_adds_52 : decode cX4_adds 52 = .ok (.aload_n 0, 1) := by decide +kernel
theorem dX4_adds_53 : decode cX4_adds 53 = .ok (.iload_n 3, 1) := by decide +kernel
theorem dX4_adds_54 : decode cX4_adds 54 = .ok (.iconst 5, 1) := by decide +kernel
theorem dX4_adds_55 : decode cX4_adds 55 = .ok (.iconst 0, 1) := by decide +kernel
theorem dX4_adds_56 : decode cX4_adds 56 = .ok (.invokevirtual 66, 3) := by decide +kernel
theorem dX4_adds_59 : decode cX4_adds 59 = .ok (.iload_n 3, 1) := by decide +kernel
theorem dX4_adds_60 : decode cX4_adds 60 = .ok (.ireturn, 1) := by decide +kernel
theorem dX4_walkersAt_0 : decode cX4_walkersAt 0 = .ok (.iconst 0, 1) := by decide +kernel
theorem dX4_walkersAt_1 : decode cX4_walkersAt 1 = .ok (.istore_n 2, 1) := by decide +kernel
theorem dX4_walkersAt_2 : decode cX4_walkersAt 2 = .ok (.iconst 0, 1) := by decide +kernel
theorem dX4_walkersAt_3 : decode cX4_walkersAt 3 = .ok (.istore_n 3, 1) := by decide +kernel
theorem dX4_walkersAt_4 : decode cX4_walkersAt 4 = .ok (.iload_n 3, 1) := by decide +kernel
theorem dX4_walkersAt_5 : decode cX4_walkersAt 5 = .ok (.aload_n 0, 1) := by decide +kernel
theorem dX4_walkersAt_6 : decode cX4_walkersAt 6 = .ok (.getfield 9, 3) := by decide +kernel
theorem dX4_walkersAt_9 : decode cX4_walkersAt 9 = .ok (.iconst 2, 1) := by decide +kernel
theorem dX4_walkersAt_10 : decode cX4_walkersAt 10 = .ok (.iaload, 1) := by decide +kernel
theorem dX4_walkersAt_11 : decode cX4_walkersAt 11 = .ok (.if_icmp .ge 29, 3) := by decide +kernel
theorem dX4_walkersAt_14 : decode cX4_walkersAt 14 = .ok (.iload_n 2, 1) := by decide +kernel
theorem dX4_walkersAt_15 : decode cX4_walkersAt 15 = .ok (.aload_n 0, 1) := by decide +kernel
theorem dX4_walkersAt_16 : decode cX4_walkersAt 16 = .ok (.iload_n 3, 1) := by decide +kernel
theorem dX4_walkersAt_17 : decode cX4_walkersAt 17 = .ok (.iconst 1, 1) := by decide +kernel
theorem dX4_walkersAt_18 : decode cX4_walkersAt 18 = .ok (.invokevirtual 54, 3) := by decide +kernel
theorem dX4_walkersAt_21 : decode cX4_walkersAt 21 = .ok (.iload_n 1, 1) := by decide +kernel
theorem dX4_walkersAt_22 : decode cX4_walkersAt 22 = .ok (.if_icmp .ne 9, 3) := by decide +kernel
theorem dX4_walkersAt_25 : decode cX4_walkersAt 25 = .ok (.iconst 1, 1) := by decide +kernel
theorem dX4_walkersAt_26 : decode cX4_walkersAt 26 = .ok (.iload_n 3, 1) := by decide +kernel
theorem dX4_walkersAt_27 : decode cX4_walkersAt 27 = .ok (.ishl, 1) := by decide +kernel
theorem dX4_walkersAt_28 : decode cX4_walkersAt 28 = .ok (.goto 4, 3) := by decide +kernel
theorem dX4_walkersAt_31 : decode cX4_walkersAt 31 = .ok (.iconst 0, 1) := by decide +kernel
theorem dX4_walkersAt_32 : decode cX4_walkersAt 32 = .ok (.ior, 1) := by decide +kernel
theorem dX4_walkersAt_33 : decode cX4_walkersAt 33 = .ok (.istore_n 2, 1) := by decide +kernel
theorem dX4_walkersAt_34 : decode cX4_walkersAt 34 = .ok (.iinc 3 1, 3) := by decide +kernel
theorem dX4_walkersAt_37 : decode cX4_walkersAt 37 = .ok (.goto (-33), 3) := by decide +kernel
theorem dX4_walkersAt_40 : decode cX4_walkersAt 40 = .ok (.iload_n 2, 1) := by decide +kernel
theorem dX4_walkersAt_41 : decode cX4_walkersAt 41 = .ok (.ireturn, 1) := by decide +kernel
theorem dX4_cell_0 : decode cX4_cell 0 = .ok (.iload_n 1, 1) := by decide +kernel
theorem dX4_cell_1 : decode cX4_cell 1 = .ok (.invokestatic 70, 3) := by decide +kernel
theorem dX4_cell_4 : decode cX4_cell 4 = .ok (.ifCond .eq 15, 3) := by decide +kernel
theorem dX4_cell_7 : decode cX4_cell 7 = .ok (.iload_n 2, 1) := by decide +kernel
theorem dX4_cell_8 : decode cX4_cell 8 = .ok (.i2l, 1) := by decide +kernel
theorem dX4_cell_9 : decode cX4_cell 9 = .ok (.lconst 0, 1) := by decide +kernel
theorem dX4_cell_10 : decode cX4_cell 10 = .ok (.ldc2_w 74, 3) := by decide +kernel
theorem dX4_cell_13 : decode cX4_cell 13 = .ok (.invokestatic 42, 3) := by decide +kernel
theorem dX4_cell_16 : decode cX4_cell 16 = .ok (.ifCond .ne 9, 3) := by decide +kernel
theorem dX4_cell_19 : decode cX4_cell 19 = .ok (.aload_n 0, 1) := by decide +kernel
theorem dX4_cell_20 : decode cX4_cell 20 = .ok (.iconst 0, 1) := by decide +kernel
theorem dX4_cell_21 : decode cX4_cell 21 = .ok (.invokevirtual 76, 3) := by decide +kernel
theorem dX4_cell_24 : decode cX4_cell 24 = .ok (.ireturn, 1) := by decide +kernel
theorem dX4_cell_25 : decode cX4_cell 25 = .ok (.iload_n 2, 1) := by decide +kernel
theorem dX4_cell_26 : decode cX4_cell 26 = .ok (.iconst 3, 1) := by decide +kernel
theorem dX4_cell_27 : decode cX4_cell 27 = .ok (.if_icmp .ne 11, 3) := by decide +kernel
theorem dX4_cell_30 : decode cX4_cell 30 = .ok (.aload_n 0, 1) := by decide +kernel
theorem dX4_cell_31 : decode cX4_cell 31 = .ok (.iload_n 1, 1) := by decide +kernel
theorem dX4_cell_32 : decode cX4_cell 32 = .ok (.invokevirtual 79, 3) := by decide +kernel
theorem dX4_cell_35 : decode cX4_cell 35 = .ok (.goto 16, 3) := by decide +kernel
theorem dX4_cell_38 : decode cX4_cell 38 = .ok (.aload_n 0, 1) := by decide +kernel
theorem dX4_cell_39 : decode cX4_cell 39 = .ok (.getfield 9, 3) := by decide +kernel
theorem dX4_cell_42 : decode cX4_cell 42 = .ok (.iconst 5, 1) := by decide +kernel
theorem dX4_cell_43 : decode cX4_cell 43 = .ok (.bipush 24, 2) := by decide +kernel
theorem dX4_cell_45 : decode cX4_cell 45 = .ok (.iload_n 2, 1) := by decide +kernel
theorem dX4_cell_46 : decode cX4_cell 46 = .ok (.imul, 1) := by decide +kernel
theorem dX4_cell_47 : decode cX4_cell 47 = .ok (.iadd, 1) := by decide +kernel
theorem dX4_cell_48 : decode cX4_cell 48 = .ok (.iload_n 1, 1) := by decide +kernel
theorem dX4_cell_49 : decode cX4_cell 49 = .ok (.iadd, 1) := by decide +kernel
theorem dX4_cell_50 : decode cX4_cell 50 = .ok (.iaload, 1) := by decide +kernel
theorem dX4_cell_51 : decode cX4_cell 51 = .ok (.ireturn, 1) := by decide +kernel
theorem dX4_prints_0 : decode cX4_prints 0 = .ok (.aload_n 0, 1) := by decide +kernel
theorem dX4_prints_1 : decode cX4_prints 1 = .ok (.getfield 9, 3) := by decide +kernel
theorem dX4_prints_4 : decode cX4_prints 4 = .ok (.iconst 5, 1) := by decide +kernel
theorem dX4_prints_5 : decode cX4_prints 5 = .ok (.iload_n 1, 1) := by decide +kernel
theorem dX4_prints_6 : decode cX4_prints 6 = .ok (.iadd, 1) := by decide +kernel
theorem dX4_prints_7 : decode cX4_prints 7 = .ok (.iload_n 2, 1) := by decide +kernel
theorem dX4_prints_8 : decode cX4_prints 8 = .ok (.iastore, 1) := by decide +kernel
theorem dX4_prints_9 : decode cX4_prints 9 = .ok (.aload_n 0, 1) := by decide +kernel
theorem dX4_prints_10 : decode cX4_prints 10 = .ok (.getfield 9, 3) := by decide +kernel
theorem dX4_prints_13 : decode cX4_prints 13 = .ok (.bipush 29, 2) := by decide +kernel
theorem dX4_prints_15 : decode cX4_prints 15 = .ok (.iload_n 1, 1) := by decide +kernel
theorem dX4_prints_16 : decode cX4_prints 16 = .ok (.iadd, 1) := by decide +kernel
theorem dX4_prints_17 : decode cX4_prints 17 = .ok (.iload_n 2, 1) := by decide +kernel
theorem dX4_prints_18 : decode cX4_prints 18 = .ok (.ifCond .ge 7, 3) := by decide +kernel
theorem dX4_prints_21 : decode cX4_prints 21 = .ok (.iconst 0, 1) := by decide +kernel
theorem dX4_prints_22 : decode cX4_prints 22 = .ok (.goto 4, 3) := by decide +kernel
theorem dX4_prints_25 : decode cX4_prints 25 = .ok (.iload_n 3, 1) := by decide +kernel
theorem dX4_prints_26 : decode cX4_prints 26 = .ok (.iastore, 1) := by decide +kernel
theorem dX4_prints_27 : decode cX4_prints 27 = .ok (.aload_n 0, 1) := by decide +kernel
theorem dX4_prints_28 : decode cX4_prints 28 = .ok (.getfield 9, 3) := by decide +kernel
theorem dX4_prints_31 : decode cX4_prints 31 = .ok (.bipush 53, 2) := by decide +kernel
theorem dX4_prints_33 : decode cX4_prints 33 = .ok (.iload_n 1, 1) := by decide +kernel
theorem dX4_prints_34 : decode cX4_prints 34 = .ok (.iadd, 1) := by decide +kernel
theorem dX4_prints_35 : decode cX4_prints 35 = .ok (.iload_n 2, 1) := by decide +kernel
theorem dX4_prints_36 : decode cX4_prints 36 = .ok (.ifCond .ge 7, 3) := by decide +kernel
theorem dX4_prints_39 : decode cX4_prints 39 = .ok (.iconst 0, 1) := by decide +kernel
theorem dX4_prints_40 : decode cX4_prints 40 = .ok (.goto 5, 3) := by decide +kernel
theorem dX4_prints_43 : decode cX4_prints 43 = .ok (.iload 4, 2) := by decide +kernel
theorem dX4_prints_45 : decode cX4_prints 45 = .ok (.iastore, 1) := by decide +kernel
theorem dX4_prints_46 : decode cX4_prints 46 = .ok (.return_, 1) := by decide +kernel
theorem dX4_print_0 : decode cX4_print 0 = .ok (.iload_n 1, 1) := by decide +kernel
theorem dX4_print_1 : decode cX4_print 1 = .ok (.invokestatic 70, 3) := by decide +kernel
theorem dX4_print_4 : decode cX4_print 4 = .ok (.ifCond .eq 28, 3) := by decide +kernel
theorem dX4_print_7 : decode cX4_print 7 = .ok (.iload_n 2, 1) := by decide +kernel
theorem dX4_print_8 : decode cX4_print 8 = .ok (.iconst (-1), 1) := by decide +kernel
theorem dX4_print_9 : decode cX4_print 9 = .ok (.if_icmp .eq 11, 3) := by decide +kernel
theorem dX4_print_12 : decode cX4_print 12 = .ok (.aload_n 0, 1) := by decide +kernel
theorem dX4_print_13 : decode cX4_print 13 = .ok (.iload_n 2, 1) := by decide +kernel
theorem dX4_print_14 : decode cX4_print 14 = .ok (.invokevirtual 82, 3) := by decide +kernel
theorem dX4_print_17 : decode cX4_print 17 = .ok (.ifCond .eq 15, 3) := by decide +kernel
theorem dX4_print_20 : decode cX4_print 20 = .ok (.iload_n 3, 1) := by decide +kernel
theorem dX4_print_21 : decode cX4_print 21 = .ok (.i2l, 1) := by decide +kernel
theorem dX4_print_22 : decode cX4_print 22 = .ok (.lconst 0, 1) := by decide +kernel
theorem dX4_print_23 : decode cX4_print 23 = .ok (.ldc2_w 85, 3) := by decide +kernel
theorem dX4_print_26 : decode cX4_print 26 = .ok (.invokestatic 42, 3) := by decide +kernel
theorem dX4_print_29 : decode cX4_print 29 = .ok (.ifCond .ne 9, 3) := by decide +kernel
theorem dX4_print_32 : decode cX4_print 32 = .ok (.aload_n 0, 1) := by decide +kernel
theorem dX4_print_33 : decode cX4_print 33 = .ok (.iconst 0, 1) := by decide +kernel
theorem dX4_print_34 : decode cX4_print 34 = .ok (.invokevirtual 76, 3) := by decide +kernel
theorem dX4_print_37 : decode cX4_print 37 = .ok (.ireturn, 1) := by decide +kernel
theorem dX4_print_38 : decode cX4_print 38 = .ok (.aload_n 0, 1) := by decide +kernel
theorem dX4_print_39 : decode cX4_print 39 = .ok (.getfield 9, 3) := by decide +kernel
theorem dX4_print_42 : decode cX4_print 42 = .ok (.iconst 5, 1) := by decide +kernel
theorem dX4_print_43 : decode cX4_print 43 = .ok (.iload_n 1, 1) := by decide +kernel
theorem dX4_print_44 : decode cX4_print 44 = .ok (.iadd, 1) := by decide +kernel
theorem dX4_print_45 : decode cX4_print 45 = .ok (.iaload, 1) := by decide +kernel
theorem dX4_print_46 : decode cX4_print 46 = .ok (.istore 4, 2) := by decide +kernel
theorem dX4_print_48 : decode cX4_print 48 = .ok (.aload_n 0, 1) := by decide +kernel
theorem dX4_print_49 : decode cX4_print 49 = .ok (.iload_n 1, 1) := by decide +kernel
theorem dX4_print_50 : decode cX4_print 50 = .ok (.iload_n 2, 1) := by decide +kernel
theorem dX4_print_51 : decode cX4_print 51 = .ok (.iload_n 3, 1) := by decide +kernel
theorem dX4_print_52 : decode cX4_print 52 = .ok (.iload_n 2, 1) := by decide +kernel
theorem dX4_print_53 : decode cX4_print 53 = .ok (.ifCond .ge 7, 3) := by decide +kernel
theorem dX4_print_56 : decode cX4_print 56 = .ok (.iconst 0, 1) := by decide +kernel
theorem dX4_print_57 : decode cX4_print 57 = .ok (.goto 9, 3) := by decide +kernel
theorem dX4_print_60 : decode cX4_print 60 = .ok (.aload_n 0, 1) := by decide +kernel
theorem dX4_print_61 : decode cX4_print 61 = .ok (.iload_n 2, 1) := by decide +kernel
theorem dX4_print_62 : decode cX4_print 62 = .ok (.iconst 2, 1) := by decide +kernel
theorem dX4_print_63 : decode cX4_print 63 = .ok (.invokevirtual 54, 3) := by decide +kernel
theorem dX4_print_66 : decode cX4_print 66 = .ok (.invokevirtual 87, 3) := by decide +kernel
theorem dX4_print_69 : decode cX4_print 69 = .ok (.iload 4, 2) := by decide +kernel
theorem dX4_print_71 : decode cX4_print 71 = .ok (.ireturn, 1) := by decide +kernel
theorem dX4_reach_0 : decode cX4_reach 0 = .ok (.iload_n 1, 1) := by decide +kernel
theorem dX4_reach_1 : decode cX4_reach 1 = .ok (.i2l, 1) := by decide +kernel
theorem dX4_reach_2 : decode cX4_reach 2 = .ok (.lconst 0, 1) := by decide +kernel
theorem dX4_reach_3 : decode cX4_reach 3 = .ok (.ldc2_w 91, 3) := by decide +kernel
theorem dX4_reach_6 : decode cX4_reach 6 = .ok (.invokestatic 42, 3) := by decide +kernel
theorem dX4_reach_9 : decode cX4_reach 9 = .ok (.ifCond .eq 12, 3) := by decide +kernel
theorem dX4_reach_12 : decode cX4_reach 12 = .ok (.aload_n 0, 1) := by decide +kernel
theorem dX4_reach_13 : decode cX4_reach 13 = .ok (.iconst 3, 1) := by decide +kernel
theorem dX4_reach_14 : decode cX4_reach 14 = .ok (.iload_n 1, 1) := by decide +kernel
theorem dX4_reach_15 : decode cX4_reach 15 = .ok (.invokevirtual 93, 3) := by decide +kernel
theorem dX4_reach_18 : decode cX4_reach 18 = .ok (.goto 8, 3) := by decide +kernel
theorem dX4_reach_21 : decode cX4_reach 21 = .ok (.aload_n 0, 1) := by decide +kernel
theorem dX4_reach_22 : decode cX4_reach 22 = .ok (.iconst 0, 1) := by decide +kernel
theorem dX4_reach_23 : decode cX4_reach 23 = .ok (.invokevirtual 76, 3) := by decide +kernel
theorem dX4_reach_26 : decode cX4_reach 26 = .ok (.ireturn, 1) := by decide +kernel
theorem dX4_theTide_0 : decode cX4_theTide 0 = .ok (.iconst 0, 1) := by decide +kernel
theorem dX4_theTide_1 : decode cX4_theTide 1 = .ok (.istore_n 1, 1) := by decide +kernel
theorem dX4_theTide_2 : decode cX4_theTide 2 = .ok (.iconst 0, 1) := by decide +kernel
theorem dX4_theTide_3 : decode cX4_theTide 3 = .ok (.istore_n 2, 1) := by decide +kernel
theorem dX4_theTide_4 : decode cX4_theTide 4 = .ok (.iload_n 2, 1) := by decide +kernel
theorem dX4_theTide_5 : decode cX4_theTide 5 = .ok (.aload_n 0, 1) := by decide +kernel
theorem dX4_theTide_6 : decode cX4_theTide 6 = .ok (.getfield 9, 3) := by decide +kernel
theorem dX4_theTide_9 : decode cX4_theTide 9 = .ok (.iconst 3, 1) := by decide +kernel
theorem dX4_theTide_10 : decode cX4_theTide 10 = .ok (.iaload, 1) := by decide +kernel
theorem dX4_theTide_11 : decode cX4_theTide 11 = .ok (.if_icmp .ge 61, 3) := by decide +kernel
theorem dX4_theTide_14 : decode cX4_theTide 14 = .ok (.aload_n 0, 1) := by decide +kernel
theorem dX4_theTide_15 : decode cX4_theTide 15 = .ok (.getfield 9, 3) := by decide +kernel
theorem dX4_theTide_18 : decode cX4_theTide 18 = .ok (.iconst 5, 1) := by decide +kernel
theorem dX4_theTide_19 : decode cX4_theTide 19 = .ok (.iload_n 2, 1) := by decide +kernel
theorem dX4_theTide_20 : decode cX4_theTide 20 = .ok (.iadd, 1) := by decide +kernel
theorem dX4_theTide_21 : decode cX4_theTide 21 = .ok (.iaload, 1) := by decide +kernel
theorem dX4_theTide_22 : decode cX4_theTide 22 = .ok (.ifCond .lt 44, 3) := by decide +kernel
theorem dX4_theTide_25 : decode cX4_theTide 25 = .ok (.aload_n 0, 1) := by decide +kernel
theorem dX4_theTide_26 : decode cX4_theTide 26 = .ok (.getfield 9, 3) := by decide +kernel
theorem dX4_theTide_29 : decode cX4_theTide 29 = .ok (.bipush 29, 2) := by decide +kernel
theorem dX4_theTide_31 : decode cX4_theTide 31 = .ok (.iload_n 2, 1) := by decide +kernel
theorem dX4_theTide_32 : decode cX4_theTide 32 = .ok (.iadd, 1) := by decide +kernel
theorem dX4_theTide_33 : decode cX4_theTide 33 = .ok (.iaload, 1) := by decide +kernel
theorem dX4_theTide_34 : decode cX4_theTide 34 = .ok (.bipush 8, 2) := by decide +kernel
theorem dX4_theTide_36 : decode cX4_theTide 36 = .ok (.if_icmp .lt 19, 3) := by decide +kernel
theorem dX4_theTide_39 : decode cX4_theTide 39 = .ok (.aload_n 0, 1) := by decide +kernel
theorem dX4_theTide_40 : decode cX4_theTide 40 = .ok (.getfield 9, 3) := by decide +kernel
theorem dX4_theTide_43 : decode cX4_theTide 43 = .ok (.bipush 29, 2) := by decide +kernel
theorem dX4_theTide_45 : decode cX4_theTide 45 = .ok (.iload_n 2, 1) := by decide +kernel
theorem dX4_theTide_46 : decode cX4_theTide 46 = .ok (.iadd, 1) := by decide +kernel
theorem dX4_theTide_47 : decode cX4_theTide 47 = .ok (.dup2, 1) := by decide +kernel
theorem dX4_theTide_48 : decode cX4_theTide 48 = .ok (.iaload, 1) := by decide +kernel
theorem dX4_theTide_49 : decode cX4_theTide 49 = .ok (.iconst 1, 1) := by decide +kernel
theorem dX4_theTide_50 : decode cX4_theTide 50 = .ok (.isub, 1) := by decide +kernel
theorem dX4_theTide_51 : decode cX4_theTide 51 = .ok (.iastore, 1) := by decide +kernel
theorem dX4_theTide_52 : decode cX4_theTide 52 = .ok (.goto 14, 3) := by decide +kernel
theorem dX4_theTide_55 : decode cX4_theTide 55 = .ok (.aload_n 0, 1) := by decide +kernel
theorem dX4_theTide_56 : decode cX4_theTide 56 = .ok (.iload_n 2, 1) := by decide +kernel
theorem dX4_theTide_57 : decode cX4_theTide 57 = .ok (.iconst (-1), 1) := by decide +kernel
theorem dX4_theTide_58 : decode cX4_theTide 58 = .ok (.iconst 0, 1) := by decide +kernel
theorem dX4_theTide_59 : decode cX4_theTide 59 = .ok (.iconst 0, 1) := by decide +kernel
theorem dX4_theTide_60 : decode cX4_theTide 60 = .ok (.invokevirtual 87, 3) := by decide +kernel
theorem dX4_theTide_63 : decode cX4_theTide 63 = .ok (.iinc 1 1, 3) := by decide +kernel
theorem dX4_theTide_66 : decode cX4_theTide 66 = .ok (.iinc 2 1, 3) := by decide +kernel
theorem dX4_theTide_69 : decode cX4_theTide 69 = .ok (.goto (-65), 3) := by decide +kernel
theorem dX4_theTide_72 : decode cX4_theTide 72 = .ok (.iload_n 1, 1) := by decide +kernel
theorem dX4_theTide_73 : decode cX4_theTide 73 = .ok (.ireturn, 1) := by decide +kernel
theorem dX4_tide_0 : decode cX4_tide 0 = .ok (.aload_n 0, 1) := by decide +kernel
theorem dX4_tide_1 : decode cX4_tide 1 = .ok (.invokevirtual 96, 3) := by decide +kernel
theorem dX4_tide_4 : decode cX4_tide 4 = .ok (.ireturn, 1) := by decide +kernel
theorem dX4_walker_0 : decode cX4_walker 0 = .ok (.iload_n 1, 1) := by decide +kernel
theorem dX4_walker_1 : decode cX4_walker 1 = .ok (.invokestatic 100, 3) := by decide +kernel
theorem dX4_walker_4 : decode cX4_walker 4 = .ok (.ifCond .eq 10, 3) := by decide +kernel
theorem dX4_walker_7 : decode cX4_walker 7 = .ok (.iload_n 2, 1) := by decide +kernel
theorem dX4_walker_8 : decode cX4_walker 8 = .ok (.invokestatic 70, 3) := by decide +kernel
theorem dX4_walker_11 : decode cX4_walker 11 = .ok (.ifCond .ne 9, 3) := by decide +kernel
theorem dX4_walker_14 : decode cX4_walker 14 = .ok (.aload_n 0, 1) := by decide +kernel
theorem dX4_walker_15 : decode cX4_walker 15 = .ok (.iconst 0, 1) := by decide +kernel
theorem dX4_walker_16 : decode cX4_walker 16 = .ok (.invokevirtual 76, 3) := by decide +kernel
theorem dX4_walker_19 : decode cX4_walker 19 = .ok (.ireturn, 1) := by decide +kernel
theorem dX4_walker_20 : decode cX4_walker 20 = .ok (.aload_n 0, 1) := by decide +kernel
theorem dX4_walker_21 : decode cX4_walker 21 = .ok (.getfield 9, 3) := by decide +kernel
theorem dX4_walker_24 : decode cX4_walker 24 = .ok (.iconst 2, 1) := by decide +kernel
theorem dX4_walker_25 : decode cX4_walker 25 = .ok (.iaload, 1) := by decide +kernel
theorem dX4_walker_26 : decode cX4_walker 26 = .ok (.bipush 8, 2) := by decide +kernel
theorem dX4_walker_28 : decode cX4_walker 28 = .ok (.if_icmp .ne 11, 3) := by decide +kernel
theorem dX4_walker_31 : decode cX4_walker 31 = .ok (.aload_n 0, 1) := by decide +kernel
theorem dX4_walker_32 : decode cX4_walker 32 = .ok (.iconst 1, 1) := by decide +kernel
theorem dX4_walker_33 : decode cX4_walker 33 = .ok (.invokevirtual 76, 3) := by decide +kernel
theorem dX4_walker_36 : decode cX4_walker 36 = .ok (.goto 9, 3) := by decide +kernel
theorem dX4_walker_39 : decode cX4_walker 39 = .ok (.aload_n 0, 1) := by decide +kernel
theorem dX4_walker_40 : decode cX4_walker 40 = .ok (.iload_n 1, 1) := by decide +kernel
theorem dX4_walker_41 : decode cX4_walker 41 = .ok (.iload_n 2, 1) := by decide +kernel
theorem dX4_walker_42 : decode cX4_walker 42 = .ok (.invokevirtual 103, 3) := by decide +kernel
theorem dX4_walker_45 : decode cX4_walker 45 = .ok (.ireturn, 1) := by decide +kernel
theorem dX4_of_0 : decode cX4_of 0 = .ok (.aload_n 0, 1) := by decide +kernel
theorem dX4_of_1 : decode cX4_of 1 = .ok (.iload_n 1, 1) := by decide +kernel
theorem dX4_of_2 : decode cX4_of 2 = .ok (.invokevirtual 82, 3) := by decide +kernel
theorem dX4_of_5 : decode cX4_of 5 = .ok (.ifCond .eq 15, 3) := by decide +kernel
theorem dX4_of_8 : decode cX4_of 8 = .ok (.iload_n 2, 1) := by decide +kernel
theorem dX4_of_9 : decode cX4_of 9 = .ok (.i2l, 1) := by decide +kernel
theorem dX4_of_10 : decode cX4_of 10 = .ok (.lconst 0, 1) := by decide +kernel
theorem dX4_of_11 : decode cX4_of 11 = .ok (.ldc2_w 85, 3) := by decide +kernel
theorem dX4_of_14 : decode cX4_of 14 = .ok (.invokestatic 42, 3) := by decide +kernel
theorem dX4_of_17 : decode cX4_of 17 = .ok (.ifCond .ne 9, 3) := by decide +kernel
theorem dX4_of_20 : decode cX4_of 20 = .ok (.aload_n 0, 1) := by decide +kernel
theorem dX4_of_21 : decode cX4_of 21 = .ok (.iconst 0, 1) := by decide +kernel
theorem dX4_of_22 : decode cX4_of 22 = .ok (.invokevirtual 76, 3) := by decide +kernel
theorem dX4_of_25 : decode cX4_of 25 = .ok (.ireturn, 1) := by decide +kernel
theorem dX4_of_26 : decode cX4_of 26 = .ok (.iload_n 2, 1) := by decide +kernel
theorem dX4_of_27 : decode cX4_of 27 = .ok (.tableswitch 53 6 9 #[29, 35, 41, 47], 29) := by decide +kernel
theorem dX4_of_56 : decode cX4_of 56 = .ok (.aload_n 0, 1) := by decide +kernel
theorem dX4_of_57 : decode cX4_of 57 = .ok (.iload_n 1, 1) := by decide +kernel
theorem dX4_of_58 : decode cX4_of 58 = .ok (.invokevirtual 106, 3) := by decide +kernel
theorem dX4_of_61 : decode cX4_of 61 = .ok (.ireturn, 1) := by decide +kernel
theorem dX4_of_62 : decode cX4_of 62 = .ok (.aload_n 0, 1) := by decide +kernel
theorem dX4_of_63 : decode cX4_of 63 = .ok (.iload_n 1, 1) := by decide +kernel
theorem dX4_of_64 : decode cX4_of 64 = .ok (.invokevirtual 109, 3) := by decide +kernel
theorem dX4_of_67 : decode cX4_of 67 = .ok (.ireturn, 1) := by decide +kernel
theorem dX4_of_68 : decode cX4_of 68 = .ok (.aload_n 0, 1) := by decide +kernel
theorem dX4_of_69 : decode cX4_of 69 = .ok (.iload_n 1, 1) := by decide +kernel
theorem dX4_of_70 : decode cX4_of 70 = .ok (.invokevirtual 112, 3) := by decide +kernel
theorem dX4_of_73 : decode cX4_of 73 = .ok (.ireturn, 1) := by decide +kernel
theorem dX4_of_74 : decode cX4_of 74 = .ok (.aload_n 0, 1) := by decide +kernel
theorem dX4_of_75 : decode cX4_of 75 = .ok (.iload_n 1, 1) := by decide +kernel
theorem dX4_of_76 : decode cX4_of 76 = .ok (.invokevirtual 115, 3) := by decide +kernel
theorem dX4_of_79 : decode cX4_of 79 = .ok (.ireturn, 1) := by decide +kernel
theorem dX4_of_80 : decode cX4_of 80 = .ok (.aload_n 0, 1) := by decide +kernel
theorem dX4_of_81 : decode cX4_of 81 = .ok (.iload_n 1, 1) := by decide +kernel
theorem dX4_of_82 : decode cX4_of 82 = .ok (.iload_n 2, 1) := by decide +kernel
theorem dX4_of_83 : decode cX4_of 83 = .ok (.invokevirtual 54, 3) := by decide +kernel
theorem dX4_of_86 : decode cX4_of 86 = .ok (.ireturn, 1) := by decide +kernel
theorem dX4_mayBe_0 : decode cX4_mayBe 0 = .ok (.iload_n 0, 1) := by decide +kernel
theorem dX4_mayBe_1 : decode cX4_mayBe 1 = .ok (.tableswitch 73 0 4 #[35, 40, 45, 53, 63], 35) := by decide +kernel
theorem dX4_mayBe_36 : decode cX4_mayBe 36 = .ok (.iload_n 1, 1) := by decide +kernel
theorem dX4_mayBe_37 : decode cX4_mayBe 37 = .ok (.invokestatic 100, 3) := by decide +kernel
theorem dX4_mayBe_40 : decode cX4_mayBe 40 = .ok (.ireturn, 1) := by decide +kernel
theorem dX4_mayBe_41 : decode cX4_mayBe 41 = .ok (.iload_n 1, 1) := by decide +kernel
theorem dX4_mayBe_42 : decode cX4_mayBe 42 = .ok (.invokestatic 70, 3) := by decide +kernel
theorem dX4_mayBe_45 : decode cX4_mayBe 45 = .ok (.ireturn, 1) := by decide +kernel
theorem dX4_mayBe_46 : decode cX4_mayBe 46 = .ok (.iload_n 1, 1) := by decide +kernel
theorem dX4_mayBe_47 : decode cX4_mayBe 47 = .ok (.i2l, 1) := by decide +kernel
theorem dX4_mayBe_48 : decode cX4_mayBe 48 = .ok (.lconst 0, 1) := by decide +kernel
theorem dX4_mayBe_49 : decode cX4_mayBe 49 = .ok (.lconst 1, 1) := by decide +kernel
theorem dX4_mayBe_50 : decode cX4_mayBe 50 = .ok (.invokestatic 42, 3) := by decide +kernel
theorem dX4_mayBe_53 : decode cX4_mayBe 53 = .ok (.ireturn, 1) := by decide +kernel
theorem dX4_mayBe_54 : decode cX4_mayBe 54 = .ok (.iload_n 1, 1) := by decide +kernel
theorem dX4_mayBe_55 : decode cX4_mayBe 55 = .ok (.i2l, 1) := by decide +kernel
theorem dX4_mayBe_56 : decode cX4_mayBe 56 = .ok (.lconst 1, 1) := by decide +kernel
theorem dX4_mayBe_57 : decode cX4_mayBe 57 = .ok (.ldc2_w 52, 3) := by decide +kernel
theorem dX4_mayBe_60 : decode cX4_mayBe 60 = .ok (.invokestatic 42, 3) := by decide +kernel
theorem dX4_mayBe_63 : decode cX4_mayBe 63 = .ok (.ireturn, 1) := by decide +kernel
theorem dX4_mayBe_64 : decode cX4_mayBe 64 = .ok (.iload_n 1, 1) := by decide +kernel
theorem dX4_mayBe_65 : decode cX4_mayBe 65 = .ok (.i2l, 1) := by decide +kernel
theorem dX4_mayBe_66 : decode cX4_mayBe 66 = .ok (.lconst 1, 1) := by decide +kernel
theorem dX4_mayBe_67 : decode cX4_mayBe 67 = .ok (.ldc2_w 85, 3) := by decide +kernel
theorem dX4_mayBe_70 : decode cX4_mayBe 70 = .ok (.invokestatic 42, 3) := by decide +kernel
theorem dX4_mayBe_73 : decode cX4_mayBe 73 = .ok (.ireturn, 1) := by decide +kernel
theorem dX4_mayBe_74 : decode cX4_mayBe 74 = .ok (.iload_n 0, 1) := by decide +kernel
theorem dX4_mayBe_75 : decode cX4_mayBe 75 = .ok (.iconst 5, 1) := by decide +kernel
theorem dX4_mayBe_76 : decode cX4_mayBe 76 = .ok (.if_icmp .ne 19, 3) := by decide +kernel
theorem dX4_mayBe_79 : decode cX4_mayBe 79 = .ok (.iload_n 1, 1) := by decide +kernel
theorem dX4_mayBe_80 : decode cX4_mayBe 80 = .ok (.i2l, 1) := by decide +kernel
theorem dX4_mayBe_81 : decode cX4_mayBe 81 = .ok (.lconst 0, 1) := by decide +kernel
theorem dX4_mayBe_82 : decode cX4_mayBe 82 = .ok (.ldc2_w 118, 3) := by decide +kernel
theorem dX4_mayBe_85 : decode cX4_mayBe 85 = .ok (.invokestatic 42, 3) := by decide +kernel
theorem dX4_mayBe_88 : decode cX4_mayBe 88 = .ok (.ifCond .eq 7, 3) := by decide +kernel
theorem dX4_mayBe_91 : decode cX4_mayBe 91 = .ok (.iconst 1, 1) := by decide +kernel
theorem dX4_mayBe_92 : decode cX4_mayBe 92 = .ok (.goto 4, 3) := by decide +kernel
theorem dX4_mayBe_95 : decode cX4_mayBe 95 = .ok (.iconst 0, 1) := by decide +kernel
theorem dX4_mayBe_96 : decode cX4_mayBe 96 = .ok (.ireturn, 1) := by decide +kernel
theorem dX4_change_0 : decode cX4_change 0 = .ok (.aload_n 0, 1) := by decide +kernel
theorem dX4_change_1 : decode cX4_change 1 = .ok (.iload_n 1, 1) := by decide +kernel
theorem dX4_change_2 : decode cX4_change 2 = .ok (.invokevirtual 82, 3) := by decide +kernel
theorem dX4_change_5 : decode cX4_change 5 = .ok (.ifCond .eq 28, 3) := by decide +kernel
theorem dX4_change_8 : decode cX4_change 8 = .ok (.iload_n 2, 1) := by decide +kernel
theorem dX4_change_9 : decode cX4_change 9 = .ok (.iload_n 3, 1) := by decide +kernel
theorem dX4_change_10 : decode cX4_change 10 = .ok (.invokestatic 120, 3) := by decide +kernel
theorem dX4_change_13 : decode cX4_change 13 = .ok (.ifCond .eq 20, 3) := by decide +kernel
theorem dX4_change_16 : decode cX4_change 16 = .ok (.aload_n 0, 1) := by decide +kernel
theorem dX4_change_17 : decode cX4_change 17 = .ok (.bipush 77, 2) := by decide +kernel
theorem dX4_change_19 : decode cX4_change 19 = .ok (.bipush 6, 2) := by decide +kernel
theorem dX4_change_21 : decode cX4_change 21 = .ok (.iload_n 1, 1) := by decide +kernel
theorem dX4_change_22 : decode cX4_change 22 = .ok (.imul, 1) := by decide +kernel
theorem dX4_change_23 : decode cX4_change 23 = .ok (.iadd, 1) := by decide +kernel
theorem dX4_change_24 : decode cX4_change 24 = .ok (.iload_n 2, 1) := by decide +kernel
theorem dX4_change_25 : decode cX4_change 25 = .ok (.iadd, 1) := by decide +kernel
theorem dX4_change_26 : decode cX4_change 26 = .ok (.iload_n 3, 1) := by decide +kernel
theorem dX4_change_27 : decode cX4_change 27 = .ok (.invokevirtual 93, 3) := by decide +kernel
theorem dX4_change_30 : decode cX4_change 30 = .ok (.goto 8, 3) := by decide +kernel
theorem dX4_change_33 : decode cX4_change 33 = .ok (.aload_n 0, 1) := by decide +kernel
theorem dX4_change_34 : decode cX4_change 34 = .ok (.iconst 0, 1) := by decide +kernel
theorem dX4_change_35 : decode cX4_change 35 = .ok (.invokevirtual 76, 3) := by decide +kernel
theorem dX4_change_38 : decode cX4_change 38 = .ok (.ireturn, 1) := by decide +kernel
theorem dX4_goes_0 : decode cX4_goes 0 = .ok (.aload_n 0, 1) := by decide +kernel
theorem dX4_goes_1 : decode cX4_goes 1 = .ok (.iload_n 1, 1) := by decide +kernel
theorem dX4_goes_2 : decode cX4_goes 2 = .ok (.invokevirtual 106, 3) := by decide +kernel
theorem dX4_goes_5 : decode cX4_goes 5 = .ok (.aload_n 0, 1) := by decide +kernel
theorem dX4_goes_6 : decode cX4_goes 6 = .ok (.iload_n 1, 1) := by decide +kernel
theorem dX4_goes_7 : decode cX4_goes 7 = .ok (.iconst 2, 1) := by decide +kernel
theorem dX4_goes_8 : decode cX4_goes 8 = .ok (.invokevirtual 54, 3) := by decide +kernel
theorem dX4_goes_11 : decode cX4_goes 11 = .ok (.iconst 1, 1) := by decide +kernel
theorem dX4_goes_12 : decode cX4_goes 12 = .ok (.if_icmp .ne 7, 3) := by decide +kernel
theorem dX4_goes_15 : decode cX4_goes 15 = .ok (.iconst 1, 1) := by decide +kernel
theorem dX4_goes_16 : decode cX4_goes 16 = .ok (.goto 4, 3) := by decide +kernel
theorem dX4_goes_19 : decode cX4_goes 19 = .ok (.iconst (-1), 1) := by decide +kernel
theorem dX4_goes_20 : decode cX4_goes 20 = .ok (.imul, 1) := by decide +kernel
theorem dX4_goes_21 : decode cX4_goes 21 = .ok (.istore_n 2, 1) := by decide +kernel
theorem dX4_goes_22 : decode cX4_goes 22 = .ok (.iconst 0, 1) := by decide +kernel
theorem dX4_goes_23 : decode cX4_goes 23 = .ok (.bipush 23, 2) := by decide +kernel
theorem dX4_goes_25 : decode cX4_goes 25 = .ok (.aload_n 0, 1) := by decide +kernel
theorem dX4_goes_26 : decode cX4_goes 26 = .ok (.iload_n 1, 1) := by decide +kernel
theorem dX4_goes_27 : decode cX4_goes 27 = .ok (.iconst 1, 1) := by decide +kernel
theorem dX4_goes_28 : decode cX4_goes 28 = .ok (.invokevirtual 54, 3) := by decide +kernel
theorem dX4_goes_31 : decode cX4_goes 31 = .ok (.iload_n 2, 1) := by decide +kernel
theorem dX4_goes_32 : decode cX4_goes 32 = .ok (.iadd, 1) := by decide +kernel
theorem dX4_goes_33 : decode cX4_goes 33 = .ok (.invokestatic 63, 3) := by decide +kernel
theorem dX4_goes_36 : decode cX4_goes 36 = .ok (.invokestatic 58, 3) := by decide +kernel
theorem dX4_goes_39 : decode cX4_goes 39 = .ok (.istore_n 3, 1) := by decide +kernel
theorem dX4_goes_40 : decode cX4_goes 40 = .ok (.aload_n 0, 1) := by decide +kernel
theorem dX4_goes_41 : decode cX4_goes 41 = .ok (.getfield 9, 3) := by decide +kernel
theorem dX4_goes_44 : decode cX4_goes 44 = .ok (.iconst 5, 1) := by decide +kernel
theorem dX4_goes_45 : decode cX4_goes 45 = .ok (.iload_n 3, 1) := by decide +kernel
theorem dX4_goes_46 : decode cX4_goes 46 = .ok (.iadd, 1) := by decide +kernel
theorem dX4_goes_47 : decode cX4_goes 47 = .ok (.iaload, 1) := by decide +kernel
theorem dX4_goes_48 : decode cX4_goes 48 = .ok (.istore 4, 2) := by decide +kernel
theorem dX4_goes_50 : decode cX4_goes 50 = .ok (.iload 4, 2) := by decide +kernel
theorem dX4_goes_52 : decode cX4_goes 52 = .ok (.ifCond .lt 28, 3) := by decide +kernel
theorem dX4_goes_55 : decode cX4_goes 55 = .ok (.iload 4, 2) := by decide +kernel
theorem dX4_goes_57 : decode cX4_goes 57 = .ok (.iload_n 1, 1) := by decide +kernel
theorem dX4_goes_58 : decode cX4_goes 58 = .ok (.if_icmp .eq 22, 3) := by decide +kernel
theorem dX4_goes_61 : decode cX4_goes 61 = .ok (.aload_n 0, 1) := by decide +kernel
theorem dX4_goes_62 : decode cX4_goes 62 = .ok (.getfield 9, 3) := by decide +kernel
theorem dX4_goes_65 : decode cX4_goes 65 = .ok (.iconst 4, 1) := by decide +kernel
theorem dX4_goes_66 : decode cX4_goes 66 = .ok (.ldc 124, 2) := by decide +kernel
theorem dX4_goes_68 : decode cX4_goes 68 = .ok (.aload_n 0, 1) := by decide +kernel
theorem dX4_goes_69 : decode cX4_goes 69 = .ok (.getfield 9, 3) := by decide +kernel
theorem dX4_goes_72 : decode cX4_goes 72 = .ok (.iconst 4, 1) := by decide +kernel
theorem dX4_goes_73 : decode cX4_goes 73 = .ok (.iaload, 1) := by decide +kernel
theorem dX4_goes_74 : decode cX4_goes 74 = .ok (.iconst 1, 1) := by decide +kernel
theorem dX4_goes_75 : decode cX4_goes 75 = .ok (.iadd, 1) := by decide +kernel
theorem dX4_goes_76 : decode cX4_goes 76 = .ok (.invokestatic 63, 3) := by decide +kernel
theorem dX4_goes_79 : decode cX4_goes 79 = .ok (.iastore, 1) := by decide +kernel
theorem dX4_goes_80 : decode cX4_goes 80 = .ok (.aload_n 0, 1) := by decide +kernel
theorem dX4_goes_81 : decode cX4_goes 81 = .ok (.iload_n 3, 1) := by decide +kernel
theorem dX4_goes_82 : decode cX4_goes 82 = .ok (.iload_n 1, 1) := by decide +kernel
theorem dX4_goes_83 : decode cX4_goes 83 = .ok (.aload_n 0, 1) := by decide +kernel
theorem dX4_goes_84 : decode cX4_goes 84 = .ok (.iload_n 1, 1) := by decide +kernel
theorem dX4_goes_85 : decode cX4_goes 85 = .ok (.invokevirtual 109, 3) := by decide +kernel
theorem dX4_goes_88 : decode cX4_goes 88 = .ok (.aload_n 0, 1) := by decide +kernel
theorem dX4_goes_89 : decode cX4_goes 89 = .ok (.iload_n 1, 1) := by decide +kernel
theorem dX4_goes_90 : decode cX4_goes 90 = .ok (.invokevirtual 112, 3) := by decide +kernel
theorem dX4_goes_93 : decode cX4_goes 93 = .ok (.invokevirtual 87, 3) := by decide +kernel
theorem dX4_goes_96 : decode cX4_goes 96 = .ok (.iload_n 3, 1) := by decide +kernel
theorem dX4_goes_97 : decode cX4_goes 97 = .ok (.aload_n 0, 1) := by decide +kernel
theorem dX4_goes_98 : decode cX4_goes 98 = .ok (.iload_n 1, 1) := by decide +kernel
theorem dX4_goes_99 : decode cX4_goes 99 = .ok (.iconst 1, 1) := by decide +kernel
theorem dX4_goes_100 : decode cX4_goes 100 = .ok (.invokevirtual 54, 3) := by decide +kernel
theorem dX4_goes_103 : decode cX4_goes 103 = .ok (.iload_n 2, 1) := by decide +kernel
theorem dX4_goes_104 : decode cX4_goes 104 = .ok (.iadd, 1) := by decide +kernel
theorem dX4_goes_105 : decode cX4_goes 105 = .ok (.if_icmp .eq 17, 3) := by decide +kernel
theorem dX4_goes_108 : decode cX4_goes 108 = .ok (.aload_n 0, 1) := by decide +kernel
theorem dX4_goes_109 : decode cX4_goes 109 = .ok (.iload_n 1, 1) := by decide +kernel
theorem dX4_goes_110 : decode cX4_goes 110 = .ok (.iconst 2, 1) := by decide +kernel
theorem dX4_goes_111 : decode cX4_goes 111 = .ok (.iconst 1, 1) := by decide +kernel
theorem dX4_goes_112 : decode cX4_goes 112 = .ok (.aload_n 0, 1) := by decide +kernel
theorem dX4_goes_113 : decode cX4_goes 113 = .ok (.iload_n 1, 1) := by decide +kernel
theorem dX4_goes_114 : decode cX4_goes 114 = .ok (.iconst 2, 1) := by decide +kernel
theorem dX4_goes_115 : decode cX4_goes 115 = .ok (.invokevirtual 54, 3) := by decide +kernel
theorem dX4_goes_118 : decode cX4_goes 118 = .ok (.isub, 1) := by decide +kernel
theorem dX4_goes_119 : decode cX4_goes 119 = .ok (.invokevirtual 66, 3) := by decide +kernel
theorem dX4_goes_122 : decode cX4_goes 122 = .ok (.aload_n 0, 1) := by decide +kernel
theorem dX4_goes_123 : decode cX4_goes 123 = .ok (.iload_n 1, 1) := by decide +kernel
theorem dX4_goes_124 : decode cX4_goes 124 = .ok (.iconst 1, 1) := by decide +kernel
theorem dX4_goes_125 : decode cX4_goes 125 = .ok (.iload_n 3, 1) := by decide +kernel
theorem dX4_goes_126 : decode cX4_goes 126 = .ok (.invokevirtual 66, 3) := by decide +kernel
theorem dX4_goes_129 : decode cX4_goes 129 = .ok (.aload_n 0, 1) := by decide +kernel
theorem dX4_goes_130 : decode cX4_goes 130 = .ok (.iload_n 1, 1) := by decide +kernel
theorem dX4_goes_131 : decode cX4_goes 131 = .ok (.iconst 5, 1) := by decide +kernel
theorem dX4_goes_132 : decode cX4_goes 132 = .ok (.ldc 124, 2) := by decide +kernel
theorem dX4_goes_134 : decode cX4_goes 134 = .ok (.aload_n 0, 1) := by decide +kernel
theorem dX4_goes_135 : decode cX4_goes 135 = .ok (.iload_n 1, 1) := by decide +kernel
theorem dX4_goes_136 : decode cX4_goes 136 = .ok (.iconst 5, 1) := by decide +kernel
theorem dX4_goes_137 : decode cX4_goes 137 = .ok (.invokevirtual 54, 3) := by decide +kernel
theorem dX4_goes_140 : decode cX4_goes 140 = .ok (.iconst 1, 1) := by decide +kernel
theorem dX4_goes_141 : decode cX4_goes 141 = .ok (.iadd, 1) := by decide +kernel
theorem dX4_goes_142 : decode cX4_goes 142 = .ok (.invokestatic 63, 3) := by decide +kernel
theorem dX4_goes_145 : decode cX4_goes 145 = .ok (.invokevirtual 66, 3) := by decide +kernel
theorem dX4_goes_148 : decode cX4_goes 148 = .ok (.return_, 1) := by decide +kernel
theorem dX4_anHour_0 : decode cX4_anHour 0 = .ok (.iconst 0, 1) := by decide +kernel
theorem dX4_anHour_1 : decode cX4_anHour 1 = .ok (.istore_n 1, 1) := by decide +kernel
theorem dX4_anHour_2 : decode cX4_anHour 2 = .ok (.iload_n 1, 1) := by decide +kernel
theorem dX4_anHour_3 : decode cX4_anHour 3 = .ok (.aload_n 0, 1) := by decide +kernel
theorem dX4_anHour_4 : decode cX4_anHour 4 = .ok (.getfield 9, 3) := by decide +kernel
theorem dX4_anHour_7 : decode cX4_anHour 7 = .ok (.iconst 2, 1) := by decide +kernel
theorem dX4_anHour_8 : decode cX4_anHour 8 = .ok (.iaload, 1) := by decide +kernel
theorem dX4_anHour_9 : decode cX4_anHour 9 = .ok (.if_icmp .ge 25, 3) := by decide +kernel
theorem dX4_anHour_12 : decode cX4_anHour 12 = .ok (.aload_n 0, 1) := by decide +kernel
theorem dX4_anHour_13 : decode cX4_anHour 13 = .ok (.getfield 125, 3) := by decide +kernel
theorem dX4_anHour_16 : decode cX4_anHour 16 = .ok (.iload_n 1, 1) := by decide +kernel
theorem dX4_anHour_17 : decode cX4_anHour 17 = .ok (.ishr, 1) := by decide +kernel
theorem dX4_anHour_18 : decode cX4_anHour 18 = .ok (.iconst 1, 1) := by decide +kernel
theorem dX4_anHour_19 : decode cX4_anHour 19 = .ok (.iand, 1) := by decide +kernel
theorem dX4_anHour_20 : decode cX4_anHour 20 = .ok (.ifCond .ne 8, 3) := by decide +kernel
theorem dX4_anHour_23 : decode cX4_anHour 23 = .ok (.aload_n 0, 1) := by decide +kernel
theorem dX4_anHour_24 : decode cX4_anHour 24 = .ok (.iload_n 1, 1) := by decide +kernel
theorem dX4_anHour_25 : decode cX4_anHour 25 = .ok (.invokevirtual 129, 3) := by decide +kernel
theorem dX4_anHour_28 : decode cX4_anHour 28 = .ok (.iinc 1 1, 3) := by decide +kernel
theorem dX4_anHour_31 : decode cX4_anHour 31 = .ok (.goto (-29), 3) := by decide +kernel
theorem dX4_anHour_34 : decode cX4_anHour 34 = .ok (.aload_n 0, 1) := by decide +kernel
theorem dX4_anHour_35 : decode cX4_anHour 35 = .ok (.getfield 9, 3) := by decide +kernel
theorem dX4_anHour_38 : decode cX4_anHour 38 = .ok (.iconst 0, 1) := by decide +kernel
theorem dX4_anHour_39 : decode cX4_anHour 39 = .ok (.dup2, 1) := by decide +kernel
theorem dX4_anHour_40 : decode cX4_anHour 40 = .ok (.iaload, 1) := by decide +kernel
theorem dX4_anHour_41 : decode cX4_anHour 41 = .ok (.iconst 1, 1) := by decide +kernel
theorem dX4_anHour_42 : decode cX4_anHour 42 = .ok (.iadd, 1) := by decide +kernel
theorem dX4_anHour_43 : decode cX4_anHour 43 = .ok (.iastore, 1) := by decide +kernel
theorem dX4_anHour_44 : decode cX4_anHour 44 = .ok (.aload_n 0, 1) := by decide +kernel
theorem dX4_anHour_45 : decode cX4_anHour 45 = .ok (.getfield 9, 3) := by decide +kernel
theorem dX4_anHour_48 : decode cX4_anHour 48 = .ok (.iconst 0, 1) := by decide +kernel
theorem dX4_anHour_49 : decode cX4_anHour 49 = .ok (.iaload, 1) := by decide +kernel
theorem dX4_anHour_50 : decode cX4_anHour 50 = .ok (.bipush 6, 2) := by decide +kernel
theorem dX4_anHour_52 : decode cX4_anHour 52 = .ok (.irem, 1) := by decide +kernel
theorem dX4_anHour_53 : decode cX4_anHour 53 = .ok (.ifCond .ne 8, 3) := by decide +kernel
theorem dX4_anHour_56 : decode cX4_anHour 56 = .ok (.aload_n 0, 1) := by decide +kernel
theorem dX4_anHour_57 : decode cX4_anHour 57 = .ok (.invokevirtual 96, 3) := by decide +kernel
theorem dX4_anHour_60 : decode cX4_anHour 60 = .ok (.istore_n 1, 1) := by decide +kernel
theorem dX4_anHour_61 : decode cX4_anHour 61 = .ok (.return_, 1) := by decide +kernel
theorem dX4_hours_0 : decode cX4_hours 0 = .ok (.iconst 0, 1) := by decide +kernel
theorem dX4_hours_1 : decode cX4_hours 1 = .ok (.istore_n 2, 1) := by decide +kernel
theorem dX4_hours_2 : decode cX4_hours 2 = .ok (.iload_n 2, 1) := by decide +kernel
theorem dX4_hours_3 : decode cX4_hours 3 = .ok (.iload_n 1, 1) := by decide +kernel
theorem dX4_hours_4 : decode cX4_hours 4 = .ok (.if_icmp .ge 13, 3) := by decide +kernel
theorem dX4_hours_7 : decode cX4_hours 7 = .ok (.aload_n 0, 1) := by decide +kernel
theorem dX4_hours_8 : decode cX4_hours 8 = .ok (.invokevirtual 133, 3) := by decide +kernel
theorem dX4_hours_11 : decode cX4_hours 11 = .ok (.iinc 2 1, 3) := by decide +kernel
theorem dX4_hours_14 : decode cX4_hours 14 = .ok (.goto (-12), 3) := by decide +kernel
theorem dX4_hours_17 : decode cX4_hours 17 = .ok (.return_, 1) := by decide +kernel
theorem dX4_printed_0 : decode cX4_printed 0 = .ok (.iconst 0, 1) := by decide +kernel
theorem dX4_printed_1 : decode cX4_printed 1 = .ok (.istore_n 1, 1) := by decide +kernel
theorem dX4_printed_2 : decode cX4_printed 2 = .ok (.iconst 0, 1) := by decide +kernel
theorem dX4_printed_3 : decode cX4_printed 3 = .ok (.istore_n 2, 1) := by decide +kernel
theorem dX4_printed_4 : decode cX4_printed 4 = .ok (.iload_n 2, 1) := by decide +kernel
theorem dX4_printed_5 : decode cX4_printed 5 = .ok (.bipush 24, 2) := by decide +kernel
theorem dX4_printed_7 : decode cX4_printed 7 = .ok (.if_icmp .ge 30, 3) := by decide +kernel
theorem dX4_printed_10 : decode cX4_printed 10 = .ok (.iload_n 1, 1) := by decide +kernel
theorem dX4_printed_11 : decode cX4_printed 11 = .ok (.aload_n 0, 1) := by decide +kernel
theorem dX4_printed_12 : decode cX4_printed 12 = .ok (.getfield 9, 3) := by decide +kernel
theorem dX4_printed_15 : decode cX4_printed 15 = .ok (.iconst 5, 1) := by decide +kernel
theorem dX4_printed_16 : decode cX4_printed 16 = .ok (.iload_n 2, 1) := by decide +kernel
theorem dX4_printed_17 : decode cX4_printed 17 = .ok (.iadd, 1) := by decide +kernel
theorem dX4_printed_18 : decode cX4_printed 18 = .ok (.iaload, 1) := by decide +kernel
theorem dX4_printed_19 : decode cX4_printed 19 = .ok (.ifCond .lt 9, 3) := by decide +kernel
theorem dX4_printed_22 : decode cX4_printed 22 = .ok (.iconst 1, 1) := by decide +kernel
theorem dX4_printed_23 : decode cX4_printed 23 = .ok (.iload_n 2, 1) := by decide +kernel
theorem dX4_printed_24 : decode cX4_printed 24 = .ok (.ishl, 1) := by decide +kernel
theorem dX4_printed_25 : decode cX4_printed 25 = .ok (.goto 4, 3) := by decide +kernel
theorem dX4_printed_28 : decode cX4_printed 28 = .ok (.iconst 0, 1) := by decide +kernel
theorem dX4_printed_29 : decode cX4_printed 29 = .ok (.ior, 1) := by decide +kernel
theorem dX4_printed_30 : decode cX4_printed 30 = .ok (.istore_n 1, 1) := by decide +kernel
theorem dX4_printed_31 : decode cX4_printed 31 = .ok (.iinc 2 1, 3) := by decide +kernel
theorem dX4_printed_34 : decode cX4_printed 34 = .ok (.goto (-30), 3) := by decide +kernel
theorem dX4_printed_37 : decode cX4_printed 37 = .ok (.iload_n 1, 1) := by decide +kernel
theorem dX4_printed_38 : decode cX4_printed 38 = .ok (.ireturn, 1) := by decide +kernel
theorem dX4_go_0 : decode cX4_go 0 = .ok (.iload_n 1, 1) := by decide +kernel
theorem dX4_go_1 : decode cX4_go 1 = .ok (.i2l, 1) := by decide +kernel
theorem dX4_go_2 : decode cX4_go 2 = .ok (.lconst 1, 1) := by decide +kernel
theorem dX4_go_3 : decode cX4_go 3 = .ok (.ldc2_w 136, 3) := by decide +kernel
theorem dX4_go_6 : decode cX4_go 6 = .ok (.invokestatic 42, 3) := by decide +kernel
theorem dX4_go_9 : decode cX4_go 9 = .ok (.ifCond .ne 9, 3) := by decide +kernel
theorem dX4_go_12 : decode cX4_go 12 = .ok (.aload_n 0, 1) := by decide +kernel
theorem dX4_go_13 : decode cX4_go 13 = .ok (.iconst 0, 1) := by decide +kernel
theorem dX4_go_14 : decode cX4_go 14 = .ok (.invokevirtual 76, 3) := by decide +kernel
theorem dX4_go_17 : decode cX4_go 17 = .ok (.ireturn, 1) := by decide +kernel
theorem dX4_go_18 : decode cX4_go 18 = .ok (.aload_n 0, 1) := by decide +kernel
theorem dX4_go_19 : decode cX4_go 19 = .ok (.getfield 9, 3) := by decide +kernel
theorem dX4_go_22 : decode cX4_go 22 = .ok (.iconst 0, 1) := by decide +kernel
theorem dX4_go_23 : decode cX4_go 23 = .ok (.iaload, 1) := by decide +kernel
theorem dX4_go_24 : decode cX4_go 24 = .ok (.iload_n 1, 1) := by decide +kernel
theorem dX4_go_25 : decode cX4_go 25 = .ok (.iadd, 1) := by decide +kernel
theorem dX4_go_26 : decode cX4_go 26 = .ok (.ldc 124, 2) := by decide +kernel
theorem dX4_go_28 : decode cX4_go 28 = .ok (.if_icmp .le 9, 3) := by decide +kernel
theorem dX4_go_31 : decode cX4_go 31 = .ok (.aload_n 0, 1) := by decide +kernel
theorem dX4_go_32 : decode cX4_go 32 = .ok (.iconst 4, 1) := by decide +kernel
theorem dX4_go_33 : decode cX4_go 33 = .ok (.invokevirtual 76, 3) := by decide +kernel
theorem dX4_go_36 : decode cX4_go 36 = .ok (.ireturn, 1) := by decide +kernel
theorem dX4_go_37 : decode cX4_go 37 = .ok (.aload_n 0, 1) := by decide +kernel
theorem dX4_go_38 : decode cX4_go 38 = .ok (.iload_n 1, 1) := by decide +kernel
theorem dX4_go_39 : decode cX4_go 39 = .ok (.invokevirtual 138, 3) := by decide +kernel
theorem dX4_go_42 : decode cX4_go 42 = .ok (.aload_n 0, 1) := by decide +kernel
theorem dX4_go_43 : decode cX4_go 43 = .ok (.invokevirtual 141, 3) := by decide +kernel
theorem dX4_go_46 : decode cX4_go 46 = .ok (.invokestatic 144, 3) := by decide +kernel
theorem dX4_go_49 : decode cX4_go 49 = .ok (.ireturn, 1) := by decide +kernel
theorem dX4_depths_0 : decode cX4_depths 0 = .ok (.iconst 0, 1) := by decide +kernel
theorem dX4_depths_1 : decode cX4_depths 1 = .ok (.istore_n 1, 1) := by decide +kernel
theorem dX4_depths_2 : decode cX4_depths 2 = .ok (.iconst 0, 1) := by decide +kernel
theorem dX4_depths_3 : decode cX4_depths 3 = .ok (.istore_n 2, 1) := by decide +kernel
theorem dX4_depths_4 : decode cX4_depths 4 = .ok (.iload_n 2, 1) := by decide +kernel
theorem dX4_depths_5 : decode cX4_depths 5 = .ok (.bipush 24, 2) := by decide +kernel
theorem dX4_depths_7 : decode cX4_depths 7 = .ok (.if_icmp .ge 21, 3) := by decide +kernel
theorem dX4_depths_10 : decode cX4_depths 10 = .ok (.iload_n 1, 1) := by decide +kernel
theorem dX4_depths_11 : decode cX4_depths 11 = .ok (.aload_n 0, 1) := by decide +kernel
theorem dX4_depths_12 : decode cX4_depths 12 = .ok (.getfield 9, 3) := by decide +kernel
theorem dX4_depths_15 : decode cX4_depths 15 = .ok (.bipush 29, 2) := by decide +kernel
theorem dX4_depths_17 : decode cX4_depths 17 = .ok (.iload_n 2, 1) := by decide +kernel
theorem dX4_depths_18 : decode cX4_depths 18 = .ok (.iadd, 1) := by decide +kernel
theorem dX4_depths_19 : decode cX4_depths 19 = .ok (.iaload, 1) := by decide +kernel
theorem dX4_depths_20 : decode cX4_depths 20 = .ok (.iadd, 1) := by decide +kernel
theorem dX4_depths_21 : decode cX4_depths 21 = .ok (.istore_n 1, 1) := by decide +kernel
theorem dX4_depths_22 : decode cX4_depths 22 = .ok (.iinc 2 1, 3) := by decide +kernel
theorem dX4_depths_25 : decode cX4_depths 25 = .ok (.goto (-21), 3) := by decide +kernel
theorem dX4_depths_28 : decode cX4_depths 28 = .ok (.iload_n 1, 1) := by decide +kernel
theorem dX4_depths_29 : decode cX4_depths 29 = .ok (.ireturn, 1) := by decide +kernel
theorem dX4_greatest_0 : decode cX4_greatest 0 = .ok (.iconst (-1), 1) := by decide +kernel
theorem dX4_greatest_1 : decode cX4_greatest 1 = .ok (.istore_n 1, 1) := by decide +kernel
theorem dX4_greatest_2 : decode cX4_greatest 2 = .ok (.iconst 0, 1) := by decide +kernel
theorem dX4_greatest_3 : decode cX4_greatest 3 = .ok (.istore_n 2, 1) := by decide +kernel
theorem dX4_greatest_4 : decode cX4_greatest 4 = .ok (.iload_n 2, 1) := by decide +kernel
theorem dX4_greatest_5 : decode cX4_greatest 5 = .ok (.aload_n 0, 1) := by decide +kernel
theorem dX4_greatest_6 : decode cX4_greatest 6 = .ok (.getfield 9, 3) := by decide +kernel
theorem dX4_greatest_9 : decode cX4_greatest 9 = .ok (.iconst 2, 1) := by decide +kernel
theorem dX4_greatest_10 : decode cX4_greatest 10 = .ok (.iaload, 1) := by decide +kernel
theorem dX4_greatest_11 : decode cX4_greatest 11 = .ok (.if_icmp .ge 38, 3) := by decide +kernel
theorem dX4_greatest_14 : decode cX4_greatest 14 = .ok (.iload_n 1, 1) := by decide +kernel
theorem dX4_greatest_15 : decode cX4_greatest 15 = .ok (.ifCond .lt 22, 3) := by decide +kernel
theorem dX4_greatest_18 : decode cX4_greatest 18 = .ok (.aload_n 0, 1) := by decide +kernel
theorem dX4_greatest_19 : decode cX4_greatest 19 = .ok (.iload_n 2, 1) := by decide +kernel
theorem dX4_greatest_20 : decode cX4_greatest 20 = .ok (.invokevirtual 115, 3) := by decide +kernel
theorem dX4_greatest_23 : decode cX4_greatest 23 = .ok (.invokestatic 144, 3) := by decide +kernel
theorem dX4_greatest_26 : decode cX4_greatest 26 = .ok (.aload_n 0, 1) := by decide +kernel
theorem dX4_greatest_27 : decode cX4_greatest 27 = .ok (.iload_n 1, 1) := by decide +kernel
theorem dX4_greatest_28 : decode cX4_greatest 28 = .ok (.invokevirtual 115, 3) := by decide +kernel
theorem dX4_greatest_31 : decode cX4_greatest 31 = .ok (.invokestatic 144, 3) := by decide +kernel
theorem dX4_greatest_34 : decode cX4_greatest 34 = .ok (.if_icmp .le 7, 3) := by decide +kernel
theorem dX4_greatest_37 : decode cX4_greatest 37 = .ok (.iload_n 2, 1) := by decide +kernel
theorem dX4_greatest_38 : decode cX4_greatest 38 = .ok (.goto 4, 3) := by decide +kernel
theorem dX4_greatest_41 : decode cX4_greatest 41 = .ok (.iload_n 1, 1) := by decide +kernel
theorem dX4_greatest_42 : decode cX4_greatest 42 = .ok (.istore_n 1, 1) := by decide +kernel
theorem dX4_greatest_43 : decode cX4_greatest 43 = .ok (.iinc 2 1, 3) := by decide +kernel
theorem dX4_greatest_46 : decode cX4_greatest 46 = .ok (.goto (-42), 3) := by decide +kernel
theorem dX4_greatest_49 : decode cX4_greatest 49 = .ok (.iload_n 1, 1) := by decide +kernel
theorem dX4_greatest_50 : decode cX4_greatest 50 = .ok (.ireturn, 1) := by decide +kernel
theorem dX4_allSteps_0 : decode cX4_allSteps 0 = .ok (.iconst 0, 1) := by decide +kernel
theorem dX4_allSteps_1 : decode cX4_allSteps 1 = .ok (.istore_n 1, 1) := by decide +kernel
theorem dX4_allSteps_2 : decode cX4_allSteps 2 = .ok (.iconst 0, 1) := by decide +kernel
theorem dX4_allSteps_3 : decode cX4_allSteps 3 = .ok (.istore_n 2, 1) := by decide +kernel
theorem dX4_allSteps_4 : decode cX4_allSteps 4 = .ok (.iload_n 2, 1) := by decide +kernel
theorem dX4_allSteps_5 : decode cX4_allSteps 5 = .ok (.aload_n 0, 1) := by decide +kernel
theorem dX4_allSteps_6 : decode cX4_allSteps 6 = .ok (.getfield 9, 3) := by decide +kernel
theorem dX4_allSteps_9 : decode cX4_allSteps 9 = .ok (.iconst 2, 1) := by decide +kernel
theorem dX4_allSteps_10 : decode cX4_allSteps 10 = .ok (.iaload, 1) := by decide +kernel
theorem dX4_allSteps_11 : decode cX4_allSteps 11 = .ok (.if_icmp .ge 18, 3) := by decide +kernel
theorem dX4_allSteps_14 : decode cX4_allSteps 14 = .ok (.iload_n 1, 1) := by decide +kernel
theorem dX4_allSteps_15 : decode cX4_allSteps 15 = .ok (.aload_n 0, 1) := by decide +kernel
theorem dX4_allSteps_16 : decode cX4_allSteps 16 = .ok (.iload_n 2, 1) := by decide +kernel
theorem dX4_allSteps_17 : decode cX4_allSteps 17 = .ok (.iconst 5, 1) := by decide +kernel
theorem dX4_allSteps_18 : decode cX4_allSteps 18 = .ok (.invokevirtual 54, 3) := by decide +kernel
theorem dX4_allSteps_21 : decode cX4_allSteps 21 = .ok (.iadd, 1) := by decide +kernel
theorem dX4_allSteps_22 : decode cX4_allSteps 22 = .ok (.istore_n 1, 1) := by decide +kernel
theorem dX4_allSteps_23 : decode cX4_allSteps 23 = .ok (.iinc 2 1, 3) := by decide +kernel
theorem dX4_allSteps_26 : decode cX4_allSteps 26 = .ok (.goto (-22), 3) := by decide +kernel
theorem dX4_allSteps_29 : decode cX4_allSteps 29 = .ok (.iload_n 1, 1) := by decide +kernel
theorem dX4_allSteps_30 : decode cX4_allSteps 30 = .ok (.ireturn, 1) := by decide +kernel
theorem dX4_now_0 : decode cX4_now 0 = .ok (.iload_n 1, 1) := by decide +kernel
theorem dX4_now_1 : decode cX4_now 1 = .ok (.tableswitch 85 0 6 #[43, 50, 58, 65, 70, 75, 80], 43) := by decide +kernel
theorem dX4_now_44 : decode cX4_now 44 = .ok (.aload_n 0, 1) := by decide +kernel
theorem dX4_now_45 : decode cX4_now 45 = .ok (.getfield 9, 3) := by decide +kernel
theorem dX4_now_48 : decode cX4_now 48 = .ok (.iconst 0, 1) := by decide +kernel
theorem dX4_now_49 : decode cX4_now 49 = .ok (.iaload, 1) := by decide +kernel
theorem dX4_now_50 : decode cX4_now 50 = .ok (.ireturn, 1) := by decide +kernel
theorem dX4_now_51 : decode cX4_now 51 = .ok (.aload_n 0, 1) := by decide +kernel
theorem dX4_now_52 : decode cX4_now 52 = .ok (.invokevirtual 141, 3) := by decide +kernel
theorem dX4_now_55 : decode cX4_now 55 = .ok (.invokestatic 144, 3) := by decide +kernel
theorem dX4_now_58 : decode cX4_now 58 = .ok (.ireturn, 1) := by decide +kernel
theorem dX4_now_59 : decode cX4_now 59 = .ok (.aload_n 0, 1) := by decide +kernel
theorem dX4_now_60 : decode cX4_now 60 = .ok (.getfield 9, 3) := by decide +kernel
theorem dX4_now_63 : decode cX4_now 63 = .ok (.iconst 4, 1) := by decide +kernel
theorem dX4_now_64 : decode cX4_now 64 = .ok (.iaload, 1) := by decide +kernel
theorem dX4_now_65 : decode cX4_now 65 = .ok (.ireturn, 1) := by decide +kernel
theorem dX4_now_66 : decode cX4_now 66 = .ok (.aload_n 0, 1) := by decide +kernel
theorem dX4_now_67 : decode cX4_now 67 = .ok (.invokevirtual 141, 3) := by decide +kernel
theorem dX4_now_70 : decode cX4_now 70 = .ok (.ireturn, 1) := by decide +kernel
theorem dX4_now_71 : decode cX4_now 71 = .ok (.aload_n 0, 1) := by decide +kernel
theorem dX4_now_72 : decode cX4_now 72 = .ok (.invokevirtual 147, 3) := by decide +kernel
theorem dX4_now_75 : decode cX4_now 75 = .ok (.ireturn, 1) := by decide +kernel
theorem dX4_now_76 : decode cX4_now 76 = .ok (.aload_n 0, 1) := by decide +kernel
theorem dX4_now_77 : decode cX4_now 77 = .ok (.invokevirtual 150, 3) := by decide +kernel
theorem dX4_now_80 : decode cX4_now 80 = .ok (.ireturn, 1) := by decide +kernel
theorem dX4_now_81 : decode cX4_now 81 = .ok (.aload_n 0, 1) := by decide +kernel
theorem dX4_now_82 : decode cX4_now 82 = .ok (.invokevirtual 153, 3) := by decide +kernel
theorem dX4_now_85 : decode cX4_now 85 = .ok (.ireturn, 1) := by decide +kernel
theorem dX4_now_86 : decode cX4_now 86 = .ok (.aload_n 0, 1) := by decide +kernel
theorem dX4_now_87 : decode cX4_now 87 = .ok (.iconst 0, 1) := by decide +kernel
theorem dX4_now_88 : decode cX4_now 88 = .ok (.invokevirtual 76, 3) := by decide +kernel
theorem dX4_now_91 : decode cX4_now 91 = .ok (.ireturn, 1) := by decide +kernel
theorem dX4_line_0 : decode cX4_line 0 = .ok (.aload_n 0, 1) := by decide +kernel
theorem dX4_line_1 : decode cX4_line 1 = .ok (.iload_n 1, 1) := by decide +kernel
theorem dX4_line_2 : decode cX4_line 2 = .ok (.invokevirtual 82, 3) := by decide +kernel
theorem dX4_line_5 : decode cX4_line 5 = .ok (.ifCond .ne 9, 3) := by decide +kernel
theorem dX4_line_8 : decode cX4_line 8 = .ok (.aload_n 0, 1) := by decide +kernel
theorem dX4_line_9 : decode cX4_line 9 = .ok (.iconst 0, 1) := by decide +kernel
theorem dX4_line_10 : decode cX4_line 10 = .ok (.invokevirtual 76, 3) := by decide +kernel
theorem dX4_line_13 : decode cX4_line 13 = .ok (.ireturn, 1) := by decide +kernel
theorem dX4_line_14 : decode cX4_line 14 = .ok (.iconst 0, 1) := by decide +kernel
theorem dX4_line_15 : decode cX4_line 15 = .ok (.istore_n 2, 1) := by decide +kernel
theorem dX4_line_16 : decode cX4_line 16 = .ok (.iconst 0, 1) := by decide +kernel
theorem dX4_line_17 : decode cX4_line 17 = .ok (.istore_n 3, 1) := by decide +kernel
theorem dX4_line_18 : decode cX4_line 18 = .ok (.iconst 0, 1) := by decide +kernel
theorem dX4_line_19 : decode cX4_line 19 = .ok (.istore 4, 2) := by decide +kernel
theorem dX4_line_21 : decode cX4_line 21 = .ok (.iload 4, 2) := by decide +kernel
theorem dX4_line_23 : decode cX4_line 23 = .ok (.bipush 24, 2) := by decide +kernel
theorem dX4_line_25 : decode cX4_line 25 = .ok (.if_icmp .ge 36, 3) := by decide +kernel
theorem dX4_line_28 : decode cX4_line 28 = .ok (.aload_n 0, 1) := by decide +kernel
theorem dX4_line_29 : decode cX4_line 29 = .ok (.getfield 9, 3) := by decide +kernel
theorem dX4_line_32 : decode cX4_line 32 = .ok (.iconst 5, 1) := by decide +kernel
theorem dX4_line_33 : decode cX4_line 33 = .ok (.iload 4, 2) := by decide +kernel
theorem dX4_line_35 : decode cX4_line 35 = .ok (.iadd, 1) := by decide +kernel
theorem dX4_line_36 : decode cX4_line 36 = .ok (.iaload, 1) := by decide +kernel
theorem dX4_line_37 : decode cX4_line 37 = .ok (.iload_n 1, 1) := by decide +kernel
theorem dX4_line_38 : decode cX4_line 38 = .ok (.if_icmp .ne 9, 3) := by decide +kernel
theorem dX4_line_41 : decode cX4_line 41 = .ok (.iload_n 3, 1) := by decide +kernel
theorem dX4_line_42 : decode cX4_line 42 = .ok (.iconst 1, 1) := by decide +kernel
theorem dX4_line_43 : decode cX4_line 43 = .ok (.iadd, 1) := by decide +kernel
theorem dX4_line_44 : decode cX4_line 44 = .ok (.goto 4, 3) := by decide +kernel
theorem dX4_line_47 : decode cX4_line 47 = .ok (.iconst 0, 1) := by decide +kernel
theorem dX4_line_48 : decode cX4_line 48 = .ok (.istore_n 3, 1) := by decide +kernel
theorem dX4_line_49 : decode cX4_line 49 = .ok (.iload_n 2, 1) := by decide +kernel
theorem dX4_line_50 : decode cX4_line 50 = .ok (.iload_n 3, 1) := by decide +kernel
theorem dX4_line_51 : decode cX4_line 51 = .ok (.invokestatic 58, 3) := by decide +kernel
theorem dX4_line_54 : decode cX4_line 54 = .ok (.istore_n 2, 1) := by decide +kernel
theorem dX4_line_55 : decode cX4_line 55 = .ok (.iinc 4 1, 3) := by decide +kernel
theorem dX4_line_58 : decode cX4_line 58 = .ok (.goto (-37), 3) := by decide +kernel
theorem dX4_line_61 : decode cX4_line 61 = .ok (.iload_n 2, 1) := by decide +kernel
theorem dX4_line_62 : decode cX4_line 62 = .ok (.ireturn, 1) := by decide +kernel
theorem dX4_isAhead_0 : decode cX4_isAhead 0 = .ok (.iload_n 0, 1) := by decide +kernel
theorem dX4_isAhead_1 : decode cX4_isAhead 1 = .ok (.i2l, 1) := by decide +kernel
theorem dX4_isAhead_2 : decode cX4_isAhead 2 = .ok (.lconst 0, 1) := by decide +kernel
theorem dX4_isAhead_3 : decode cX4_isAhead 3 = .ok (.ldc2_w 156, 3) := by decide +kernel
theorem dX4_isAhead_6 : decode cX4_isAhead 6 = .ok (.invokestatic 42, 3) := by decide +kernel
theorem dX4_isAhead_9 : decode cX4_isAhead 9 = .ok (.ireturn, 1) := by decide +kernel
theorem dX4_isSoon_0 : decode cX4_isSoon 0 = .ok (.iload_n 0, 1) := by decide +kernel
theorem dX4_isSoon_1 : decode cX4_isSoon 1 = .ok (.i2l, 1) := by decide +kernel
theorem dX4_isSoon_2 : decode cX4_isSoon 2 = .ok (.lconst 0, 1) := by decide +kernel
theorem dX4_isSoon_3 : decode cX4_isSoon 3 = .ok (.ldc2_w 158, 3) := by decide +kernel
theorem dX4_isSoon_6 : decode cX4_isSoon 6 = .ok (.invokestatic 42, 3) := by decide +kernel
theorem dX4_isSoon_9 : decode cX4_isSoon 9 = .ok (.ireturn, 1) := by decide +kernel
theorem dX4_orNone_0 : decode cX4_orNone 0 = .ok (.aload_n 0, 1) := by decide +kernel
theorem dX4_orNone_1 : decode cX4_orNone 1 = .ok (.invokevirtual 160, 3) := by decide +kernel
theorem dX4_orNone_4 : decode cX4_orNone 4 = .ok (.iload_n 1, 1) := by decide +kernel
theorem dX4_orNone_5 : decode cX4_orNone 5 = .ok (.iload_n 2, 1) := by decide +kernel
theorem dX4_orNone_6 : decode cX4_orNone 6 = .ok (.if_icmp .gt 7, 3) := by decide +kernel
theorem dX4_orNone_9 : decode cX4_orNone 9 = .ok (.iload_n 1, 1) := by decide +kernel
theorem dX4_orNone_10 : decode cX4_orNone 10 = .ok (.goto 8, 3) := by decide +kernel
theorem dX4_orNone_13 : decode cX4_orNone 13 = .ok (.aload_n 0, 1) := by decide +kernel
theorem dX4_orNone_14 : decode cX4_orNone 14 = .ok (.iconst 3, 1) := by decide +kernel
theorem dX4_orNone_15 : decode cX4_orNone 15 = .ok (.invokevirtual 76, 3) := by decide +kernel
theorem dX4_orNone_18 : decode cX4_orNone 18 = .ok (.ireturn, 1) := by decide +kernel
theorem dX4_ahead_0 : decode cX4_ahead 0 = .ok (.iload_n 1, 1) := by decide +kernel
theorem dX4_ahead_1 : decode cX4_ahead 1 = .ok (.invokestatic 70, 3) := by decide +kernel
theorem dX4_ahead_4 : decode cX4_ahead 4 = .ok (.ifCond .eq 22, 3) := by decide +kernel
theorem dX4_ahead_7 : decode cX4_ahead 7 = .ok (.iload_n 2, 1) := by decide +kernel
theorem dX4_ahead_8 : decode cX4_ahead 8 = .ok (.i2l, 1) := by decide +kernel
theorem dX4_ahead_9 : decode cX4_ahead 9 = .ok (.lconst 0, 1) := by decide +kernel
theorem dX4_ahead_10 : decode cX4_ahead 10 = .ok (.ldc2_w 163, 3) := by decide +kernel
theorem dX4_ahead_13 : decode cX4_ahead 13 = .ok (.invokestatic 42, 3) := by decide +kernel
theorem dX4_ahead_16 : decode cX4_ahead 16 = .ok (.ifCond .eq 10, 3) := by decide +kernel
theorem dX4_ahead_19 : decode cX4_ahead 19 = .ok (.iload_n 3, 1) := by decide +kernel
theorem dX4_ahead_20 : decode cX4_ahead 20 = .ok (.invokestatic 165, 3) := by decide +kernel
theorem dX4_ahead_23 : decode cX4_ahead 23 = .ok (.ifCond .ne 9, 3) := by decide +kernel
theorem dX4_ahead_26 : decode cX4_ahead 26 = .ok (.aload_n 0, 1) := by decide +kernel
theorem dX4_ahead_27 : decode cX4_ahead 27 = .ok (.iconst 0, 1) := by decide +kernel
theorem dX4_ahead_28 : decode cX4_ahead 28 = .ok (.invokevirtual 76, 3) := by decide +kernel
theorem dX4_ahead_31 : decode cX4_ahead 31 = .ok (.ireturn, 1) := by decide +kernel
theorem dX4_ahead_32 : decode cX4_ahead 32 = .ok (.aload_n 0, 1) := by decide +kernel
theorem dX4_ahead_33 : decode cX4_ahead 33 = .ok (.invokevirtual 168, 3) := by decide +kernel
theorem dX4_ahead_36 : decode cX4_ahead 36 = .ok (.aload_n 0, 1) := by decide +kernel
theorem dX4_ahead_37 : decode cX4_ahead 37 = .ok (.iload_n 3, 1) := by decide +kernel
theorem dX4_ahead_38 : decode cX4_ahead 38 = .ok (.invokevirtual 138, 3) := by decide +kernel
theorem dX4_ahead_41 : decode cX4_ahead 41 = .ok (.aload_n 0, 1) := by decide +kernel
theorem dX4_ahead_42 : decode cX4_ahead 42 = .ok (.getfield 9, 3) := by decide +kernel
theorem dX4_ahead_45 : decode cX4_ahead 45 = .ok (.iconst 5, 1) := by decide +kernel
theorem dX4_ahead_46 : decode cX4_ahead 46 = .ok (.bipush 24, 2) := by decide +kernel
theorem dX4_ahead_48 : decode cX4_ahead 48 = .ok (.iload_n 2, 1) := by decide +kernel
theorem dX4_ahead_49 : decode cX4_ahead 49 = .ok (.imul, 1) := by decide +kernel
theorem dX4_ahead_50 : decode cX4_ahead 50 = .ok (.iadd, 1) := by decide +kernel
theorem dX4_ahead_51 : decode cX4_ahead 51 = .ok (.iload_n 1, 1) := by decide +kernel
theorem dX4_ahead_52 : decode cX4_ahead 52 = .ok (.iadd, 1) := by decide +kernel
theorem dX4_ahead_53 : decode cX4_ahead 53 = .ok (.iaload, 1) := by decide +kernel
theorem dX4_ahead_54 : decode cX4_ahead 54 = .ok (.istore 4, 2) := by decide +kernel
theorem dX4_ahead_56 : decode cX4_ahead 56 = .ok (.aload_n 0, 1) := by decide +kernel
theorem dX4_ahead_57 : decode cX4_ahead 57 = .ok (.invokevirtual 160, 3) := by decide +kernel
theorem dX4_ahead_60 : decode cX4_ahead 60 = .ok (.iload 4, 2) := by decide +kernel
theorem dX4_ahead_62 : decode cX4_ahead 62 = .ok (.ireturn, 1) := by decide +kernel
theorem dX4_workIn_0 : decode cX4_workIn 0 = .ok (.aload_n 0, 1) := by decide +kernel
theorem dX4_workIn_1 : decode cX4_workIn 1 = .ok (.iload_n 2, 1) := by decide +kernel
theorem dX4_workIn_2 : decode cX4_workIn 2 = .ok (.invokevirtual 138, 3) := by decide +kernel
theorem dX4_workIn_5 : decode cX4_workIn 5 = .ok (.aload_n 0, 1) := by decide +kernel
theorem dX4_workIn_6 : decode cX4_workIn 6 = .ok (.iload_n 1, 1) := by decide +kernel
theorem dX4_workIn_7 : decode cX4_workIn 7 = .ok (.invokevirtual 115, 3) := by decide +kernel
theorem dX4_workIn_10 : decode cX4_workIn 10 = .ok (.invokestatic 144, 3) := by decide +kernel
theorem dX4_workIn_13 : decode cX4_workIn 13 = .ok (.istore_n 3, 1) := by decide +kernel
theorem dX4_workIn_14 : decode cX4_workIn 14 = .ok (.aload_n 0, 1) := by decide +kernel
theorem dX4_workIn_15 : decode cX4_workIn 15 = .ok (.invokevirtual 160, 3) := by decide +kernel
theorem dX4_workIn_18 : decode cX4_workIn 18 = .ok (.iload_n 3, 1) := by decide +kernel
theorem dX4_workIn_19 : decode cX4_workIn 19 = .ok (.ireturn, 1) := by decide +kernel
theorem dX4_work_0 : decode cX4_work 0 = .ok (.aload_n 0, 1) := by decide +kernel
theorem dX4_work_1 : decode cX4_work 1 = .ok (.iload_n 1, 1) := by decide +kernel
theorem dX4_work_2 : decode cX4_work 2 = .ok (.invokevirtual 82, 3) := by decide +kernel
theorem dX4_work_5 : decode cX4_work 5 = .ok (.ifCond .eq 10, 3) := by decide +kernel
theorem dX4_work_8 : decode cX4_work 8 = .ok (.iload_n 2, 1) := by decide +kernel
theorem dX4_work_9 : decode cX4_work 9 = .ok (.invokestatic 165, 3) := by decide +kernel
theorem dX4_work_12 : decode cX4_work 12 = .ok (.ifCond .ne 9, 3) := by decide +kernel
theorem dX4_work_15 : decode cX4_work 15 = .ok (.aload_n 0, 1) := by decide +kernel
theorem dX4_work_16 : decode cX4_work 16 = .ok (.iconst 0, 1) := by decide +kernel
theorem dX4_work_17 : decode cX4_work 17 = .ok (.invokevirtual 76, 3) := by decide +kernel
theorem dX4_work_20 : decode cX4_work 20 = .ok (.ireturn, 1) := by decide +kernel
theorem dX4_work_21 : decode cX4_work 21 = .ok (.aload_n 0, 1) := by decide +kernel
theorem dX4_work_22 : decode cX4_work 22 = .ok (.invokevirtual 168, 3) := by decide +kernel
theorem dX4_work_25 : decode cX4_work 25 = .ok (.aload_n 0, 1) := by decide +kernel
theorem dX4_work_26 : decode cX4_work 26 = .ok (.iload_n 1, 1) := by decide +kernel
theorem dX4_work_27 : decode cX4_work 27 = .ok (.iload_n 2, 1) := by decide +kernel
theorem dX4_work_28 : decode cX4_work 28 = .ok (.invokevirtual 171, 3) := by decide +kernel
theorem dX4_work_31 : decode cX4_work 31 = .ok (.ireturn, 1) := by decide +kernel
theorem dX4_when_0 : decode cX4_when 0 = .ok (.aload_n 0, 1) := by decide +kernel
theorem dX4_when_1 : decode cX4_when 1 = .ok (.iload_n 1, 1) := by decide +kernel
theorem dX4_when_2 : decode cX4_when 2 = .ok (.invokevirtual 82, 3) := by decide +kernel
theorem dX4_when_5 : decode cX4_when 5 = .ok (.ifCond .eq 10, 3) := by decide +kernel
theorem dX4_when_8 : decode cX4_when 8 = .ok (.iload_n 2, 1) := by decide +kernel
theorem dX4_when_9 : decode cX4_when 9 = .ok (.invokestatic 70, 3) := by decide +kernel
theorem dX4_when_12 : decode cX4_when 12 = .ok (.ifCond .ne 9, 3) := by decide +kernel
theorem dX4_when_15 : decode cX4_when 15 = .ok (.aload_n 0, 1) := by decide +kernel
theorem dX4_when_16 : decode cX4_when 16 = .ok (.iconst 0, 1) := by decide +kernel
theorem dX4_when_17 : decode cX4_when 17 = .ok (.invokevirtual 76, 3) := by decide +kernel
theorem dX4_when_20 : decode cX4_when 20 = .ok (.ireturn, 1) := by decide +kernel
theorem dX4_when_21 : decode cX4_when 21 = .ok (.aload_n 0, 1) := by decide +kernel
theorem dX4_when_22 : decode cX4_when 22 = .ok (.invokevirtual 168, 3) := by decide +kernel
theorem dX4_when_25 : decode cX4_when 25 = .ok (.iconst 0, 1) := by decide +kernel
theorem dX4_when_26 : decode cX4_when 26 = .ok (.istore_n 3, 1) := by decide +kernel
theorem dX4_when_27 : decode cX4_when 27 = .ok (.iload_n 3, 1) := by decide +kernel
theorem dX4_when_28 : decode cX4_when 28 = .ok (.sipush 200, 3) := by decide +kernel
theorem dX4_when_31 : decode cX4_when 31 = .ok (.if_icmp .gt 25, 3) := by decide +kernel
theorem dX4_when_34 : decode cX4_when 34 = .ok (.aload_n 0, 1) := by decide +kernel
theorem dX4_when_35 : decode cX4_when 35 = .ok (.getfield 9, 3) := by decide +kernel
theorem dX4_when_38 : decode cX4_when 38 = .ok (.iconst 5, 1) := by decide +kernel
theorem dX4_when_39 : decode cX4_when 39 = .ok (.iload_n 2, 1) := by decide +kernel
theorem dX4_when_40 : decode cX4_when 40 = .ok (.iadd, 1) := by decide +kernel
theorem dX4_when_41 : decode cX4_when 41 = .ok (.iaload, 1) := by decide +kernel
theorem dX4_when_42 : decode cX4_when 42 = .ok (.iload_n 1, 1) := by decide +kernel
theorem dX4_when_43 : decode cX4_when 43 = .ok (.if_icmp .eq 13, 3) := by decide +kernel
theorem dX4_when_46 : decode cX4_when 46 = .ok (.aload_n 0, 1) := by decide +kernel
theorem dX4_when_47 : decode cX4_when 47 = .ok (.invokevirtual 133, 3) := by decide +kernel
theorem dX4_when_50 : decode cX4_when 50 = .ok (.iinc 3 1, 3) := by decide +kernel
theorem dX4_when_53 : decode cX4_when 53 = .ok (.goto (-26), 3) := by decide +kernel
theorem dX4_when_56 : decode cX4_when 56 = .ok (.aload_n 0, 1) := by decide +kernel
theorem dX4_when_57 : decode cX4_when 57 = .ok (.iload_n 3, 1) := by decide +kernel
theorem dX4_when_58 : decode cX4_when 58 = .ok (.sipush 200, 3) := by decide +kernel
theorem dX4_when_61 : decode cX4_when 61 = .ok (.invokevirtual 174, 3) := by decide +kernel
theorem dX4_when_64 : decode cX4_when 64 = .ok (.ireturn, 1) := by decide +kernel
theorem dX4_gone_0 : decode cX4_gone 0 = .ok (.iload_n 1, 1) := by decide +kernel
theorem dX4_gone_1 : decode cX4_gone 1 = .ok (.invokestatic 70, 3) := by decide +kernel
theorem dX4_gone_4 : decode cX4_gone 4 = .ok (.ifCond .ne 9, 3) := by decide +kernel
theorem dX4_gone_7 : decode cX4_gone 7 = .ok (.aload_n 0, 1) := by decide +kernel
theorem dX4_gone_8 : decode cX4_gone 8 = .ok (.iconst 0, 1) := by decide +kernel
theorem dX4_gone_9 : decode cX4_gone 9 = .ok (.invokevirtual 76, 3) := by decide +kernel
theorem dX4_gone_12 : decode cX4_gone 12 = .ok (.ireturn, 1) := by decide +kernel
theorem dX4_gone_13 : decode cX4_gone 13 = .ok (.aload_n 0, 1) := by decide +kernel
theorem dX4_gone_14 : decode cX4_gone 14 = .ok (.invokevirtual 168, 3) := by decide +kernel
theorem dX4_gone_17 : decode cX4_gone 17 = .ok (.iconst 0, 1) := by decide +kernel
theorem dX4_gone_18 : decode cX4_gone 18 = .ok (.istore_n 2, 1) := by decide +kernel
theorem dX4_gone_19 : decode cX4_gone 19 = .ok (.iload_n 2, 1) := by decide +kernel
theorem dX4_gone_20 : decode cX4_gone 20 = .ok (.sipush 200, 3) := by decide +kernel
theorem dX4_gone_23 : decode cX4_gone 23 = .ok (.if_icmp .gt 24, 3) := by decide +kernel
theorem dX4_gone_26 : decode cX4_gone 26 = .ok (.aload_n 0, 1) := by decide +kernel
theorem dX4_gone_27 : decode cX4_gone 27 = .ok (.getfield 9, 3) := by decide +kernel
theorem dX4_gone_30 : decode cX4_gone 30 = .ok (.iconst 5, 1) := by decide +kernel
theorem dX4_gone_31 : decode cX4_gone 31 = .ok (.iload_n 1, 1) := by decide +kernel
theorem dX4_gone_32 : decode cX4_gone 32 = .ok (.iadd, 1) := by decide +kernel
theorem dX4_gone_33 : decode cX4_gone 33 = .ok (.iaload, 1) := by decide +kernel
theorem dX4_gone_34 : decode cX4_gone 34 = .ok (.ifCond .lt 13, 3) := by decide +kernel
theorem dX4_gone_37 : decode cX4_gone 37 = .ok (.aload_n 0, 1) := by decide +kernel
theorem dX4_gone_38 : decode cX4_gone 38 = .ok (.invokevirtual 133, 3) := by decide +kernel
theorem dX4_gone_41 : decode cX4_gone 41 = .ok (.iinc 2 1, 3) := by decide +kernel
theorem dX4_gone_44 : decode cX4_gone 44 = .ok (.goto (-25), 3) := by decide +kernel
theorem dX4_gone_47 : decode cX4_gone 47 = .ok (.aload_n 0, 1) := by decide +kernel
theorem dX4_gone_48 : decode cX4_gone 48 = .ok (.iload_n 2, 1) := by decide +kernel
theorem dX4_gone_49 : decode cX4_gone 49 = .ok (.sipush 200, 3) := by decide +kernel
theorem dX4_gone_52 : decode cX4_gone 52 = .ok (.invokevirtual 174, 3) := by decide +kernel
theorem dX4_gone_55 : decode cX4_gone 55 = .ok (.ireturn, 1) := by decide +kernel
theorem dX4_meet_0 : decode cX4_meet 0 = .ok (.aload_n 0, 1) := by decide +kernel
theorem dX4_meet_1 : decode cX4_meet 1 = .ok (.iload_n 1, 1) := by decide +kernel
theorem dX4_meet_2 : decode cX4_meet 2 = .ok (.invokevirtual 82, 3) := by decide +kernel
theorem dX4_meet_5 : decode cX4_meet 5 = .ok (.ifCond .eq 16, 3) := by decide +kernel
theorem dX4_meet_8 : decode cX4_meet 8 = .ok (.aload_n 0, 1) := by decide +kernel
theorem dX4_meet_9 : decode cX4_meet 9 = .ok (.iload_n 2, 1) := by decide +kernel
theorem dX4_meet_10 : decode cX4_meet 10 = .ok (.invokevirtual 82, 3) := by decide +kernel
theorem dX4_meet_13 : decode cX4_meet 13 = .ok (.ifCond .eq 8, 3) := by decide +kernel
theorem dX4_meet_16 : decode cX4_meet 16 = .ok (.iload_n 1, 1) := by decide +kernel
theorem dX4_meet_17 : decode cX4_meet 17 = .ok (.iload_n 2, 1) := by decide +kernel
theorem dX4_meet_18 : decode cX4_meet 18 = .ok (.if_icmp .ne 9, 3) := by decide +kernel
theorem dX4_meet_21 : decode cX4_meet 21 = .ok (.aload_n 0, 1) := by decide +kernel
theorem dX4_meet_22 : decode cX4_meet 22 = .ok (.iconst 0, 1) := by decide +kernel
theorem dX4_meet_23 : decode cX4_meet 23 = .ok (.invokevirtual 76, 3) := by decide +kernel
theorem dX4_meet_26 : decode cX4_meet 26 = .ok (.ireturn, 1) := by decide +kernel
theorem dX4_meet_27 : decode cX4_meet 27 = .ok (.aload_n 0, 1) := by decide +kernel
theorem dX4_meet_28 : decode cX4_meet 28 = .ok (.invokevirtual 168, 3) := by decide +kernel
theorem dX4_meet_31 : decode cX4_meet 31 = .ok (.iconst 0, 1) := by decide +kernel
theorem dX4_meet_32 : decode cX4_meet 32 = .ok (.istore_n 3, 1) := by decide +kernel
theorem dX4_meet_33 : decode cX4_meet 33 = .ok (.iload_n 3, 1) := by decide +kernel
theorem dX4_meet_34 : decode cX4_meet 34 = .ok (.sipush 200, 3) := by decide +kernel
theorem dX4_meet_37 : decode cX4_meet 37 = .ok (.if_icmp .gt 28, 3) := by decide +kernel
theorem dX4_meet_40 : decode cX4_meet 40 = .ok (.aload_n 0, 1) := by decide +kernel
theorem dX4_meet_41 : decode cX4_meet 41 = .ok (.iload_n 1, 1) := by decide +kernel
theorem dX4_meet_42 : decode cX4_meet 42 = .ok (.iconst 1, 1) := by decide +kernel
theorem dX4_meet_43 : decode cX4_meet 43 = .ok (.invokevirtual 54, 3) := by decide +kernel
theorem dX4_meet_46 : decode cX4_meet 46 = .ok (.aload_n 0, 1) := by decide +kernel
theorem dX4_meet_47 : decode cX4_meet 47 = .ok (.iload_n 2, 1) := by decide +kernel
theorem dX4_meet_48 : decode cX4_meet 48 = .ok (.iconst 1, 1) := by decide +kernel
theorem dX4_meet_49 : decode cX4_meet 49 = .ok (.invokevirtual 54, 3) := by decide +kernel
theorem dX4_meet_52 : decode cX4_meet 52 = .ok (.if_icmp .eq 13, 3) := by decide +kernel
theorem dX4_meet_55 : decode cX4_meet 55 = .ok (.aload_n 0, 1) := by decide +kernel
theorem dX4_meet_56 : decode cX4_meet 56 = .ok (.invokevirtual 133, 3) := by decide +kernel
theorem dX4_meet_59 : decode cX4_meet 59 = .ok (.iinc 3 1, 3) := by decide +kernel
theorem dX4_meet_62 : decode cX4_meet 62 = .ok (.goto (-29), 3) := by decide +kernel
theorem dX4_meet_65 : decode cX4_meet 65 = .ok (.aload_n 0, 1) := by decide +kernel
theorem dX4_meet_66 : decode cX4_meet 66 = .ok (.iload_n 3, 1) := by decide +kernel
theorem dX4_meet_67 : decode cX4_meet 67 = .ok (.sipush 200, 3) := by decide +kernel
theorem dX4_meet_70 : decode cX4_meet 70 = .ok (.invokevirtual 174, 3) := by decide +kernel
theorem dX4_meet_73 : decode cX4_meet 73 = .ok (.ireturn, 1) := by decide +kernel
theorem dX4_bestBy_0 : decode cX4_bestBy 0 = .ok (.iconst (-1), 1) := by decide +kernel
theorem dX4_bestBy_1 : decode cX4_bestBy 1 = .ok (.istore 6, 2) := by decide +kernel
theorem dX4_bestBy_3 : decode cX4_bestBy 3 = .ok (.iconst (-1), 1) := by decide +kernel
theorem dX4_bestBy_4 : decode cX4_bestBy 4 = .ok (.istore 7, 2) := by decide +kernel
theorem dX4_bestBy_6 : decode cX4_bestBy 6 = .ok (.iload_n 3, 1) := by decide +kernel
theorem dX4_bestBy_7 : decode cX4_bestBy 7 = .ok (.istore 8, 2) := by decide +kernel
theorem dX4_bestBy_9 : decode cX4_bestBy 9 = .ok (.iload 8, 2) := by decide +kernel
theorem dX4_bestBy_11 : decode cX4_bestBy 11 = .ok (.iload 4, 2) := by decide +kernel
theorem dX4_bestBy_13 : decode cX4_bestBy 13 = .ok (.if_icmp .gt 55, 3) := by decide +kernel
theorem dX4_bestBy_16 : decode cX4_bestBy 16 = .ok (.aload_n 0, 1) := by decide +kernel
theorem dX4_bestBy_17 : decode cX4_bestBy 17 = .ok (.invokevirtual 168, 3) := by decide +kernel
theorem dX4_bestBy_20 : decode cX4_bestBy 20 = .ok (.aload_n 0, 1) := by decide +kernel
theorem dX4_bestBy_21 : decode cX4_bestBy 21 = .ok (.iload_n 1, 1) := by decide +kernel
theorem dX4_bestBy_22 : decode cX4_bestBy 22 = .ok (.iload_n 2, 1) := by decide +kernel
theorem dX4_bestBy_23 : decode cX4_bestBy 23 = .ok (.iload 8, 2) := by decide +kernel
theorem dX4_bestBy_25 : decode cX4_bestBy 25 = .ok (.invokevirtual 66, 3) := by decide +kernel
theorem dX4_bestBy_28 : decode cX4_bestBy 28 = .ok (.aload_n 0, 1) := by decide +kernel
theorem dX4_bestBy_29 : decode cX4_bestBy 29 = .ok (.iload_n 1, 1) := by decide +kernel
theorem dX4_bestBy_30 : decode cX4_bestBy 30 = .ok (.iload 5, 2) := by decide +kernel
theorem dX4_bestBy_32 : decode cX4_bestBy 32 = .ok (.invokevirtual 171, 3) := by decide +kernel
theorem dX4_bestBy_35 : decode cX4_bestBy 35 = .ok (.istore 9, 2) := by decide +kernel
theorem dX4_bestBy_37 : decode cX4_bestBy 37 = .ok (.iload 9, 2) := by decide +kernel
theorem dX4_bestBy_39 : decode cX4_bestBy 39 = .ok (.iload 7, 2) := by decide +kernel
theorem dX4_bestBy_41 : decode cX4_bestBy 41 = .ok (.if_icmp .le 8, 3) := by decide +kernel
theorem dX4_bestBy_44 : decode cX4_bestBy 44 = .ok (.iload 8, 2) := by decide +kernel
theorem dX4_bestBy_46 : decode cX4_bestBy 46 = .ok (.goto 5, 3) := by decide +kernel
theorem dX4_bestBy_49 : decode cX4_bestBy 49 = .ok (.iload 6, 2) := by decide +kernel
theorem dX4_bestBy_51 : decode cX4_bestBy 51 = .ok (.istore 6, 2) := by decide +kernel
theorem dX4_bestBy_53 : decode cX4_bestBy 53 = .ok (.iload 7, 2) := by decide +kernel
theorem dX4_bestBy_55 : decode cX4_bestBy 55 = .ok (.iload 9, 2) := by decide +kernel
theorem dX4_bestBy_57 : decode cX4_bestBy 57 = .ok (.invokestatic 58, 3) := by decide +kernel
theorem dX4_bestBy_60 : decode cX4_bestBy 60 = .ok (.istore 7, 2) := by decide +kernel
theorem dX4_bestBy_62 : decode cX4_bestBy 62 = .ok (.iinc 8 1, 3) := by decide +kernel
theorem dX4_bestBy_65 : decode cX4_bestBy 65 = .ok (.goto (-56), 3) := by decide +kernel
theorem dX4_bestBy_68 : decode cX4_bestBy 68 = .ok (.iload 6, 2) := by decide +kernel
theorem dX4_bestBy_70 : decode cX4_bestBy 70 = .ok (.ireturn, 1) := by decide +kernel
theorem dX4_isAsked_0 : decode cX4_isAsked 0 = .ok (.aload_n 0, 1) := by decide +kernel
theorem dX4_isAsked_1 : decode cX4_isAsked 1 = .ok (.iload_n 1, 1) := by decide +kernel
theorem dX4_isAsked_2 : decode cX4_isAsked 2 = .ok (.invokevirtual 82, 3) := by decide +kernel
theorem dX4_isAsked_5 : decode cX4_isAsked 5 = .ok (.ifCond .eq 14, 3) := by decide +kernel
theorem dX4_isAsked_8 : decode cX4_isAsked 8 = .ok (.iload_n 2, 1) := by decide +kernel
theorem dX4_isAsked_9 : decode cX4_isAsked 9 = .ok (.invokestatic 177, 3) := by decide +kernel
theorem dX4_isAsked_12 : decode cX4_isAsked 12 = .ok (.ifCond .eq 7, 3) := by decide +kernel
theorem dX4_isAsked_15 : decode cX4_isAsked 15 = .ok (.iconst 1, 1) := by decide +kernel
theorem dX4_isAsked_16 : decode cX4_isAsked 16 = .ok (.goto 4, 3) := by decide +kernel
theorem dX4_isAsked_19 : decode cX4_isAsked 19 = .ok (.iconst 0, 1) := by decide +kernel
theorem dX4_isAsked_20 : decode cX4_isAsked 20 = .ok (.ireturn, 1) := by decide +kernel
theorem dX4_strideFor_0 : decode cX4_strideFor 0 = .ok (.aload_n 0, 1) := by decide +kernel
theorem dX4_strideFor_1 : decode cX4_strideFor 1 = .ok (.iload_n 1, 1) := by decide +kernel
theorem dX4_strideFor_2 : decode cX4_strideFor 2 = .ok (.iload_n 2, 1) := by decide +kernel
theorem dX4_strideFor_3 : decode cX4_strideFor 3 = .ok (.invokevirtual 180, 3) := by decide +kernel
theorem dX4_strideFor_6 : decode cX4_strideFor 6 = .ok (.ifCond .eq 16, 3) := by decide +kernel
theorem dX4_strideFor_9 : decode cX4_strideFor 9 = .ok (.aload_n 0, 1) := by decide +kernel
theorem dX4_strideFor_10 : decode cX4_strideFor 10 = .ok (.iload_n 1, 1) := by decide +kernel
theorem dX4_strideFor_11 : decode cX4_strideFor 11 = .ok (.iconst 3, 1) := by decide +kernel
theorem dX4_strideFor_12 : decode cX4_strideFor 12 = .ok (.iconst 1, 1) := by decide +kernel
theorem dX4_strideFor_13 : decode cX4_strideFor 13 = .ok (.bipush 6, 2) := by decide +kernel
theorem dX4_strideFor_15 : decode cX4_strideFor 15 = .ok (.iload_n 2, 1) := by decide +kernel
theorem dX4_strideFor_16 : decode cX4_strideFor 16 = .ok (.invokevirtual 183, 3) := by decide +kernel
theorem dX4_strideFor_19 : decode cX4_strideFor 19 = .ok (.goto 8, 3) := by decide +kernel
theorem dX4_strideFor_22 : decode cX4_strideFor 22 = .ok (.aload_n 0, 1) := by decide +kernel
theorem dX4_strideFor_23 : decode cX4_strideFor 23 = .ok (.iconst 0, 1) := by decide +kernel
theorem dX4_strideFor_24 : decode cX4_strideFor 24 = .ok (.invokevirtual 76, 3) := by decide +kernel
theorem dX4_strideFor_27 : decode cX4_strideFor 27 = .ok (.ireturn, 1) := by decide +kernel
theorem dX4_start_0 : decode cX4_start 0 = .ok (.aload_n 0, 1) := by decide +kernel
theorem dX4_start_1 : decode cX4_start 1 = .ok (.iload_n 1, 1) := by decide +kernel
theorem dX4_start_2 : decode cX4_start 2 = .ok (.iload_n 2, 1) := by decide +kernel
theorem dX4_start_3 : decode cX4_start 3 = .ok (.invokevirtual 180, 3) := by decide +kernel
theorem dX4_start_6 : decode cX4_start 6 = .ok (.ifCond .eq 16, 3) := by decide +kernel
theorem dX4_start_9 : decode cX4_start 9 = .ok (.aload_n 0, 1) := by decide +kernel
theorem dX4_start_10 : decode cX4_start 10 = .ok (.iload_n 1, 1) := by decide +kernel
theorem dX4_start_11 : decode cX4_start 11 = .ok (.iconst 1, 1) := by decide +kernel
theorem dX4_start_12 : decode cX4_start 12 = .ok (.iconst 0, 1) := by decide +kernel
theorem dX4_start_13 : decode cX4_start 13 = .ok (.bipush 23, 2) := by decide +kernel
theorem dX4_start_15 : decode cX4_start 15 = .ok (.iload_n 2, 1) := by decide +kernel
theorem dX4_start_16 : decode cX4_start 16 = .ok (.invokevirtual 183, 3) := by decide +kernel
theorem dX4_start_19 : decode cX4_start 19 = .ok (.goto 8, 3) := by decide +kernel
theorem dX4_start_22 : decode cX4_start 22 = .ok (.aload_n 0, 1) := by decide +kernel
theorem dX4_start_23 : decode cX4_start 23 = .ok (.iconst 0, 1) := by decide +kernel
theorem dX4_start_24 : decode cX4_start 24 = .ok (.invokevirtual 76, 3) := by decide +kernel
theorem dX4_start_27 : decode cX4_start 27 = .ok (.ireturn, 1) := by decide +kernel
theorem dX4_kindFor_0 : decode cX4_kindFor 0 = .ok (.aload_n 0, 1) := by decide +kernel
theorem dX4_kindFor_1 : decode cX4_kindFor 1 = .ok (.iload_n 1, 1) := by decide +kernel
theorem dX4_kindFor_2 : decode cX4_kindFor 2 = .ok (.iload_n 2, 1) := by decide +kernel
theorem dX4_kindFor_3 : decode cX4_kindFor 3 = .ok (.invokevirtual 180, 3) := by decide +kernel
theorem dX4_kindFor_6 : decode cX4_kindFor 6 = .ok (.ifCond .eq 16, 3) := by decide +kernel
theorem dX4_kindFor_9 : decode cX4_kindFor 9 = .ok (.aload_n 0, 1) := by decide +kernel
theorem dX4_kindFor_10 : decode cX4_kindFor 10 = .ok (.iload_n 1, 1) := by decide +kernel
theorem dX4_kindFor_11 : decode cX4_kindFor 11 = .ok (.iconst 0, 1) := by decide +kernel
theorem dX4_kindFor_12 : decode cX4_kindFor 12 = .ok (.iconst 0, 1) := by decide +kernel
theorem dX4_kindFor_13 : decode cX4_kindFor 13 = .ok (.bipush 6, 2) := by decide +kernel
theorem dX4_kindFor_15 : decode cX4_kindFor 15 = .ok (.iload_n 2, 1) := by decide +kernel
theorem dX4_kindFor_16 : decode cX4_kindFor 16 = .ok (.invokevirtual 183, 3) := by decide +kernel
theorem dX4_kindFor_19 : decode cX4_kindFor 19 = .ok (.goto 8, 3) := by decide +kernel
theorem dX4_kindFor_22 : decode cX4_kindFor 22 = .ok (.aload_n 0, 1) := by decide +kernel
theorem dX4_kindFor_23 : decode cX4_kindFor 23 = .ok (.iconst 0, 1) := by decide +kernel
theorem dX4_kindFor_24 : decode cX4_kindFor 24 = .ok (.invokevirtual 76, 3) := by decide +kernel
theorem dX4_kindFor_27 : decode cX4_kindFor 27 = .ok (.ireturn, 1) := by decide +kernel
theorem dX4_whoseIn_0 : decode cX4_whoseIn 0 = .ok (.aload_n 0, 1) := by decide +kernel
theorem dX4_whoseIn_1 : decode cX4_whoseIn 1 = .ok (.iload_n 2, 1) := by decide +kernel
theorem dX4_whoseIn_2 : decode cX4_whoseIn 2 = .ok (.invokevirtual 138, 3) := by decide +kernel
theorem dX4_whoseIn_5 : decode cX4_whoseIn 5 = .ok (.aload_n 0, 1) := by decide +kernel
theorem dX4_whoseIn_6 : decode cX4_whoseIn 6 = .ok (.getfield 9, 3) := by decide +kernel
theorem dX4_whoseIn_9 : decode cX4_whoseIn 9 = .ok (.iconst 5, 1) := by decide +kernel
theorem dX4_whoseIn_10 : decode cX4_whoseIn 10 = .ok (.iload_n 1, 1) := by decide +kernel
theorem dX4_whoseIn_11 : decode cX4_whoseIn 11 = .ok (.iadd, 1) := by decide +kernel
theorem dX4_whoseIn_12 : decode cX4_whoseIn 12 = .ok (.iaload, 1) := by decide +kernel
theorem dX4_whoseIn_13 : decode cX4_whoseIn 13 = .ok (.istore_n 3, 1) := by decide +kernel
theorem dX4_whoseIn_14 : decode cX4_whoseIn 14 = .ok (.aload_n 0, 1) := by decide +kernel
theorem dX4_whoseIn_15 : decode cX4_whoseIn 15 = .ok (.invokevirtual 160, 3) := by decide +kernel
theorem dX4_whoseIn_18 : decode cX4_whoseIn 18 = .ok (.iload_n 3, 1) := by decide +kernel
theorem dX4_whoseIn_19 : decode cX4_whoseIn 19 = .ok (.ireturn, 1) := by decide +kernel
theorem dX4_reachFor_0 : decode cX4_reachFor 0 = .ok (.iload_n 1, 1) := by decide +kernel
theorem dX4_reachFor_1 : decode cX4_reachFor 1 = .ok (.invokestatic 70, 3) := by decide +kernel
theorem dX4_reachFor_4 : decode cX4_reachFor 4 = .ok (.ifCond .eq 10, 3) := by decide +kernel
theorem dX4_reachFor_7 : decode cX4_reachFor 7 = .ok (.iload_n 2, 1) := by decide +kernel
theorem dX4_reachFor_8 : decode cX4_reachFor 8 = .ok (.invokestatic 177, 3) := by decide +kernel
theorem dX4_reachFor_11 : decode cX4_reachFor 11 = .ok (.ifCond .ne 9, 3) := by decide +kernel
theorem dX4_reachFor_14 : decode cX4_reachFor 14 = .ok (.aload_n 0, 1) := by decide +kernel
theorem dX4_reachFor_15 : decode cX4_reachFor 15 = .ok (.iconst 0, 1) := by decide +kernel
theorem dX4_reachFor_16 : decode cX4_reachFor 16 = .ok (.invokevirtual 76, 3) := by decide +kernel
theorem dX4_reachFor_19 : decode cX4_reachFor 19 = .ok (.ireturn, 1) := by decide +kernel
theorem dX4_reachFor_20 : decode cX4_reachFor 20 = .ok (.iconst (-1), 1) := by decide +kernel
theorem dX4_reachFor_21 : decode cX4_reachFor 21 = .ok (.istore_n 3, 1) := by decide +kernel
theorem dX4_reachFor_22 : decode cX4_reachFor 22 = .ok (.iconst 0, 1) := by decide +kernel
theorem dX4_reachFor_23 : decode cX4_reachFor 23 = .ok (.istore 4, 2) := by decide +kernel
theorem dX4_reachFor_25 : decode cX4_reachFor 25 = .ok (.iload 4, 2) := by decide +kernel
theorem dX4_reachFor_27 : decode cX4_reachFor 27 = .ok (.bipush 24, 2) := by decide +kernel
theorem dX4_reachFor_29 : decode cX4_reachFor 29 = .ok (.if_icmp .gt 37, 3) := by decide +kernel
theorem dX4_reachFor_32 : decode cX4_reachFor 32 = .ok (.aload_n 0, 1) := by decide +kernel
theorem dX4_reachFor_33 : decode cX4_reachFor 33 = .ok (.invokevirtual 168, 3) := by decide +kernel
theorem dX4_reachFor_36 : decode cX4_reachFor 36 = .ok (.aload_n 0, 1) := by decide +kernel
theorem dX4_reachFor_37 : decode cX4_reachFor 37 = .ok (.getfield 9, 3) := by decide +kernel
theorem dX4_reachFor_40 : decode cX4_reachFor 40 = .ok (.iconst 3, 1) := by decide +kernel
theorem dX4_reachFor_41 : decode cX4_reachFor 41 = .ok (.iload 4, 2) := by decide +kernel
theorem dX4_reachFor_43 : decode cX4_reachFor 43 = .ok (.iastore, 1) := by decide +kernel
theorem dX4_reachFor_44 : decode cX4_reachFor 44 = .ok (.aload_n 0, 1) := by decide +kernel
theorem dX4_reachFor_45 : decode cX4_reachFor 45 = .ok (.iload_n 1, 1) := by decide +kernel
theorem dX4_reachFor_46 : decode cX4_reachFor 46 = .ok (.iload_n 2, 1) := by decide +kernel
theorem dX4_reachFor_47 : decode cX4_reachFor 47 = .ok (.invokevirtual 187, 3) := by decide +kernel
theorem dX4_reachFor_50 : decode cX4_reachFor 50 = .ok (.ifCond .lt 8, 3) := by decide +kernel
theorem dX4_reachFor_53 : decode cX4_reachFor 53 = .ok (.iload 4, 2) := by decide +kernel
theorem dX4_reachFor_55 : decode cX4_reachFor 55 = .ok (.goto 4, 3) := by decide +kernel
theorem dX4_reachFor_58 : decode cX4_reachFor 58 = .ok (.iload_n 3, 1) := by decide +kernel
theorem dX4_reachFor_59 : decode cX4_reachFor 59 = .ok (.istore_n 3, 1) := by decide +kernel
theorem dX4_reachFor_60 : decode cX4_reachFor 60 = .ok (.iinc 4 1, 3) := by decide +kernel
theorem dX4_reachFor_63 : decode cX4_reachFor 63 = .ok (.goto (-38), 3) := by decide +kernel
theorem dX4_reachFor_66 : decode cX4_reachFor 66 = .ok (.iload_n 3, 1) := by decide +kernel
theorem dX4_reachFor_67 : decode cX4_reachFor 67 = .ok (.ifCond .ge 11, 3) := by decide +kernel
theorem dX4_reachFor_70 : decode cX4_reachFor 70 = .ok (.aload_n 0, 1) := by decide +kernel
theorem dX4_reachFor_71 : decode cX4_reachFor 71 = .ok (.iconst 3, 1) := by decide +kernel
theorem dX4_reachFor_72 : decode cX4_reachFor 72 = .ok (.invokevirtual 76, 3) := by decide +kernel
theorem dX4_reachFor_75 : decode cX4_reachFor 75 = .ok (.goto 4, 3) := by decide +kernel
theorem dX4_reachFor_78 : decode cX4_reachFor 78 = .ok (.iload_n 3, 1) := by decide +kernel
theorem dX4_reachFor_79 : decode cX4_reachFor 79 = .ok (.ireturn, 1) := by decide +kernel
theorem dX4_weightFor_0 : decode cX4_weightFor 0 = .ok (.aload_n 0, 1) := by decide +kernel
theorem dX4_weightFor_1 : decode cX4_weightFor 1 = .ok (.iload_n 1, 1) := by decide +kernel
theorem dX4_weightFor_2 : decode cX4_weightFor 2 = .ok (.invokevirtual 82, 3) := by decide +kernel
theorem dX4_weightFor_5 : decode cX4_weightFor 5 = .ok (.ifCond .eq 17, 3) := by decide +kernel
theorem dX4_weightFor_8 : decode cX4_weightFor 8 = .ok (.iload_n 2, 1) := by decide +kernel
theorem dX4_weightFor_9 : decode cX4_weightFor 9 = .ok (.invokestatic 70, 3) := by decide +kernel
theorem dX4_weightFor_12 : decode cX4_weightFor 12 = .ok (.ifCond .eq 10, 3) := by decide +kernel
theorem dX4_weightFor_15 : decode cX4_weightFor 15 = .ok (.iload_n 3, 1) := by decide +kernel
theorem dX4_weightFor_16 : decode cX4_weightFor 16 = .ok (.invokestatic 177, 3) := by decide +kernel
theorem dX4_weightFor_19 : decode cX4_weightFor 19 = .ok (.ifCond .ne 9, 3) := by decide +kernel
theorem dX4_weightFor_22 : decode cX4_weightFor 22 = .ok (.aload_n 0, 1) := by decide +kernel
theorem dX4_weightFor_23 : decode cX4_weightFor 23 = .ok (.iconst 0, 1) := by decide +kernel
theorem dX4_weightFor_24 : decode cX4_weightFor 24 = .ok (.invokevirtual 76, 3) := by decide +kernel
theorem dX4_weightFor_27 : decode cX4_weightFor 27 = .ok (.ireturn, 1) := by decide +kernel
theorem dX4_weightFor_28 : decode cX4_weightFor 28 = .ok (.iconst (-1), 1) := by decide +kernel
theorem dX4_weightFor_29 : decode cX4_weightFor 29 = .ok (.istore 4, 2) := by decide +kernel
theorem dX4_weightFor_31 : decode cX4_weightFor 31 = .ok (.bipush 9, 2) := by decide +kernel
theorem dX4_weightFor_33 : decode cX4_weightFor 33 = .ok (.istore 5, 2) := by decide +kernel
theorem dX4_weightFor_35 : decode cX4_weightFor 35 = .ok (.iload 5, 2) := by decide +kernel
theorem dX4_weightFor_37 : decode cX4_weightFor 37 = .ok (.iconst 1, 1) := by decide +kernel
theorem dX4_weightFor_38 : decode cX4_weightFor 38 = .ok (.if_icmp .lt 40, 3) := by decide +kernel
theorem dX4_weightFor_41 : decode cX4_weightFor 41 = .ok (.aload_n 0, 1) := by decide +kernel
theorem dX4_weightFor_42 : decode cX4_weightFor 42 = .ok (.invokevirtual 168, 3) := by decide +kernel
theorem dX4_weightFor_45 : decode cX4_weightFor 45 = .ok (.aload_n 0, 1) := by decide +kernel
theorem dX4_weightFor_46 : decode cX4_weightFor 46 = .ok (.iload_n 1, 1) := by decide +kernel
theorem dX4_weightFor_47 : decode cX4_weightFor 47 = .ok (.iconst 4, 1) := by decide +kernel
theorem dX4_weightFor_48 : decode cX4_weightFor 48 = .ok (.iload 5, 2) := by decide +kernel
theorem dX4_weightFor_50 : decode cX4_weightFor 50 = .ok (.invokevirtual 66, 3) := by decide +kernel
theorem dX4_weightFor_53 : decode cX4_weightFor 53 = .ok (.aload_n 0, 1) := by decide +kernel
theorem dX4_weightFor_54 : decode cX4_weightFor 54 = .ok (.iload_n 2, 1) := by decide +kernel
theorem dX4_weightFor_55 : decode cX4_weightFor 55 = .ok (.iload_n 3, 1) := by decide +kernel
theorem dX4_weightFor_56 : decode cX4_weightFor 56 = .ok (.invokevirtual 187, 3) := by decide +kernel
theorem dX4_weightFor_59 : decode cX4_weightFor 59 = .ok (.iload_n 1, 1) := by decide +kernel
theorem dX4_weightFor_60 : decode cX4_weightFor 60 = .ok (.if_icmp .ne 8, 3) := by decide +kernel
theorem dX4_weightFor_63 : decode cX4_weightFor 63 = .ok (.iload 5, 2) := by decide +kernel
theorem dX4_weightFor_65 : decode cX4_weightFor 65 = .ok (.goto 5, 3) := by decide +kernel
theorem dX4_weightFor_68 : decode cX4_weightFor 68 = .ok (.iload 4, 2) := by decide +kernel
theorem dX4_weightFor_70 : decode cX4_weightFor 70 = .ok (.istore 4, 2) := by decide +kernel
theorem dX4_weightFor_72 : decode cX4_weightFor 72 = .ok (.iinc 5 (-1), 3) := by decide +kernel
theorem dX4_weightFor_75 : decode cX4_weightFor 75 = .ok (.goto (-40), 3) := by decide +kernel
theorem dX4_weightFor_78 : decode cX4_weightFor 78 = .ok (.iload 4, 2) := by decide +kernel
theorem dX4_weightFor_80 : decode cX4_weightFor 80 = .ok (.ifCond .ge 11, 3) := by decide +kernel
theorem dX4_weightFor_83 : decode cX4_weightFor 83 = .ok (.aload_n 0, 1) := by decide +kernel
theorem dX4_weightFor_84 : decode cX4_weightFor 84 = .ok (.iconst 3, 1) := by decide +kernel
theorem dX4_weightFor_85 : decode cX4_weightFor 85 = .ok (.invokevirtual 76, 3) := by decide +kernel
theorem dX4_weightFor_88 : decode cX4_weightFor 88 = .ok (.goto 5, 3) := by decide +kernel
theorem dX4_weightFor_91 : decode cX4_weightFor 91 = .ok (.iload 4, 2) := by decide +kernel
theorem dX4_weightFor_93 : decode cX4_weightFor 93 = .ok (.ireturn, 1) := by decide +kernel
theorem dX4_away_0 : decode cX4_away 0 = .ok (.iload_n 1, 1) := by decide +kernel
theorem dX4_away_1 : decode cX4_away 1 = .ok (.invokestatic 70, 3) := by decide +kernel
theorem dX4_away_4 : decode cX4_away 4 = .ok (.ifCond .eq 15, 3) := by decide +kernel
theorem dX4_away_7 : decode cX4_away 7 = .ok (.iload_n 2, 1) := by decide +kernel
theorem dX4_away_8 : decode cX4_away 8 = .ok (.i2l, 1) := by decide +kernel
theorem dX4_away_9 : decode cX4_away 9 = .ok (.lconst 0, 1) := by decide +kernel
theorem dX4_away_10 : decode cX4_away 10 = .ok (.ldc2_w 190, 3) := by decide +kernel
theorem dX4_away_13 : decode cX4_away 13 = .ok (.invokestatic 42, 3) := by decide +kernel
theorem dX4_away_16 : decode cX4_away 16 = .ok (.ifCond .ne 9, 3) := by decide +kernel
theorem dX4_away_19 : decode cX4_away 19 = .ok (.aload_n 0, 1) := by decide +kernel
theorem dX4_away_20 : decode cX4_away 20 = .ok (.iconst 0, 1) := by decide +kernel
theorem dX4_away_21 : decode cX4_away 21 = .ok (.invokevirtual 76, 3) := by decide +kernel
theorem dX4_away_24 : decode cX4_away 24 = .ok (.ireturn, 1) := by decide +kernel
theorem dX4_away_25 : decode cX4_away 25 = .ok (.iconst (-1), 1) := by decide +kernel
theorem dX4_away_26 : decode cX4_away 26 = .ok (.istore_n 3, 1) := by decide +kernel
theorem dX4_away_27 : decode cX4_away 27 = .ok (.iconst 0, 1) := by decide +kernel
end
section
theorem dX4_away_28 : decode cX4_away 28 = .ok (.istore 4, 2) := by decide +kernel
theorem dX4_away_30 : decode cX4_away 30 = .ok (.iload 4, 2) := by decide +kernel
theorem dX4_away_32 : decode cX4_away 32 = .ok (.iconst 1, 1) := by decide +kernel
theorem dX4_away_33 : decode cX4_away 33 = .ok (.aload_n 0, 1) := by decide +kernel
theorem dX4_away_34 : decode cX4_away 34 = .ok (.getfield 9, 3) := by decide +kernel
theorem dX4_away_37 : decode cX4_away 37 = .ok (.iconst 2, 1) := by decide +kernel
theorem dX4_away_38 : decode cX4_away 38 = .ok (.iaload, 1) := by decide +kernel
theorem dX4_away_39 : decode cX4_away 39 = .ok (.ishl, 1) := by decide +kernel
theorem dX4_away_40 : decode cX4_away 40 = .ok (.if_icmp .ge 59, 3) := by decide +kernel
theorem dX4_away_43 : decode cX4_away 43 = .ok (.iload_n 3, 1) := by decide +kernel
theorem dX4_away_44 : decode cX4_away 44 = .ok (.ifCond .lt 15, 3) := by decide +kernel
theorem dX4_away_47 : decode cX4_away 47 = .ok (.iload 4, 2) := by decide +kernel
theorem dX4_away_49 : decode cX4_away 49 = .ok (.invokestatic 144, 3) := by decide +kernel
theorem dX4_away_52 : decode cX4_away 52 = .ok (.iload_n 3, 1) := by decide +kernel
theorem dX4_away_53 : decode cX4_away 53 = .ok (.invokestatic 144, 3) := by decide +kernel
theorem dX4_away_56 : decode cX4_away 56 = .ok (.if_icmp .ge 37, 3) := by decide +kernel
theorem dX4_away_59 : decode cX4_away 59 = .ok (.aload_n 0, 1) := by decide +kernel
theorem dX4_away_60 : decode cX4_away 60 = .ok (.invokevirtual 168, 3) := by decide +kernel
theorem dX4_away_63 : decode cX4_away 63 = .ok (.aload_n 0, 1) := by decide +kernel
theorem dX4_away_64 : decode cX4_away 64 = .ok (.iload 4, 2) := by decide +kernel
theorem dX4_away_66 : decode cX4_away 66 = .ok (.putfield 125, 3) := by decide +kernel
theorem dX4_away_69 : decode cX4_away 69 = .ok (.aload_n 0, 1) := by decide +kernel
theorem dX4_away_70 : decode cX4_away 70 = .ok (.iload_n 1, 1) := by decide +kernel
theorem dX4_away_71 : decode cX4_away 71 = .ok (.iload_n 2, 1) := by decide +kernel
theorem dX4_away_72 : decode cX4_away 72 = .ok (.invokevirtual 187, 3) := by decide +kernel
theorem dX4_away_75 : decode cX4_away 75 = .ok (.aload_n 0, 1) := by decide +kernel
theorem dX4_away_76 : decode cX4_away 76 = .ok (.getfield 9, 3) := by decide +kernel
theorem dX4_away_79 : decode cX4_away 79 = .ok (.iconst 5, 1) := by decide +kernel
theorem dX4_away_80 : decode cX4_away 80 = .ok (.iload_n 1, 1) := by decide +kernel
theorem dX4_away_81 : decode cX4_away 81 = .ok (.iadd, 1) := by decide +kernel
theorem dX4_away_82 : decode cX4_away 82 = .ok (.iaload, 1) := by decide +kernel
theorem dX4_away_83 : decode cX4_away 83 = .ok (.if_icmp .ne 8, 3) := by decide +kernel
theorem dX4_away_86 : decode cX4_away 86 = .ok (.iload 4, 2) := by decide +kernel
theorem dX4_away_88 : decode cX4_away 88 = .ok (.goto 4, 3) := by decide +kernel
theorem dX4_away_91 : decode cX4_away 91 = .ok (.iload_n 3, 1) := by decide +kernel
theorem dX4_away_92 : decode cX4_away 92 = .ok (.istore_n 3, 1) := by decide +kernel
theorem dX4_away_93 : decode cX4_away 93 = .ok (.iinc 4 1, 3) := by decide +kernel
theorem dX4_away_96 : decode cX4_away 96 = .ok (.goto (-66), 3) := by decide +kernel
theorem dX4_away_99 : decode cX4_away 99 = .ok (.aload_n 0, 1) := by decide +kernel
theorem dX4_away_100 : decode cX4_away 100 = .ok (.iconst 0, 1) := by decide +kernel
theorem dX4_away_101 : decode cX4_away 101 = .ok (.putfield 125, 3) := by decide +kernel
theorem dX4_away_104 : decode cX4_away 104 = .ok (.iload_n 3, 1) := by decide +kernel
theorem dX4_away_105 : decode cX4_away 105 = .ok (.ifCond .ge 11, 3) := by decide +kernel
theorem dX4_away_108 : decode cX4_away 108 = .ok (.aload_n 0, 1) := by decide +kernel
theorem dX4_away_109 : decode cX4_away 109 = .ok (.iconst 3, 1) := by decide +kernel
theorem dX4_away_110 : decode cX4_away 110 = .ok (.invokevirtual 76, 3) := by decide +kernel
theorem dX4_away_113 : decode cX4_away 113 = .ok (.goto 4, 3) := by decide +kernel
theorem dX4_away_116 : decode cX4_away 116 = .ok (.iload_n 3, 1) := by decide +kernel
theorem dX4_away_117 : decode cX4_away 117 = .ok (.ireturn, 1) := by decide +kernel
theorem dX4_censor_0 : decode cX4_censor 0 = .ok (.iload_n 1, 1) := by decide +kernel
theorem dX4_censor_1 : decode cX4_censor 1 = .ok (.invokestatic 177, 3) := by decide +kernel
theorem dX4_censor_4 : decode cX4_censor 4 = .ok (.ifCond .ne 9, 3) := by decide +kernel
theorem dX4_censor_7 : decode cX4_censor 7 = .ok (.aload_n 0, 1) := by decide +kernel
theorem dX4_censor_8 : decode cX4_censor 8 = .ok (.iconst 0, 1) := by decide +kernel
theorem dX4_censor_9 : decode cX4_censor 9 = .ok (.invokevirtual 76, 3) := by decide +kernel
theorem dX4_censor_12 : decode cX4_censor 12 = .ok (.ireturn, 1) := by decide +kernel
theorem dX4_censor_13 : decode cX4_censor 13 = .ok (.iconst (-1), 1) := by decide +kernel
theorem dX4_censor_14 : decode cX4_censor 14 = .ok (.istore_n 2, 1) := by decide +kernel
theorem dX4_censor_15 : decode cX4_censor 15 = .ok (.iconst 0, 1) := by decide +kernel
theorem dX4_censor_16 : decode cX4_censor 16 = .ok (.istore_n 3, 1) := by decide +kernel
theorem dX4_censor_17 : decode cX4_censor 17 = .ok (.iconst 0, 1) := by decide +kernel
theorem dX4_censor_18 : decode cX4_censor 18 = .ok (.istore 4, 2) := by decide +kernel
theorem dX4_censor_20 : decode cX4_censor 20 = .ok (.iload 4, 2) := by decide +kernel
theorem dX4_censor_22 : decode cX4_censor 22 = .ok (.aload_n 0, 1) := by decide +kernel
theorem dX4_censor_23 : decode cX4_censor 23 = .ok (.getfield 9, 3) := by decide +kernel
theorem dX4_censor_26 : decode cX4_censor 26 = .ok (.iconst 2, 1) := by decide +kernel
theorem dX4_censor_27 : decode cX4_censor 27 = .ok (.iaload, 1) := by decide +kernel
theorem dX4_censor_28 : decode cX4_censor 28 = .ok (.if_icmp .ge 79, 3) := by decide +kernel
theorem dX4_censor_31 : decode cX4_censor 31 = .ok (.aload_n 0, 1) := by decide +kernel
theorem dX4_censor_32 : decode cX4_censor 32 = .ok (.invokevirtual 168, 3) := by decide +kernel
theorem dX4_censor_35 : decode cX4_censor 35 = .ok (.aload_n 0, 1) := by decide +kernel
theorem dX4_censor_36 : decode cX4_censor 36 = .ok (.iconst 1, 1) := by decide +kernel
theorem dX4_censor_37 : decode cX4_censor 37 = .ok (.iload 4, 2) := by decide +kernel
theorem dX4_censor_39 : decode cX4_censor 39 = .ok (.ishl, 1) := by decide +kernel
theorem dX4_censor_40 : decode cX4_censor 40 = .ok (.putfield 125, 3) := by decide +kernel
theorem dX4_censor_43 : decode cX4_censor 43 = .ok (.aload_n 0, 1) := by decide +kernel
theorem dX4_censor_44 : decode cX4_censor 44 = .ok (.iload_n 1, 1) := by decide +kernel
theorem dX4_censor_45 : decode cX4_censor 45 = .ok (.invokevirtual 138, 3) := by decide +kernel
theorem dX4_censor_48 : decode cX4_censor 48 = .ok (.aload_n 0, 1) := by decide +kernel
theorem dX4_censor_49 : decode cX4_censor 49 = .ok (.getfield 9, 3) := by decide +kernel
theorem dX4_censor_52 : decode cX4_censor 52 = .ok (.iconst 4, 1) := by decide +kernel
theorem dX4_censor_53 : decode cX4_censor 53 = .ok (.iaload, 1) := by decide +kernel
theorem dX4_censor_54 : decode cX4_censor 54 = .ok (.istore 5, 2) := by decide +kernel
theorem dX4_censor_56 : decode cX4_censor 56 = .ok (.aload_n 0, 1) := by decide +kernel
theorem dX4_censor_57 : decode cX4_censor 57 = .ok (.invokevirtual 160, 3) := by decide +kernel
theorem dX4_censor_60 : decode cX4_censor 60 = .ok (.iload_n 2, 1) := by decide +kernel
theorem dX4_censor_61 : decode cX4_censor 61 = .ok (.ifCond .lt 9, 3) := by decide +kernel
theorem dX4_censor_64 : decode cX4_censor 64 = .ok (.iload 5, 2) := by decide +kernel
theorem dX4_censor_66 : decode cX4_censor 66 = .ok (.iload_n 3, 1) := by decide +kernel
theorem dX4_censor_67 : decode cX4_censor 67 = .ok (.if_icmp .ge 7, 3) := by decide +kernel
theorem dX4_censor_70 : decode cX4_censor 70 = .ok (.iconst 1, 1) := by decide +kernel
theorem dX4_censor_71 : decode cX4_censor 71 = .ok (.goto 4, 3) := by decide +kernel
theorem dX4_censor_74 : decode cX4_censor 74 = .ok (.iconst 0, 1) := by decide +kernel
theorem dX4_censor_75 : decode cX4_censor 75 = .ok (.istore 6, 2) := by decide +kernel
theorem dX4_censor_77 : decode cX4_censor 77 = .ok (.iload 6, 2) := by decide +kernel
theorem dX4_censor_79 : decode cX4_censor 79 = .ok (.ifCond .eq 8, 3) := by decide +kernel
theorem dX4_censor_82 : decode cX4_censor 82 = .ok (.iload 4, 2) := by decide +kernel
theorem dX4_censor_84 : decode cX4_censor 84 = .ok (.goto 4, 3) := by decide +kernel
theorem dX4_censor_87 : decode cX4_censor 87 = .ok (.iload_n 2, 1) := by decide +kernel
theorem dX4_censor_88 : decode cX4_censor 88 = .ok (.istore_n 2, 1) := by decide +kernel
theorem dX4_censor_89 : decode cX4_censor 89 = .ok (.iload 6, 2) := by decide +kernel
theorem dX4_censor_91 : decode cX4_censor 91 = .ok (.ifCond .eq 8, 3) := by decide +kernel
theorem dX4_censor_94 : decode cX4_censor 94 = .ok (.iload 5, 2) := by decide +kernel
theorem dX4_censor_96 : decode cX4_censor 96 = .ok (.goto 4, 3) := by decide +kernel
theorem dX4_censor_99 : decode cX4_censor 99 = .ok (.iload_n 3, 1) := by decide +kernel
theorem dX4_censor_100 : decode cX4_censor 100 = .ok (.istore_n 3, 1) := by decide +kernel
theorem dX4_censor_101 : decode cX4_censor 101 = .ok (.iinc 4 1, 3) := by decide +kernel
theorem dX4_censor_104 : decode cX4_censor 104 = .ok (.goto (-84), 3) := by decide +kernel
theorem dX4_censor_107 : decode cX4_censor 107 = .ok (.aload_n 0, 1) := by decide +kernel
theorem dX4_censor_108 : decode cX4_censor 108 = .ok (.iconst 0, 1) := by decide +kernel
theorem dX4_censor_109 : decode cX4_censor 109 = .ok (.putfield 125, 3) := by decide +kernel
theorem dX4_censor_112 : decode cX4_censor 112 = .ok (.iload_n 2, 1) := by decide +kernel
theorem dX4_censor_113 : decode cX4_censor 113 = .ok (.ifCond .ge 11, 3) := by decide +kernel
theorem dX4_censor_116 : decode cX4_censor 116 = .ok (.aload_n 0, 1) := by decide +kernel
theorem dX4_censor_117 : decode cX4_censor 117 = .ok (.iconst 3, 1) := by decide +kernel
theorem dX4_censor_118 : decode cX4_censor 118 = .ok (.invokevirtual 76, 3) := by decide +kernel
theorem dX4_censor_121 : decode cX4_censor 121 = .ok (.goto 4, 3) := by decide +kernel
theorem dX4_censor_124 : decode cX4_censor 124 = .ok (.iload_n 2, 1) := by decide +kernel
theorem dX4_censor_125 : decode cX4_censor 125 = .ok (.ireturn, 1) := by decide +kernel
theorem dX4_isSo_0 : decode cX4_isSo 0 = .ok (.aload_n 0, 1) := by decide +kernel
theorem dX4_isSo_1 : decode cX4_isSo 1 = .ok (.iload_n 3, 1) := by decide +kernel
theorem dX4_isSo_2 : decode cX4_isSo 2 = .ok (.invokevirtual 138, 3) := by decide +kernel
theorem dX4_isSo_5 : decode cX4_isSo 5 = .ok (.iconst 1, 1) := by decide +kernel
theorem dX4_isSo_6 : decode cX4_isSo 6 = .ok (.istore 4, 2) := by decide +kernel
theorem dX4_isSo_8 : decode cX4_isSo 8 = .ok (.iconst 0, 1) := by decide +kernel
theorem dX4_isSo_9 : decode cX4_isSo 9 = .ok (.istore 5, 2) := by decide +kernel
theorem dX4_isSo_11 : decode cX4_isSo 11 = .ok (.iload 5, 2) := by decide +kernel
theorem dX4_isSo_13 : decode cX4_isSo 13 = .ok (.aload_n 0, 1) := by decide +kernel
theorem dX4_isSo_14 : decode cX4_isSo 14 = .ok (.getfield 28, 3) := by decide +kernel
theorem dX4_isSo_17 : decode cX4_isSo 17 = .ok (.iload_n 1, 1) := by decide +kernel
theorem dX4_isSo_18 : decode cX4_isSo 18 = .ok (.iaload, 1) := by decide +kernel
theorem dX4_isSo_19 : decode cX4_isSo 19 = .ok (.if_icmp .ge 71, 3) := by decide +kernel
theorem dX4_isSo_22 : decode cX4_isSo 22 = .ok (.iload 5, 2) := by decide +kernel
theorem dX4_isSo_24 : decode cX4_isSo 24 = .ok (.bipush 24, 2) := by decide +kernel
theorem dX4_isSo_26 : decode cX4_isSo 26 = .ok (.if_icmp .ge 64, 3) := by decide +kernel
theorem dX4_isSo_29 : decode cX4_isSo 29 = .ok (.aload_n 0, 1) := by decide +kernel
theorem dX4_isSo_30 : decode cX4_isSo 30 = .ok (.getfield 31, 3) := by decide +kernel
theorem dX4_isSo_33 : decode cX4_isSo 33 = .ok (.bipush 40, 2) := by decide +kernel
theorem dX4_isSo_35 : decode cX4_isSo 35 = .ok (.iload_n 1, 1) := by decide +kernel
theorem dX4_isSo_36 : decode cX4_isSo 36 = .ok (.imul, 1) := by decide +kernel
theorem dX4_isSo_37 : decode cX4_isSo 37 = .ok (.iload 5, 2) := by decide +kernel
theorem dX4_isSo_39 : decode cX4_isSo 39 = .ok (.iadd, 1) := by decide +kernel
theorem dX4_isSo_40 : decode cX4_isSo 40 = .ok (.iaload, 1) := by decide +kernel
theorem dX4_isSo_41 : decode cX4_isSo 41 = .ok (.istore 6, 2) := by decide +kernel
theorem dX4_isSo_43 : decode cX4_isSo 43 = .ok (.iload 4, 2) := by decide +kernel
theorem dX4_isSo_45 : decode cX4_isSo 45 = .ok (.ifCond .eq 36, 3) := by decide +kernel
theorem dX4_isSo_48 : decode cX4_isSo 48 = .ok (.iload 6, 2) := by decide +kernel
theorem dX4_isSo_50 : decode cX4_isSo 50 = .ok (.iconst (-1), 1) := by decide +kernel
theorem dX4_isSo_51 : decode cX4_isSo 51 = .ok (.if_icmp .eq 26, 3) := by decide +kernel
theorem dX4_isSo_54 : decode cX4_isSo 54 = .ok (.iload 6, 2) := by decide +kernel
theorem dX4_isSo_56 : decode cX4_isSo 56 = .ok (.aload_n 0, 1) := by decide +kernel
theorem dX4_isSo_57 : decode cX4_isSo 57 = .ok (.getfield 9, 3) := by decide +kernel
theorem dX4_isSo_60 : decode cX4_isSo 60 = .ok (.iconst 5, 1) := by decide +kernel
theorem dX4_isSo_61 : decode cX4_isSo 61 = .ok (.iload 5, 2) := by decide +kernel
theorem dX4_isSo_63 : decode cX4_isSo 63 = .ok (.iadd, 1) := by decide +kernel
theorem dX4_isSo_64 : decode cX4_isSo 64 = .ok (.iaload, 1) := by decide +kernel
theorem dX4_isSo_65 : decode cX4_isSo 65 = .ok (.iload_n 2, 1) := by decide +kernel
theorem dX4_isSo_66 : decode cX4_isSo 66 = .ok (.if_icmp .ne 7, 3) := by decide +kernel
theorem dX4_isSo_69 : decode cX4_isSo 69 = .ok (.iconst 1, 1) := by decide +kernel
theorem dX4_isSo_70 : decode cX4_isSo 70 = .ok (.goto 4, 3) := by decide +kernel
theorem dX4_isSo_73 : decode cX4_isSo 73 = .ok (.iconst 0, 1) := by decide +kernel
theorem dX4_isSo_74 : decode cX4_isSo 74 = .ok (.if_icmp .ne 7, 3) := by decide +kernel
theorem dX4_isSo_77 : decode cX4_isSo 77 = .ok (.iconst 1, 1) := by decide +kernel
theorem dX4_isSo_78 : decode cX4_isSo 78 = .ok (.goto 4, 3) := by decide +kernel
theorem dX4_isSo_81 : decode cX4_isSo 81 = .ok (.iconst 0, 1) := by decide +kernel
theorem dX4_isSo_82 : decode cX4_isSo 82 = .ok (.istore 4, 2) := by decide +kernel
theorem dX4_isSo_84 : decode cX4_isSo 84 = .ok (.iinc 5 1, 3) := by decide +kernel
theorem dX4_isSo_87 : decode cX4_isSo 87 = .ok (.goto (-76), 3) := by decide +kernel
theorem dX4_isSo_90 : decode cX4_isSo 90 = .ok (.aload_n 0, 1) := by decide +kernel
theorem dX4_isSo_91 : decode cX4_isSo 91 = .ok (.invokevirtual 160, 3) := by decide +kernel
theorem dX4_isSo_94 : decode cX4_isSo 94 = .ok (.iload 4, 2) := by decide +kernel
theorem dX4_isSo_96 : decode cX4_isSo 96 = .ok (.ireturn, 1) := by decide +kernel
theorem dX4_lacksAsked_0 : decode cX4_lacksAsked 0 = .ok (.aload_n 0, 1) := by decide +kernel
theorem dX4_lacksAsked_1 : decode cX4_lacksAsked 1 = .ok (.iload_n 1, 1) := by decide +kernel
theorem dX4_lacksAsked_2 : decode cX4_lacksAsked 2 = .ok (.invokevirtual 192, 3) := by decide +kernel
theorem dX4_lacksAsked_5 : decode cX4_lacksAsked 5 = .ok (.istore 4, 2) := by decide +kernel
theorem dX4_lacksAsked_7 : decode cX4_lacksAsked 7 = .ok (.iload 4, 2) := by decide +kernel
theorem dX4_lacksAsked_9 : decode cX4_lacksAsked 9 = .ok (.ifCond .lt 6, 3) := by decide +kernel
theorem dX4_lacksAsked_12 : decode cX4_lacksAsked 12 = .ok (.iload 4, 2) := by decide +kernel
theorem dX4_lacksAsked_14 : decode cX4_lacksAsked 14 = .ok (.ireturn, 1) := by decide +kernel
theorem dX4_lacksAsked_15 : decode cX4_lacksAsked 15 = .ok (.aload_n 0, 1) := by decide +kernel
theorem dX4_lacksAsked_16 : decode cX4_lacksAsked 16 = .ok (.iload_n 2, 1) := by decide +kernel
theorem dX4_lacksAsked_17 : decode cX4_lacksAsked 17 = .ok (.invokevirtual 82, 3) := by decide +kernel
theorem dX4_lacksAsked_20 : decode cX4_lacksAsked 20 = .ok (.ifCond .eq 19, 3) := by decide +kernel
theorem dX4_lacksAsked_23 : decode cX4_lacksAsked 23 = .ok (.iload_n 3, 1) := by decide +kernel
theorem dX4_lacksAsked_24 : decode cX4_lacksAsked 24 = .ok (.i2l, 1) := by decide +kernel
theorem dX4_lacksAsked_25 : decode cX4_lacksAsked 25 = .ok (.lconst 0, 1) := by decide +kernel
theorem dX4_lacksAsked_26 : decode cX4_lacksAsked 26 = .ok (.ldc2_w 190, 3) := by decide +kernel
theorem dX4_lacksAsked_29 : decode cX4_lacksAsked 29 = .ok (.invokestatic 42, 3) := by decide +kernel
theorem dX4_lacksAsked_32 : decode cX4_lacksAsked 32 = .ok (.ifCond .eq 7, 3) := by decide +kernel
theorem dX4_lacksAsked_35 : decode cX4_lacksAsked 35 = .ok (.iconst (-1), 1) := by decide +kernel
theorem dX4_lacksAsked_36 : decode cX4_lacksAsked 36 = .ok (.goto 4, 3) := by decide +kernel
theorem dX4_lacksAsked_39 : decode cX4_lacksAsked 39 = .ok (.iconst 0, 1) := by decide +kernel
theorem dX4_lacksAsked_40 : decode cX4_lacksAsked 40 = .ok (.ireturn, 1) := by decide +kernel
theorem dX4_thoseBy_0 : decode cX4_thoseBy 0 = .ok (.iconst 0, 1) := by decide +kernel
theorem dX4_thoseBy_1 : decode cX4_thoseBy 1 = .ok (.istore 7, 2) := by decide +kernel
theorem dX4_thoseBy_3 : decode cX4_thoseBy 3 = .ok (.iload 4, 2) := by decide +kernel
theorem dX4_thoseBy_5 : decode cX4_thoseBy 5 = .ok (.istore 8, 2) := by decide +kernel
theorem dX4_thoseBy_7 : decode cX4_thoseBy 7 = .ok (.iload 8, 2) := by decide +kernel
theorem dX4_thoseBy_9 : decode cX4_thoseBy 9 = .ok (.iload 5, 2) := by decide +kernel
theorem dX4_thoseBy_11 : decode cX4_thoseBy 11 = .ok (.if_icmp .gt 45, 3) := by decide +kernel
theorem dX4_thoseBy_14 : decode cX4_thoseBy 14 = .ok (.aload_n 0, 1) := by decide +kernel
theorem dX4_thoseBy_15 : decode cX4_thoseBy 15 = .ok (.invokevirtual 168, 3) := by decide +kernel
theorem dX4_thoseBy_18 : decode cX4_thoseBy 18 = .ok (.aload_n 0, 1) := by decide +kernel
theorem dX4_thoseBy_19 : decode cX4_thoseBy 19 = .ok (.iload_n 2, 1) := by decide +kernel
theorem dX4_thoseBy_20 : decode cX4_thoseBy 20 = .ok (.iload_n 3, 1) := by decide +kernel
theorem dX4_thoseBy_21 : decode cX4_thoseBy 21 = .ok (.iload 8, 2) := by decide +kernel
theorem dX4_thoseBy_23 : decode cX4_thoseBy 23 = .ok (.invokevirtual 66, 3) := by decide +kernel
theorem dX4_thoseBy_26 : decode cX4_thoseBy 26 = .ok (.iload 7, 2) := by decide +kernel
theorem dX4_thoseBy_28 : decode cX4_thoseBy 28 = .ok (.aload_n 0, 1) := by decide +kernel
theorem dX4_thoseBy_29 : decode cX4_thoseBy 29 = .ok (.iload_n 1, 1) := by decide +kernel
theorem dX4_thoseBy_30 : decode cX4_thoseBy 30 = .ok (.iload_n 2, 1) := by decide +kernel
theorem dX4_thoseBy_31 : decode cX4_thoseBy 31 = .ok (.iload 6, 2) := by decide +kernel
theorem dX4_thoseBy_33 : decode cX4_thoseBy 33 = .ok (.invokevirtual 195, 3) := by decide +kernel
theorem dX4_thoseBy_36 : decode cX4_thoseBy 36 = .ok (.ifCond .eq 10, 3) := by decide +kernel
theorem dX4_thoseBy_39 : decode cX4_thoseBy 39 = .ok (.iconst 1, 1) := by decide +kernel
theorem dX4_thoseBy_40 : decode cX4_thoseBy 40 = .ok (.iload 8, 2) := by decide +kernel
theorem dX4_thoseBy_42 : decode cX4_thoseBy 42 = .ok (.ishl, 1) := by decide +kernel
theorem dX4_thoseBy_43 : decode cX4_thoseBy 43 = .ok (.goto 4, 3) := by decide +kernel
theorem dX4_thoseBy_46 : decode cX4_thoseBy 46 = .ok (.iconst 0, 1) := by decide +kernel
theorem dX4_thoseBy_47 : decode cX4_thoseBy 47 = .ok (.ior, 1) := by decide +kernel
theorem dX4_thoseBy_48 : decode cX4_thoseBy 48 = .ok (.istore 7, 2) := by decide +kernel
theorem dX4_thoseBy_50 : decode cX4_thoseBy 50 = .ok (.iinc 8 1, 3) := by decide +kernel
theorem dX4_thoseBy_53 : decode cX4_thoseBy 53 = .ok (.goto (-46), 3) := by decide +kernel
theorem dX4_thoseBy_56 : decode cX4_thoseBy 56 = .ok (.iload 7, 2) := by decide +kernel
theorem dX4_thoseBy_58 : decode cX4_thoseBy 58 = .ok (.ireturn, 1) := by decide +kernel
theorem dX4_fits_0 : decode cX4_fits 0 = .ok (.aload_n 0, 1) := by decide +kernel
theorem dX4_fits_1 : decode cX4_fits 1 = .ok (.iload_n 1, 1) := by decide +kernel
theorem dX4_fits_2 : decode cX4_fits 2 = .ok (.iload_n 2, 1) := by decide +kernel
theorem dX4_fits_3 : decode cX4_fits 3 = .ok (.iload_n 3, 1) := by decide +kernel
theorem dX4_fits_4 : decode cX4_fits 4 = .ok (.invokevirtual 199, 3) := by decide +kernel
theorem dX4_fits_7 : decode cX4_fits 7 = .ok (.istore 4, 2) := by decide +kernel
theorem dX4_fits_9 : decode cX4_fits 9 = .ok (.iload 4, 2) := by decide +kernel
theorem dX4_fits_11 : decode cX4_fits 11 = .ok (.ifCond .lt 12, 3) := by decide +kernel
theorem dX4_fits_14 : decode cX4_fits 14 = .ok (.aload_n 0, 1) := by decide +kernel
theorem dX4_fits_15 : decode cX4_fits 15 = .ok (.iload 4, 2) := by decide +kernel
theorem dX4_fits_17 : decode cX4_fits 17 = .ok (.invokevirtual 76, 3) := by decide +kernel
theorem dX4_fits_20 : decode cX4_fits 20 = .ok (.goto 17, 3) := by decide +kernel
theorem dX4_fits_23 : decode cX4_fits 23 = .ok (.aload_n 0, 1) := by decide +kernel
theorem dX4_fits_24 : decode cX4_fits 24 = .ok (.iload_n 1, 1) := by decide +kernel
theorem dX4_fits_25 : decode cX4_fits 25 = .ok (.iload_n 2, 1) := by decide +kernel
theorem dX4_fits_26 : decode cX4_fits 26 = .ok (.iconst 3, 1) := by decide +kernel
theorem dX4_fits_27 : decode cX4_fits 27 = .ok (.iconst 1, 1) := by decide +kernel
theorem dX4_fits_28 : decode cX4_fits 28 = .ok (.bipush 6, 2) := by decide +kernel
theorem dX4_fits_30 : decode cX4_fits 30 = .ok (.iload_n 3, 1) := by decide +kernel
theorem dX4_fits_31 : decode cX4_fits 31 = .ok (.invokevirtual 203, 3) := by decide +kernel
theorem dX4_fits_34 : decode cX4_fits 34 = .ok (.invokestatic 144, 3) := by decide +kernel
theorem dX4_fits_37 : decode cX4_fits 37 = .ok (.ireturn, 1) := by decide +kernel
theorem dX4_strode_0 : decode cX4_strode 0 = .ok (.aload_n 0, 1) := by decide +kernel
theorem dX4_strode_1 : decode cX4_strode 1 = .ok (.iload_n 1, 1) := by decide +kernel
theorem dX4_strode_2 : decode cX4_strode 2 = .ok (.iload_n 2, 1) := by decide +kernel
theorem dX4_strode_3 : decode cX4_strode 3 = .ok (.iload_n 3, 1) := by decide +kernel
theorem dX4_strode_4 : decode cX4_strode 4 = .ok (.invokevirtual 199, 3) := by decide +kernel
theorem dX4_strode_7 : decode cX4_strode 7 = .ok (.istore 4, 2) := by decide +kernel
theorem dX4_strode_9 : decode cX4_strode 9 = .ok (.iload 4, 2) := by decide +kernel
theorem dX4_strode_11 : decode cX4_strode 11 = .ok (.ifCond .lt 10, 3) := by decide +kernel
theorem dX4_strode_14 : decode cX4_strode 14 = .ok (.aload_n 0, 1) := by decide +kernel
theorem dX4_strode_15 : decode cX4_strode 15 = .ok (.iload 4, 2) := by decide +kernel
theorem dX4_strode_17 : decode cX4_strode 17 = .ok (.invokevirtual 76, 3) := by decide +kernel
theorem dX4_strode_20 : decode cX4_strode 20 = .ok (.ireturn, 1) := by decide +kernel
theorem dX4_strode_21 : decode cX4_strode 21 = .ok (.aload_n 0, 1) := by decide +kernel
theorem dX4_strode_22 : decode cX4_strode 22 = .ok (.iload_n 1, 1) := by decide +kernel
theorem dX4_strode_23 : decode cX4_strode 23 = .ok (.iload_n 2, 1) := by decide +kernel
theorem dX4_strode_24 : decode cX4_strode 24 = .ok (.iconst 3, 1) := by decide +kernel
theorem dX4_strode_25 : decode cX4_strode 25 = .ok (.iconst 1, 1) := by decide +kernel
theorem dX4_strode_26 : decode cX4_strode 26 = .ok (.bipush 6, 2) := by decide +kernel
theorem dX4_strode_28 : decode cX4_strode 28 = .ok (.iload_n 3, 1) := by decide +kernel
theorem dX4_strode_29 : decode cX4_strode 29 = .ok (.invokevirtual 203, 3) := by decide +kernel
theorem dX4_strode_32 : decode cX4_strode 32 = .ok (.istore 5, 2) := by decide +kernel
theorem dX4_strode_34 : decode cX4_strode 34 = .ok (.iconst 1, 1) := by decide +kernel
theorem dX4_strode_35 : decode cX4_strode 35 = .ok (.istore 6, 2) := by decide +kernel
theorem dX4_strode_37 : decode cX4_strode 37 = .ok (.iload 6, 2) := by decide +kernel
theorem dX4_strode_39 : decode cX4_strode 39 = .ok (.bipush 6, 2) := by decide +kernel
theorem dX4_strode_41 : decode cX4_strode 41 = .ok (.if_icmp .gt 19, 3) := by decide +kernel
theorem dX4_strode_44 : decode cX4_strode 44 = .ok (.iload 5, 2) := by decide +kernel
theorem dX4_strode_46 : decode cX4_strode 46 = .ok (.iload 6, 2) := by decide +kernel
theorem dX4_strode_48 : decode cX4_strode 48 = .ok (.ishr, 1) := by decide +kernel
theorem dX4_strode_49 : decode cX4_strode 49 = .ok (.iconst 1, 1) := by decide +kernel
theorem dX4_strode_50 : decode cX4_strode 50 = .ok (.iand, 1) := by decide +kernel
theorem dX4_strode_51 : decode cX4_strode 51 = .ok (.ifCond .ne 9, 3) := by decide +kernel
theorem dX4_strode_54 : decode cX4_strode 54 = .ok (.iinc 6 1, 3) := by decide +kernel
theorem dX4_strode_57 : decode cX4_strode 57 = .ok (.goto (-20), 3) := by decide +kernel
theorem dX4_strode_60 : decode cX4_strode 60 = .ok (.iload 6, 2) := by decide +kernel
theorem dX4_strode_62 : decode cX4_strode 62 = .ok (.bipush 6, 2) := by decide +kernel
theorem dX4_strode_64 : decode cX4_strode 64 = .ok (.if_icmp .gt 8, 3) := by decide +kernel
theorem dX4_strode_67 : decode cX4_strode 67 = .ok (.iload 6, 2) := by decide +kernel
theorem dX4_strode_69 : decode cX4_strode 69 = .ok (.goto 8, 3) := by decide +kernel
theorem dX4_strode_72 : decode cX4_strode 72 = .ok (.aload_n 0, 1) := by decide +kernel
theorem dX4_strode_73 : decode cX4_strode 73 = .ok (.iconst 3, 1) := by decide +kernel
theorem dX4_strode_74 : decode cX4_strode 74 = .ok (.invokevirtual 76, 3) := by decide +kernel
theorem dX4_strode_77 : decode cX4_strode 77 = .ok (.ireturn, 1) := by decide +kernel
theorem dX4_kinds_0 : decode cX4_kinds 0 = .ok (.aload_n 0, 1) := by decide +kernel
theorem dX4_kinds_1 : decode cX4_kinds 1 = .ok (.iload_n 1, 1) := by decide +kernel
theorem dX4_kinds_2 : decode cX4_kinds 2 = .ok (.iload_n 2, 1) := by decide +kernel
theorem dX4_kinds_3 : decode cX4_kinds 3 = .ok (.iload_n 3, 1) := by decide +kernel
theorem dX4_kinds_4 : decode cX4_kinds 4 = .ok (.invokevirtual 199, 3) := by decide +kernel
theorem dX4_kinds_7 : decode cX4_kinds 7 = .ok (.istore 4, 2) := by decide +kernel
theorem dX4_kinds_9 : decode cX4_kinds 9 = .ok (.iload 4, 2) := by decide +kernel
theorem dX4_kinds_11 : decode cX4_kinds 11 = .ok (.ifCond .lt 12, 3) := by decide +kernel
theorem dX4_kinds_14 : decode cX4_kinds 14 = .ok (.aload_n 0, 1) := by decide +kernel
theorem dX4_kinds_15 : decode cX4_kinds 15 = .ok (.iload 4, 2) := by decide +kernel
theorem dX4_kinds_17 : decode cX4_kinds 17 = .ok (.invokevirtual 76, 3) := by decide +kernel
theorem dX4_kinds_20 : decode cX4_kinds 20 = .ok (.goto 14, 3) := by decide +kernel
theorem dX4_kinds_23 : decode cX4_kinds 23 = .ok (.aload_n 0, 1) := by decide +kernel
theorem dX4_kinds_24 : decode cX4_kinds 24 = .ok (.iload_n 1, 1) := by decide +kernel
theorem dX4_kinds_25 : decode cX4_kinds 25 = .ok (.iload_n 2, 1) := by decide +kernel
theorem dX4_kinds_26 : decode cX4_kinds 26 = .ok (.iconst 0, 1) := by decide +kernel
theorem dX4_kinds_27 : decode cX4_kinds 27 = .ok (.iconst 0, 1) := by decide +kernel
theorem dX4_kinds_28 : decode cX4_kinds 28 = .ok (.bipush 6, 2) := by decide +kernel
theorem dX4_kinds_30 : decode cX4_kinds 30 = .ok (.iload_n 3, 1) := by decide +kernel
theorem dX4_kinds_31 : decode cX4_kinds 31 = .ok (.invokevirtual 203, 3) := by decide +kernel
theorem dX4_kinds_34 : decode cX4_kinds 34 = .ok (.ireturn, 1) := by decide +kernel
theorem dX4_draw_0 : decode cX4_draw 0 = .ok (.aload_n 0, 1) := by decide +kernel
theorem dX4_draw_1 : decode cX4_draw 1 = .ok (.getfield 9, 3) := by decide +kernel
theorem dX4_draw_4 : decode cX4_draw 4 = .ok (.iconst 1, 1) := by decide +kernel
theorem dX4_draw_5 : decode cX4_draw 5 = .ok (.aload_n 0, 1) := by decide +kernel
theorem dX4_draw_6 : decode cX4_draw 6 = .ok (.getfield 9, 3) := by decide +kernel
theorem dX4_draw_9 : decode cX4_draw 9 = .ok (.iconst 1, 1) := by decide +kernel
theorem dX4_draw_10 : decode cX4_draw 10 = .ok (.iaload, 1) := by decide +kernel
theorem dX4_draw_11 : decode cX4_draw 11 = .ok (.ldc 207, 2) := by decide +kernel
theorem dX4_draw_13 : decode cX4_draw 13 = .ok (.imul, 1) := by decide +kernel
theorem dX4_draw_14 : decode cX4_draw 14 = .ok (.sipush 12345, 3) := by decide +kernel
theorem dX4_draw_17 : decode cX4_draw 17 = .ok (.iadd, 1) := by decide +kernel
theorem dX4_draw_18 : decode cX4_draw 18 = .ok (.iastore, 1) := by decide +kernel
theorem dX4_draw_19 : decode cX4_draw 19 = .ok (.aload_n 0, 1) := by decide +kernel
theorem dX4_draw_20 : decode cX4_draw 20 = .ok (.getfield 9, 3) := by decide +kernel
theorem dX4_draw_23 : decode cX4_draw 23 = .ok (.iconst 1, 1) := by decide +kernel
theorem dX4_draw_24 : decode cX4_draw 24 = .ok (.iaload, 1) := by decide +kernel
theorem dX4_draw_25 : decode cX4_draw 25 = .ok (.bipush 8, 2) := by decide +kernel
theorem dX4_draw_27 : decode cX4_draw 27 = .ok (.iushr, 1) := by decide +kernel
theorem dX4_draw_28 : decode cX4_draw 28 = .ok (.ireturn, 1) := by decide +kernel
theorem dX4_tides_0 : decode cX4_tides 0 = .ok (.iload_n 1, 1) := by decide +kernel
theorem dX4_tides_1 : decode cX4_tides 1 = .ok (.i2l, 1) := by decide +kernel
theorem dX4_tides_2 : decode cX4_tides 2 = .ok (.lconst 1, 1) := by decide +kernel
theorem dX4_tides_3 : decode cX4_tides 3 = .ok (.ldc2_w 190, 3) := by decide +kernel
theorem dX4_tides_6 : decode cX4_tides 6 = .ok (.invokestatic 42, 3) := by decide +kernel
theorem dX4_tides_9 : decode cX4_tides 9 = .ok (.ifCond .ne 9, 3) := by decide +kernel
theorem dX4_tides_12 : decode cX4_tides 12 = .ok (.aload_n 0, 1) := by decide +kernel
theorem dX4_tides_13 : decode cX4_tides 13 = .ok (.iconst 0, 1) := by decide +kernel
theorem dX4_tides_14 : decode cX4_tides 14 = .ok (.invokevirtual 76, 3) := by decide +kernel
theorem dX4_tides_17 : decode cX4_tides 17 = .ok (.ireturn, 1) := by decide +kernel
theorem dX4_tides_18 : decode cX4_tides 18 = .ok (.aload_n 0, 1) := by decide +kernel
theorem dX4_tides_19 : decode cX4_tides 19 = .ok (.getfield 9, 3) := by decide +kernel
theorem dX4_tides_22 : decode cX4_tides 22 = .ok (.iconst 0, 1) := by decide +kernel
theorem dX4_tides_23 : decode cX4_tides 23 = .ok (.iaload, 1) := by decide +kernel
theorem dX4_tides_24 : decode cX4_tides 24 = .ok (.iload_n 1, 1) := by decide +kernel
theorem dX4_tides_25 : decode cX4_tides 25 = .ok (.iadd, 1) := by decide +kernel
theorem dX4_tides_26 : decode cX4_tides 26 = .ok (.ldc 124, 2) := by decide +kernel
theorem dX4_tides_28 : decode cX4_tides 28 = .ok (.if_icmp .le 9, 3) := by decide +kernel
theorem dX4_tides_31 : decode cX4_tides 31 = .ok (.aload_n 0, 1) := by decide +kernel
theorem dX4_tides_32 : decode cX4_tides 32 = .ok (.iconst 4, 1) := by decide +kernel
theorem dX4_tides_33 : decode cX4_tides 33 = .ok (.invokevirtual 76, 3) := by decide +kernel
theorem dX4_tides_36 : decode cX4_tides 36 = .ok (.ireturn, 1) := by decide +kernel
theorem dX4_tides_37 : decode cX4_tides 37 = .ok (.iconst 0, 1) := by decide +kernel
theorem dX4_tides_38 : decode cX4_tides 38 = .ok (.istore_n 2, 1) := by decide +kernel
theorem dX4_tides_39 : decode cX4_tides 39 = .ok (.iload_n 2, 1) := by decide +kernel
theorem dX4_tides_40 : decode cX4_tides 40 = .ok (.iload_n 1, 1) := by decide +kernel
theorem dX4_tides_41 : decode cX4_tides 41 = .ok (.if_icmp .ge 61, 3) := by decide +kernel
theorem dX4_tides_44 : decode cX4_tides 44 = .ok (.aload_n 0, 1) := by decide +kernel
theorem dX4_tides_45 : decode cX4_tides 45 = .ok (.getfield 9, 3) := by decide +kernel
theorem dX4_tides_48 : decode cX4_tides 48 = .ok (.iconst 3, 1) := by decide +kernel
theorem dX4_tides_49 : decode cX4_tides 49 = .ok (.aload_n 0, 1) := by decide +kernel
theorem dX4_tides_50 : decode cX4_tides 50 = .ok (.invokevirtual 208, 3) := by decide +kernel
theorem dX4_tides_53 : decode cX4_tides 53 = .ok (.bipush 25, 2) := by decide +kernel
theorem dX4_tides_55 : decode cX4_tides 55 = .ok (.irem, 1) := by decide +kernel
theorem dX4_tides_56 : decode cX4_tides 56 = .ok (.iastore, 1) := by decide +kernel
theorem dX4_tides_57 : decode cX4_tides 57 = .ok (.aload_n 0, 1) := by decide +kernel
theorem dX4_tides_58 : decode cX4_tides 58 = .ok (.invokevirtual 208, 3) := by decide +kernel
theorem dX4_tides_61 : decode cX4_tides 61 = .ok (.bipush 8, 2) := by decide +kernel
theorem dX4_tides_63 : decode cX4_tides 63 = .ok (.irem, 1) := by decide +kernel
theorem dX4_tides_64 : decode cX4_tides 64 = .ok (.istore_n 3, 1) := by decide +kernel
theorem dX4_tides_65 : decode cX4_tides 65 = .ok (.aload_n 0, 1) := by decide +kernel
theorem dX4_tides_66 : decode cX4_tides 66 = .ok (.iload_n 3, 1) := by decide +kernel
theorem dX4_tides_67 : decode cX4_tides 67 = .ok (.invokevirtual 82, 3) := by decide +kernel
theorem dX4_tides_70 : decode cX4_tides 70 = .ok (.ifCond .eq 22, 3) := by decide +kernel
theorem dX4_tides_73 : decode cX4_tides 73 = .ok (.aload_n 0, 1) := by decide +kernel
theorem dX4_tides_74 : decode cX4_tides 74 = .ok (.iload_n 3, 1) := by decide +kernel
theorem dX4_tides_75 : decode cX4_tides 75 = .ok (.iconst 3, 1) := by decide +kernel
theorem dX4_tides_76 : decode cX4_tides 76 = .ok (.bipush 6, 2) := by decide +kernel
theorem dX4_tides_78 : decode cX4_tides 78 = .ok (.aload_n 0, 1) := by decide +kernel
theorem dX4_tides_79 : decode cX4_tides 79 = .ok (.iload_n 3, 1) := by decide +kernel
theorem dX4_tides_80 : decode cX4_tides 80 = .ok (.iconst 3, 1) := by decide +kernel
theorem dX4_tides_81 : decode cX4_tides 81 = .ok (.invokevirtual 54, 3) := by decide +kernel
theorem dX4_tides_84 : decode cX4_tides 84 = .ok (.iconst 1, 1) := by decide +kernel
theorem dX4_tides_85 : decode cX4_tides 85 = .ok (.iadd, 1) := by decide +kernel
theorem dX4_tides_86 : decode cX4_tides 86 = .ok (.invokestatic 63, 3) := by decide +kernel
theorem dX4_tides_89 : decode cX4_tides 89 = .ok (.invokevirtual 66, 3) := by decide +kernel
theorem dX4_tides_92 : decode cX4_tides 92 = .ok (.aload_n 0, 1) := by decide +kernel
theorem dX4_tides_93 : decode cX4_tides 93 = .ok (.invokevirtual 133, 3) := by decide +kernel
theorem dX4_tides_96 : decode cX4_tides 96 = .ok (.iinc 2 1, 3) := by decide +kernel
theorem dX4_tides_99 : decode cX4_tides 99 = .ok (.goto (-60), 3) := by decide +kernel
theorem dX4_tides_102 : decode cX4_tides 102 = .ok (.aload_n 0, 1) := by decide +kernel
theorem dX4_tides_103 : decode cX4_tides 103 = .ok (.invokevirtual 141, 3) := by decide +kernel
theorem dX4_tides_106 : decode cX4_tides 106 = .ok (.invokestatic 144, 3) := by decide +kernel
theorem dX4_tides_109 : decode cX4_tides 109 = .ok (.ireturn, 1) := by decide +kernel
theorem dX4_odds_0 : decode cX4_odds 0 = .ok (.iload_n 1, 1) := by decide +kernel
theorem dX4_odds_1 : decode cX4_odds 1 = .ok (.invokestatic 70, 3) := by decide +kernel
theorem dX4_odds_4 : decode cX4_odds 4 = .ok (.ifCond .eq 25, 3) := by decide +kernel
theorem dX4_odds_7 : decode cX4_odds 7 = .ok (.iload_n 2, 1) := by decide +kernel
theorem dX4_odds_8 : decode cX4_odds 8 = .ok (.i2l, 1) := by decide +kernel
theorem dX4_odds_9 : decode cX4_odds 9 = .ok (.lconst 0, 1) := by decide +kernel
theorem dX4_odds_10 : decode cX4_odds 10 = .ok (.ldc2_w 211, 3) := by decide +kernel
theorem dX4_odds_13 : decode cX4_odds 13 = .ok (.invokestatic 42, 3) := by decide +kernel
theorem dX4_odds_16 : decode cX4_odds 16 = .ok (.ifCond .eq 13, 3) := by decide +kernel
theorem dX4_odds_19 : decode cX4_odds 19 = .ok (.iload_n 3, 1) := by decide +kernel
theorem dX4_odds_20 : decode cX4_odds 20 = .ok (.i2l, 1) := by decide +kernel
theorem dX4_odds_21 : decode cX4_odds 21 = .ok (.lconst 0, 1) := by decide +kernel
theorem dX4_odds_22 : decode cX4_odds 22 = .ok (.lconst 1, 1) := by decide +kernel
theorem dX4_odds_23 : decode cX4_odds 23 = .ok (.invokestatic 42, 3) := by decide +kernel
theorem dX4_odds_26 : decode cX4_odds 26 = .ok (.ifCond .ne 10, 3) := by decide +kernel
theorem dX4_odds_29 : decode cX4_odds 29 = .ok (.aload_n 0, 1) := by decide +kernel
theorem dX4_odds_30 : decode cX4_odds 30 = .ok (.iconst 0, 1) := by decide +kernel
theorem dX4_odds_31 : decode cX4_odds 31 = .ok (.invokevirtual 76, 3) := by decide +kernel
theorem dX4_odds_34 : decode cX4_odds 34 = .ok (.i2l, 1) := by decide +kernel
theorem dX4_odds_35 : decode cX4_odds 35 = .ok (.lreturn, 1) := by decide +kernel
theorem dX4_odds_36 : decode cX4_odds 36 = .ok (.lconst 1, 1) := by decide +kernel
theorem dX4_odds_37 : decode cX4_odds 37 = .ok (.lstore 4, 2) := by decide +kernel
theorem dX4_odds_39 : decode cX4_odds 39 = .ok (.lconst 1, 1) := by decide +kernel
theorem dX4_odds_40 : decode cX4_odds 40 = .ok (.lstore 6, 2) := by decide +kernel
theorem dX4_odds_42 : decode cX4_odds 42 = .ok (.iconst 0, 1) := by decide +kernel
theorem dX4_odds_43 : decode cX4_odds 43 = .ok (.istore 8, 2) := by decide +kernel
theorem dX4_odds_45 : decode cX4_odds 45 = .ok (.iload 8, 2) := by decide +kernel
theorem dX4_odds_47 : decode cX4_odds 47 = .ok (.iload_n 2, 1) := by decide +kernel
theorem dX4_odds_48 : decode cX4_odds 48 = .ok (.if_icmp .ge 26, 3) := by decide +kernel
theorem dX4_odds_51 : decode cX4_odds 51 = .ok (.lload 4, 2) := by decide +kernel
theorem dX4_odds_53 : decode cX4_odds 53 = .ok (.iload_n 1, 1) := by decide +kernel
theorem dX4_odds_54 : decode cX4_odds 54 = .ok (.iconst 1, 1) := by decide +kernel
theorem dX4_odds_55 : decode cX4_odds 55 = .ok (.iadd, 1) := by decide +kernel
theorem dX4_odds_56 : decode cX4_odds 56 = .ok (.i2l, 1) := by decide +kernel
theorem dX4_odds_57 : decode cX4_odds 57 = .ok (.lmul, 1) := by decide +kernel
theorem dX4_odds_58 : decode cX4_odds 58 = .ok (.lstore 4, 2) := by decide +kernel
theorem dX4_odds_60 : decode cX4_odds 60 = .ok (.lload 6, 2) := by decide +kernel
theorem dX4_odds_62 : decode cX4_odds 62 = .ok (.ldc2_w 213, 3) := by decide +kernel
theorem dX4_odds_65 : decode cX4_odds 65 = .ok (.lmul, 1) := by decide +kernel
theorem dX4_odds_66 : decode cX4_odds 66 = .ok (.lstore 6, 2) := by decide +kernel
theorem dX4_odds_68 : decode cX4_odds 68 = .ok (.iinc 8 1, 3) := by decide +kernel
theorem dX4_odds_71 : decode cX4_odds 71 = .ok (.goto (-26), 3) := by decide +kernel
theorem dX4_odds_74 : decode cX4_odds 74 = .ok (.lload 4, 2) := by decide +kernel
theorem dX4_odds_76 : decode cX4_odds 76 = .ok (.lstore 8, 2) := by decide +kernel
theorem dX4_odds_78 : decode cX4_odds 78 = .ok (.lload 6, 2) := by decide +kernel
theorem dX4_odds_80 : decode cX4_odds 80 = .ok (.lstore 10, 2) := by decide +kernel
theorem dX4_odds_82 : decode cX4_odds 82 = .ok (.lload 10, 2) := by decide +kernel
theorem dX4_odds_84 : decode cX4_odds 84 = .ok (.lconst 0, 1) := by decide +kernel
theorem dX4_odds_85 : decode cX4_odds 85 = .ok (.lcmp, 1) := by decide +kernel
theorem dX4_odds_86 : decode cX4_odds 86 = .ok (.ifCond .eq 21, 3) := by decide +kernel
theorem dX4_odds_89 : decode cX4_odds 89 = .ok (.lload 8, 2) := by decide +kernel
theorem dX4_odds_91 : decode cX4_odds 91 = .ok (.lload 10, 2) := by decide +kernel
theorem dX4_odds_93 : decode cX4_odds 93 = .ok (.lrem, 1) := by decide +kernel
theorem dX4_odds_94 : decode cX4_odds 94 = .ok (.lstore 12, 2) := by decide +kernel
theorem dX4_odds_96 : decode cX4_odds 96 = .ok (.lload 10, 2) := by decide +kernel
theorem dX4_odds_98 : decode cX4_odds 98 = .ok (.lstore 8, 2) := by decide +kernel
theorem dX4_odds_100 : decode cX4_odds 100 = .ok (.lload 12, 2) := by decide +kernel
theorem dX4_odds_102 : decode cX4_odds 102 = .ok (.lstore 10, 2) := by decide +kernel
theorem dX4_odds_104 : decode cX4_odds 104 = .ok (.goto (-22), 3) := by decide +kernel
theorem dX4_odds_107 : decode cX4_odds 107 = .ok (.iload_n 3, 1) := by decide +kernel
theorem dX4_odds_108 : decode cX4_odds 108 = .ok (.ifCond .ne 8, 3) := by decide +kernel
theorem dX4_odds_111 : decode cX4_odds 111 = .ok (.lload 4, 2) := by decide +kernel
theorem dX4_odds_113 : decode cX4_odds 113 = .ok (.goto 5, 3) := by decide +kernel
theorem dX4_odds_116 : decode cX4_odds 116 = .ok (.lload 6, 2) := by decide +kernel
theorem dX4_odds_118 : decode cX4_odds 118 = .ok (.lload 8, 2) := by decide +kernel
theorem dX4_odds_120 : decode cX4_odds 120 = .ok (.ldiv, 1) := by decide +kernel
theorem dX4_odds_121 : decode cX4_odds 121 = .ok (.lreturn, 1) := by decide +kernel
theorem dX4_seed_0 : decode cX4_seed 0 = .ok (.aload_n 0, 1) := by decide +kernel
theorem dX4_seed_1 : decode cX4_seed 1 = .ok (.iconst 1, 1) := by decide +kernel
theorem dX4_seed_2 : decode cX4_seed 2 = .ok (.iload_n 1, 1) := by decide +kernel
theorem dX4_seed_3 : decode cX4_seed 3 = .ok (.invokevirtual 93, 3) := by decide +kernel
theorem dX4_seed_6 : decode cX4_seed 6 = .ok (.ireturn, 1) := by decide +kernel
theorem dX4_feed_0 : decode cX4_feed 0 = .ok (.iload_n 2, 1) := by decide +kernel
theorem dX4_feed_1 : decode cX4_feed 1 = .ok (.i2l, 1) := by decide +kernel
theorem dX4_feed_2 : decode cX4_feed 2 = .ok (.lconst 1, 1) := by decide +kernel
theorem dX4_feed_3 : decode cX4_feed 3 = .ok (.ldc2_w 215, 3) := by decide +kernel
theorem dX4_feed_6 : decode cX4_feed 6 = .ok (.invokestatic 42, 3) := by decide +kernel
theorem dX4_feed_9 : decode cX4_feed 9 = .ok (.ifCond .ne 9, 3) := by decide +kernel
theorem dX4_feed_12 : decode cX4_feed 12 = .ok (.aload_n 0, 1) := by decide +kernel
theorem dX4_feed_13 : decode cX4_feed 13 = .ok (.iconst 0, 1) := by decide +kernel
theorem dX4_feed_14 : decode cX4_feed 14 = .ok (.invokevirtual 76, 3) := by decide +kernel
theorem dX4_feed_17 : decode cX4_feed 17 = .ok (.ireturn, 1) := by decide +kernel
theorem dX4_feed_18 : decode cX4_feed 18 = .ok (.aload_n 0, 1) := by decide +kernel
theorem dX4_feed_19 : decode cX4_feed 19 = .ok (.getfield 217, 3) := by decide +kernel
theorem dX4_feed_22 : decode cX4_feed 22 = .ok (.iload_n 2, 1) := by decide +kernel
theorem dX4_feed_23 : decode cX4_feed 23 = .ok (.iadd, 1) := by decide +kernel
theorem dX4_feed_24 : decode cX4_feed 24 = .ok (.bipush 120, 2) := by decide +kernel
theorem dX4_feed_26 : decode cX4_feed 26 = .ok (.if_icmp .le 9, 3) := by decide +kernel
theorem dX4_feed_29 : decode cX4_feed 29 = .ok (.aload_n 0, 1) := by decide +kernel
theorem dX4_feed_30 : decode cX4_feed 30 = .ok (.iconst 1, 1) := by decide +kernel
theorem dX4_feed_31 : decode cX4_feed 31 = .ok (.invokevirtual 76, 3) := by decide +kernel
theorem dX4_feed_34 : decode cX4_feed 34 = .ok (.ireturn, 1) := by decide +kernel
theorem dX4_feed_35 : decode cX4_feed 35 = .ok (.iload_n 2, 1) := by decide +kernel
theorem dX4_feed_36 : decode cX4_feed 36 = .ok (.iconst 1, 1) := by decide +kernel
theorem dX4_feed_37 : decode cX4_feed 37 = .ok (.isub, 1) := by decide +kernel
theorem dX4_feed_38 : decode cX4_feed 38 = .ok (.istore_n 3, 1) := by decide +kernel
theorem dX4_feed_39 : decode cX4_feed 39 = .ok (.iload_n 3, 1) := by decide +kernel
theorem dX4_feed_40 : decode cX4_feed 40 = .ok (.ifCond .lt 38, 3) := by decide +kernel
theorem dX4_feed_43 : decode cX4_feed 43 = .ok (.aload_n 0, 1) := by decide +kernel
theorem dX4_feed_44 : decode cX4_feed 44 = .ok (.getfield 22, 3) := by decide +kernel
theorem dX4_feed_47 : decode cX4_feed 47 = .ok (.aload_n 0, 1) := by decide +kernel
theorem dX4_feed_48 : decode cX4_feed 48 = .ok (.getfield 217, 3) := by decide +kernel
theorem dX4_feed_51 : decode cX4_feed 51 = .ok (.iload_n 1, 1) := by decide +kernel
theorem dX4_feed_52 : decode cX4_feed 52 = .ok (.bipush 8, 2) := by decide +kernel
theorem dX4_feed_54 : decode cX4_feed 54 = .ok (.iload_n 3, 1) := by decide +kernel
theorem dX4_feed_55 : decode cX4_feed 55 = .ok (.imul, 1) := by decide +kernel
theorem dX4_feed_56 : decode cX4_feed 56 = .ok (.ishr, 1) := by decide +kernel
theorem dX4_feed_57 : decode cX4_feed 57 = .ok (.sipush 255, 3) := by decide +kernel
theorem dX4_feed_60 : decode cX4_feed 60 = .ok (.iand, 1) := by decide +kernel
theorem dX4_feed_61 : decode cX4_feed 61 = .ok (.iastore, 1) := by decide +kernel
theorem dX4_feed_62 : decode cX4_feed 62 = .ok (.aload_n 0, 1) := by decide +kernel
theorem dX4_feed_63 : decode cX4_feed 63 = .ok (.dup, 1) := by decide +kernel
theorem dX4_feed_64 : decode cX4_feed 64 = .ok (.getfield 217, 3) := by decide +kernel
theorem dX4_feed_67 : decode cX4_feed 67 = .ok (.iconst 1, 1) := by decide +kernel
theorem dX4_feed_68 : decode cX4_feed 68 = .ok (.iadd, 1) := by decide +kernel
theorem dX4_feed_69 : decode cX4_feed 69 = .ok (.putfield 217, 3) := by decide +kernel
theorem dX4_feed_72 : decode cX4_feed 72 = .ok (.iinc 3 (-1), 3) := by decide +kernel
theorem dX4_feed_75 : decode cX4_feed 75 = .ok (.goto (-36), 3) := by decide +kernel
theorem dX4_feed_78 : decode cX4_feed 78 = .ok (.aload_n 0, 1) := by decide +kernel
theorem dX4_feed_79 : decode cX4_feed 79 = .ok (.getfield 217, 3) := by decide +kernel
theorem dX4_feed_82 : decode cX4_feed 82 = .ok (.ireturn, 1) := by decide +kernel
theorem dX4_wipe_0 : decode cX4_wipe 0 = .ok (.aload_n 0, 1) := by decide +kernel
theorem dX4_wipe_1 : decode cX4_wipe 1 = .ok (.getfield 217, 3) := by decide +kernel
theorem dX4_wipe_4 : decode cX4_wipe 4 = .ok (.istore_n 1, 1) := by decide +kernel
theorem dX4_wipe_5 : decode cX4_wipe 5 = .ok (.aload_n 0, 1) := by decide +kernel
theorem dX4_wipe_6 : decode cX4_wipe 6 = .ok (.iconst 0, 1) := by decide +kernel
theorem dX4_wipe_7 : decode cX4_wipe 7 = .ok (.putfield 217, 3) := by decide +kernel
theorem dX4_wipe_10 : decode cX4_wipe 10 = .ok (.iload_n 1, 1) := by decide +kernel
theorem dX4_wipe_11 : decode cX4_wipe 11 = .ok (.ireturn, 1) := by decide +kernel
theorem dX4_isByte_0 : decode cX4_isByte 0 = .ok (.iload_n 1, 1) := by decide +kernel
theorem dX4_isByte_1 : decode cX4_isByte 1 = .ok (.aload_n 0, 1) := by decide +kernel
theorem dX4_isByte_2 : decode cX4_isByte 2 = .ok (.getfield 217, 3) := by decide +kernel
theorem dX4_isByte_5 : decode cX4_isByte 5 = .ok (.if_icmp .ge 24, 3) := by decide +kernel
theorem dX4_isByte_8 : decode cX4_isByte 8 = .ok (.aload_n 0, 1) := by decide +kernel
theorem dX4_isByte_9 : decode cX4_isByte 9 = .ok (.getfield 22, 3) := by decide +kernel
theorem dX4_isByte_12 : decode cX4_isByte 12 = .ok (.iload_n 1, 1) := by decide +kernel
theorem dX4_isByte_13 : decode cX4_isByte 13 = .ok (.iaload, 1) := by decide +kernel
theorem dX4_isByte_14 : decode cX4_isByte 14 = .ok (.i2l, 1) := by decide +kernel
theorem dX4_isByte_15 : decode cX4_isByte 15 = .ok (.iload_n 2, 1) := by decide +kernel
theorem dX4_isByte_16 : decode cX4_isByte 16 = .ok (.i2l, 1) := by decide +kernel
theorem dX4_isByte_17 : decode cX4_isByte 17 = .ok (.iload_n 3, 1) := by decide +kernel
theorem dX4_isByte_18 : decode cX4_isByte 18 = .ok (.i2l, 1) := by decide +kernel
theorem dX4_isByte_19 : decode cX4_isByte 19 = .ok (.invokestatic 42, 3) := by decide +kernel
theorem dX4_isByte_22 : decode cX4_isByte 22 = .ok (.ifCond .eq 7, 3) := by decide +kernel
theorem dX4_isByte_25 : decode cX4_isByte 25 = .ok (.iconst 1, 1) := by decide +kernel
theorem dX4_isByte_26 : decode cX4_isByte 26 = .ok (.goto 4, 3) := by decide +kernel
theorem dX4_isByte_29 : decode cX4_isByte 29 = .ok (.iconst 0, 1) := by decide +kernel
theorem dX4_isByte_30 : decode cX4_isByte 30 = .ok (.ireturn, 1) := by decide +kernel
theorem dX4_next_0 : decode cX4_next 0 = .ok (.aload_n 0, 1) := by decide +kernel
theorem dX4_next_1 : decode cX4_next 1 = .ok (.aload_n 0, 1) := by decide +kernel
theorem dX4_next_2 : decode cX4_next 2 = .ok (.getfield 220, 3) := by decide +kernel
theorem dX4_next_5 : decode cX4_next 5 = .ok (.putfield 223, 3) := by decide +kernel
theorem dX4_next_8 : decode cX4_next 8 = .ok (.aload_n 0, 1) := by decide +kernel
theorem dX4_next_9 : decode cX4_next 9 = .ok (.aload_n 0, 1) := by decide +kernel
theorem dX4_next_10 : decode cX4_next 10 = .ok (.getfield 223, 3) := by decide +kernel
theorem dX4_next_13 : decode cX4_next 13 = .ok (.bipush 32, 2) := by decide +kernel
theorem dX4_next_15 : decode cX4_next 15 = .ok (.bipush 32, 2) := by decide +kernel
theorem dX4_next_17 : decode cX4_next 17 = .ok (.invokevirtual 226, 3) := by decide +kernel
theorem dX4_next_20 : decode cX4_next 20 = .ok (.ifCond .eq 16, 3) := by decide +kernel
theorem dX4_next_23 : decode cX4_next 23 = .ok (.aload_n 0, 1) := by decide +kernel
theorem dX4_next_24 : decode cX4_next 24 = .ok (.dup, 1) := by decide +kernel
theorem dX4_next_25 : decode cX4_next 25 = .ok (.getfield 223, 3) := by decide +kernel
theorem dX4_next_28 : decode cX4_next 28 = .ok (.iconst 1, 1) := by decide +kernel
theorem dX4_next_29 : decode cX4_next 29 = .ok (.iadd, 1) := by decide +kernel
theorem dX4_next_30 : decode cX4_next 30 = .ok (.putfield 223, 3) := by decide +kernel
theorem dX4_next_33 : decode cX4_next 33 = .ok (.goto (-25), 3) := by decide +kernel
theorem dX4_next_36 : decode cX4_next 36 = .ok (.aload_n 0, 1) := by decide +kernel
theorem dX4_next_37 : decode cX4_next 37 = .ok (.aload_n 0, 1) := by decide +kernel
theorem dX4_next_38 : decode cX4_next 38 = .ok (.getfield 223, 3) := by decide +kernel
theorem dX4_next_41 : decode cX4_next 41 = .ok (.putfield 220, 3) := by decide +kernel
theorem dX4_next_44 : decode cX4_next 44 = .ok (.aload_n 0, 1) := by decide +kernel
theorem dX4_next_45 : decode cX4_next 45 = .ok (.aload_n 0, 1) := by decide +kernel
theorem dX4_next_46 : decode cX4_next 46 = .ok (.getfield 223, 3) := by decide +kernel
theorem dX4_next_49 : decode cX4_next 49 = .ok (.bipush 97, 2) := by decide +kernel
theorem dX4_next_51 : decode cX4_next 51 = .ok (.bipush 122, 2) := by decide +kernel
theorem dX4_next_53 : decode cX4_next 53 = .ok (.invokevirtual 226, 3) := by decide +kernel
theorem dX4_next_56 : decode cX4_next 56 = .ok (.istore_n 1, 1) := by decide +kernel
theorem dX4_next_57 : decode cX4_next 57 = .ok (.aload_n 0, 1) := by decide +kernel
theorem dX4_next_58 : decode cX4_next 58 = .ok (.aload_n 0, 1) := by decide +kernel
theorem dX4_next_59 : decode cX4_next 59 = .ok (.getfield 223, 3) := by decide +kernel
theorem dX4_next_62 : decode cX4_next 62 = .ok (.bipush 48, 2) := by decide +kernel
theorem dX4_next_64 : decode cX4_next 64 = .ok (.bipush 57, 2) := by decide +kernel
theorem dX4_next_66 : decode cX4_next 66 = .ok (.invokevirtual 226, 3) := by decide +kernel
theorem dX4_next_69 : decode cX4_next 69 = .ok (.istore_n 2, 1) := by decide +kernel
theorem dX4_next_70 : decode cX4_next 70 = .ok (.iload_n 1, 1) := by decide +kernel
theorem dX4_next_71 : decode cX4_next 71 = .ok (.ifCond .eq 18, 3) := by decide +kernel
theorem dX4_next_74 : decode cX4_next 74 = .ok (.aload_n 0, 1) := by decide +kernel
theorem dX4_next_75 : decode cX4_next 75 = .ok (.aload_n 0, 1) := by decide +kernel
theorem dX4_next_76 : decode cX4_next 76 = .ok (.getfield 220, 3) := by decide +kernel
theorem dX4_next_79 : decode cX4_next 79 = .ok (.bipush 97, 2) := by decide +kernel
theorem dX4_next_81 : decode cX4_next 81 = .ok (.bipush 122, 2) := by decide +kernel
theorem dX4_next_83 : decode cX4_next 83 = .ok (.invokevirtual 226, 3) := by decide +kernel
theorem dX4_next_86 : decode cX4_next 86 = .ok (.ifCond .ne 22, 3) := by decide +kernel
theorem dX4_next_89 : decode cX4_next 89 = .ok (.iload_n 2, 1) := by decide +kernel
theorem dX4_next_90 : decode cX4_next 90 = .ok (.ifCond .eq 31, 3) := by decide +kernel
theorem dX4_next_93 : decode cX4_next 93 = .ok (.aload_n 0, 1) := by decide +kernel
theorem dX4_next_94 : decode cX4_next 94 = .ok (.aload_n 0, 1) := by decide +kernel
theorem dX4_next_95 : decode cX4_next 95 = .ok (.getfield 220, 3) := by decide +kernel
theorem dX4_next_98 : decode cX4_next 98 = .ok (.bipush 48, 2) := by decide +kernel
theorem dX4_next_100 : decode cX4_next 100 = .ok (.bipush 57, 2) := by decide +kernel
theorem dX4_next_102 : decode cX4_next 102 = .ok (.invokevirtual 226, 3) := by decide +kernel
theorem dX4_next_105 : decode cX4_next 105 = .ok (.ifCond .eq 16, 3) := by decide +kernel
theorem dX4_next_108 : decode cX4_next 108 = .ok (.aload_n 0, 1) := by decide +kernel
theorem dX4_next_109 : decode cX4_next 109 = .ok (.dup, 1) := by decide +kernel
theorem dX4_next_110 : decode cX4_next 110 = .ok (.getfield 220, 3) := by decide +kernel
theorem dX4_next_113 : decode cX4_next 113 = .ok (.iconst 1, 1) := by decide +kernel
theorem dX4_next_114 : decode cX4_next 114 = .ok (.iadd, 1) := by decide +kernel
theorem dX4_next_115 : decode cX4_next 115 = .ok (.putfield 220, 3) := by decide +kernel
theorem dX4_next_118 : decode cX4_next 118 = .ok (.goto (-48), 3) := by decide +kernel
theorem dX4_next_121 : decode cX4_next 121 = .ok (.aload_n 0, 1) := by decide +kernel
theorem dX4_next_122 : decode cX4_next 122 = .ok (.dup, 1) := by decide +kernel
theorem dX4_next_123 : decode cX4_next 123 = .ok (.getfield 220, 3) := by decide +kernel
theorem dX4_next_126 : decode cX4_next 126 = .ok (.iload_n 1, 1) := by decide +kernel
theorem dX4_next_127 : decode cX4_next 127 = .ok (.ifCond .ne 22, 3) := by decide +kernel
theorem dX4_next_130 : decode cX4_next 130 = .ok (.iload_n 2, 1) := by decide +kernel
theorem dX4_next_131 : decode cX4_next 131 = .ok (.ifCond .ne 18, 3) := by decide +kernel
theorem dX4_next_134 : decode cX4_next 134 = .ok (.aload_n 0, 1) := by decide +kernel
theorem dX4_next_135 : decode cX4_next 135 = .ok (.getfield 223, 3) := by decide +kernel
theorem dX4_next_138 : decode cX4_next 138 = .ok (.aload_n 0, 1) := by decide +kernel
theorem dX4_next_139 : decode cX4_next 139 = .ok (.getfield 217, 3) := by decide +kernel
theorem dX4_next_142 : decode cX4_next 142 = .ok (.if_icmp .ge 7, 3) := by decide +kernel
theorem dX4_next_145 : decode cX4_next 145 = .ok (.iconst 1, 1) := by decide +kernel
theorem dX4_next_146 : decode cX4_next 146 = .ok (.goto 4, 3) := by decide +kernel
theorem dX4_next_149 : decode cX4_next 149 = .ok (.iconst 0, 1) := by decide +kernel
theorem dX4_next_150 : decode cX4_next 150 = .ok (.iadd, 1) := by decide +kernel
theorem dX4_next_151 : decode cX4_next 151 = .ok (.putfield 220, 3) := by decide +kernel
theorem dX4_next_154 : decode cX4_next 154 = .ok (.return_, 1) := by decide +kernel
theorem dX4_isWord_0 : decode cX4_isWord 0 = .ok (.aload_n 0, 1) := by decide +kernel
theorem dX4_isWord_1 : decode cX4_isWord 1 = .ok (.getfield 229, 3) := by decide +kernel
theorem dX4_isWord_4 : decode cX4_isWord 4 = .ok (.ifCond .ne 23, 3) := by decide +kernel
theorem dX4_isWord_7 : decode cX4_isWord 7 = .ok (.aload_n 0, 1) := by decide +kernel
theorem dX4_isWord_8 : decode cX4_isWord 8 = .ok (.getfield 220, 3) := by decide +kernel
theorem dX4_isWord_11 : decode cX4_isWord 11 = .ok (.aload_n 0, 1) := by decide +kernel
theorem dX4_isWord_12 : decode cX4_isWord 12 = .ok (.getfield 223, 3) := by decide +kernel
theorem dX4_isWord_15 : decode cX4_isWord 15 = .ok (.isub, 1) := by decide +kernel
theorem dX4_isWord_16 : decode cX4_isWord 16 = .ok (.aload_n 1, 1) := by decide +kernel
theorem dX4_isWord_17 : decode cX4_isWord 17 = .ok (.invokevirtual 233, 3) := by decide +kernel
theorem dX4_isWord_20 : decode cX4_isWord 20 = .ok (.if_icmp .ne 7, 3) := by decide +kernel
theorem dX4_isWord_23 : decode cX4_isWord 23 = .ok (.iconst 1, 1) := by decide +kernel
theorem dX4_isWord_24 : decode cX4_isWord 24 = .ok (.goto 4, 3) := by decide +kernel
theorem dX4_isWord_27 : decode cX4_isWord 27 = .ok (.iconst 0, 1) := by decide +kernel
theorem dX4_isWord_28 : decode cX4_isWord 28 = .ok (.istore_n 2, 1) := by decide +kernel
theorem dX4_isWord_29 : decode cX4_isWord 29 = .ok (.iconst 0, 1) := by decide +kernel
theorem dX4_isWord_30 : decode cX4_isWord 30 = .ok (.istore_n 3, 1) := by decide +kernel
theorem dX4_isWord_31 : decode cX4_isWord 31 = .ok (.iload_n 2, 1) := by decide +kernel
theorem dX4_isWord_32 : decode cX4_isWord 32 = .ok (.ifCond .eq 42, 3) := by decide +kernel
theorem dX4_isWord_35 : decode cX4_isWord 35 = .ok (.iload_n 3, 1) := by decide +kernel
theorem dX4_isWord_36 : decode cX4_isWord 36 = .ok (.aload_n 1, 1) := by decide +kernel
theorem dX4_isWord_37 : decode cX4_isWord 37 = .ok (.invokevirtual 233, 3) := by decide +kernel
theorem dX4_isWord_40 : decode cX4_isWord 40 = .ok (.if_icmp .ge 34, 3) := by decide +kernel
theorem dX4_isWord_43 : decode cX4_isWord 43 = .ok (.aload_n 0, 1) := by decide +kernel
theorem dX4_isWord_44 : decode cX4_isWord 44 = .ok (.getfield 22, 3) := by decide +kernel
theorem dX4_isWord_47 : decode cX4_isWord 47 = .ok (.aload_n 0, 1) := by decide +kernel
theorem dX4_isWord_48 : decode cX4_isWord 48 = .ok (.getfield 223, 3) := by decide +kernel
theorem dX4_isWord_51 : decode cX4_isWord 51 = .ok (.iload_n 3, 1) := by decide +kernel
theorem dX4_isWord_52 : decode cX4_isWord 52 = .ok (.iadd, 1) := by decide +kernel
theorem dX4_isWord_53 : decode cX4_isWord 53 = .ok (.iaload, 1) := by decide +kernel
theorem dX4_isWord_54 : decode cX4_isWord 54 = .ok (.aload_n 1, 1) := by decide +kernel
theorem dX4_isWord_55 : decode cX4_isWord 55 = .ok (.iload_n 3, 1) := by decide +kernel
theorem dX4_isWord_56 : decode cX4_isWord 56 = .ok (.invokevirtual 238, 3) := by decide +kernel
theorem dX4_isWord_59 : decode cX4_isWord 59 = .ok (.if_icmp .ne 7, 3) := by decide +kernel
theorem dX4_isWord_62 : decode cX4_isWord 62 = .ok (.iconst 1, 1) := by decide +kernel
theorem dX4_isWord_63 : decode cX4_isWord 63 = .ok (.goto 4, 3) := by decide +kernel
theorem dX4_isWord_66 : decode cX4_isWord 66 = .ok (.iconst 0, 1) := by decide +kernel
theorem dX4_isWord_67 : decode cX4_isWord 67 = .ok (.istore_n 2, 1) := by decide +kernel
theorem dX4_isWord_68 : decode cX4_isWord 68 = .ok (.iinc 3 1, 3) := by decide +kernel
theorem dX4_isWord_71 : decode cX4_isWord 71 = .ok (.goto (-40), 3) := by decide +kernel
theorem dX4_isWord_74 : decode cX4_isWord 74 = .ok (.iload_n 2, 1) := by decide +kernel
theorem dX4_isWord_75 : decode cX4_isWord 75 = .ok (.ireturn, 1) := by decide +kernel
theorem dX4_must_0 : decode cX4_must 0 = .ok (.aload_n 0, 1) := by decide +kernel
theorem dX4_must_1 : decode cX4_must 1 = .ok (.aload_n 0, 1) := by decide +kernel
theorem dX4_must_2 : decode cX4_must 2 = .ok (.getfield 229, 3) := by decide +kernel
theorem dX4_must_5 : decode cX4_must 5 = .ok (.ifCond .ne 7, 3) := by decide +kernel
theorem dX4_must_8 : decode cX4_must 8 = .ok (.iload_n 1, 1) := by decide +kernel
theorem dX4_must_9 : decode cX4_must 9 = .ok (.ifCond .ne 7, 3) := by decide +kernel
theorem dX4_must_12 : decode cX4_must 12 = .ok (.iconst 1, 1) := by decide +kernel
theorem dX4_must_13 : decode cX4_must 13 = .ok (.goto 4, 3) := by decide +kernel
theorem dX4_must_16 : decode cX4_must 16 = .ok (.iconst 0, 1) := by decide +kernel
theorem dX4_must_17 : decode cX4_must 17 = .ok (.putfield 229, 3) := by decide +kernel
theorem dX4_must_20 : decode cX4_must 20 = .ok (.aload_n 0, 1) := by decide +kernel
theorem dX4_must_21 : decode cX4_must 21 = .ok (.getfield 229, 3) := by decide +kernel
theorem dX4_must_24 : decode cX4_must 24 = .ok (.ifCond .ne 7, 3) := by decide +kernel
theorem dX4_must_27 : decode cX4_must 27 = .ok (.aload_n 0, 1) := by decide +kernel
theorem dX4_must_28 : decode cX4_must 28 = .ok (.invokevirtual 242, 3) := by decide +kernel
theorem dX4_must_31 : decode cX4_must 31 = .ok (.return_, 1) := by decide +kernel
theorem dX4_takes_0 : decode cX4_takes 0 = .ok (.aload_n 0, 1) := by decide +kernel
theorem dX4_takes_1 : decode cX4_takes 1 = .ok (.aload_n 1, 1) := by decide +kernel
theorem dX4_takes_2 : decode cX4_takes 2 = .ok (.invokevirtual 245, 3) := by decide +kernel
theorem dX4_takes_5 : decode cX4_takes 5 = .ok (.istore_n 2, 1) := by decide +kernel
theorem dX4_takes_6 : decode cX4_takes 6 = .ok (.iload_n 2, 1) := by decide +kernel
theorem dX4_takes_7 : decode cX4_takes 7 = .ok (.ifCond .eq 7, 3) := by decide +kernel
theorem dX4_takes_10 : decode cX4_takes 10 = .ok (.aload_n 0, 1) := by decide +kernel
theorem dX4_takes_11 : decode cX4_takes 11 = .ok (.invokevirtual 242, 3) := by decide +kernel
theorem dX4_takes_14 : decode cX4_takes 14 = .ok (.iload_n 2, 1) := by decide +kernel
theorem dX4_takes_15 : decode cX4_takes 15 = .ok (.ireturn, 1) := by decide +kernel
theorem dX4_numberRead_0 : decode cX4_numberRead 0 = .ok (.aload_n 0, 1) := by decide +kernel
theorem dX4_numberRead_1 : decode cX4_numberRead 1 = .ok (.aload_n 0, 1) := by decide +kernel
theorem dX4_numberRead_2 : decode cX4_numberRead 2 = .ok (.getfield 223, 3) := by decide +kernel
theorem dX4_numberRead_5 : decode cX4_numberRead 5 = .ok (.bipush 48, 2) := by decide +kernel
theorem dX4_numberRead_7 : decode cX4_numberRead 7 = .ok (.bipush 57, 2) := by decide +kernel
theorem dX4_numberRead_9 : decode cX4_numberRead 9 = .ok (.invokevirtual 226, 3) := by decide +kernel
theorem dX4_numberRead_12 : decode cX4_numberRead 12 = .ok (.ifCond .eq 7, 3) := by decide +kernel
theorem dX4_numberRead_15 : decode cX4_numberRead 15 = .ok (.iconst 0, 1) := by decide +kernel
theorem dX4_numberRead_16 : decode cX4_numberRead 16 = .ok (.goto 4, 3) := by decide +kernel
theorem dX4_numberRead_19 : decode cX4_numberRead 19 = .ok (.iconst (-1), 1) := by decide +kernel
theorem dX4_numberRead_20 : decode cX4_numberRead 20 = .ok (.istore_n 3, 1) := by decide +kernel
theorem dX4_numberRead_21 : decode cX4_numberRead 21 = .ok (.aload_n 0, 1) := by decide +kernel
theorem dX4_numberRead_22 : decode cX4_numberRead 22 = .ok (.getfield 223, 3) := by decide +kernel
theorem dX4_numberRead_25 : decode cX4_numberRead 25 = .ok (.istore 4, 2) := by decide +kernel
theorem dX4_numberRead_27 : decode cX4_numberRead 27 = .ok (.iload 4, 2) := by decide +kernel
theorem dX4_numberRead_29 : decode cX4_numberRead 29 = .ok (.aload_n 0, 1) := by decide +kernel
theorem dX4_numberRead_30 : decode cX4_numberRead 30 = .ok (.getfield 220, 3) := by decide +kernel
theorem dX4_numberRead_33 : decode cX4_numberRead 33 = .ok (.if_icmp .ge 40, 3) := by decide +kernel
theorem dX4_numberRead_36 : decode cX4_numberRead 36 = .ok (.iload_n 3, 1) := by decide +kernel
theorem dX4_numberRead_37 : decode cX4_numberRead 37 = .ok (.ifCond .lt 36, 3) := by decide +kernel
theorem dX4_numberRead_40 : decode cX4_numberRead 40 = .ok (.iload_n 3, 1) := by decide +kernel
theorem dX4_numberRead_41 : decode cX4_numberRead 41 = .ok (.sipush 999, 3) := by decide +kernel
theorem dX4_numberRead_44 : decode cX4_numberRead 44 = .ok (.if_icmp .le 7, 3) := by decide +kernel
theorem dX4_numberRead_47 : decode cX4_numberRead 47 = .ok (.iload_n 3, 1) := by decide +kernel
theorem dX4_numberRead_48 : decode cX4_numberRead 48 = .ok (.goto 18, 3) := by decide +kernel
theorem dX4_numberRead_51 : decode cX4_numberRead 51 = .ok (.bipush 10, 2) := by decide +kernel
theorem dX4_numberRead_53 : decode cX4_numberRead 53 = .ok (.iload_n 3, 1) := by decide +kernel
theorem dX4_numberRead_54 : decode cX4_numberRead 54 = .ok (.imul, 1) := by decide +kernel
theorem dX4_numberRead_55 : decode cX4_numberRead 55 = .ok (.aload_n 0, 1) := by decide +kernel
theorem dX4_numberRead_56 : decode cX4_numberRead 56 = .ok (.getfield 22, 3) := by decide +kernel
theorem dX4_numberRead_59 : decode cX4_numberRead 59 = .ok (.iload 4, 2) := by decide +kernel
theorem dX4_numberRead_61 : decode cX4_numberRead 61 = .ok (.iaload, 1) := by decide +kernel
theorem dX4_numberRead_62 : decode cX4_numberRead 62 = .ok (.iadd, 1) := by decide +kernel
theorem dX4_numberRead_63 : decode cX4_numberRead 63 = .ok (.bipush 48, 2) := by decide +kernel
theorem dX4_numberRead_65 : decode cX4_numberRead 65 = .ok (.isub, 1) := by decide +kernel
theorem dX4_numberRead_66 : decode cX4_numberRead 66 = .ok (.istore_n 3, 1) := by decide +kernel
theorem dX4_numberRead_67 : decode cX4_numberRead 67 = .ok (.iinc 4 1, 3) := by decide +kernel
theorem dX4_numberRead_70 : decode cX4_numberRead 70 = .ok (.goto (-43), 3) := by decide +kernel
theorem dX4_numberRead_73 : decode cX4_numberRead 73 = .ok (.aload_n 0, 1) := by decide +kernel
theorem dX4_numberRead_74 : decode cX4_numberRead 74 = .ok (.iload_n 3, 1) := by decide +kernel
theorem dX4_numberRead_75 : decode cX4_numberRead 75 = .ok (.i2l, 1) := by decide +kernel
theorem dX4_numberRead_76 : decode cX4_numberRead 76 = .ok (.iload_n 1, 1) := by decide +kernel
theorem dX4_numberRead_77 : decode cX4_numberRead 77 = .ok (.i2l, 1) := by decide +kernel
theorem dX4_numberRead_78 : decode cX4_numberRead 78 = .ok (.iload_n 2, 1) := by decide +kernel
theorem dX4_numberRead_79 : decode cX4_numberRead 79 = .ok (.i2l, 1) := by decide +kernel
theorem dX4_numberRead_80 : decode cX4_numberRead 80 = .ok (.invokestatic 42, 3) := by decide +kernel
theorem dX4_numberRead_83 : decode cX4_numberRead 83 = .ok (.invokevirtual 249, 3) := by decide +kernel
theorem dX4_numberRead_86 : decode cX4_numberRead 86 = .ok (.iload_n 3, 1) := by decide +kernel
theorem dX4_numberRead_87 : decode cX4_numberRead 87 = .ok (.ireturn, 1) := by decide +kernel
theorem dX4_kindHere_0 : decode cX4_kindHere 0 = .ok (.aload_n 0, 1) := by decide +kernel
theorem dX4_kindHere_1 : decode cX4_kindHere 1 = .ok (.ldc 253, 2) := by decide +kernel
theorem dX4_kindHere_3 : decode cX4_kindHere 3 = .ok (.invokevirtual 245, 3) := by decide +kernel
theorem dX4_kindHere_6 : decode cX4_kindHere 6 = .ok (.ifCond .eq 7, 3) := by decide +kernel
theorem dX4_kindHere_9 : decode cX4_kindHere 9 = .ok (.iconst 0, 1) := by decide +kernel
theorem dX4_kindHere_10 : decode cX4_kindHere 10 = .ok (.goto 31, 3) := by decide +kernel
theorem dX4_kindHere_13 : decode cX4_kindHere 13 = .ok (.aload_n 0, 1) := by decide +kernel
theorem dX4_kindHere_14 : decode cX4_kindHere 14 = .ok (.ldc 255, 2) := by decide +kernel
theorem dX4_kindHere_16 : decode cX4_kindHere 16 = .ok (.invokevirtual 245, 3) := by decide +kernel
theorem dX4_kindHere_19 : decode cX4_kindHere 19 = .ok (.ifCond .eq 7, 3) := by decide +kernel
theorem dX4_kindHere_22 : decode cX4_kindHere 22 = .ok (.iconst 1, 1) := by decide +kernel
theorem dX4_kindHere_23 : decode cX4_kindHere 23 = .ok (.goto 18, 3) := by decide +kernel
theorem dX4_kindHere_26 : decode cX4_kindHere 26 = .ok (.aload_n 0, 1) := by decide +kernel
theorem dX4_kindHere_27 : decode cX4_kindHere 27 = .ok (.ldc_w 257, 3) := by decide +kernel
theorem dX4_kindHere_30 : decode cX4_kindHere 30 = .ok (.invokevirtual 245, 3) := by decide +kernel
theorem dX4_kindHere_33 : decode cX4_kindHere 33 = .ok (.ifCond .eq 7, 3) := by decide +kernel
theorem dX4_kindHere_36 : decode cX4_kindHere 36 = .ok (.iconst 2, 1) := by decide +kernel
theorem dX4_kindHere_37 : decode cX4_kindHere 37 = .ok (.goto 4, 3) := by decide +kernel
theorem dX4_kindHere_40 : decode cX4_kindHere 40 = .ok (.iconst (-1), 1) := by decide +kernel
theorem dX4_kindHere_41 : decode cX4_kindHere 41 = .ok (.istore_n 1, 1) := by decide +kernel
theorem dX4_kindHere_42 : decode cX4_kindHere 42 = .ok (.aload_n 0, 1) := by decide +kernel
theorem dX4_kindHere_43 : decode cX4_kindHere 43 = .ok (.ldc_w 259, 3) := by decide +kernel
theorem dX4_kindHere_46 : decode cX4_kindHere 46 = .ok (.invokevirtual 245, 3) := by decide +kernel
theorem dX4_kindHere_49 : decode cX4_kindHere 49 = .ok (.ifCond .eq 7, 3) := by decide +kernel
theorem dX4_kindHere_52 : decode cX4_kindHere 52 = .ok (.iconst 3, 1) := by decide +kernel
theorem dX4_kindHere_53 : decode cX4_kindHere 53 = .ok (.goto 32, 3) := by decide +kernel
theorem dX4_kindHere_56 : decode cX4_kindHere 56 = .ok (.aload_n 0, 1) := by decide +kernel
theorem dX4_kindHere_57 : decode cX4_kindHere 57 = .ok (.ldc_w 261, 3) := by decide +kernel
theorem dX4_kindHere_60 : decode cX4_kindHere 60 = .ok (.invokevirtual 245, 3) := by decide +kernel
theorem dX4_kindHere_63 : decode cX4_kindHere 63 = .ok (.ifCond .eq 7, 3) := by decide +kernel
theorem dX4_kindHere_66 : decode cX4_kindHere 66 = .ok (.iconst 4, 1) := by decide +kernel
theorem dX4_kindHere_67 : decode cX4_kindHere 67 = .ok (.goto 18, 3) := by decide +kernel
theorem dX4_kindHere_70 : decode cX4_kindHere 70 = .ok (.aload_n 0, 1) := by decide +kernel
theorem dX4_kindHere_71 : decode cX4_kindHere 71 = .ok (.ldc_w 263, 3) := by decide +kernel
theorem dX4_kindHere_74 : decode cX4_kindHere 74 = .ok (.invokevirtual 245, 3) := by decide +kernel
theorem dX4_kindHere_77 : decode cX4_kindHere 77 = .ok (.ifCond .eq 7, 3) := by decide +kernel
theorem dX4_kindHere_80 : decode cX4_kindHere 80 = .ok (.iconst 5, 1) := by decide +kernel
theorem dX4_kindHere_81 : decode cX4_kindHere 81 = .ok (.goto 4, 3) := by decide +kernel
theorem dX4_kindHere_84 : decode cX4_kindHere 84 = .ok (.iconst (-1), 1) := by decide +kernel
theorem dX4_kindHere_85 : decode cX4_kindHere 85 = .ok (.istore_n 2, 1) := by decide +kernel
theorem dX4_kindHere_86 : decode cX4_kindHere 86 = .ok (.iload_n 1, 1) := by decide +kernel
theorem dX4_kindHere_87 : decode cX4_kindHere 87 = .ok (.ifCond .lt 7, 3) := by decide +kernel
theorem dX4_kindHere_90 : decode cX4_kindHere 90 = .ok (.iload_n 1, 1) := by decide +kernel
theorem dX4_kindHere_91 : decode cX4_kindHere 91 = .ok (.goto 27, 3) := by decide +kernel
theorem dX4_kindHere_94 : decode cX4_kindHere 94 = .ok (.iload_n 2, 1) := by decide +kernel
theorem dX4_kindHere_95 : decode cX4_kindHere 95 = .ok (.ifCond .lt 7, 3) := by decide +kernel
theorem dX4_kindHere_98 : decode cX4_kindHere 98 = .ok (.iload_n 2, 1) := by decide +kernel
theorem dX4_kindHere_99 : decode cX4_kindHere 99 = .ok (.goto 19, 3) := by decide +kernel
theorem dX4_kindHere_102 : decode cX4_kindHere 102 = .ok (.aload_n 0, 1) := by decide +kernel
theorem dX4_kindHere_103 : decode cX4_kindHere 103 = .ok (.ldc_w 265, 3) := by decide +kernel
theorem dX4_kindHere_106 : decode cX4_kindHere 106 = .ok (.invokevirtual 245, 3) := by decide +kernel
theorem dX4_kindHere_109 : decode cX4_kindHere 109 = .ok (.ifCond .eq 8, 3) := by decide +kernel
theorem dX4_kindHere_112 : decode cX4_kindHere 112 = .ok (.bipush 6, 2) := by decide +kernel
theorem dX4_kindHere_114 : decode cX4_kindHere 114 = .ok (.goto 4, 3) := by decide +kernel
theorem dX4_kindHere_117 : decode cX4_kindHere 117 = .ok (.iconst (-1), 1) := by decide +kernel
theorem dX4_kindHere_118 : decode cX4_kindHere 118 = .ok (.ireturn, 1) := by decide +kernel
theorem dX4_walkerTold_0 : decode cX4_walkerTold 0 = .ok (.aload_n 0, 1) := by decide +kernel
theorem dX4_walkerTold_1 : decode cX4_walkerTold 1 = .ok (.aload_n 0, 1) := by decide +kernel
theorem dX4_walkerTold_2 : decode cX4_walkerTold 2 = .ok (.getfield 9, 3) := by decide +kernel
theorem dX4_walkerTold_5 : decode cX4_walkerTold 5 = .ok (.iconst 2, 1) := by decide +kernel
theorem dX4_walkerTold_6 : decode cX4_walkerTold 6 = .ok (.iaload, 1) := by decide +kernel
theorem dX4_walkerTold_7 : decode cX4_walkerTold 7 = .ok (.bipush 8, 2) := by decide +kernel
theorem dX4_walkerTold_9 : decode cX4_walkerTold 9 = .ok (.if_icmp .ge 7, 3) := by decide +kernel
theorem dX4_walkerTold_12 : decode cX4_walkerTold 12 = .ok (.iconst 1, 1) := by decide +kernel
theorem dX4_walkerTold_13 : decode cX4_walkerTold 13 = .ok (.goto 4, 3) := by decide +kernel
theorem dX4_walkerTold_16 : decode cX4_walkerTold 16 = .ok (.iconst 0, 1) := by decide +kernel
theorem dX4_walkerTold_17 : decode cX4_walkerTold 17 = .ok (.invokevirtual 249, 3) := by decide +kernel
theorem dX4_walkerTold_20 : decode cX4_walkerTold 20 = .ok (.aload_n 0, 1) := by decide +kernel
theorem dX4_walkerTold_21 : decode cX4_walkerTold 21 = .ok (.getfield 229, 3) := by decide +kernel
theorem dX4_walkerTold_24 : decode cX4_walkerTold 24 = .ok (.ifCond .eq 4, 3) := by decide +kernel
theorem dX4_walkerTold_27 : decode cX4_walkerTold 27 = .ok (.return_, 1) := by decide +kernel
theorem dX4_walkerTold_28 : decode cX4_walkerTold 28 = .ok (.aload_n 0, 1) := by decide +kernel
theorem dX4_walkerTold_29 : decode cX4_walkerTold 29 = .ok (.iload_n 1, 1) := by decide +kernel
theorem dX4_walkerTold_30 : decode cX4_walkerTold 30 = .ok (.iconst 0, 1) := by decide +kernel
theorem dX4_walkerTold_31 : decode cX4_walkerTold 31 = .ok (.invokevirtual 103, 3) := by decide +kernel
theorem dX4_walkerTold_34 : decode cX4_walkerTold 34 = .ok (.istore_n 2, 1) := by decide +kernel
theorem dX4_walkerTold_35 : decode cX4_walkerTold 35 = .ok (.aload_n 0, 1) := by decide +kernel
theorem dX4_walkerTold_36 : decode cX4_walkerTold 36 = .ok (.ldc_w 267, 3) := by decide +kernel
theorem dX4_walkerTold_39 : decode cX4_walkerTold 39 = .ok (.invokevirtual 269, 3) := by decide +kernel
theorem dX4_walkerTold_42 : decode cX4_walkerTold 42 = .ok (.ifCond .eq 16, 3) := by decide +kernel
theorem dX4_walkerTold_45 : decode cX4_walkerTold 45 = .ok (.aload_n 0, 1) := by decide +kernel
theorem dX4_walkerTold_46 : decode cX4_walkerTold 46 = .ok (.iload_n 2, 1) := by decide +kernel
theorem dX4_walkerTold_47 : decode cX4_walkerTold 47 = .ok (.iconst 1, 1) := by decide +kernel
theorem dX4_walkerTold_48 : decode cX4_walkerTold 48 = .ok (.aload_n 0, 1) := by decide +kernel
theorem dX4_walkerTold_49 : decode cX4_walkerTold 49 = .ok (.iconst 0, 1) := by decide +kernel
theorem dX4_walkerTold_50 : decode cX4_walkerTold 50 = .ok (.bipush 23, 2) := by decide +kernel
theorem dX4_walkerTold_52 : decode cX4_walkerTold 52 = .ok (.invokevirtual 272, 3) := by decide +kernel
theorem dX4_walkerTold_55 : decode cX4_walkerTold 55 = .ok (.invokevirtual 66, 3) := by decide +kernel
theorem dX4_walkerTold_58 : decode cX4_walkerTold 58 = .ok (.aload_n 0, 1) := by decide +kernel
theorem dX4_walkerTold_59 : decode cX4_walkerTold 59 = .ok (.ldc_w 275, 3) := by decide +kernel
theorem dX4_walkerTold_62 : decode cX4_walkerTold 62 = .ok (.invokevirtual 269, 3) := by decide +kernel
theorem dX4_walkerTold_65 : decode cX4_walkerTold 65 = .ok (.ifCond .eq 10, 3) := by decide +kernel
theorem dX4_walkerTold_68 : decode cX4_walkerTold 68 = .ok (.aload_n 0, 1) := by decide +kernel
theorem dX4_walkerTold_69 : decode cX4_walkerTold 69 = .ok (.iload_n 2, 1) := by decide +kernel
theorem dX4_walkerTold_70 : decode cX4_walkerTold 70 = .ok (.iconst 2, 1) := by decide +kernel
theorem dX4_walkerTold_71 : decode cX4_walkerTold 71 = .ok (.iconst 0, 1) := by decide +kernel
theorem dX4_walkerTold_72 : decode cX4_walkerTold 72 = .ok (.invokevirtual 66, 3) := by decide +kernel
theorem dX4_walkerTold_75 : decode cX4_walkerTold 75 = .ok (.aload_n 0, 1) := by decide +kernel
theorem dX4_walkerTold_76 : decode cX4_walkerTold 76 = .ok (.ldc_w 277, 3) := by decide +kernel
theorem dX4_walkerTold_79 : decode cX4_walkerTold 79 = .ok (.invokevirtual 269, 3) := by decide +kernel
theorem dX4_walkerTold_82 : decode cX4_walkerTold 82 = .ok (.ifCond .eq 16, 3) := by decide +kernel
theorem dX4_walkerTold_85 : decode cX4_walkerTold 85 = .ok (.aload_n 0, 1) := by decide +kernel
theorem dX4_walkerTold_86 : decode cX4_walkerTold 86 = .ok (.iload_n 2, 1) := by decide +kernel
theorem dX4_walkerTold_87 : decode cX4_walkerTold 87 = .ok (.iconst 3, 1) := by decide +kernel
theorem dX4_walkerTold_88 : decode cX4_walkerTold 88 = .ok (.aload_n 0, 1) := by decide +kernel
theorem dX4_walkerTold_89 : decode cX4_walkerTold 89 = .ok (.iconst 1, 1) := by decide +kernel
theorem dX4_walkerTold_90 : decode cX4_walkerTold 90 = .ok (.bipush 6, 2) := by decide +kernel
theorem dX4_walkerTold_92 : decode cX4_walkerTold 92 = .ok (.invokevirtual 272, 3) := by decide +kernel
theorem dX4_walkerTold_95 : decode cX4_walkerTold 95 = .ok (.invokevirtual 66, 3) := by decide +kernel
theorem dX4_walkerTold_98 : decode cX4_walkerTold 98 = .ok (.aload_n 0, 1) := by decide +kernel
theorem dX4_walkerTold_99 : decode cX4_walkerTold 99 = .ok (.ldc_w 279, 3) := by decide +kernel
theorem dX4_walkerTold_102 : decode cX4_walkerTold 102 = .ok (.invokevirtual 269, 3) := by decide +kernel
theorem dX4_walkerTold_105 : decode cX4_walkerTold 105 = .ok (.ifCond .eq 16, 3) := by decide +kernel
theorem dX4_walkerTold_108 : decode cX4_walkerTold 108 = .ok (.aload_n 0, 1) := by decide +kernel
theorem dX4_walkerTold_109 : decode cX4_walkerTold 109 = .ok (.iload_n 2, 1) := by decide +kernel
theorem dX4_walkerTold_110 : decode cX4_walkerTold 110 = .ok (.iconst 4, 1) := by decide +kernel
theorem dX4_walkerTold_111 : decode cX4_walkerTold 111 = .ok (.aload_n 0, 1) := by decide +kernel
theorem dX4_walkerTold_112 : decode cX4_walkerTold 112 = .ok (.iconst 1, 1) := by decide +kernel
theorem dX4_walkerTold_113 : decode cX4_walkerTold 113 = .ok (.bipush 9, 2) := by decide +kernel
theorem dX4_walkerTold_115 : decode cX4_walkerTold 115 = .ok (.invokevirtual 272, 3) := by decide +kernel
theorem dX4_walkerTold_118 : decode cX4_walkerTold 118 = .ok (.invokevirtual 66, 3) := by decide +kernel
theorem dX4_walkerTold_121 : decode cX4_walkerTold 121 = .ok (.return_, 1) := by decide +kernel
theorem dX4_printTold_0 : decode cX4_printTold 0 = .ok (.aload_n 0, 1) := by decide +kernel
theorem dX4_printTold_1 : decode cX4_printTold 1 = .ok (.iconst 0, 1) := by decide +kernel
theorem dX4_printTold_2 : decode cX4_printTold 2 = .ok (.bipush 23, 2) := by decide +kernel
theorem dX4_printTold_4 : decode cX4_printTold 4 = .ok (.invokevirtual 272, 3) := by decide +kernel
theorem dX4_printTold_7 : decode cX4_printTold 7 = .ok (.istore_n 1, 1) := by decide +kernel
theorem dX4_printTold_8 : decode cX4_printTold 8 = .ok (.aload_n 0, 1) := by decide +kernel
theorem dX4_printTold_9 : decode cX4_printTold 9 = .ok (.iconst 0, 1) := by decide +kernel
theorem dX4_printTold_10 : decode cX4_printTold 10 = .ok (.aload_n 0, 1) := by decide +kernel
theorem dX4_printTold_11 : decode cX4_printTold 11 = .ok (.getfield 9, 3) := by decide +kernel
theorem dX4_printTold_14 : decode cX4_printTold 14 = .ok (.iconst 2, 1) := by decide +kernel
theorem dX4_printTold_15 : decode cX4_printTold 15 = .ok (.iaload, 1) := by decide +kernel
theorem dX4_printTold_16 : decode cX4_printTold 16 = .ok (.iconst 1, 1) := by decide +kernel
theorem dX4_printTold_17 : decode cX4_printTold 17 = .ok (.isub, 1) := by decide +kernel
theorem dX4_printTold_18 : decode cX4_printTold 18 = .ok (.invokevirtual 272, 3) := by decide +kernel
theorem dX4_printTold_21 : decode cX4_printTold 21 = .ok (.istore_n 2, 1) := by decide +kernel
theorem dX4_printTold_22 : decode cX4_printTold 22 = .ok (.aload_n 0, 1) := by decide +kernel
theorem dX4_printTold_23 : decode cX4_printTold 23 = .ok (.iconst 0, 1) := by decide +kernel
theorem dX4_printTold_24 : decode cX4_printTold 24 = .ok (.bipush 9, 2) := by decide +kernel
theorem dX4_printTold_26 : decode cX4_printTold 26 = .ok (.invokevirtual 272, 3) := by decide +kernel
theorem dX4_printTold_29 : decode cX4_printTold 29 = .ok (.istore_n 3, 1) := by decide +kernel
theorem dX4_printTold_30 : decode cX4_printTold 30 = .ok (.aload_n 0, 1) := by decide +kernel
theorem dX4_printTold_31 : decode cX4_printTold 31 = .ok (.getfield 229, 3) := by decide +kernel
theorem dX4_printTold_34 : decode cX4_printTold 34 = .ok (.ifCond .ne 17, 3) := by decide +kernel
theorem dX4_printTold_37 : decode cX4_printTold 37 = .ok (.aload_n 0, 1) := by decide +kernel
theorem dX4_printTold_38 : decode cX4_printTold 38 = .ok (.ldc_w 275, 3) := by decide +kernel
theorem dX4_printTold_41 : decode cX4_printTold 41 = .ok (.invokevirtual 269, 3) := by decide +kernel
theorem dX4_printTold_44 : decode cX4_printTold 44 = .ok (.ifCond .eq 7, 3) := by decide +kernel
theorem dX4_printTold_47 : decode cX4_printTold 47 = .ok (.iconst 1, 1) := by decide +kernel
theorem dX4_printTold_48 : decode cX4_printTold 48 = .ok (.goto 4, 3) := by decide +kernel
theorem dX4_printTold_51 : decode cX4_printTold 51 = .ok (.iconst 0, 1) := by decide +kernel
theorem dX4_printTold_52 : decode cX4_printTold 52 = .ok (.istore 4, 2) := by decide +kernel
theorem dX4_printTold_54 : decode cX4_printTold 54 = .ok (.aload_n 0, 1) := by decide +kernel
theorem dX4_printTold_55 : decode cX4_printTold 55 = .ok (.getfield 229, 3) := by decide +kernel
theorem dX4_printTold_58 : decode cX4_printTold 58 = .ok (.ifCond .ne 20, 3) := by decide +kernel
theorem dX4_printTold_61 : decode cX4_printTold 61 = .ok (.aload_n 0, 1) := by decide +kernel
theorem dX4_printTold_62 : decode cX4_printTold 62 = .ok (.iload_n 1, 1) := by decide +kernel
theorem dX4_printTold_63 : decode cX4_printTold 63 = .ok (.iload_n 2, 1) := by decide +kernel
theorem dX4_printTold_64 : decode cX4_printTold 64 = .ok (.iload_n 3, 1) := by decide +kernel
theorem dX4_printTold_65 : decode cX4_printTold 65 = .ok (.iload 4, 2) := by decide +kernel
theorem dX4_printTold_67 : decode cX4_printTold 67 = .ok (.ifCond .eq 7, 3) := by decide +kernel
theorem dX4_printTold_70 : decode cX4_printTold 70 = .ok (.iconst 0, 1) := by decide +kernel
theorem dX4_printTold_71 : decode cX4_printTold 71 = .ok (.goto 4, 3) := by decide +kernel
theorem dX4_printTold_74 : decode cX4_printTold 74 = .ok (.iconst 1, 1) := by decide +kernel
theorem dX4_printTold_75 : decode cX4_printTold 75 = .ok (.invokevirtual 87, 3) := by decide +kernel
theorem dX4_printTold_78 : decode cX4_printTold 78 = .ok (.return_, 1) := by decide +kernel
theorem dX4_item_0 : decode cX4_item 0 = .ok (.aload_n 0, 1) := by decide +kernel
theorem dX4_item_1 : decode cX4_item 1 = .ok (.invokevirtual 281, 3) := by decide +kernel
theorem dX4_item_4 : decode cX4_item 4 = .ok (.istore_n 1, 1) := by decide +kernel
theorem dX4_item_5 : decode cX4_item 5 = .ok (.iload_n 1, 1) := by decide +kernel
theorem dX4_item_6 : decode cX4_item 6 = .ok (.ifCond .lt 11, 3) := by decide +kernel
theorem dX4_item_9 : decode cX4_item 9 = .ok (.aload_n 0, 1) := by decide +kernel
theorem dX4_item_10 : decode cX4_item 10 = .ok (.iload_n 1, 1) := by decide +kernel
theorem dX4_item_11 : decode cX4_item 11 = .ok (.invokevirtual 284, 3) := by decide +kernel
theorem dX4_item_14 : decode cX4_item 14 = .ok (.goto 53, 3) := by decide +kernel
theorem dX4_item_17 : decode cX4_item 17 = .ok (.aload_n 0, 1) := by decide +kernel
theorem dX4_item_18 : decode cX4_item 18 = .ok (.ldc_w 287, 3) := by decide +kernel
theorem dX4_item_21 : decode cX4_item 21 = .ok (.invokevirtual 269, 3) := by decide +kernel
theorem dX4_item_24 : decode cX4_item 24 = .ok (.ifCond .eq 28, 3) := by decide +kernel
theorem dX4_item_27 : decode cX4_item 27 = .ok (.aload_n 0, 1) := by decide +kernel
theorem dX4_item_28 : decode cX4_item 28 = .ok (.iconst 0, 1) := by decide +kernel
theorem dX4_item_29 : decode cX4_item 29 = .ok (.bipush 24, 2) := by decide +kernel
theorem dX4_item_31 : decode cX4_item 31 = .ok (.invokevirtual 272, 3) := by decide +kernel
theorem dX4_item_34 : decode cX4_item 34 = .ok (.istore_n 2, 1) := by decide +kernel
theorem dX4_item_35 : decode cX4_item 35 = .ok (.aload_n 0, 1) := by decide +kernel
theorem dX4_item_36 : decode cX4_item 36 = .ok (.getfield 229, 3) := by decide +kernel
theorem dX4_item_39 : decode cX4_item 39 = .ok (.ifCond .ne 10, 3) := by decide +kernel
theorem dX4_item_42 : decode cX4_item 42 = .ok (.aload_n 0, 1) := by decide +kernel
theorem dX4_item_43 : decode cX4_item 43 = .ok (.getfield 9, 3) := by decide +kernel
theorem dX4_item_46 : decode cX4_item 46 = .ok (.iconst 3, 1) := by decide +kernel
theorem dX4_item_47 : decode cX4_item 47 = .ok (.iload_n 2, 1) := by decide +kernel
theorem dX4_item_48 : decode cX4_item 48 = .ok (.iastore, 1) := by decide +kernel
theorem dX4_item_49 : decode cX4_item 49 = .ok (.goto 18, 3) := by decide +kernel
theorem dX4_item_52 : decode cX4_item 52 = .ok (.aload_n 0, 1) := by decide +kernel
theorem dX4_item_53 : decode cX4_item 53 = .ok (.aload_n 0, 1) := by decide +kernel
theorem dX4_item_54 : decode cX4_item 54 = .ok (.ldc_w 289, 3) := by decide +kernel
theorem dX4_item_57 : decode cX4_item 57 = .ok (.invokevirtual 245, 3) := by decide +kernel
theorem dX4_item_60 : decode cX4_item 60 = .ok (.invokevirtual 249, 3) := by decide +kernel
theorem dX4_item_63 : decode cX4_item 63 = .ok (.aload_n 0, 1) := by decide +kernel
theorem dX4_item_64 : decode cX4_item 64 = .ok (.invokevirtual 291, 3) := by decide +kernel
theorem dX4_item_67 : decode cX4_item 67 = .ok (.return_, 1) := by decide +kernel
theorem dX4_text_0 : decode cX4_text 0 = .ok (.aload_n 0, 1) := by decide +kernel
theorem dX4_text_1 : decode cX4_text 1 = .ok (.invokevirtual 168, 3) := by decide +kernel
theorem dX4_text_4 : decode cX4_text 4 = .ok (.aload_n 0, 1) := by decide +kernel
theorem dX4_text_5 : decode cX4_text 5 = .ok (.iconst 0, 1) := by decide +kernel
theorem dX4_text_6 : decode cX4_text 6 = .ok (.putfield 229, 3) := by decide +kernel
theorem dX4_text_9 : decode cX4_text 9 = .ok (.aload_n 0, 1) := by decide +kernel
theorem dX4_text_10 : decode cX4_text 10 = .ok (.iconst 0, 1) := by decide +kernel
theorem dX4_text_11 : decode cX4_text 11 = .ok (.putfield 220, 3) := by decide +kernel
theorem dX4_text_14 : decode cX4_text 14 = .ok (.aload_n 0, 1) := by decide +kernel
theorem dX4_text_15 : decode cX4_text 15 = .ok (.invokevirtual 242, 3) := by decide +kernel
theorem dX4_text_18 : decode cX4_text 18 = .ok (.aload_n 0, 1) := by decide +kernel
theorem dX4_text_19 : decode cX4_text 19 = .ok (.invokevirtual 294, 3) := by decide +kernel
theorem dX4_text_22 : decode cX4_text 22 = .ok (.iconst 1, 1) := by decide +kernel
theorem dX4_text_23 : decode cX4_text 23 = .ok (.istore_n 1, 1) := by decide +kernel
theorem dX4_text_24 : decode cX4_text 24 = .ok (.aload_n 0, 1) := by decide +kernel
theorem dX4_text_25 : decode cX4_text 25 = .ok (.getfield 229, 3) := by decide +kernel
theorem dX4_text_28 : decode cX4_text 28 = .ok (.ifCond .ne 35, 3) := by decide +kernel
theorem dX4_text_31 : decode cX4_text 31 = .ok (.aload_n 0, 1) := by decide +kernel
theorem dX4_text_32 : decode cX4_text 32 = .ok (.getfield 223, 3) := by decide +kernel
theorem dX4_text_35 : decode cX4_text 35 = .ok (.aload_n 0, 1) := by decide +kernel
theorem dX4_text_36 : decode cX4_text 36 = .ok (.getfield 217, 3) := by decide +kernel
theorem dX4_text_39 : decode cX4_text 39 = .ok (.if_icmp .ge 24, 3) := by decide +kernel
theorem dX4_text_42 : decode cX4_text 42 = .ok (.aload_n 0, 1) := by decide +kernel
theorem dX4_text_43 : decode cX4_text 43 = .ok (.aload_n 0, 1) := by decide +kernel
theorem dX4_text_44 : decode cX4_text 44 = .ok (.ldc_w 297, 3) := by decide +kernel
theorem dX4_text_47 : decode cX4_text 47 = .ok (.invokevirtual 245, 3) := by decide +kernel
theorem dX4_text_50 : decode cX4_text 50 = .ok (.invokevirtual 249, 3) := by decide +kernel
theorem dX4_text_53 : decode cX4_text 53 = .ok (.aload_n 0, 1) := by decide +kernel
theorem dX4_text_54 : decode cX4_text 54 = .ok (.invokevirtual 294, 3) := by decide +kernel
theorem dX4_text_57 : decode cX4_text 57 = .ok (.iinc 1 1, 3) := by decide +kernel
theorem dX4_text_60 : decode cX4_text 60 = .ok (.goto (-36), 3) := by decide +kernel
theorem dX4_text_63 : decode cX4_text 63 = .ok (.aload_n 0, 1) := by decide +kernel
theorem dX4_text_64 : decode cX4_text 64 = .ok (.iconst 0, 1) := by decide +kernel
theorem dX4_text_65 : decode cX4_text 65 = .ok (.putfield 217, 3) := by decide +kernel
theorem dX4_text_68 : decode cX4_text 68 = .ok (.aload_n 0, 1) := by decide +kernel
theorem dX4_text_69 : decode cX4_text 69 = .ok (.getfield 229, 3) := by decide +kernel
theorem dX4_text_72 : decode cX4_text 72 = .ok (.ifCond .eq 14, 3) := by decide +kernel
theorem dX4_text_75 : decode cX4_text 75 = .ok (.aload_n 0, 1) := by decide +kernel
theorem dX4_text_76 : decode cX4_text 76 = .ok (.invokevirtual 160, 3) := by decide +kernel
theorem dX4_text_79 : decode cX4_text 79 = .ok (.iconst (-1), 1) := by decide +kernel
theorem dX4_text_80 : decode cX4_text 80 = .ok (.aload_n 0, 1) := by decide +kernel
theorem dX4_text_81 : decode cX4_text 81 = .ok (.getfield 223, 3) := by decide +kernel
theorem dX4_text_84 : decode cX4_text 84 = .ok (.isub, 1) := by decide +kernel
theorem dX4_text_85 : decode cX4_text 85 = .ok (.ireturn, 1) := by decide +kernel
theorem dX4_text_86 : decode cX4_text 86 = .ok (.iload_n 1, 1) := by decide +kernel
theorem dX4_text_87 : decode cX4_text 87 = .ok (.ireturn, 1) := by decide +kernel
theorem dX4_isSpot_0 : decode cX4_isSpot 0 = .ok (.iload_n 0, 1) := by decide +kernel
theorem dX4_isSpot_1 : decode cX4_isSpot 1 = .ok (.i2l, 1) := by decide +kernel
theorem dX4_isSpot_2 : decode cX4_isSpot 2 = .ok (.lconst 0, 1) := by decide +kernel
theorem dX4_isSpot_3 : decode cX4_isSpot 3 = .ok (.ldc2_w 85, 3) := by decide +kernel
theorem dX4_isSpot_6 : decode cX4_isSpot 6 = .ok (.invokestatic 42, 3) := by decide +kernel
theorem dX4_isSpot_9 : decode cX4_isSpot 9 = .ok (.ireturn, 1) := by decide +kernel
theorem dX4_hold_0 : decode cX4_hold 0 = .ok (.iload_n 1, 1) := by decide +kernel
theorem dX4_hold_1 : decode cX4_hold 1 = .ok (.invokestatic 299, 3) := by decide +kernel
theorem dX4_hold_4 : decode cX4_hold 4 = .ok (.ifCond .eq 16, 3) := by decide +kernel
theorem dX4_hold_7 : decode cX4_hold 7 = .ok (.iload_n 2, 1) := by decide +kernel
theorem dX4_hold_8 : decode cX4_hold 8 = .ok (.iconst (-1), 1) := by decide +kernel
theorem dX4_hold_9 : decode cX4_hold 9 = .ok (.if_icmp .eq 17, 3) := by decide +kernel
theorem dX4_hold_12 : decode cX4_hold 12 = .ok (.aload_n 0, 1) := by decide +kernel
theorem dX4_hold_13 : decode cX4_hold 13 = .ok (.iload_n 2, 1) := by decide +kernel
theorem dX4_hold_14 : decode cX4_hold 14 = .ok (.invokevirtual 82, 3) := by decide +kernel
theorem dX4_hold_17 : decode cX4_hold 17 = .ok (.ifCond .ne 9, 3) := by decide +kernel
theorem dX4_hold_20 : decode cX4_hold 20 = .ok (.aload_n 0, 1) := by decide +kernel
theorem dX4_hold_21 : decode cX4_hold 21 = .ok (.iconst 0, 1) := by decide +kernel
theorem dX4_hold_22 : decode cX4_hold 22 = .ok (.invokevirtual 76, 3) := by decide +kernel
theorem dX4_hold_25 : decode cX4_hold 25 = .ok (.ireturn, 1) := by decide +kernel
theorem dX4_hold_26 : decode cX4_hold 26 = .ok (.aload_n 0, 1) := by decide +kernel
theorem dX4_hold_27 : decode cX4_hold 27 = .ok (.getfield 9, 3) := by decide +kernel
theorem dX4_hold_30 : decode cX4_hold 30 = .ok (.bipush 125, 2) := by decide +kernel
theorem dX4_hold_32 : decode cX4_hold 32 = .ok (.iload_n 1, 1) := by decide +kernel
theorem dX4_hold_33 : decode cX4_hold 33 = .ok (.iadd, 1) := by decide +kernel
theorem dX4_hold_34 : decode cX4_hold 34 = .ok (.iload_n 2, 1) := by decide +kernel
theorem dX4_hold_35 : decode cX4_hold 35 = .ok (.iastore, 1) := by decide +kernel
theorem dX4_hold_36 : decode cX4_hold 36 = .ok (.iconst 1, 1) := by decide +kernel
theorem dX4_hold_37 : decode cX4_hold 37 = .ok (.ireturn, 1) := by decide +kernel
theorem dX4_as_0 : decode cX4_as 0 = .ok (.iload_n 1, 1) := by decide +kernel
theorem dX4_as_1 : decode cX4_as 1 = .ok (.invokestatic 299, 3) := by decide +kernel
theorem dX4_as_4 : decode cX4_as 4 = .ok (.ifCond .eq 10, 3) := by decide +kernel
theorem dX4_as_7 : decode cX4_as 7 = .ok (.iload_n 2, 1) := by decide +kernel
theorem dX4_as_8 : decode cX4_as 8 = .ok (.invokestatic 100, 3) := by decide +kernel
theorem dX4_as_11 : decode cX4_as 11 = .ok (.ifCond .ne 9, 3) := by decide +kernel
theorem dX4_as_14 : decode cX4_as 14 = .ok (.aload_n 0, 1) := by decide +kernel
theorem dX4_as_15 : decode cX4_as 15 = .ok (.iconst 0, 1) := by decide +kernel
theorem dX4_as_16 : decode cX4_as 16 = .ok (.invokevirtual 76, 3) := by decide +kernel
theorem dX4_as_19 : decode cX4_as 19 = .ok (.ireturn, 1) := by decide +kernel
theorem dX4_as_20 : decode cX4_as 20 = .ok (.aload_n 0, 1) := by decide +kernel
theorem dX4_as_21 : decode cX4_as 21 = .ok (.getfield 9, 3) := by decide +kernel
theorem dX4_as_24 : decode cX4_as 24 = .ok (.bipush 125, 2) := by decide +kernel
theorem dX4_as_26 : decode cX4_as 26 = .ok (.iload_n 1, 1) := by decide +kernel
theorem dX4_as_27 : decode cX4_as 27 = .ok (.iadd, 1) := by decide +kernel
theorem dX4_as_28 : decode cX4_as 28 = .ok (.iaload, 1) := by decide +kernel
theorem dX4_as_29 : decode cX4_as 29 = .ok (.istore_n 3, 1) := by decide +kernel
theorem dX4_as_30 : decode cX4_as 30 = .ok (.iload_n 3, 1) := by decide +kernel
theorem dX4_as_31 : decode cX4_as 31 = .ok (.ifCond .ge 9, 3) := by decide +kernel
theorem dX4_as_34 : decode cX4_as 34 = .ok (.aload_n 0, 1) := by decide +kernel
theorem dX4_as_35 : decode cX4_as 35 = .ok (.iconst 5, 1) := by decide +kernel
theorem dX4_as_36 : decode cX4_as 36 = .ok (.invokevirtual 76, 3) := by decide +kernel
theorem dX4_as_39 : decode cX4_as 39 = .ok (.ireturn, 1) := by decide +kernel
theorem dX4_as_40 : decode cX4_as 40 = .ok (.aload_n 0, 1) := by decide +kernel
theorem dX4_as_41 : decode cX4_as 41 = .ok (.iload_n 3, 1) := by decide +kernel
theorem dX4_as_42 : decode cX4_as 42 = .ok (.iconst 0, 1) := by decide +kernel
theorem dX4_as_43 : decode cX4_as 43 = .ok (.invokevirtual 54, 3) := by decide +kernel
theorem dX4_as_46 : decode cX4_as 46 = .ok (.iload_n 2, 1) := by decide +kernel
theorem dX4_as_47 : decode cX4_as 47 = .ok (.invokestatic 302, 3) := by decide +kernel
theorem dX4_as_50 : decode cX4_as 50 = .ok (.ifCond .eq 7, 3) := by decide +kernel
theorem dX4_as_53 : decode cX4_as 53 = .ok (.iload_n 3, 1) := by decide +kernel
theorem dX4_as_54 : decode cX4_as 54 = .ok (.goto 8, 3) := by decide +kernel
theorem dX4_as_57 : decode cX4_as 57 = .ok (.aload_n 0, 1) := by decide +kernel
theorem dX4_as_58 : decode cX4_as 58 = .ok (.iconst 2, 1) := by decide +kernel
theorem dX4_as_59 : decode cX4_as 59 = .ok (.invokevirtual 76, 3) := by decide +kernel
theorem dX4_as_62 : decode cX4_as 62 = .ok (.ireturn, 1) := by decide +kernel
theorem dX4_isSheet_0 : decode cX4_isSheet 0 = .ok (.iload_n 0, 1) := by decide +kernel
theorem dX4_isSheet_1 : decode cX4_isSheet 1 = .ok (.i2l, 1) := by decide +kernel
theorem dX4_isSheet_2 : decode cX4_isSheet 2 = .ok (.lconst 0, 1) := by decide +kernel
theorem dX4_isSheet_3 : decode cX4_isSheet 3 = .ok (.ldc2_w 74, 3) := by decide +kernel
theorem dX4_isSheet_6 : decode cX4_isSheet 6 = .ok (.invokestatic 42, 3) := by decide +kernel
theorem dX4_isSheet_9 : decode cX4_isSheet 9 = .ok (.ireturn, 1) := by decide +kernel
theorem dX4_sheet_0 : decode cX4_sheet 0 = .ok (.iload_n 2, 1) := by decide +kernel
theorem dX4_sheet_1 : decode cX4_sheet 1 = .ok (.ifCond .eq 21, 3) := by decide +kernel
theorem dX4_sheet_4 : decode cX4_sheet 4 = .ok (.iload_n 2, 1) := by decide +kernel
theorem dX4_sheet_5 : decode cX4_sheet 5 = .ok (.bipush 8, 2) := by decide +kernel
theorem dX4_sheet_7 : decode cX4_sheet 7 = .ok (.if_icmp .eq 15, 3) := by decide +kernel
theorem dX4_sheet_10 : decode cX4_sheet 10 = .ok (.iload_n 2, 1) := by decide +kernel
theorem dX4_sheet_11 : decode cX4_sheet 11 = .ok (.bipush 16, 2) := by decide +kernel
theorem dX4_sheet_13 : decode cX4_sheet 13 = .ok (.if_icmp .eq 9, 3) := by decide +kernel
theorem dX4_sheet_16 : decode cX4_sheet 16 = .ok (.iload_n 2, 1) := by decide +kernel
theorem dX4_sheet_17 : decode cX4_sheet 17 = .ok (.bipush 32, 2) := by decide +kernel
theorem dX4_sheet_19 : decode cX4_sheet 19 = .ok (.if_icmp .ne 7, 3) := by decide +kernel
theorem dX4_sheet_22 : decode cX4_sheet 22 = .ok (.iconst 1, 1) := by decide +kernel
theorem dX4_sheet_23 : decode cX4_sheet 23 = .ok (.goto 4, 3) := by decide +kernel
theorem dX4_sheet_26 : decode cX4_sheet 26 = .ok (.iconst 0, 1) := by decide +kernel
theorem dX4_sheet_27 : decode cX4_sheet 27 = .ok (.istore 4, 2) := by decide +kernel
theorem dX4_sheet_29 : decode cX4_sheet 29 = .ok (.iload_n 1, 1) := by decide +kernel
theorem dX4_sheet_30 : decode cX4_sheet 30 = .ok (.invokestatic 305, 3) := by decide +kernel
theorem dX4_sheet_33 : decode cX4_sheet 33 = .ok (.ifCond .eq 8, 3) := by decide +kernel
theorem dX4_sheet_36 : decode cX4_sheet 36 = .ok (.iload 4, 2) := by decide +kernel
theorem dX4_sheet_38 : decode cX4_sheet 38 = .ok (.ifCond .ne 9, 3) := by decide +kernel
theorem dX4_sheet_41 : decode cX4_sheet 41 = .ok (.aload_n 0, 1) := by decide +kernel
theorem dX4_sheet_42 : decode cX4_sheet 42 = .ok (.iconst 0, 1) := by decide +kernel
theorem dX4_sheet_43 : decode cX4_sheet 43 = .ok (.invokevirtual 76, 3) := by decide +kernel
theorem dX4_sheet_46 : decode cX4_sheet 46 = .ok (.ireturn, 1) := by decide +kernel
theorem dX4_sheet_47 : decode cX4_sheet 47 = .ok (.iload_n 3, 1) := by decide +kernel
theorem dX4_sheet_48 : decode cX4_sheet 48 = .ok (.ifCond .ge 10, 3) := by decide +kernel
theorem dX4_sheet_51 : decode cX4_sheet 51 = .ok (.aload_n 0, 1) := by decide +kernel
theorem dX4_sheet_52 : decode cX4_sheet 52 = .ok (.bipush 6, 2) := by decide +kernel
theorem dX4_sheet_54 : decode cX4_sheet 54 = .ok (.invokevirtual 76, 3) := by decide +kernel
theorem dX4_sheet_57 : decode cX4_sheet 57 = .ok (.ireturn, 1) := by decide +kernel
theorem dX4_sheet_58 : decode cX4_sheet 58 = .ok (.iload_n 3, 1) := by decide +kernel
theorem dX4_sheet_59 : decode cX4_sheet 59 = .ok (.bipush 40, 2) := by decide +kernel
theorem dX4_sheet_61 : decode cX4_sheet 61 = .ok (.if_icmp .le 9, 3) := by decide +kernel
theorem dX4_sheet_64 : decode cX4_sheet 64 = .ok (.aload_n 0, 1) := by decide +kernel
theorem dX4_sheet_65 : decode cX4_sheet 65 = .ok (.iconst 0, 1) := by decide +kernel
theorem dX4_sheet_66 : decode cX4_sheet 66 = .ok (.invokevirtual 76, 3) := by decide +kernel
theorem dX4_sheet_69 : decode cX4_sheet 69 = .ok (.ireturn, 1) := by decide +kernel
theorem dX4_sheet_70 : decode cX4_sheet 70 = .ok (.aload_n 0, 1) := by decide +kernel
theorem dX4_sheet_71 : decode cX4_sheet 71 = .ok (.getfield 25, 3) := by decide +kernel
theorem dX4_sheet_74 : decode cX4_sheet 74 = .ok (.iload_n 1, 1) := by decide +kernel
theorem dX4_sheet_75 : decode cX4_sheet 75 = .ok (.iload_n 2, 1) := by decide +kernel
theorem dX4_sheet_76 : decode cX4_sheet 76 = .ok (.iastore, 1) := by decide +kernel
theorem dX4_sheet_77 : decode cX4_sheet 77 = .ok (.aload_n 0, 1) := by decide +kernel
theorem dX4_sheet_78 : decode cX4_sheet 78 = .ok (.getfield 28, 3) := by decide +kernel
theorem dX4_sheet_81 : decode cX4_sheet 81 = .ok (.iload_n 1, 1) := by decide +kernel
theorem dX4_sheet_82 : decode cX4_sheet 82 = .ok (.iload_n 2, 1) := by decide +kernel
theorem dX4_sheet_83 : decode cX4_sheet 83 = .ok (.ifCond .ne 7, 3) := by decide +kernel
theorem dX4_sheet_86 : decode cX4_sheet 86 = .ok (.iconst 0, 1) := by decide +kernel
theorem dX4_sheet_87 : decode cX4_sheet 87 = .ok (.goto 4, 3) := by decide +kernel
theorem dX4_sheet_90 : decode cX4_sheet 90 = .ok (.iload_n 3, 1) := by decide +kernel
theorem dX4_sheet_91 : decode cX4_sheet 91 = .ok (.iastore, 1) := by decide +kernel
theorem dX4_sheet_92 : decode cX4_sheet 92 = .ok (.iconst 0, 1) := by decide +kernel
theorem dX4_sheet_93 : decode cX4_sheet 93 = .ok (.istore 5, 2) := by decide +kernel
theorem dX4_sheet_95 : decode cX4_sheet 95 = .ok (.iload 5, 2) := by decide +kernel
theorem dX4_sheet_97 : decode cX4_sheet 97 = .ok (.bipush 40, 2) := by decide +kernel
theorem dX4_sheet_99 : decode cX4_sheet 99 = .ok (.if_icmp .ge 22, 3) := by decide +kernel
theorem dX4_sheet_102 : decode cX4_sheet 102 = .ok (.aload_n 0, 1) := by decide +kernel
theorem dX4_sheet_103 : decode cX4_sheet 103 = .ok (.getfield 31, 3) := by decide +kernel
theorem dX4_sheet_106 : decode cX4_sheet 106 = .ok (.bipush 40, 2) := by decide +kernel
theorem dX4_sheet_108 : decode cX4_sheet 108 = .ok (.iload_n 1, 1) := by decide +kernel
theorem dX4_sheet_109 : decode cX4_sheet 109 = .ok (.imul, 1) := by decide +kernel
theorem dX4_sheet_110 : decode cX4_sheet 110 = .ok (.iload 5, 2) := by decide +kernel
theorem dX4_sheet_112 : decode cX4_sheet 112 = .ok (.iadd, 1) := by decide +kernel
theorem dX4_sheet_113 : decode cX4_sheet 113 = .ok (.iconst 0, 1) := by decide +kernel
theorem dX4_sheet_114 : decode cX4_sheet 114 = .ok (.iastore, 1) := by decide +kernel
theorem dX4_sheet_115 : decode cX4_sheet 115 = .ok (.iinc 5 1, 3) := by decide +kernel
theorem dX4_sheet_118 : decode cX4_sheet 118 = .ok (.goto (-23), 3) := by decide +kernel
theorem dX4_sheet_121 : decode cX4_sheet 121 = .ok (.aload_n 0, 1) := by decide +kernel
theorem dX4_sheet_122 : decode cX4_sheet 122 = .ok (.getfield 28, 3) := by decide +kernel
theorem dX4_sheet_125 : decode cX4_sheet 125 = .ok (.iload_n 1, 1) := by decide +kernel
theorem dX4_sheet_126 : decode cX4_sheet 126 = .ok (.iaload, 1) := by decide +kernel
theorem dX4_sheet_127 : decode cX4_sheet 127 = .ok (.ireturn, 1) := by decide +kernel
theorem dX4_lacks_0 : decode cX4_lacks 0 = .ok (.iload_n 1, 1) := by decide +kernel
theorem dX4_lacks_1 : decode cX4_lacks 1 = .ok (.invokestatic 305, 3) := by decide +kernel
theorem dX4_lacks_4 : decode cX4_lacks 4 = .ok (.ifCond .ne 7, 3) := by decide +kernel
theorem dX4_lacks_7 : decode cX4_lacks 7 = .ok (.iconst 0, 1) := by decide +kernel
theorem dX4_lacks_8 : decode cX4_lacks 8 = .ok (.goto 17, 3) := by decide +kernel
theorem dX4_lacks_11 : decode cX4_lacks 11 = .ok (.aload_n 0, 1) := by decide +kernel
theorem dX4_lacks_12 : decode cX4_lacks 12 = .ok (.getfield 25, 3) := by decide +kernel
theorem dX4_lacks_15 : decode cX4_lacks 15 = .ok (.iload_n 1, 1) := by decide +kernel
theorem dX4_lacks_16 : decode cX4_lacks 16 = .ok (.iaload, 1) := by decide +kernel
theorem dX4_lacks_17 : decode cX4_lacks 17 = .ok (.ifCond .ne 7, 3) := by decide +kernel
theorem dX4_lacks_20 : decode cX4_lacks 20 = .ok (.iconst 5, 1) := by decide +kernel
theorem dX4_lacks_21 : decode cX4_lacks 21 = .ok (.goto 4, 3) := by decide +kernel
theorem dX4_lacks_24 : decode cX4_lacks 24 = .ok (.iconst (-1), 1) := by decide +kernel
theorem dX4_lacks_25 : decode cX4_lacks 25 = .ok (.ireturn, 1) := by decide +kernel
theorem dX4_write_0 : decode cX4_write 0 = .ok (.aload_n 0, 1) := by decide +kernel
theorem dX4_write_1 : decode cX4_write 1 = .ok (.iload_n 1, 1) := by decide +kernel
theorem dX4_write_2 : decode cX4_write 2 = .ok (.invokevirtual 192, 3) := by decide +kernel
theorem dX4_write_5 : decode cX4_write 5 = .ok (.istore 4, 2) := by decide +kernel
theorem dX4_write_7 : decode cX4_write 7 = .ok (.iload 4, 2) := by decide +kernel
theorem dX4_write_9 : decode cX4_write 9 = .ok (.ifCond .lt 10, 3) := by decide +kernel
theorem dX4_write_12 : decode cX4_write 12 = .ok (.aload_n 0, 1) := by decide +kernel
theorem dX4_write_13 : decode cX4_write 13 = .ok (.iload 4, 2) := by decide +kernel
theorem dX4_write_15 : decode cX4_write 15 = .ok (.invokevirtual 76, 3) := by decide +kernel
theorem dX4_write_18 : decode cX4_write 18 = .ok (.ireturn, 1) := by decide +kernel
theorem dX4_write_19 : decode cX4_write 19 = .ok (.iload_n 2, 1) := by decide +kernel
theorem dX4_write_20 : decode cX4_write 20 = .ok (.i2l, 1) := by decide +kernel
theorem dX4_write_21 : decode cX4_write 21 = .ok (.lconst 0, 1) := by decide +kernel
theorem dX4_write_22 : decode cX4_write 22 = .ok (.aload_n 0, 1) := by decide +kernel
theorem dX4_write_23 : decode cX4_write 23 = .ok (.getfield 28, 3) := by decide +kernel
theorem dX4_write_26 : decode cX4_write 26 = .ok (.iload_n 1, 1) := by decide +kernel
theorem dX4_write_27 : decode cX4_write 27 = .ok (.iaload, 1) := by decide +kernel
theorem dX4_write_28 : decode cX4_write 28 = .ok (.iconst 1, 1) := by decide +kernel
theorem dX4_write_29 : decode cX4_write 29 = .ok (.isub, 1) := by decide +kernel
theorem dX4_write_30 : decode cX4_write 30 = .ok (.i2l, 1) := by decide +kernel
theorem dX4_write_31 : decode cX4_write 31 = .ok (.invokestatic 42, 3) := by decide +kernel
theorem dX4_write_34 : decode cX4_write 34 = .ok (.ifCond .ne 9, 3) := by decide +kernel
theorem dX4_write_37 : decode cX4_write 37 = .ok (.aload_n 0, 1) := by decide +kernel
theorem dX4_write_38 : decode cX4_write 38 = .ok (.iconst 0, 1) := by decide +kernel
theorem dX4_write_39 : decode cX4_write 39 = .ok (.invokevirtual 76, 3) := by decide +kernel
theorem dX4_write_42 : decode cX4_write 42 = .ok (.ireturn, 1) := by decide +kernel
theorem dX4_write_43 : decode cX4_write 43 = .ok (.aload_n 0, 1) := by decide +kernel
theorem dX4_write_44 : decode cX4_write 44 = .ok (.getfield 31, 3) := by decide +kernel
theorem dX4_write_47 : decode cX4_write 47 = .ok (.bipush 40, 2) := by decide +kernel
theorem dX4_write_49 : decode cX4_write 49 = .ok (.iload_n 1, 1) := by decide +kernel
theorem dX4_write_50 : decode cX4_write 50 = .ok (.imul, 1) := by decide +kernel
theorem dX4_write_51 : decode cX4_write 51 = .ok (.iload_n 2, 1) := by decide +kernel
theorem dX4_write_52 : decode cX4_write 52 = .ok (.iadd, 1) := by decide +kernel
theorem dX4_write_53 : decode cX4_write 53 = .ok (.aload_n 0, 1) := by decide +kernel
theorem dX4_write_54 : decode cX4_write 54 = .ok (.getfield 25, 3) := by decide +kernel
theorem dX4_write_57 : decode cX4_write 57 = .ok (.iload_n 1, 1) := by decide +kernel
theorem dX4_write_58 : decode cX4_write 58 = .ok (.iaload, 1) := by decide +kernel
theorem dX4_write_59 : decode cX4_write 59 = .ok (.bipush 8, 2) := by decide +kernel
theorem dX4_write_61 : decode cX4_write 61 = .ok (.if_icmp .ne 8, 3) := by decide +kernel
theorem dX4_write_64 : decode cX4_write 64 = .ok (.iload_n 3, 1) := by decide +kernel
theorem dX4_write_65 : decode cX4_write 65 = .ok (.i2b, 1) := by decide +kernel
theorem dX4_write_66 : decode cX4_write 66 = .ok (.goto 20, 3) := by decide +kernel
theorem dX4_write_69 : decode cX4_write 69 = .ok (.aload_n 0, 1) := by decide +kernel
theorem dX4_write_70 : decode cX4_write 70 = .ok (.getfield 25, 3) := by decide +kernel
theorem dX4_write_73 : decode cX4_write 73 = .ok (.iload_n 1, 1) := by decide +kernel
theorem dX4_write_74 : decode cX4_write 74 = .ok (.iaload, 1) := by decide +kernel
theorem dX4_write_75 : decode cX4_write 75 = .ok (.bipush 16, 2) := by decide +kernel
theorem dX4_write_77 : decode cX4_write 77 = .ok (.if_icmp .ne 8, 3) := by decide +kernel
theorem dX4_write_80 : decode cX4_write 80 = .ok (.iload_n 3, 1) := by decide +kernel
theorem dX4_write_81 : decode cX4_write 81 = .ok (.i2s, 1) := by decide +kernel
theorem dX4_write_82 : decode cX4_write 82 = .ok (.goto 4, 3) := by decide +kernel
theorem dX4_write_85 : decode cX4_write 85 = .ok (.iload_n 3, 1) := by decide +kernel
theorem dX4_write_86 : decode cX4_write 86 = .ok (.iastore, 1) := by decide +kernel
theorem dX4_write_87 : decode cX4_write 87 = .ok (.iconst 1, 1) := by decide +kernel
theorem dX4_write_88 : decode cX4_write 88 = .ok (.ireturn, 1) := by decide +kernel
theorem dX4_copy_0 : decode cX4_copy 0 = .ok (.iload_n 1, 1) := by decide +kernel
theorem dX4_copy_1 : decode cX4_copy 1 = .ok (.invokestatic 305, 3) := by decide +kernel
theorem dX4_copy_4 : decode cX4_copy 4 = .ok (.ifCond .eq 10, 3) := by decide +kernel
theorem dX4_copy_7 : decode cX4_copy 7 = .ok (.iload_n 3, 1) := by decide +kernel
theorem dX4_copy_8 : decode cX4_copy 8 = .ok (.invokestatic 305, 3) := by decide +kernel
theorem dX4_copy_11 : decode cX4_copy 11 = .ok (.ifCond .ne 9, 3) := by decide +kernel
theorem dX4_copy_14 : decode cX4_copy 14 = .ok (.aload_n 0, 1) := by decide +kernel
theorem dX4_copy_15 : decode cX4_copy 15 = .ok (.iconst 0, 1) := by decide +kernel
theorem dX4_copy_16 : decode cX4_copy 16 = .ok (.invokevirtual 76, 3) := by decide +kernel
theorem dX4_copy_19 : decode cX4_copy 19 = .ok (.ireturn, 1) := by decide +kernel
theorem dX4_copy_20 : decode cX4_copy 20 = .ok (.aload_n 0, 1) := by decide +kernel
theorem dX4_copy_21 : decode cX4_copy 21 = .ok (.getfield 25, 3) := by decide +kernel
theorem dX4_copy_24 : decode cX4_copy 24 = .ok (.iload_n 1, 1) := by decide +kernel
theorem dX4_copy_25 : decode cX4_copy 25 = .ok (.iaload, 1) := by decide +kernel
theorem dX4_copy_26 : decode cX4_copy 26 = .ok (.ifCond .eq 12, 3) := by decide +kernel
theorem dX4_copy_29 : decode cX4_copy 29 = .ok (.aload_n 0, 1) := by decide +kernel
theorem dX4_copy_30 : decode cX4_copy 30 = .ok (.getfield 25, 3) := by decide +kernel
theorem dX4_copy_33 : decode cX4_copy 33 = .ok (.iload_n 3, 1) := by decide +kernel
theorem dX4_copy_34 : decode cX4_copy 34 = .ok (.iaload, 1) := by decide +kernel
theorem dX4_copy_35 : decode cX4_copy 35 = .ok (.ifCond .ne 9, 3) := by decide +kernel
theorem dX4_copy_38 : decode cX4_copy 38 = .ok (.aload_n 0, 1) := by decide +kernel
theorem dX4_copy_39 : decode cX4_copy 39 = .ok (.iconst 5, 1) := by decide +kernel
theorem dX4_copy_40 : decode cX4_copy 40 = .ok (.invokevirtual 76, 3) := by decide +kernel
theorem dX4_copy_43 : decode cX4_copy 43 = .ok (.ireturn, 1) := by decide +kernel
theorem dX4_copy_44 : decode cX4_copy 44 = .ok (.aload_n 0, 1) := by decide +kernel
theorem dX4_copy_45 : decode cX4_copy 45 = .ok (.getfield 25, 3) := by decide +kernel
theorem dX4_copy_48 : decode cX4_copy 48 = .ok (.iload_n 1, 1) := by decide +kernel
theorem dX4_copy_49 : decode cX4_copy 49 = .ok (.iaload, 1) := by decide +kernel
theorem dX4_copy_50 : decode cX4_copy 50 = .ok (.aload_n 0, 1) := by decide +kernel
theorem dX4_copy_51 : decode cX4_copy 51 = .ok (.getfield 25, 3) := by decide +kernel
theorem dX4_copy_54 : decode cX4_copy 54 = .ok (.iload_n 3, 1) := by decide +kernel
theorem dX4_copy_55 : decode cX4_copy 55 = .ok (.iaload, 1) := by decide +kernel
theorem dX4_copy_56 : decode cX4_copy 56 = .ok (.if_icmp .eq 9, 3) := by decide +kernel
theorem dX4_copy_59 : decode cX4_copy 59 = .ok (.aload_n 0, 1) := by decide +kernel
theorem dX4_copy_60 : decode cX4_copy 60 = .ok (.iconst 2, 1) := by decide +kernel
theorem dX4_copy_61 : decode cX4_copy 61 = .ok (.invokevirtual 76, 3) := by decide +kernel
theorem dX4_copy_64 : decode cX4_copy 64 = .ok (.ireturn, 1) := by decide +kernel
theorem dX4_copy_65 : decode cX4_copy 65 = .ok (.iload 5, 2) := by decide +kernel
theorem dX4_copy_67 : decode cX4_copy 67 = .ok (.ifCond .lt 51, 3) := by decide +kernel
theorem dX4_copy_70 : decode cX4_copy 70 = .ok (.iload_n 2, 1) := by decide +kernel
theorem dX4_copy_71 : decode cX4_copy 71 = .ok (.ifCond .lt 47, 3) := by decide +kernel
theorem dX4_copy_74 : decode cX4_copy 74 = .ok (.iload 4, 2) := by decide +kernel
theorem dX4_copy_76 : decode cX4_copy 76 = .ok (.ifCond .lt 42, 3) := by decide +kernel
theorem dX4_copy_79 : decode cX4_copy 79 = .ok (.iload_n 2, 1) := by decide +kernel
theorem dX4_copy_80 : decode cX4_copy 80 = .ok (.i2l, 1) := by decide +kernel
theorem dX4_copy_81 : decode cX4_copy 81 = .ok (.iload 5, 2) := by decide +kernel
theorem dX4_copy_83 : decode cX4_copy 83 = .ok (.i2l, 1) := by decide +kernel
theorem dX4_copy_84 : decode cX4_copy 84 = .ok (.ladd, 1) := by decide +kernel
theorem dX4_copy_85 : decode cX4_copy 85 = .ok (.aload_n 0, 1) := by decide +kernel
theorem dX4_copy_86 : decode cX4_copy 86 = .ok (.getfield 28, 3) := by decide +kernel
theorem dX4_copy_89 : decode cX4_copy 89 = .ok (.iload_n 1, 1) := by decide +kernel
theorem dX4_copy_90 : decode cX4_copy 90 = .ok (.iaload, 1) := by decide +kernel
theorem dX4_copy_91 : decode cX4_copy 91 = .ok (.i2l, 1) := by decide +kernel
theorem dX4_copy_92 : decode cX4_copy 92 = .ok (.lcmp, 1) := by decide +kernel
theorem dX4_copy_93 : decode cX4_copy 93 = .ok (.ifCond .gt 25, 3) := by decide +kernel
theorem dX4_copy_96 : decode cX4_copy 96 = .ok (.iload 4, 2) := by decide +kernel
theorem dX4_copy_98 : decode cX4_copy 98 = .ok (.i2l, 1) := by decide +kernel
theorem dX4_copy_99 : decode cX4_copy 99 = .ok (.iload 5, 2) := by decide +kernel
theorem dX4_copy_101 : decode cX4_copy 101 = .ok (.i2l, 1) := by decide +kernel
theorem dX4_copy_102 : decode cX4_copy 102 = .ok (.ladd, 1) := by decide +kernel
theorem dX4_copy_103 : decode cX4_copy 103 = .ok (.aload_n 0, 1) := by decide +kernel
theorem dX4_copy_104 : decode cX4_copy 104 = .ok (.getfield 28, 3) := by decide +kernel
theorem dX4_copy_107 : decode cX4_copy 107 = .ok (.iload_n 3, 1) := by decide +kernel
theorem dX4_copy_108 : decode cX4_copy 108 = .ok (.iaload, 1) := by decide +kernel
theorem dX4_copy_109 : decode cX4_copy 109 = .ok (.i2l, 1) := by decide +kernel
theorem dX4_copy_110 : decode cX4_copy 110 = .ok (.lcmp, 1) := by decide +kernel
theorem dX4_copy_111 : decode cX4_copy 111 = .ok (.ifCond .gt 7, 3) := by decide +kernel
theorem dX4_copy_114 : decode cX4_copy 114 = .ok (.iconst 1, 1) := by decide +kernel
theorem dX4_copy_115 : decode cX4_copy 115 = .ok (.goto 4, 3) := by decide +kernel
theorem dX4_copy_118 : decode cX4_copy 118 = .ok (.iconst 0, 1) := by decide +kernel
theorem dX4_copy_119 : decode cX4_copy 119 = .ok (.istore 6, 2) := by decide +kernel
theorem dX4_copy_121 : decode cX4_copy 121 = .ok (.iload 6, 2) := by decide +kernel
theorem dX4_copy_123 : decode cX4_copy 123 = .ok (.ifCond .ne 9, 3) := by decide +kernel
theorem dX4_copy_126 : decode cX4_copy 126 = .ok (.aload_n 0, 1) := by decide +kernel
theorem dX4_copy_127 : decode cX4_copy 127 = .ok (.iconst 0, 1) := by decide +kernel
theorem dX4_copy_128 : decode cX4_copy 128 = .ok (.invokevirtual 76, 3) := by decide +kernel
theorem dX4_copy_131 : decode cX4_copy 131 = .ok (.ireturn, 1) := by decide +kernel
theorem dX4_copy_132 : decode cX4_copy 132 = .ok (.iconst 0, 1) := by decide +kernel
theorem dX4_copy_133 : decode cX4_copy 133 = .ok (.istore 7, 2) := by decide +kernel
theorem dX4_copy_135 : decode cX4_copy 135 = .ok (.iload 7, 2) := by decide +kernel
theorem dX4_copy_137 : decode cX4_copy 137 = .ok (.iload 5, 2) := by decide +kernel
theorem dX4_copy_139 : decode cX4_copy 139 = .ok (.if_icmp .ge 30, 3) := by decide +kernel
theorem dX4_copy_142 : decode cX4_copy 142 = .ok (.aload_n 0, 1) := by decide +kernel
theorem dX4_copy_143 : decode cX4_copy 143 = .ok (.getfield 34, 3) := by decide +kernel
theorem dX4_copy_146 : decode cX4_copy 146 = .ok (.iload 7, 2) := by decide +kernel
theorem dX4_copy_148 : decode cX4_copy 148 = .ok (.aload_n 0, 1) := by decide +kernel
theorem dX4_copy_149 : decode cX4_copy 149 = .ok (.getfield 31, 3) := by decide +kernel
theorem dX4_copy_152 : decode cX4_copy 152 = .ok (.bipush 40, 2) := by decide +kernel
theorem dX4_copy_154 : decode cX4_copy 154 = .ok (.iload_n 1, 1) := by decide +kernel
theorem dX4_copy_155 : decode cX4_copy 155 = .ok (.imul, 1) := by decide +kernel
theorem dX4_copy_156 : decode cX4_copy 156 = .ok (.iload_n 2, 1) := by decide +kernel
theorem dX4_copy_157 : decode cX4_copy 157 = .ok (.iadd, 1) := by decide +kernel
theorem dX4_copy_158 : decode cX4_copy 158 = .ok (.iload 7, 2) := by decide +kernel
theorem dX4_copy_160 : decode cX4_copy 160 = .ok (.iadd, 1) := by decide +kernel
theorem dX4_copy_161 : decode cX4_copy 161 = .ok (.iaload, 1) := by decide +kernel
theorem dX4_copy_162 : decode cX4_copy 162 = .ok (.iastore, 1) := by decide +kernel
theorem dX4_copy_163 : decode cX4_copy 163 = .ok (.iinc 7 1, 3) := by decide +kernel
theorem dX4_copy_166 : decode cX4_copy 166 = .ok (.goto (-31), 3) := by decide +kernel
theorem dX4_copy_169 : decode cX4_copy 169 = .ok (.iconst 0, 1) := by decide +kernel
theorem dX4_copy_170 : decode cX4_copy 170 = .ok (.istore 7, 2) := by decide +kernel
theorem dX4_copy_172 : decode cX4_copy 172 = .ok (.iload 7, 2) := by decide +kernel
theorem dX4_copy_174 : decode cX4_copy 174 = .ok (.iload 5, 2) := by decide +kernel
theorem dX4_copy_176 : decode cX4_copy 176 = .ok (.if_icmp .ge 31, 3) := by decide +kernel
theorem dX4_copy_179 : decode cX4_copy 179 = .ok (.aload_n 0, 1) := by decide +kernel
theorem dX4_copy_180 : decode cX4_copy 180 = .ok (.getfield 31, 3) := by decide +kernel
theorem dX4_copy_183 : decode cX4_copy 183 = .ok (.bipush 40, 2) := by decide +kernel
theorem dX4_copy_185 : decode cX4_copy 185 = .ok (.iload_n 3, 1) := by decide +kernel
theorem dX4_copy_186 : decode cX4_copy 186 = .ok (.imul, 1) := by decide +kernel
theorem dX4_copy_187 : decode cX4_copy 187 = .ok (.iload 4, 2) := by decide +kernel
theorem dX4_copy_189 : decode cX4_copy 189 = .ok (.iadd, 1) := by decide +kernel
theorem dX4_copy_190 : decode cX4_copy 190 = .ok (.iload 7, 2) := by decide +kernel
theorem dX4_copy_192 : decode cX4_copy 192 = .ok (.iadd, 1) := by decide +kernel
theorem dX4_copy_193 : decode cX4_copy 193 = .ok (.aload_n 0, 1) := by decide +kernel
theorem dX4_copy_194 : decode cX4_copy 194 = .ok (.getfield 34, 3) := by decide +kernel
theorem dX4_copy_197 : decode cX4_copy 197 = .ok (.iload 7, 2) := by decide +kernel
theorem dX4_copy_199 : decode cX4_copy 199 = .ok (.iaload, 1) := by decide +kernel
theorem dX4_copy_200 : decode cX4_copy 200 = .ok (.iastore, 1) := by decide +kernel
theorem dX4_copy_201 : decode cX4_copy 201 = .ok (.iinc 7 1, 3) := by decide +kernel
theorem dX4_copy_204 : decode cX4_copy 204 = .ok (.goto (-32), 3) := by decide +kernel
theorem dX4_copy_207 : decode cX4_copy 207 = .ok (.iload 5, 2) := by decide +kernel
theorem dX4_copy_209 : decode cX4_copy 209 = .ok (.ireturn, 1) := by decide +kernel
theorem dX4_load_0 : decode cX4_load 0 = .ok (.aload_n 0, 1) := by decide +kernel
theorem dX4_load_1 : decode cX4_load 1 = .ok (.iload_n 1, 1) := by decide +kernel
theorem dX4_load_2 : decode cX4_load 2 = .ok (.invokevirtual 192, 3) := by decide +kernel
theorem dX4_load_5 : decode cX4_load 5 = .ok (.istore_n 2, 1) := by decide +kernel
theorem dX4_load_6 : decode cX4_load 6 = .ok (.iload_n 2, 1) := by decide +kernel
theorem dX4_load_7 : decode cX4_load 7 = .ok (.ifCond .lt 9, 3) := by decide +kernel
theorem dX4_load_10 : decode cX4_load 10 = .ok (.aload_n 0, 1) := by decide +kernel
theorem dX4_load_11 : decode cX4_load 11 = .ok (.iload_n 2, 1) := by decide +kernel
theorem dX4_load_12 : decode cX4_load 12 = .ok (.invokevirtual 76, 3) := by decide +kernel
theorem dX4_load_15 : decode cX4_load 15 = .ok (.ireturn, 1) := by decide +kernel
theorem dX4_load_16 : decode cX4_load 16 = .ok (.iconst 0, 1) := by decide +kernel
theorem dX4_load_17 : decode cX4_load 17 = .ok (.istore_n 3, 1) := by decide +kernel
theorem dX4_load_18 : decode cX4_load 18 = .ok (.iload_n 3, 1) := by decide +kernel
theorem dX4_load_19 : decode cX4_load 19 = .ok (.aload_n 0, 1) := by decide +kernel
theorem dX4_load_20 : decode cX4_load 20 = .ok (.getfield 28, 3) := by decide +kernel
theorem dX4_load_23 : decode cX4_load 23 = .ok (.iload_n 1, 1) := by decide +kernel
theorem dX4_load_24 : decode cX4_load 24 = .ok (.iaload, 1) := by decide +kernel
theorem dX4_load_25 : decode cX4_load 25 = .ok (.if_icmp .ge 58, 3) := by decide +kernel
theorem dX4_load_28 : decode cX4_load 28 = .ok (.iload_n 3, 1) := by decide +kernel
theorem dX4_load_29 : decode cX4_load 29 = .ok (.aload_n 0, 1) := by decide +kernel
theorem dX4_load_30 : decode cX4_load 30 = .ok (.getfield 9, 3) := by decide +kernel
theorem dX4_load_33 : decode cX4_load 33 = .ok (.iconst 2, 1) := by decide +kernel
theorem dX4_load_34 : decode cX4_load 34 = .ok (.iaload, 1) := by decide +kernel
theorem dX4_load_35 : decode cX4_load 35 = .ok (.if_icmp .ge 48, 3) := by decide +kernel
theorem dX4_load_38 : decode cX4_load 38 = .ok (.aload_n 0, 1) := by decide +kernel
theorem dX4_load_39 : decode cX4_load 39 = .ok (.getfield 31, 3) := by decide +kernel
theorem dX4_load_42 : decode cX4_load 42 = .ok (.bipush 40, 2) := by decide +kernel
theorem dX4_load_44 : decode cX4_load 44 = .ok (.iload_n 1, 1) := by decide +kernel
theorem dX4_load_45 : decode cX4_load 45 = .ok (.imul, 1) := by decide +kernel
theorem dX4_load_46 : decode cX4_load 46 = .ok (.iload_n 3, 1) := by decide +kernel
theorem dX4_load_47 : decode cX4_load 47 = .ok (.iadd, 1) := by decide +kernel
theorem dX4_load_48 : decode cX4_load 48 = .ok (.iaload, 1) := by decide +kernel
theorem dX4_load_49 : decode cX4_load 49 = .ok (.i2l, 1) := by decide +kernel
theorem dX4_load_50 : decode cX4_load 50 = .ok (.lconst 1, 1) := by decide +kernel
theorem dX4_load_51 : decode cX4_load 51 = .ok (.ldc2_w 52, 3) := by decide +kernel
theorem dX4_load_54 : decode cX4_load 54 = .ok (.invokestatic 42, 3) := by decide +kernel
theorem dX4_load_57 : decode cX4_load 57 = .ok (.ifCond .eq 26, 3) := by decide +kernel
theorem dX4_load_60 : decode cX4_load 60 = .ok (.aload_n 0, 1) := by decide +kernel
theorem dX4_load_61 : decode cX4_load 61 = .ok (.iload_n 3, 1) := by decide +kernel
theorem dX4_load_62 : decode cX4_load 62 = .ok (.iconst 3, 1) := by decide +kernel
theorem dX4_load_63 : decode cX4_load 63 = .ok (.aload_n 0, 1) := by decide +kernel
theorem dX4_load_64 : decode cX4_load 64 = .ok (.getfield 31, 3) := by decide +kernel
theorem dX4_load_67 : decode cX4_load 67 = .ok (.bipush 40, 2) := by decide +kernel
theorem dX4_load_69 : decode cX4_load 69 = .ok (.iload_n 1, 1) := by decide +kernel
theorem dX4_load_70 : decode cX4_load 70 = .ok (.imul, 1) := by decide +kernel
theorem dX4_load_71 : decode cX4_load 71 = .ok (.iload_n 3, 1) := by decide +kernel
theorem dX4_load_72 : decode cX4_load 72 = .ok (.iadd, 1) := by decide +kernel
theorem dX4_load_73 : decode cX4_load 73 = .ok (.iaload, 1) := by decide +kernel
theorem dX4_load_74 : decode cX4_load 74 = .ok (.invokevirtual 66, 3) := by decide +kernel
theorem dX4_load_77 : decode cX4_load 77 = .ok (.iinc 3 1, 3) := by decide +kernel
theorem dX4_load_80 : decode cX4_load 80 = .ok (.goto (-62), 3) := by decide +kernel
theorem dX4_load_83 : decode cX4_load 83 = .ok (.iload_n 3, 1) := by decide +kernel
theorem dX4_load_84 : decode cX4_load 84 = .ok (.ireturn, 1) := by decide +kernel
theorem dX4_judge_0 : decode cX4_judge 0 = .ok (.aload_n 0, 1) := by decide +kernel
theorem dX4_judge_1 : decode cX4_judge 1 = .ok (.iload_n 1, 1) := by decide +kernel
theorem dX4_judge_2 : decode cX4_judge 2 = .ok (.invokevirtual 192, 3) := by decide +kernel
theorem dX4_judge_5 : decode cX4_judge 5 = .ok (.istore_n 2, 1) := by decide +kernel
theorem dX4_judge_6 : decode cX4_judge 6 = .ok (.iload_n 2, 1) := by decide +kernel
theorem dX4_judge_7 : decode cX4_judge 7 = .ok (.ifCond .lt 9, 3) := by decide +kernel
theorem dX4_judge_10 : decode cX4_judge 10 = .ok (.aload_n 0, 1) := by decide +kernel
theorem dX4_judge_11 : decode cX4_judge 11 = .ok (.iload_n 2, 1) := by decide +kernel
theorem dX4_judge_12 : decode cX4_judge 12 = .ok (.invokevirtual 76, 3) := by decide +kernel
theorem dX4_judge_15 : decode cX4_judge 15 = .ok (.ireturn, 1) := by decide +kernel
theorem dX4_judge_16 : decode cX4_judge 16 = .ok (.iconst 0, 1) := by decide +kernel
theorem dX4_judge_17 : decode cX4_judge 17 = .ok (.istore_n 3, 1) := by decide +kernel
theorem dX4_judge_18 : decode cX4_judge 18 = .ok (.iload_n 3, 1) := by decide +kernel
theorem dX4_judge_19 : decode cX4_judge 19 = .ok (.aload_n 0, 1) := by decide +kernel
theorem dX4_judge_20 : decode cX4_judge 20 = .ok (.getfield 28, 3) := by decide +kernel
theorem dX4_judge_23 : decode cX4_judge 23 = .ok (.iload_n 1, 1) := by decide +kernel
theorem dX4_judge_24 : decode cX4_judge 24 = .ok (.iaload, 1) := by decide +kernel
theorem dX4_judge_25 : decode cX4_judge 25 = .ok (.if_icmp .ge 37, 3) := by decide +kernel
theorem dX4_judge_28 : decode cX4_judge 28 = .ok (.iload_n 3, 1) := by decide +kernel
theorem dX4_judge_29 : decode cX4_judge 29 = .ok (.bipush 24, 2) := by decide +kernel
theorem dX4_judge_31 : decode cX4_judge 31 = .ok (.if_icmp .ge 31, 3) := by decide +kernel
theorem dX4_judge_34 : decode cX4_judge 34 = .ok (.aload_n 0, 1) := by decide +kernel
theorem dX4_judge_35 : decode cX4_judge 35 = .ok (.getfield 9, 3) := by decide +kernel
theorem dX4_judge_38 : decode cX4_judge 38 = .ok (.iconst 5, 1) := by decide +kernel
theorem dX4_judge_39 : decode cX4_judge 39 = .ok (.iload_n 3, 1) := by decide +kernel
theorem dX4_judge_40 : decode cX4_judge 40 = .ok (.iadd, 1) := by decide +kernel
theorem dX4_judge_41 : decode cX4_judge 41 = .ok (.iaload, 1) := by decide +kernel
theorem dX4_judge_42 : decode cX4_judge 42 = .ok (.aload_n 0, 1) := by decide +kernel
theorem dX4_judge_43 : decode cX4_judge 43 = .ok (.getfield 31, 3) := by decide +kernel
theorem dX4_judge_46 : decode cX4_judge 46 = .ok (.bipush 40, 2) := by decide +kernel
theorem dX4_judge_48 : decode cX4_judge 48 = .ok (.iload_n 1, 1) := by decide +kernel
theorem dX4_judge_49 : decode cX4_judge 49 = .ok (.imul, 1) := by decide +kernel
theorem dX4_judge_50 : decode cX4_judge 50 = .ok (.iload_n 3, 1) := by decide +kernel
theorem dX4_judge_51 : decode cX4_judge 51 = .ok (.iadd, 1) := by decide +kernel
theorem dX4_judge_52 : decode cX4_judge 52 = .ok (.iaload, 1) := by decide +kernel
theorem dX4_judge_53 : decode cX4_judge 53 = .ok (.if_icmp .ne 9, 3) := by decide +kernel
theorem dX4_judge_56 : decode cX4_judge 56 = .ok (.iinc 3 1, 3) := by decide +kernel
theorem dX4_judge_59 : decode cX4_judge 59 = .ok (.goto (-41), 3) := by decide +kernel
theorem dX4_judge_62 : decode cX4_judge 62 = .ok (.iload_n 3, 1) := by decide +kernel
theorem dX4_judge_63 : decode cX4_judge 63 = .ok (.aload_n 0, 1) := by decide +kernel
theorem dX4_judge_64 : decode cX4_judge 64 = .ok (.getfield 28, 3) := by decide +kernel
theorem dX4_judge_67 : decode cX4_judge 67 = .ok (.iload_n 1, 1) := by decide +kernel
theorem dX4_judge_68 : decode cX4_judge 68 = .ok (.iaload, 1) := by decide +kernel
theorem dX4_judge_69 : decode cX4_judge 69 = .ok (.if_icmp .ne 7, 3) := by decide +kernel
theorem dX4_judge_72 : decode cX4_judge 72 = .ok (.iconst 0, 1) := by decide +kernel
theorem dX4_judge_73 : decode cX4_judge 73 = .ok (.goto 6, 3) := by decide +kernel
theorem dX4_judge_76 : decode cX4_judge 76 = .ok (.iload_n 3, 1) := by decide +kernel
theorem dX4_judge_77 : decode cX4_judge 77 = .ok (.iconst 1, 1) := by decide +kernel
theorem dX4_judge_78 : decode cX4_judge 78 = .ok (.iadd, 1) := by decide +kernel
theorem dX4_judge_79 : decode cX4_judge 79 = .ok (.ireturn, 1) := by decide +kernel
theorem dX4_image_0 : decode cX4_image 0 = .ok (.aload_n 0, 1) := by decide +kernel
theorem dX4_image_1 : decode cX4_image 1 = .ok (.getfield 9, 3) := by decide +kernel
theorem dX4_image_4 : decode cX4_image 4 = .ok (.aload_n 0, 1) := by decide +kernel
theorem dX4_image_5 : decode cX4_image 5 = .ok (.getfield 13, 3) := by decide +kernel
theorem dX4_image_8 : decode cX4_image 8 = .ok (.invokestatic 38, 3) := by decide +kernel
theorem dX4_image_11 : decode cX4_image 11 = .ok (.aload_n 0, 1) := by decide +kernel
theorem dX4_image_12 : decode cX4_image 12 = .ok (.iconst 1, 1) := by decide +kernel
theorem dX4_image_13 : decode cX4_image 13 = .ok (.putfield 308, 3) := by decide +kernel
theorem dX4_image_16 : decode cX4_image 16 = .ok (.iconst 1, 1) := by decide +kernel
theorem dX4_image_17 : decode cX4_image 17 = .ok (.ireturn, 1) := by decide +kernel
theorem dX4_undo_0 : decode cX4_undo 0 = .ok (.aload_n 0, 1) := by decide +kernel
theorem dX4_undo_1 : decode cX4_undo 1 = .ok (.getfield 308, 3) := by decide +kernel
theorem dX4_undo_4 : decode cX4_undo 4 = .ok (.ifCond .ne 9, 3) := by decide +kernel
theorem dX4_undo_7 : decode cX4_undo 7 = .ok (.aload_n 0, 1) := by decide +kernel
theorem dX4_undo_8 : decode cX4_undo 8 = .ok (.iconst 3, 1) := by decide +kernel
theorem dX4_undo_9 : decode cX4_undo 9 = .ok (.invokevirtual 76, 3) := by decide +kernel
theorem dX4_undo_12 : decode cX4_undo 12 = .ok (.ireturn, 1) := by decide +kernel
theorem dX4_undo_13 : decode cX4_undo 13 = .ok (.aload_n 0, 1) := by decide +kernel
theorem dX4_undo_14 : decode cX4_undo 14 = .ok (.getfield 13, 3) := by decide +kernel
theorem dX4_undo_17 : decode cX4_undo 17 = .ok (.aload_n 0, 1) := by decide +kernel
theorem dX4_undo_18 : decode cX4_undo 18 = .ok (.getfield 9, 3) := by decide +kernel
theorem dX4_undo_21 : decode cX4_undo 21 = .ok (.invokestatic 38, 3) := by decide +kernel
theorem dX4_undo_24 : decode cX4_undo 24 = .ok (.aload_n 0, 1) := by decide +kernel
theorem dX4_undo_25 : decode cX4_undo 25 = .ok (.getfield 9, 3) := by decide +kernel
theorem dX4_undo_28 : decode cX4_undo 28 = .ok (.iconst 0, 1) := by decide +kernel
theorem dX4_undo_29 : decode cX4_undo 29 = .ok (.iaload, 1) := by decide +kernel
theorem dX4_undo_30 : decode cX4_undo 30 = .ok (.ireturn, 1) := by decide +kernel
theorem dX4_tear_0 : decode cX4_tear 0 = .ok (.aload_n 0, 1) := by decide +kernel
theorem dX4_tear_1 : decode cX4_tear 1 = .ok (.getfield 308, 3) := by decide +kernel
theorem dX4_tear_4 : decode cX4_tear 4 = .ok (.ifCond .eq 7, 3) := by decide +kernel
theorem dX4_tear_7 : decode cX4_tear 7 = .ok (.iconst 1, 1) := by decide +kernel
theorem dX4_tear_8 : decode cX4_tear 8 = .ok (.goto 4, 3) := by decide +kernel
theorem dX4_tear_11 : decode cX4_tear 11 = .ok (.iconst 0, 1) := by decide +kernel
theorem dX4_tear_12 : decode cX4_tear 12 = .ok (.istore_n 1, 1) := by decide +kernel
theorem dX4_tear_13 : decode cX4_tear 13 = .ok (.aload_n 0, 1) := by decide +kernel
theorem dX4_tear_14 : decode cX4_tear 14 = .ok (.iconst 0, 1) := by decide +kernel
theorem dX4_tear_15 : decode cX4_tear 15 = .ok (.putfield 308, 3) := by decide +kernel
theorem dX4_tear_18 : decode cX4_tear 18 = .ok (.iload_n 1, 1) := by decide +kernel
theorem dX4_tear_19 : decode cX4_tear 19 = .ok (.ireturn, 1) := by decide +kernel
theorem dX4_held_0 : decode cX4_held 0 = .ok (.iconst 0, 1) := by decide +kernel
theorem dX4_held_1 : decode cX4_held 1 = .ok (.istore_n 1, 1) := by decide +kernel
theorem dX4_held_2 : decode cX4_held 2 = .ok (.iconst 0, 1) := by decide +kernel
theorem dX4_held_3 : decode cX4_held 3 = .ok (.istore_n 2, 1) := by decide +kernel
theorem dX4_held_4 : decode cX4_held 4 = .ok (.iload_n 2, 1) := by decide +kernel
theorem dX4_held_5 : decode cX4_held 5 = .ok (.bipush 10, 2) := by decide +kernel
theorem dX4_held_7 : decode cX4_held 7 = .ok (.if_icmp .ge 29, 3) := by decide +kernel
theorem dX4_held_10 : decode cX4_held 10 = .ok (.iload_n 1, 1) := by decide +kernel
theorem dX4_held_11 : decode cX4_held 11 = .ok (.aload_n 0, 1) := by decide +kernel
theorem dX4_held_12 : decode cX4_held 12 = .ok (.getfield 9, 3) := by decide +kernel
theorem dX4_held_15 : decode cX4_held 15 = .ok (.bipush 125, 2) := by decide +kernel
theorem dX4_held_17 : decode cX4_held 17 = .ok (.iload_n 2, 1) := by decide +kernel
theorem dX4_held_18 : decode cX4_held 18 = .ok (.iadd, 1) := by decide +kernel
theorem dX4_held_19 : decode cX4_held 19 = .ok (.iaload, 1) := by decide +kernel
theorem dX4_held_20 : decode cX4_held 20 = .ok (.ifCond .ge 7, 3) := by decide +kernel
theorem dX4_held_23 : decode cX4_held 23 = .ok (.iconst 0, 1) := by decide +kernel
theorem dX4_held_24 : decode cX4_held 24 = .ok (.goto 4, 3) := by decide +kernel
theorem dX4_held_27 : decode cX4_held 27 = .ok (.iconst 1, 1) := by decide +kernel
theorem dX4_held_28 : decode cX4_held 28 = .ok (.iadd, 1) := by decide +kernel
theorem dX4_held_29 : decode cX4_held 29 = .ok (.istore_n 1, 1) := by decide +kernel
theorem dX4_held_30 : decode cX4_held 30 = .ok (.iinc 2 1, 3) := by decide +kernel
theorem dX4_held_33 : decode cX4_held 33 = .ok (.goto (-29), 3) := by decide +kernel
theorem dX4_held_36 : decode cX4_held 36 = .ok (.iload_n 1, 1) := by decide +kernel
theorem dX4_held_37 : decode cX4_held 37 = .ok (.ireturn, 1) := by decide +kernel
theorem dX4_count_0 : decode cX4_count 0 = .ok (.iload_n 1, 1) := by decide +kernel
theorem dX4_count_1 : decode cX4_count 1 = .ok (.tableswitch 98 0 7 #[47, 54, 61, 69, 76, 81, 86, 93], 47) := by decide +kernel
theorem dX4_count_48 : decode cX4_count 48 = .ok (.aload_n 0, 1) := by decide +kernel
theorem dX4_count_49 : decode cX4_count 49 = .ok (.getfield 9, 3) := by decide +kernel
theorem dX4_count_52 : decode cX4_count 52 = .ok (.iconst 0, 1) := by decide +kernel
theorem dX4_count_53 : decode cX4_count 53 = .ok (.iaload, 1) := by decide +kernel
theorem dX4_count_54 : decode cX4_count 54 = .ok (.ireturn, 1) := by decide +kernel
theorem dX4_count_55 : decode cX4_count 55 = .ok (.aload_n 0, 1) := by decide +kernel
theorem dX4_count_56 : decode cX4_count 56 = .ok (.getfield 9, 3) := by decide +kernel
theorem dX4_count_59 : decode cX4_count 59 = .ok (.iconst 2, 1) := by decide +kernel
theorem dX4_count_60 : decode cX4_count 60 = .ok (.iaload, 1) := by decide +kernel
theorem dX4_count_61 : decode cX4_count 61 = .ok (.ireturn, 1) := by decide +kernel
theorem dX4_count_62 : decode cX4_count 62 = .ok (.aload_n 0, 1) := by decide +kernel
theorem dX4_count_63 : decode cX4_count 63 = .ok (.invokevirtual 141, 3) := by decide +kernel
theorem dX4_count_66 : decode cX4_count 66 = .ok (.invokestatic 144, 3) := by decide +kernel
theorem dX4_count_69 : decode cX4_count 69 = .ok (.ireturn, 1) := by decide +kernel
theorem dX4_count_70 : decode cX4_count 70 = .ok (.aload_n 0, 1) := by decide +kernel
theorem dX4_count_71 : decode cX4_count 71 = .ok (.getfield 9, 3) := by decide +kernel
theorem dX4_count_74 : decode cX4_count 74 = .ok (.iconst 4, 1) := by decide +kernel
theorem dX4_count_75 : decode cX4_count 75 = .ok (.iaload, 1) := by decide +kernel
theorem dX4_count_76 : decode cX4_count 76 = .ok (.ireturn, 1) := by decide +kernel
theorem dX4_count_77 : decode cX4_count 77 = .ok (.aload_n 0, 1) := by decide +kernel
theorem dX4_count_78 : decode cX4_count 78 = .ok (.invokevirtual 153, 3) := by decide +kernel
theorem dX4_count_81 : decode cX4_count 81 = .ok (.ireturn, 1) := by decide +kernel
theorem dX4_count_82 : decode cX4_count 82 = .ok (.aload_n 0, 1) := by decide +kernel
theorem dX4_count_83 : decode cX4_count 83 = .ok (.getfield 217, 3) := by decide +kernel
theorem dX4_count_86 : decode cX4_count 86 = .ok (.ireturn, 1) := by decide +kernel
theorem dX4_count_87 : decode cX4_count 87 = .ok (.aload_n 0, 1) := by decide +kernel
theorem dX4_count_88 : decode cX4_count 88 = .ok (.getfield 9, 3) := by decide +kernel
theorem dX4_count_91 : decode cX4_count 91 = .ok (.iconst 1, 1) := by decide +kernel
theorem dX4_count_92 : decode cX4_count 92 = .ok (.iaload, 1) := by decide +kernel
theorem dX4_count_93 : decode cX4_count 93 = .ok (.ireturn, 1) := by decide +kernel
theorem dX4_count_94 : decode cX4_count 94 = .ok (.aload_n 0, 1) := by decide +kernel
theorem dX4_count_95 : decode cX4_count 95 = .ok (.invokevirtual 311, 3) := by decide +kernel
theorem dX4_count_98 : decode cX4_count 98 = .ok (.ireturn, 1) := by decide +kernel
theorem dX4_count_99 : decode cX4_count 99 = .ok (.aload_n 0, 1) := by decide +kernel
theorem dX4_count_100 : decode cX4_count 100 = .ok (.iconst 0, 1) := by decide +kernel
theorem dX4_count_101 : decode cX4_count 101 = .ok (.invokevirtual 76, 3) := by decide +kernel
theorem dX4_count_104 : decode cX4_count 104 = .ok (.ireturn, 1) := by decide +kernel
theorem dX4_status_0 : decode cX4_status 0 = .ok (.iload_n 1, 1) := by decide +kernel
theorem dX4_status_1 : decode cX4_status 1 = .ok (.i2l, 1) := by decide +kernel
theorem dX4_status_2 : decode cX4_status 2 = .ok (.ldc2_w 314, 3) := by decide +kernel
theorem dX4_status_5 : decode cX4_status 5 = .ok (.ldc2_w 52, 3) := by decide +kernel
theorem dX4_status_8 : decode cX4_status 8 = .ok (.invokestatic 42, 3) := by decide +kernel
theorem dX4_status_11 : decode cX4_status 11 = .ok (.ifCond .ne 9, 3) := by decide +kernel
theorem dX4_status_14 : decode cX4_status 14 = .ok (.aload_n 0, 1) := by decide +kernel
theorem dX4_status_15 : decode cX4_status 15 = .ok (.iconst 0, 1) := by decide +kernel
theorem dX4_status_16 : decode cX4_status 16 = .ok (.invokevirtual 76, 3) := by decide +kernel
theorem dX4_status_19 : decode cX4_status 19 = .ok (.ireturn, 1) := by decide +kernel
theorem dX4_status_20 : decode cX4_status 20 = .ok (.iconst 0, 1) := by decide +kernel
theorem dX4_status_21 : decode cX4_status 21 = .ok (.istore_n 2, 1) := by decide +kernel
theorem dX4_status_22 : decode cX4_status 22 = .ok (.iconst 0, 1) := by decide +kernel
theorem dX4_status_23 : decode cX4_status 23 = .ok (.istore_n 3, 1) := by decide +kernel
theorem dX4_status_24 : decode cX4_status 24 = .ok (.iload_n 3, 1) := by decide +kernel
theorem dX4_status_25 : decode cX4_status 25 = .ok (.bipush 7, 2) := by decide +kernel
theorem dX4_status_27 : decode cX4_status 27 = .ok (.if_icmp .ge 31, 3) := by decide +kernel
theorem dX4_status_30 : decode cX4_status 30 = .ok (.iload_n 2, 1) := by decide +kernel
theorem dX4_status_31 : decode cX4_status 31 = .ok (.iload_n 1, 1) := by decide +kernel
theorem dX4_status_32 : decode cX4_status 32 = .ok (.ifCond .lt 8, 3) := by decide +kernel
theorem dX4_status_35 : decode cX4_status 35 = .ok (.iload_n 1, 1) := by decide +kernel
theorem dX4_status_36 : decode cX4_status 36 = .ok (.iload_n 3, 1) := by decide +kernel
theorem dX4_status_37 : decode cX4_status 37 = .ok (.if_icmp .ne 12, 3) := by decide +kernel
theorem dX4_status_40 : decode cX4_status 40 = .ok (.aload_n 0, 1) := by decide +kernel
theorem dX4_status_41 : decode cX4_status 41 = .ok (.getfield 19, 3) := by decide +kernel
theorem dX4_status_44 : decode cX4_status 44 = .ok (.iload_n 3, 1) := by decide +kernel
theorem dX4_status_45 : decode cX4_status 45 = .ok (.iaload, 1) := by decide +kernel
theorem dX4_status_46 : decode cX4_status 46 = .ok (.goto 4, 3) := by decide +kernel
theorem dX4_status_49 : decode cX4_status 49 = .ok (.iconst 0, 1) := by decide +kernel
theorem dX4_status_50 : decode cX4_status 50 = .ok (.iadd, 1) := by decide +kernel
theorem dX4_status_51 : decode cX4_status 51 = .ok (.istore_n 2, 1) := by decide +kernel
theorem dX4_status_52 : decode cX4_status 52 = .ok (.iinc 3 1, 3) := by decide +kernel
theorem dX4_status_55 : decode cX4_status 55 = .ok (.goto (-31), 3) := by decide +kernel
theorem dX4_status_58 : decode cX4_status 58 = .ok (.iload_n 2, 1) := by decide +kernel
theorem dX4_status_59 : decode cX4_status 59 = .ok (.ireturn, 1) := by decide +kernel
theorem dJ6_numberOfTrailingZeros_0f7a4_0 : decode cJ6_numberOfTrailingZeros_0f7a4 0 = .ok (.iload_n 0, 1) := by decide +kernel
theorem dJ6_numberOfTrailingZeros_0f7a4_1 : decode cJ6_numberOfTrailingZeros_0f7a4 1 = .ok (.iconst (-1), 1) := by decide +kernel
theorem dJ6_numberOfTrailingZeros_0f7a4_2 : decode cJ6_numberOfTrailingZeros_0f7a4 2 = .ok (.ixor, 1) := by decide +kernel
theorem dJ6_numberOfTrailingZeros_0f7a4_3 : decode cJ6_numberOfTrailingZeros_0f7a4 3 = .ok (.iload_n 0, 1) := by decide +kernel
theorem dJ6_numberOfTrailingZeros_0f7a4_4 : decode cJ6_numberOfTrailingZeros_0f7a4 4 = .ok (.iconst 1, 1) := by decide +kernel
theorem dJ6_numberOfTrailingZeros_0f7a4_5 : decode cJ6_numberOfTrailingZeros_0f7a4 5 = .ok (.isub, 1) := by decide +kernel
theorem dJ6_numberOfTrailingZeros_0f7a4_6 : decode cJ6_numberOfTrailingZeros_0f7a4 6 = .ok (.iand, 1) := by decide +kernel
theorem dJ6_numberOfTrailingZeros_0f7a4_7 : decode cJ6_numberOfTrailingZeros_0f7a4 7 = .ok (.istore_n 0, 1) := by decide +kernel
theorem dJ6_numberOfTrailingZeros_0f7a4_8 : decode cJ6_numberOfTrailingZeros_0f7a4 8 = .ok (.iload_n 0, 1) := by decide +kernel
theorem dJ6_numberOfTrailingZeros_0f7a4_9 : decode cJ6_numberOfTrailingZeros_0f7a4 9 = .ok (.ifCond .gt 8, 3) := by decide +kernel
theorem dJ6_numberOfTrailingZeros_0f7a4_12 : decode cJ6_numberOfTrailingZeros_0f7a4 12 = .ok (.iload_n 0, 1) := by decide +kernel
theorem dJ6_numberOfTrailingZeros_0f7a4_13 : decode cJ6_numberOfTrailingZeros_0f7a4 13 = .ok (.bipush 32, 2) := by decide +kernel
theorem dJ6_numberOfTrailingZeros_0f7a4_15 : decode cJ6_numberOfTrailingZeros_0f7a4 15 = .ok (.iand, 1) := by decide +kernel
theorem dJ6_numberOfTrailingZeros_0f7a4_16 : decode cJ6_numberOfTrailingZeros_0f7a4 16 = .ok (.ireturn, 1) := by decide +kernel
theorem dJ6_numberOfTrailingZeros_0f7a4_17 : decode cJ6_numberOfTrailingZeros_0f7a4 17 = .ok (.iconst 1, 1) := by decide +kernel
theorem dJ6_numberOfTrailingZeros_0f7a4_18 : decode cJ6_numberOfTrailingZeros_0f7a4 18 = .ok (.istore_n 1, 1) := by decide +kernel
theorem dJ6_numberOfTrailingZeros_0f7a4_19 : decode cJ6_numberOfTrailingZeros_0f7a4 19 = .ok (.iload_n 0, 1) := by decide +kernel
theorem dJ6_numberOfTrailingZeros_0f7a4_20 : decode cJ6_numberOfTrailingZeros_0f7a4 20 = .ok (.ldc_w 264, 3) := by decide +kernel
theorem dJ6_numberOfTrailingZeros_0f7a4_23 : decode cJ6_numberOfTrailingZeros_0f7a4 23 = .ok (.if_icmp .le 11, 3) := by decide +kernel
theorem dJ6_numberOfTrailingZeros_0f7a4_26 : decode cJ6_numberOfTrailingZeros_0f7a4 26 = .ok (.iinc 1 16, 3) := by decide +kernel
theorem dJ6_numberOfTrailingZeros_0f7a4_29 : decode cJ6_numberOfTrailingZeros_0f7a4 29 = .ok (.iload_n 0, 1) := by decide +kernel
theorem dJ6_numberOfTrailingZeros_0f7a4_30 : decode cJ6_numberOfTrailingZeros_0f7a4 30 = .ok (.bipush 16, 2) := by decide +kernel
theorem dJ6_numberOfTrailingZeros_0f7a4_32 : decode cJ6_numberOfTrailingZeros_0f7a4 32 = .ok (.iushr, 1) := by decide +kernel
theorem dJ6_numberOfTrailingZeros_0f7a4_33 : decode cJ6_numberOfTrailingZeros_0f7a4 33 = .ok (.istore_n 0, 1) := by decide +kernel
theorem dJ6_numberOfTrailingZeros_0f7a4_34 : decode cJ6_numberOfTrailingZeros_0f7a4 34 = .ok (.iload_n 0, 1) := by decide +kernel
theorem dJ6_numberOfTrailingZeros_0f7a4_35 : decode cJ6_numberOfTrailingZeros_0f7a4 35 = .ok (.sipush 256, 3) := by decide +kernel
theorem dJ6_numberOfTrailingZeros_0f7a4_38 : decode cJ6_numberOfTrailingZeros_0f7a4 38 = .ok (.if_icmp .le 11, 3) := by decide +kernel
theorem dJ6_numberOfTrailingZeros_0f7a4_41 : decode cJ6_numberOfTrailingZeros_0f7a4 41 = .ok (.iinc 1 8, 3) := by decide +kernel
theorem dJ6_numberOfTrailingZeros_0f7a4_44 : decode cJ6_numberOfTrailingZeros_0f7a4 44 = .ok (.iload_n 0, 1) := by decide +kernel
theorem dJ6_numberOfTrailingZeros_0f7a4_45 : decode cJ6_numberOfTrailingZeros_0f7a4 45 = .ok (.bipush 8, 2) := by decide +kernel
theorem dJ6_numberOfTrailingZeros_0f7a4_47 : decode cJ6_numberOfTrailingZeros_0f7a4 47 = .ok (.iushr, 1) := by decide +kernel
theorem dJ6_numberOfTrailingZeros_0f7a4_48 : decode cJ6_numberOfTrailingZeros_0f7a4 48 = .ok (.istore_n 0, 1) := by decide +kernel
theorem dJ6_numberOfTrailingZeros_0f7a4_49 : decode cJ6_numberOfTrailingZeros_0f7a4 49 = .ok (.iload_n 0, 1) := by decide +kernel
theorem dJ6_numberOfTrailingZeros_0f7a4_50 : decode cJ6_numberOfTrailingZeros_0f7a4 50 = .ok (.bipush 16, 2) := by decide +kernel
theorem dJ6_numberOfTrailingZeros_0f7a4_52 : decode cJ6_numberOfTrailingZeros_0f7a4 52 = .ok (.if_icmp .le 10, 3) := by decide +kernel
theorem dJ6_numberOfTrailingZeros_0f7a4_55 : decode cJ6_numberOfTrailingZeros_0f7a4 55 = .ok (.iinc 1 4, 3) := by decide +kernel
theorem dJ6_numberOfTrailingZeros_0f7a4_58 : decode cJ6_numberOfTrailingZeros_0f7a4 58 = .ok (.iload_n 0, 1) := by decide +kernel
theorem dJ6_numberOfTrailingZeros_0f7a4_59 : decode cJ6_numberOfTrailingZeros_0f7a4 59 = .ok (.iconst 4, 1) := by decide +kernel
theorem dJ6_numberOfTrailingZeros_0f7a4_60 : decode cJ6_numberOfTrailingZeros_0f7a4 60 = .ok (.iushr, 1) := by decide +kernel
theorem dJ6_numberOfTrailingZeros_0f7a4_61 : decode cJ6_numberOfTrailingZeros_0f7a4 61 = .ok (.istore_n 0, 1) := by decide +kernel
theorem dJ6_numberOfTrailingZeros_0f7a4_62 : decode cJ6_numberOfTrailingZeros_0f7a4 62 = .ok (.iload_n 0, 1) := by decide +kernel
theorem dJ6_numberOfTrailingZeros_0f7a4_63 : decode cJ6_numberOfTrailingZeros_0f7a4 63 = .ok (.iconst 4, 1) := by decide +kernel
theorem dJ6_numberOfTrailingZeros_0f7a4_64 : decode cJ6_numberOfTrailingZeros_0f7a4 64 = .ok (.if_icmp .le 10, 3) := by decide +kernel
theorem dJ6_numberOfTrailingZeros_0f7a4_67 : decode cJ6_numberOfTrailingZeros_0f7a4 67 = .ok (.iinc 1 2, 3) := by decide +kernel
theorem dJ6_numberOfTrailingZeros_0f7a4_70 : decode cJ6_numberOfTrailingZeros_0f7a4 70 = .ok (.iload_n 0, 1) := by decide +kernel
theorem dJ6_numberOfTrailingZeros_0f7a4_71 : decode cJ6_numberOfTrailingZeros_0f7a4 71 = .ok (.iconst 2, 1) := by decide +kernel
theorem dJ6_numberOfTrailingZeros_0f7a4_72 : decode cJ6_numberOfTrailingZeros_0f7a4 72 = .ok (.iushr, 1) := by decide +kernel
theorem dJ6_numberOfTrailingZeros_0f7a4_73 : decode cJ6_numberOfTrailingZeros_0f7a4 73 = .ok (.istore_n 0, 1) := by decide +kernel
theorem dJ6_numberOfTrailingZeros_0f7a4_74 : decode cJ6_numberOfTrailingZeros_0f7a4 74 = .ok (.iload_n 1, 1) := by decide +kernel
theorem dJ6_numberOfTrailingZeros_0f7a4_75 : decode cJ6_numberOfTrailingZeros_0f7a4 75 = .ok (.iload_n 0, 1) := by decide +kernel
theorem dJ6_numberOfTrailingZeros_0f7a4_76 : decode cJ6_numberOfTrailingZeros_0f7a4 76 = .ok (.iconst 1, 1) := by decide +kernel
theorem dJ6_numberOfTrailingZeros_0f7a4_77 : decode cJ6_numberOfTrailingZeros_0f7a4 77 = .ok (.iushr, 1) := by decide +kernel
theorem dJ6_numberOfTrailingZeros_0f7a4_78 : decode cJ6_numberOfTrailingZeros_0f7a4 78 = .ok (.iadd, 1) := by decide +kernel
theorem dJ6_numberOfTrailingZeros_0f7a4_79 : decode cJ6_numberOfTrailingZeros_0f7a4 79 = .ok (.ireturn, 1) := by decide +kernel
theorem dJ6_bitCount_0f7a4_0 : decode cJ6_bitCount_0f7a4 0 = .ok (.iload_n 0, 1) := by decide +kernel
theorem dJ6_bitCount_0f7a4_1 : decode cJ6_bitCount_0f7a4 1 = .ok (.iload_n 0, 1) := by decide +kernel
theorem dJ6_bitCount_0f7a4_2 : decode cJ6_bitCount_0f7a4 2 = .ok (.iconst 1, 1) := by decide +kernel
theorem dJ6_bitCount_0f7a4_3 : decode cJ6_bitCount_0f7a4 3 = .ok (.iushr, 1) := by decide +kernel
theorem dJ6_bitCount_0f7a4_4 : decode cJ6_bitCount_0f7a4 4 = .ok (.ldc_w 265, 3) := by decide +kernel
theorem dJ6_bitCount_0f7a4_7 : decode cJ6_bitCount_0f7a4 7 = .ok (.iand, 1) := by decide +kernel
theorem dJ6_bitCount_0f7a4_8 : decode cJ6_bitCount_0f7a4 8 = .ok (.isub, 1) := by decide +kernel
theorem dJ6_bitCount_0f7a4_9 : decode cJ6_bitCount_0f7a4 9 = .ok (.istore_n 0, 1) := by decide +kernel
theorem dJ6_bitCount_0f7a4_10 : decode cJ6_bitCount_0f7a4 10 = .ok (.iload_n 0, 1) := by decide +kernel
theorem dJ6_bitCount_0f7a4_11 : decode cJ6_bitCount_0f7a4 11 = .ok (.ldc_w 266, 3) := by decide +kernel
theorem dJ6_bitCount_0f7a4_14 : decode cJ6_bitCount_0f7a4 14 = .ok (.iand, 1) := by decide +kernel
theorem dJ6_bitCount_0f7a4_15 : decode cJ6_bitCount_0f7a4 15 = .ok (.iload_n 0, 1) := by decide +kernel
theorem dJ6_bitCount_0f7a4_16 : decode cJ6_bitCount_0f7a4 16 = .ok (.iconst 2, 1) := by decide +kernel
theorem dJ6_bitCount_0f7a4_17 : decode cJ6_bitCount_0f7a4 17 = .ok (.iushr, 1) := by decide +kernel
theorem dJ6_bitCount_0f7a4_18 : decode cJ6_bitCount_0f7a4 18 = .ok (.ldc_w 266, 3) := by decide +kernel
theorem dJ6_bitCount_0f7a4_21 : decode cJ6_bitCount_0f7a4 21 = .ok (.iand, 1) := by decide +kernel
theorem dJ6_bitCount_0f7a4_22 : decode cJ6_bitCount_0f7a4 22 = .ok (.iadd, 1) := by decide +kernel
theorem dJ6_bitCount_0f7a4_23 : decode cJ6_bitCount_0f7a4 23 = .ok (.istore_n 0, 1) := by decide +kernel
theorem dJ6_bitCount_0f7a4_24 : decode cJ6_bitCount_0f7a4 24 = .ok (.iload_n 0, 1) := by decide +kernel
theorem dJ6_bitCount_0f7a4_25 : decode cJ6_bitCount_0f7a4 25 = .ok (.iload_n 0, 1) := by decide +kernel
theorem dJ6_bitCount_0f7a4_26 : decode cJ6_bitCount_0f7a4 26 = .ok (.iconst 4, 1) := by decide +kernel
theorem dJ6_bitCount_0f7a4_27 : decode cJ6_bitCount_0f7a4 27 = .ok (.iushr, 1) := by decide +kernel
theorem dJ6_bitCount_0f7a4_28 : decode cJ6_bitCount_0f7a4 28 = .ok (.iadd, 1) := by decide +kernel
theorem dJ6_bitCount_0f7a4_29 : decode cJ6_bitCount_0f7a4 29 = .ok (.ldc_w 267, 3) := by decide +kernel
theorem dJ6_bitCount_0f7a4_32 : decode cJ6_bitCount_0f7a4 32 = .ok (.iand, 1) := by decide +kernel
theorem dJ6_bitCount_0f7a4_33 : decode cJ6_bitCount_0f7a4 33 = .ok (.istore_n 0, 1) := by decide +kernel
theorem dJ6_bitCount_0f7a4_34 : decode cJ6_bitCount_0f7a4 34 = .ok (.iload_n 0, 1) := by decide +kernel
theorem dJ6_bitCount_0f7a4_35 : decode cJ6_bitCount_0f7a4 35 = .ok (.iload_n 0, 1) := by decide +kernel
theorem dJ6_bitCount_0f7a4_36 : decode cJ6_bitCount_0f7a4 36 = .ok (.bipush 8, 2) := by decide +kernel
theorem dJ6_bitCount_0f7a4_38 : decode cJ6_bitCount_0f7a4 38 = .ok (.iushr, 1) := by decide +kernel
theorem dJ6_bitCount_0f7a4_39 : decode cJ6_bitCount_0f7a4 39 = .ok (.iadd, 1) := by decide +kernel
theorem dJ6_bitCount_0f7a4_40 : decode cJ6_bitCount_0f7a4 40 = .ok (.istore_n 0, 1) := by decide +kernel
theorem dJ6_bitCount_0f7a4_41 : decode cJ6_bitCount_0f7a4 41 = .ok (.iload_n 0, 1) := by decide +kernel
theorem dJ6_bitCount_0f7a4_42 : decode cJ6_bitCount_0f7a4 42 = .ok (.iload_n 0, 1) := by decide +kernel
theorem dJ6_bitCount_0f7a4_43 : decode cJ6_bitCount_0f7a4 43 = .ok (.bipush 16, 2) := by decide +kernel
theorem dJ6_bitCount_0f7a4_45 : decode cJ6_bitCount_0f7a4 45 = .ok (.iushr, 1) := by decide +kernel
theorem dJ6_bitCount_0f7a4_46 : decode cJ6_bitCount_0f7a4 46 = .ok (.iadd, 1) := by decide +kernel
theorem dJ6_bitCount_0f7a4_47 : decode cJ6_bitCount_0f7a4 47 = .ok (.istore_n 0, 1) := by decide +kernel
theorem dJ6_bitCount_0f7a4_48 : decode cJ6_bitCount_0f7a4 48 = .ok (.iload_n 0, 1) := by decide +kernel
theorem dJ6_bitCount_0f7a4_49 : decode cJ6_bitCount_0f7a4 49 = .ok (.bipush 63, 2) := by decide +kernel
theorem dJ6_bitCount_0f7a4_51 : decode cJ6_bitCount_0f7a4 51 = .ok (.iand, 1) := by decide +kernel
theorem dJ6_bitCount_0f7a4_52 : decode cJ6_bitCount_0f7a4 52 = .ok (.ireturn, 1) := by decide +kernel
theorem dJ9_max_7cf53_0 : decode cJ9_max_7cf53 0 = .ok (.iload_n 0, 1) := by decide +kernel
theorem dJ9_max_7cf53_1 : decode cJ9_max_7cf53 1 = .ok (.iload_n 1, 1) := by decide +kernel
theorem dJ9_max_7cf53_2 : decode cJ9_max_7cf53 2 = .ok (.if_icmp .lt 7, 3) := by decide +kernel
theorem dJ9_max_7cf53_5 : decode cJ9_max_7cf53 5 = .ok (.iload_n 0, 1) := by decide +kernel
theorem dJ9_max_7cf53_6 : decode cJ9_max_7cf53 6 = .ok (.goto 4, 3) := by decide +kernel
theorem dJ9_max_7cf53_9 : decode cJ9_max_7cf53 9 = .ok (.iload_n 1, 1) := by decide +kernel
theorem dJ9_max_7cf53_10 : decode cJ9_max_7cf53 10 = .ok (.ireturn, 1) := by decide +kernel
theorem dJ9_min_7cf53_0 : decode cJ9_min_7cf53 0 = .ok (.iload_n 0, 1) := by decide +kernel
theorem dJ9_min_7cf53_1 : decode cJ9_min_7cf53 1 = .ok (.iload_n 1, 1) := by decide +kernel
theorem dJ9_min_7cf53_2 : decode cJ9_min_7cf53 2 = .ok (.if_icmp .gt 7, 3) := by decide +kernel
theorem dJ9_min_7cf53_5 : decode cJ9_min_7cf53 5 = .ok (.iload_n 0, 1) := by decide +kernel
theorem dJ9_min_7cf53_6 : decode cJ9_min_7cf53 6 = .ok (.goto 4, 3) := by decide +kernel
theorem dJ9_min_7cf53_9 : decode cJ9_min_7cf53 9 = .ok (.iload_n 1, 1) := by decide +kernel
theorem dJ9_min_7cf53_10 : decode cJ9_min_7cf53 10 = .ok (.ireturn, 1) := by decide +kernel
theorem dJ0_length_8abf5_0 : decode cJ0_length_8abf5 0 = .ok (.aload_n 0, 1) := by decide +kernel
theorem dJ0_length_8abf5_1 : decode cJ0_length_8abf5 1 = .ok (.getfield 9, 3) := by decide +kernel
theorem dJ0_length_8abf5_4 : decode cJ0_length_8abf5 4 = .ok (.arraylength, 1) := by decide +kernel
theorem dJ0_length_8abf5_5 : decode cJ0_length_8abf5 5 = .ok (.aload_n 0, 1) := by decide +kernel
theorem dJ0_length_8abf5_6 : decode cJ0_length_8abf5 6 = .ok (.invokevirtual 335, 3) := by decide +kernel
theorem dJ0_length_8abf5_9 : decode cJ0_length_8abf5 9 = .ok (.ishr, 1) := by decide +kernel
theorem dJ0_length_8abf5_10 : decode cJ0_length_8abf5 10 = .ok (.ireturn, 1) := by decide +kernel
theorem dJ0_charAt_5068e_0 : decode cJ0_charAt_5068e 0 = .ok (.aload_n 0, 1) := by decide +kernel
theorem dJ0_charAt_5068e_1 : decode cJ0_charAt_5068e 1 = .ok (.invokevirtual 492, 3) := by decide +kernel
theorem dJ0_charAt_5068e_4 : decode cJ0_charAt_5068e 4 = .ok (.ifCond .eq 12, 3) := by decide +kernel
theorem dJ0_charAt_5068e_7 : decode cJ0_charAt_5068e 7 = .ok (.aload_n 0, 1) := by decide +kernel
theorem dJ0_charAt_5068e_8 : decode cJ0_charAt_5068e 8 = .ok (.getfield 9, 3) := by decide +kernel
theorem dJ0_charAt_5068e_11 : decode cJ0_charAt_5068e 11 = .ok (.iload_n 1, 1) := by decide +kernel
theorem dJ0_charAt_5068e_12 : decode cJ0_charAt_5068e 12 = .ok (.invokestatic 495, 3) := by decide +kernel
theorem dJ0_charAt_5068e_15 : decode cJ0_charAt_5068e 15 = .ok (.ireturn, 1) := by decide +kernel
theorem dJ0_charAt_5068e_16 : decode cJ0_charAt_5068e 16 = .ok (.aload_n 0, 1) := by decide +kernel
theorem dJ0_charAt_5068e_17 : decode cJ0_charAt_5068e 17 = .ok (.getfield 9, 3) := by decide +kernel
theorem dJ0_charAt_5068e_20 : decode cJ0_charAt_5068e 20 = .ok (.iload_n 1, 1) := by decide +kernel
theorem dJ0_charAt_5068e_21 : decode cJ0_charAt_5068e 21 = .ok (.invokestatic 498, 3) := by decide +kernel
theorem dJ0_charAt_5068e_24 : decode cJ0_charAt_5068e 24 = .ok (.ireturn, 1) := by decide +kernel
theorem dJ0_coder_7d493_0 : decode cJ0_coder_7d493 0 = .ok (.getstatic 38, 3) := by decide +kernel
theorem dJ0_coder_7d493_3 : decode cJ0_coder_7d493 3 = .ok (.ifCond .eq 10, 3) := by decide +kernel
theorem dJ0_coder_7d493_6 : decode cJ0_coder_7d493 6 = .ok (.aload_n 0, 1) := by decide +kernel
theorem dJ0_coder_7d493_7 : decode cJ0_coder_7d493 7 = .ok (.getfield 15, 3) := by decide +kernel
theorem dJ0_coder_7d493_10 : decode cJ0_coder_7d493 10 = .ok (.goto 4, 3) := by decide +kernel
theorem dJ0_coder_7d493_13 : decode cJ0_coder_7d493 13 = .ok (.iconst 1, 1) := by decide +kernel
theorem dJ0_coder_7d493_14 : decode cJ0_coder_7d493 14 = .ok (.ireturn, 1) := by decide +kernel
theorem dJ0_isLatin1_aae02_0 : decode cJ0_isLatin1_aae02 0 = .ok (.getstatic 38, 3) := by decide +kernel
theorem dJ0_isLatin1_aae02_3 : decode cJ0_isLatin1_aae02 3 = .ok (.ifCond .eq 14, 3) := by decide +kernel
theorem dJ0_isLatin1_aae02_6 : decode cJ0_isLatin1_aae02 6 = .ok (.aload_n 0, 1) := by decide +kernel
theorem dJ0_isLatin1_aae02_7 : decode cJ0_isLatin1_aae02 7 = .ok (.getfield 15, 3) := by decide +kernel
theorem dJ0_isLatin1_aae02_10 : decode cJ0_isLatin1_aae02 10 = .ok (.ifCond .ne 7, 3) := by decide +kernel
theorem dJ0_isLatin1_aae02_13 : decode cJ0_isLatin1_aae02 13 = .ok (.iconst 1, 1) := by decide +kernel
theorem dJ0_isLatin1_aae02_14 : decode cJ0_isLatin1_aae02 14 = .ok (.goto 4, 3) := by decide +kernel
theorem dJ0_isLatin1_aae02_17 : decode cJ0_isLatin1_aae02 17 = .ok (.iconst 0, 1) := by decide +kernel
theorem dJ0_isLatin1_aae02_18 : decode cJ0_isLatin1_aae02 18 = .ok (.ireturn, 1) := by decide +kernel
theorem dJ0_checkIndex_df160_0 : decode cJ0_checkIndex_df160 0 = .ok (.iload_n 0, 1) := by decide +kernel
theorem dJ0_checkIndex_df160_1 : decode cJ0_checkIndex_df160 1 = .ok (.iload_n 1, 1) := by decide +kernel
theorem dJ0_checkIndex_df160_2 : decode cJ0_checkIndex_df160 2 = .ok (.getstatic 1053, 3) := by decide +kernel
theorem dJ0_checkIndex_df160_5 : decode cJ0_checkIndex_df160 5 = .ok (.invokestatic 1059, 3) := by decide +kernel
theorem dJ0_checkIndex_df160_8 : decode cJ0_checkIndex_df160 8 = .ok (.pop, 1) := by decide +kernel
theorem dJ0_checkIndex_df160_9 : decode cJ0_checkIndex_df160 9 = .ok (.return_, 1) := by decide +kernel
theorem dJ1_charAt_3b067_0 : decode cJ1_charAt_3b067 0 = .ok (.iload_n 1, 1) := by decide +kernel
theorem dJ1_charAt_3b067_1 : decode cJ1_charAt_3b067 1 = .ok (.aload_n 0, 1) := by decide +kernel
theorem dJ1_charAt_3b067_2 : decode cJ1_charAt_3b067 2 = .ok (.arraylength, 1) := by decide +kernel
theorem dJ1_charAt_3b067_3 : decode cJ1_charAt_3b067 3 = .ok (.invokestatic 9, 3) := by decide +kernel
theorem dJ1_charAt_3b067_6 : decode cJ1_charAt_3b067 6 = .ok (.aload_n 0, 1) := by decide +kernel
theorem dJ1_charAt_3b067_7 : decode cJ1_charAt_3b067 7 = .ok (.iload_n 1, 1) := by decide +kernel
theorem dJ1_charAt_3b067_8 : decode cJ1_charAt_3b067 8 = .ok (.baload, 1) := by decide +kernel
theorem dJ1_charAt_3b067_9 : decode cJ1_charAt_3b067 9 = .ok (.sipush 255, 3) := by decide +kernel
theorem dJ1_charAt_3b067_12 : decode cJ1_charAt_3b067 12 = .ok (.iand, 1) := by decide +kernel
theorem dJ1_charAt_3b067_13 : decode cJ1_charAt_3b067 13 = .ok (.i2c, 1) := by decide +kernel
theorem dJ1_charAt_3b067_14 : decode cJ1_charAt_3b067 14 = .ok (.ireturn, 1) := by decide +kernel
theorem dJ2_getChar_3b067_0 : decode cJ2_getChar_3b067 0 = .ok (.getstatic 44, 3) := by decide +kernel
theorem dJ2_getChar_3b067_3 : decode cJ2_getChar_3b067 3 = .ok (.ifCond .ne 25, 3) := by decide +kernel
theorem dJ2_getChar_3b067_6 : decode cJ2_getChar_3b067 6 = .ok (.iload_n 1, 1) := by decide +kernel
theorem dJ2_getChar_3b067_7 : decode cJ2_getChar_3b067 7 = .ok (.ifCond .lt 11, 3) := by decide +kernel
theorem dJ2_getChar_3b067_10 : decode cJ2_getChar_3b067 10 = .ok (.iload_n 1, 1) := by decide +kernel
theorem dJ2_getChar_3b067_11 : decode cJ2_getChar_3b067 11 = .ok (.aload_n 0, 1) := by decide +kernel
theorem dJ2_getChar_3b067_12 : decode cJ2_getChar_3b067 12 = .ok (.invokestatic 48, 3) := by decide +kernel
theorem dJ2_getChar_3b067_15 : decode cJ2_getChar_3b067 15 = .ok (.if_icmp .lt 13, 3) := by decide +kernel
theorem dJ2_getChar_3b067_18 : decode cJ2_getChar_3b067 18 = .ok (.new 52, 3) := by decide +kernel
theorem dJ2_getChar_3b067_21 : decode cJ2_getChar_3b067 21 = .ok (.dup, 1) := by decide +kernel
theorem dJ2_getChar_3b067_22 : decode cJ2_getChar_3b067 22 = .ok (.ldc 54, 2) := by decide +kernel
theorem dJ2_getChar_3b067_24 : decode cJ2_getChar_3b067 24 = .ok (.invokespecial 56, 3) := by decide +kernel
theorem dJ2_getChar_3b067_27 : decode cJ2_getChar_3b067 27 = .ok (.athrow, 1) := by decide +kernel
theorem dJ2_getChar_3b067_28 : decode cJ2_getChar_3b067 28 = .ok (.iload_n 1, 1) := by decide +kernel
theorem dJ2_getChar_3b067_29 : decode cJ2_getChar_3b067 29 = .ok (.iconst 1, 1) := by decide +kernel
theorem dJ2_getChar_3b067_30 : decode cJ2_getChar_3b067 30 = .ok (.ishl, 1) := by decide +kernel
theorem dJ2_getChar_3b067_31 : decode cJ2_getChar_3b067 31 = .ok (.istore_n 1, 1) := by decide +kernel
theorem dJ2_getChar_3b067_32 : decode cJ2_getChar_3b067 32 = .ok (.aload_n 0, 1) := by decide +kernel
theorem dJ2_getChar_3b067_33 : decode cJ2_getChar_3b067 33 = .ok (.iload_n 1, 1) := by decide +kernel
theorem dJ2_getChar_3b067_34 : decode cJ2_getChar_3b067 34 = .ok (.iinc 1 1, 3) := by decide +kernel
theorem dJ2_getChar_3b067_37 : decode cJ2_getChar_3b067 37 = .ok (.baload, 1) := by decide +kernel
theorem dJ2_getChar_3b067_38 : decode cJ2_getChar_3b067 38 = .ok (.sipush 255, 3) := by decide +kernel
theorem dJ2_getChar_3b067_41 : decode cJ2_getChar_3b067 41 = .ok (.iand, 1) := by decide +kernel
theorem dJ2_getChar_3b067_42 : decode cJ2_getChar_3b067 42 = .ok (.getstatic 59, 3) := by decide +kernel
theorem dJ2_getChar_3b067_45 : decode cJ2_getChar_3b067 45 = .ok (.ishl, 1) := by decide +kernel
theorem dJ2_getChar_3b067_46 : decode cJ2_getChar_3b067 46 = .ok (.aload_n 0, 1) := by decide +kernel
theorem dJ2_getChar_3b067_47 : decode cJ2_getChar_3b067 47 = .ok (.iload_n 1, 1) := by decide +kernel
theorem dJ2_getChar_3b067_48 : decode cJ2_getChar_3b067 48 = .ok (.baload, 1) := by decide +kernel
theorem dJ2_getChar_3b067_49 : decode cJ2_getChar_3b067 49 = .ok (.sipush 255, 3) := by decide +kernel
theorem dJ2_getChar_3b067_52 : decode cJ2_getChar_3b067 52 = .ok (.iand, 1) := by decide +kernel
theorem dJ2_getChar_3b067_53 : decode cJ2_getChar_3b067 53 = .ok (.getstatic 63, 3) := by decide +kernel
theorem dJ2_getChar_3b067_56 : decode cJ2_getChar_3b067 56 = .ok (.ishl, 1) := by decide +kernel
theorem dJ2_getChar_3b067_57 : decode cJ2_getChar_3b067 57 = .ok (.ior, 1) := by decide +kernel
theorem dJ2_getChar_3b067_58 : decode cJ2_getChar_3b067 58 = .ok (.i2c, 1) := by decide +kernel
theorem dJ2_getChar_3b067_59 : decode cJ2_getChar_3b067 59 = .ok (.ireturn, 1) := by decide +kernel
theorem dJ2_length_9d52b_0 : decode cJ2_length_9d52b 0 = .ok (.aload_n 0, 1) := by decide +kernel
theorem dJ2_length_9d52b_1 : decode cJ2_length_9d52b 1 = .ok (.arraylength, 1) := by decide +kernel
theorem dJ2_length_9d52b_2 : decode cJ2_length_9d52b 2 = .ok (.iconst 1, 1) := by decide +kernel
theorem dJ2_length_9d52b_3 : decode cJ2_length_9d52b 3 = .ok (.ishr, 1) := by decide +kernel
theorem dJ2_length_9d52b_4 : decode cJ2_length_9d52b 4 = .ok (.ireturn, 1) := by decide +kernel
theorem dJ2_charAt_3b067_0 : decode cJ2_charAt_3b067 0 = .ok (.iload_n 1, 1) := by decide +kernel
theorem dJ2_charAt_3b067_1 : decode cJ2_charAt_3b067 1 = .ok (.aload_n 0, 1) := by decide +kernel
theorem dJ2_charAt_3b067_2 : decode cJ2_charAt_3b067 2 = .ok (.invokestatic 67, 3) := by decide +kernel
theorem dJ2_charAt_3b067_5 : decode cJ2_charAt_3b067 5 = .ok (.aload_n 0, 1) := by decide +kernel
theorem dJ2_charAt_3b067_6 : decode cJ2_charAt_3b067 6 = .ok (.iload_n 1, 1) := by decide +kernel
theorem dJ2_charAt_3b067_7 : decode cJ2_charAt_3b067 7 = .ok (.invokestatic 71, 3) := by decide +kernel
theorem dJ2_charAt_3b067_10 : decode cJ2_charAt_3b067 10 = .ok (.ireturn, 1) := by decide +kernel
theorem dJ2_checkIndex_2214a_0 : decode cJ2_checkIndex_2214a 0 = .ok (.iload_n 0, 1) := by decide +kernel
theorem dJ2_checkIndex_2214a_1 : decode cJ2_checkIndex_2214a 1 = .ok (.aload_n 1, 1) := by decide +kernel
theorem dJ2_checkIndex_2214a_2 : decode cJ2_checkIndex_2214a 2 = .ok (.invokestatic 48, 3) := by decide +kernel
theorem dJ2_checkIndex_2214a_5 : decode cJ2_checkIndex_2214a 5 = .ok (.invokestatic 414, 3) := by decide +kernel
theorem dJ2_checkIndex_2214a_8 : decode cJ2_checkIndex_2214a 8 = .ok (.return_, 1) := by decide +kernel
theorem dJ3_checkIndex_8e157_0 : decode cJ3_checkIndex_8e157 0 = .ok (.iload_n 0, 1) := by decide +kernel
theorem dJ3_checkIndex_8e157_1 : decode cJ3_checkIndex_8e157 1 = .ok (.ifCond .lt 8, 3) := by decide +kernel
theorem dJ3_checkIndex_8e157_4 : decode cJ3_checkIndex_8e157 4 = .ok (.iload_n 0, 1) := by decide +kernel
theorem dJ3_checkIndex_8e157_5 : decode cJ3_checkIndex_8e157 5 = .ok (.iload_n 1, 1) := by decide +kernel
theorem dJ3_checkIndex_8e157_6 : decode cJ3_checkIndex_8e157 6 = .ok (.if_icmp .lt 10, 3) := by decide +kernel
theorem dJ3_checkIndex_8e157_9 : decode cJ3_checkIndex_8e157 9 = .ok (.aload_n 2, 1) := by decide +kernel
theorem dJ3_checkIndex_8e157_10 : decode cJ3_checkIndex_8e157 10 = .ok (.iload_n 0, 1) := by decide +kernel
theorem dJ3_checkIndex_8e157_11 : decode cJ3_checkIndex_8e157 11 = .ok (.iload_n 1, 1) := by decide +kernel
theorem dJ3_checkIndex_8e157_12 : decode cJ3_checkIndex_8e157 12 = .ok (.invokestatic 95, 3) := by decide +kernel
theorem dJ3_checkIndex_8e157_15 : decode cJ3_checkIndex_8e157 15 = .ok (.athrow, 1) := by decide +kernel
theorem dJ3_checkIndex_8e157_16 : decode cJ3_checkIndex_8e157 16 = .ok (.iload_n 0, 1) := by decide +kernel
theorem dJ3_checkIndex_8e157_17 : decode cJ3_checkIndex_8e157 17 = .ok (.ireturn, 1) := by decide +kernel
end
section
theorem dL_law_0 : decode cL_law 0 = .ok (.new 7, 3) := by decide +kernel
theorem dL_law_3 : decode cL_law 3 = .ok (.dup, 1) := by decide +kernel
theorem dL_law_4 : decode cL_law 4 = .ok (.invokespecial 9, 3) := by decide +kernel
theorem dL_law_7 : decode cL_law 7 = .ok (.astore_n 1, 1) := by decide +kernel
theorem dL_law_8 : decode cL_law 8 = .ok (.new 10, 3) := by decide +kernel
theorem dL_law_11 : decode cL_law 11 = .ok (.dup, 1) := by decide +kernel
theorem dL_law_12 : decode cL_law 12 = .ok (.invokespecial 12, 3) := by decide +kernel
theorem dL_law_15 : decode cL_law 15 = .ok (.astore_n 2, 1) := by decide +kernel
theorem dL_law_16 : decode cL_law 16 = .ok (.iconst 0, 1) := by decide +kernel
theorem dL_law_17 : decode cL_law 17 = .ok (.istore_n 3, 1) := by decide +kernel
theorem dL_law_18 : decode cL_law 18 = .ok (.iload_n 3, 1) := by decide +kernel
theorem dL_law_19 : decode cL_law 19 = .ok (.aload_n 0, 1) := by decide +kernel
theorem dL_law_20 : decode cL_law 20 = .ok (.arraylength, 1) := by decide +kernel
theorem dL_law_21 : decode cL_law 21 = .ok (.bipush 6, 2) := by decide +kernel
theorem dL_law_23 : decode cL_law 23 = .ok (.isub, 1) := by decide +kernel
theorem dL_law_24 : decode cL_law 24 = .ok (.if_icmp .gt 1512, 3) := by decide +kernel
theorem dL_law_27 : decode cL_law 27 = .ok (.aload_n 0, 1) := by decide +kernel
theorem dL_law_28 : decode cL_law 28 = .ok (.iload_n 3, 1) := by decide +kernel
theorem dL_law_29 : decode cL_law 29 = .ok (.iaload, 1) := by decide +kernel
theorem dL_law_30 : decode cL_law 30 = .ok (.bipush 63, 2) := by decide +kernel
theorem dL_law_32 : decode cL_law 32 = .ok (.iand, 1) := by decide +kernel
theorem dL_law_33 : decode cL_law 33 = .ok (.tableswitch 1497 0 42 #[187, 220, 263, 286, 299, 332, 365, 408, 431, 454, 477, 520, 553, 586, 609, 642, 675, 708, 741, 774, 817, 850, 873, 916, 959, 1002, 1025, 1069, 1092, 1125, 1138, 1151, 1184, 1217, 1260, 1303, 1366, 1389, 1412, 1425, 1438, 1451, 1474], 187) := by decide +kernel
theorem dL_law_220 : decode cL_law 220 = .ok (.aload_n 1, 1) := by decide +kernel
theorem dL_law_221 : decode cL_law 221 = .ok (.aload_n 0, 1) := by decide +kernel
theorem dL_law_222 : decode cL_law 222 = .ok (.iload_n 3, 1) := by decide +kernel
theorem dL_law_223 : decode cL_law 223 = .ok (.iconst 1, 1) := by decide +kernel
theorem dL_law_224 : decode cL_law 224 = .ok (.iadd, 1) := by decide +kernel
theorem dL_law_225 : decode cL_law 225 = .ok (.iaload, 1) := by decide +kernel
theorem dL_law_226 : decode cL_law 226 = .ok (.aload_n 0, 1) := by decide +kernel
theorem dL_law_227 : decode cL_law 227 = .ok (.iload_n 3, 1) := by decide +kernel
theorem dL_law_228 : decode cL_law 228 = .ok (.iconst 2, 1) := by decide +kernel
theorem dL_law_229 : decode cL_law 229 = .ok (.iadd, 1) := by decide +kernel
theorem dL_law_230 : decode cL_law 230 = .ok (.iaload, 1) := by decide +kernel
theorem dL_law_231 : decode cL_law 231 = .ok (.invokevirtual 13, 3) := by decide +kernel
theorem dL_law_234 : decode cL_law 234 = .ok (.aload_n 2, 1) := by decide +kernel
theorem dL_law_235 : decode cL_law 235 = .ok (.aload_n 0, 1) := by decide +kernel
theorem dL_law_236 : decode cL_law 236 = .ok (.iload_n 3, 1) := by decide +kernel
theorem dL_law_237 : decode cL_law 237 = .ok (.iconst 1, 1) := by decide +kernel
theorem dL_law_238 : decode cL_law 238 = .ok (.iadd, 1) := by decide +kernel
theorem dL_law_239 : decode cL_law 239 = .ok (.iaload, 1) := by decide +kernel
theorem dL_law_240 : decode cL_law 240 = .ok (.aload_n 0, 1) := by decide +kernel
theorem dL_law_241 : decode cL_law 241 = .ok (.iload_n 3, 1) := by decide +kernel
theorem dL_law_242 : decode cL_law 242 = .ok (.iconst 2, 1) := by decide +kernel
theorem dL_law_243 : decode cL_law 243 = .ok (.iadd, 1) := by decide +kernel
theorem dL_law_244 : decode cL_law 244 = .ok (.iaload, 1) := by decide +kernel
theorem dL_law_245 : decode cL_law 245 = .ok (.invokevirtual 17, 3) := by decide +kernel
theorem dL_law_248 : decode cL_law 248 = .ok (.if_icmp .eq 1282, 3) := by decide +kernel
theorem dL_law_251 : decode cL_law 251 = .ok (.iconst 0, 1) := by decide +kernel
theorem dL_law_252 : decode cL_law 252 = .ok (.ireturn, 1) := by decide +kernel
theorem dL_law_253 : decode cL_law 253 = .ok (.aload_n 1, 1) := by decide +kernel
theorem dL_law_254 : decode cL_law 254 = .ok (.aload_n 0, 1) := by decide +kernel
theorem dL_law_255 : decode cL_law 255 = .ok (.iload_n 3, 1) := by decide +kernel
theorem dL_law_256 : decode cL_law 256 = .ok (.iconst 1, 1) := by decide +kernel
theorem dL_law_257 : decode cL_law 257 = .ok (.iadd, 1) := by decide +kernel
theorem dL_law_258 : decode cL_law 258 = .ok (.iaload, 1) := by decide +kernel
theorem dL_law_259 : decode cL_law 259 = .ok (.aload_n 0, 1) := by decide +kernel
theorem dL_law_260 : decode cL_law 260 = .ok (.iload_n 3, 1) := by decide +kernel
theorem dL_law_261 : decode cL_law 261 = .ok (.iconst 2, 1) := by decide +kernel
theorem dL_law_262 : decode cL_law 262 = .ok (.iadd, 1) := by decide +kernel
theorem dL_law_263 : decode cL_law 263 = .ok (.iaload, 1) := by decide +kernel
theorem dL_law_264 : decode cL_law 264 = .ok (.aload_n 0, 1) := by decide +kernel
theorem dL_law_265 : decode cL_law 265 = .ok (.iload_n 3, 1) := by decide +kernel
theorem dL_law_266 : decode cL_law 266 = .ok (.iconst 3, 1) := by decide +kernel
theorem dL_law_267 : decode cL_law 267 = .ok (.iadd, 1) := by decide +kernel
theorem dL_law_268 : decode cL_law 268 = .ok (.iaload, 1) := by decide +kernel
theorem dL_law_269 : decode cL_law 269 = .ok (.invokevirtual 18, 3) := by decide +kernel
theorem dL_law_272 : decode cL_law 272 = .ok (.aload_n 2, 1) := by decide +kernel
theorem dL_law_273 : decode cL_law 273 = .ok (.aload_n 0, 1) := by decide +kernel
theorem dL_law_274 : decode cL_law 274 = .ok (.iload_n 3, 1) := by decide +kernel
theorem dL_law_275 : decode cL_law 275 = .ok (.iconst 1, 1) := by decide +kernel
theorem dL_law_276 : decode cL_law 276 = .ok (.iadd, 1) := by decide +kernel
theorem dL_law_277 : decode cL_law 277 = .ok (.iaload, 1) := by decide +kernel
theorem dL_law_278 : decode cL_law 278 = .ok (.aload_n 0, 1) := by decide +kernel
theorem dL_law_279 : decode cL_law 279 = .ok (.iload_n 3, 1) := by decide +kernel
theorem dL_law_280 : decode cL_law 280 = .ok (.iconst 2, 1) := by decide +kernel
theorem dL_law_281 : decode cL_law 281 = .ok (.iadd, 1) := by decide +kernel
theorem dL_law_282 : decode cL_law 282 = .ok (.iaload, 1) := by decide +kernel
theorem dL_law_283 : decode cL_law 283 = .ok (.aload_n 0, 1) := by decide +kernel
theorem dL_law_284 : decode cL_law 284 = .ok (.iload_n 3, 1) := by decide +kernel
theorem dL_law_285 : decode cL_law 285 = .ok (.iconst 3, 1) := by decide +kernel
theorem dL_law_286 : decode cL_law 286 = .ok (.iadd, 1) := by decide +kernel
theorem dL_law_287 : decode cL_law 287 = .ok (.iaload, 1) := by decide +kernel
theorem dL_law_288 : decode cL_law 288 = .ok (.invokevirtual 22, 3) := by decide +kernel
theorem dL_law_291 : decode cL_law 291 = .ok (.if_icmp .eq 1239, 3) := by decide +kernel
theorem dL_law_294 : decode cL_law 294 = .ok (.iconst 0, 1) := by decide +kernel
theorem dL_law_295 : decode cL_law 295 = .ok (.ireturn, 1) := by decide +kernel
theorem dL_law_296 : decode cL_law 296 = .ok (.aload_n 1, 1) := by decide +kernel
theorem dL_law_297 : decode cL_law 297 = .ok (.aload_n 0, 1) := by decide +kernel
theorem dL_law_298 : decode cL_law 298 = .ok (.iload_n 3, 1) := by decide +kernel
theorem dL_law_299 : decode cL_law 299 = .ok (.iconst 1, 1) := by decide +kernel
theorem dL_law_300 : decode cL_law 300 = .ok (.iadd, 1) := by decide +kernel
theorem dL_law_301 : decode cL_law 301 = .ok (.iaload, 1) := by decide +kernel
theorem dL_law_302 : decode cL_law 302 = .ok (.invokevirtual 23, 3) := by decide +kernel
theorem dL_law_305 : decode cL_law 305 = .ok (.aload_n 2, 1) := by decide +kernel
theorem dL_law_306 : decode cL_law 306 = .ok (.aload_n 0, 1) := by decide +kernel
theorem dL_law_307 : decode cL_law 307 = .ok (.iload_n 3, 1) := by decide +kernel
theorem dL_law_308 : decode cL_law 308 = .ok (.iconst 1, 1) := by decide +kernel
theorem dL_law_309 : decode cL_law 309 = .ok (.iadd, 1) := by decide +kernel
theorem dL_law_310 : decode cL_law 310 = .ok (.iaload, 1) := by decide +kernel
theorem dL_law_311 : decode cL_law 311 = .ok (.invokevirtual 27, 3) := by decide +kernel
theorem dL_law_314 : decode cL_law 314 = .ok (.if_icmp .eq 1216, 3) := by decide +kernel
theorem dL_law_317 : decode cL_law 317 = .ok (.iconst 0, 1) := by decide +kernel
theorem dL_law_318 : decode cL_law 318 = .ok (.ireturn, 1) := by decide +kernel
theorem dL_law_319 : decode cL_law 319 = .ok (.aload_n 1, 1) := by decide +kernel
theorem dL_law_320 : decode cL_law 320 = .ok (.invokevirtual 28, 3) := by decide +kernel
theorem dL_law_323 : decode cL_law 323 = .ok (.aload_n 2, 1) := by decide +kernel
theorem dL_law_324 : decode cL_law 324 = .ok (.invokevirtual 32, 3) := by decide +kernel
theorem dL_law_327 : decode cL_law 327 = .ok (.if_icmp .eq 1203, 3) := by decide +kernel
theorem dL_law_330 : decode cL_law 330 = .ok (.iconst 0, 1) := by decide +kernel
theorem dL_law_331 : decode cL_law 331 = .ok (.ireturn, 1) := by decide +kernel
theorem dL_law_332 : decode cL_law 332 = .ok (.aload_n 1, 1) := by decide +kernel
theorem dL_law_333 : decode cL_law 333 = .ok (.aload_n 0, 1) := by decide +kernel
theorem dL_law_334 : decode cL_law 334 = .ok (.iload_n 3, 1) := by decide +kernel
theorem dL_law_335 : decode cL_law 335 = .ok (.iconst 1, 1) := by decide +kernel
theorem dL_law_336 : decode cL_law 336 = .ok (.iadd, 1) := by decide +kernel
theorem dL_law_337 : decode cL_law 337 = .ok (.iaload, 1) := by decide +kernel
theorem dL_law_338 : decode cL_law 338 = .ok (.aload_n 0, 1) := by decide +kernel
theorem dL_law_339 : decode cL_law 339 = .ok (.iload_n 3, 1) := by decide +kernel
theorem dL_law_340 : decode cL_law 340 = .ok (.iconst 2, 1) := by decide +kernel
theorem dL_law_341 : decode cL_law 341 = .ok (.iadd, 1) := by decide +kernel
theorem dL_law_342 : decode cL_law 342 = .ok (.iaload, 1) := by decide +kernel
theorem dL_law_343 : decode cL_law 343 = .ok (.invokevirtual 33, 3) := by decide +kernel
theorem dL_law_346 : decode cL_law 346 = .ok (.aload_n 2, 1) := by decide +kernel
theorem dL_law_347 : decode cL_law 347 = .ok (.aload_n 0, 1) := by decide +kernel
theorem dL_law_348 : decode cL_law 348 = .ok (.iload_n 3, 1) := by decide +kernel
theorem dL_law_349 : decode cL_law 349 = .ok (.iconst 1, 1) := by decide +kernel
theorem dL_law_350 : decode cL_law 350 = .ok (.iadd, 1) := by decide +kernel
theorem dL_law_351 : decode cL_law 351 = .ok (.iaload, 1) := by decide +kernel
theorem dL_law_352 : decode cL_law 352 = .ok (.aload_n 0, 1) := by decide +kernel
theorem dL_law_353 : decode cL_law 353 = .ok (.iload_n 3, 1) := by decide +kernel
theorem dL_law_354 : decode cL_law 354 = .ok (.iconst 2, 1) := by decide +kernel
theorem dL_law_355 : decode cL_law 355 = .ok (.iadd, 1) := by decide +kernel
theorem dL_law_356 : decode cL_law 356 = .ok (.iaload, 1) := by decide +kernel
theorem dL_law_357 : decode cL_law 357 = .ok (.invokevirtual 36, 3) := by decide +kernel
theorem dL_law_360 : decode cL_law 360 = .ok (.if_icmp .eq 1170, 3) := by decide +kernel
theorem dL_law_363 : decode cL_law 363 = .ok (.iconst 0, 1) := by decide +kernel
theorem dL_law_364 : decode cL_law 364 = .ok (.ireturn, 1) := by decide +kernel
theorem dL_law_365 : decode cL_law 365 = .ok (.aload_n 1, 1) := by decide +kernel
theorem dL_law_366 : decode cL_law 366 = .ok (.aload_n 0, 1) := by decide +kernel
theorem dL_law_367 : decode cL_law 367 = .ok (.iload_n 3, 1) := by decide +kernel
theorem dL_law_368 : decode cL_law 368 = .ok (.iconst 1, 1) := by decide +kernel
theorem dL_law_369 : decode cL_law 369 = .ok (.iadd, 1) := by decide +kernel
theorem dL_law_370 : decode cL_law 370 = .ok (.iaload, 1) := by decide +kernel
theorem dL_law_371 : decode cL_law 371 = .ok (.aload_n 0, 1) := by decide +kernel
theorem dL_law_372 : decode cL_law 372 = .ok (.iload_n 3, 1) := by decide +kernel
theorem dL_law_373 : decode cL_law 373 = .ok (.iconst 2, 1) := by decide +kernel
theorem dL_law_374 : decode cL_law 374 = .ok (.iadd, 1) := by decide +kernel
theorem dL_law_375 : decode cL_law 375 = .ok (.iaload, 1) := by decide +kernel
theorem dL_law_376 : decode cL_law 376 = .ok (.invokevirtual 37, 3) := by decide +kernel
theorem dL_law_379 : decode cL_law 379 = .ok (.aload_n 2, 1) := by decide +kernel
theorem dL_law_380 : decode cL_law 380 = .ok (.aload_n 0, 1) := by decide +kernel
theorem dL_law_381 : decode cL_law 381 = .ok (.iload_n 3, 1) := by decide +kernel
theorem dL_law_382 : decode cL_law 382 = .ok (.iconst 1, 1) := by decide +kernel
theorem dL_law_383 : decode cL_law 383 = .ok (.iadd, 1) := by decide +kernel
theorem dL_law_384 : decode cL_law 384 = .ok (.iaload, 1) := by decide +kernel
theorem dL_law_385 : decode cL_law 385 = .ok (.aload_n 0, 1) := by decide +kernel
theorem dL_law_386 : decode cL_law 386 = .ok (.iload_n 3, 1) := by decide +kernel
theorem dL_law_387 : decode cL_law 387 = .ok (.iconst 2, 1) := by decide +kernel
theorem dL_law_388 : decode cL_law 388 = .ok (.iadd, 1) := by decide +kernel
theorem dL_law_389 : decode cL_law 389 = .ok (.iaload, 1) := by decide +kernel
theorem dL_law_390 : decode cL_law 390 = .ok (.invokevirtual 40, 3) := by decide +kernel
theorem dL_law_393 : decode cL_law 393 = .ok (.if_icmp .eq 1137, 3) := by decide +kernel
theorem dL_law_396 : decode cL_law 396 = .ok (.iconst 0, 1) := by decide +kernel
theorem dL_law_397 : decode cL_law 397 = .ok (.ireturn, 1) := by decide +kernel
theorem dL_law_398 : decode cL_law 398 = .ok (.aload_n 1, 1) := by decide +kernel
theorem dL_law_399 : decode cL_law 399 = .ok (.aload_n 0, 1) := by decide +kernel
theorem dL_law_400 : decode cL_law 400 = .ok (.iload_n 3, 1) := by decide +kernel
theorem dL_law_401 : decode cL_law 401 = .ok (.iconst 1, 1) := by decide +kernel
theorem dL_law_402 : decode cL_law 402 = .ok (.iadd, 1) := by decide +kernel
theorem dL_law_403 : decode cL_law 403 = .ok (.iaload, 1) := by decide +kernel
theorem dL_law_404 : decode cL_law 404 = .ok (.aload_n 0, 1) := by decide +kernel
theorem dL_law_405 : decode cL_law 405 = .ok (.iload_n 3, 1) := by decide +kernel
theorem dL_law_406 : decode cL_law 406 = .ok (.iconst 2, 1) := by decide +kernel
theorem dL_law_407 : decode cL_law 407 = .ok (.iadd, 1) := by decide +kernel
theorem dL_law_408 : decode cL_law 408 = .ok (.iaload, 1) := by decide +kernel
theorem dL_law_409 : decode cL_law 409 = .ok (.aload_n 0, 1) := by decide +kernel
theorem dL_law_410 : decode cL_law 410 = .ok (.iload_n 3, 1) := by decide +kernel
theorem dL_law_411 : decode cL_law 411 = .ok (.iconst 3, 1) := by decide +kernel
theorem dL_law_412 : decode cL_law 412 = .ok (.iadd, 1) := by decide +kernel
theorem dL_law_413 : decode cL_law 413 = .ok (.iaload, 1) := by decide +kernel
theorem dL_law_414 : decode cL_law 414 = .ok (.invokevirtual 41, 3) := by decide +kernel
theorem dL_law_417 : decode cL_law 417 = .ok (.aload_n 2, 1) := by decide +kernel
theorem dL_law_418 : decode cL_law 418 = .ok (.aload_n 0, 1) := by decide +kernel
theorem dL_law_419 : decode cL_law 419 = .ok (.iload_n 3, 1) := by decide +kernel
theorem dL_law_420 : decode cL_law 420 = .ok (.iconst 1, 1) := by decide +kernel
theorem dL_law_421 : decode cL_law 421 = .ok (.iadd, 1) := by decide +kernel
theorem dL_law_422 : decode cL_law 422 = .ok (.iaload, 1) := by decide +kernel
theorem dL_law_423 : decode cL_law 423 = .ok (.aload_n 0, 1) := by decide +kernel
theorem dL_law_424 : decode cL_law 424 = .ok (.iload_n 3, 1) := by decide +kernel
theorem dL_law_425 : decode cL_law 425 = .ok (.iconst 2, 1) := by decide +kernel
theorem dL_law_426 : decode cL_law 426 = .ok (.iadd, 1) := by decide +kernel
theorem dL_law_427 : decode cL_law 427 = .ok (.iaload, 1) := by decide +kernel
theorem dL_law_428 : decode cL_law 428 = .ok (.aload_n 0, 1) := by decide +kernel
theorem dL_law_429 : decode cL_law 429 = .ok (.iload_n 3, 1) := by decide +kernel
theorem dL_law_430 : decode cL_law 430 = .ok (.iconst 3, 1) := by decide +kernel
theorem dL_law_431 : decode cL_law 431 = .ok (.iadd, 1) := by decide +kernel
theorem dL_law_432 : decode cL_law 432 = .ok (.iaload, 1) := by decide +kernel
theorem dL_law_433 : decode cL_law 433 = .ok (.invokevirtual 44, 3) := by decide +kernel
theorem dL_law_436 : decode cL_law 436 = .ok (.if_icmp .eq 1094, 3) := by decide +kernel
theorem dL_law_439 : decode cL_law 439 = .ok (.iconst 0, 1) := by decide +kernel
theorem dL_law_440 : decode cL_law 440 = .ok (.ireturn, 1) := by decide +kernel
theorem dL_law_441 : decode cL_law 441 = .ok (.aload_n 1, 1) := by decide +kernel
theorem dL_law_442 : decode cL_law 442 = .ok (.aload_n 0, 1) := by decide +kernel
theorem dL_law_443 : decode cL_law 443 = .ok (.iload_n 3, 1) := by decide +kernel
theorem dL_law_444 : decode cL_law 444 = .ok (.iconst 1, 1) := by decide +kernel
theorem dL_law_445 : decode cL_law 445 = .ok (.iadd, 1) := by decide +kernel
theorem dL_law_446 : decode cL_law 446 = .ok (.iaload, 1) := by decide +kernel
theorem dL_law_447 : decode cL_law 447 = .ok (.invokevirtual 45, 3) := by decide +kernel
theorem dL_law_450 : decode cL_law 450 = .ok (.aload_n 2, 1) := by decide +kernel
theorem dL_law_451 : decode cL_law 451 = .ok (.aload_n 0, 1) := by decide +kernel
theorem dL_law_452 : decode cL_law 452 = .ok (.iload_n 3, 1) := by decide +kernel
theorem dL_law_453 : decode cL_law 453 = .ok (.iconst 1, 1) := by decide +kernel
theorem dL_law_454 : decode cL_law 454 = .ok (.iadd, 1) := by decide +kernel
theorem dL_law_455 : decode cL_law 455 = .ok (.iaload, 1) := by decide +kernel
theorem dL_law_456 : decode cL_law 456 = .ok (.invokevirtual 48, 3) := by decide +kernel
theorem dL_law_459 : decode cL_law 459 = .ok (.if_icmp .eq 1071, 3) := by decide +kernel
theorem dL_law_462 : decode cL_law 462 = .ok (.iconst 0, 1) := by decide +kernel
theorem dL_law_463 : decode cL_law 463 = .ok (.ireturn, 1) := by decide +kernel
theorem dL_law_464 : decode cL_law 464 = .ok (.aload_n 1, 1) := by decide +kernel
theorem dL_law_465 : decode cL_law 465 = .ok (.aload_n 0, 1) := by decide +kernel
theorem dL_law_466 : decode cL_law 466 = .ok (.iload_n 3, 1) := by decide +kernel
theorem dL_law_467 : decode cL_law 467 = .ok (.iconst 1, 1) := by decide +kernel
theorem dL_law_468 : decode cL_law 468 = .ok (.iadd, 1) := by decide +kernel
theorem dL_law_469 : decode cL_law 469 = .ok (.iaload, 1) := by decide +kernel
theorem dL_law_470 : decode cL_law 470 = .ok (.invokevirtual 49, 3) := by decide +kernel
theorem dL_law_473 : decode cL_law 473 = .ok (.aload_n 2, 1) := by decide +kernel
theorem dL_law_474 : decode cL_law 474 = .ok (.aload_n 0, 1) := by decide +kernel
theorem dL_law_475 : decode cL_law 475 = .ok (.iload_n 3, 1) := by decide +kernel
theorem dL_law_476 : decode cL_law 476 = .ok (.iconst 1, 1) := by decide +kernel
theorem dL_law_477 : decode cL_law 477 = .ok (.iadd, 1) := by decide +kernel
theorem dL_law_478 : decode cL_law 478 = .ok (.iaload, 1) := by decide +kernel
theorem dL_law_479 : decode cL_law 479 = .ok (.invokevirtual 52, 3) := by decide +kernel
theorem dL_law_482 : decode cL_law 482 = .ok (.if_icmp .eq 1048, 3) := by decide +kernel
theorem dL_law_485 : decode cL_law 485 = .ok (.iconst 0, 1) := by decide +kernel
theorem dL_law_486 : decode cL_law 486 = .ok (.ireturn, 1) := by decide +kernel
theorem dL_law_487 : decode cL_law 487 = .ok (.aload_n 1, 1) := by decide +kernel
theorem dL_law_488 : decode cL_law 488 = .ok (.aload_n 0, 1) := by decide +kernel
theorem dL_law_489 : decode cL_law 489 = .ok (.iload_n 3, 1) := by decide +kernel
theorem dL_law_490 : decode cL_law 490 = .ok (.iconst 1, 1) := by decide +kernel
theorem dL_law_491 : decode cL_law 491 = .ok (.iadd, 1) := by decide +kernel
theorem dL_law_492 : decode cL_law 492 = .ok (.iaload, 1) := by decide +kernel
theorem dL_law_493 : decode cL_law 493 = .ok (.invokevirtual 53, 3) := by decide +kernel
theorem dL_law_496 : decode cL_law 496 = .ok (.aload_n 2, 1) := by decide +kernel
theorem dL_law_497 : decode cL_law 497 = .ok (.aload_n 0, 1) := by decide +kernel
theorem dL_law_498 : decode cL_law 498 = .ok (.iload_n 3, 1) := by decide +kernel
theorem dL_law_499 : decode cL_law 499 = .ok (.iconst 1, 1) := by decide +kernel
theorem dL_law_500 : decode cL_law 500 = .ok (.iadd, 1) := by decide +kernel
theorem dL_law_501 : decode cL_law 501 = .ok (.iaload, 1) := by decide +kernel
theorem dL_law_502 : decode cL_law 502 = .ok (.invokevirtual 56, 3) := by decide +kernel
theorem dL_law_505 : decode cL_law 505 = .ok (.if_icmp .eq 1025, 3) := by decide +kernel
theorem dL_law_508 : decode cL_law 508 = .ok (.iconst 0, 1) := by decide +kernel
theorem dL_law_509 : decode cL_law 509 = .ok (.ireturn, 1) := by decide +kernel
theorem dL_law_510 : decode cL_law 510 = .ok (.aload_n 1, 1) := by decide +kernel
theorem dL_law_511 : decode cL_law 511 = .ok (.aload_n 0, 1) := by decide +kernel
theorem dL_law_512 : decode cL_law 512 = .ok (.iload_n 3, 1) := by decide +kernel
theorem dL_law_513 : decode cL_law 513 = .ok (.iconst 1, 1) := by decide +kernel
theorem dL_law_514 : decode cL_law 514 = .ok (.iadd, 1) := by decide +kernel
theorem dL_law_515 : decode cL_law 515 = .ok (.iaload, 1) := by decide +kernel
theorem dL_law_516 : decode cL_law 516 = .ok (.aload_n 0, 1) := by decide +kernel
theorem dL_law_517 : decode cL_law 517 = .ok (.iload_n 3, 1) := by decide +kernel
theorem dL_law_518 : decode cL_law 518 = .ok (.iconst 2, 1) := by decide +kernel
theorem dL_law_519 : decode cL_law 519 = .ok (.iadd, 1) := by decide +kernel
theorem dL_law_520 : decode cL_law 520 = .ok (.iaload, 1) := by decide +kernel
theorem dL_law_521 : decode cL_law 521 = .ok (.aload_n 0, 1) := by decide +kernel
theorem dL_law_522 : decode cL_law 522 = .ok (.iload_n 3, 1) := by decide +kernel
theorem dL_law_523 : decode cL_law 523 = .ok (.iconst 3, 1) := by decide +kernel
theorem dL_law_524 : decode cL_law 524 = .ok (.iadd, 1) := by decide +kernel
theorem dL_law_525 : decode cL_law 525 = .ok (.iaload, 1) := by decide +kernel
theorem dL_law_526 : decode cL_law 526 = .ok (.invokevirtual 57, 3) := by decide +kernel
theorem dL_law_529 : decode cL_law 529 = .ok (.aload_n 2, 1) := by decide +kernel
theorem dL_law_530 : decode cL_law 530 = .ok (.aload_n 0, 1) := by decide +kernel
theorem dL_law_531 : decode cL_law 531 = .ok (.iload_n 3, 1) := by decide +kernel
theorem dL_law_532 : decode cL_law 532 = .ok (.iconst 1, 1) := by decide +kernel
theorem dL_law_533 : decode cL_law 533 = .ok (.iadd, 1) := by decide +kernel
theorem dL_law_534 : decode cL_law 534 = .ok (.iaload, 1) := by decide +kernel
theorem dL_law_535 : decode cL_law 535 = .ok (.aload_n 0, 1) := by decide +kernel
theorem dL_law_536 : decode cL_law 536 = .ok (.iload_n 3, 1) := by decide +kernel
theorem dL_law_537 : decode cL_law 537 = .ok (.iconst 2, 1) := by decide +kernel
theorem dL_law_538 : decode cL_law 538 = .ok (.iadd, 1) := by decide +kernel
theorem dL_law_539 : decode cL_law 539 = .ok (.iaload, 1) := by decide +kernel
theorem dL_law_540 : decode cL_law 540 = .ok (.aload_n 0, 1) := by decide +kernel
theorem dL_law_541 : decode cL_law 541 = .ok (.iload_n 3, 1) := by decide +kernel
theorem dL_law_542 : decode cL_law 542 = .ok (.iconst 3, 1) := by decide +kernel
theorem dL_law_543 : decode cL_law 543 = .ok (.iadd, 1) := by decide +kernel
theorem dL_law_544 : decode cL_law 544 = .ok (.iaload, 1) := by decide +kernel
theorem dL_law_545 : decode cL_law 545 = .ok (.invokevirtual 60, 3) := by decide +kernel
theorem dL_law_548 : decode cL_law 548 = .ok (.if_icmp .eq 982, 3) := by decide +kernel
theorem dL_law_551 : decode cL_law 551 = .ok (.iconst 0, 1) := by decide +kernel
theorem dL_law_552 : decode cL_law 552 = .ok (.ireturn, 1) := by decide +kernel
theorem dL_law_553 : decode cL_law 553 = .ok (.aload_n 1, 1) := by decide +kernel
theorem dL_law_554 : decode cL_law 554 = .ok (.aload_n 0, 1) := by decide +kernel
theorem dL_law_555 : decode cL_law 555 = .ok (.iload_n 3, 1) := by decide +kernel
theorem dL_law_556 : decode cL_law 556 = .ok (.iconst 1, 1) := by decide +kernel
theorem dL_law_557 : decode cL_law 557 = .ok (.iadd, 1) := by decide +kernel
theorem dL_law_558 : decode cL_law 558 = .ok (.iaload, 1) := by decide +kernel
theorem dL_law_559 : decode cL_law 559 = .ok (.aload_n 0, 1) := by decide +kernel
theorem dL_law_560 : decode cL_law 560 = .ok (.iload_n 3, 1) := by decide +kernel
theorem dL_law_561 : decode cL_law 561 = .ok (.iconst 2, 1) := by decide +kernel
theorem dL_law_562 : decode cL_law 562 = .ok (.iadd, 1) := by decide +kernel
theorem dL_law_563 : decode cL_law 563 = .ok (.iaload, 1) := by decide +kernel
theorem dL_law_564 : decode cL_law 564 = .ok (.invokevirtual 61, 3) := by decide +kernel
theorem dL_law_567 : decode cL_law 567 = .ok (.aload_n 2, 1) := by decide +kernel
theorem dL_law_568 : decode cL_law 568 = .ok (.aload_n 0, 1) := by decide +kernel
theorem dL_law_569 : decode cL_law 569 = .ok (.iload_n 3, 1) := by decide +kernel
theorem dL_law_570 : decode cL_law 570 = .ok (.iconst 1, 1) := by decide +kernel
theorem dL_law_571 : decode cL_law 571 = .ok (.iadd, 1) := by decide +kernel
theorem dL_law_572 : decode cL_law 572 = .ok (.iaload, 1) := by decide +kernel
theorem dL_law_573 : decode cL_law 573 = .ok (.aload_n 0, 1) := by decide +kernel
theorem dL_law_574 : decode cL_law 574 = .ok (.iload_n 3, 1) := by decide +kernel
theorem dL_law_575 : decode cL_law 575 = .ok (.iconst 2, 1) := by decide +kernel
theorem dL_law_576 : decode cL_law 576 = .ok (.iadd, 1) := by decide +kernel
theorem dL_law_577 : decode cL_law 577 = .ok (.iaload, 1) := by decide +kernel
theorem dL_law_578 : decode cL_law 578 = .ok (.invokevirtual 64, 3) := by decide +kernel
theorem dL_law_581 : decode cL_law 581 = .ok (.if_icmp .eq 949, 3) := by decide +kernel
theorem dL_law_584 : decode cL_law 584 = .ok (.iconst 0, 1) := by decide +kernel
theorem dL_law_585 : decode cL_law 585 = .ok (.ireturn, 1) := by decide +kernel
theorem dL_law_586 : decode cL_law 586 = .ok (.aload_n 1, 1) := by decide +kernel
theorem dL_law_587 : decode cL_law 587 = .ok (.aload_n 0, 1) := by decide +kernel
theorem dL_law_588 : decode cL_law 588 = .ok (.iload_n 3, 1) := by decide +kernel
theorem dL_law_589 : decode cL_law 589 = .ok (.iconst 1, 1) := by decide +kernel
theorem dL_law_590 : decode cL_law 590 = .ok (.iadd, 1) := by decide +kernel
theorem dL_law_591 : decode cL_law 591 = .ok (.iaload, 1) := by decide +kernel
theorem dL_law_592 : decode cL_law 592 = .ok (.aload_n 0, 1) := by decide +kernel
theorem dL_law_593 : decode cL_law 593 = .ok (.iload_n 3, 1) := by decide +kernel
theorem dL_law_594 : decode cL_law 594 = .ok (.iconst 2, 1) := by decide +kernel
theorem dL_law_595 : decode cL_law 595 = .ok (.iadd, 1) := by decide +kernel
theorem dL_law_596 : decode cL_law 596 = .ok (.iaload, 1) := by decide +kernel
theorem dL_law_597 : decode cL_law 597 = .ok (.invokevirtual 65, 3) := by decide +kernel
theorem dL_law_600 : decode cL_law 600 = .ok (.aload_n 2, 1) := by decide +kernel
theorem dL_law_601 : decode cL_law 601 = .ok (.aload_n 0, 1) := by decide +kernel
theorem dL_law_602 : decode cL_law 602 = .ok (.iload_n 3, 1) := by decide +kernel
theorem dL_law_603 : decode cL_law 603 = .ok (.iconst 1, 1) := by decide +kernel
theorem dL_law_604 : decode cL_law 604 = .ok (.iadd, 1) := by decide +kernel
theorem dL_law_605 : decode cL_law 605 = .ok (.iaload, 1) := by decide +kernel
theorem dL_law_606 : decode cL_law 606 = .ok (.aload_n 0, 1) := by decide +kernel
theorem dL_law_607 : decode cL_law 607 = .ok (.iload_n 3, 1) := by decide +kernel
theorem dL_law_608 : decode cL_law 608 = .ok (.iconst 2, 1) := by decide +kernel
theorem dL_law_609 : decode cL_law 609 = .ok (.iadd, 1) := by decide +kernel
theorem dL_law_610 : decode cL_law 610 = .ok (.iaload, 1) := by decide +kernel
theorem dL_law_611 : decode cL_law 611 = .ok (.invokevirtual 68, 3) := by decide +kernel
theorem dL_law_614 : decode cL_law 614 = .ok (.if_icmp .eq 916, 3) := by decide +kernel
theorem dL_law_617 : decode cL_law 617 = .ok (.iconst 0, 1) := by decide +kernel
theorem dL_law_618 : decode cL_law 618 = .ok (.ireturn, 1) := by decide +kernel
theorem dL_law_619 : decode cL_law 619 = .ok (.aload_n 1, 1) := by decide +kernel
theorem dL_law_620 : decode cL_law 620 = .ok (.aload_n 0, 1) := by decide +kernel
theorem dL_law_621 : decode cL_law 621 = .ok (.iload_n 3, 1) := by decide +kernel
theorem dL_law_622 : decode cL_law 622 = .ok (.iconst 1, 1) := by decide +kernel
theorem dL_law_623 : decode cL_law 623 = .ok (.iadd, 1) := by decide +kernel
theorem dL_law_624 : decode cL_law 624 = .ok (.iaload, 1) := by decide +kernel
theorem dL_law_625 : decode cL_law 625 = .ok (.invokevirtual 69, 3) := by decide +kernel
theorem dL_law_628 : decode cL_law 628 = .ok (.aload_n 2, 1) := by decide +kernel
theorem dL_law_629 : decode cL_law 629 = .ok (.aload_n 0, 1) := by decide +kernel
theorem dL_law_630 : decode cL_law 630 = .ok (.iload_n 3, 1) := by decide +kernel
theorem dL_law_631 : decode cL_law 631 = .ok (.iconst 1, 1) := by decide +kernel
theorem dL_law_632 : decode cL_law 632 = .ok (.iadd, 1) := by decide +kernel
theorem dL_law_633 : decode cL_law 633 = .ok (.iaload, 1) := by decide +kernel
theorem dL_law_634 : decode cL_law 634 = .ok (.invokevirtual 72, 3) := by decide +kernel
theorem dL_law_637 : decode cL_law 637 = .ok (.if_icmp .eq 893, 3) := by decide +kernel
theorem dL_law_640 : decode cL_law 640 = .ok (.iconst 0, 1) := by decide +kernel
theorem dL_law_641 : decode cL_law 641 = .ok (.ireturn, 1) := by decide +kernel
theorem dL_law_642 : decode cL_law 642 = .ok (.aload_n 1, 1) := by decide +kernel
theorem dL_law_643 : decode cL_law 643 = .ok (.aload_n 0, 1) := by decide +kernel
theorem dL_law_644 : decode cL_law 644 = .ok (.iload_n 3, 1) := by decide +kernel
theorem dL_law_645 : decode cL_law 645 = .ok (.iconst 1, 1) := by decide +kernel
theorem dL_law_646 : decode cL_law 646 = .ok (.iadd, 1) := by decide +kernel
theorem dL_law_647 : decode cL_law 647 = .ok (.iaload, 1) := by decide +kernel
theorem dL_law_648 : decode cL_law 648 = .ok (.aload_n 0, 1) := by decide +kernel
theorem dL_law_649 : decode cL_law 649 = .ok (.iload_n 3, 1) := by decide +kernel
theorem dL_law_650 : decode cL_law 650 = .ok (.iconst 2, 1) := by decide +kernel
theorem dL_law_651 : decode cL_law 651 = .ok (.iadd, 1) := by decide +kernel
theorem dL_law_652 : decode cL_law 652 = .ok (.iaload, 1) := by decide +kernel
theorem dL_law_653 : decode cL_law 653 = .ok (.invokevirtual 73, 3) := by decide +kernel
theorem dL_law_656 : decode cL_law 656 = .ok (.aload_n 2, 1) := by decide +kernel
theorem dL_law_657 : decode cL_law 657 = .ok (.aload_n 0, 1) := by decide +kernel
theorem dL_law_658 : decode cL_law 658 = .ok (.iload_n 3, 1) := by decide +kernel
theorem dL_law_659 : decode cL_law 659 = .ok (.iconst 1, 1) := by decide +kernel
theorem dL_law_660 : decode cL_law 660 = .ok (.iadd, 1) := by decide +kernel
theorem dL_law_661 : decode cL_law 661 = .ok (.iaload, 1) := by decide +kernel
theorem dL_law_662 : decode cL_law 662 = .ok (.aload_n 0, 1) := by decide +kernel
theorem dL_law_663 : decode cL_law 663 = .ok (.iload_n 3, 1) := by decide +kernel
theorem dL_law_664 : decode cL_law 664 = .ok (.iconst 2, 1) := by decide +kernel
theorem dL_law_665 : decode cL_law 665 = .ok (.iadd, 1) := by decide +kernel
theorem dL_law_666 : decode cL_law 666 = .ok (.iaload, 1) := by decide +kernel
theorem dL_law_667 : decode cL_law 667 = .ok (.invokevirtual 76, 3) := by decide +kernel
theorem dL_law_670 : decode cL_law 670 = .ok (.if_icmp .eq 860, 3) := by decide +kernel
theorem dL_law_673 : decode cL_law 673 = .ok (.iconst 0, 1) := by decide +kernel
theorem dL_law_674 : decode cL_law 674 = .ok (.ireturn, 1) := by decide +kernel
theorem dL_law_675 : decode cL_law 675 = .ok (.aload_n 1, 1) := by decide +kernel
theorem dL_law_676 : decode cL_law 676 = .ok (.aload_n 0, 1) := by decide +kernel
theorem dL_law_677 : decode cL_law 677 = .ok (.iload_n 3, 1) := by decide +kernel
theorem dL_law_678 : decode cL_law 678 = .ok (.iconst 1, 1) := by decide +kernel
theorem dL_law_679 : decode cL_law 679 = .ok (.iadd, 1) := by decide +kernel
theorem dL_law_680 : decode cL_law 680 = .ok (.iaload, 1) := by decide +kernel
theorem dL_law_681 : decode cL_law 681 = .ok (.aload_n 0, 1) := by decide +kernel
theorem dL_law_682 : decode cL_law 682 = .ok (.iload_n 3, 1) := by decide +kernel
theorem dL_law_683 : decode cL_law 683 = .ok (.iconst 2, 1) := by decide +kernel
theorem dL_law_684 : decode cL_law 684 = .ok (.iadd, 1) := by decide +kernel
theorem dL_law_685 : decode cL_law 685 = .ok (.iaload, 1) := by decide +kernel
theorem dL_law_686 : decode cL_law 686 = .ok (.invokevirtual 77, 3) := by decide +kernel
theorem dL_law_689 : decode cL_law 689 = .ok (.aload_n 2, 1) := by decide +kernel
theorem dL_law_690 : decode cL_law 690 = .ok (.aload_n 0, 1) := by decide +kernel
theorem dL_law_691 : decode cL_law 691 = .ok (.iload_n 3, 1) := by decide +kernel
theorem dL_law_692 : decode cL_law 692 = .ok (.iconst 1, 1) := by decide +kernel
theorem dL_law_693 : decode cL_law 693 = .ok (.iadd, 1) := by decide +kernel
theorem dL_law_694 : decode cL_law 694 = .ok (.iaload, 1) := by decide +kernel
theorem dL_law_695 : decode cL_law 695 = .ok (.aload_n 0, 1) := by decide +kernel
theorem dL_law_696 : decode cL_law 696 = .ok (.iload_n 3, 1) := by decide +kernel
theorem dL_law_697 : decode cL_law 697 = .ok (.iconst 2, 1) := by decide +kernel
theorem dL_law_698 : decode cL_law 698 = .ok (.iadd, 1) := by decide +kernel
theorem dL_law_699 : decode cL_law 699 = .ok (.iaload, 1) := by decide +kernel
theorem dL_law_700 : decode cL_law 700 = .ok (.invokevirtual 80, 3) := by decide +kernel
theorem dL_law_703 : decode cL_law 703 = .ok (.if_icmp .eq 827, 3) := by decide +kernel
theorem dL_law_706 : decode cL_law 706 = .ok (.iconst 0, 1) := by decide +kernel
theorem dL_law_707 : decode cL_law 707 = .ok (.ireturn, 1) := by decide +kernel
theorem dL_law_708 : decode cL_law 708 = .ok (.aload_n 1, 1) := by decide +kernel
theorem dL_law_709 : decode cL_law 709 = .ok (.aload_n 0, 1) := by decide +kernel
theorem dL_law_710 : decode cL_law 710 = .ok (.iload_n 3, 1) := by decide +kernel
theorem dL_law_711 : decode cL_law 711 = .ok (.iconst 1, 1) := by decide +kernel
theorem dL_law_712 : decode cL_law 712 = .ok (.iadd, 1) := by decide +kernel
theorem dL_law_713 : decode cL_law 713 = .ok (.iaload, 1) := by decide +kernel
theorem dL_law_714 : decode cL_law 714 = .ok (.aload_n 0, 1) := by decide +kernel
theorem dL_law_715 : decode cL_law 715 = .ok (.iload_n 3, 1) := by decide +kernel
theorem dL_law_716 : decode cL_law 716 = .ok (.iconst 2, 1) := by decide +kernel
theorem dL_law_717 : decode cL_law 717 = .ok (.iadd, 1) := by decide +kernel
theorem dL_law_718 : decode cL_law 718 = .ok (.iaload, 1) := by decide +kernel
theorem dL_law_719 : decode cL_law 719 = .ok (.invokevirtual 81, 3) := by decide +kernel
theorem dL_law_722 : decode cL_law 722 = .ok (.aload_n 2, 1) := by decide +kernel
theorem dL_law_723 : decode cL_law 723 = .ok (.aload_n 0, 1) := by decide +kernel
theorem dL_law_724 : decode cL_law 724 = .ok (.iload_n 3, 1) := by decide +kernel
theorem dL_law_725 : decode cL_law 725 = .ok (.iconst 1, 1) := by decide +kernel
theorem dL_law_726 : decode cL_law 726 = .ok (.iadd, 1) := by decide +kernel
theorem dL_law_727 : decode cL_law 727 = .ok (.iaload, 1) := by decide +kernel
theorem dL_law_728 : decode cL_law 728 = .ok (.aload_n 0, 1) := by decide +kernel
theorem dL_law_729 : decode cL_law 729 = .ok (.iload_n 3, 1) := by decide +kernel
theorem dL_law_730 : decode cL_law 730 = .ok (.iconst 2, 1) := by decide +kernel
theorem dL_law_731 : decode cL_law 731 = .ok (.iadd, 1) := by decide +kernel
theorem dL_law_732 : decode cL_law 732 = .ok (.iaload, 1) := by decide +kernel
theorem dL_law_733 : decode cL_law 733 = .ok (.invokevirtual 84, 3) := by decide +kernel
theorem dL_law_736 : decode cL_law 736 = .ok (.if_icmp .eq 794, 3) := by decide +kernel
theorem dL_law_739 : decode cL_law 739 = .ok (.iconst 0, 1) := by decide +kernel
theorem dL_law_740 : decode cL_law 740 = .ok (.ireturn, 1) := by decide +kernel
theorem dL_law_741 : decode cL_law 741 = .ok (.aload_n 1, 1) := by decide +kernel
theorem dL_law_742 : decode cL_law 742 = .ok (.aload_n 0, 1) := by decide +kernel
theorem dL_law_743 : decode cL_law 743 = .ok (.iload_n 3, 1) := by decide +kernel
theorem dL_law_744 : decode cL_law 744 = .ok (.iconst 1, 1) := by decide +kernel
theorem dL_law_745 : decode cL_law 745 = .ok (.iadd, 1) := by decide +kernel
theorem dL_law_746 : decode cL_law 746 = .ok (.iaload, 1) := by decide +kernel
theorem dL_law_747 : decode cL_law 747 = .ok (.aload_n 0, 1) := by decide +kernel
theorem dL_law_748 : decode cL_law 748 = .ok (.iload_n 3, 1) := by decide +kernel
theorem dL_law_749 : decode cL_law 749 = .ok (.iconst 2, 1) := by decide +kernel
theorem dL_law_750 : decode cL_law 750 = .ok (.iadd, 1) := by decide +kernel
theorem dL_law_751 : decode cL_law 751 = .ok (.iaload, 1) := by decide +kernel
theorem dL_law_752 : decode cL_law 752 = .ok (.invokevirtual 85, 3) := by decide +kernel
theorem dL_law_755 : decode cL_law 755 = .ok (.aload_n 2, 1) := by decide +kernel
theorem dL_law_756 : decode cL_law 756 = .ok (.aload_n 0, 1) := by decide +kernel
theorem dL_law_757 : decode cL_law 757 = .ok (.iload_n 3, 1) := by decide +kernel
theorem dL_law_758 : decode cL_law 758 = .ok (.iconst 1, 1) := by decide +kernel
theorem dL_law_759 : decode cL_law 759 = .ok (.iadd, 1) := by decide +kernel
theorem dL_law_760 : decode cL_law 760 = .ok (.iaload, 1) := by decide +kernel
theorem dL_law_761 : decode cL_law 761 = .ok (.aload_n 0, 1) := by decide +kernel
theorem dL_law_762 : decode cL_law 762 = .ok (.iload_n 3, 1) := by decide +kernel
theorem dL_law_763 : decode cL_law 763 = .ok (.iconst 2, 1) := by decide +kernel
theorem dL_law_764 : decode cL_law 764 = .ok (.iadd, 1) := by decide +kernel
theorem dL_law_765 : decode cL_law 765 = .ok (.iaload, 1) := by decide +kernel
theorem dL_law_766 : decode cL_law 766 = .ok (.invokevirtual 88, 3) := by decide +kernel
theorem dL_law_769 : decode cL_law 769 = .ok (.if_icmp .eq 761, 3) := by decide +kernel
theorem dL_law_772 : decode cL_law 772 = .ok (.iconst 0, 1) := by decide +kernel
theorem dL_law_773 : decode cL_law 773 = .ok (.ireturn, 1) := by decide +kernel
theorem dL_law_774 : decode cL_law 774 = .ok (.aload_n 1, 1) := by decide +kernel
theorem dL_law_775 : decode cL_law 775 = .ok (.aload_n 0, 1) := by decide +kernel
theorem dL_law_776 : decode cL_law 776 = .ok (.iload_n 3, 1) := by decide +kernel
theorem dL_law_777 : decode cL_law 777 = .ok (.iconst 1, 1) := by decide +kernel
theorem dL_law_778 : decode cL_law 778 = .ok (.iadd, 1) := by decide +kernel
theorem dL_law_779 : decode cL_law 779 = .ok (.iaload, 1) := by decide +kernel
theorem dL_law_780 : decode cL_law 780 = .ok (.aload_n 0, 1) := by decide +kernel
theorem dL_law_781 : decode cL_law 781 = .ok (.iload_n 3, 1) := by decide +kernel
theorem dL_law_782 : decode cL_law 782 = .ok (.iconst 2, 1) := by decide +kernel
theorem dL_law_783 : decode cL_law 783 = .ok (.iadd, 1) := by decide +kernel
theorem dL_law_784 : decode cL_law 784 = .ok (.iaload, 1) := by decide +kernel
theorem dL_law_785 : decode cL_law 785 = .ok (.invokevirtual 89, 3) := by decide +kernel
theorem dL_law_788 : decode cL_law 788 = .ok (.aload_n 2, 1) := by decide +kernel
theorem dL_law_789 : decode cL_law 789 = .ok (.aload_n 0, 1) := by decide +kernel
theorem dL_law_790 : decode cL_law 790 = .ok (.iload_n 3, 1) := by decide +kernel
theorem dL_law_791 : decode cL_law 791 = .ok (.iconst 1, 1) := by decide +kernel
theorem dL_law_792 : decode cL_law 792 = .ok (.iadd, 1) := by decide +kernel
theorem dL_law_793 : decode cL_law 793 = .ok (.iaload, 1) := by decide +kernel
theorem dL_law_794 : decode cL_law 794 = .ok (.aload_n 0, 1) := by decide +kernel
theorem dL_law_795 : decode cL_law 795 = .ok (.iload_n 3, 1) := by decide +kernel
theorem dL_law_796 : decode cL_law 796 = .ok (.iconst 2, 1) := by decide +kernel
theorem dL_law_797 : decode cL_law 797 = .ok (.iadd, 1) := by decide +kernel
theorem dL_law_798 : decode cL_law 798 = .ok (.iaload, 1) := by decide +kernel
theorem dL_law_799 : decode cL_law 799 = .ok (.invokevirtual 92, 3) := by decide +kernel
theorem dL_law_802 : decode cL_law 802 = .ok (.if_icmp .eq 728, 3) := by decide +kernel
theorem dL_law_805 : decode cL_law 805 = .ok (.iconst 0, 1) := by decide +kernel
theorem dL_law_806 : decode cL_law 806 = .ok (.ireturn, 1) := by decide +kernel
theorem dL_law_807 : decode cL_law 807 = .ok (.aload_n 1, 1) := by decide +kernel
theorem dL_law_808 : decode cL_law 808 = .ok (.aload_n 0, 1) := by decide +kernel
theorem dL_law_809 : decode cL_law 809 = .ok (.iload_n 3, 1) := by decide +kernel
theorem dL_law_810 : decode cL_law 810 = .ok (.iconst 1, 1) := by decide +kernel
theorem dL_law_811 : decode cL_law 811 = .ok (.iadd, 1) := by decide +kernel
theorem dL_law_812 : decode cL_law 812 = .ok (.iaload, 1) := by decide +kernel
theorem dL_law_813 : decode cL_law 813 = .ok (.aload_n 0, 1) := by decide +kernel
theorem dL_law_814 : decode cL_law 814 = .ok (.iload_n 3, 1) := by decide +kernel
theorem dL_law_815 : decode cL_law 815 = .ok (.iconst 2, 1) := by decide +kernel
theorem dL_law_816 : decode cL_law 816 = .ok (.iadd, 1) := by decide +kernel
theorem dL_law_817 : decode cL_law 817 = .ok (.iaload, 1) := by decide +kernel
theorem dL_law_818 : decode cL_law 818 = .ok (.aload_n 0, 1) := by decide +kernel
theorem dL_law_819 : decode cL_law 819 = .ok (.iload_n 3, 1) := by decide +kernel
theorem dL_law_820 : decode cL_law 820 = .ok (.iconst 3, 1) := by decide +kernel
theorem dL_law_821 : decode cL_law 821 = .ok (.iadd, 1) := by decide +kernel
theorem dL_law_822 : decode cL_law 822 = .ok (.iaload, 1) := by decide +kernel
theorem dL_law_823 : decode cL_law 823 = .ok (.invokevirtual 93, 3) := by decide +kernel
theorem dL_law_826 : decode cL_law 826 = .ok (.aload_n 2, 1) := by decide +kernel
theorem dL_law_827 : decode cL_law 827 = .ok (.aload_n 0, 1) := by decide +kernel
theorem dL_law_828 : decode cL_law 828 = .ok (.iload_n 3, 1) := by decide +kernel
theorem dL_law_829 : decode cL_law 829 = .ok (.iconst 1, 1) := by decide +kernel
theorem dL_law_830 : decode cL_law 830 = .ok (.iadd, 1) := by decide +kernel
theorem dL_law_831 : decode cL_law 831 = .ok (.iaload, 1) := by decide +kernel
theorem dL_law_832 : decode cL_law 832 = .ok (.aload_n 0, 1) := by decide +kernel
theorem dL_law_833 : decode cL_law 833 = .ok (.iload_n 3, 1) := by decide +kernel
theorem dL_law_834 : decode cL_law 834 = .ok (.iconst 2, 1) := by decide +kernel
theorem dL_law_835 : decode cL_law 835 = .ok (.iadd, 1) := by decide +kernel
theorem dL_law_836 : decode cL_law 836 = .ok (.iaload, 1) := by decide +kernel
theorem dL_law_837 : decode cL_law 837 = .ok (.aload_n 0, 1) := by decide +kernel
theorem dL_law_838 : decode cL_law 838 = .ok (.iload_n 3, 1) := by decide +kernel
theorem dL_law_839 : decode cL_law 839 = .ok (.iconst 3, 1) := by decide +kernel
theorem dL_law_840 : decode cL_law 840 = .ok (.iadd, 1) := by decide +kernel
theorem dL_law_841 : decode cL_law 841 = .ok (.iaload, 1) := by decide +kernel
theorem dL_law_842 : decode cL_law 842 = .ok (.invokevirtual 96, 3) := by decide +kernel
theorem dL_law_845 : decode cL_law 845 = .ok (.if_icmp .eq 685, 3) := by decide +kernel
theorem dL_law_848 : decode cL_law 848 = .ok (.iconst 0, 1) := by decide +kernel
theorem dL_law_849 : decode cL_law 849 = .ok (.ireturn, 1) := by decide +kernel
theorem dL_law_850 : decode cL_law 850 = .ok (.aload_n 1, 1) := by decide +kernel
theorem dL_law_851 : decode cL_law 851 = .ok (.aload_n 0, 1) := by decide +kernel
theorem dL_law_852 : decode cL_law 852 = .ok (.iload_n 3, 1) := by decide +kernel
theorem dL_law_853 : decode cL_law 853 = .ok (.iconst 1, 1) := by decide +kernel
theorem dL_law_854 : decode cL_law 854 = .ok (.iadd, 1) := by decide +kernel
theorem dL_law_855 : decode cL_law 855 = .ok (.iaload, 1) := by decide +kernel
theorem dL_law_856 : decode cL_law 856 = .ok (.aload_n 0, 1) := by decide +kernel
theorem dL_law_857 : decode cL_law 857 = .ok (.iload_n 3, 1) := by decide +kernel
theorem dL_law_858 : decode cL_law 858 = .ok (.iconst 2, 1) := by decide +kernel
theorem dL_law_859 : decode cL_law 859 = .ok (.iadd, 1) := by decide +kernel
theorem dL_law_860 : decode cL_law 860 = .ok (.iaload, 1) := by decide +kernel
theorem dL_law_861 : decode cL_law 861 = .ok (.invokevirtual 97, 3) := by decide +kernel
theorem dL_law_864 : decode cL_law 864 = .ok (.aload_n 2, 1) := by decide +kernel
theorem dL_law_865 : decode cL_law 865 = .ok (.aload_n 0, 1) := by decide +kernel
theorem dL_law_866 : decode cL_law 866 = .ok (.iload_n 3, 1) := by decide +kernel
theorem dL_law_867 : decode cL_law 867 = .ok (.iconst 1, 1) := by decide +kernel
theorem dL_law_868 : decode cL_law 868 = .ok (.iadd, 1) := by decide +kernel
theorem dL_law_869 : decode cL_law 869 = .ok (.iaload, 1) := by decide +kernel
theorem dL_law_870 : decode cL_law 870 = .ok (.aload_n 0, 1) := by decide +kernel
theorem dL_law_871 : decode cL_law 871 = .ok (.iload_n 3, 1) := by decide +kernel
theorem dL_law_872 : decode cL_law 872 = .ok (.iconst 2, 1) := by decide +kernel
theorem dL_law_873 : decode cL_law 873 = .ok (.iadd, 1) := by decide +kernel
theorem dL_law_874 : decode cL_law 874 = .ok (.iaload, 1) := by decide +kernel
theorem dL_law_875 : decode cL_law 875 = .ok (.invokevirtual 100, 3) := by decide +kernel
theorem dL_law_878 : decode cL_law 878 = .ok (.if_icmp .eq 652, 3) := by decide +kernel
theorem dL_law_881 : decode cL_law 881 = .ok (.iconst 0, 1) := by decide +kernel
theorem dL_law_882 : decode cL_law 882 = .ok (.ireturn, 1) := by decide +kernel
theorem dL_law_883 : decode cL_law 883 = .ok (.aload_n 1, 1) := by decide +kernel
theorem dL_law_884 : decode cL_law 884 = .ok (.aload_n 0, 1) := by decide +kernel
theorem dL_law_885 : decode cL_law 885 = .ok (.iload_n 3, 1) := by decide +kernel
theorem dL_law_886 : decode cL_law 886 = .ok (.iconst 1, 1) := by decide +kernel
theorem dL_law_887 : decode cL_law 887 = .ok (.iadd, 1) := by decide +kernel
theorem dL_law_888 : decode cL_law 888 = .ok (.iaload, 1) := by decide +kernel
theorem dL_law_889 : decode cL_law 889 = .ok (.invokevirtual 101, 3) := by decide +kernel
theorem dL_law_892 : decode cL_law 892 = .ok (.aload_n 2, 1) := by decide +kernel
theorem dL_law_893 : decode cL_law 893 = .ok (.aload_n 0, 1) := by decide +kernel
theorem dL_law_894 : decode cL_law 894 = .ok (.iload_n 3, 1) := by decide +kernel
theorem dL_law_895 : decode cL_law 895 = .ok (.iconst 1, 1) := by decide +kernel
theorem dL_law_896 : decode cL_law 896 = .ok (.iadd, 1) := by decide +kernel
theorem dL_law_897 : decode cL_law 897 = .ok (.iaload, 1) := by decide +kernel
theorem dL_law_898 : decode cL_law 898 = .ok (.invokevirtual 104, 3) := by decide +kernel
theorem dL_law_901 : decode cL_law 901 = .ok (.if_icmp .eq 629, 3) := by decide +kernel
theorem dL_law_904 : decode cL_law 904 = .ok (.iconst 0, 1) := by decide +kernel
theorem dL_law_905 : decode cL_law 905 = .ok (.ireturn, 1) := by decide +kernel
theorem dL_law_906 : decode cL_law 906 = .ok (.aload_n 1, 1) := by decide +kernel
theorem dL_law_907 : decode cL_law 907 = .ok (.aload_n 0, 1) := by decide +kernel
theorem dL_law_908 : decode cL_law 908 = .ok (.iload_n 3, 1) := by decide +kernel
theorem dL_law_909 : decode cL_law 909 = .ok (.iconst 1, 1) := by decide +kernel
theorem dL_law_910 : decode cL_law 910 = .ok (.iadd, 1) := by decide +kernel
theorem dL_law_911 : decode cL_law 911 = .ok (.iaload, 1) := by decide +kernel
theorem dL_law_912 : decode cL_law 912 = .ok (.aload_n 0, 1) := by decide +kernel
theorem dL_law_913 : decode cL_law 913 = .ok (.iload_n 3, 1) := by decide +kernel
theorem dL_law_914 : decode cL_law 914 = .ok (.iconst 2, 1) := by decide +kernel
theorem dL_law_915 : decode cL_law 915 = .ok (.iadd, 1) := by decide +kernel
theorem dL_law_916 : decode cL_law 916 = .ok (.iaload, 1) := by decide +kernel
theorem dL_law_917 : decode cL_law 917 = .ok (.aload_n 0, 1) := by decide +kernel
theorem dL_law_918 : decode cL_law 918 = .ok (.iload_n 3, 1) := by decide +kernel
theorem dL_law_919 : decode cL_law 919 = .ok (.iconst 3, 1) := by decide +kernel
theorem dL_law_920 : decode cL_law 920 = .ok (.iadd, 1) := by decide +kernel
theorem dL_law_921 : decode cL_law 921 = .ok (.iaload, 1) := by decide +kernel
theorem dL_law_922 : decode cL_law 922 = .ok (.invokevirtual 105, 3) := by decide +kernel
theorem dL_law_925 : decode cL_law 925 = .ok (.aload_n 2, 1) := by decide +kernel
theorem dL_law_926 : decode cL_law 926 = .ok (.aload_n 0, 1) := by decide +kernel
theorem dL_law_927 : decode cL_law 927 = .ok (.iload_n 3, 1) := by decide +kernel
theorem dL_law_928 : decode cL_law 928 = .ok (.iconst 1, 1) := by decide +kernel
theorem dL_law_929 : decode cL_law 929 = .ok (.iadd, 1) := by decide +kernel
theorem dL_law_930 : decode cL_law 930 = .ok (.iaload, 1) := by decide +kernel
theorem dL_law_931 : decode cL_law 931 = .ok (.aload_n 0, 1) := by decide +kernel
theorem dL_law_932 : decode cL_law 932 = .ok (.iload_n 3, 1) := by decide +kernel
theorem dL_law_933 : decode cL_law 933 = .ok (.iconst 2, 1) := by decide +kernel
theorem dL_law_934 : decode cL_law 934 = .ok (.iadd, 1) := by decide +kernel
theorem dL_law_935 : decode cL_law 935 = .ok (.iaload, 1) := by decide +kernel
theorem dL_law_936 : decode cL_law 936 = .ok (.aload_n 0, 1) := by decide +kernel
theorem dL_law_937 : decode cL_law 937 = .ok (.iload_n 3, 1) := by decide +kernel
theorem dL_law_938 : decode cL_law 938 = .ok (.iconst 3, 1) := by decide +kernel
theorem dL_law_939 : decode cL_law 939 = .ok (.iadd, 1) := by decide +kernel
theorem dL_law_940 : decode cL_law 940 = .ok (.iaload, 1) := by decide +kernel
theorem dL_law_941 : decode cL_law 941 = .ok (.invokevirtual 108, 3) := by decide +kernel
theorem dL_law_944 : decode cL_law 944 = .ok (.if_icmp .eq 586, 3) := by decide +kernel
theorem dL_law_947 : decode cL_law 947 = .ok (.iconst 0, 1) := by decide +kernel
theorem dL_law_948 : decode cL_law 948 = .ok (.ireturn, 1) := by decide +kernel
theorem dL_law_949 : decode cL_law 949 = .ok (.aload_n 1, 1) := by decide +kernel
theorem dL_law_950 : decode cL_law 950 = .ok (.aload_n 0, 1) := by decide +kernel
theorem dL_law_951 : decode cL_law 951 = .ok (.iload_n 3, 1) := by decide +kernel
theorem dL_law_952 : decode cL_law 952 = .ok (.iconst 1, 1) := by decide +kernel
theorem dL_law_953 : decode cL_law 953 = .ok (.iadd, 1) := by decide +kernel
theorem dL_law_954 : decode cL_law 954 = .ok (.iaload, 1) := by decide +kernel
theorem dL_law_955 : decode cL_law 955 = .ok (.aload_n 0, 1) := by decide +kernel
theorem dL_law_956 : decode cL_law 956 = .ok (.iload_n 3, 1) := by decide +kernel
theorem dL_law_957 : decode cL_law 957 = .ok (.iconst 2, 1) := by decide +kernel
theorem dL_law_958 : decode cL_law 958 = .ok (.iadd, 1) := by decide +kernel
theorem dL_law_959 : decode cL_law 959 = .ok (.iaload, 1) := by decide +kernel
theorem dL_law_960 : decode cL_law 960 = .ok (.aload_n 0, 1) := by decide +kernel
theorem dL_law_961 : decode cL_law 961 = .ok (.iload_n 3, 1) := by decide +kernel
theorem dL_law_962 : decode cL_law 962 = .ok (.iconst 3, 1) := by decide +kernel
theorem dL_law_963 : decode cL_law 963 = .ok (.iadd, 1) := by decide +kernel
theorem dL_law_964 : decode cL_law 964 = .ok (.iaload, 1) := by decide +kernel
theorem dL_law_965 : decode cL_law 965 = .ok (.invokevirtual 109, 3) := by decide +kernel
theorem dL_law_968 : decode cL_law 968 = .ok (.aload_n 2, 1) := by decide +kernel
theorem dL_law_969 : decode cL_law 969 = .ok (.aload_n 0, 1) := by decide +kernel
theorem dL_law_970 : decode cL_law 970 = .ok (.iload_n 3, 1) := by decide +kernel
theorem dL_law_971 : decode cL_law 971 = .ok (.iconst 1, 1) := by decide +kernel
theorem dL_law_972 : decode cL_law 972 = .ok (.iadd, 1) := by decide +kernel
theorem dL_law_973 : decode cL_law 973 = .ok (.iaload, 1) := by decide +kernel
theorem dL_law_974 : decode cL_law 974 = .ok (.aload_n 0, 1) := by decide +kernel
theorem dL_law_975 : decode cL_law 975 = .ok (.iload_n 3, 1) := by decide +kernel
theorem dL_law_976 : decode cL_law 976 = .ok (.iconst 2, 1) := by decide +kernel
theorem dL_law_977 : decode cL_law 977 = .ok (.iadd, 1) := by decide +kernel
theorem dL_law_978 : decode cL_law 978 = .ok (.iaload, 1) := by decide +kernel
theorem dL_law_979 : decode cL_law 979 = .ok (.aload_n 0, 1) := by decide +kernel
theorem dL_law_980 : decode cL_law 980 = .ok (.iload_n 3, 1) := by decide +kernel
theorem dL_law_981 : decode cL_law 981 = .ok (.iconst 3, 1) := by decide +kernel
theorem dL_law_982 : decode cL_law 982 = .ok (.iadd, 1) := by decide +kernel
theorem dL_law_983 : decode cL_law 983 = .ok (.iaload, 1) := by decide +kernel
theorem dL_law_984 : decode cL_law 984 = .ok (.invokevirtual 112, 3) := by decide +kernel
theorem dL_law_987 : decode cL_law 987 = .ok (.if_icmp .eq 543, 3) := by decide +kernel
theorem dL_law_990 : decode cL_law 990 = .ok (.iconst 0, 1) := by decide +kernel
theorem dL_law_991 : decode cL_law 991 = .ok (.ireturn, 1) := by decide +kernel
theorem dL_law_992 : decode cL_law 992 = .ok (.aload_n 1, 1) := by decide +kernel
theorem dL_law_993 : decode cL_law 993 = .ok (.aload_n 0, 1) := by decide +kernel
theorem dL_law_994 : decode cL_law 994 = .ok (.iload_n 3, 1) := by decide +kernel
theorem dL_law_995 : decode cL_law 995 = .ok (.iconst 1, 1) := by decide +kernel
theorem dL_law_996 : decode cL_law 996 = .ok (.iadd, 1) := by decide +kernel
theorem dL_law_997 : decode cL_law 997 = .ok (.iaload, 1) := by decide +kernel
theorem dL_law_998 : decode cL_law 998 = .ok (.aload_n 0, 1) := by decide +kernel
theorem dL_law_999 : decode cL_law 999 = .ok (.iload_n 3, 1) := by decide +kernel
theorem dL_law_1000 : decode cL_law 1000 = .ok (.iconst 2, 1) := by decide +kernel
theorem dL_law_1001 : decode cL_law 1001 = .ok (.iadd, 1) := by decide +kernel
theorem dL_law_1002 : decode cL_law 1002 = .ok (.iaload, 1) := by decide +kernel
theorem dL_law_1003 : decode cL_law 1003 = .ok (.aload_n 0, 1) := by decide +kernel
theorem dL_law_1004 : decode cL_law 1004 = .ok (.iload_n 3, 1) := by decide +kernel
theorem dL_law_1005 : decode cL_law 1005 = .ok (.iconst 3, 1) := by decide +kernel
theorem dL_law_1006 : decode cL_law 1006 = .ok (.iadd, 1) := by decide +kernel
theorem dL_law_1007 : decode cL_law 1007 = .ok (.iaload, 1) := by decide +kernel
theorem dL_law_1008 : decode cL_law 1008 = .ok (.invokevirtual 113, 3) := by decide +kernel
theorem dL_law_1011 : decode cL_law 1011 = .ok (.aload_n 2, 1) := by decide +kernel
theorem dL_law_1012 : decode cL_law 1012 = .ok (.aload_n 0, 1) := by decide +kernel
theorem dL_law_1013 : decode cL_law 1013 = .ok (.iload_n 3, 1) := by decide +kernel
theorem dL_law_1014 : decode cL_law 1014 = .ok (.iconst 1, 1) := by decide +kernel
theorem dL_law_1015 : decode cL_law 1015 = .ok (.iadd, 1) := by decide +kernel
theorem dL_law_1016 : decode cL_law 1016 = .ok (.iaload, 1) := by decide +kernel
theorem dL_law_1017 : decode cL_law 1017 = .ok (.aload_n 0, 1) := by decide +kernel
theorem dL_law_1018 : decode cL_law 1018 = .ok (.iload_n 3, 1) := by decide +kernel
theorem dL_law_1019 : decode cL_law 1019 = .ok (.iconst 2, 1) := by decide +kernel
theorem dL_law_1020 : decode cL_law 1020 = .ok (.iadd, 1) := by decide +kernel
theorem dL_law_1021 : decode cL_law 1021 = .ok (.iaload, 1) := by decide +kernel
theorem dL_law_1022 : decode cL_law 1022 = .ok (.aload_n 0, 1) := by decide +kernel
theorem dL_law_1023 : decode cL_law 1023 = .ok (.iload_n 3, 1) := by decide +kernel
theorem dL_law_1024 : decode cL_law 1024 = .ok (.iconst 3, 1) := by decide +kernel
theorem dL_law_1025 : decode cL_law 1025 = .ok (.iadd, 1) := by decide +kernel
theorem dL_law_1026 : decode cL_law 1026 = .ok (.iaload, 1) := by decide +kernel
theorem dL_law_1027 : decode cL_law 1027 = .ok (.invokevirtual 116, 3) := by decide +kernel
theorem dL_law_1030 : decode cL_law 1030 = .ok (.if_icmp .eq 500, 3) := by decide +kernel
theorem dL_law_1033 : decode cL_law 1033 = .ok (.iconst 0, 1) := by decide +kernel
theorem dL_law_1034 : decode cL_law 1034 = .ok (.ireturn, 1) := by decide +kernel
theorem dL_law_1035 : decode cL_law 1035 = .ok (.aload_n 1, 1) := by decide +kernel
theorem dL_law_1036 : decode cL_law 1036 = .ok (.aload_n 0, 1) := by decide +kernel
theorem dL_law_1037 : decode cL_law 1037 = .ok (.iload_n 3, 1) := by decide +kernel
theorem dL_law_1038 : decode cL_law 1038 = .ok (.iconst 1, 1) := by decide +kernel
theorem dL_law_1039 : decode cL_law 1039 = .ok (.iadd, 1) := by decide +kernel
theorem dL_law_1040 : decode cL_law 1040 = .ok (.iaload, 1) := by decide +kernel
theorem dL_law_1041 : decode cL_law 1041 = .ok (.invokevirtual 117, 3) := by decide +kernel
theorem dL_law_1044 : decode cL_law 1044 = .ok (.aload_n 2, 1) := by decide +kernel
theorem dL_law_1045 : decode cL_law 1045 = .ok (.aload_n 0, 1) := by decide +kernel
theorem dL_law_1046 : decode cL_law 1046 = .ok (.iload_n 3, 1) := by decide +kernel
theorem dL_law_1047 : decode cL_law 1047 = .ok (.iconst 1, 1) := by decide +kernel
theorem dL_law_1048 : decode cL_law 1048 = .ok (.iadd, 1) := by decide +kernel
theorem dL_law_1049 : decode cL_law 1049 = .ok (.iaload, 1) := by decide +kernel
theorem dL_law_1050 : decode cL_law 1050 = .ok (.invokevirtual 120, 3) := by decide +kernel
theorem dL_law_1053 : decode cL_law 1053 = .ok (.if_icmp .eq 477, 3) := by decide +kernel
theorem dL_law_1056 : decode cL_law 1056 = .ok (.iconst 0, 1) := by decide +kernel
theorem dL_law_1057 : decode cL_law 1057 = .ok (.ireturn, 1) := by decide +kernel
theorem dL_law_1058 : decode cL_law 1058 = .ok (.aload_n 1, 1) := by decide +kernel
theorem dL_law_1059 : decode cL_law 1059 = .ok (.aload_n 0, 1) := by decide +kernel
theorem dL_law_1060 : decode cL_law 1060 = .ok (.iload_n 3, 1) := by decide +kernel
theorem dL_law_1061 : decode cL_law 1061 = .ok (.iconst 1, 1) := by decide +kernel
theorem dL_law_1062 : decode cL_law 1062 = .ok (.iadd, 1) := by decide +kernel
theorem dL_law_1063 : decode cL_law 1063 = .ok (.iaload, 1) := by decide +kernel
theorem dL_law_1064 : decode cL_law 1064 = .ok (.aload_n 0, 1) := by decide +kernel
theorem dL_law_1065 : decode cL_law 1065 = .ok (.iload_n 3, 1) := by decide +kernel
theorem dL_law_1066 : decode cL_law 1066 = .ok (.iconst 2, 1) := by decide +kernel
theorem dL_law_1067 : decode cL_law 1067 = .ok (.iadd, 1) := by decide +kernel
theorem dL_law_1068 : decode cL_law 1068 = .ok (.iaload, 1) := by decide +kernel
theorem dL_law_1069 : decode cL_law 1069 = .ok (.aload_n 0, 1) := by decide +kernel
theorem dL_law_1070 : decode cL_law 1070 = .ok (.iload_n 3, 1) := by decide +kernel
theorem dL_law_1071 : decode cL_law 1071 = .ok (.iconst 3, 1) := by decide +kernel
theorem dL_law_1072 : decode cL_law 1072 = .ok (.iadd, 1) := by decide +kernel
theorem dL_law_1073 : decode cL_law 1073 = .ok (.iaload, 1) := by decide +kernel
theorem dL_law_1074 : decode cL_law 1074 = .ok (.invokevirtual 121, 3) := by decide +kernel
theorem dL_law_1077 : decode cL_law 1077 = .ok (.aload_n 2, 1) := by decide +kernel
theorem dL_law_1078 : decode cL_law 1078 = .ok (.aload_n 0, 1) := by decide +kernel
theorem dL_law_1079 : decode cL_law 1079 = .ok (.iload_n 3, 1) := by decide +kernel
theorem dL_law_1080 : decode cL_law 1080 = .ok (.iconst 1, 1) := by decide +kernel
theorem dL_law_1081 : decode cL_law 1081 = .ok (.iadd, 1) := by decide +kernel
theorem dL_law_1082 : decode cL_law 1082 = .ok (.iaload, 1) := by decide +kernel
theorem dL_law_1083 : decode cL_law 1083 = .ok (.aload_n 0, 1) := by decide +kernel
theorem dL_law_1084 : decode cL_law 1084 = .ok (.iload_n 3, 1) := by decide +kernel
theorem dL_law_1085 : decode cL_law 1085 = .ok (.iconst 2, 1) := by decide +kernel
theorem dL_law_1086 : decode cL_law 1086 = .ok (.iadd, 1) := by decide +kernel
theorem dL_law_1087 : decode cL_law 1087 = .ok (.iaload, 1) := by decide +kernel
theorem dL_law_1088 : decode cL_law 1088 = .ok (.aload_n 0, 1) := by decide +kernel
theorem dL_law_1089 : decode cL_law 1089 = .ok (.iload_n 3, 1) := by decide +kernel
theorem dL_law_1090 : decode cL_law 1090 = .ok (.iconst 3, 1) := by decide +kernel
theorem dL_law_1091 : decode cL_law 1091 = .ok (.iadd, 1) := by decide +kernel
theorem dL_law_1092 : decode cL_law 1092 = .ok (.iaload, 1) := by decide +kernel
theorem dL_law_1093 : decode cL_law 1093 = .ok (.invokevirtual 125, 3) := by decide +kernel
theorem dL_law_1096 : decode cL_law 1096 = .ok (.lcmp, 1) := by decide +kernel
theorem dL_law_1097 : decode cL_law 1097 = .ok (.ifCond .eq 433, 3) := by decide +kernel
theorem dL_law_1100 : decode cL_law 1100 = .ok (.iconst 0, 1) := by decide +kernel
theorem dL_law_1101 : decode cL_law 1101 = .ok (.ireturn, 1) := by decide +kernel
theorem dL_law_1102 : decode cL_law 1102 = .ok (.aload_n 1, 1) := by decide +kernel
theorem dL_law_1103 : decode cL_law 1103 = .ok (.aload_n 0, 1) := by decide +kernel
theorem dL_law_1104 : decode cL_law 1104 = .ok (.iload_n 3, 1) := by decide +kernel
theorem dL_law_1105 : decode cL_law 1105 = .ok (.iconst 1, 1) := by decide +kernel
theorem dL_law_1106 : decode cL_law 1106 = .ok (.iadd, 1) := by decide +kernel
theorem dL_law_1107 : decode cL_law 1107 = .ok (.iaload, 1) := by decide +kernel
theorem dL_law_1108 : decode cL_law 1108 = .ok (.invokevirtual 126, 3) := by decide +kernel
theorem dL_law_1111 : decode cL_law 1111 = .ok (.aload_n 2, 1) := by decide +kernel
theorem dL_law_1112 : decode cL_law 1112 = .ok (.aload_n 0, 1) := by decide +kernel
theorem dL_law_1113 : decode cL_law 1113 = .ok (.iload_n 3, 1) := by decide +kernel
theorem dL_law_1114 : decode cL_law 1114 = .ok (.iconst 1, 1) := by decide +kernel
theorem dL_law_1115 : decode cL_law 1115 = .ok (.iadd, 1) := by decide +kernel
theorem dL_law_1116 : decode cL_law 1116 = .ok (.iaload, 1) := by decide +kernel
theorem dL_law_1117 : decode cL_law 1117 = .ok (.invokevirtual 129, 3) := by decide +kernel
theorem dL_law_1120 : decode cL_law 1120 = .ok (.if_icmp .eq 410, 3) := by decide +kernel
theorem dL_law_1123 : decode cL_law 1123 = .ok (.iconst 0, 1) := by decide +kernel
theorem dL_law_1124 : decode cL_law 1124 = .ok (.ireturn, 1) := by decide +kernel
theorem dL_law_1125 : decode cL_law 1125 = .ok (.aload_n 1, 1) := by decide +kernel
theorem dL_law_1126 : decode cL_law 1126 = .ok (.aload_n 0, 1) := by decide +kernel
theorem dL_law_1127 : decode cL_law 1127 = .ok (.iload_n 3, 1) := by decide +kernel
theorem dL_law_1128 : decode cL_law 1128 = .ok (.iconst 1, 1) := by decide +kernel
theorem dL_law_1129 : decode cL_law 1129 = .ok (.iadd, 1) := by decide +kernel
theorem dL_law_1130 : decode cL_law 1130 = .ok (.iaload, 1) := by decide +kernel
theorem dL_law_1131 : decode cL_law 1131 = .ok (.aload_n 0, 1) := by decide +kernel
theorem dL_law_1132 : decode cL_law 1132 = .ok (.iload_n 3, 1) := by decide +kernel
theorem dL_law_1133 : decode cL_law 1133 = .ok (.iconst 2, 1) := by decide +kernel
theorem dL_law_1134 : decode cL_law 1134 = .ok (.iadd, 1) := by decide +kernel
theorem dL_law_1135 : decode cL_law 1135 = .ok (.iaload, 1) := by decide +kernel
theorem dL_law_1136 : decode cL_law 1136 = .ok (.invokevirtual 130, 3) := by decide +kernel
theorem dL_law_1139 : decode cL_law 1139 = .ok (.aload_n 2, 1) := by decide +kernel
theorem dL_law_1140 : decode cL_law 1140 = .ok (.aload_n 0, 1) := by decide +kernel
theorem dL_law_1141 : decode cL_law 1141 = .ok (.iload_n 3, 1) := by decide +kernel
theorem dL_law_1142 : decode cL_law 1142 = .ok (.iconst 1, 1) := by decide +kernel
theorem dL_law_1143 : decode cL_law 1143 = .ok (.iadd, 1) := by decide +kernel
theorem dL_law_1144 : decode cL_law 1144 = .ok (.iaload, 1) := by decide +kernel
theorem dL_law_1145 : decode cL_law 1145 = .ok (.aload_n 0, 1) := by decide +kernel
theorem dL_law_1146 : decode cL_law 1146 = .ok (.iload_n 3, 1) := by decide +kernel
theorem dL_law_1147 : decode cL_law 1147 = .ok (.iconst 2, 1) := by decide +kernel
theorem dL_law_1148 : decode cL_law 1148 = .ok (.iadd, 1) := by decide +kernel
theorem dL_law_1149 : decode cL_law 1149 = .ok (.iaload, 1) := by decide +kernel
theorem dL_law_1150 : decode cL_law 1150 = .ok (.invokevirtual 133, 3) := by decide +kernel
theorem dL_law_1153 : decode cL_law 1153 = .ok (.if_icmp .eq 377, 3) := by decide +kernel
theorem dL_law_1156 : decode cL_law 1156 = .ok (.iconst 0, 1) := by decide +kernel
theorem dL_law_1157 : decode cL_law 1157 = .ok (.ireturn, 1) := by decide +kernel
theorem dL_law_1158 : decode cL_law 1158 = .ok (.aload_n 1, 1) := by decide +kernel
theorem dL_law_1159 : decode cL_law 1159 = .ok (.invokevirtual 134, 3) := by decide +kernel
theorem dL_law_1162 : decode cL_law 1162 = .ok (.aload_n 2, 1) := by decide +kernel
theorem dL_law_1163 : decode cL_law 1163 = .ok (.invokevirtual 137, 3) := by decide +kernel
theorem dL_law_1166 : decode cL_law 1166 = .ok (.if_icmp .eq 364, 3) := by decide +kernel
theorem dL_law_1169 : decode cL_law 1169 = .ok (.iconst 0, 1) := by decide +kernel
theorem dL_law_1170 : decode cL_law 1170 = .ok (.ireturn, 1) := by decide +kernel
theorem dL_law_1171 : decode cL_law 1171 = .ok (.aload_n 1, 1) := by decide +kernel
theorem dL_law_1172 : decode cL_law 1172 = .ok (.invokevirtual 138, 3) := by decide +kernel
theorem dL_law_1175 : decode cL_law 1175 = .ok (.aload_n 2, 1) := by decide +kernel
theorem dL_law_1176 : decode cL_law 1176 = .ok (.invokevirtual 141, 3) := by decide +kernel
theorem dL_law_1179 : decode cL_law 1179 = .ok (.if_icmp .eq 351, 3) := by decide +kernel
theorem dL_law_1182 : decode cL_law 1182 = .ok (.iconst 0, 1) := by decide +kernel
theorem dL_law_1183 : decode cL_law 1183 = .ok (.ireturn, 1) := by decide +kernel
theorem dL_law_1184 : decode cL_law 1184 = .ok (.aload_n 1, 1) := by decide +kernel
theorem dL_law_1185 : decode cL_law 1185 = .ok (.aload_n 0, 1) := by decide +kernel
theorem dL_law_1186 : decode cL_law 1186 = .ok (.iload_n 3, 1) := by decide +kernel
theorem dL_law_1187 : decode cL_law 1187 = .ok (.iconst 1, 1) := by decide +kernel
theorem dL_law_1188 : decode cL_law 1188 = .ok (.iadd, 1) := by decide +kernel
theorem dL_law_1189 : decode cL_law 1189 = .ok (.iaload, 1) := by decide +kernel
theorem dL_law_1190 : decode cL_law 1190 = .ok (.aload_n 0, 1) := by decide +kernel
theorem dL_law_1191 : decode cL_law 1191 = .ok (.iload_n 3, 1) := by decide +kernel
theorem dL_law_1192 : decode cL_law 1192 = .ok (.iconst 2, 1) := by decide +kernel
theorem dL_law_1193 : decode cL_law 1193 = .ok (.iadd, 1) := by decide +kernel
theorem dL_law_1194 : decode cL_law 1194 = .ok (.iaload, 1) := by decide +kernel
theorem dL_law_1195 : decode cL_law 1195 = .ok (.invokevirtual 142, 3) := by decide +kernel
theorem dL_law_1198 : decode cL_law 1198 = .ok (.aload_n 2, 1) := by decide +kernel
theorem dL_law_1199 : decode cL_law 1199 = .ok (.aload_n 0, 1) := by decide +kernel
theorem dL_law_1200 : decode cL_law 1200 = .ok (.iload_n 3, 1) := by decide +kernel
theorem dL_law_1201 : decode cL_law 1201 = .ok (.iconst 1, 1) := by decide +kernel
theorem dL_law_1202 : decode cL_law 1202 = .ok (.iadd, 1) := by decide +kernel
theorem dL_law_1203 : decode cL_law 1203 = .ok (.iaload, 1) := by decide +kernel
theorem dL_law_1204 : decode cL_law 1204 = .ok (.aload_n 0, 1) := by decide +kernel
theorem dL_law_1205 : decode cL_law 1205 = .ok (.iload_n 3, 1) := by decide +kernel
theorem dL_law_1206 : decode cL_law 1206 = .ok (.iconst 2, 1) := by decide +kernel
theorem dL_law_1207 : decode cL_law 1207 = .ok (.iadd, 1) := by decide +kernel
theorem dL_law_1208 : decode cL_law 1208 = .ok (.iaload, 1) := by decide +kernel
theorem dL_law_1209 : decode cL_law 1209 = .ok (.invokevirtual 145, 3) := by decide +kernel
theorem dL_law_1212 : decode cL_law 1212 = .ok (.if_icmp .eq 318, 3) := by decide +kernel
theorem dL_law_1215 : decode cL_law 1215 = .ok (.iconst 0, 1) := by decide +kernel
theorem dL_law_1216 : decode cL_law 1216 = .ok (.ireturn, 1) := by decide +kernel
theorem dL_law_1217 : decode cL_law 1217 = .ok (.aload_n 1, 1) := by decide +kernel
theorem dL_law_1218 : decode cL_law 1218 = .ok (.aload_n 0, 1) := by decide +kernel
theorem dL_law_1219 : decode cL_law 1219 = .ok (.iload_n 3, 1) := by decide +kernel
theorem dL_law_1220 : decode cL_law 1220 = .ok (.iconst 1, 1) := by decide +kernel
theorem dL_law_1221 : decode cL_law 1221 = .ok (.iadd, 1) := by decide +kernel
theorem dL_law_1222 : decode cL_law 1222 = .ok (.iaload, 1) := by decide +kernel
theorem dL_law_1223 : decode cL_law 1223 = .ok (.aload_n 0, 1) := by decide +kernel
theorem dL_law_1224 : decode cL_law 1224 = .ok (.iload_n 3, 1) := by decide +kernel
theorem dL_law_1225 : decode cL_law 1225 = .ok (.iconst 2, 1) := by decide +kernel
theorem dL_law_1226 : decode cL_law 1226 = .ok (.iadd, 1) := by decide +kernel
theorem dL_law_1227 : decode cL_law 1227 = .ok (.iaload, 1) := by decide +kernel
theorem dL_law_1228 : decode cL_law 1228 = .ok (.invokevirtual 146, 3) := by decide +kernel
theorem dL_law_1231 : decode cL_law 1231 = .ok (.aload_n 2, 1) := by decide +kernel
theorem dL_law_1232 : decode cL_law 1232 = .ok (.aload_n 0, 1) := by decide +kernel
theorem dL_law_1233 : decode cL_law 1233 = .ok (.iload_n 3, 1) := by decide +kernel
theorem dL_law_1234 : decode cL_law 1234 = .ok (.iconst 1, 1) := by decide +kernel
theorem dL_law_1235 : decode cL_law 1235 = .ok (.iadd, 1) := by decide +kernel
theorem dL_law_1236 : decode cL_law 1236 = .ok (.iaload, 1) := by decide +kernel
theorem dL_law_1237 : decode cL_law 1237 = .ok (.aload_n 0, 1) := by decide +kernel
theorem dL_law_1238 : decode cL_law 1238 = .ok (.iload_n 3, 1) := by decide +kernel
theorem dL_law_1239 : decode cL_law 1239 = .ok (.iconst 2, 1) := by decide +kernel
theorem dL_law_1240 : decode cL_law 1240 = .ok (.iadd, 1) := by decide +kernel
theorem dL_law_1241 : decode cL_law 1241 = .ok (.iaload, 1) := by decide +kernel
theorem dL_law_1242 : decode cL_law 1242 = .ok (.invokevirtual 149, 3) := by decide +kernel
theorem dL_law_1245 : decode cL_law 1245 = .ok (.if_icmp .eq 285, 3) := by decide +kernel
theorem dL_law_1248 : decode cL_law 1248 = .ok (.iconst 0, 1) := by decide +kernel
theorem dL_law_1249 : decode cL_law 1249 = .ok (.ireturn, 1) := by decide +kernel
theorem dL_law_1250 : decode cL_law 1250 = .ok (.aload_n 1, 1) := by decide +kernel
theorem dL_law_1251 : decode cL_law 1251 = .ok (.aload_n 0, 1) := by decide +kernel
theorem dL_law_1252 : decode cL_law 1252 = .ok (.iload_n 3, 1) := by decide +kernel
theorem dL_law_1253 : decode cL_law 1253 = .ok (.iconst 1, 1) := by decide +kernel
theorem dL_law_1254 : decode cL_law 1254 = .ok (.iadd, 1) := by decide +kernel
theorem dL_law_1255 : decode cL_law 1255 = .ok (.iaload, 1) := by decide +kernel
theorem dL_law_1256 : decode cL_law 1256 = .ok (.aload_n 0, 1) := by decide +kernel
theorem dL_law_1257 : decode cL_law 1257 = .ok (.iload_n 3, 1) := by decide +kernel
theorem dL_law_1258 : decode cL_law 1258 = .ok (.iconst 2, 1) := by decide +kernel
theorem dL_law_1259 : decode cL_law 1259 = .ok (.iadd, 1) := by decide +kernel
theorem dL_law_1260 : decode cL_law 1260 = .ok (.iaload, 1) := by decide +kernel
theorem dL_law_1261 : decode cL_law 1261 = .ok (.aload_n 0, 1) := by decide +kernel
theorem dL_law_1262 : decode cL_law 1262 = .ok (.iload_n 3, 1) := by decide +kernel
theorem dL_law_1263 : decode cL_law 1263 = .ok (.iconst 3, 1) := by decide +kernel
theorem dL_law_1264 : decode cL_law 1264 = .ok (.iadd, 1) := by decide +kernel
theorem dL_law_1265 : decode cL_law 1265 = .ok (.iaload, 1) := by decide +kernel
theorem dL_law_1266 : decode cL_law 1266 = .ok (.invokevirtual 150, 3) := by decide +kernel
theorem dL_law_1269 : decode cL_law 1269 = .ok (.aload_n 2, 1) := by decide +kernel
theorem dL_law_1270 : decode cL_law 1270 = .ok (.aload_n 0, 1) := by decide +kernel
theorem dL_law_1271 : decode cL_law 1271 = .ok (.iload_n 3, 1) := by decide +kernel
theorem dL_law_1272 : decode cL_law 1272 = .ok (.iconst 1, 1) := by decide +kernel
theorem dL_law_1273 : decode cL_law 1273 = .ok (.iadd, 1) := by decide +kernel
theorem dL_law_1274 : decode cL_law 1274 = .ok (.iaload, 1) := by decide +kernel
theorem dL_law_1275 : decode cL_law 1275 = .ok (.aload_n 0, 1) := by decide +kernel
theorem dL_law_1276 : decode cL_law 1276 = .ok (.iload_n 3, 1) := by decide +kernel
theorem dL_law_1277 : decode cL_law 1277 = .ok (.iconst 2, 1) := by decide +kernel
theorem dL_law_1278 : decode cL_law 1278 = .ok (.iadd, 1) := by decide +kernel
theorem dL_law_1279 : decode cL_law 1279 = .ok (.iaload, 1) := by decide +kernel
theorem dL_law_1280 : decode cL_law 1280 = .ok (.aload_n 0, 1) := by decide +kernel
theorem dL_law_1281 : decode cL_law 1281 = .ok (.iload_n 3, 1) := by decide +kernel
theorem dL_law_1282 : decode cL_law 1282 = .ok (.iconst 3, 1) := by decide +kernel
theorem dL_law_1283 : decode cL_law 1283 = .ok (.iadd, 1) := by decide +kernel
theorem dL_law_1284 : decode cL_law 1284 = .ok (.iaload, 1) := by decide +kernel
theorem dL_law_1285 : decode cL_law 1285 = .ok (.invokevirtual 153, 3) := by decide +kernel
theorem dL_law_1288 : decode cL_law 1288 = .ok (.if_icmp .eq 242, 3) := by decide +kernel
theorem dL_law_1291 : decode cL_law 1291 = .ok (.iconst 0, 1) := by decide +kernel
theorem dL_law_1292 : decode cL_law 1292 = .ok (.ireturn, 1) := by decide +kernel
theorem dL_law_1293 : decode cL_law 1293 = .ok (.aload_n 1, 1) := by decide +kernel
theorem dL_law_1294 : decode cL_law 1294 = .ok (.aload_n 0, 1) := by decide +kernel
theorem dL_law_1295 : decode cL_law 1295 = .ok (.iload_n 3, 1) := by decide +kernel
theorem dL_law_1296 : decode cL_law 1296 = .ok (.iconst 1, 1) := by decide +kernel
theorem dL_law_1297 : decode cL_law 1297 = .ok (.iadd, 1) := by decide +kernel
theorem dL_law_1298 : decode cL_law 1298 = .ok (.iaload, 1) := by decide +kernel
theorem dL_law_1299 : decode cL_law 1299 = .ok (.aload_n 0, 1) := by decide +kernel
theorem dL_law_1300 : decode cL_law 1300 = .ok (.iload_n 3, 1) := by decide +kernel
theorem dL_law_1301 : decode cL_law 1301 = .ok (.iconst 2, 1) := by decide +kernel
theorem dL_law_1302 : decode cL_law 1302 = .ok (.iadd, 1) := by decide +kernel
theorem dL_law_1303 : decode cL_law 1303 = .ok (.iaload, 1) := by decide +kernel
theorem dL_law_1304 : decode cL_law 1304 = .ok (.aload_n 0, 1) := by decide +kernel
theorem dL_law_1305 : decode cL_law 1305 = .ok (.iload_n 3, 1) := by decide +kernel
theorem dL_law_1306 : decode cL_law 1306 = .ok (.iconst 3, 1) := by decide +kernel
theorem dL_law_1307 : decode cL_law 1307 = .ok (.iadd, 1) := by decide +kernel
theorem dL_law_1308 : decode cL_law 1308 = .ok (.iaload, 1) := by decide +kernel
theorem dL_law_1309 : decode cL_law 1309 = .ok (.invokevirtual 154, 3) := by decide +kernel
theorem dL_law_1312 : decode cL_law 1312 = .ok (.aload_n 2, 1) := by decide +kernel
theorem dL_law_1313 : decode cL_law 1313 = .ok (.aload_n 0, 1) := by decide +kernel
theorem dL_law_1314 : decode cL_law 1314 = .ok (.iload_n 3, 1) := by decide +kernel
theorem dL_law_1315 : decode cL_law 1315 = .ok (.iconst 1, 1) := by decide +kernel
theorem dL_law_1316 : decode cL_law 1316 = .ok (.iadd, 1) := by decide +kernel
theorem dL_law_1317 : decode cL_law 1317 = .ok (.iaload, 1) := by decide +kernel
theorem dL_law_1318 : decode cL_law 1318 = .ok (.aload_n 0, 1) := by decide +kernel
theorem dL_law_1319 : decode cL_law 1319 = .ok (.iload_n 3, 1) := by decide +kernel
theorem dL_law_1320 : decode cL_law 1320 = .ok (.iconst 2, 1) := by decide +kernel
theorem dL_law_1321 : decode cL_law 1321 = .ok (.iadd, 1) := by decide +kernel
theorem dL_law_1322 : decode cL_law 1322 = .ok (.iaload, 1) := by decide +kernel
theorem dL_law_1323 : decode cL_law 1323 = .ok (.aload_n 0, 1) := by decide +kernel
theorem dL_law_1324 : decode cL_law 1324 = .ok (.iload_n 3, 1) := by decide +kernel
theorem dL_law_1325 : decode cL_law 1325 = .ok (.iconst 3, 1) := by decide +kernel
theorem dL_law_1326 : decode cL_law 1326 = .ok (.iadd, 1) := by decide +kernel
theorem dL_law_1327 : decode cL_law 1327 = .ok (.iaload, 1) := by decide +kernel
theorem dL_law_1328 : decode cL_law 1328 = .ok (.invokevirtual 157, 3) := by decide +kernel
theorem dL_law_1331 : decode cL_law 1331 = .ok (.if_icmp .eq 199, 3) := by decide +kernel
theorem dL_law_1334 : decode cL_law 1334 = .ok (.iconst 0, 1) := by decide +kernel
theorem dL_law_1335 : decode cL_law 1335 = .ok (.ireturn, 1) := by decide +kernel
theorem dL_law_1336 : decode cL_law 1336 = .ok (.aload_n 1, 1) := by decide +kernel
theorem dL_law_1337 : decode cL_law 1337 = .ok (.aload_n 0, 1) := by decide +kernel
theorem dL_law_1338 : decode cL_law 1338 = .ok (.iload_n 3, 1) := by decide +kernel
theorem dL_law_1339 : decode cL_law 1339 = .ok (.iconst 1, 1) := by decide +kernel
theorem dL_law_1340 : decode cL_law 1340 = .ok (.iadd, 1) := by decide +kernel
theorem dL_law_1341 : decode cL_law 1341 = .ok (.iaload, 1) := by decide +kernel
theorem dL_law_1342 : decode cL_law 1342 = .ok (.aload_n 0, 1) := by decide +kernel
theorem dL_law_1343 : decode cL_law 1343 = .ok (.iload_n 3, 1) := by decide +kernel
theorem dL_law_1344 : decode cL_law 1344 = .ok (.iconst 2, 1) := by decide +kernel
theorem dL_law_1345 : decode cL_law 1345 = .ok (.iadd, 1) := by decide +kernel
theorem dL_law_1346 : decode cL_law 1346 = .ok (.iaload, 1) := by decide +kernel
theorem dL_law_1347 : decode cL_law 1347 = .ok (.aload_n 0, 1) := by decide +kernel
theorem dL_law_1348 : decode cL_law 1348 = .ok (.iload_n 3, 1) := by decide +kernel
theorem dL_law_1349 : decode cL_law 1349 = .ok (.iconst 3, 1) := by decide +kernel
theorem dL_law_1350 : decode cL_law 1350 = .ok (.iadd, 1) := by decide +kernel
theorem dL_law_1351 : decode cL_law 1351 = .ok (.iaload, 1) := by decide +kernel
theorem dL_law_1352 : decode cL_law 1352 = .ok (.aload_n 0, 1) := by decide +kernel
theorem dL_law_1353 : decode cL_law 1353 = .ok (.iload_n 3, 1) := by decide +kernel
theorem dL_law_1354 : decode cL_law 1354 = .ok (.iconst 4, 1) := by decide +kernel
theorem dL_law_1355 : decode cL_law 1355 = .ok (.iadd, 1) := by decide +kernel
theorem dL_law_1356 : decode cL_law 1356 = .ok (.iaload, 1) := by decide +kernel
theorem dL_law_1357 : decode cL_law 1357 = .ok (.aload_n 0, 1) := by decide +kernel
theorem dL_law_1358 : decode cL_law 1358 = .ok (.iload_n 3, 1) := by decide +kernel
theorem dL_law_1359 : decode cL_law 1359 = .ok (.iconst 5, 1) := by decide +kernel
theorem dL_law_1360 : decode cL_law 1360 = .ok (.iadd, 1) := by decide +kernel
theorem dL_law_1361 : decode cL_law 1361 = .ok (.iaload, 1) := by decide +kernel
theorem dL_law_1362 : decode cL_law 1362 = .ok (.invokevirtual 158, 3) := by decide +kernel
theorem dL_law_1365 : decode cL_law 1365 = .ok (.aload_n 2, 1) := by decide +kernel
theorem dL_law_1366 : decode cL_law 1366 = .ok (.aload_n 0, 1) := by decide +kernel
theorem dL_law_1367 : decode cL_law 1367 = .ok (.iload_n 3, 1) := by decide +kernel
theorem dL_law_1368 : decode cL_law 1368 = .ok (.iconst 1, 1) := by decide +kernel
theorem dL_law_1369 : decode cL_law 1369 = .ok (.iadd, 1) := by decide +kernel
theorem dL_law_1370 : decode cL_law 1370 = .ok (.iaload, 1) := by decide +kernel
theorem dL_law_1371 : decode cL_law 1371 = .ok (.aload_n 0, 1) := by decide +kernel
theorem dL_law_1372 : decode cL_law 1372 = .ok (.iload_n 3, 1) := by decide +kernel
theorem dL_law_1373 : decode cL_law 1373 = .ok (.iconst 2, 1) := by decide +kernel
theorem dL_law_1374 : decode cL_law 1374 = .ok (.iadd, 1) := by decide +kernel
theorem dL_law_1375 : decode cL_law 1375 = .ok (.iaload, 1) := by decide +kernel
theorem dL_law_1376 : decode cL_law 1376 = .ok (.aload_n 0, 1) := by decide +kernel
theorem dL_law_1377 : decode cL_law 1377 = .ok (.iload_n 3, 1) := by decide +kernel
theorem dL_law_1378 : decode cL_law 1378 = .ok (.iconst 3, 1) := by decide +kernel
theorem dL_law_1379 : decode cL_law 1379 = .ok (.iadd, 1) := by decide +kernel
theorem dL_law_1380 : decode cL_law 1380 = .ok (.iaload, 1) := by decide +kernel
theorem dL_law_1381 : decode cL_law 1381 = .ok (.aload_n 0, 1) := by decide +kernel
theorem dL_law_1382 : decode cL_law 1382 = .ok (.iload_n 3, 1) := by decide +kernel
theorem dL_law_1383 : decode cL_law 1383 = .ok (.iconst 4, 1) := by decide +kernel
theorem dL_law_1384 : decode cL_law 1384 = .ok (.iadd, 1) := by decide +kernel
theorem dL_law_1385 : decode cL_law 1385 = .ok (.iaload, 1) := by decide +kernel
theorem dL_law_1386 : decode cL_law 1386 = .ok (.aload_n 0, 1) := by decide +kernel
theorem dL_law_1387 : decode cL_law 1387 = .ok (.iload_n 3, 1) := by decide +kernel
theorem dL_law_1388 : decode cL_law 1388 = .ok (.iconst 5, 1) := by decide +kernel
theorem dL_law_1389 : decode cL_law 1389 = .ok (.iadd, 1) := by decide +kernel
theorem dL_law_1390 : decode cL_law 1390 = .ok (.iaload, 1) := by decide +kernel
theorem dL_law_1391 : decode cL_law 1391 = .ok (.invokevirtual 162, 3) := by decide +kernel
theorem dL_law_1394 : decode cL_law 1394 = .ok (.if_icmp .eq 136, 3) := by decide +kernel
theorem dL_law_1397 : decode cL_law 1397 = .ok (.iconst 0, 1) := by decide +kernel
theorem dL_law_1398 : decode cL_law 1398 = .ok (.ireturn, 1) := by decide +kernel
theorem dL_law_1399 : decode cL_law 1399 = .ok (.aload_n 1, 1) := by decide +kernel
theorem dL_law_1400 : decode cL_law 1400 = .ok (.aload_n 0, 1) := by decide +kernel
theorem dL_law_1401 : decode cL_law 1401 = .ok (.iload_n 3, 1) := by decide +kernel
theorem dL_law_1402 : decode cL_law 1402 = .ok (.iconst 1, 1) := by decide +kernel
theorem dL_law_1403 : decode cL_law 1403 = .ok (.iadd, 1) := by decide +kernel
theorem dL_law_1404 : decode cL_law 1404 = .ok (.iaload, 1) := by decide +kernel
theorem dL_law_1405 : decode cL_law 1405 = .ok (.invokevirtual 163, 3) := by decide +kernel
theorem dL_law_1408 : decode cL_law 1408 = .ok (.aload_n 2, 1) := by decide +kernel
theorem dL_law_1409 : decode cL_law 1409 = .ok (.aload_n 0, 1) := by decide +kernel
theorem dL_law_1410 : decode cL_law 1410 = .ok (.iload_n 3, 1) := by decide +kernel
theorem dL_law_1411 : decode cL_law 1411 = .ok (.iconst 1, 1) := by decide +kernel
theorem dL_law_1412 : decode cL_law 1412 = .ok (.iadd, 1) := by decide +kernel
theorem dL_law_1413 : decode cL_law 1413 = .ok (.iaload, 1) := by decide +kernel
theorem dL_law_1414 : decode cL_law 1414 = .ok (.invokevirtual 166, 3) := by decide +kernel
theorem dL_law_1417 : decode cL_law 1417 = .ok (.if_icmp .eq 113, 3) := by decide +kernel
theorem dL_law_1420 : decode cL_law 1420 = .ok (.iconst 0, 1) := by decide +kernel
theorem dL_law_1421 : decode cL_law 1421 = .ok (.ireturn, 1) := by decide +kernel
theorem dL_law_1422 : decode cL_law 1422 = .ok (.aload_n 1, 1) := by decide +kernel
theorem dL_law_1423 : decode cL_law 1423 = .ok (.aload_n 0, 1) := by decide +kernel
theorem dL_law_1424 : decode cL_law 1424 = .ok (.iload_n 3, 1) := by decide +kernel
theorem dL_law_1425 : decode cL_law 1425 = .ok (.iconst 1, 1) := by decide +kernel
theorem dL_law_1426 : decode cL_law 1426 = .ok (.iadd, 1) := by decide +kernel
theorem dL_law_1427 : decode cL_law 1427 = .ok (.iaload, 1) := by decide +kernel
theorem dL_law_1428 : decode cL_law 1428 = .ok (.invokevirtual 167, 3) := by decide +kernel
theorem dL_law_1431 : decode cL_law 1431 = .ok (.aload_n 2, 1) := by decide +kernel
theorem dL_law_1432 : decode cL_law 1432 = .ok (.aload_n 0, 1) := by decide +kernel
theorem dL_law_1433 : decode cL_law 1433 = .ok (.iload_n 3, 1) := by decide +kernel
theorem dL_law_1434 : decode cL_law 1434 = .ok (.iconst 1, 1) := by decide +kernel
theorem dL_law_1435 : decode cL_law 1435 = .ok (.iadd, 1) := by decide +kernel
theorem dL_law_1436 : decode cL_law 1436 = .ok (.iaload, 1) := by decide +kernel
theorem dL_law_1437 : decode cL_law 1437 = .ok (.invokevirtual 170, 3) := by decide +kernel
theorem dL_law_1440 : decode cL_law 1440 = .ok (.if_icmp .eq 90, 3) := by decide +kernel
theorem dL_law_1443 : decode cL_law 1443 = .ok (.iconst 0, 1) := by decide +kernel
theorem dL_law_1444 : decode cL_law 1444 = .ok (.ireturn, 1) := by decide +kernel
theorem dL_law_1445 : decode cL_law 1445 = .ok (.aload_n 1, 1) := by decide +kernel
theorem dL_law_1446 : decode cL_law 1446 = .ok (.invokevirtual 171, 3) := by decide +kernel
theorem dL_law_1449 : decode cL_law 1449 = .ok (.aload_n 2, 1) := by decide +kernel
theorem dL_law_1450 : decode cL_law 1450 = .ok (.invokevirtual 174, 3) := by decide +kernel
theorem dL_law_1453 : decode cL_law 1453 = .ok (.if_icmp .eq 77, 3) := by decide +kernel
theorem dL_law_1456 : decode cL_law 1456 = .ok (.iconst 0, 1) := by decide +kernel
theorem dL_law_1457 : decode cL_law 1457 = .ok (.ireturn, 1) := by decide +kernel
theorem dL_law_1458 : decode cL_law 1458 = .ok (.aload_n 1, 1) := by decide +kernel
theorem dL_law_1459 : decode cL_law 1459 = .ok (.invokevirtual 175, 3) := by decide +kernel
theorem dL_law_1462 : decode cL_law 1462 = .ok (.aload_n 2, 1) := by decide +kernel
theorem dL_law_1463 : decode cL_law 1463 = .ok (.invokevirtual 178, 3) := by decide +kernel
theorem dL_law_1466 : decode cL_law 1466 = .ok (.if_icmp .eq 64, 3) := by decide +kernel
theorem dL_law_1469 : decode cL_law 1469 = .ok (.iconst 0, 1) := by decide +kernel
theorem dL_law_1470 : decode cL_law 1470 = .ok (.ireturn, 1) := by decide +kernel
theorem dL_law_1471 : decode cL_law 1471 = .ok (.aload_n 1, 1) := by decide +kernel
theorem dL_law_1472 : decode cL_law 1472 = .ok (.invokevirtual 179, 3) := by decide +kernel
theorem dL_law_1475 : decode cL_law 1475 = .ok (.aload_n 2, 1) := by decide +kernel
theorem dL_law_1476 : decode cL_law 1476 = .ok (.invokevirtual 182, 3) := by decide +kernel
theorem dL_law_1479 : decode cL_law 1479 = .ok (.if_icmp .eq 51, 3) := by decide +kernel
theorem dL_law_1482 : decode cL_law 1482 = .ok (.iconst 0, 1) := by decide +kernel
theorem dL_law_1483 : decode cL_law 1483 = .ok (.ireturn, 1) := by decide +kernel
theorem dL_law_1484 : decode cL_law 1484 = .ok (.aload_n 1, 1) := by decide +kernel
theorem dL_law_1485 : decode cL_law 1485 = .ok (.aload_n 0, 1) := by decide +kernel
theorem dL_law_1486 : decode cL_law 1486 = .ok (.iload_n 3, 1) := by decide +kernel
theorem dL_law_1487 : decode cL_law 1487 = .ok (.iconst 1, 1) := by decide +kernel
theorem dL_law_1488 : decode cL_law 1488 = .ok (.iadd, 1) := by decide +kernel
theorem dL_law_1489 : decode cL_law 1489 = .ok (.iaload, 1) := by decide +kernel
theorem dL_law_1490 : decode cL_law 1490 = .ok (.invokevirtual 183, 3) := by decide +kernel
theorem dL_law_1493 : decode cL_law 1493 = .ok (.aload_n 2, 1) := by decide +kernel
theorem dL_law_1494 : decode cL_law 1494 = .ok (.aload_n 0, 1) := by decide +kernel
theorem dL_law_1495 : decode cL_law 1495 = .ok (.iload_n 3, 1) := by decide +kernel
theorem dL_law_1496 : decode cL_law 1496 = .ok (.iconst 1, 1) := by decide +kernel
theorem dL_law_1497 : decode cL_law 1497 = .ok (.iadd, 1) := by decide +kernel
theorem dL_law_1498 : decode cL_law 1498 = .ok (.iaload, 1) := by decide +kernel
theorem dL_law_1499 : decode cL_law 1499 = .ok (.invokevirtual 186, 3) := by decide +kernel
theorem dL_law_1502 : decode cL_law 1502 = .ok (.if_icmp .eq 28, 3) := by decide +kernel
theorem dL_law_1505 : decode cL_law 1505 = .ok (.iconst 0, 1) := by decide +kernel
theorem dL_law_1506 : decode cL_law 1506 = .ok (.ireturn, 1) := by decide +kernel
theorem dL_law_1507 : decode cL_law 1507 = .ok (.aload_n 1, 1) := by decide +kernel
theorem dL_law_1508 : decode cL_law 1508 = .ok (.aload_n 0, 1) := by decide +kernel
theorem dL_law_1509 : decode cL_law 1509 = .ok (.iload_n 3, 1) := by decide +kernel
theorem dL_law_1510 : decode cL_law 1510 = .ok (.iconst 1, 1) := by decide +kernel
theorem dL_law_1511 : decode cL_law 1511 = .ok (.iadd, 1) := by decide +kernel
theorem dL_law_1512 : decode cL_law 1512 = .ok (.iaload, 1) := by decide +kernel
theorem dL_law_1513 : decode cL_law 1513 = .ok (.invokevirtual 187, 3) := by decide +kernel
theorem dL_law_1516 : decode cL_law 1516 = .ok (.aload_n 2, 1) := by decide +kernel
theorem dL_law_1517 : decode cL_law 1517 = .ok (.aload_n 0, 1) := by decide +kernel
theorem dL_law_1518 : decode cL_law 1518 = .ok (.iload_n 3, 1) := by decide +kernel
theorem dL_law_1519 : decode cL_law 1519 = .ok (.iconst 1, 1) := by decide +kernel
theorem dL_law_1520 : decode cL_law 1520 = .ok (.iadd, 1) := by decide +kernel
theorem dL_law_1521 : decode cL_law 1521 = .ok (.iaload, 1) := by decide +kernel
theorem dL_law_1522 : decode cL_law 1522 = .ok (.invokevirtual 190, 3) := by decide +kernel
theorem dL_law_1525 : decode cL_law 1525 = .ok (.if_icmp .eq 5, 3) := by decide +kernel
theorem dL_law_1528 : decode cL_law 1528 = .ok (.iconst 0, 1) := by decide +kernel
theorem dL_law_1529 : decode cL_law 1529 = .ok (.ireturn, 1) := by decide +kernel
theorem dL_law_1530 : decode cL_law 1530 = .ok (.iinc 3 6, 3) := by decide +kernel
theorem dL_law_1533 : decode cL_law 1533 = .ok (.goto (-1515), 3) := by decide +kernel
theorem dL_law_1536 : decode cL_law 1536 = .ok (.iconst 1, 1) := by decide +kernel
theorem dL_law_1537 : decode cL_law 1537 = .ok (.ireturn, 1) := by decide +kernel
end
section
/-! ===== the world: 61 cells at the addresses ad B 0 .. ad B 60, their numbers in one table of tables ===== -/
abbrev St2 : Type := Nat → Nat → Int32
/-- the machine's part of a walk -/
abbrev EE : Type := Program × Launch × Env × Room × State × MethodId × Array Value × List Frame × Method × Code × (Nat → Prop) × (State → Prop) × Nat × Nat × Nat
/-- the addresses: classes, array classes, cells, texts, their bytes, static tables -/
abbrev BB : Type := va_G × ClassId × ClassId × (Nat → Nat) × (Nat → Nat) × (Nat → Nat) × (Nat → Nat)
def ad (B : BB) (k : Nat) : Nat := B.2.2.2.1 k
def sk (B : BB) (i : Nat) : Nat := B.2.2.2.2.1 i
def sv (B : BB) (i : Nat) : Nat := B.2.2.2.2.2.1 i
def ta (B : BB) (i : Nat) : Nat := B.2.2.2.2.2.2 i
abbrev TB : Type := Nat ⊕ (Nat × Nat) ⊕ (Nat × List (Nat ⊕ Nat))
def tbSh (b : Nat) : List TB := [.inr (.inr (1, [.inl (b + 1), .inl (b + 5), .inl (b + 12), .inr 3, .inr 4, .inr 5, .inr 6, .inr 7])), .inr (.inl (3, b + 2)), .inl 24, .inl 24, .inl 24, .inr (.inl (6, b + 6)), .inl 8, .inl 8, .inl 8, .inl 8, .inl 8, .inl 8, .inl 10]
def tbL : List TB := [.inr (.inr (3, [.inl 12, .inl 25, .inl 38, .inr 3, .inl 2, .inl 4, .inl 1])), .inl 7, .inr (.inr (2, [.inl 3, .inr 1, .inr 2, .inr 3, .inr 4, .inr 5])), .inl 120, .inr (.inr (0, [.inl 5, .inl 10, .inl 11])), .inr (.inl (4, 6)), .inl 40, .inl 40, .inl 40, .inl 40, .inl 4, .inl 4] ++ (tbSh 12 ++ (tbSh 25 ++ (tbSh 38 ++ [.inr (.inr (4, [.inl 52, .inl 53, .inl 54, .inr 3, .inl 55, .inr 5, .inl 56, .inr 7, .inr 8, .inr 9, .inr 10, .inl 57, .inl 58, .inl 59, .inl 60])), .inl 135, .inl 135, .inl 135, .inl 7, .inl 120, .inl 4, .inl 4, .inl 160, .inl 40])))
def tb (k : Nat) : TB := tbL.getD k (.inl 0)
def celF (B : BB) (f : Nat → Int32) (q : Nat ⊕ Nat) : Value := match q with
  | .inl j => .ref (ad B j)
  | .inr i => .int (f i)
def celT (B : BB) (f : Nat → Int32) (t : TB) : va_E := match t with
  | .inl N => .inl (B.2.1, N, .inl f)
  | .inr (.inl (N, j)) => .inl (B.2.2.1, N, .inr (.inr (.inr (.inr (fun i => some (ad B (j + i)))))))
  | .inr (.inr (ci, fl)) => .inr (ci, fl.map (celF B f))
def wW (B : BB) (σ : St2) : va_W := (List.range 61).map (fun k => (ad B k, celT B (σ k) (tb k)))
theorem wW_at {B : BB} {σ : St2} {k : Nat} (h : k < 61) : (wW B σ)[k]? = some (ad B k, celT B (σ k) (tb k)) := by
  unfold wW
  rw [List.getElem?_map, List.getElem?_range h]
  rfl
theorem wW_set {B : BB} {σ : St2} {k : Nat} {g : Nat → Int32} (h : k < 61) : (wW B σ).set k (ad B k, celT B g (tb k)) = wW B (va_up σ k g) := by
  apply List.ext_getElem?
  intro j
  by_cases hj : j < 61
  · rw [wW_at hj]
    by_cases e : j = k
    · subst e
      rw [List.getElem?_set_self (by unfold wW; simpa using hj)]
      simp [va_up]
    · rw [List.getElem?_set_ne (Ne.symm e), wW_at hj]
      simp [va_up, e]
  · rw [List.getElem?_eq_none (by unfold wW; simp; omega), List.getElem?_eq_none (by unfold wW; simp; omega)]
def okT (t : TB) : Bool := match t with
  | .inr (.inr (_, fl)) => (List.range fl.length).all (fun j => match fl[j]? with
    | some (.inr x) => x == j
    | _ => true)
  | _ => true
theorem tbL_ok : tbL.all okT = true := by decide +kernel
theorem tb_lab {k ci : Nat} {fl : List (Nat ⊕ Nat)} (h : tb k = .inr (.inr (ci, fl))) {j x : Nat} (hj : fl[j]? = some (.inr x)) : x = j := by
  have h1 : okT (tb k) = true := by
    unfold tb
    by_cases hk : k < tbL.length
    · rw [List.getD_eq_getElem?_getD, List.getElem?_eq_getElem hk]
      exact List.all_eq_true.mp tbL_ok _ (List.getElem_mem hk)
    · rw [List.getD_eq_getElem?_getD, List.getElem?_eq_none (by omega)]
      rfl
  rw [h] at h1
  have h2 := List.all_eq_true.mp h1 j (List.mem_range.mpr (List.getElem?_eq_some_iff.mp hj).1)
  rw [hj] at h2
  exact eq_of_beq h2
theorem fl_set {B : BB} {f : Nat → Int32} {fl : List (Nat ⊕ Nat)} {i : Nat} {v : Int32} (hlab : ∀ {j x : Nat}, fl[j]? = some (.inr x) → x = j) (hi : fl[i]? = some (.inr i)) : (fl.map (celF B f)).set i (.int v) = fl.map (celF B (upd f i v)) := by
  apply List.ext_getElem?
  intro j
  have hlt : i < fl.length := (List.getElem?_eq_some_iff.mp hi).1
  by_cases e : j = i
  · subst e
    rw [List.getElem?_set_self (by simpa using hlt), List.getElem?_map, hi]
    simp [celF, upd]
  · rw [List.getElem?_set_ne (Ne.symm e), List.getElem?_map, List.getElem?_map]
    cases hq : fl[j]? with
    | none => rfl
    | some q =>
      cases q with
      | inl a => rfl
      | inr x =>
        have := hlab hq
        subst this
        simp [celF, upd, e]
/-! ===== states inside states ===== -/
def putS (κ : St2) (b : Nat) (x : St2) : St2 := fun k => if b ≤ k ∧ k < b + 13 then x (k - b) else κ k
def vw (κ : St2) (b : Nat) : St2 := fun k => κ (b + k)
def jn (κ τ : St2) : St2 := fun k => if k < 51 then κ k else τ (k - 51)
theorem putS_vw (κ : St2) (b : Nat) : putS κ b (vw κ b) = κ := by
  funext k
  unfold putS vw
  by_cases h : b ≤ k ∧ k < b + 13
  · rw [if_pos h, show b + (k - b) = k by omega]
  · rw [if_neg h]
theorem vw_putS {κ x : St2} {b k : Nat} (h : k < 13) : vw (putS κ b x) b k = x k := by
  unfold putS vw
  dsimp only
  rw [if_pos (by omega), show b + k - b = k by omega]
theorem putS_in {κ x : St2} {b k : Nat} (h : k < 13) : putS κ b x (b + k) = x k := vw_putS h
theorem putS_up {κ x : St2} {b k : Nat} {f : Nat → Int32} (h : k < 13) : putS κ b (va_up x k f) = va_up (putS κ b x) (b + k) f := by
  funext j
  unfold putS va_up
  dsimp only
  by_cases e : j = b + k
  · subst e
    rw [if_pos (by omega), if_pos (by omega), if_pos rfl]
  · rw [if_neg e]
    by_cases h2 : b ≤ j ∧ j < b + 13
    · rw [if_pos h2, if_pos h2, if_neg (by omega)]
    · rw [if_neg h2, if_neg h2]
/-- a lens: the small table of n cells lies from b on in the whole -/
def Ln (b n : Nat) (L : St2 → St2) : Prop := b + n ≤ 61 ∧ (∀ (x : St2) (k : Nat), k < n → L x (b + k) = x k) ∧ ∀ (x : St2) (k : Nat) (f : Nat → Int32), k < n → L (va_up x k f) = va_up (L x) (b + k) f
/-- PrintShore's own cells -/
def LnC (L : St2 → St2) : Prop := (∀ (x : St2) (k : Nat), k < 51 → L x k = x k) ∧ ∀ (x : St2) (k : Nat) (f : Nat → Int32), k < 51 → L (va_up x k f) = va_up (L x) k f
theorem lnC_jn (τ : St2) : LnC (fun κ => jn κ τ) := by
  refine ⟨fun x k h => if_pos h, fun x k f h => ?_⟩
  funext j
  show jn (va_up x k f) τ j = va_up (jn x τ) k f j
  unfold jn va_up
  by_cases e : j = k
  · subst e
    rw [if_pos h, if_pos rfl, if_pos rfl]
  · rw [if_neg e, if_neg e]
theorem lnM_jn (κ : St2) : Ln 51 10 (fun τ => jn κ τ) := by
  refine ⟨Nat.le_refl _, fun x k h => ?_, fun x k f h => ?_⟩
  · show jn κ x (51 + k) = x k
    unfold jn
    rw [if_neg (by omega), show 51 + k - 51 = k by omega]
  · funext j
    show jn κ (va_up x k f) j = va_up (jn κ x) (51 + k) f j
    unfold jn va_up
    dsimp only
    by_cases e : j = 51 + k
    · subst e
      rw [if_neg (by omega), if_pos (by omega), if_pos rfl]
    · rw [if_neg e]
      by_cases h2 : j < 51
      · rw [if_pos h2, if_pos h2]
      · rw [if_neg h2, if_neg h2, if_neg (by omega)]
def Sb (b : Nat) : Prop := b = 12 ∨ b = 25 ∨ b = 38
theorem Sb.le {b : Nat} (h : Sb b) : b + 13 ≤ 51 := by rcases h with h | h | h <;> omega
theorem sb12 : Sb 12 := Or.inl rfl
theorem sb25 : Sb 25 := Or.inr (Or.inl rfl)
theorem sb38 : Sb 38 := Or.inr (Or.inr rfl)
theorem lnS_of {L : St2 → St2} (h : LnC L) {b : Nat} (hb : Sb b) (κ : St2) : Ln b 13 (fun x => L (putS κ b x)) := by
  have := hb.le
  refine ⟨by omega, fun x k hk => ?_, fun x k f hk => ?_⟩
  · show L (putS κ b x) (b + k) = x k
    rw [h.1 _ _ (by omega), putS_in hk]
  · show L (putS κ b (va_up x k f)) = va_up (L (putS κ b x)) (b + k) f
    rw [putS_up hk, h.2 _ _ _ (by omega)]
theorem tb_sh {b : Nat} (hb : Sb b) {k : Nat} (hk : k < 13) : tb (b + k) = (tbSh b).getD k (.inl 0) := by
  rcases hb with rfl | rfl | rfl
  · match k, hk with
    | 0, _ => rfl
    | 1, _ => rfl
    | 2, _ => rfl
    | 3, _ => rfl
    | 4, _ => rfl
    | 5, _ => rfl
    | 6, _ => rfl
    | 7, _ => rfl
    | 8, _ => rfl
    | 9, _ => rfl
    | 10, _ => rfl
    | 11, _ => rfl
    | 12, _ => rfl
    | k + 13, h => exact absurd h (by omega)
  · match k, hk with
    | 0, _ => rfl
    | 1, _ => rfl
    | 2, _ => rfl
    | 3, _ => rfl
    | 4, _ => rfl
    | 5, _ => rfl
    | 6, _ => rfl
    | 7, _ => rfl
    | 8, _ => rfl
    | 9, _ => rfl
    | 10, _ => rfl
    | 11, _ => rfl
    | 12, _ => rfl
    | k + 13, h => exact absurd h (by omega)
  · match k, hk with
    | 0, _ => rfl
    | 1, _ => rfl
    | 2, _ => rfl
    | 3, _ => rfl
    | 4, _ => rfl
    | 5, _ => rfl
    | 6, _ => rfl
    | 7, _ => rfl
    | 8, _ => rfl
    | 9, _ => rfl
    | 10, _ => rfl
    | 11, _ => rfl
    | 12, _ => rfl
    | k + 13, h => exact absurd h (by omega)
/-! ===== what a pure step answers ===== -/
abbrev inb (i : Int32) (N : Nat) : Prop := ¬ i < 0 ∧ i.toNatClampNeg < N
theorem inb_vp {i : Int32} {N : Nat} (h : inb i N) : vp_in i N := fun q => q.elim h.1 (fun z => absurd h.2 (Nat.not_lt.mpr z))
/-- an array's number -/
def rd (f : Nat → Int32) (N : Nat) (i : Int32) : Option Int32 := if inb i N then some (f i.toNatClampNeg) else none
/-- an array's number becomes another -/
def wr (x : St2) (k N : Nat) (i v : Int32) : Option St2 := if inb i N then some (va_up x k (upd (x k) i.toNatClampNeg v)) else none
/-- which row -/
def ck (i : Int32) (N : Nat) : Option Nat := if inb i N then some i.toNatClampNeg else none
/-- a field becomes another -/
def pf (x : St2) (k i : Nat) (v : Int32) : Option St2 := some (va_up x k (upd (x k) i v))
/-- numbers of one row come to another one -/
def cp (x : St2) (j nj k nk : Nat) (sp dp n : Int32) : Option St2 := if (¬ sp < 0 ∧ ¬ dp < 0 ∧ ¬ n < 0) ∧ sp.toNatClampNeg + n.toNatClampNeg ≤ nj ∧ dp.toNatClampNeg + n.toNatClampNeg ≤ nk then some (va_up x k (va_cpy (x j) (x k) sp.toNatClampNeg dp.toNatClampNeg n.toNatClampNeg)) else none
theorem rd_s {f : Nat → Int32} {N : Nat} {i v : Int32} (h : rd f N i = some v) : inb i N ∧ v = f i.toNatClampNeg := by
  unfold rd at h
  by_cases q : inb i N
  · rw [if_pos q] at h
    exact ⟨q, (Option.some.inj h).symm⟩
  · rw [if_neg q] at h
    cases h
theorem wr_s {x x' : St2} {k N : Nat} {i v : Int32} (h : wr x k N i v = some x') : inb i N ∧ x' = va_up x k (upd (x k) i.toNatClampNeg v) := by
  unfold wr at h
  by_cases q : inb i N
  · rw [if_pos q] at h
    exact ⟨q, (Option.some.inj h).symm⟩
  · rw [if_neg q] at h
    cases h
theorem ck_s {i : Int32} {N r : Nat} (h : ck i N = some r) : inb i N ∧ r = i.toNatClampNeg := by
  unfold ck at h
  by_cases q : inb i N
  · rw [if_pos q] at h
    exact ⟨q, (Option.some.inj h).symm⟩
  · rw [if_neg q] at h
    cases h
theorem bnd {α β : Type} {o : Option α} {K : α → Option β} {r : β} (h : o.bind K = some r) : ∃ a, o = some a ∧ K a = some r := Option.bind_eq_some_iff.mp h
/-! ===== what stands outside the world: static tables, texts, nest links ===== -/
def tvL : List (List Int32) := [[-1, 0, 0, 2, 3, 0, 1], [0, 0, 0, 1, 1, 0], [6, 23, 1, 6, 9, 99999]]
def tv (i j : Nat) : Int32 := (tvL.getD i []).getD j 0
def sbL : List (List Int32) := [[119, 97, 108, 107, 101, 114], [99, 104, 105, 108, 100], [99, 97, 114, 116, 101, 114], [104, 111, 114, 115, 101], [114, 105, 100, 101, 114], [116, 104, 105, 101, 102], [114, 117, 110, 110, 101, 114], [97, 116], [111, 117, 116], [115, 116, 114, 105, 100, 101], [119, 101, 105, 103, 104, 116], [114, 101, 97, 99, 104], [112, 114, 105, 110, 116], [59]]
def slen (i : Nat) : Nat := (sbL.getD i []).length
def sby (i j : Nat) : Int32 := (sbL.getD i []).getD j 0
def sRefs : List (String × Nat × String × Nat) := [("PrintShore$Tape", 122, "child", 1), ("PrintShore$Tape", 124, "carter", 2), ("PrintShore$Tape", 126, "horse", 3), ("PrintShore$Tape", 128, "rider", 4), ("PrintShore$Tape", 130, "thief", 5), ("PrintShore$Tape", 132, "runner", 6), ("PrintShore$Tape", 134, "walker", 0), ("PrintShore$Tape", 67, "at", 7), ("PrintShore$Tape", 73, "out", 8), ("PrintShore$Tape", 79, "stride", 9), ("PrintShore$Tape", 81, "weight", 10), ("PrintShore$Tape", 43, "reach", 11), ("PrintShore$Tape", 52, "print", 12), ("PrintShoreModel", 253, "walker", 0), ("PrintShoreModel", 255, "child", 1), ("PrintShoreModel", 257, "carter", 2), ("PrintShoreModel", 259, "horse", 3), ("PrintShoreModel", 261, "rider", 4), ("PrintShoreModel", 263, "thief", 5), ("PrintShoreModel", 265, "runner", 6), ("PrintShoreModel", 267, "at", 7), ("PrintShoreModel", 275, "out", 8), ("PrintShoreModel", 277, "stride", 9), ("PrintShoreModel", 279, "weight", 10), ("PrintShoreModel", 287, "reach", 11), ("PrintShoreModel", 289, "print", 12), ("PrintShoreModel", 297, ";", 13)]
def nwL : List Cond := [.methodLinkNest RX1 45 yX3_within "PrintShore", .methodLinkNest RX0 23 yX3_within "PrintShore", .methodLinkNest RX2 105 yX3_within "PrintShore"]
def nfL : List Cond := [.fieldLinkNest RX1 94 "PrintShore" "TRAIT_MOST" "[I" "PrintShore", .fieldLinkNest RX2 83 "PrintShore" "TRAIT_LEAST" "[I" "PrintShore", .fieldLinkNest RX2 86 "PrintShore" "TRAIT_MOST" "[I" "PrintShore"]
def SF (B : BB) (A : Nat → Prop) (U : State) (H : Heap) : Prop :=
  ((va_Z "PrintShore" "ABOVE" "[I" (.ref (ta B 0)) A U H ∧ va_T .int (ta B 0) 7 (fun j => .int (tv 0 j)) A U H) ∧ (va_Z "PrintShore" "TRAIT_LEAST" "[I" (.ref (ta B 1)) A U H ∧ va_T .int (ta B 1) 6 (fun j => .int (tv 1 j)) A U H) ∧ (va_Z "PrintShore" "TRAIT_MOST" "[I" (.ref (ta B 2)) A U H ∧ va_T .int (ta B 2) 6 (fun j => .int (tv 2 j)) A U H)) ∧
  (∀ i, i < 14 → va_O "java/lang/String" (sk B i) A U H ∧ va_OF "java/lang/String" "coder" "B" (.int 0) (sk B i) A U H ∧ va_OF "java/lang/String" "value" "[B" (.ref (sv B i)) (sk B i) A U H ∧ va_T .byte (sv B i) (slen i) (fun j => .int (sby i j)) A U H) ∧
  (va_Z "java/lang/String" "COMPACT_STRINGS" "Z" (.int 1) A U H ∧ va_Zq "jdk/internal/util/Preconditions" "SIOOBE_FORMATTER" "Ljava/util/function/BiFunction;" A U H) ∧
  (∀ q ∈ sRefs, vk_R q.1 q.2.1 q.2.2.1 (sk B q.2.2.2) U) ∧ (∀ w ∈ nwL, va_Nw w U) ∧ ∀ w ∈ nfL, va_Nw w U
theorem nw_all {P : Cond → Prop} (h0 : P (.methodLinkNest RX1 45 yX3_within "PrintShore")) (h1 : P (.methodLinkNest RX0 23 yX3_within "PrintShore")) (h2 : P (.methodLinkNest RX2 105 yX3_within "PrintShore")) : ∀ w ∈ nwL, P w := List.forall_mem_cons.mpr ⟨h0, List.forall_mem_cons.mpr ⟨h1, List.forall_mem_cons.mpr ⟨h2, fun _ h => absurd h List.not_mem_nil⟩⟩⟩
theorem nf_all {P : Cond → Prop} (h0 : P (.fieldLinkNest RX1 94 "PrintShore" "TRAIT_MOST" "[I" "PrintShore")) (h1 : P (.fieldLinkNest RX2 83 "PrintShore" "TRAIT_LEAST" "[I" "PrintShore")) (h2 : P (.fieldLinkNest RX2 86 "PrintShore" "TRAIT_MOST" "[I" "PrintShore")) : ∀ w ∈ nfL, P w := List.forall_mem_cons.mpr ⟨h0, List.forall_mem_cons.mpr ⟨h1, List.forall_mem_cons.mpr ⟨h2, fun _ h => absurd h List.not_mem_nil⟩⟩⟩
theorem nw0 : (Cond.methodLinkNest RX1 45 yX3_within "PrintShore") ∈ nwL := List.mem_cons_self
theorem nw1 : (Cond.methodLinkNest RX0 23 yX3_within "PrintShore") ∈ nwL := List.mem_cons_of_mem _ List.mem_cons_self
theorem nw2 : (Cond.methodLinkNest RX2 105 yX3_within "PrintShore") ∈ nwL := List.mem_cons_of_mem _ (List.mem_cons_of_mem _ List.mem_cons_self)
theorem nf0 : (Cond.fieldLinkNest RX1 94 "PrintShore" "TRAIT_MOST" "[I" "PrintShore") ∈ nfL := List.mem_cons_self
theorem nf1 : (Cond.fieldLinkNest RX2 83 "PrintShore" "TRAIT_LEAST" "[I" "PrintShore") ∈ nfL := List.mem_cons_of_mem _ List.mem_cons_self
theorem nf2 : (Cond.fieldLinkNest RX2 86 "PrintShore" "TRAIT_MOST" "[I" "PrintShore") ∈ nfL := List.mem_cons_of_mem _ (List.mem_cons_of_mem _ List.mem_cons_self)
theorem SF.warm {B : BB} {A A1 : Nat → Prop} {s U : State} {H : Heap} {locs : List Loc} (h : SF B A s s.heap) (hS : va_S A s.heap H locs) (hW : s.WarmedH U.vm) (hU : U.heap = H) (hA : ∀ q, A1 q → A q) : SF B A1 U U.heap := by
  obtain ⟨⟨⟨z0, t0⟩, ⟨z1, t1⟩, ⟨z2, t2⟩⟩, hs, ⟨c1, c2⟩, hr, hn, hg⟩ := h
  rw [hU]
  have k := hS.2.1
  have v := hW.alike
  refine ⟨⟨⟨(va_Z.moved v (z0.kept k)).narrow hA, (va_T.moved v (t0.kept k)).narrow hA⟩, ⟨(va_Z.moved v (z1.kept k)).narrow hA, (va_T.moved v (t1.kept k)).narrow hA⟩, ⟨(va_Z.moved v (z2.kept k)).narrow hA, (va_T.moved v (t2.kept k)).narrow hA⟩⟩, fun i hi => ?_, ⟨(va_Z.moved v (c1.kept k)).narrow hA, (va_Zq.moved v (c2.kept k)).narrow hA⟩, fun q hq => vk_R.warm hW (hr q hq), nw_all (va_Nw.warmM hW (hn _ nw0)) (va_Nw.warmM hW (hn _ nw1)) (va_Nw.warmM hW (hn _ nw2)), nf_all (va_Nw.warmF hW (hg _ nf0)) (va_Nw.warmF hW (hg _ nf1)) (va_Nw.warmF hW (hg _ nf2))⟩
  obtain ⟨a1, a2, a3, a4⟩ := hs i hi
  exact ⟨(va_O.moved v (a1.kept k)).narrow hA, (va_OF.moved v (a2.kept k)).narrow hA, (va_OF.moved v (a3.kept k)).narrow hA, (va_T.moved v (a4.kept k)).narrow hA⟩
theorem SF.same {B : BB} {A : Nat → Prop} {u U : State} {H : Heap} (h : SF B A u H) (hv : u.vm = U.vm) : SF B A U H := by
  obtain ⟨⟨⟨z0, t0⟩, ⟨z1, t1⟩, ⟨z2, t2⟩⟩, hs, ⟨c1, c2⟩, hr, hn, hg⟩ := h
  have v : u.vm.Alike U.vm := by rw [hv]; exact Vm.Alike.refl _
  refine ⟨⟨⟨va_Z.moved v z0, va_T.moved v t0⟩, ⟨va_Z.moved v z1, va_T.moved v t1⟩, ⟨va_Z.moved v z2, va_T.moved v t2⟩⟩, fun i hi => ?_, ⟨va_Z.moved v c1, va_Zq.moved v c2⟩, fun q hq => vk_R.same hv.symm (hr q hq), nw_all (va_Nw.same rfl hv (hn _ nw0)) (va_Nw.same rfl hv (hn _ nw1)) (va_Nw.same rfl hv (hn _ nw2)), nf_all (va_Nw.same rfl hv (hg _ nf0)) (va_Nw.same rfl hv (hg _ nf1)) (va_Nw.same rfl hv (hg _ nf2))⟩
  obtain ⟨a1, a2, a3, a4⟩ := hs i hi
  exact ⟨va_O.moved v a1, va_OF.moved v a2, va_OF.moved v a3, va_T.moved v a4⟩
/-! ===== contracts ===== -/
def gw : List Cond := lw_tbl.filter goodWord
theorem gw_good : ∀ w ∈ gw, goodWord w = true := fun w h => (List.mem_filter.mp h).2
theorem gw_in {w : Cond} (h : w ∈ lw_tbl) (hg : goodWord w = true) : w ∈ gw := List.mem_filter.mpr ⟨h, hg⟩
def Aw (B : BB) : Nat → Prop := fun q => ∃ k : Nat, k < 61 ∧ q = ad B k
def tyB (B : BB) : List (ClassId × FieldType) := [(B.2.1, .int), (B.2.2.1, .array .int)]
def Bf (B : BB) (σ : St2) (U : State) : Prop := va_P B.1 vwCl (wW B σ) U.heap ∧ va_K B.1 vwCl (tyB B) U ∧ (∀ σ1 : St2, va_D (Aw B) (wW B σ1)) ∧ SF B (Aw B) U U.heap
def Qx (B : BB) (A : Nat → Prop) (r : Option Value) (σ' : St2) : Array Value → State → Outcome → State → Prop := fun _ st oc t => oc = .returned r ∧ va_P B.1 vwCl (wW B σ') t.heap ∧ va_F A st t
/-- what a method does: called with av in the state σ it answers r, and the state is σ' -/
def Ret (l : Launch) (B : BB) (y : MethodName) (cc : ByteArray) (mL : Nat) (ret : Option FieldType) (fr lo : Nat) (av : List Value) (σ : St2) (r : Option Value) (σ' : St2) : Prop :=
  Met l y (Cond.code y cc mL ret :: gw) { frames := fr, cells := 0, slots := 0, locals := lo } (va_Pc av (Bf B σ)) (Qx B (Aw B) r σ') 0 0 (Aw B)
/-- what stands all through a walk -/
def Cx (E : EE) (B : BB) (l0 : Launch) (cc : ByteArray) (own : String) (ret : Option FieldType) (mL fr lo : Nat) : Prop := match E with
  | (p, l, e, R, s, m, args, below, meth, c, A, Q, cells, slots, nL) => l = l0 ∧ p.tables.exec = Jvm.exec ∧ c.code = cc ∧ c.maxLocals = nL ∧ mL = nL ∧ meth.sig.returnType = ret ∧ meth.locks = false ∧ s.vm.findClass own = some m.cls ∧ (∀ w ∈ gw, w.before args s = true) ∧ va_K B.1 vwCl (tyB B) s ∧ (∀ σ : St2, va_D A (wW B σ)) ∧ fr ≤ R.frames ∧ lo ≤ R.locals ∧ cells ≤ R.cells ∧ slots ≤ R.slots ∧ SF B A s s.heap
/-- the walk's judgement: at pc, with the locals lv and the stack st, in the state σ, the method comes to its end -/
def V (E : EE) (B : BB) (σ : St2) (pc : Nat) (lv : List (Nat × Value)) (st : List Value) : Prop := match E with
  | (p, l, e, R, s, m, args, below, meth, c, A, Q, cells, slots, nL) => ∀ (H : Heap) (locs : List Loc) (ls : Array Slot), va_P B.1 vwCl (wW B σ) H → va_S A s.heap H locs → lv_has ls nL lv → W p l e R s m args below meth c H locs cells slots Q (F0 m pc ls st)
/-- the end that is owed -/
def Fin9 (E : EE) (B : BB) (r : Option Value) (σ : St2) : Prop := match E with
  | (p, l, e, R, s, m, args, below, meth, c, A, Q, cells, slots, nL) => Q = MQ below (Qx B A r σ) args s cells slots A
theorem ret_of {l : Launch} {B : BB} {y : MethodName} {cc : ByteArray} {mL : Nat} {ret : Option FieldType} {fr lo : Nat} {av : List Value} {σ σ' : St2} {r : Option Value} {own : String} (hy : plainName y.cls = true) (hown : y.cls = own) (hn : (lg_sl av).length ≤ mL)
    (h : ∀ E : EE, Cx E B l cc own ret mL fr lo → Fin9 E B r σ' → V E B σ 0 (lv_args 0 av) []) : Ret l B y cc mL ret fr lo av σ r σ' := by
  refine Met.ofW (cc := cc) (maxL := mL) (ret := ret) hy rfl ?_
  intro p e s m args below meth c s₁ X hml hv
  obtain ⟨rfl, hP, hK, hD, hF⟩ := hv
  have hts := atoms_spec (ws := Cond.code y cc mL ret :: gw) X.pre
  have hl := lv_entry av (n := mL) hn
  rw [lg_entry_eq]
  subst hown
  exact h (p, l, e, _, s, m, _, below, meth, c, Aw B, _, 0, 0, mL) ⟨rfl, X.exec, X.bytes, hml, rfl, X.returns, X.notSynchronized, findClass_of_methodNamed X.named, fun w hw => hts w (List.mem_cons_of_mem _ hw), hK, hD, Nat.le_refl _, Nat.le_refl _, Nat.zero_le _, Nat.zero_le _, hF⟩ rfl s.heap [] _ hP va_S.rf hl
end
section
/-! ===== the rows of a walk ===== -/
section VROWS
variable {E : EE} {B : BB} {l0 : Launch} {cc : ByteArray} {own : String} {ret : Option FieldType} {mL fr lo : Nat} {σ : St2} {pc : Nat} {lv : List (Nat × Value)} {st : List Value}
theorem v_iadd (C : Cx E B l0 cc own ret mL fr lo) {x y : Int32} (hd : decode cc pc = .ok (.iadd, 1))  (k : V E B σ (pc + 1) lv (.int (x + y) :: st)) : V E B σ pc lv (.int y :: .int x :: st) := by
  obtain ⟨p, l, e, R, s, m, args, below, meth, c, A, Q, cells, slots, nL⟩ := E
  obtain ⟨hl0, hx, hb, hml, hnl, hr, hlk, hown, hts, hK, hD, hfr, hlo, hcc, hcs, hF⟩ := C
  subst hnl
  intro H locs ls hP hS hl
  exact lv_iadd hx hb hd  (k H locs ls hP hS hl)
theorem v_isub (C : Cx E B l0 cc own ret mL fr lo) {x y : Int32} (hd : decode cc pc = .ok (.isub, 1))  (k : V E B σ (pc + 1) lv (.int (x - y) :: st)) : V E B σ pc lv (.int y :: .int x :: st) := by
  obtain ⟨p, l, e, R, s, m, args, below, meth, c, A, Q, cells, slots, nL⟩ := E
  obtain ⟨hl0, hx, hb, hml, hnl, hr, hlk, hown, hts, hK, hD, hfr, hlo, hcc, hcs, hF⟩ := C
  subst hnl
  intro H locs ls hP hS hl
  exact lv_isub hx hb hd  (k H locs ls hP hS hl)
theorem v_imul (C : Cx E B l0 cc own ret mL fr lo) {x y : Int32} (hd : decode cc pc = .ok (.imul, 1))  (k : V E B σ (pc + 1) lv (.int (x * y) :: st)) : V E B σ pc lv (.int y :: .int x :: st) := by
  obtain ⟨p, l, e, R, s, m, args, below, meth, c, A, Q, cells, slots, nL⟩ := E
  obtain ⟨hl0, hx, hb, hml, hnl, hr, hlk, hown, hts, hK, hD, hfr, hlo, hcc, hcs, hF⟩ := C
  subst hnl
  intro H locs ls hP hS hl
  exact lv_imul hx hb hd  (k H locs ls hP hS hl)
theorem v_iand (C : Cx E B l0 cc own ret mL fr lo) {x y : Int32} (hd : decode cc pc = .ok (.iand, 1))  (k : V E B σ (pc + 1) lv (.int (x &&& y) :: st)) : V E B σ pc lv (.int y :: .int x :: st) := by
  obtain ⟨p, l, e, R, s, m, args, below, meth, c, A, Q, cells, slots, nL⟩ := E
  obtain ⟨hl0, hx, hb, hml, hnl, hr, hlk, hown, hts, hK, hD, hfr, hlo, hcc, hcs, hF⟩ := C
  subst hnl
  intro H locs ls hP hS hl
  exact lv_iand hx hb hd  (k H locs ls hP hS hl)
theorem v_ior (C : Cx E B l0 cc own ret mL fr lo) {x y : Int32} (hd : decode cc pc = .ok (.ior, 1))  (k : V E B σ (pc + 1) lv (.int (x ||| y) :: st)) : V E B σ pc lv (.int y :: .int x :: st) := by
  obtain ⟨p, l, e, R, s, m, args, below, meth, c, A, Q, cells, slots, nL⟩ := E
  obtain ⟨hl0, hx, hb, hml, hnl, hr, hlk, hown, hts, hK, hD, hfr, hlo, hcc, hcs, hF⟩ := C
  subst hnl
  intro H locs ls hP hS hl
  exact lv_ior hx hb hd  (k H locs ls hP hS hl)
theorem v_ixor (C : Cx E B l0 cc own ret mL fr lo) {x y : Int32} (hd : decode cc pc = .ok (.ixor, 1))  (k : V E B σ (pc + 1) lv (.int (x ^^^ y) :: st)) : V E B σ pc lv (.int y :: .int x :: st) := by
  obtain ⟨p, l, e, R, s, m, args, below, meth, c, A, Q, cells, slots, nL⟩ := E
  obtain ⟨hl0, hx, hb, hml, hnl, hr, hlk, hown, hts, hK, hD, hfr, hlo, hcc, hcs, hF⟩ := C
  subst hnl
  intro H locs ls hP hS hl
  exact lv_ixor hx hb hd  (k H locs ls hP hS hl)
theorem v_ishl (C : Cx E B l0 cc own ret mL fr lo) {x y : Int32} (hd : decode cc pc = .ok (.ishl, 1))  (k : V E B σ (pc + 1) lv (.int (x <<< (y &&& 31)) :: st)) : V E B σ pc lv (.int y :: .int x :: st) := by
  obtain ⟨p, l, e, R, s, m, args, below, meth, c, A, Q, cells, slots, nL⟩ := E
  obtain ⟨hl0, hx, hb, hml, hnl, hr, hlk, hown, hts, hK, hD, hfr, hlo, hcc, hcs, hF⟩ := C
  subst hnl
  intro H locs ls hP hS hl
  exact lv_ishl hx hb hd  (k H locs ls hP hS hl)
theorem v_ishr (C : Cx E B l0 cc own ret mL fr lo) {x y : Int32} (hd : decode cc pc = .ok (.ishr, 1))  (k : V E B σ (pc + 1) lv (.int (x >>> (y &&& 31)) :: st)) : V E B σ pc lv (.int y :: .int x :: st) := by
  obtain ⟨p, l, e, R, s, m, args, below, meth, c, A, Q, cells, slots, nL⟩ := E
  obtain ⟨hl0, hx, hb, hml, hnl, hr, hlk, hown, hts, hK, hD, hfr, hlo, hcc, hcs, hF⟩ := C
  subst hnl
  intro H locs ls hP hS hl
  exact lv_ishr hx hb hd  (k H locs ls hP hS hl)
theorem v_idiv (C : Cx E B l0 cc own ret mL fr lo) {x y : Int32} (hd : decode cc pc = .ok (.idiv, 1)) (hne : ¬ y = 0) (k : V E B σ (pc + 1) lv (.int (x / y) :: st)) : V E B σ pc lv (.int y :: .int x :: st) := by
  obtain ⟨p, l, e, R, s, m, args, below, meth, c, A, Q, cells, slots, nL⟩ := E
  obtain ⟨hl0, hx, hb, hml, hnl, hr, hlk, hown, hts, hK, hD, hfr, hlo, hcc, hcs, hF⟩ := C
  subst hnl
  intro H locs ls hP hS hl
  exact lv_idiv hx hb hd hne (k H locs ls hP hS hl)
theorem v_irem (C : Cx E B l0 cc own ret mL fr lo) {x y : Int32} (hd : decode cc pc = .ok (.irem, 1)) (hne : ¬ y = 0) (k : V E B σ (pc + 1) lv (.int (x - x / y * y) :: st)) : V E B σ pc lv (.int y :: .int x :: st) := by
  obtain ⟨p, l, e, R, s, m, args, below, meth, c, A, Q, cells, slots, nL⟩ := E
  obtain ⟨hl0, hx, hb, hml, hnl, hr, hlk, hown, hts, hK, hD, hfr, hlo, hcc, hcs, hF⟩ := C
  subst hnl
  intro H locs ls hP hS hl
  exact lv_irem hx hb hd hne (k H locs ls hP hS hl)
theorem v_iushr (C : Cx E B l0 cc own ret mL fr lo) {x y : Int32} (hd : decode cc pc = .ok (.iushr, 1))  (k : V E B σ (pc + 1) lv (.int ((x.toUInt32 >>> (y.toUInt32 &&& Int32.toUInt32 31)).toInt32) :: st)) : V E B σ pc lv (.int y :: .int x :: st) := by
  obtain ⟨p, l, e, R, s, m, args, below, meth, c, A, Q, cells, slots, nL⟩ := E
  obtain ⟨hl0, hx, hb, hml, hnl, hr, hlk, hown, hts, hK, hD, hfr, hlo, hcc, hcs, hF⟩ := C
  subst hnl
  intro H locs ls hP hS hl
  exact lv_iushr hx hb hd rfl (k H locs ls hP hS hl)
theorem v_ineg (C : Cx E B l0 cc own ret mL fr lo) {x : Int32} (hd : decode cc pc = .ok (.ineg, 1))  (k : V E B σ (pc + 1) lv (.int (-x) :: st)) : V E B σ pc lv (.int x :: st) := by
  obtain ⟨p, l, e, R, s, m, args, below, meth, c, A, Q, cells, slots, nL⟩ := E
  obtain ⟨hl0, hx, hb, hml, hnl, hr, hlk, hown, hts, hK, hD, hfr, hlo, hcc, hcs, hF⟩ := C
  subst hnl
  intro H locs ls hP hS hl
  exact lv_ineg hx hb hd  (k H locs ls hP hS hl)
theorem v_i2l (C : Cx E B l0 cc own ret mL fr lo) {x : Int32} (hd : decode cc pc = .ok (.i2l, 1))  (k : V E B σ (pc + 1) lv (.long x.toInt64 :: st)) : V E B σ pc lv (.int x :: st) := by
  obtain ⟨p, l, e, R, s, m, args, below, meth, c, A, Q, cells, slots, nL⟩ := E
  obtain ⟨hl0, hx, hb, hml, hnl, hr, hlk, hown, hts, hK, hD, hfr, hlo, hcc, hcs, hF⟩ := C
  subst hnl
  intro H locs ls hP hS hl
  exact lv_i2l hx hb hd rfl (k H locs ls hP hS hl)
theorem v_i2b (C : Cx E B l0 cc own ret mL fr lo) {x : Int32} (hd : decode cc pc = .ok (.i2b, 1))  (k : V E B σ (pc + 1) lv (.int x.toInt8.toInt32 :: st)) : V E B σ pc lv (.int x :: st) := by
  obtain ⟨p, l, e, R, s, m, args, below, meth, c, A, Q, cells, slots, nL⟩ := E
  obtain ⟨hl0, hx, hb, hml, hnl, hr, hlk, hown, hts, hK, hD, hfr, hlo, hcc, hcs, hF⟩ := C
  subst hnl
  intro H locs ls hP hS hl
  exact lv_i2b hx hb hd rfl (k H locs ls hP hS hl)
theorem v_i2s (C : Cx E B l0 cc own ret mL fr lo) {x : Int32} (hd : decode cc pc = .ok (.i2s, 1))  (k : V E B σ (pc + 1) lv (.int x.toInt16.toInt32 :: st)) : V E B σ pc lv (.int x :: st) := by
  obtain ⟨p, l, e, R, s, m, args, below, meth, c, A, Q, cells, slots, nL⟩ := E
  obtain ⟨hl0, hx, hb, hml, hnl, hr, hlk, hown, hts, hK, hD, hfr, hlo, hcc, hcs, hF⟩ := C
  subst hnl
  intro H locs ls hP hS hl
  exact lv_i2s hx hb hd rfl (k H locs ls hP hS hl)
theorem v_i2c (C : Cx E B l0 cc own ret mL fr lo) {x : Int32} (hd : decode cc pc = .ok (.i2c, 1))  (k : V E B σ (pc + 1) lv (.int (x.toUInt32 % 65536).toInt32 :: st)) : V E B σ pc lv (.int x :: st) := by
  obtain ⟨p, l, e, R, s, m, args, below, meth, c, A, Q, cells, slots, nL⟩ := E
  obtain ⟨hl0, hx, hb, hml, hnl, hr, hlk, hown, hts, hK, hD, hfr, hlo, hcc, hcs, hF⟩ := C
  subst hnl
  intro H locs ls hP hS hl
  exact lv_i2c hx hb hd rfl (k H locs ls hP hS hl)
theorem v_ladd (C : Cx E B l0 cc own ret mL fr lo) {x y : Int64} (hd : decode cc pc = .ok (.ladd, 1))  (k : V E B σ (pc + 1) lv (.long (x + y) :: st)) : V E B σ pc lv (.long y :: .long x :: st) := by
  obtain ⟨p, l, e, R, s, m, args, below, meth, c, A, Q, cells, slots, nL⟩ := E
  obtain ⟨hl0, hx, hb, hml, hnl, hr, hlk, hown, hts, hK, hD, hfr, hlo, hcc, hcs, hF⟩ := C
  subst hnl
  intro H locs ls hP hS hl
  exact lv_ladd hx hb hd  (k H locs ls hP hS hl)
theorem v_lmul (C : Cx E B l0 cc own ret mL fr lo) {x y : Int64} (hd : decode cc pc = .ok (.lmul, 1))  (k : V E B σ (pc + 1) lv (.long (x * y) :: st)) : V E B σ pc lv (.long y :: .long x :: st) := by
  obtain ⟨p, l, e, R, s, m, args, below, meth, c, A, Q, cells, slots, nL⟩ := E
  obtain ⟨hl0, hx, hb, hml, hnl, hr, hlk, hown, hts, hK, hD, hfr, hlo, hcc, hcs, hF⟩ := C
  subst hnl
  intro H locs ls hP hS hl
  exact lv_lmul hx hb hd  (k H locs ls hP hS hl)
theorem v_ldiv (C : Cx E B l0 cc own ret mL fr lo) {x y : Int64} (hd : decode cc pc = .ok (.ldiv, 1)) (hne : ¬ y = 0) (k : V E B σ (pc + 1) lv (.long (x / y) :: st)) : V E B σ pc lv (.long y :: .long x :: st) := by
  obtain ⟨p, l, e, R, s, m, args, below, meth, c, A, Q, cells, slots, nL⟩ := E
  obtain ⟨hl0, hx, hb, hml, hnl, hr, hlk, hown, hts, hK, hD, hfr, hlo, hcc, hcs, hF⟩ := C
  subst hnl
  intro H locs ls hP hS hl
  exact lv_ldiv hx hb hd hne (k H locs ls hP hS hl)
theorem v_lrem (C : Cx E B l0 cc own ret mL fr lo) {x y : Int64} (hd : decode cc pc = .ok (.lrem, 1)) (hne : ¬ y = 0) (k : V E B σ (pc + 1) lv (.long (x - x / y * y) :: st)) : V E B σ pc lv (.long y :: .long x :: st) := by
  obtain ⟨p, l, e, R, s, m, args, below, meth, c, A, Q, cells, slots, nL⟩ := E
  obtain ⟨hl0, hx, hb, hml, hnl, hr, hlk, hown, hts, hK, hD, hfr, hlo, hcc, hcs, hF⟩ := C
  subst hnl
  intro H locs ls hP hS hl
  exact lv_lrem hx hb hd hne (k H locs ls hP hS hl)
theorem v_lcmp (C : Cx E B l0 cc own ret mL fr lo) {x y : Int64} (hd : decode cc pc = .ok (.lcmp, 1))  (k : V E B σ (pc + 1) lv (.int (lg_cmp x y) :: st)) : V E B σ pc lv (.long y :: .long x :: st) := by
  obtain ⟨p, l, e, R, s, m, args, below, meth, c, A, Q, cells, slots, nL⟩ := E
  obtain ⟨hl0, hx, hb, hml, hnl, hr, hlk, hown, hts, hK, hD, hfr, hlo, hcc, hcs, hF⟩ := C
  subst hnl
  intro H locs ls hP hS hl
  exact W.lcmp hx hb hd  (k H locs ls hP hS hl)
theorem v_iconst (C : Cx E B l0 cc own ret mL fr lo) {n : Int} {v : Int32} (hd : decode cc pc = .ok (.iconst n, 1)) (hv : Int32.ofInt n = v) (k : V E B σ (pc + 1) lv (.int v :: st)) : V E B σ pc lv st := by
  obtain ⟨p, l, e, R, s, m, args, below, meth, c, A, Q, cells, slots, nL⟩ := E
  obtain ⟨hl0, hx, hb, hml, hnl, hr, hlk, hown, hts, hK, hD, hfr, hlo, hcc, hcs, hF⟩ := C
  subst hnl
  intro H locs ls hP hS hl
  exact lv_iconst hx hb hd hv (k H locs ls hP hS hl)
theorem v_bipush (C : Cx E B l0 cc own ret mL fr lo) {n : Int} {v : Int32} (hd : decode cc pc = .ok (.bipush n, 2)) (hv : (Int8.ofInt n).toInt32 = v) (k : V E B σ (pc + 2) lv (.int v :: st)) : V E B σ pc lv st := by
  obtain ⟨p, l, e, R, s, m, args, below, meth, c, A, Q, cells, slots, nL⟩ := E
  obtain ⟨hl0, hx, hb, hml, hnl, hr, hlk, hown, hts, hK, hD, hfr, hlo, hcc, hcs, hF⟩ := C
  subst hnl
  intro H locs ls hP hS hl
  exact lv_bipush hx hb hd hv (k H locs ls hP hS hl)
theorem v_sipush (C : Cx E B l0 cc own ret mL fr lo) {n : Int} {v : Int32} (hd : decode cc pc = .ok (.sipush n, 3)) (hv : (Int16.ofInt n).toInt32 = v) (k : V E B σ (pc + 3) lv (.int v :: st)) : V E B σ pc lv st := by
  obtain ⟨p, l, e, R, s, m, args, below, meth, c, A, Q, cells, slots, nL⟩ := E
  obtain ⟨hl0, hx, hb, hml, hnl, hr, hlk, hown, hts, hK, hD, hfr, hlo, hcc, hcs, hF⟩ := C
  subst hnl
  intro H locs ls hP hS hl
  exact lv_sipush hx hb hd hv (k H locs ls hP hS hl)
theorem v_lconst (C : Cx E B l0 cc own ret mL fr lo) {n : Fin 2} {v : Int64} (hd : decode cc pc = .ok (.lconst n, 1)) (hv : Int64.ofNat (n : Nat) = v) (k : V E B σ (pc + 1) lv (.long v :: st)) : V E B σ pc lv st := by
  obtain ⟨p, l, e, R, s, m, args, below, meth, c, A, Q, cells, slots, nL⟩ := E
  obtain ⟨hl0, hx, hb, hml, hnl, hr, hlk, hown, hts, hK, hD, hfr, hlo, hcc, hcs, hF⟩ := C
  subst hnl
  intro H locs ls hP hS hl
  exact lv_lconst hx hb hd hv (k H locs ls hP hS hl)
theorem v_dup (C : Cx E B l0 cc own ret mL fr lo) {va : Value} (hd : decode cc pc = .ok (.dup, 1)) (hc1 : va.category = 1) (k : V E B σ (pc + 1) lv (va :: va :: st)) : V E B σ pc lv (va :: st) := by
  obtain ⟨p, l, e, R, s, m, args, below, meth, c, A, Q, cells, slots, nL⟩ := E
  obtain ⟨hl0, hx, hb, hml, hnl, hr, hlk, hown, hts, hK, hD, hfr, hlo, hcc, hcs, hF⟩ := C
  subst hnl
  intro H locs ls hP hS hl
  exact lv_dup hx hb hd hc1 (k H locs ls hP hS hl)
theorem v_pop (C : Cx E B l0 cc own ret mL fr lo) {va : Value} (hd : decode cc pc = .ok (.pop, 1)) (hc1 : va.category = 1) (k : V E B σ (pc + 1) lv st) : V E B σ pc lv (va :: st) := by
  obtain ⟨p, l, e, R, s, m, args, below, meth, c, A, Q, cells, slots, nL⟩ := E
  obtain ⟨hl0, hx, hb, hml, hnl, hr, hlk, hown, hts, hK, hD, hfr, hlo, hcc, hcs, hF⟩ := C
  subst hnl
  intro H locs ls hP hS hl
  exact lv_pop hx hb hd hc1 (k H locs ls hP hS hl)
theorem v_ldc (C : Cx E B l0 cc own ret mL fr lo) {index : Nat} {v : Int32} (hw : Cond.constant own index v ∈ gw) (hd : decode cc pc = .ok (.ldc index, 2)) (k : V E B σ (pc + 2) lv (.int v :: st)) : V E B σ pc lv st := by
  obtain ⟨p, l, e, R, s, m, args, below, meth, c, A, Q, cells, slots, nL⟩ := E
  obtain ⟨hl0, hx, hb, hml, hnl, hr, hlk, hown, hts, hK, hD, hfr, hlo, hcc, hcs, hF⟩ := C
  subst hnl
  intro H locs ls hP hS hl
  exact lv_ldc hx hb hown (hts _ hw) hd (k H locs ls hP hS hl)
theorem v_ldcw (C : Cx E B l0 cc own ret mL fr lo) {index : Nat} {v : Int32} (hw : Cond.constant own index v ∈ gw) (hd : decode cc pc = .ok (.ldc_w index, 3)) (k : V E B σ (pc + 3) lv (.int v :: st)) : V E B σ pc lv st := by
  obtain ⟨p, l, e, R, s, m, args, below, meth, c, A, Q, cells, slots, nL⟩ := E
  obtain ⟨hl0, hx, hb, hml, hnl, hr, hlk, hown, hts, hK, hD, hfr, hlo, hcc, hcs, hF⟩ := C
  subst hnl
  intro H locs ls hP hS hl
  exact lv_ldcw hx hb hown (hts _ hw) hd (k H locs ls hP hS hl)
theorem v_ldc2 (C : Cx E B l0 cc own ret mL fr lo) {index : Nat} {v : Int64} (hw : Cond.constantLong own index v ∈ gw) (hd : decode cc pc = .ok (.ldc2_w index, 3)) (k : V E B σ (pc + 3) lv (.long v :: st)) : V E B σ pc lv st := by
  obtain ⟨p, l, e, R, s, m, args, below, meth, c, A, Q, cells, slots, nL⟩ := E
  obtain ⟨hl0, hx, hb, hml, hnl, hr, hlk, hown, hts, hK, hD, hfr, hlo, hcc, hcs, hF⟩ := C
  subst hnl
  intro H locs ls hP hS hl
  exact lv_ldc2 hx hb hown (hts _ hw) hd (k H locs ls hP hS hl)
theorem v_ldcS (C : Cx E B l0 cc own ret mL fr lo) {index i : Nat} {tx : String} (hw : (own, index, tx, i) ∈ sRefs) (hd : decode cc pc = .ok (.ldc index, 2)) (k : V E B σ (pc + 2) lv (.ref (sk B i) :: st)) : V E B σ pc lv st := by
  obtain ⟨p, l, e, R, s, m, args, below, meth, c, A, Q, cells, slots, nL⟩ := E
  obtain ⟨hl0, hx, hb, hml, hnl, hr, hlk, hown, hts, hK, hD, hfr, hlo, hcc, hcs, hF⟩ := C
  subst hnl
  intro H locs ls hP hS hl
  exact va_ldcS hx hb hown (hF.2.2.2.1 _ hw) hd (k H locs ls hP hS hl)
theorem v_iload_n (C : Cx E B l0 cc own ret mL fr lo) {j : Fin 4} {i : Nat} {x : Int32} (q : Nat) (hd : decode cc pc = .ok (.iload_n j, 1)) (hi : (j : Nat) = i) (hq : lv[q]? = some (i, .int x)) (k : V E B σ (pc + 1) lv (.int x :: st)) : V E B σ pc lv st := by
  obtain ⟨p, l, e, R, s, m, args, below, meth, c, A, Q, cells, slots, nL⟩ := E
  obtain ⟨hl0, hx, hb, hml, hnl, hr, hlk, hown, hts, hK, hD, hfr, hlo, hcc, hcs, hF⟩ := C
  subst hnl
  intro H locs ls hP hS hl
  exact lv_iload_n hx hb hd hi (lv_at hl q hq) (k H locs ls hP hS hl)
theorem v_iload (C : Cx E B l0 cc own ret mL fr lo) {i : Nat} {x : Int32} (q : Nat) (hd : decode cc pc = .ok (.iload i, 2)) (hq : lv[q]? = some (i, .int x)) (k : V E B σ (pc + 2) lv (.int x :: st)) : V E B σ pc lv st := by
  obtain ⟨p, l, e, R, s, m, args, below, meth, c, A, Q, cells, slots, nL⟩ := E
  obtain ⟨hl0, hx, hb, hml, hnl, hr, hlk, hown, hts, hK, hD, hfr, hlo, hcc, hcs, hF⟩ := C
  subst hnl
  intro H locs ls hP hS hl
  exact lv_iload hx hb hd (lv_at hl q hq) (k H locs ls hP hS hl)
theorem v_lload_n (C : Cx E B l0 cc own ret mL fr lo) {j : Fin 4} {i : Nat} {x : Int64} (q : Nat) (hd : decode cc pc = .ok (.lload_n j, 1)) (hi : (j : Nat) = i) (hq : lv[q]? = some (i, .long x)) (k : V E B σ (pc + 1) lv (.long x :: st)) : V E B σ pc lv st := by
  obtain ⟨p, l, e, R, s, m, args, below, meth, c, A, Q, cells, slots, nL⟩ := E
  obtain ⟨hl0, hx, hb, hml, hnl, hr, hlk, hown, hts, hK, hD, hfr, hlo, hcc, hcs, hF⟩ := C
  subst hnl
  intro H locs ls hP hS hl
  exact lv_lload_n hx hb hd hi (lv_at hl q hq) (k H locs ls hP hS hl)
theorem v_lload (C : Cx E B l0 cc own ret mL fr lo) {i : Nat} {x : Int64} (q : Nat) (hd : decode cc pc = .ok (.lload i, 2)) (hq : lv[q]? = some (i, .long x)) (k : V E B σ (pc + 2) lv (.long x :: st)) : V E B σ pc lv st := by
  obtain ⟨p, l, e, R, s, m, args, below, meth, c, A, Q, cells, slots, nL⟩ := E
  obtain ⟨hl0, hx, hb, hml, hnl, hr, hlk, hown, hts, hK, hD, hfr, hlo, hcc, hcs, hF⟩ := C
  subst hnl
  intro H locs ls hP hS hl
  exact lv_lload hx hb hd (lv_at hl q hq) (k H locs ls hP hS hl)
theorem v_aload_n (C : Cx E B l0 cc own ret mL fr lo) {j : Fin 4} {i : Nat} {x : Nat} (q : Nat) (hd : decode cc pc = .ok (.aload_n j, 1)) (hi : (j : Nat) = i) (hq : lv[q]? = some (i, .ref x)) (k : V E B σ (pc + 1) lv (.ref x :: st)) : V E B σ pc lv st := by
  obtain ⟨p, l, e, R, s, m, args, below, meth, c, A, Q, cells, slots, nL⟩ := E
  obtain ⟨hl0, hx, hb, hml, hnl, hr, hlk, hown, hts, hK, hD, hfr, hlo, hcc, hcs, hF⟩ := C
  subst hnl
  intro H locs ls hP hS hl
  exact lv_aload_n hx hb hd hi (lv_at hl q hq) (k H locs ls hP hS hl)
def lvs1 (i : Nat) (v : Value) (lv : List (Nat × Value)) : List (Nat × Value) := (i, v) :: lv.filter (fun q => !(q.1 == i) && !(q.1 + 1 == i && q.2.category == 2))
def lvs2 (i : Nat) (v : Value) (lv : List (Nat × Value)) : List (Nat × Value) := (i, v) :: lv.filter (fun q => !(q.1 == i) && (!(q.1 == i + 1) && !(q.1 + 1 == i && q.2.category == 2)))
theorem v_istore_n (C : Cx E B l0 cc own ret mL fr lo) {j : Fin 4} {i : Nat} {x : Int32} {lv' : List (Nat × Value)}  (ks : List Nat) (hd : decode cc pc = .ok (.istore_n j, 1)) (hi : (j : Nat) = i) (hlt : i < mL) (hlv : lv_pick (lvs1 i (.int x) lv) ks = lv') (k : V E B σ (pc + 1) lv' st) : V E B σ pc lv (.int x :: st) := by
  obtain ⟨p, l, e, R, s, m, args, below, meth, c, A, Q, cells, slots, nL⟩ := E
  obtain ⟨hl0, hx, hb, hml, hnl, hr, hlk, hown, hts, hK, hD, hfr, hlo, hcc, hcs, hF⟩ := C
  subst hnl
  intro H locs ls hP hS hl
  exact lv_istore_n hx hb hd hi hl hlt rfl (fun ls2 hl2 => k H locs ls2 hP hS (lv_sub hl2 ks hlv))
theorem v_istore (C : Cx E B l0 cc own ret mL fr lo) {i : Nat} {x : Int32} {lv' : List (Nat × Value)}  (ks : List Nat) (hd : decode cc pc = .ok (.istore i, 2)) (hlt : i < mL) (hlv : lv_pick (lvs1 i (.int x) lv) ks = lv') (k : V E B σ (pc + 2) lv' st) : V E B σ pc lv (.int x :: st) := by
  obtain ⟨p, l, e, R, s, m, args, below, meth, c, A, Q, cells, slots, nL⟩ := E
  obtain ⟨hl0, hx, hb, hml, hnl, hr, hlk, hown, hts, hK, hD, hfr, hlo, hcc, hcs, hF⟩ := C
  subst hnl
  intro H locs ls hP hS hl
  exact lv_istore hx hb hd hl hlt rfl (fun ls2 hl2 => k H locs ls2 hP hS (lv_sub hl2 ks hlv))
theorem v_lstore_n (C : Cx E B l0 cc own ret mL fr lo) {j : Fin 4} {i : Nat} {x : Int64} {lv' : List (Nat × Value)}  (ks : List Nat) (hd : decode cc pc = .ok (.lstore_n j, 1)) (hi : (j : Nat) = i) (hlt : i + 1 < mL) (hlv : lv_pick (lvs2 i (.long x) lv) ks = lv') (k : V E B σ (pc + 1) lv' st) : V E B σ pc lv (.long x :: st) := by
  obtain ⟨p, l, e, R, s, m, args, below, meth, c, A, Q, cells, slots, nL⟩ := E
  obtain ⟨hl0, hx, hb, hml, hnl, hr, hlk, hown, hts, hK, hD, hfr, hlo, hcc, hcs, hF⟩ := C
  subst hnl
  intro H locs ls hP hS hl
  exact lv_lstore_n hx hb hd hi hl hlt rfl (fun ls2 hl2 => k H locs ls2 hP hS (lv_sub hl2 ks hlv))
theorem v_lstore (C : Cx E B l0 cc own ret mL fr lo) {i : Nat} {x : Int64} {lv' : List (Nat × Value)}  (ks : List Nat) (hd : decode cc pc = .ok (.lstore i, 2)) (hlt : i + 1 < mL) (hlv : lv_pick (lvs2 i (.long x) lv) ks = lv') (k : V E B σ (pc + 2) lv' st) : V E B σ pc lv (.long x :: st) := by
  obtain ⟨p, l, e, R, s, m, args, below, meth, c, A, Q, cells, slots, nL⟩ := E
  obtain ⟨hl0, hx, hb, hml, hnl, hr, hlk, hown, hts, hK, hD, hfr, hlo, hcc, hcs, hF⟩ := C
  subst hnl
  intro H locs ls hP hS hl
  exact lv_lstore hx hb hd hl hlt rfl (fun ls2 hl2 => k H locs ls2 hP hS (lv_sub hl2 ks hlv))
theorem v_iinc (C : Cx E B l0 cc own ret mL fr lo) {i q : Nat} {n : Int} {x v : Int32} {lv' : List (Nat × Value)}  (ks : List Nat) (hd : decode cc pc = .ok (.iinc i n, 3)) (hq : lv[q]? = some (i, .int x)) (hv : x + Int32.ofInt n = v) (hlt : i < mL) (hlv : lv_pick (lvs1 i (.int v) lv) ks = lv') (k : V E B σ (pc + 3) lv' st) : V E B σ pc lv st := by
  obtain ⟨p, l, e, R, s, m, args, below, meth, c, A, Q, cells, slots, nL⟩ := E
  obtain ⟨hl0, hx, hb, hml, hnl, hr, hlk, hown, hts, hK, hD, hfr, hlo, hcc, hcs, hF⟩ := C
  subst hnl
  intro H locs ls hP hS hl
  exact lv_iinc hx hb hd hl (k := q) hq hv hlt rfl (fun ls2 hl2 => k H locs ls2 hP hS (lv_sub hl2 ks hlv))
theorem v_sub {lv' : List (Nat × Value)} (ks : List Nat) (h : lv_pick lv ks = lv') (k : V E B σ pc lv' st) : V E B σ pc lv st := by
  obtain ⟨p, l, e, R, s, m, args, below, meth, c, A, Q, cells, slots, nL⟩ := E
  intro H locs ls hP hS hl
  exact k H locs ls hP hS (lv_sub hl ks h)
end VROWS
section VROWS2
variable {E : EE} {B : BB} {l0 : Launch} {cc : ByteArray} {own : String} {ret : Option FieldType} {mL fr lo : Nat} {σ : St2} {pc : Nat} {lv : List (Nat × Value)} {st : List Value} {ρ : Type} {res : ρ} {Pt Pf : Option ρ}
theorem v_icmp_eq (C : Cx E B l0 cc own ret mL fr lo) {x y : Int32} {off : Int} {tgt : Nat} (hd : decode cc pc = .ok (.if_icmp .eq off, 3)) (ht : (pc : Int) + off = (tgt : Int)) (hf : (if x = y then Pt else Pf) = some res) (kt : Pt = some res → V E B σ tgt lv st) (kf : Pf = some res → V E B σ (pc + 3) lv st) : V E B σ pc lv (.int y :: .int x :: st) := by
  obtain ⟨p, l, e, R, s, m, args, below, meth, c, A, Q, cells, slots, nL⟩ := E
  obtain ⟨hl0, hx, hb, hml, hnl, hr, hlk, hown, hts, hK, hD, hfr, hlo, hcc, hcs, hF⟩ := C
  subst hnl
  intro H locs ls hP hS hl
  exact lv_icmp_eq hx hb hd ht (fun hc => kt ((if_pos hc).symm.trans hf) H locs ls hP hS hl) (fun hc => kf ((if_neg hc).symm.trans hf) H locs ls hP hS hl)
theorem v_icmp_ne (C : Cx E B l0 cc own ret mL fr lo) {x y : Int32} {off : Int} {tgt : Nat} (hd : decode cc pc = .ok (.if_icmp .ne off, 3)) (ht : (pc : Int) + off = (tgt : Int)) (hf : (if x = y then Pt else Pf) = some res) (kt : Pf = some res → V E B σ tgt lv st) (kf : Pt = some res → V E B σ (pc + 3) lv st) : V E B σ pc lv (.int y :: .int x :: st) := by
  obtain ⟨p, l, e, R, s, m, args, below, meth, c, A, Q, cells, slots, nL⟩ := E
  obtain ⟨hl0, hx, hb, hml, hnl, hr, hlk, hown, hts, hK, hD, hfr, hlo, hcc, hcs, hF⟩ := C
  subst hnl
  intro H locs ls hP hS hl
  exact lv_icmp_ne hx hb hd ht (fun hc => kt ((if_neg hc).symm.trans hf) H locs ls hP hS hl) (fun hc => kf ((if_pos hc).symm.trans hf) H locs ls hP hS hl)
theorem v_icmp_lt (C : Cx E B l0 cc own ret mL fr lo) {x y : Int32} {off : Int} {tgt : Nat} (hd : decode cc pc = .ok (.if_icmp .lt off, 3)) (ht : (pc : Int) + off = (tgt : Int)) (hf : (if x < y then Pt else Pf) = some res) (kt : Pt = some res → V E B σ tgt lv st) (kf : Pf = some res → V E B σ (pc + 3) lv st) : V E B σ pc lv (.int y :: .int x :: st) := by
  obtain ⟨p, l, e, R, s, m, args, below, meth, c, A, Q, cells, slots, nL⟩ := E
  obtain ⟨hl0, hx, hb, hml, hnl, hr, hlk, hown, hts, hK, hD, hfr, hlo, hcc, hcs, hF⟩ := C
  subst hnl
  intro H locs ls hP hS hl
  exact lv_icmp_lt hx hb hd ht (fun hc => kt ((if_pos hc).symm.trans hf) H locs ls hP hS hl) (fun hc => kf ((if_neg hc).symm.trans hf) H locs ls hP hS hl)
theorem v_icmp_ge (C : Cx E B l0 cc own ret mL fr lo) {x y : Int32} {off : Int} {tgt : Nat} (hd : decode cc pc = .ok (.if_icmp .ge off, 3)) (ht : (pc : Int) + off = (tgt : Int)) (hf : (if y ≤ x then Pt else Pf) = some res) (kt : Pt = some res → V E B σ tgt lv st) (kf : Pf = some res → V E B σ (pc + 3) lv st) : V E B σ pc lv (.int y :: .int x :: st) := by
  obtain ⟨p, l, e, R, s, m, args, below, meth, c, A, Q, cells, slots, nL⟩ := E
  obtain ⟨hl0, hx, hb, hml, hnl, hr, hlk, hown, hts, hK, hD, hfr, hlo, hcc, hcs, hF⟩ := C
  subst hnl
  intro H locs ls hP hS hl
  exact lv_icmp_ge hx hb hd ht (fun hc => kt ((if_pos hc).symm.trans hf) H locs ls hP hS hl) (fun hc => kf ((if_neg hc).symm.trans hf) H locs ls hP hS hl)
theorem v_icmp_gt (C : Cx E B l0 cc own ret mL fr lo) {x y : Int32} {off : Int} {tgt : Nat} (hd : decode cc pc = .ok (.if_icmp .gt off, 3)) (ht : (pc : Int) + off = (tgt : Int)) (hf : (if y < x then Pt else Pf) = some res) (kt : Pt = some res → V E B σ tgt lv st) (kf : Pf = some res → V E B σ (pc + 3) lv st) : V E B σ pc lv (.int y :: .int x :: st) := by
  obtain ⟨p, l, e, R, s, m, args, below, meth, c, A, Q, cells, slots, nL⟩ := E
  obtain ⟨hl0, hx, hb, hml, hnl, hr, hlk, hown, hts, hK, hD, hfr, hlo, hcc, hcs, hF⟩ := C
  subst hnl
  intro H locs ls hP hS hl
  exact lv_icmp_gt hx hb hd ht (fun hc => kt ((if_pos hc).symm.trans hf) H locs ls hP hS hl) (fun hc => kf ((if_neg hc).symm.trans hf) H locs ls hP hS hl)
theorem v_icmp_le (C : Cx E B l0 cc own ret mL fr lo) {x y : Int32} {off : Int} {tgt : Nat} (hd : decode cc pc = .ok (.if_icmp .le off, 3)) (ht : (pc : Int) + off = (tgt : Int)) (hf : (if x ≤ y then Pt else Pf) = some res) (kt : Pt = some res → V E B σ tgt lv st) (kf : Pf = some res → V E B σ (pc + 3) lv st) : V E B σ pc lv (.int y :: .int x :: st) := by
  obtain ⟨p, l, e, R, s, m, args, below, meth, c, A, Q, cells, slots, nL⟩ := E
  obtain ⟨hl0, hx, hb, hml, hnl, hr, hlk, hown, hts, hK, hD, hfr, hlo, hcc, hcs, hF⟩ := C
  subst hnl
  intro H locs ls hP hS hl
  exact lv_icmp_le hx hb hd ht (fun hc => kt ((if_pos hc).symm.trans hf) H locs ls hP hS hl) (fun hc => kf ((if_neg hc).symm.trans hf) H locs ls hP hS hl)
theorem v_if_eq (C : Cx E B l0 cc own ret mL fr lo) {x : Int32} {off : Int} {tgt : Nat} (hd : decode cc pc = .ok (.ifCond .eq off, 3)) (ht : (pc : Int) + off = (tgt : Int)) (hf : (if x = 0 then Pt else Pf) = some res) (kt : Pt = some res → V E B σ tgt lv st) (kf : Pf = some res → V E B σ (pc + 3) lv st) : V E B σ pc lv (.int x :: st) := by
  obtain ⟨p, l, e, R, s, m, args, below, meth, c, A, Q, cells, slots, nL⟩ := E
  obtain ⟨hl0, hx, hb, hml, hnl, hr, hlk, hown, hts, hK, hD, hfr, hlo, hcc, hcs, hF⟩ := C
  subst hnl
  intro H locs ls hP hS hl
  exact lv_if_eq hx hb hd ht (fun hc => kt ((if_pos hc).symm.trans hf) H locs ls hP hS hl) (fun hc => kf ((if_neg hc).symm.trans hf) H locs ls hP hS hl)
theorem v_if_ne (C : Cx E B l0 cc own ret mL fr lo) {x : Int32} {off : Int} {tgt : Nat} (hd : decode cc pc = .ok (.ifCond .ne off, 3)) (ht : (pc : Int) + off = (tgt : Int)) (hf : (if x = 0 then Pt else Pf) = some res) (kt : Pf = some res → V E B σ tgt lv st) (kf : Pt = some res → V E B σ (pc + 3) lv st) : V E B σ pc lv (.int x :: st) := by
  obtain ⟨p, l, e, R, s, m, args, below, meth, c, A, Q, cells, slots, nL⟩ := E
  obtain ⟨hl0, hx, hb, hml, hnl, hr, hlk, hown, hts, hK, hD, hfr, hlo, hcc, hcs, hF⟩ := C
  subst hnl
  intro H locs ls hP hS hl
  exact lv_if_ne hx hb hd ht (fun hc => kt ((if_neg hc).symm.trans hf) H locs ls hP hS hl) (fun hc => kf ((if_pos hc).symm.trans hf) H locs ls hP hS hl)
theorem v_if_lt (C : Cx E B l0 cc own ret mL fr lo) {x : Int32} {off : Int} {tgt : Nat} (hd : decode cc pc = .ok (.ifCond .lt off, 3)) (ht : (pc : Int) + off = (tgt : Int)) (hf : (if x < 0 then Pt else Pf) = some res) (kt : Pt = some res → V E B σ tgt lv st) (kf : Pf = some res → V E B σ (pc + 3) lv st) : V E B σ pc lv (.int x :: st) := by
  obtain ⟨p, l, e, R, s, m, args, below, meth, c, A, Q, cells, slots, nL⟩ := E
  obtain ⟨hl0, hx, hb, hml, hnl, hr, hlk, hown, hts, hK, hD, hfr, hlo, hcc, hcs, hF⟩ := C
  subst hnl
  intro H locs ls hP hS hl
  exact lv_if_lt hx hb hd ht (fun hc => kt ((if_pos hc).symm.trans hf) H locs ls hP hS hl) (fun hc => kf ((if_neg hc).symm.trans hf) H locs ls hP hS hl)
theorem v_if_ge (C : Cx E B l0 cc own ret mL fr lo) {x : Int32} {off : Int} {tgt : Nat} (hd : decode cc pc = .ok (.ifCond .ge off, 3)) (ht : (pc : Int) + off = (tgt : Int)) (hf : (if 0 ≤ x then Pt else Pf) = some res) (kt : Pt = some res → V E B σ tgt lv st) (kf : Pf = some res → V E B σ (pc + 3) lv st) : V E B σ pc lv (.int x :: st) := by
  obtain ⟨p, l, e, R, s, m, args, below, meth, c, A, Q, cells, slots, nL⟩ := E
  obtain ⟨hl0, hx, hb, hml, hnl, hr, hlk, hown, hts, hK, hD, hfr, hlo, hcc, hcs, hF⟩ := C
  subst hnl
  intro H locs ls hP hS hl
  exact lv_if_ge hx hb hd ht (fun hc => kt ((if_pos hc).symm.trans hf) H locs ls hP hS hl) (fun hc => kf ((if_neg hc).symm.trans hf) H locs ls hP hS hl)
theorem v_if_gt (C : Cx E B l0 cc own ret mL fr lo) {x : Int32} {off : Int} {tgt : Nat} (hd : decode cc pc = .ok (.ifCond .gt off, 3)) (ht : (pc : Int) + off = (tgt : Int)) (hf : (if 0 < x then Pt else Pf) = some res) (kt : Pt = some res → V E B σ tgt lv st) (kf : Pf = some res → V E B σ (pc + 3) lv st) : V E B σ pc lv (.int x :: st) := by
  obtain ⟨p, l, e, R, s, m, args, below, meth, c, A, Q, cells, slots, nL⟩ := E
  obtain ⟨hl0, hx, hb, hml, hnl, hr, hlk, hown, hts, hK, hD, hfr, hlo, hcc, hcs, hF⟩ := C
  subst hnl
  intro H locs ls hP hS hl
  exact lv_if_gt hx hb hd ht (fun hc => kt ((if_pos hc).symm.trans hf) H locs ls hP hS hl) (fun hc => kf ((if_neg hc).symm.trans hf) H locs ls hP hS hl)
theorem v_if_le (C : Cx E B l0 cc own ret mL fr lo) {x : Int32} {off : Int} {tgt : Nat} (hd : decode cc pc = .ok (.ifCond .le off, 3)) (ht : (pc : Int) + off = (tgt : Int)) (hf : (if x ≤ 0 then Pt else Pf) = some res) (kt : Pt = some res → V E B σ tgt lv st) (kf : Pf = some res → V E B σ (pc + 3) lv st) : V E B σ pc lv (.int x :: st) := by
  obtain ⟨p, l, e, R, s, m, args, below, meth, c, A, Q, cells, slots, nL⟩ := E
  obtain ⟨hl0, hx, hb, hml, hnl, hr, hlk, hown, hts, hK, hD, hfr, hlo, hcc, hcs, hF⟩ := C
  subst hnl
  intro H locs ls hP hS hl
  exact lv_if_le hx hb hd ht (fun hc => kt ((if_pos hc).symm.trans hf) H locs ls hP hS hl) (fun hc => kf ((if_neg hc).symm.trans hf) H locs ls hP hS hl)
theorem v_goto (C : Cx E B l0 cc own ret mL fr lo) {off : Int} {tgt : Nat} (hd : decode cc pc = .ok (.goto off, 3)) (ht : (pc : Int) + off = (tgt : Int)) (k : V E B σ tgt lv st) : V E B σ pc lv st := by
  obtain ⟨p, l, e, R, s, m, args, below, meth, c, A, Q, cells, slots, nL⟩ := E
  obtain ⟨hl0, hx, hb, hml, hnl, hr, hlk, hown, hts, hK, hD, hfr, hlo, hcc, hcs, hF⟩ := C
  subst hnl
  intro H locs ls hP hS hl
  exact lv_goto hx hb hd ht (k H locs ls hP hS hl)
theorem v_tabIn (C : Cx E B l0 cc own ret mL fr lo) {dflt lw hw : Int} {offs : Array Int} {len : Nat} {x z : Int32} {off : Int} {tgt : Nat} (hd : decode cc pc = .ok (.tableswitch dflt lw hw offs, len)) (hz : x = z) (h1 : ¬ z.toInt < lw) (h2 : ¬ hw < z.toInt) (ho : offs[(z.toInt - lw).toNat]? = some off) (ht : (pc : Int) + off = (tgt : Int)) (k : V E B σ tgt lv st) : V E B σ pc lv (.int x :: st) := by
  obtain ⟨p, l, e, R, s, m, args, below, meth, c, A, Q, cells, slots, nL⟩ := E
  obtain ⟨hl0, hx, hb, hml, hnl, hr, hlk, hown, hts, hK, hD, hfr, hlo, hcc, hcs, hF⟩ := C
  subst hnl
  intro H locs ls hP hS hl
  subst hz
  exact lv_tableIn hx hb hd h1 h2 ho ht (k H locs ls hP hS hl)
theorem v_tabOut (C : Cx E B l0 cc own ret mL fr lo) {dflt lw hw : Int} {offs : Array Int} {len : Nat} {x : Int32} {tgt : Nat} (hd : decode cc pc = .ok (.tableswitch dflt lw hw offs, len)) (h : x.toInt < lw ∨ hw < x.toInt) (ht : (pc : Int) + dflt = (tgt : Int)) (k : V E B σ tgt lv st) : V E B σ pc lv (.int x :: st) := by
  obtain ⟨p, l, e, R, s, m, args, below, meth, c, A, Q, cells, slots, nL⟩ := E
  obtain ⟨hl0, hx, hb, hml, hnl, hr, hlk, hown, hts, hK, hD, hfr, hlo, hcc, hcs, hF⟩ := C
  subst hnl
  intro H locs ls hP hS hl
  exact lv_tableOut hx hb hd h ht (k H locs ls hP hS hl)
theorem v_top {x : Int32} {K : Int32 → Option ρ} (hf : (some x).bind K = some res) (k : ∀ v : Int32, K v = some res → V E B σ pc lv (.int v :: st)) : V E B σ pc lv (.int x :: st) := k x hf
theorem v_topl {x : Int64} {K : Int64 → Option ρ} (hf : (some x).bind K = some res) (k : ∀ v : Int64, K v = some res → V E B σ pc lv (.long v :: st)) : V E B σ pc lv (.long x :: st) := k x hf
theorem v_mmax (C : Cx E B l0 cc own ret mL fr lo) {index : Nat} {x y : Int32} (hw1 : Cond.methodLink own index Lib.Math.max.name ∈ gw) (hw2 : Cond.static Lib.Math.max.name ∈ gw) (hw3 : Cond.initialized "java/lang/Math" ∈ gw) (hw4 : Cond.code Lib.Math.max.name Lib.Math.max.code 2 (some .int) ∈ gw) (hfr1 : 1 ≤ fr) (hlo1 : (st.map fun v => v.category).sum + 13 ≤ lo) (hd : decode cc pc = .ok (.invokestatic index, 3)) (k : V E B σ (pc + 3) lv (.int (if x < y then y else x) :: st)) : V E B σ pc lv (.int y :: .int x :: st) := by
  obtain ⟨p, l, e, R, s, m, args, below, meth, c, A, Q, cells, slots, nL⟩ := E
  obtain ⟨hl0, hx, hb, hml, hnl, hr, hlk, hown, hts, hK, hD, hfr, hlo, hcc, hcs, hF⟩ := C
  subst hnl
  intro H locs ls hP hS hl
  exact va_mmax hx hb (hml.trans hl.1.symm) hown (hts _ hw1) (hts _ hw2) (hts _ hw3) (hts _ hw4) (Nat.le_trans hfr1 hfr) (Nat.le_trans hlo1 hlo) hcc hcs hd (k H locs ls hP hS hl)
theorem v_mmin (C : Cx E B l0 cc own ret mL fr lo) {index : Nat} {x y : Int32} (hw1 : Cond.methodLink own index Lib.Math.min.name ∈ gw) (hw2 : Cond.static Lib.Math.min.name ∈ gw) (hw3 : Cond.initialized "java/lang/Math" ∈ gw) (hw4 : Cond.code Lib.Math.min.name Lib.Math.min.code 2 (some .int) ∈ gw) (hfr1 : 1 ≤ fr) (hlo1 : (st.map fun v => v.category).sum + 13 ≤ lo) (hd : decode cc pc = .ok (.invokestatic index, 3)) (k : V E B σ (pc + 3) lv (.int (if y < x then y else x) :: st)) : V E B σ pc lv (.int y :: .int x :: st) := by
  obtain ⟨p, l, e, R, s, m, args, below, meth, c, A, Q, cells, slots, nL⟩ := E
  obtain ⟨hl0, hx, hb, hml, hnl, hr, hlk, hown, hts, hK, hD, hfr, hlo, hcc, hcs, hF⟩ := C
  subst hnl
  intro H locs ls hP hS hl
  exact va_mmin hx hb (hml.trans hl.1.symm) hown (hts _ hw1) (hts _ hw2) (hts _ hw3) (hts _ hw4) (Nat.le_trans hfr1 hfr) (Nat.le_trans hlo1 hlo) hcc hcs hd (k H locs ls hP hS hl)
end VROWS2
end
section
theorem bz_s {v r : Int32} (h : (if v = 0 ∨ v = 1 then some v else none) = some r) : (v = 0 ∨ v = 1) ∧ r = v := by
  by_cases q : v = 0 ∨ v = 1
  · rw [if_pos q] at h
    exact ⟨q, (Option.some.inj h).symm⟩
  · rw [if_neg q] at h
    cases h
/-- a truth value -/
def bz (v : Int32) : Option Int32 := if v = 0 ∨ v = 1 then some v else none
theorem bz_n {v : Int32} (h : v = 0 ∨ v = 1) : narrow .boolean (.int v) = .int v := by rcases h with rfl | rfl <;> rfl
theorem bz_f {v : Int32} (h : v = 0 ∨ v = 1) : fits .boolean (.int v) = true := by rcases h with rfl | rfl <;> rfl
def flS (b : Nat) : List (Nat ⊕ Nat) := [.inl (b + 1), .inl (b + 5), .inl (b + 12), .inr 3, .inr 4, .inr 5, .inr 6, .inr 7]
theorem tb_o {b : Nat} (hb : Sb b) : tb b = .inr (.inr (1, flS b)) := tb_sh hb (k := 0) (by decide)
theorem tb_po {b : Nat} (hb : Sb b) : tb (b + 1) = .inr (.inl (3, b + 2)) := tb_sh hb (k := 1) (by decide)
theorem tb_to {b : Nat} (hb : Sb b) : tb (b + 5) = .inr (.inl (6, b + 6)) := tb_sh hb (k := 5) (by decide)
theorem tb_sp {b : Nat} (hb : Sb b) : tb (b + 12) = .inl 10 := tb_sh hb (k := 12) (by decide)
theorem tb_pr {b : Nat} (hb : Sb b) {r : Nat} (hr : r < 3) : tb (b + (2 + r)) = .inl 24 := by
  rw [tb_sh hb (k := 2 + r) (by omega)]
  match r, hr with
  | 0, _ => rfl
  | 1, _ => rfl
  | 2, _ => rfl
theorem tb_tr {b : Nat} (hb : Sb b) {r : Nat} (hr : r < 6) : tb (b + (6 + r)) = .inl 8 := by
  rw [tb_sh hb (k := 6 + r) (by omega)]
  match r, hr with
  | 0, _ => rfl
  | 1, _ => rfl
  | 2, _ => rfl
  | 3, _ => rfl
  | 4, _ => rfl
  | 5, _ => rfl
theorem tb_nr {r : Nat} (hr : r < 4) : tb (6 + r) = .inl 40 := by
  match r, hr with
  | 0, _ => rfl
  | 1, _ => rfl
  | 2, _ => rfl
  | 3, _ => rfl
section VROWS3
variable {E : EE} {B : BB} {l0 : Launch} {cc : ByteArray} {own : String} {ret : Option FieldType} {mL fr lo : Nat} {σ : St2} {pc : Nat} {lv : List (Nat × Value)} {st : List Value} {ρ : Type} {res : ρ} {L : St2 → St2} {x : St2} {b n : Nat}
theorem g_getR (C : Cx E B l0 cc own ret mL fr lo) {K i ci index : Nat} {fl : List (Nat ⊕ Nat)} {Cn : String} {T : u_T} {N : Nat} {j : Nat} (hK9 : K < 61) (ht : tb K = .inr (.inr (ci, fl))) (hc : vwCl[ci]? = some (Cn, T, N)) (hin : ∀ w ∈ u_ws Cn T N, w ∈ gw) (hi : i < N) (hq : fl[i]? = some (.inl j)) (hw : Cond.fieldLink own index (T i).1 (T i).2.1 (T i).2.2.1 ∈ gw) (hd : decode cc pc = .ok (.getfield index, 3)) (k : V E B σ (pc + 3) lv (.ref (ad B j) :: st)) : V E B σ pc lv (.ref (ad B K) :: st) := by
  obtain ⟨p, l, e, R, s, m, args, below, meth, c, A, Q, cells, slots, nL⟩ := E
  obtain ⟨hl0, hx, hb, hml, hnl, hr, hlk, hown, hts, hK, hD, hfr, hlo, hcc, hcs, hF⟩ := C
  subst hnl
  intro H locs ls hP hS hl
  have he := wW_at (B := B) (σ := σ) hK9
  rw [ht] at he
  exact va_get (D := B.1) (ci := ci) (v := .ref (ad B j)) hx hb hts hin hown hK hP K he hc i hi (hts _ hw) (fun _ h9 => h9) (by rw [List.getElem?_map, hq]; rfl) hd (k H locs ls hP hS hl)
theorem g_getI (C : Cx E B l0 cc own ret mL fr lo) {K i ci index : Nat} {fl : List (Nat ⊕ Nat)} {Cn : String} {T : u_T} {N : Nat} (hK9 : K < 61) (ht : tb K = .inr (.inr (ci, fl))) (hc : vwCl[ci]? = some (Cn, T, N)) (hin : ∀ w ∈ u_ws Cn T N, w ∈ gw) (hi : i < N) (hq : fl[i]? = some (.inr i)) (hw : Cond.fieldLink own index (T i).1 (T i).2.1 (T i).2.2.1 ∈ gw) (hd : decode cc pc = .ok (.getfield index, 3)) (k : V E B σ (pc + 3) lv (.int (σ K i) :: st)) : V E B σ pc lv (.ref (ad B K) :: st) := by
  obtain ⟨p, l, e, R, s, m, args, below, meth, c, A, Q, cells, slots, nL⟩ := E
  obtain ⟨hl0, hx, hb, hml, hnl, hr, hlk, hown, hts, hK, hD, hfr, hlo, hcc, hcs, hF⟩ := C
  subst hnl
  intro H locs ls hP hS hl
  have he := wW_at (B := B) (σ := σ) hK9
  rw [ht] at he
  exact va_get (D := B.1) (ci := ci) (v := .int (σ K i)) hx hb hts hin hown hK hP K he hc i hi (hts _ hw) (fun _ h9 => h9) (by rw [List.getElem?_map, hq]; rfl) hd (k H locs ls hP hS hl)
theorem g_putI (C : Cx E B l0 cc own ret mL fr lo) {K i ci index : Nat} {fl : List (Nat ⊕ Nat)} {Cn : String} {T : u_T} {N : Nat} {v : Int32} (hK9 : K < 61) (ht : tb K = .inr (.inr (ci, fl))) (hc : vwCl[ci]? = some (Cn, T, N)) (hin : ∀ w ∈ u_ws Cn T N, w ∈ gw) (ty0 : Nat → FieldType) (hty : ∀ k, k < N → parseFieldDescriptor (T k).2.2.1 = some (ty0 k)) (hnm : ∀ a, a < N → ∀ b, b < N → a ≠ b → (T a).2.1 ≠ (T b).2.1) (hi : i < N) (hq : fl[i]? = some (.inr i)) (hw : Cond.fieldLink own index (T i).1 (T i).2.1 (T i).2.2.1 ∈ gw) (hfin : (T i).2.2.2 = false) {ty : FieldType} (hpd : parseFieldDescriptor (T i).2.2.1 = some ty) (hn9 : narrow ty (.int v) = .int v) (hf9 : fits ty (.int v) = true) (hd : decode cc pc = .ok (.putfield index, 3)) (k : V E B (va_up σ K (upd (σ K) i v)) (pc + 3) lv st) : V E B σ pc lv (.int v :: .ref (ad B K) :: st) := by
  obtain ⟨p, l, e, R, s, m, args, below, meth, c, A, Q, cells, slots, nL⟩ := E
  obtain ⟨hl0, hx, hb, hml, hnl, hr, hlk, hown, hts, hK, hD, hfr, hlo, hcc, hcs, hF⟩ := C
  subst hnl
  intro H locs ls hP hS hl
  have he := wW_at (B := B) (σ := σ) hK9
  rw [ht] at he
  have hle : i < (fl.map (celF B (σ K))).length := by rw [List.length_map]; exact (List.getElem?_eq_some_iff.mp hq).1
  refine va_put (D := B.1) (ci := ci) (v := .int v) (ty := ty) hx hb hts hin ty0 hty hnm hown hK hP (hD σ) hS K he hc i hi (hts _ hw) (fun _ h9 => h9) hfin hpd hn9 hf9 hle hd (fun H1 locs1 hP1 hD1 hS1 => k H1 locs1 ls ?_ hS1 hl)
  rw [← wW_set hK9, ht]
  show va_P B.1 vwCl ((wW B σ).set K (ad B K, .inr (ci, fl.map (celF B (upd (σ K) i v))))) H1
  rw [← fl_set (fun h9 => tb_lab ht h9) hq]
  exact hP1
theorem g_ald (C : Cx E B l0 cc own ret mL fr lo) {K N : Nat} {i : Int32} (hK9 : K < 61) (ht : tb K = .inl N) (hin : inb i N) (hd : decode cc pc = .ok (.iaload, 1)) (k : V E B σ (pc + 1) lv (.int (σ K i.toNatClampNeg) :: st)) : V E B σ pc lv (.int i :: .ref (ad B K) :: st) := by
  obtain ⟨p, l, e, R, s, m, args, below, meth, c, A, Q, cells, slots, nL⟩ := E
  obtain ⟨hl0, hx, hb, hml, hnl, hr, hlk, hown, hts, hK, hD, hfr, hlo, hcc, hcs, hF⟩ := C
  subst hnl
  intro H locs ls hP hS hl
  have he := wW_at (B := B) (σ := σ) hK9
  rw [ht] at he
  exact va_iald hx hb hK hP K 0 he rfl (inb_vp hin) hd (k H locs ls hP hS hl)
theorem g_ast (C : Cx E B l0 cc own ret mL fr lo) {K N : Nat} {i v : Int32} (hK9 : K < 61) (ht : tb K = .inl N) (hin : inb i N) (hd : decode cc pc = .ok (.iastore, 1)) (k : V E B (va_up σ K (upd (σ K) i.toNatClampNeg v)) (pc + 1) lv st) : V E B σ pc lv (.int v :: .int i :: .ref (ad B K) :: st) := by
  obtain ⟨p, l, e, R, s, m, args, below, meth, c, A, Q, cells, slots, nL⟩ := E
  obtain ⟨hl0, hx, hb, hml, hnl, hr, hlk, hown, hts, hK, hD, hfr, hlo, hcc, hcs, hF⟩ := C
  subst hnl
  intro H locs ls hP hS hl
  have he := wW_at (B := B) (σ := σ) hK9
  rw [ht] at he
  refine va_iast hx hb hK hP (hD σ) hS K 0 he rfl (inb_vp hin) hd (fun H1 locs1 hP1 hD1 hS1 => k H1 locs1 ls ?_ hS1 hl)
  rw [← wW_set hK9, ht]
  exact hP1
theorem g_aald (C : Cx E B l0 cc own ret mL fr lo) {K N j : Nat} {i : Int32} (hK9 : K < 61) (ht : tb K = .inr (.inl (N, j))) (hin : inb i N) (hd : decode cc pc = .ok (.aaload, 1)) (k : V E B σ (pc + 1) lv (.ref (ad B (j + i.toNatClampNeg)) :: st)) : V E B σ pc lv (.int i :: .ref (ad B K) :: st) := by
  obtain ⟨p, l, e, R, s, m, args, below, meth, c, A, Q, cells, slots, nL⟩ := E
  obtain ⟨hl0, hx, hb, hml, hnl, hr, hlk, hown, hts, hK, hD, hfr, hlo, hcc, hcs, hF⟩ := C
  subst hnl
  intro H locs ls hP hS hl
  have he := wW_at (B := B) (σ := σ) hK9
  rw [ht] at he
  exact W.aald (v := .ref (ad B (j + i.toNatClampNeg))) (ty := .array .int) hx hb (hP K _ he) ((hK.2 1 (B.2.2.1, .array .int) rfl).1 N (fun q => va_rf (some (ad B (j + q))))) rfl (fun q => by cases q) (by show ¬ (i < 0 ∨ (arrV _ _ _).slots.size ≤ _); rw [arrV_size]; exact inb_vp hin) (by show (arrV _ _ _).slots[_]? = _; rw [arrV_read _ _ hin.2]; rfl) rfl rfl hd (k H locs ls hP hS hl)
theorem g_copy (C : Cx E B l0 cc own ret mL fr lo) {K0 K1 N0 N1 index : Nat} {sp dp n9 : Int32} (hK0 : K0 < 61) (ht0 : tb K0 = .inl N0) (hK1 : K1 < 61) (ht1 : tb K1 = .inl N1) (hw1 : Cond.methodLink own index arraycopyName ∈ gw) (hw2 : Cond.native arraycopyName ∈ gw) (hw3 : Cond.static arraycopyName ∈ gw) (hw4 : Cond.initialized "java/lang/System" ∈ gw) (h1 : ¬ sp < 0) (h2 : ¬ dp < 0) (h3 : ¬ n9 < 0) (h4 : sp.toNatClampNeg + n9.toNatClampNeg ≤ N0) (h5 : dp.toNatClampNeg + n9.toNatClampNeg ≤ N1) (hfr1 : 1 ≤ fr) (hlo1 : (st.map fun v => v.category).sum + (nativeFrameWords "java/lang/System" "arraycopy" 5 + 11) ≤ lo) (hd : decode cc pc = .ok (.invokestatic index, 3)) (k : V E B (va_up σ K1 (va_cpy (σ K0) (σ K1) sp.toNatClampNeg dp.toNatClampNeg n9.toNatClampNeg)) (pc + 3) lv st) : V E B σ pc lv (.int n9 :: .int dp :: .ref (ad B K1) :: .int sp :: .ref (ad B K0) :: st) := by
  obtain ⟨p, l, e, R, s, m, args, below, meth, c, A, Q, cells, slots, nL⟩ := E
  obtain ⟨hl0, hx, hb, hml, hnl, hr, hlk, hown, hts, hK, hD, hfr, hlo, hcc, hcs, hF⟩ := C
  subst hnl
  intro H locs ls hP hS hl
  have he0 := wW_at (B := B) (σ := σ) hK0
  have he1 := wW_at (B := B) (σ := σ) hK1
  rw [ht0] at he0
  rw [ht1] at he1
  refine va_copyi hx hb (hml.trans hl.1.symm) hown (hts _ hw1) (hts _ hw2) (hts _ hw3) (hts _ hw4) hK hP (hD σ) hS K0 K1 0 0 he0 he1 rfl rfl rfl h1 h2 h3 h4 h5 (fun _ _ => rfl) (Nat.le_trans hfr1 hfr) (Nat.le_trans hlo1 hlo) hd (fun H1 locs1 hP1 hD1 hS1 => k H1 locs1 ls ?_ hS1 hl)
  rw [← wW_set hK1, ht1]
  exact hP1
theorem g_gets (C : Cx E B l0 cc own ret mL fr lo) {nm : String} {i index : Nat} (hZ : ∀ (A : Nat → Prop) (U : State) (H : Heap), SF B A U H → va_Z "PrintShore" nm "[I" (.ref (ta B i)) A U H) (hw : Cond.fieldLink own index "PrintShore" nm "[I" ∈ gw) (hd : decode cc pc = .ok (.getstatic index, 3)) (k : V E B σ (pc + 3) lv (.ref (ta B i) :: st)) : V E B σ pc lv st := by
  obtain ⟨p, l, e, R, s, m, args, below, meth, c, A, Q, cells, slots, nL⟩ := E
  obtain ⟨hl0, hx, hb, hml, hnl, hr, hlk, hown, hts, hK, hD, hfr, hlo, hcc, hcs, hF⟩ := C
  subst hnl
  intro H locs ls hP hS hl
  exact va_gets hx hb (hZ _ _ _ hF) hS hown (hts _ hw) (fun _ h9 => h9) hd (k H locs ls hP hS hl)
theorem g_getsN (C : Cx E B l0 cc own ret mL fr lo) {nm host : String} {i index : Nat} (hZ : ∀ (A : Nat → Prop) (U : State) (H : Heap), SF B A U H → va_Z "PrintShore" nm "[I" (.ref (ta B i)) A U H) (hw : Cond.fieldLinkNest own index "PrintShore" nm "[I" host ∈ nfL) (hd : decode cc pc = .ok (.getstatic index, 3)) (k : V E B σ (pc + 3) lv (.ref (ta B i) :: st)) : V E B σ pc lv st := by
  obtain ⟨p, l, e, R, s, m, args, below, meth, c, A, Q, cells, slots, nL⟩ := E
  obtain ⟨hl0, hx, hb, hml, hnl, hr, hlk, hown, hts, hK, hD, hfr, hlo, hcc, hcs, hF⟩ := C
  subst hnl
  intro H locs ls hP hS hl
  exact va_getsN hx hb (hZ _ _ _ hF) hS hown (va_Nw.use rfl (hF.2.2.2.2.2 _ hw)) (fun _ h9 => h9) hd (k H locs ls hP hS hl)
theorem g_tld (C : Cx E B l0 cc own ret mL fr lo) {i N : Nat} {j : Int32} (hT : ∀ (A : Nat → Prop) (U : State) (H : Heap), SF B A U H → va_T .int (ta B i) N (fun q => .int (tv i q)) A U H) (hin : inb j N) (hd : decode cc pc = .ok (.iaload, 1)) (k : V E B σ (pc + 1) lv (.int (tv i j.toNatClampNeg) :: st)) : V E B σ pc lv (.int j :: .ref (ta B i) :: st) := by
  obtain ⟨p, l, e, R, s, m, args, below, meth, c, A, Q, cells, slots, nL⟩ := E
  obtain ⟨hl0, hx, hb, hml, hnl, hr, hlk, hown, hts, hK, hD, hfr, hlo, hcc, hcs, hF⟩ := C
  subst hnl
  intro H locs ls hP hS hl
  exact va_ti hx hb (hT _ _ _ hF) hS (inb_vp hin) rfl hd (k H locs ls hP hS hl)
theorem sz0 (B : BB) (A : Nat → Prop) (U : State) (H : Heap) (h : SF B A U H) : va_Z "PrintShore" "ABOVE" "[I" (.ref (ta B 0)) A U H := h.1.1.1
theorem sz1 (B : BB) (A : Nat → Prop) (U : State) (H : Heap) (h : SF B A U H) : va_Z "PrintShore" "TRAIT_LEAST" "[I" (.ref (ta B 1)) A U H := h.1.2.1.1
theorem sz2 (B : BB) (A : Nat → Prop) (U : State) (H : Heap) (h : SF B A U H) : va_Z "PrintShore" "TRAIT_MOST" "[I" (.ref (ta B 2)) A U H := h.1.2.2.1
theorem sT0 (B : BB) (A : Nat → Prop) (U : State) (H : Heap) (h : SF B A U H) : va_T .int (ta B 0) 7 (fun q => .int (tv 0 q)) A U H := h.1.1.2
theorem sT1 (B : BB) (A : Nat → Prop) (U : State) (H : Heap) (h : SF B A U H) : va_T .int (ta B 1) 6 (fun q => .int (tv 1 q)) A U H := h.1.2.1.2
theorem sT2 (B : BB) (A : Nat → Prop) (U : State) (H : Heap) (h : SF B A U H) : va_T .int (ta B 2) 6 (fun q => .int (tv 2 q)) A U H := h.1.2.2.2
theorem s_getI (C : Cx E B l0 cc own ret mL fr lo) {i ci index : Nat} {fl : List (Nat ⊕ Nat)} {Cn : String} {T : u_T} {N : Nat} (hL : Ln b n L) {k : Nat} (hk : k < n) (ht : tb (b + k) = .inr (.inr (ci, fl))) (hc : vwCl[ci]? = some (Cn, T, N)) (hin : ∀ w ∈ u_ws Cn T N, w ∈ gw) (hi : i < N) (hq : fl[i]? = some (.inr i)) (hw : Cond.fieldLink own index (T i).1 (T i).2.1 (T i).2.2.1 ∈ gw) (hd : decode cc pc = .ok (.getfield index, 3)) (kk : V E B (L x) (pc + 3) lv (.int (x k i) :: st)) : V E B (L x) pc lv (.ref (ad B (b + k)) :: st) := by
  exact g_getI C (by have := hL.1; omega) ht hc hin hi hq hw hd (by rw [hL.2.1 _ _ hk]; exact kk)
theorem s_putI (C : Cx E B l0 cc own ret mL fr lo) {i ci index : Nat} {fl : List (Nat ⊕ Nat)} {Cn : String} {T : u_T} {N : Nat} {v : Int32} {K9 : St2 → Option ρ} (hL : Ln b n L) {k : Nat} (hk : k < n) (ht : tb (b + k) = .inr (.inr (ci, fl))) (hc : vwCl[ci]? = some (Cn, T, N)) (hin : ∀ w ∈ u_ws Cn T N, w ∈ gw) (ty0 : Nat → FieldType) (hty : ∀ k, k < N → parseFieldDescriptor (T k).2.2.1 = some (ty0 k)) (hnm : ∀ a, a < N → ∀ b, b < N → a ≠ b → (T a).2.1 ≠ (T b).2.1) (hi : i < N) (hq : fl[i]? = some (.inr i)) (hw : Cond.fieldLink own index (T i).1 (T i).2.1 (T i).2.2.1 ∈ gw) (hfin : (T i).2.2.2 = false) (hpd : parseFieldDescriptor (T i).2.2.1 = some .int) (hd : decode cc pc = .ok (.putfield index, 3)) (hf : (pf x k i v).bind K9 = some res) (kk : ∀ x1 : St2, K9 x1 = some res → V E B (L x1) (pc + 3) lv st) : V E B (L x) pc lv (.int v :: .ref (ad B (b + k)) :: st) := by
  have h1 : (some (va_up x k (upd (x k) i v))).bind K9 = some res := hf
  have h2 := kk _ h1
  rw [hL.2.2 _ _ _ hk] at h2
  exact g_putI C (by have := hL.1; omega) ht hc hin ty0 hty hnm hi hq hw hfin hpd rfl rfl hd (by rw [hL.2.1 _ _ hk]; exact h2)
def pfz (x : St2) (k i : Nat) (v : Int32) : Option St2 := if v = 0 ∨ v = 1 then some (va_up x k (upd (x k) i v)) else none
theorem pfz_s {x x1 : St2} {k i : Nat} {v : Int32} (h : pfz x k i v = some x1) : (v = 0 ∨ v = 1) ∧ x1 = va_up x k (upd (x k) i v) := by
  unfold pfz at h
  by_cases q : v = 0 ∨ v = 1
  · rw [if_pos q] at h
    exact ⟨q, (Option.some.inj h).symm⟩
  · rw [if_neg q] at h
    cases h
theorem s_putZ (C : Cx E B l0 cc own ret mL fr lo) {i ci index : Nat} {fl : List (Nat ⊕ Nat)} {Cn : String} {T : u_T} {N : Nat} {v : Int32} {K9 : St2 → Option ρ} (hL : Ln b n L) {k : Nat} (hk : k < n) (ht : tb (b + k) = .inr (.inr (ci, fl))) (hc : vwCl[ci]? = some (Cn, T, N)) (hin : ∀ w ∈ u_ws Cn T N, w ∈ gw) (ty0 : Nat → FieldType) (hty : ∀ k, k < N → parseFieldDescriptor (T k).2.2.1 = some (ty0 k)) (hnm : ∀ a, a < N → ∀ b, b < N → a ≠ b → (T a).2.1 ≠ (T b).2.1) (hi : i < N) (hq : fl[i]? = some (.inr i)) (hw : Cond.fieldLink own index (T i).1 (T i).2.1 (T i).2.2.1 ∈ gw) (hfin : (T i).2.2.2 = false) (hpd : parseFieldDescriptor (T i).2.2.1 = some .boolean) (hd : decode cc pc = .ok (.putfield index, 3)) (hf : (pfz x k i v).bind K9 = some res) (kk : ∀ x1 : St2, K9 x1 = some res → V E B (L x1) (pc + 3) lv st) : V E B (L x) pc lv (.int v :: .ref (ad B (b + k)) :: st) := by
  obtain ⟨x1, h0, h1⟩ := bnd hf
  obtain ⟨hz, rfl⟩ := pfz_s h0
  have h2 := kk _ h1
  rw [hL.2.2 _ _ _ hk] at h2
  exact g_putI C (by have := hL.1; omega) ht hc hin ty0 hty hnm hi hq hw hfin hpd (bz_n hz) (bz_f hz) hd (by rw [hL.2.1 _ _ hk]; exact h2)
theorem s_ald (C : Cx E B l0 cc own ret mL fr lo) {N : Nat} {i : Int32} {K9 : Int32 → Option ρ} (hL : Ln b n L) {k : Nat} (hk : k < n) (ht : tb (b + k) = .inl N) (hd : decode cc pc = .ok (.iaload, 1)) (hf : (rd (x k) N i).bind K9 = some res) (kk : ∀ v : Int32, K9 v = some res → V E B (L x) (pc + 1) lv (.int v :: st)) : V E B (L x) pc lv (.int i :: .ref (ad B (b + k)) :: st) := by
  obtain ⟨v, h0, h1⟩ := bnd hf
  obtain ⟨hin, rfl⟩ := rd_s h0
  exact g_ald C (by have := hL.1; omega) ht hin hd (by rw [hL.2.1 _ _ hk]; exact kk _ h1)
theorem s_ast (C : Cx E B l0 cc own ret mL fr lo) {N : Nat} {i v : Int32} {K9 : St2 → Option ρ} (hL : Ln b n L) {k : Nat} (hk : k < n) (ht : tb (b + k) = .inl N) (hd : decode cc pc = .ok (.iastore, 1)) (hf : (wr x k N i v).bind K9 = some res) (kk : ∀ x1 : St2, K9 x1 = some res → V E B (L x1) (pc + 1) lv st) : V E B (L x) pc lv (.int v :: .int i :: .ref (ad B (b + k)) :: st) := by
  obtain ⟨x1, h0, h1⟩ := bnd hf
  obtain ⟨hin, rfl⟩ := wr_s h0
  have h2 := kk _ h1
  rw [hL.2.2 _ _ _ hk] at h2
  exact g_ast C (by have := hL.1; omega) ht hin hd (by rw [hL.2.1 _ _ hk]; exact h2)
theorem c_getI (C : Cx E B l0 cc own ret mL fr lo) {i ci index : Nat} {fl : List (Nat ⊕ Nat)} {Cn : String} {T : u_T} {N : Nat} (hL : LnC L) {k : Nat} (hk : k < 51) (ht : tb k = .inr (.inr (ci, fl))) (hc : vwCl[ci]? = some (Cn, T, N)) (hin : ∀ w ∈ u_ws Cn T N, w ∈ gw) (hi : i < N) (hq : fl[i]? = some (.inr i)) (hw : Cond.fieldLink own index (T i).1 (T i).2.1 (T i).2.2.1 ∈ gw) (hd : decode cc pc = .ok (.getfield index, 3)) (kk : V E B (L x) (pc + 3) lv (.int (x k i) :: st)) : V E B (L x) pc lv (.ref (ad B k) :: st) := by
  exact g_getI C (by omega) ht hc hin hi hq hw hd (by rw [hL.1 _ _ hk]; exact kk)
theorem c_putI (C : Cx E B l0 cc own ret mL fr lo) {i ci index : Nat} {fl : List (Nat ⊕ Nat)} {Cn : String} {T : u_T} {N : Nat} {v : Int32} {K9 : St2 → Option ρ} (hL : LnC L) {k : Nat} (hk : k < 51) (ht : tb k = .inr (.inr (ci, fl))) (hc : vwCl[ci]? = some (Cn, T, N)) (hin : ∀ w ∈ u_ws Cn T N, w ∈ gw) (ty0 : Nat → FieldType) (hty : ∀ k, k < N → parseFieldDescriptor (T k).2.2.1 = some (ty0 k)) (hnm : ∀ a, a < N → ∀ b, b < N → a ≠ b → (T a).2.1 ≠ (T b).2.1) (hi : i < N) (hq : fl[i]? = some (.inr i)) (hw : Cond.fieldLink own index (T i).1 (T i).2.1 (T i).2.2.1 ∈ gw) (hfin : (T i).2.2.2 = false) (hpd : parseFieldDescriptor (T i).2.2.1 = some .int) (hd : decode cc pc = .ok (.putfield index, 3)) (hf : (pf x k i v).bind K9 = some res) (kk : ∀ x1 : St2, K9 x1 = some res → V E B (L x1) (pc + 3) lv st) : V E B (L x) pc lv (.int v :: .ref (ad B k) :: st) := by
  have h1 : (some (va_up x k (upd (x k) i v))).bind K9 = some res := hf
  have h2 := kk _ h1
  rw [hL.2 _ _ _ hk] at h2
  exact g_putI C (by omega) ht hc hin ty0 hty hnm hi hq hw hfin hpd rfl rfl hd (by rw [hL.1 _ _ hk]; exact h2)
theorem c_putZ (C : Cx E B l0 cc own ret mL fr lo) {i ci index : Nat} {fl : List (Nat ⊕ Nat)} {Cn : String} {T : u_T} {N : Nat} {v : Int32} {K9 : St2 → Option ρ} (hL : LnC L) {k : Nat} (hk : k < 51) (ht : tb k = .inr (.inr (ci, fl))) (hc : vwCl[ci]? = some (Cn, T, N)) (hin : ∀ w ∈ u_ws Cn T N, w ∈ gw) (ty0 : Nat → FieldType) (hty : ∀ k, k < N → parseFieldDescriptor (T k).2.2.1 = some (ty0 k)) (hnm : ∀ a, a < N → ∀ b, b < N → a ≠ b → (T a).2.1 ≠ (T b).2.1) (hi : i < N) (hq : fl[i]? = some (.inr i)) (hw : Cond.fieldLink own index (T i).1 (T i).2.1 (T i).2.2.1 ∈ gw) (hfin : (T i).2.2.2 = false) (hpd : parseFieldDescriptor (T i).2.2.1 = some .boolean) (hd : decode cc pc = .ok (.putfield index, 3)) (hf : (pfz x k i v).bind K9 = some res) (kk : ∀ x1 : St2, K9 x1 = some res → V E B (L x1) (pc + 3) lv st) : V E B (L x) pc lv (.int v :: .ref (ad B k) :: st) := by
  obtain ⟨x1, h0, h1⟩ := bnd hf
  obtain ⟨hz, rfl⟩ := pfz_s h0
  have h2 := kk _ h1
  rw [hL.2 _ _ _ hk] at h2
  exact g_putI C (by omega) ht hc hin ty0 hty hnm hi hq hw hfin hpd (bz_n hz) (bz_f hz) hd (by rw [hL.1 _ _ hk]; exact h2)
theorem c_ald (C : Cx E B l0 cc own ret mL fr lo) {N : Nat} {i : Int32} {K9 : Int32 → Option ρ} (hL : LnC L) {k : Nat} (hk : k < 51) (ht : tb k = .inl N) (hd : decode cc pc = .ok (.iaload, 1)) (hf : (rd (x k) N i).bind K9 = some res) (kk : ∀ v : Int32, K9 v = some res → V E B (L x) (pc + 1) lv (.int v :: st)) : V E B (L x) pc lv (.int i :: .ref (ad B k) :: st) := by
  obtain ⟨v, h0, h1⟩ := bnd hf
  obtain ⟨hin, rfl⟩ := rd_s h0
  exact g_ald C (by omega) ht hin hd (by rw [hL.1 _ _ hk]; exact kk _ h1)
theorem c_ast (C : Cx E B l0 cc own ret mL fr lo) {N : Nat} {i v : Int32} {K9 : St2 → Option ρ} (hL : LnC L) {k : Nat} (hk : k < 51) (ht : tb k = .inl N) (hd : decode cc pc = .ok (.iastore, 1)) (hf : (wr x k N i v).bind K9 = some res) (kk : ∀ x1 : St2, K9 x1 = some res → V E B (L x1) (pc + 1) lv st) : V E B (L x) pc lv (.int v :: .int i :: .ref (ad B k) :: st) := by
  obtain ⟨x1, h0, h1⟩ := bnd hf
  obtain ⟨hin, rfl⟩ := wr_s h0
  have h2 := kk _ h1
  rw [hL.2 _ _ _ hk] at h2
  exact g_ast C (by omega) ht hin hd (by rw [hL.1 _ _ hk]; exact h2)
theorem c_copy (C : Cx E B l0 cc own ret mL fr lo) {j k N0 N1 index : Nat} {sp dp n9 : Int32} {K9 : St2 → Option ρ} (hL : LnC L) (hj : j < 51) (hk : k < 51) (ht0 : tb j = .inl N0) (ht1 : tb k = .inl N1) (hw1 : Cond.methodLink own index arraycopyName ∈ gw) (hw2 : Cond.native arraycopyName ∈ gw) (hw3 : Cond.static arraycopyName ∈ gw) (hw4 : Cond.initialized "java/lang/System" ∈ gw) (hfr1 : 1 ≤ fr) (hlo1 : (st.map fun v => v.category).sum + (nativeFrameWords "java/lang/System" "arraycopy" 5 + 11) ≤ lo) (hd : decode cc pc = .ok (.invokestatic index, 3)) (hf : (cp x j N0 k N1 sp dp n9).bind K9 = some res) (kk : ∀ x1 : St2, K9 x1 = some res → V E B (L x1) (pc + 3) lv st) : V E B (L x) pc lv (.int n9 :: .int dp :: .ref (ad B k) :: .int sp :: .ref (ad B j) :: st) := by
  obtain ⟨x1, h0, h1⟩ := bnd hf
  unfold cp at h0
  by_cases q : (¬ sp < 0 ∧ ¬ dp < 0 ∧ ¬ n9 < 0) ∧ sp.toNatClampNeg + n9.toNatClampNeg ≤ N0 ∧ dp.toNatClampNeg + n9.toNatClampNeg ≤ N1
  · rw [if_pos q] at h0
    cases h0
    have h2 := kk _ h1
    rw [hL.2 _ _ _ hk] at h2
    exact g_copy C (by omega) ht0 (by omega) ht1 hw1 hw2 hw3 hw4 q.1.1 q.1.2.1 q.1.2.2 q.2.1 q.2.2 hfr1 hlo1 hd (by rw [hL.1 _ _ hj, hL.1 _ _ hk]; exact h2)
  · rw [if_neg q] at h0
    cases h0
theorem g_rowD (C : Cx E B l0 cc own ret mL fr lo) {K N j : Nat} {i : Int32} {K9 : Nat → Option ρ} (hK9 : K < 61) (ht : tb K = .inr (.inl (N, j))) (hd : decode cc pc = .ok (.aaload, 1)) (hf : (ck i N).bind K9 = some res) (kk : ∀ r : Nat, r < N → K9 r = some res → V E B σ (pc + 1) lv (.ref (ad B (j + r)) :: st)) : V E B σ pc lv (.int i :: .ref (ad B K) :: st) := by
  obtain ⟨r, h0, h1⟩ := bnd hf
  obtain ⟨hin, rfl⟩ := ck_s h0
  exact g_aald C hK9 ht hin hd (kk _ hin.2 h1)
theorem g_rowS (C : Cx E B l0 cc own ret mL fr lo) {K N j : Nat} {i : Int32} (r : Nat) (hK9 : K < 61) (ht : tb K = .inr (.inl (N, j))) (hr : i = nI r) (hlt : r < N) (hN : N < 100) (hd : decode cc pc = .ok (.aaload, 1)) (kk : V E B σ (pc + 1) lv (.ref (ad B (j + r)) :: st)) : V E B σ pc lv (.int i :: .ref (ad B K) :: st) := by
  have hcl : (nI r).toNatClampNeg = r := nI_clamp (by omega)
  subst hr
  exact g_aald C hK9 ht ⟨nI_pos (by omega), by rw [hcl]; exact hlt⟩ hd (by rw [hcl]; exact kk)
theorem sh_prD (C : Cx E B l0 cc own ret mL fr lo) {i : Int32} {K9 : Nat → Option ρ} (hb : Sb b) (hd : decode cc pc = .ok (.aaload, 1)) (hf : (ck i 3).bind K9 = some res) (kk : ∀ r : Nat, r < 3 → K9 r = some res → V E B σ (pc + 1) lv (.ref (ad B (b + (2 + r))) :: st)) : V E B σ pc lv (.int i :: .ref (ad B (b + 1)) :: st) := by
  exact g_rowD C (by have := hb.le; omega) (tb_po hb) hd hf (fun r hr h => by rw [Nat.add_assoc]; exact kk r hr h)
theorem sh_prS (C : Cx E B l0 cc own ret mL fr lo) {i : Int32} (r : Nat) (hb : Sb b) (hr : i = nI r) (hlt : r < 3) (hd : decode cc pc = .ok (.aaload, 1)) (kk : V E B σ (pc + 1) lv (.ref (ad B (b + (2 + r))) :: st)) : V E B σ pc lv (.int i :: .ref (ad B (b + 1)) :: st) := by
  exact g_rowS C r (by have := hb.le; omega) (tb_po hb) hr hlt (by decide) hd (by rw [Nat.add_assoc]; exact kk)
theorem sh_trD (C : Cx E B l0 cc own ret mL fr lo) {i : Int32} {K9 : Nat → Option ρ} (hb : Sb b) (hd : decode cc pc = .ok (.aaload, 1)) (hf : (ck i 6).bind K9 = some res) (kk : ∀ r : Nat, r < 6 → K9 r = some res → V E B σ (pc + 1) lv (.ref (ad B (b + (6 + r))) :: st)) : V E B σ pc lv (.int i :: .ref (ad B (b + 5)) :: st) := by
  exact g_rowD C (by have := hb.le; omega) (tb_to hb) hd hf (fun r hr h => by rw [Nat.add_assoc]; exact kk r hr h)
theorem sh_trS (C : Cx E B l0 cc own ret mL fr lo) {i : Int32} (r : Nat) (hb : Sb b) (hr : i = nI r) (hlt : r < 6) (hd : decode cc pc = .ok (.aaload, 1)) (kk : V E B σ (pc + 1) lv (.ref (ad B (b + (6 + r))) :: st)) : V E B σ pc lv (.int i :: .ref (ad B (b + 5)) :: st) := by
  exact g_rowS C r (by have := hb.le; omega) (tb_to hb) hr hlt (by decide) hd (by rw [Nat.add_assoc]; exact kk)
end VROWS3
end
section
/-! ===== ends and calls ===== -/
theorem good_gw {y : MethodName} {cc : ByteArray} {mL : Nat} {ret : Option FieldType} (h : Cond.code y cc mL ret ∈ gw) : GoodIn gw (Cond.code y cc mL ret :: gw) := fun w hw => by
  have h1 : w ∈ gw := (List.mem_cons.mp hw).elim (fun e => e ▸ h) id
  exact ⟨h1, good_of_word (gw_good w h1)⟩
theorem good_one {w : Cond} (h : w ∈ gw) : w ∈ gw ∧ ((w.onTables && w.keeps) = true ∨ ∃ ty, w = .arrayClass ty) := ⟨h, good_of_word (gw_good w h)⟩
/-- the words of a method that is called on an object of its own -/
def CWV (y : MethodName) (cc : ByteArray) (mL : Nat) (ret : Option FieldType) (Cn : String) (nA : Nat) : Prop := Cond.instanceMethod y ∈ gw ∧ Cond.selects Cn y y ∈ gw ∧ Cond.initialized Cn ∈ gw ∧ Cond.code y cc mL ret ∈ gw ∧ (y.cls = Cn ∧ y.cls ≠ "java/lang/invoke/MethodHandle" ∧ y.cls ≠ "java/lang/invoke/VarHandle" ∧ (parseMethodDescriptor y.desc).map (fun d => d.parameters.length) = some nA)
/-- the words of a static method -/
def CWS (y : MethodName) (cc : ByteArray) (mL : Nat) (ret : Option FieldType) (nA : Nat) : Prop := Cond.static y ∈ gw ∧ Cond.initialized y.cls ∈ gw ∧ Cond.code y cc mL ret ∈ gw ∧ (y.cls ≠ "java/lang/invoke/MethodHandle" ∧ y.cls ≠ "java/lang/invoke/VarHandle" ∧ (parseMethodDescriptor y.desc).map (fun d => d.parameters.length) = some nA)
section VROWS5
variable {E : EE} {B : BB} {l0 : Launch} {cc : ByteArray} {own : String} {ret : Option FieldType} {mL fr lo : Nat} {σ : St2} {pc : Nat} {lv : List (Nat × Value)} {st : List Value} {ρ : Type} {res : ρ} {L : St2 → St2} {x : St2} {b n : Nat}
theorem bf_blind (av : List Value) (σ : St2) : FrameBlind (va_Pc av (Bf B σ)) := by
  intro a U g mk h
  obtain ⟨e, hP, hK, hD, hF⟩ := h
  exact ⟨e, hP, va_K.moved (u := U) (U := U.calling g mk a) (Vm.Alike.refl U.vm) hK, hD, hF.same (U := U.calling g mk a) rfl⟩
theorem v_iret {v : Int32} (C : Cx E B l0 cc own (some .int) mL fr lo) (hd : decode cc pc = .ok (.ireturn, 1)) (hQ : Fin9 E B (some (.int v)) σ) : V E B σ pc lv [.int v] := by
  obtain ⟨p, l, e, R, s, m, args, below, meth, c, A, Q, cells, slots, nL⟩ := E
  obtain ⟨hl0, hx, hb, hml, hnl, hr, hlk, hown, hts, hK, hD, hfr, hlo, hcc, hcs, hF⟩ := C
  subst hnl
  intro H locs ls hP hS hl
  have hQ9 : Q = _ := hQ
  subst hQ9
  exact W.iret hx hb hr (fun t ht hW => ⟨rfl, by rw [ht]; exact hP, hS.F ht⟩) hS.2.2 hd hlk
theorem v_lret {v : Int64} (C : Cx E B l0 cc own (some .long) mL fr lo) (hd : decode cc pc = .ok (.lreturn, 1)) (hQ : Fin9 E B (some (.long v)) σ) : V E B σ pc lv [.long v] := by
  obtain ⟨p, l, e, R, s, m, args, below, meth, c, A, Q, cells, slots, nL⟩ := E
  obtain ⟨hl0, hx, hb, hml, hnl, hr, hlk, hown, hts, hK, hD, hfr, hlo, hcc, hcs, hF⟩ := C
  subst hnl
  intro H locs ls hP hS hl
  have hQ9 : Q = _ := hQ
  subst hQ9
  exact W.lret hx hb hr (fun t ht hW => ⟨rfl, by rw [ht]; exact hP, hS.F ht⟩) hS.2.2 hd hlk
theorem v_zret {v : Int32} (C : Cx E B l0 cc own (some .boolean) mL fr lo) (hz : v = 0 ∨ v = 1) (hd : decode cc pc = .ok (.ireturn, 1)) (hQ : Fin9 E B (some (.int v)) σ) : V E B σ pc lv [.int v] := by
  obtain ⟨p, l, e, R, s, m, args, below, meth, c, A, Q, cells, slots, nL⟩ := E
  obtain ⟨hl0, hx, hb, hml, hnl, hr, hlk, hown, hts, hK, hD, hfr, hlo, hcc, hcs, hF⟩ := C
  subst hnl
  intro H locs ls hP hS hl
  have hQ9 : Q = _ := hQ
  subst hQ9
  exact W.zret hx hb hr (bz_n hz) (fun t ht hW => ⟨rfl, by rw [ht]; exact hP, hS.F ht⟩) hS.2.2 hd hlk
theorem v_nret {v : Int32} {ty : FieldType} (C : Cx E B l0 cc own (some ty) mL fr lo) (hz : narrow ty (.int v) = .int v) (hd : decode cc pc = .ok (.ireturn, 1)) (hQ : Fin9 E B (some (.int v)) σ) : V E B σ pc lv [.int v] := by
  obtain ⟨p, l, e, R, s, m, args, below, meth, c, A, Q, cells, slots, nL⟩ := E
  obtain ⟨hl0, hx, hb, hml, hnl, hr, hlk, hown, hts, hK, hD, hfr, hlo, hcc, hcs, hF⟩ := C
  subst hnl
  intro H locs ls hP hS hl
  have hQ9 : Q = _ := hQ
  subst hQ9
  exact W.zret hx hb hr hz (fun t ht hW => ⟨rfl, by rw [ht]; exact hP, hS.F ht⟩) hS.2.2 hd hlk
theorem v_vret (C : Cx E B l0 cc own none mL fr lo) (hd : decode cc pc = .ok (.return_, 1)) (hQ : Fin9 E B none σ) : V E B σ pc lv [] := by
  obtain ⟨p, l, e, R, s, m, args, below, meth, c, A, Q, cells, slots, nL⟩ := E
  obtain ⟨hl0, hx, hb, hml, hnl, hr, hlk, hown, hts, hK, hD, hfr, hlo, hcc, hcs, hF⟩ := C
  subst hnl
  intro H locs ls hP hS hl
  have hQ9 : Q = _ := hQ
  subst hQ9
  exact W.vret hx hb hr (fun t ht hW => ⟨rfl, by rw [ht]; exact hP, hS.F ht⟩) hS.2.2 hd hlk
theorem v_aret {q : Nat} {nm : String} (C : Cx E B l0 cc own (some (.object nm)) mL fr lo) (hd : decode cc pc = .ok (.areturn, 1)) (hQ : Fin9 E B (some (.ref q)) σ) : V E B σ pc lv [.ref q] := by
  obtain ⟨p, l, e, R, s, m, args, below, meth, c, A, Q, cells, slots, nL⟩ := E
  obtain ⟨hl0, hx, hb, hml, hnl, hr, hlk, hown, hts, hK, hD, hfr, hlo, hcc, hcs, hF⟩ := C
  subst hnl
  intro H locs ls hP hS hl
  have hQ9 : Q = _ := hQ
  subst hQ9
  exact W.aret hx hb hr (Or.inl ⟨nm, rfl⟩) (Or.inr ⟨q, rfl⟩) (fun t ht hW => ⟨rfl, by rw [ht]; exact hP, hS.F ht⟩) hS.2.2 hd hlk
theorem v_cont {p : Program} {l : Launch} {e : Env} {R : Room} {s : State} {m : MethodId} {args : Array Value} {below : List Frame} {meth : Method} {c : Code} {H : Heap} {locs : List Loc} {cells slots : Nat} {Q : State → Prop} {A0 A1 : Nat → Prop} {ls : Array Slot} {rest st0 : List Value} {a : Array Value} {r : Option Value} {σ' : St2} (hr : va_Run p l e R s m args below meth c H locs cells slots 0 0 (F0 m pc ls st0) rest (Qx B A1 r σ' a) A1) (hS : va_S A0 s.heap H locs) (hA : ∀ q, A1 q → A0 q)
    (kk : ∀ (H1 : Heap) (locs1 : List Loc), va_P B.1 vwCl (wW B σ') H1 → va_S A0 s.heap H1 locs1 → W p l e R s m args below meth c H1 locs1 cells slots Q (F0 m (pc + 3) ls (r.toList ++ rest))) : W p l e R s m args below meth c H locs cells slots Q (F0 m pc ls st0) := by
  intro T hT X
  obtain ⟨v, st₀, t, T', Lc, h0, X', hLc, e1, e2, ⟨hv, hp, hz, hk⟩, stp⟩ := hr T hT X
  have hv2 : v = r := by cases hv; rfl
  subst hv2
  rw [h0] at hz hk
  obtain ⟨t2, a1, b1⟩ := kk T'.heap (locs ++ Lc) (by rw [e1]; exact hp)
    ⟨Nat.le_trans hS.1 (by rw [e1]; exact hz), fun q h1 h2 => by rw [e1, hk q (Nat.lt_of_lt_of_le h1 hS.1) (fun z => h2 (hA q z))]; exact hS.2.1 q h1 h2, fun q hq => by
      rcases List.mem_append.mp hq with h | h
      · exact hS.2.2 q h
      · exact hA _ (hLc q h)⟩ T' rfl X'
  exact ⟨t2, stp t2 a1, b1⟩
theorem aw_in {A : Nat → Prop} (hD : ∀ σ : St2, va_D A (wW B σ)) : ∀ q, Aw B q → A q := fun q ⟨k, hk, e⟩ => by
  rw [e]
  exact (hD (fun _ _ => 0)).2 k _ (wW_at hk)
theorem aw_D {A : Nat → Prop} (hD : ∀ σ : St2, va_D A (wW B σ)) : ∀ σ : St2, va_D (Aw B) (wW B σ) := fun σ => ⟨(hD σ).1, fun k q hq => by
  have hk : k < 61 := by
    have := (List.getElem?_eq_some_iff.mp hq).1
    unfold wW at this
    simpa using this
  rw [wW_at hk] at hq
  cases hq
  exact ⟨k, hk, rfl⟩⟩
theorem v_callV (C : Cx E B l0 cc own ret mL fr lo) {y : MethodName} {cc2 : ByteArray} {mL2 fr2 lo2 index nA : Nat} {ret2 : Option FieldType} {As rest st0 : List Value} {r : Option Value} {σ' : St2} {K ci : Nat} {fl : List (Nat ⊕ Nat)} {T : u_T} {N : Nat} {Cn : String} (hR : Ret l0 B y cc2 mL2 ret2 fr2 lo2 (.ref (ad B K) :: As) σ r σ') (hcw : CWV y cc2 mL2 ret2 Cn nA) (hw : Cond.methodLink own index y ∈ gw) (hK9 : K < 61) (ht : tb K = .inr (.inr (ci, fl))) (hc : vwCl[ci]? = some (Cn, T, N)) (hrm : fr2 + 1 ≤ fr ∧ 8 + (mL2 + 11) + lo2 ≤ lo) (hlen : As.length = nA) (hst : st0 = As.reverse ++ .ref (ad B K) :: rest) (hcat : (rest.map fun v => v.category).sum ≤ 8) (hd : decode cc pc = .ok (.invokevirtual index, 3)) (k : V E B σ' (pc + 3) lv (r.toList ++ rest)) : V E B σ pc lv st0 := by
  obtain ⟨p, l, e, R, s, m, args, below, meth, c, A, Q, cells, slots, nL⟩ := E
  obtain ⟨hl0, hx, hb, hml, hnl, hr, hlk, hown, hts, hK, hD, hfr, hlo, hcc, hcs, hF⟩ := C
  subst hnl
  intro H locs ls hP hS hl
  have he := wW_at (B := B) (σ := σ) hK9
  rw [ht] at he
  obtain ⟨w1, w2, w3, w4, w5⟩ := hcw
  subst hl0
  have hG : GoodIn gw (wsV own index Cn y (Cond.code y cc2 mL2 ret2 :: gw)) := fun w h => by
    unfold wsV at h
    rcases List.mem_append.mp h with h | h
    · simp only [List.mem_cons, List.not_mem_nil, or_false] at h
      rcases h with rfl | rfl | rfl | rfl
      · exact good_one hw
      · exact good_one w1
      · exact good_one w2
      · exact good_one w3
    · exact good_gw w4 w h
  refine v_cont (va_runV (As := As) (rest := rest) ⟨hx, hb, hml, hown, hts⟩ hR (cwV nA hts hG rfl rfl rfl w5 ⟨Nat.le_trans hrm.1 hfr, Nat.le_trans hrm.2 hlo⟩) ⟨bf_blind _ _, va_recv hK hP hc he, fun U hU hW => ⟨rfl, by rw [hU]; exact hP, va_K.moved hW.alike hK, aw_D hD, hF.warm hS hW hU (aw_in hD)⟩⟩ rfl hlen hl.1 hst (lv_room hcat) hd ⟨by omega, by omega⟩) hS (aw_in hD) (fun H1 locs1 hP1 hS1 => k H1 locs1 ls hP1 hS1 hl)
theorem v_callS (C : Cx E B l0 cc own ret mL fr lo) {y : MethodName} {cc2 : ByteArray} {mL2 fr2 lo2 index nA : Nat} {ret2 : Option FieldType} {As rest st0 : List Value} {r : Option Value} {σ' : St2} (hR : Ret l0 B y cc2 mL2 ret2 fr2 lo2 As σ r σ') (hcw : CWS y cc2 mL2 ret2 nA) (hw : Cond.methodLink own index y ∈ gw) (hrm : fr2 + 1 ≤ fr ∧ 8 + (mL2 + 11) + lo2 ≤ lo) (hlen : As.length = nA) (hst : st0 = As.reverse ++ rest) (hcat : (rest.map fun v => v.category).sum ≤ 8) (hd : decode cc pc = .ok (.invokestatic index, 3)) (k : V E B σ' (pc + 3) lv (r.toList ++ rest)) : V E B σ pc lv st0 := by
  obtain ⟨p, l, e, R, s, m, args, below, meth, c, A, Q, cells, slots, nL⟩ := E
  obtain ⟨hl0, hx, hb, hml, hnl, hr, hlk, hown, hts, hK, hD, hfr, hlo, hcc, hcs, hF⟩ := C
  subst hnl
  intro H locs ls hP hS hl
  obtain ⟨w1, w2, w4, w5⟩ := hcw
  subst hl0
  have hG : GoodIn gw (va_wsS own index y (Cond.code y cc2 mL2 ret2 :: gw)) := fun w h => by
    unfold va_wsS at h
    rcases List.mem_append.mp h with h | h
    · simp only [List.mem_cons, List.not_mem_nil, or_false] at h
      rcases h with rfl | rfl | rfl
      · exact good_one hw
      · exact good_one w1
      · exact good_one w2
    · exact good_gw w4 w h
  refine v_cont (va_runS (As := As) (rest := rest) ⟨hx, hb, hml, hown, hts⟩ hR (va_cwS nA hts hG rfl rfl rfl w5 ⟨Nat.le_trans hrm.1 hfr, Nat.le_trans hrm.2 hlo⟩) ⟨bf_blind _ _, fun U hU hW => ⟨rfl, by rw [hU]; exact hP, va_K.moved hW.alike hK, aw_D hD, hF.warm hS hW hU (aw_in hD)⟩⟩ rfl hlen hl.1 hst (lv_room hcat) hd ⟨by omega, by omega⟩) hS (aw_in hD) (fun H1 locs1 hP1 hS1 => k H1 locs1 ls hP1 hS1 hl)
theorem v_callSN (C : Cx E B l0 cc own ret mL fr lo) {y : MethodName} {cc2 : ByteArray} {mL2 fr2 lo2 index nA : Nat} {ret2 : Option FieldType} {As rest st0 : List Value} {r : Option Value} {σ' : St2} {host : String} (hR : Ret l0 B y cc2 mL2 ret2 fr2 lo2 As σ r σ') (hcw : CWS y cc2 mL2 ret2 nA) (hw : Cond.methodLinkNest own index y host ∈ nwL) (hrm : fr2 + 1 ≤ fr ∧ 8 + (mL2 + 11) + lo2 ≤ lo) (hlen : As.length = nA) (hst : st0 = As.reverse ++ rest) (hcat : (rest.map fun v => v.category).sum ≤ 8) (hd : decode cc pc = .ok (.invokestatic index, 3)) (k : V E B σ' (pc + 3) lv (r.toList ++ rest)) : V E B σ pc lv st0 := by
  obtain ⟨p, l, e, R, s, m, args, below, meth, c, A, Q, cells, slots, nL⟩ := E
  obtain ⟨hl0, hx, hb, hml, hnl, hr, hlk, hown, hts, hK, hD, hfr, hlo, hcc, hcs, hF⟩ := C
  subst hnl
  intro H locs ls hP hS hl
  obtain ⟨w1, w2, w4, w5⟩ := hcw
  subst hl0
  refine v_cont (va_runSN (As := As) (rest := rest) (host := host) ⟨hx, hb, hml, hown, hts⟩ hR ⟨va_cnB nA hts (good_gw w4) rfl rfl rfl (hF.2.2.2.2.1 _ hw) (hts _ w2) w5 ⟨Nat.le_trans hrm.1 hfr, Nat.le_trans hrm.2 hlo⟩, hts _ w1, trivial⟩ ⟨bf_blind _ _, fun U hU hW => ⟨rfl, by rw [hU]; exact hP, va_K.moved hW.alike hK, aw_D hD, hF.warm hS hW hU (aw_in hD)⟩⟩ rfl hlen hl.1 hst (lv_room hcat) hd ⟨by omega, by omega⟩) hS (aw_in hD) (fun H1 locs1 hP1 hS1 => k H1 locs1 ls hP1 hS1 hl)
theorem v_callT (C : Cx E B l0 cc own ret mL fr lo) {y : MethodName} {cc2 : ByteArray} {mL2 fr2 lo2 index nA : Nat} {ret2 : Option FieldType} {As rest st0 : List Value} {r : Option Value} {σ' : St2} {i : Nat} (hi : i < 14) (hR : Ret l0 B y cc2 mL2 ret2 fr2 lo2 (.ref (sk B i) :: As) σ r σ') (hcw : CWV y cc2 mL2 ret2 "java/lang/String" nA) (hw : Cond.methodLink own index y ∈ gw) (hrm : fr2 + 1 ≤ fr ∧ 8 + (mL2 + 11) + lo2 ≤ lo) (hlen : As.length = nA) (hst : st0 = As.reverse ++ .ref (sk B i) :: rest) (hcat : (rest.map fun v => v.category).sum ≤ 8) (hd : decode cc pc = .ok (.invokevirtual index, 3)) (k : V E B σ' (pc + 3) lv (r.toList ++ rest)) : V E B σ pc lv st0 := by
  obtain ⟨p, l, e, R, s, m, args, below, meth, c, A, Q, cells, slots, nL⟩ := E
  obtain ⟨hl0, hx, hb, hml, hnl, hr, hlk, hown, hts, hK, hD, hfr, hlo, hcc, hcs, hF⟩ := C
  subst hnl
  intro H locs ls hP hS hl
  obtain ⟨w1, w2, w3, w4, w5⟩ := hcw
  subst hl0
  have hG : GoodIn gw (wsV own index "java/lang/String" y (Cond.code y cc2 mL2 ret2 :: gw)) := fun w h => by
    unfold wsV at h
    rcases List.mem_append.mp h with h | h
    · simp only [List.mem_cons, List.not_mem_nil, or_false] at h
      rcases h with rfl | rfl | rfl | rfl
      · exact good_one hw
      · exact good_one w1
      · exact good_one w2
      · exact good_one w3
    · exact good_gw w4 w h
  obtain ⟨cell, q1, q2, q3, -⟩ := ((hF.2.1 i hi).1).kept hS.2.1
  refine v_cont (va_runV (As := As) (rest := rest) ⟨hx, hb, hml, hown, hts⟩ hR (cwV nA hts hG rfl rfl rfl w5 ⟨Nat.le_trans hrm.1 hfr, Nat.le_trans hrm.2 hlo⟩) ⟨bf_blind _ _, ⟨cell, q1, q2, q3⟩, fun U hU hW => ⟨rfl, by rw [hU]; exact hP, va_K.moved hW.alike hK, aw_D hD, hF.warm hS hW hU (aw_in hD)⟩⟩ rfl hlen hl.1 hst (lv_room hcat) hd ⟨by omega, by omega⟩) hS (aw_in hD) (fun H1 locs1 hP1 hS1 => k H1 locs1 ls hP1 hS1 hl)
end VROWS5
end
section
theorem wq_t {w : Cond} (i : Nat) (h : tables_1[i]? = some w) (hg : goodWord w = true) : w ∈ gw := gw_in (List.mem_append_right _ (List.mem_of_getElem? h)) hg
theorem wq_p {w : Cond} (i : Nat) (h : (k2_sels lw_privs)[i]? = some w) (hg : goodWord w = true) : w ∈ gw := gw_in (List.mem_append_left _ (List.mem_of_getElem? h)) hg
theorem inX0 : ∀ w ∈ wsX00, w ∈ gw := fun w hw => by
  have h : wsX00 = [105, 107, 109].filterMap (fun i => tables_1[i]?) := by decide +kernel
  have hg : wsX00.all goodWord = true := by decide +kernel
  have h2 := List.all_eq_true.mp hg w hw
  rw [h] at hw
  obtain ⟨i, -, hi⟩ := List.mem_filterMap.mp hw
  exact wq_t i hi h2
theorem inX1 : ∀ w ∈ wsX10, w ∈ gw := fun w hw => by
  have h : wsX10 = [48, 50, 52, 54, 56, 58, 60, 62].filterMap (fun i => tables_1[i]?) := by decide +kernel
  have hg : wsX10.all goodWord = true := by decide +kernel
  have h2 := List.all_eq_true.mp hg w hw
  rw [h] at hw
  obtain ⟨i, -, hi⟩ := List.mem_filterMap.mp hw
  exact wq_t i hi h2
theorem inX2 : ∀ w ∈ wsX20, w ∈ gw := fun w hw => by
  have h : wsX20 = [79, 81, 83, 85, 87, 89].filterMap (fun i => tables_1[i]?) := by decide +kernel
  have hg : wsX20.all goodWord = true := by decide +kernel
  have h2 := List.all_eq_true.mp hg w hw
  rw [h] at hw
  obtain ⟨i, -, hi⟩ := List.mem_filterMap.mp hw
  exact wq_t i hi h2
theorem inX3 : ∀ w ∈ wsX30, w ∈ gw := fun w hw => by
  have h : wsX30 = [119, 121, 123, 125, 127, 129, 131].filterMap (fun i => tables_1[i]?) := by decide +kernel
  have hg : wsX30.all goodWord = true := by decide +kernel
  have h2 := List.all_eq_true.mp hg w hw
  rw [h] at hw
  obtain ⟨i, -, hi⟩ := List.mem_filterMap.mp hw
  exact wq_t i hi h2
theorem inX4 : ∀ w ∈ wsX40, w ∈ gw := fun w hw => by
  have h : wsX40 = [682, 684, 686, 688, 690, 692, 694, 696, 698, 700, 702, 704, 706, 708, 710].filterMap (fun i => tables_1[i]?) := by decide +kernel
  have hg : wsX40.all goodWord = true := by decide +kernel
  have h2 := List.all_eq_true.mp hg w hw
  rw [h] at hw
  obtain ⟨i, -, hi⟩ := List.mem_filterMap.mp hw
  exact wq_t i hi h2
def imax (x y : Int32) : Int32 := if x < y then y else x
def imin (x y : Int32) : Int32 := if y < x then y else x
def dv (x y : Int32) : Option Int32 := if y = 0 then none else some (x / y)
def dvL (x y : Int64) : Option Int64 := if y = 0 then none else some (x / y)
def rmL (x y : Int64) : Option Int64 := if y = 0 then none else some (x - x / y * y)
theorem ne_ti {x y : Int32} (h : ¬ x = y) : x.toInt ≠ y.toInt := fun e => h (Int32.toInt_inj.mp e)
section VROWS6
variable {E : EE} {B : BB} {l0 : Launch} {cc : ByteArray} {own : String} {ret : Option FieldType} {mL fr lo : Nat} {σ : St2} {pc : Nat} {lv : List (Nat × Value)} {st : List Value} {ρ : Type} {res : ρ} {L : St2 → St2} {x : St2} {b n : Nat}
theorem v_dup2 (C : Cx E B l0 cc own ret mL fr lo) {va vb : Value} (hd : decode cc pc = .ok (.dup2, 1)) (h1 : va.category = 1) (h2 : vb.category = 1) (k : V E B σ (pc + 1) lv (va :: vb :: va :: vb :: st)) : V E B σ pc lv (va :: vb :: st) := by
  obtain ⟨p, l, e, R, s, m, args, below, meth, c, A, Q, cells, slots, nL⟩ := E
  obtain ⟨hl0, hx, hb, hml, hnl, hr, hlk, hown, hts, hK, hD, hfr, hlo, hcc, hcs, hF⟩ := C
  subst hnl
  intro H locs ls hP hS hl
  exact lv_dup2_11 hx hb hd h1 h2 (k H locs ls hP hS hl)
theorem w_mmax (C : Cx E B l0 cc own ret mL fr lo) {index : Nat} {x y : Int32} (hw1 : Cond.methodLink own index Lib.Math.max.name ∈ gw) (hfr1 : 1 ≤ fr) (hlo1 : (st.map fun v => v.category).sum + 13 ≤ lo) (hd : decode cc pc = .ok (.invokestatic index, 3)) (k : V E B σ (pc + 3) lv (.int (imax x y) :: st)) : V E B σ pc lv (.int y :: .int x :: st) := by
  exact v_mmax C hw1 (wq_t 214 (by decide +kernel) (by decide +kernel)) (wq_t 6 (by decide +kernel) (by decide +kernel)) (wq_t 215 (by decide +kernel) (by decide +kernel)) hfr1 hlo1 hd k
theorem w_mmin (C : Cx E B l0 cc own ret mL fr lo) {index : Nat} {x y : Int32} (hw1 : Cond.methodLink own index Lib.Math.min.name ∈ gw) (hfr1 : 1 ≤ fr) (hlo1 : (st.map fun v => v.category).sum + 13 ≤ lo) (hd : decode cc pc = .ok (.invokestatic index, 3)) (k : V E B σ (pc + 3) lv (.int (imin x y) :: st)) : V E B σ pc lv (.int y :: .int x :: st) := by
  exact v_mmin C hw1 (wq_t 217 (by decide +kernel) (by decide +kernel)) (wq_t 6 (by decide +kernel) (by decide +kernel)) (wq_t 218 (by decide +kernel) (by decide +kernel)) hfr1 hlo1 hd k
theorem v_divD (C : Cx E B l0 cc own ret mL fr lo) {x y : Int32} {K9 : Int32 → Option ρ} (hd : decode cc pc = .ok (.idiv, 1)) (hf : (dv x y).bind K9 = some res) (kk : ∀ v : Int32, K9 v = some res → V E B σ (pc + 1) lv (.int v :: st)) : V E B σ pc lv (.int y :: .int x :: st) := by
  obtain ⟨v, h0, h1⟩ := bnd hf
  unfold dv at h0
  by_cases q : y = 0
  · rw [if_pos q] at h0
    cases h0
  · rw [if_neg q] at h0
    cases h0
    exact v_idiv C hd q (kk _ h1)
theorem v_divL (C : Cx E B l0 cc own ret mL fr lo) {x y : Int64} {K9 : Int64 → Option ρ} (hd : decode cc pc = .ok (.ldiv, 1)) (hf : (dvL x y).bind K9 = some res) (kk : ∀ v : Int64, K9 v = some res → V E B σ (pc + 1) lv (.long v :: st)) : V E B σ pc lv (.long y :: .long x :: st) := by
  obtain ⟨v, h0, h1⟩ := bnd hf
  unfold dvL at h0
  by_cases q : y = 0
  · rw [if_pos q] at h0
    cases h0
  · rw [if_neg q] at h0
    cases h0
    exact v_ldiv C hd q (kk _ h1)
theorem v_remL (C : Cx E B l0 cc own ret mL fr lo) {x y : Int64} {K9 : Int64 → Option ρ} (hd : decode cc pc = .ok (.lrem, 1)) (hf : (rmL x y).bind K9 = some res) (kk : ∀ v : Int64, K9 v = some res → V E B σ (pc + 1) lv (.long v :: st)) : V E B σ pc lv (.long y :: .long x :: st) := by
  obtain ⟨v, h0, h1⟩ := bnd hf
  unfold rmL at h0
  by_cases q : y = 0
  · rw [if_pos q] at h0
    cases h0
  · rw [if_neg q] at h0
    cases h0
    exact v_lrem C hd q (kk _ h1)
theorem t_ld0 (C : Cx E B l0 cc own ret mL fr lo) {j : Int32} {K9 : Int32 → Option ρ} (hd : decode cc pc = .ok (.iaload, 1)) (hf : (rd (tv 0) 7 j).bind K9 = some res) (kk : ∀ v : Int32, K9 v = some res → V E B σ (pc + 1) lv (.int v :: st)) : V E B σ pc lv (.int j :: .ref (ta B 0) :: st) := by
  obtain ⟨v, h0, h1⟩ := bnd hf
  obtain ⟨hin, rfl⟩ := rd_s h0
  exact g_tld C (sT0 B) hin hd (kk _ h1)
theorem t_ld1 (C : Cx E B l0 cc own ret mL fr lo) {j : Int32} {K9 : Int32 → Option ρ} (hd : decode cc pc = .ok (.iaload, 1)) (hf : (rd (tv 1) 6 j).bind K9 = some res) (kk : ∀ v : Int32, K9 v = some res → V E B σ (pc + 1) lv (.int v :: st)) : V E B σ pc lv (.int j :: .ref (ta B 1) :: st) := by
  obtain ⟨v, h0, h1⟩ := bnd hf
  obtain ⟨hin, rfl⟩ := rd_s h0
  exact g_tld C (sT1 B) hin hd (kk _ h1)
theorem t_ld2 (C : Cx E B l0 cc own ret mL fr lo) {j : Int32} {K9 : Int32 → Option ρ} (hd : decode cc pc = .ok (.iaload, 1)) (hf : (rd (tv 2) 6 j).bind K9 = some res) (kk : ∀ v : Int32, K9 v = some res → V E B σ (pc + 1) lv (.int v :: st)) : V E B σ pc lv (.int j :: .ref (ta B 2) :: st) := by
  obtain ⟨v, h0, h1⟩ := bnd hf
  obtain ⟨hin, rfl⟩ := rd_s h0
  exact g_tld C (sT2 B) hin hd (kk _ h1)
theorem sh_getR (C : Cx E B l0 cc own ret mL fr lo) {i j index : Nat} (hb : Sb b) (hi : i < 8) (hq : (flS b)[i]? = some (.inl j)) (hw : Cond.fieldLink own index (TX1 i).1 (TX1 i).2.1 (TX1 i).2.2.1 ∈ gw) (hd : decode cc pc = .ok (.getfield index, 3)) (k : V E B σ (pc + 3) lv (.ref (ad B j) :: st)) : V E B σ pc lv (.ref (ad B b) :: st) := by
  exact g_getR C (by have := hb.le; omega) (tb_o hb) rfl inX1 hi hq hw hd k
theorem sh_getI (C : Cx E B l0 cc own ret mL fr lo) {i index : Nat} (hb : Sb b) (hL : Ln b 13 L) (hi : i < 8) (hq : (flS b)[i]? = some (.inr i)) (hw : Cond.fieldLink own index (TX1 i).1 (TX1 i).2.1 (TX1 i).2.2.1 ∈ gw) (hd : decode cc pc = .ok (.getfield index, 3)) (k : V E B (L x) (pc + 3) lv (.int (x 0 i) :: st)) : V E B (L x) pc lv (.ref (ad B b) :: st) := by
  exact s_getI C hL (k := 0) (by decide) (tb_o hb) rfl inX1 hi hq hw hd k
theorem shC_getI (C : Cx E B l0 cc own ret mL fr lo) {i index : Nat} (hb : Sb b) (hL : LnC L) (hi : i < 8) (hq : (flS b)[i]? = some (.inr i)) (hw : Cond.fieldLink own index (TX1 i).1 (TX1 i).2.1 (TX1 i).2.2.1 ∈ gw) (hd : decode cc pc = .ok (.getfield index, 3)) (k : V E B (L x) (pc + 3) lv (.int (x b i) :: st)) : V E B (L x) pc lv (.ref (ad B b) :: st) := by
  exact c_getI C hL (k := b) (by have := hb.le; omega) (tb_o hb) rfl inX1 hi hq hw hd k
theorem sh_putI (C : Cx E B l0 cc own ret mL fr lo) {i index : Nat} {v : Int32} {K9 : St2 → Option ρ} (hb : Sb b) (hL : Ln b 13 L) (hi : i < 8) (hq : (flS b)[i]? = some (.inr i)) (hw : Cond.fieldLink own index (TX1 i).1 (TX1 i).2.1 (TX1 i).2.2.1 ∈ gw) (hfin : (TX1 i).2.2.2 = false) (hpd : parseFieldDescriptor (TX1 i).2.2.1 = some .int) (hd : decode cc pc = .ok (.putfield index, 3)) (hf : (pf x 0 i v).bind K9 = some res) (kk : ∀ x1 : St2, K9 x1 = some res → V E B (L x1) (pc + 3) lv st) : V E B (L x) pc lv (.int v :: .ref (ad B b) :: st) := by
  exact s_putI C hL (k := 0) (by decide) (tb_o hb) rfl inX1 tyX1 tyX1_ok nmX1 hi hq hw hfin hpd hd hf kk
theorem shC_putI (C : Cx E B l0 cc own ret mL fr lo) {i index : Nat} {v : Int32} {K9 : St2 → Option ρ} (hb : Sb b) (hL : LnC L) (hi : i < 8) (hq : (flS b)[i]? = some (.inr i)) (hw : Cond.fieldLink own index (TX1 i).1 (TX1 i).2.1 (TX1 i).2.2.1 ∈ gw) (hfin : (TX1 i).2.2.2 = false) (hpd : parseFieldDescriptor (TX1 i).2.2.1 = some .int) (hd : decode cc pc = .ok (.putfield index, 3)) (hf : (pf x b i v).bind K9 = some res) (kk : ∀ x1 : St2, K9 x1 = some res → V E B (L x1) (pc + 3) lv st) : V E B (L x) pc lv (.int v :: .ref (ad B b) :: st) := by
  exact c_putI C hL (k := b) (by have := hb.le; omega) (tb_o hb) rfl inX1 tyX1 tyX1_ok nmX1 hi hq hw hfin hpd hd hf kk
end VROWS6
end
section
theorem wd_29 : Cond.fieldLink RX1 11 (TX1 0).1 (TX1 0).2.1 (TX1 0).2.2.1 ∈ gw := wq_t 29 (by decide +kernel) (by decide +kernel)
theorem wd_30 : Cond.fieldLink RX3 53 (TX1 0).1 (TX1 0).2.1 (TX1 0).2.2.1 ∈ gw := wq_t 30 (by decide +kernel) (by decide +kernel)
theorem wd_31 : Cond.fieldLink RX1 16 (TX1 1).1 (TX1 1).2.1 (TX1 1).2.2.1 ∈ gw := wq_t 31 (by decide +kernel) (by decide +kernel)
theorem wd_32 : Cond.fieldLink RX3 67 (TX1 1).1 (TX1 1).2.1 (TX1 1).2.2.1 ∈ gw := wq_t 32 (by decide +kernel) (by decide +kernel)
theorem wd_33 : Cond.fieldLink RX2 75 (TX1 1).1 (TX1 1).2.1 (TX1 1).2.2.1 ∈ gw := wq_t 33 (by decide +kernel) (by decide +kernel)
theorem wd_34 : Cond.fieldLink RX1 19 (TX1 2).1 (TX1 2).2.1 (TX1 2).2.2.1 ∈ gw := wq_t 34 (by decide +kernel) (by decide +kernel)
theorem wd_35 : Cond.fieldLink RX3 207 (TX1 2).1 (TX1 2).2.1 (TX1 2).2.2.1 ∈ gw := wq_t 35 (by decide +kernel) (by decide +kernel)
theorem wd_36 : Cond.fieldLink RX1 36 (TX1 3).1 (TX1 3).2.1 (TX1 3).2.2.1 ∈ gw := wq_t 36 (by decide +kernel) (by decide +kernel)
theorem wd_37 : Cond.fieldLink RX2 98 (TX1 3).1 (TX1 3).2.1 (TX1 3).2.2.1 ∈ gw := wq_t 37 (by decide +kernel) (by decide +kernel)
theorem wd_38 : Cond.fieldLink RX3 163 (TX1 3).1 (TX1 3).2.1 (TX1 3).2.2.1 ∈ gw := wq_t 38 (by decide +kernel) (by decide +kernel)
theorem wd_39 : Cond.fieldLink RX1 23 (TX1 4).1 (TX1 4).2.1 (TX1 4).2.2.1 ∈ gw := wq_t 39 (by decide +kernel) (by decide +kernel)
theorem wd_40 : Cond.fieldLink RX3 74 (TX1 4).1 (TX1 4).2.1 (TX1 4).2.2.1 ∈ gw := wq_t 40 (by decide +kernel) (by decide +kernel)
theorem wd_41 : Cond.fieldLink RX2 96 (TX1 4).1 (TX1 4).2.1 (TX1 4).2.2.1 ∈ gw := wq_t 41 (by decide +kernel) (by decide +kernel)
theorem wd_42 : Cond.fieldLink RX1 39 (TX1 5).1 (TX1 5).2.1 (TX1 5).2.2.1 ∈ gw := wq_t 42 (by decide +kernel) (by decide +kernel)
theorem wd_43 : Cond.fieldLink RX3 124 (TX1 5).1 (TX1 5).2.1 (TX1 5).2.2.1 ∈ gw := wq_t 43 (by decide +kernel) (by decide +kernel)
theorem wd_44 : Cond.fieldLink RX1 42 (TX1 6).1 (TX1 6).2.1 (TX1 6).2.2.1 ∈ gw := wq_t 44 (by decide +kernel) (by decide +kernel)
theorem wd_45 : Cond.fieldLink RX3 112 (TX1 6).1 (TX1 6).2.1 (TX1 6).2.2.1 ∈ gw := wq_t 45 (by decide +kernel) (by decide +kernel)
theorem wd_46 : Cond.fieldLink RX1 27 (TX1 7).1 (TX1 7).2.1 (TX1 7).2.2.1 ∈ gw := wq_t 46 (by decide +kernel) (by decide +kernel)
theorem wd_47 : Cond.fieldLink RX3 192 (TX1 7).1 (TX1 7).2.1 (TX1 7).2.2.1 ∈ gw := wq_t 47 (by decide +kernel) (by decide +kernel)
theorem wd_72 : Cond.fieldLink RX2 11 (TX2 0).1 (TX2 0).2.1 (TX2 0).2.2.1 ∈ gw := wq_t 72 (by decide +kernel) (by decide +kernel)
theorem wd_73 : Cond.fieldLink RX2 15 (TX2 1).1 (TX2 1).2.1 (TX2 1).2.2.1 ∈ gw := wq_t 73 (by decide +kernel) (by decide +kernel)
theorem wd_74 : Cond.fieldLink RX3 200 (TX2 1).1 (TX2 1).2.1 (TX2 1).2.2.1 ∈ gw := wq_t 74 (by decide +kernel) (by decide +kernel)
theorem wd_75 : Cond.fieldLink RX2 32 (TX2 2).1 (TX2 2).2.1 (TX2 2).2.2.1 ∈ gw := wq_t 75 (by decide +kernel) (by decide +kernel)
theorem wd_76 : Cond.fieldLink RX2 29 (TX2 3).1 (TX2 3).2.1 (TX2 3).2.2.1 ∈ gw := wq_t 76 (by decide +kernel) (by decide +kernel)
theorem wd_77 : Cond.fieldLink RX2 19 (TX2 4).1 (TX2 4).2.1 (TX2 4).2.2.1 ∈ gw := wq_t 77 (by decide +kernel) (by decide +kernel)
theorem wd_78 : Cond.fieldLink RX2 93 (TX2 5).1 (TX2 5).2.1 (TX2 5).2.2.1 ∈ gw := wq_t 78 (by decide +kernel) (by decide +kernel)
theorem wd_99 : Cond.fieldLink RX0 13 (TX0 0).1 (TX0 0).2.1 (TX0 0).2.2.1 ∈ gw := wq_t 99 (by decide +kernel) (by decide +kernel)
theorem wd_100 : Cond.fieldLink RX3 244 (TX0 0).1 (TX0 0).2.1 (TX0 0).2.2.1 ∈ gw := wq_t 100 (by decide +kernel) (by decide +kernel)
theorem wd_101 : Cond.fieldLink RX0 16 (TX0 1).1 (TX0 1).2.1 (TX0 1).2.2.1 ∈ gw := wq_t 101 (by decide +kernel) (by decide +kernel)
theorem wd_102 : Cond.fieldLink RX3 238 (TX0 1).1 (TX0 1).2.1 (TX0 1).2.2.1 ∈ gw := wq_t 102 (by decide +kernel) (by decide +kernel)
theorem wd_103 : Cond.fieldLink RX0 20 (TX0 2).1 (TX0 2).2.1 (TX0 2).2.2.1 ∈ gw := wq_t 103 (by decide +kernel) (by decide +kernel)
theorem wd_104 : Cond.fieldLink RX3 229 (TX0 2).1 (TX0 2).2.1 (TX0 2).2.2.1 ∈ gw := wq_t 104 (by decide +kernel) (by decide +kernel)
theorem wd_112 : Cond.fieldLink RX3 12 (TX3 0).1 (TX3 0).2.1 (TX3 0).2.2.1 ∈ gw := wq_t 112 (by decide +kernel) (by decide +kernel)
theorem wd_113 : Cond.fieldLink RX3 16 (TX3 1).1 (TX3 1).2.1 (TX3 1).2.2.1 ∈ gw := wq_t 113 (by decide +kernel) (by decide +kernel)
theorem wd_114 : Cond.fieldLink RX3 19 (TX3 2).1 (TX3 2).2.1 (TX3 2).2.2.1 ∈ gw := wq_t 114 (by decide +kernel) (by decide +kernel)
theorem wd_115 : Cond.fieldLink RX3 258 (TX3 3).1 (TX3 3).2.1 (TX3 3).2.2.1 ∈ gw := wq_t 115 (by decide +kernel) (by decide +kernel)
theorem wd_116 : Cond.fieldLink RX3 25 (TX3 4).1 (TX3 4).2.1 (TX3 4).2.2.1 ∈ gw := wq_t 116 (by decide +kernel) (by decide +kernel)
theorem wd_117 : Cond.fieldLink RX3 32 (TX3 5).1 (TX3 5).2.1 (TX3 5).2.2.1 ∈ gw := wq_t 117 (by decide +kernel) (by decide +kernel)
theorem wd_118 : Cond.fieldLink RX3 36 (TX3 6).1 (TX3 6).2.1 (TX3 6).2.2.1 ∈ gw := wq_t 118 (by decide +kernel) (by decide +kernel)
theorem wd_231 : Cond.fieldLink RX3 106 "PrintShore" "TRAIT_LEAST" "[I" ∈ gw := wq_t 231 (by decide +kernel) (by decide +kernel)
theorem wd_233 : Cond.fieldLink RX3 109 "PrintShore" "TRAIT_MOST" "[I" ∈ gw := wq_t 233 (by decide +kernel) (by decide +kernel)
theorem wd_510 : Cond.fieldLink RJ0 38 "java/lang/String" "COMPACT_STRINGS" "Z" ∈ gw := wq_t 510 (by decide +kernel) (by decide +kernel)
theorem wd_526 : Cond.fieldLink RJ0 1053 "jdk/internal/util/Preconditions" "SIOOBE_FORMATTER" "Ljava/util/function/BiFunction;" ∈ gw := wq_t 526 (by decide +kernel) (by decide +kernel)
theorem wd_544 : Cond.fieldLink RJ2 44 "java/lang/StringUTF16" "$assertionsDisabled" "Z" ∈ gw := wq_t 544 (by decide +kernel) (by decide +kernel)
theorem wd_546 : Cond.fieldLink RJ2 59 "java/lang/StringUTF16" "HI_BYTE_SHIFT" "I" ∈ gw := wq_t 546 (by decide +kernel) (by decide +kernel)
theorem wd_548 : Cond.fieldLink RJ2 63 "java/lang/StringUTF16" "LO_BYTE_SHIFT" "I" ∈ gw := wq_t 548 (by decide +kernel) (by decide +kernel)
theorem wd_595 : Cond.fieldLink RX3 265 "PrintShore" "ABOVE" "[I" ∈ gw := wq_t 595 (by decide +kernel) (by decide +kernel)
theorem wd_667 : Cond.fieldLink RX4 9 (TX4 0).1 (TX4 0).2.1 (TX4 0).2.2.1 ∈ gw := wq_t 667 (by decide +kernel) (by decide +kernel)
theorem wd_668 : Cond.fieldLink RX4 13 (TX4 1).1 (TX4 1).2.1 (TX4 1).2.2.1 ∈ gw := wq_t 668 (by decide +kernel) (by decide +kernel)
theorem wd_669 : Cond.fieldLink RX4 16 (TX4 2).1 (TX4 2).2.1 (TX4 2).2.2.1 ∈ gw := wq_t 669 (by decide +kernel) (by decide +kernel)
theorem wd_670 : Cond.fieldLink RX4 308 (TX4 3).1 (TX4 3).2.1 (TX4 3).2.2.1 ∈ gw := wq_t 670 (by decide +kernel) (by decide +kernel)
theorem wd_671 : Cond.fieldLink RX4 19 (TX4 4).1 (TX4 4).2.1 (TX4 4).2.2.1 ∈ gw := wq_t 671 (by decide +kernel) (by decide +kernel)
theorem wd_672 : Cond.fieldLink RX4 125 (TX4 5).1 (TX4 5).2.1 (TX4 5).2.2.1 ∈ gw := wq_t 672 (by decide +kernel) (by decide +kernel)
theorem wd_673 : Cond.fieldLink RX4 22 (TX4 6).1 (TX4 6).2.1 (TX4 6).2.2.1 ∈ gw := wq_t 673 (by decide +kernel) (by decide +kernel)
theorem wd_674 : Cond.fieldLink RX4 217 (TX4 7).1 (TX4 7).2.1 (TX4 7).2.2.1 ∈ gw := wq_t 674 (by decide +kernel) (by decide +kernel)
theorem wd_675 : Cond.fieldLink RX4 223 (TX4 8).1 (TX4 8).2.1 (TX4 8).2.2.1 ∈ gw := wq_t 675 (by decide +kernel) (by decide +kernel)
theorem wd_676 : Cond.fieldLink RX4 220 (TX4 9).1 (TX4 9).2.1 (TX4 9).2.2.1 ∈ gw := wq_t 676 (by decide +kernel) (by decide +kernel)
theorem wd_677 : Cond.fieldLink RX4 229 (TX4 10).1 (TX4 10).2.1 (TX4 10).2.2.1 ∈ gw := wq_t 677 (by decide +kernel) (by decide +kernel)
theorem wd_678 : Cond.fieldLink RX4 25 (TX4 11).1 (TX4 11).2.1 (TX4 11).2.2.1 ∈ gw := wq_t 678 (by decide +kernel) (by decide +kernel)
theorem wd_679 : Cond.fieldLink RX4 28 (TX4 12).1 (TX4 12).2.1 (TX4 12).2.2.1 ∈ gw := wq_t 679 (by decide +kernel) (by decide +kernel)
theorem wd_680 : Cond.fieldLink RX4 31 (TX4 13).1 (TX4 13).2.1 (TX4 13).2.2.1 ∈ gw := wq_t 680 (by decide +kernel) (by decide +kernel)
theorem wd_681 : Cond.fieldLink RX4 34 (TX4 14).1 (TX4 14).2.1 (TX4 14).2.2.1 ∈ gw := wq_t 681 (by decide +kernel) (by decide +kernel)
theorem wd_1129 : Cond.fieldLink RJ0 9 "java/lang/String" "value" "[B" ∈ gw := wq_t 1129 (by decide +kernel) (by decide +kernel)
theorem wd_1130 : Cond.fieldLink RJ0 15 "java/lang/String" "coder" "B" ∈ gw := wq_t 1130 (by decide +kernel) (by decide +kernel)
theorem wd_15 : Cond.methodLink RL 9 yX3_init ∈ gw := wq_t 15 (by decide +kernel) (by decide +kernel)
theorem wd_23 : Cond.methodLink RX3 11 yX1_init ∈ gw := wq_t 23 (by decide +kernel) (by decide +kernel)
theorem wd_134 : Cond.methodLink RL 13 yX3_cell ∈ gw := wq_t 134 (by decide +kernel) (by decide +kernel)
theorem wd_138 : Cond.methodLink RX3 40 yX3_isCell ∈ gw := wq_t 138 (by decide +kernel) (by decide +kernel)
theorem wd_141 : Cond.methodLink RX3 44 yX3_within ∈ gw := wq_t 141 (by decide +kernel) (by decide +kernel)
theorem wd_145 : Cond.methodLink RX3 49 yX3_tell ∈ gw := wq_t 145 (by decide +kernel) (by decide +kernel)
theorem wd_149 : Cond.methodLink RX3 57 yX1_walkersAt ∈ gw := wq_t 149 (by decide +kernel) (by decide +kernel)
theorem wd_153 : Cond.methodLink RL 18 yX3_print ∈ gw := wq_t 153 (by decide +kernel) (by decide +kernel)
theorem wd_157 : Cond.methodLink RX3 60 yX1_isWalkerOrNobody ∈ gw := wq_t 157 (by decide +kernel) (by decide +kernel)
theorem wd_162 : Cond.methodLink RX3 63 yX1_clear ∈ gw := wq_t 162 (by decide +kernel) (by decide +kernel)
theorem wd_166 : Cond.methodLink RX1 49 yX1_put ∈ gw := wq_t 166 (by decide +kernel) (by decide +kernel)
theorem wd_170 : Cond.methodLink RX3 70 yX1_put ∈ gw := wq_t 170 (by decide +kernel) (by decide +kernel)
theorem wd_171 : Cond.methodLink RL 23 yX3_reach ∈ gw := wq_t 171 (by decide +kernel) (by decide +kernel)
theorem wd_175 : Cond.methodLink RL 28 yX3_tide ∈ gw := wq_t 175 (by decide +kernel) (by decide +kernel)
theorem wd_179 : Cond.methodLink RX3 78 yX1_comeTide ∈ gw := wq_t 179 (by decide +kernel) (by decide +kernel)
theorem wd_183 : Cond.methodLink RX1 84 yX1_clear ∈ gw := wq_t 183 (by decide +kernel) (by decide +kernel)
theorem wd_184 : Cond.methodLink RL 33 yX3_walker ∈ gw := wq_t 184 (by decide +kernel) (by decide +kernel)
theorem wd_188 : Cond.methodLink RX3 82 yX1_hasRoom ∈ gw := wq_t 188 (by decide +kernel) (by decide +kernel)
theorem wd_193 : Cond.methodLink RX3 87 yX1_add ∈ gw := wq_t 193 (by decide +kernel) (by decide +kernel)
theorem wd_197 : Cond.methodLink RL 37 yX3_of ∈ gw := wq_t 197 (by decide +kernel) (by decide +kernel)
theorem wd_201 : Cond.methodLink RX3 91 yX1_isWalker ∈ gw := wq_t 201 (by decide +kernel) (by decide +kernel)
theorem wd_205 : Cond.methodLink RX3 94 yX1_strides ∈ gw := wq_t 205 (by decide +kernel) (by decide +kernel)
theorem wd_209 : Cond.methodLink RX3 97 yX1_presses ∈ gw := wq_t 209 (by decide +kernel) (by decide +kernel)
theorem wd_213 : Cond.methodLink RX1 53 Lib.Math.max.name ∈ gw := wq_t 213 (by decide +kernel) (by decide +kernel)
theorem wd_216 : Cond.methodLink RX1 59 Lib.Math.min.name ∈ gw := wq_t 216 (by decide +kernel) (by decide +kernel)
theorem wd_219 : Cond.methodLink RX3 100 yX1_looks ∈ gw := wq_t 219 (by decide +kernel) (by decide +kernel)
theorem wd_223 : Cond.methodLink RX3 103 yX1_workSet ∈ gw := wq_t 223 (by decide +kernel) (by decide +kernel)
theorem wd_227 : Cond.methodLink RL 41 yX3_change ∈ gw := wq_t 227 (by decide +kernel) (by decide +kernel)
theorem wd_235 : Cond.methodLink RL 45 yX3_go ∈ gw := wq_t 235 (by decide +kernel) (by decide +kernel)
theorem wd_241 : Cond.methodLink RX3 117 yX1_passHours ∈ gw := wq_t 241 (by decide +kernel) (by decide +kernel)
theorem wd_245 : Cond.methodLink RX1 62 yX1_passHour ∈ gw := wq_t 245 (by decide +kernel) (by decide +kernel)
theorem wd_249 : Cond.methodLink RX1 66 yX1_goOn ∈ gw := wq_t 249 (by decide +kernel) (by decide +kernel)
theorem wd_253 : Cond.methodLink RX1 74 yX1_strides ∈ gw := wq_t 253 (by decide +kernel) (by decide +kernel)
theorem wd_255 : Cond.methodLink RX1 78 yX1_presses ∈ gw := wq_t 255 (by decide +kernel) (by decide +kernel)
theorem wd_256 : Cond.methodLink RX1 81 yX1_looks ∈ gw := wq_t 256 (by decide +kernel) (by decide +kernel)
theorem wd_257 : Cond.methodLink RX1 70 yX1_comeTide ∈ gw := wq_t 257 (by decide +kernel) (by decide +kernel)
theorem wd_258 : Cond.methodLink RX3 121 yX1_printCount ∈ gw := wq_t 258 (by decide +kernel) (by decide +kernel)
theorem wd_262 : Cond.methodLink RX1 107 yX1_printSet ∈ gw := wq_t 262 (by decide +kernel) (by decide +kernel)
theorem wd_266 : Cond.methodLink RX1 98 yX1_workSet ∈ gw := wq_t 266 (by decide +kernel) (by decide +kernel)
theorem wd_268 : Cond.methodLink RX1 101 yJ6_bitCount_0f7a4 ∈ gw := wq_t 268 (by decide +kernel) (by decide +kernel)
theorem wd_274 : Cond.methodLink RL 49 yX3_now ∈ gw := wq_t 274 (by decide +kernel) (by decide +kernel)
theorem wd_278 : Cond.methodLink RX3 127 yX1_printSet ∈ gw := wq_t 278 (by decide +kernel) (by decide +kernel)
theorem wd_279 : Cond.methodLink RX3 130 yX1_depthSum ∈ gw := wq_t 279 (by decide +kernel) (by decide +kernel)
theorem wd_283 : Cond.methodLink RX3 133 yX1_greatestAuthor ∈ gw := wq_t 283 (by decide +kernel) (by decide +kernel)
theorem wd_287 : Cond.methodLink RX1 110 yX1_workSize ∈ gw := wq_t 287 (by decide +kernel) (by decide +kernel)
theorem wd_291 : Cond.methodLink RX3 136 yX1_stepSum ∈ gw := wq_t 291 (by decide +kernel) (by decide +kernel)
theorem wd_295 : Cond.methodLink RL 53 yX3_line ∈ gw := wq_t 295 (by decide +kernel) (by decide +kernel)
theorem wd_299 : Cond.methodLink RX3 139 yX1_longestLine ∈ gw := wq_t 299 (by decide +kernel) (by decide +kernel)
theorem wd_303 : Cond.methodLink RL 57 yX3_ahead ∈ gw := wq_t 303 (by decide +kernel) (by decide +kernel)
theorem wd_307 : Cond.methodLink RX3 142 yX1_become ∈ gw := wq_t 307 (by decide +kernel) (by decide +kernel)
theorem wd_311 : Cond.methodLink RX1 30 arraycopyName ∈ gw := wq_t 311 (by decide +kernel) (by decide +kernel)
theorem wd_314 : Cond.methodLink RL 61 yX3_work ∈ gw := wq_t 314 (by decide +kernel) (by decide +kernel)
theorem wd_318 : Cond.methodLink RX3 146 yX1_workSize ∈ gw := wq_t 318 (by decide +kernel) (by decide +kernel)
theorem wd_319 : Cond.methodLink RL 65 yX3_when ∈ gw := wq_t 319 (by decide +kernel) (by decide +kernel)
theorem wd_323 : Cond.methodLink RX3 149 yX3_hoursUntilWhose ∈ gw := wq_t 323 (by decide +kernel) (by decide +kernel)
theorem wd_327 : Cond.methodLink RX3 152 yX1_passHour ∈ gw := wq_t 327 (by decide +kernel) (by decide +kernel)
theorem wd_329 : Cond.methodLink RL 69 yX3_gone ∈ gw := wq_t 329 (by decide +kernel) (by decide +kernel)
theorem wd_333 : Cond.methodLink RL 73 yX3_meet ∈ gw := wq_t 333 (by decide +kernel) (by decide +kernel)
theorem wd_337 : Cond.methodLink RL 77 yX3_strideFor ∈ gw := wq_t 337 (by decide +kernel) (by decide +kernel)
theorem wd_341 : Cond.methodLink RX3 156 yX3_traitForMostWork ∈ gw := wq_t 341 (by decide +kernel) (by decide +kernel)
theorem wd_345 : Cond.methodLink RX3 160 yX3_tryTrait ∈ gw := wq_t 345 (by decide +kernel) (by decide +kernel)
theorem wd_349 : Cond.methodLink RL 81 yX3_start ∈ gw := wq_t 349 (by decide +kernel) (by decide +kernel)
theorem wd_353 : Cond.methodLink RL 85 yX3_kindFor ∈ gw := wq_t 353 (by decide +kernel) (by decide +kernel)
theorem wd_357 : Cond.methodLink RL 89 yX3_reachFor ∈ gw := wq_t 357 (by decide +kernel) (by decide +kernel)
theorem wd_361 : Cond.methodLink RL 93 yX3_weightFor ∈ gw := wq_t 361 (by decide +kernel) (by decide +kernel)
theorem wd_365 : Cond.methodLink RL 97 yX3_away ∈ gw := wq_t 365 (by decide +kernel) (by decide +kernel)
theorem wd_369 : Cond.methodLink RX3 166 yJ6_bitCount_0f7a4 ∈ gw := wq_t 369 (by decide +kernel) (by decide +kernel)
theorem wd_370 : Cond.methodLink RX3 171 yX3_staysWithout ∈ gw := wq_t 370 (by decide +kernel) (by decide +kernel)
theorem wd_374 : Cond.methodLink RL 101 yX3_censor ∈ gw := wq_t 374 (by decide +kernel) (by decide +kernel)
theorem wd_379 : Cond.methodLink RL 105 yX3_fits ∈ gw := wq_t 379 (by decide +kernel) (by decide +kernel)
theorem wd_383 : Cond.methodLink RX3 175 yX3_guessFinding ∈ gw := wq_t 383 (by decide +kernel) (by decide +kernel)
theorem wd_387 : Cond.methodLink RX3 226 yX0_findingOf ∈ gw := wq_t 387 (by decide +kernel) (by decide +kernel)
theorem wd_391 : Cond.methodLink RX0 27 yX0_isSheet ∈ gw := wq_t 391 (by decide +kernel) (by decide +kernel)
theorem wd_396 : Cond.methodLink RX0 32 yX0_isMissing ∈ gw := wq_t 396 (by decide +kernel) (by decide +kernel)
theorem wd_401 : Cond.methodLink RX3 178 yX3_fittingSet ∈ gw := wq_t 401 (by decide +kernel) (by decide +kernel)
theorem wd_405 : Cond.methodLink RX3 268 yX3_trialIsAsTold ∈ gw := wq_t 405 (by decide +kernel) (by decide +kernel)
theorem wd_409 : Cond.methodLink RX3 253 Lib.Math.min.name ∈ gw := wq_t 409 (by decide +kernel) (by decide +kernel)
theorem wd_410 : Cond.methodLink RL 109 yX3_strode ∈ gw := wq_t 410 (by decide +kernel) (by decide +kernel)
theorem wd_414 : Cond.methodLink RX3 182 yJ6_numberOfTrailingZeros_0f7a4 ∈ gw := wq_t 414 (by decide +kernel) (by decide +kernel)
theorem wd_418 : Cond.methodLink RL 113 yX3_kinds ∈ gw := wq_t 418 (by decide +kernel) (by decide +kernel)
theorem wd_422 : Cond.methodLink RL 117 yX3_tides ∈ gw := wq_t 422 (by decide +kernel) (by decide +kernel)
theorem wd_426 : Cond.methodLink RX3 185 yX1_passDrawnHour ∈ gw := wq_t 426 (by decide +kernel) (by decide +kernel)
theorem wd_430 : Cond.methodLink RX1 87 yX1_draw ∈ gw := wq_t 430 (by decide +kernel) (by decide +kernel)
theorem wd_435 : Cond.methodLink RX1 90 yX1_isWalker ∈ gw := wq_t 435 (by decide +kernel) (by decide +kernel)
theorem wd_437 : Cond.methodLink RL 121 yX3_odds ∈ gw := wq_t 437 (by decide +kernel) (by decide +kernel)
theorem wd_441 : Cond.methodLink RX3 188 yX3_power ∈ gw := wq_t 441 (by decide +kernel) (by decide +kernel)
theorem wd_444 : Cond.methodLink RL 126 yX3_seed ∈ gw := wq_t 444 (by decide +kernel) (by decide +kernel)
theorem wd_448 : Cond.methodLink RL 130 yX3_feed ∈ gw := wq_t 448 (by decide +kernel) (by decide +kernel)
theorem wd_452 : Cond.methodLink RX3 195 yX2_hasRoom ∈ gw := wq_t 452 (by decide +kernel) (by decide +kernel)
theorem wd_456 : Cond.methodLink RX3 197 yX2_append ∈ gw := wq_t 456 (by decide +kernel) (by decide +kernel)
theorem wd_460 : Cond.methodLink RL 134 yX3_wipe ∈ gw := wq_t 460 (by decide +kernel) (by decide +kernel)
theorem wd_464 : Cond.methodLink RL 138 yX3_text ∈ gw := wq_t 464 (by decide +kernel) (by decide +kernel)
theorem wd_468 : Cond.methodLink RX3 203 yX2_readText ∈ gw := wq_t 468 (by decide +kernel) (by decide +kernel)
theorem wd_472 : Cond.methodLink RX2 22 yX2_step ∈ gw := wq_t 472 (by decide +kernel) (by decide +kernel)
theorem wd_476 : Cond.methodLink RX2 136 yX2_tokenOfByte ∈ gw := wq_t 476 (by decide +kernel) (by decide +kernel)
theorem wd_479 : Cond.methodLink RX2 140 Lib.Math.min.name ∈ gw := wq_t 479 (by decide +kernel) (by decide +kernel)
theorem wd_480 : Cond.methodLink RX2 25 yX2_readItem ∈ gw := wq_t 480 (by decide +kernel) (by decide +kernel)
theorem wd_484 : Cond.methodLink RX2 35 yX2_kindOfWord ∈ gw := wq_t 484 (by decide +kernel) (by decide +kernel)
theorem wd_488 : Cond.methodLink RX2 118 yX2_wordOfKind ∈ gw := wq_t 488 (by decide +kernel) (by decide +kernel)
theorem wd_498 : Cond.methodLink RX2 45 yX2_isWord ∈ gw := wq_t 498 (by decide +kernel) (by decide +kernel)
theorem wd_502 : Cond.methodLink RX2 109 yJ0_length_8abf5 ∈ gw := wq_t 502 (by decide +kernel) (by decide +kernel)
theorem wd_506 : Cond.methodLink RJ0 335 yJ0_coder_7d493 ∈ gw := wq_t 506 (by decide +kernel) (by decide +kernel)
theorem wd_512 : Cond.methodLink RX2 114 yJ0_charAt_5068e ∈ gw := wq_t 512 (by decide +kernel) (by decide +kernel)
theorem wd_516 : Cond.methodLink RJ0 492 yJ0_isLatin1_aae02 ∈ gw := wq_t 516 (by decide +kernel) (by decide +kernel)
theorem wd_520 : Cond.methodLink RJ0 495 yJ1_charAt_3b067 ∈ gw := wq_t 520 (by decide +kernel) (by decide +kernel)
theorem wd_523 : Cond.methodLink RJ1 9 yJ0_checkIndex_df160 ∈ gw := wq_t 523 (by decide +kernel) (by decide +kernel)
theorem wd_528 : Cond.methodLink RJ0 1059 yJ3_checkIndex_8e157 ∈ gw := wq_t 528 (by decide +kernel) (by decide +kernel)
theorem wd_531 : Cond.methodLink RJ0 498 yJ2_charAt_3b067 ∈ gw := wq_t 531 (by decide +kernel) (by decide +kernel)
theorem wd_550 : Cond.methodLink RX2 39 yX2_readWalker ∈ gw := wq_t 550 (by decide +kernel) (by decide +kernel)
theorem wd_554 : Cond.methodLink RX2 57 yX1_hasRoom ∈ gw := wq_t 554 (by decide +kernel) (by decide +kernel)
theorem wd_555 : Cond.methodLink RX2 63 yX1_add ∈ gw := wq_t 555 (by decide +kernel) (by decide +kernel)
theorem wd_557 : Cond.methodLink RX2 69 yX2_readTrait ∈ gw := wq_t 557 (by decide +kernel) (by decide +kernel)
theorem wd_563 : Cond.methodLink RX2 89 yX2_isNumber ∈ gw := wq_t 563 (by decide +kernel) (by decide +kernel)
theorem wd_572 : Cond.methodLink RX2 49 yX2_readReach ∈ gw := wq_t 572 (by decide +kernel) (by decide +kernel)
theorem wd_577 : Cond.methodLink RX2 54 yX2_readPrint ∈ gw := wq_t 577 (by decide +kernel) (by decide +kernel)
theorem wd_581 : Cond.methodLink RX2 101 yX1_put ∈ gw := wq_t 581 (by decide +kernel) (by decide +kernel)
theorem wd_583 : Cond.methodLink RL 142 yX3_hold ∈ gw := wq_t 583 (by decide +kernel) (by decide +kernel)
theorem wd_587 : Cond.methodLink RL 146 yX3_as ∈ gw := wq_t 587 (by decide +kernel) (by decide +kernel)
theorem wd_592 : Cond.methodLink RX3 211 yX3_isUnder ∈ gw := wq_t 592 (by decide +kernel) (by decide +kernel)
theorem wd_598 : Cond.methodLink RL 150 yX3_sheet ∈ gw := wq_t 598 (by decide +kernel) (by decide +kernel)
theorem wd_602 : Cond.methodLink RX3 216 yX0_isSheet ∈ gw := wq_t 602 (by decide +kernel) (by decide +kernel)
theorem wd_603 : Cond.methodLink RX3 219 yX0_isWidth ∈ gw := wq_t 603 (by decide +kernel) (by decide +kernel)
theorem wd_607 : Cond.methodLink RX3 223 yX0_lay ∈ gw := wq_t 607 (by decide +kernel) (by decide +kernel)
theorem wd_611 : Cond.methodLink RL 154 yX3_write ∈ gw := wq_t 611 (by decide +kernel) (by decide +kernel)
theorem wd_615 : Cond.methodLink RX3 232 yX0_put ∈ gw := wq_t 615 (by decide +kernel) (by decide +kernel)
theorem wd_619 : Cond.methodLink RL 158 yX3_copy ∈ gw := wq_t 619 (by decide +kernel) (by decide +kernel)
theorem wd_623 : Cond.methodLink RX3 235 yX0_isMissing ∈ gw := wq_t 623 (by decide +kernel) (by decide +kernel)
theorem wd_624 : Cond.methodLink RX3 241 yX0_hasPart ∈ gw := wq_t 624 (by decide +kernel) (by decide +kernel)
theorem wd_628 : Cond.methodLink RX3 247 arraycopyName ∈ gw := wq_t 628 (by decide +kernel) (by decide +kernel)
theorem wd_629 : Cond.methodLink RL 163 yX3_load ∈ gw := wq_t 629 (by decide +kernel) (by decide +kernel)
theorem wd_633 : Cond.methodLink RL 167 yX3_judge ∈ gw := wq_t 633 (by decide +kernel) (by decide +kernel)
theorem wd_637 : Cond.methodLink RL 171 yX3_image ∈ gw := wq_t 637 (by decide +kernel) (by decide +kernel)
theorem wd_641 : Cond.methodLink RL 175 yX3_undo ∈ gw := wq_t 641 (by decide +kernel) (by decide +kernel)
theorem wd_645 : Cond.methodLink RL 179 yX3_tear ∈ gw := wq_t 645 (by decide +kernel) (by decide +kernel)
theorem wd_649 : Cond.methodLink RL 183 yX3_count ∈ gw := wq_t 649 (by decide +kernel) (by decide +kernel)
theorem wd_653 : Cond.methodLink RX3 262 yX1_heldCount ∈ gw := wq_t 653 (by decide +kernel) (by decide +kernel)
theorem wd_657 : Cond.methodLink RL 187 yX3_status ∈ gw := wq_t 657 (by decide +kernel) (by decide +kernel)
theorem wd_663 : Cond.methodLink RL 12 yX4_init ∈ gw := wq_t 663 (by decide +kernel) (by decide +kernel)
theorem wd_713 : Cond.methodLink RL 17 yX4_cell ∈ gw := wq_t 713 (by decide +kernel) (by decide +kernel)
theorem wd_717 : Cond.methodLink RX4 70 yX4_isCell ∈ gw := wq_t 717 (by decide +kernel) (by decide +kernel)
theorem wd_721 : Cond.methodLink RX4 42 yX4_in ∈ gw := wq_t 721 (by decide +kernel) (by decide +kernel)
theorem wd_725 : Cond.methodLink RX4 76 yX4_finds ∈ gw := wq_t 725 (by decide +kernel) (by decide +kernel)
theorem wd_730 : Cond.methodLink RX4 79 yX4_walkersAt ∈ gw := wq_t 730 (by decide +kernel) (by decide +kernel)
theorem wd_734 : Cond.methodLink RX4 54 yX4_its ∈ gw := wq_t 734 (by decide +kernel) (by decide +kernel)
theorem wd_738 : Cond.methodLink RL 22 yX4_print ∈ gw := wq_t 738 (by decide +kernel) (by decide +kernel)
theorem wd_742 : Cond.methodLink RX4 82 yX4_isWalker ∈ gw := wq_t 742 (by decide +kernel) (by decide +kernel)
theorem wd_747 : Cond.methodLink RX4 87 yX4_prints ∈ gw := wq_t 747 (by decide +kernel) (by decide +kernel)
theorem wd_751 : Cond.methodLink RL 27 yX4_reach ∈ gw := wq_t 751 (by decide +kernel) (by decide +kernel)
theorem wd_756 : Cond.methodLink RX4 93 yX4_becomes ∈ gw := wq_t 756 (by decide +kernel) (by decide +kernel)
theorem wd_760 : Cond.methodLink RL 32 yX4_tide ∈ gw := wq_t 760 (by decide +kernel) (by decide +kernel)
theorem wd_764 : Cond.methodLink RX4 96 yX4_theTide ∈ gw := wq_t 764 (by decide +kernel) (by decide +kernel)
theorem wd_768 : Cond.methodLink RL 36 yX4_walker ∈ gw := wq_t 768 (by decide +kernel) (by decide +kernel)
theorem wd_772 : Cond.methodLink RX4 100 yX4_isKind ∈ gw := wq_t 772 (by decide +kernel) (by decide +kernel)
theorem wd_776 : Cond.methodLink RX4 103 yX4_adds ∈ gw := wq_t 776 (by decide +kernel) (by decide +kernel)
theorem wd_780 : Cond.methodLink RX4 66 yX4_sets ∈ gw := wq_t 780 (by decide +kernel) (by decide +kernel)
theorem wd_784 : Cond.methodLink RL 40 yX4_of ∈ gw := wq_t 784 (by decide +kernel) (by decide +kernel)
theorem wd_788 : Cond.methodLink RX4 106 yX4_strides ∈ gw := wq_t 788 (by decide +kernel) (by decide +kernel)
theorem wd_792 : Cond.methodLink RX4 109 yX4_presses ∈ gw := wq_t 792 (by decide +kernel) (by decide +kernel)
theorem wd_796 : Cond.methodLink RX4 58 Lib.Math.max.name ∈ gw := wq_t 796 (by decide +kernel) (by decide +kernel)
theorem wd_797 : Cond.methodLink RX4 63 Lib.Math.min.name ∈ gw := wq_t 797 (by decide +kernel) (by decide +kernel)
theorem wd_798 : Cond.methodLink RX4 112 yX4_looks ∈ gw := wq_t 798 (by decide +kernel) (by decide +kernel)
theorem wd_802 : Cond.methodLink RX4 115 yX4_workOf ∈ gw := wq_t 802 (by decide +kernel) (by decide +kernel)
theorem wd_806 : Cond.methodLink RL 44 yX4_change ∈ gw := wq_t 806 (by decide +kernel) (by decide +kernel)
theorem wd_810 : Cond.methodLink RX4 120 yX4_mayBe ∈ gw := wq_t 810 (by decide +kernel) (by decide +kernel)
theorem wd_814 : Cond.methodLink RL 48 yX4_go ∈ gw := wq_t 814 (by decide +kernel) (by decide +kernel)
theorem wd_820 : Cond.methodLink RX4 138 yX4_hours ∈ gw := wq_t 820 (by decide +kernel) (by decide +kernel)
theorem wd_824 : Cond.methodLink RX4 133 yX4_anHour ∈ gw := wq_t 824 (by decide +kernel) (by decide +kernel)
theorem wd_828 : Cond.methodLink RX4 129 yX4_goes ∈ gw := wq_t 828 (by decide +kernel) (by decide +kernel)
theorem wd_832 : Cond.methodLink RX4 141 yX4_printed ∈ gw := wq_t 832 (by decide +kernel) (by decide +kernel)
theorem wd_836 : Cond.methodLink RX4 144 yX4_ones ∈ gw := wq_t 836 (by decide +kernel) (by decide +kernel)
theorem wd_839 : Cond.methodLink RL 52 yX4_now ∈ gw := wq_t 839 (by decide +kernel) (by decide +kernel)
theorem wd_843 : Cond.methodLink RX4 147 yX4_depths ∈ gw := wq_t 843 (by decide +kernel) (by decide +kernel)
theorem wd_847 : Cond.methodLink RX4 150 yX4_greatest ∈ gw := wq_t 847 (by decide +kernel) (by decide +kernel)
theorem wd_851 : Cond.methodLink RX4 153 yX4_allSteps ∈ gw := wq_t 851 (by decide +kernel) (by decide +kernel)
theorem wd_855 : Cond.methodLink RL 56 yX4_line ∈ gw := wq_t 855 (by decide +kernel) (by decide +kernel)
theorem wd_859 : Cond.methodLink RL 60 yX4_ahead ∈ gw := wq_t 859 (by decide +kernel) (by decide +kernel)
theorem wd_864 : Cond.methodLink RX4 165 yX4_isAhead ∈ gw := wq_t 864 (by decide +kernel) (by decide +kernel)
theorem wd_868 : Cond.methodLink RX4 168 yX4_lends ∈ gw := wq_t 868 (by decide +kernel) (by decide +kernel)
theorem wd_872 : Cond.methodLink RX4 38 yX4_become ∈ gw := wq_t 872 (by decide +kernel) (by decide +kernel)
theorem wd_875 : Cond.methodLink RX4 160 yX4_laysBack ∈ gw := wq_t 875 (by decide +kernel) (by decide +kernel)
theorem wd_879 : Cond.methodLink RL 64 yX4_work ∈ gw := wq_t 879 (by decide +kernel) (by decide +kernel)
theorem wd_883 : Cond.methodLink RX4 171 yX4_workIn ∈ gw := wq_t 883 (by decide +kernel) (by decide +kernel)
theorem wd_887 : Cond.methodLink RL 68 yX4_when ∈ gw := wq_t 887 (by decide +kernel) (by decide +kernel)
theorem wd_891 : Cond.methodLink RX4 174 yX4_orNone ∈ gw := wq_t 891 (by decide +kernel) (by decide +kernel)
theorem wd_895 : Cond.methodLink RL 72 yX4_gone ∈ gw := wq_t 895 (by decide +kernel) (by decide +kernel)
theorem wd_899 : Cond.methodLink RL 76 yX4_meet ∈ gw := wq_t 899 (by decide +kernel) (by decide +kernel)
theorem wd_903 : Cond.methodLink RL 80 yX4_strideFor ∈ gw := wq_t 903 (by decide +kernel) (by decide +kernel)
theorem wd_907 : Cond.methodLink RX4 180 yX4_isAsked ∈ gw := wq_t 907 (by decide +kernel) (by decide +kernel)
theorem wd_911 : Cond.methodLink RX4 177 yX4_isSoon ∈ gw := wq_t 911 (by decide +kernel) (by decide +kernel)
theorem wd_915 : Cond.methodLink RX4 183 yX4_bestBy ∈ gw := wq_t 915 (by decide +kernel) (by decide +kernel)
theorem wd_919 : Cond.methodLink RL 84 yX4_start ∈ gw := wq_t 919 (by decide +kernel) (by decide +kernel)
theorem wd_923 : Cond.methodLink RL 88 yX4_kindFor ∈ gw := wq_t 923 (by decide +kernel) (by decide +kernel)
theorem wd_927 : Cond.methodLink RL 92 yX4_reachFor ∈ gw := wq_t 927 (by decide +kernel) (by decide +kernel)
theorem wd_931 : Cond.methodLink RX4 187 yX4_whoseIn ∈ gw := wq_t 931 (by decide +kernel) (by decide +kernel)
theorem wd_935 : Cond.methodLink RL 96 yX4_weightFor ∈ gw := wq_t 935 (by decide +kernel) (by decide +kernel)
theorem wd_939 : Cond.methodLink RL 100 yX4_away ∈ gw := wq_t 939 (by decide +kernel) (by decide +kernel)
theorem wd_944 : Cond.methodLink RL 104 yX4_censor ∈ gw := wq_t 944 (by decide +kernel) (by decide +kernel)
theorem wd_948 : Cond.methodLink RL 108 yX4_fits ∈ gw := wq_t 948 (by decide +kernel) (by decide +kernel)
theorem wd_952 : Cond.methodLink RX4 199 yX4_lacksAsked ∈ gw := wq_t 952 (by decide +kernel) (by decide +kernel)
theorem wd_956 : Cond.methodLink RX4 192 yX4_lacks ∈ gw := wq_t 956 (by decide +kernel) (by decide +kernel)
theorem wd_960 : Cond.methodLink RX4 305 yX4_isSheet ∈ gw := wq_t 960 (by decide +kernel) (by decide +kernel)
theorem wd_963 : Cond.methodLink RX4 203 yX4_thoseBy ∈ gw := wq_t 963 (by decide +kernel) (by decide +kernel)
theorem wd_967 : Cond.methodLink RX4 195 yX4_isSo ∈ gw := wq_t 967 (by decide +kernel) (by decide +kernel)
theorem wd_971 : Cond.methodLink RL 112 yX4_strode ∈ gw := wq_t 971 (by decide +kernel) (by decide +kernel)
theorem wd_975 : Cond.methodLink RL 116 yX4_kinds ∈ gw := wq_t 975 (by decide +kernel) (by decide +kernel)
theorem wd_979 : Cond.methodLink RL 120 yX4_tides ∈ gw := wq_t 979 (by decide +kernel) (by decide +kernel)
theorem wd_983 : Cond.methodLink RX4 208 yX4_draw ∈ gw := wq_t 983 (by decide +kernel) (by decide +kernel)
theorem wd_988 : Cond.methodLink RL 125 yX4_odds ∈ gw := wq_t 988 (by decide +kernel) (by decide +kernel)
theorem wd_994 : Cond.methodLink RL 129 yX4_seed ∈ gw := wq_t 994 (by decide +kernel) (by decide +kernel)
theorem wd_998 : Cond.methodLink RL 133 yX4_feed ∈ gw := wq_t 998 (by decide +kernel) (by decide +kernel)
theorem wd_1003 : Cond.methodLink RL 137 yX4_wipe ∈ gw := wq_t 1003 (by decide +kernel) (by decide +kernel)
theorem wd_1007 : Cond.methodLink RL 141 yX4_text ∈ gw := wq_t 1007 (by decide +kernel) (by decide +kernel)
theorem wd_1011 : Cond.methodLink RX4 242 yX4_next ∈ gw := wq_t 1011 (by decide +kernel) (by decide +kernel)
theorem wd_1015 : Cond.methodLink RX4 226 yX4_isByte ∈ gw := wq_t 1015 (by decide +kernel) (by decide +kernel)
theorem wd_1019 : Cond.methodLink RX4 294 yX4_item ∈ gw := wq_t 1019 (by decide +kernel) (by decide +kernel)
theorem wd_1023 : Cond.methodLink RX4 281 yX4_kindHere ∈ gw := wq_t 1023 (by decide +kernel) (by decide +kernel)
theorem wd_1028 : Cond.methodLink RX4 245 yX4_isWord ∈ gw := wq_t 1028 (by decide +kernel) (by decide +kernel)
theorem wd_1032 : Cond.methodLink RX4 233 yJ0_length_8abf5 ∈ gw := wq_t 1032 (by decide +kernel) (by decide +kernel)
theorem wd_1033 : Cond.methodLink RX4 238 yJ0_charAt_5068e ∈ gw := wq_t 1033 (by decide +kernel) (by decide +kernel)
theorem wd_1040 : Cond.methodLink RX4 284 yX4_walkerTold ∈ gw := wq_t 1040 (by decide +kernel) (by decide +kernel)
theorem wd_1044 : Cond.methodLink RX4 249 yX4_must ∈ gw := wq_t 1044 (by decide +kernel) (by decide +kernel)
theorem wd_1049 : Cond.methodLink RX4 269 yX4_takes ∈ gw := wq_t 1049 (by decide +kernel) (by decide +kernel)
theorem wd_1053 : Cond.methodLink RX4 272 yX4_numberRead ∈ gw := wq_t 1053 (by decide +kernel) (by decide +kernel)
theorem wd_1062 : Cond.methodLink RX4 291 yX4_printTold ∈ gw := wq_t 1062 (by decide +kernel) (by decide +kernel)
theorem wd_1067 : Cond.methodLink RL 145 yX4_hold ∈ gw := wq_t 1067 (by decide +kernel) (by decide +kernel)
theorem wd_1071 : Cond.methodLink RX4 299 yX4_isSpot ∈ gw := wq_t 1071 (by decide +kernel) (by decide +kernel)
theorem wd_1074 : Cond.methodLink RL 149 yX4_as ∈ gw := wq_t 1074 (by decide +kernel) (by decide +kernel)
theorem wd_1078 : Cond.methodLink RX4 302 yX4_isUnder ∈ gw := wq_t 1078 (by decide +kernel) (by decide +kernel)
theorem wd_1081 : Cond.methodLink RX4 48 yX4_aboveOf ∈ gw := wq_t 1081 (by decide +kernel) (by decide +kernel)
theorem wd_1084 : Cond.methodLink RL 153 yX4_sheet ∈ gw := wq_t 1084 (by decide +kernel) (by decide +kernel)
theorem wd_1088 : Cond.methodLink RL 157 yX4_write ∈ gw := wq_t 1088 (by decide +kernel) (by decide +kernel)
theorem wd_1092 : Cond.methodLink RL 162 yX4_copy ∈ gw := wq_t 1092 (by decide +kernel) (by decide +kernel)
theorem wd_1096 : Cond.methodLink RL 166 yX4_load ∈ gw := wq_t 1096 (by decide +kernel) (by decide +kernel)
theorem wd_1100 : Cond.methodLink RL 170 yX4_judge ∈ gw := wq_t 1100 (by decide +kernel) (by decide +kernel)
theorem wd_1104 : Cond.methodLink RL 174 yX4_image ∈ gw := wq_t 1104 (by decide +kernel) (by decide +kernel)
theorem wd_1108 : Cond.methodLink RL 178 yX4_undo ∈ gw := wq_t 1108 (by decide +kernel) (by decide +kernel)
theorem wd_1112 : Cond.methodLink RL 182 yX4_tear ∈ gw := wq_t 1112 (by decide +kernel) (by decide +kernel)
theorem wd_1116 : Cond.methodLink RL 186 yX4_count ∈ gw := wq_t 1116 (by decide +kernel) (by decide +kernel)
theorem wd_1120 : Cond.methodLink RX4 311 yX4_held ∈ gw := wq_t 1120 (by decide +kernel) (by decide +kernel)
theorem wd_1124 : Cond.methodLink RL 190 yX4_status ∈ gw := wq_t 1124 (by decide +kernel) (by decide +kernel)
theorem wd_144 : Cond.constant RX3 48 (-1000001) ∈ gw := wq_t 144 (by decide +kernel) (by decide +kernel)
theorem wd_192 : Cond.constant RX3 86 (-1000002) ∈ gw := wq_t 192 (by decide +kernel) (by decide +kernel)
theorem wd_239 : Cond.constant RX3 115 (99999) ∈ gw := wq_t 239 (by decide +kernel) (by decide +kernel)
theorem wd_240 : Cond.constant RX3 116 (-1000005) ∈ gw := wq_t 240 (by decide +kernel) (by decide +kernel)
theorem wd_254 : Cond.constant RX1 69 (99999) ∈ gw := wq_t 254 (by decide +kernel) (by decide +kernel)
theorem wd_267 : Cond.constant RX1 106 (16777215) ∈ gw := wq_t 267 (by decide +kernel) (by decide +kernel)
theorem wd_271 : Cond.constant RJ6 265 (1431655765) ∈ gw := wq_t 271 (by decide +kernel) (by decide +kernel)
theorem wd_272 : Cond.constant RJ6 266 (858993459) ∈ gw := wq_t 272 (by decide +kernel) (by decide +kernel)
theorem wd_273 : Cond.constant RJ6 267 (252645135) ∈ gw := wq_t 273 (by decide +kernel) (by decide +kernel)
theorem wd_328 : Cond.constant RX3 155 (-1000004) ∈ gw := wq_t 328 (by decide +kernel) (by decide +kernel)
theorem wd_378 : Cond.constant RX3 174 (100000) ∈ gw := wq_t 378 (by decide +kernel) (by decide +kernel)
theorem wd_395 : Cond.constant RX0 31 (-1000001) ∈ gw := wq_t 395 (by decide +kernel) (by decide +kernel)
theorem wd_400 : Cond.constant RX0 35 (-1000006) ∈ gw := wq_t 400 (by decide +kernel) (by decide +kernel)
theorem wd_417 : Cond.constant RJ6 264 (65536) ∈ gw := wq_t 417 (by decide +kernel) (by decide +kernel)
theorem wd_434 : Cond.constant RX1 97 (1103515245) ∈ gw := wq_t 434 (by decide +kernel) (by decide +kernel)
theorem wd_591 : Cond.constant RX3 210 (-1000006) ∈ gw := wq_t 591 (by decide +kernel) (by decide +kernel)
theorem wd_597 : Cond.constant RX3 215 (-1000003) ∈ gw := wq_t 597 (by decide +kernel) (by decide +kernel)
theorem wd_606 : Cond.constant RX3 222 (-1000007) ∈ gw := wq_t 606 (by decide +kernel) (by decide +kernel)
theorem wd_729 : Cond.constant RX4 37 (-1000001) ∈ gw := wq_t 729 (by decide +kernel) (by decide +kernel)
theorem wd_819 : Cond.constant RX4 124 (99999) ∈ gw := wq_t 819 (by decide +kernel) (by decide +kernel)
theorem wd_987 : Cond.constant RX4 207 (1103515245) ∈ gw := wq_t 987 (by decide +kernel) (by decide +kernel)
theorem wd_720 : Cond.constantLong RX4 46 (23) ∈ gw := wq_t 720 (by decide +kernel) (by decide +kernel)
theorem wd_724 : Cond.constantLong RX4 74 (3) ∈ gw := wq_t 724 (by decide +kernel) (by decide +kernel)
theorem wd_746 : Cond.constantLong RX4 85 (9) ∈ gw := wq_t 746 (by decide +kernel) (by decide +kernel)
theorem wd_755 : Cond.constantLong RX4 91 (24) ∈ gw := wq_t 755 (by decide +kernel) (by decide +kernel)
theorem wd_775 : Cond.constantLong RX4 52 (6) ∈ gw := wq_t 775 (by decide +kernel) (by decide +kernel)
theorem wd_813 : Cond.constantLong RX4 118 (99999) ∈ gw := wq_t 813 (by decide +kernel) (by decide +kernel)
theorem wd_818 : Cond.constantLong RX4 136 (60) ∈ gw := wq_t 818 (by decide +kernel) (by decide +kernel)
theorem wd_863 : Cond.constantLong RX4 163 (2) ∈ gw := wq_t 863 (by decide +kernel) (by decide +kernel)
theorem wd_867 : Cond.constantLong RX4 156 (100) ∈ gw := wq_t 867 (by decide +kernel) (by decide +kernel)
theorem wd_914 : Cond.constantLong RX4 158 (40) ∈ gw := wq_t 914 (by decide +kernel) (by decide +kernel)
theorem wd_943 : Cond.constantLong RX4 190 (20) ∈ gw := wq_t 943 (by decide +kernel) (by decide +kernel)
theorem wd_992 : Cond.constantLong RX4 211 (12) ∈ gw := wq_t 992 (by decide +kernel) (by decide +kernel)
theorem wd_993 : Cond.constantLong RX4 213 (25) ∈ gw := wq_t 993 (by decide +kernel) (by decide +kernel)
theorem wd_1002 : Cond.constantLong RX4 215 (4) ∈ gw := wq_t 1002 (by decide +kernel) (by decide +kernel)
theorem wd_1128 : Cond.constantLong RX4 314 (-1) ∈ gw := wq_t 1128 (by decide +kernel) (by decide +kernel)
theorem sr_491 : (RX2, 122, "child", 1) ∈ sRefs := List.mem_of_getElem? (i := 0) (by decide +kernel)
theorem sr_492 : (RX2, 124, "carter", 2) ∈ sRefs := List.mem_of_getElem? (i := 1) (by decide +kernel)
theorem sr_493 : (RX2, 126, "horse", 3) ∈ sRefs := List.mem_of_getElem? (i := 2) (by decide +kernel)
theorem sr_494 : (RX2, 128, "rider", 4) ∈ sRefs := List.mem_of_getElem? (i := 3) (by decide +kernel)
theorem sr_495 : (RX2, 130, "thief", 5) ∈ sRefs := List.mem_of_getElem? (i := 4) (by decide +kernel)
theorem sr_496 : (RX2, 132, "runner", 6) ∈ sRefs := List.mem_of_getElem? (i := 5) (by decide +kernel)
theorem sr_497 : (RX2, 134, "walker", 0) ∈ sRefs := List.mem_of_getElem? (i := 6) (by decide +kernel)
theorem sr_556 : (RX2, 67, "at", 7) ∈ sRefs := List.mem_of_getElem? (i := 7) (by decide +kernel)
theorem sr_568 : (RX2, 73, "out", 8) ∈ sRefs := List.mem_of_getElem? (i := 8) (by decide +kernel)
theorem sr_569 : (RX2, 79, "stride", 9) ∈ sRefs := List.mem_of_getElem? (i := 9) (by decide +kernel)
theorem sr_570 : (RX2, 81, "weight", 10) ∈ sRefs := List.mem_of_getElem? (i := 10) (by decide +kernel)
theorem sr_571 : (RX2, 43, "reach", 11) ∈ sRefs := List.mem_of_getElem? (i := 11) (by decide +kernel)
theorem sr_576 : (RX2, 52, "print", 12) ∈ sRefs := List.mem_of_getElem? (i := 12) (by decide +kernel)
theorem sr_1027 : (RX4, 253, "walker", 0) ∈ sRefs := List.mem_of_getElem? (i := 13) (by decide +kernel)
theorem sr_1034 : (RX4, 255, "child", 1) ∈ sRefs := List.mem_of_getElem? (i := 14) (by decide +kernel)
theorem sr_1035 : (RX4, 257, "carter", 2) ∈ sRefs := List.mem_of_getElem? (i := 15) (by decide +kernel)
theorem sr_1036 : (RX4, 259, "horse", 3) ∈ sRefs := List.mem_of_getElem? (i := 16) (by decide +kernel)
theorem sr_1037 : (RX4, 261, "rider", 4) ∈ sRefs := List.mem_of_getElem? (i := 17) (by decide +kernel)
theorem sr_1038 : (RX4, 263, "thief", 5) ∈ sRefs := List.mem_of_getElem? (i := 18) (by decide +kernel)
theorem sr_1039 : (RX4, 265, "runner", 6) ∈ sRefs := List.mem_of_getElem? (i := 19) (by decide +kernel)
theorem sr_1048 : (RX4, 267, "at", 7) ∈ sRefs := List.mem_of_getElem? (i := 20) (by decide +kernel)
theorem sr_1057 : (RX4, 275, "out", 8) ∈ sRefs := List.mem_of_getElem? (i := 21) (by decide +kernel)
theorem sr_1058 : (RX4, 277, "stride", 9) ∈ sRefs := List.mem_of_getElem? (i := 22) (by decide +kernel)
theorem sr_1059 : (RX4, 279, "weight", 10) ∈ sRefs := List.mem_of_getElem? (i := 23) (by decide +kernel)
theorem sr_1060 : (RX4, 287, "reach", 11) ∈ sRefs := List.mem_of_getElem? (i := 24) (by decide +kernel)
theorem sr_1061 : (RX4, 289, "print", 12) ∈ sRefs := List.mem_of_getElem? (i := 25) (by decide +kernel)
theorem sr_1066 : (RX4, 297, ";", 13) ∈ sRefs := List.mem_of_getElem? (i := 26) (by decide +kernel)
theorem wac_native : Cond.native arraycopyName ∈ gw := wq_t 313 (by decide +kernel) (by decide +kernel)
theorem wac_static : Cond.static arraycopyName ∈ gw := wq_t 312 (by decide +kernel) (by decide +kernel)
theorem wac_ini : Cond.initialized "java/lang/System" ∈ gw := wq_t 8 (by decide +kernel) (by decide +kernel)
theorem cw_X0_isSheet : CWS yX0_isSheet cX0_isSheet 1 (some .boolean) 1 := ⟨wq_t 392 (by decide +kernel) (by decide +kernel), wq_t 4 (by decide +kernel) (by decide +kernel), wq_t 393 (by decide +kernel) (by decide +kernel), by decide +kernel⟩
theorem cw_X0_isWidth : CWS yX0_isWidth cX0_isWidth 1 (some .boolean) 1 := ⟨wq_t 604 (by decide +kernel) (by decide +kernel), wq_t 4 (by decide +kernel) (by decide +kernel), wq_t 605 (by decide +kernel) (by decide +kernel), by decide +kernel⟩
theorem cw_X0_isMissing : CWV yX0_isMissing cX0_isMissing 2 (some .boolean) RX0 1 := ⟨wq_t 397 (by decide +kernel) (by decide +kernel), wq_t 398 (by decide +kernel) (by decide +kernel), wq_t 4 (by decide +kernel) (by decide +kernel), wq_t 399 (by decide +kernel) (by decide +kernel), by decide +kernel⟩
theorem cw_X0_findingOf : CWV yX0_findingOf cX0_findingOf 2 (some .int) RX0 1 := ⟨wq_t 388 (by decide +kernel) (by decide +kernel), wq_t 389 (by decide +kernel) (by decide +kernel), wq_t 4 (by decide +kernel) (by decide +kernel), wq_t 390 (by decide +kernel) (by decide +kernel), by decide +kernel⟩
theorem cw_X0_lay : CWV yX0_lay cX0_lay 5 (some .int) RX0 3 := ⟨wq_t 608 (by decide +kernel) (by decide +kernel), wq_t 609 (by decide +kernel) (by decide +kernel), wq_t 4 (by decide +kernel) (by decide +kernel), wq_t 610 (by decide +kernel) (by decide +kernel), by decide +kernel⟩
theorem cw_X0_put : CWV yX0_put cX0_put 5 none RX0 3 := ⟨wq_t 616 (by decide +kernel) (by decide +kernel), wq_t 617 (by decide +kernel) (by decide +kernel), wq_t 4 (by decide +kernel) (by decide +kernel), wq_t 618 (by decide +kernel) (by decide +kernel), by decide +kernel⟩
theorem cw_X0_hasPart : CWV yX0_hasPart cX0_hasPart 4 (some .boolean) RX0 3 := ⟨wq_t 625 (by decide +kernel) (by decide +kernel), wq_t 626 (by decide +kernel) (by decide +kernel), wq_t 4 (by decide +kernel) (by decide +kernel), wq_t 627 (by decide +kernel) (by decide +kernel), by decide +kernel⟩
theorem cw_X1_become : CWV yX1_become cX1_become 3 none RX1 1 := ⟨wq_t 308 (by decide +kernel) (by decide +kernel), wq_t 309 (by decide +kernel) (by decide +kernel), wq_t 2 (by decide +kernel) (by decide +kernel), wq_t 310 (by decide +kernel) (by decide +kernel), by decide +kernel⟩
theorem cw_X1_isWalker : CWV yX1_isWalker cX1_isWalker 2 (some .boolean) RX1 1 := ⟨wq_t 202 (by decide +kernel) (by decide +kernel), wq_t 203 (by decide +kernel) (by decide +kernel), wq_t 2 (by decide +kernel) (by decide +kernel), wq_t 204 (by decide +kernel) (by decide +kernel), by decide +kernel⟩
theorem cw_X1_isWalkerOrNobody : CWV yX1_isWalkerOrNobody cX1_isWalkerOrNobody 2 (some .boolean) RX1 1 := ⟨wq_t 158 (by decide +kernel) (by decide +kernel), wq_t 159 (by decide +kernel) (by decide +kernel), wq_t 2 (by decide +kernel) (by decide +kernel), wq_t 160 (by decide +kernel) (by decide +kernel), by decide +kernel⟩
theorem cw_X1_hasRoom : CWV yX1_hasRoom cX1_hasRoom 1 (some .boolean) RX1 0 := ⟨wq_t 189 (by decide +kernel) (by decide +kernel), wq_t 190 (by decide +kernel) (by decide +kernel), wq_t 2 (by decide +kernel) (by decide +kernel), wq_t 191 (by decide +kernel) (by decide +kernel), by decide +kernel⟩
theorem cw_X1_add : CWV yX1_add cX1_add 4 (some .int) RX1 2 := ⟨wq_t 194 (by decide +kernel) (by decide +kernel), wq_t 195 (by decide +kernel) (by decide +kernel), wq_t 2 (by decide +kernel) (by decide +kernel), wq_t 196 (by decide +kernel) (by decide +kernel), by decide +kernel⟩
theorem cw_X1_put : CWV yX1_put cX1_put 5 none RX1 4 := ⟨wq_t 167 (by decide +kernel) (by decide +kernel), wq_t 168 (by decide +kernel) (by decide +kernel), wq_t 2 (by decide +kernel) (by decide +kernel), wq_t 169 (by decide +kernel) (by decide +kernel), by decide +kernel⟩
theorem cw_X1_clear : CWV yX1_clear cX1_clear 2 none RX1 1 := ⟨wq_t 163 (by decide +kernel) (by decide +kernel), wq_t 164 (by decide +kernel) (by decide +kernel), wq_t 2 (by decide +kernel) (by decide +kernel), wq_t 165 (by decide +kernel) (by decide +kernel), by decide +kernel⟩
theorem cw_X1_strides : CWV yX1_strides cX1_strides 5 (some .int) RX1 1 := ⟨wq_t 206 (by decide +kernel) (by decide +kernel), wq_t 207 (by decide +kernel) (by decide +kernel), wq_t 2 (by decide +kernel) (by decide +kernel), wq_t 208 (by decide +kernel) (by decide +kernel), by decide +kernel⟩
theorem cw_X1_presses : CWV yX1_presses cX1_presses 4 (some .int) RX1 1 := ⟨wq_t 210 (by decide +kernel) (by decide +kernel), wq_t 211 (by decide +kernel) (by decide +kernel), wq_t 2 (by decide +kernel) (by decide +kernel), wq_t 212 (by decide +kernel) (by decide +kernel), by decide +kernel⟩
theorem cw_X1_looks : CWV yX1_looks cX1_looks 3 (some .int) RX1 1 := ⟨wq_t 220 (by decide +kernel) (by decide +kernel), wq_t 221 (by decide +kernel) (by decide +kernel), wq_t 2 (by decide +kernel) (by decide +kernel), wq_t 222 (by decide +kernel) (by decide +kernel), by decide +kernel⟩
theorem cw_X1_passHours : CWV yX1_passHours cX1_passHours 4 none RX1 2 := ⟨wq_t 242 (by decide +kernel) (by decide +kernel), wq_t 243 (by decide +kernel) (by decide +kernel), wq_t 2 (by decide +kernel) (by decide +kernel), wq_t 244 (by decide +kernel) (by decide +kernel), by decide +kernel⟩
theorem cw_X1_passHour : CWV yX1_passHour cX1_passHour 3 none RX1 1 := ⟨wq_t 246 (by decide +kernel) (by decide +kernel), wq_t 247 (by decide +kernel) (by decide +kernel), wq_t 2 (by decide +kernel) (by decide +kernel), wq_t 248 (by decide +kernel) (by decide +kernel), by decide +kernel⟩
theorem cw_X1_goOn : CWV yX1_goOn cX1_goOn 5 none RX1 1 := ⟨wq_t 251 (by decide +kernel) (by decide +kernel), wq_p 1 (by decide +kernel) (by decide +kernel), wq_t 2 (by decide +kernel) (by decide +kernel), wq_t 252 (by decide +kernel) (by decide +kernel), by decide +kernel⟩
theorem cw_X1_comeTide : CWV yX1_comeTide cX1_comeTide 3 (some .int) RX1 0 := ⟨wq_t 180 (by decide +kernel) (by decide +kernel), wq_t 181 (by decide +kernel) (by decide +kernel), wq_t 2 (by decide +kernel) (by decide +kernel), wq_t 182 (by decide +kernel) (by decide +kernel), by decide +kernel⟩
theorem cw_X1_passDrawnHour : CWV yX1_passDrawnHour cX1_passDrawnHour 2 none RX1 0 := ⟨wq_t 427 (by decide +kernel) (by decide +kernel), wq_t 428 (by decide +kernel) (by decide +kernel), wq_t 2 (by decide +kernel) (by decide +kernel), wq_t 429 (by decide +kernel) (by decide +kernel), by decide +kernel⟩
theorem cw_X1_draw : CWV yX1_draw cX1_draw 1 (some .int) RX1 0 := ⟨wq_t 432 (by decide +kernel) (by decide +kernel), wq_p 9 (by decide +kernel) (by decide +kernel), wq_t 2 (by decide +kernel) (by decide +kernel), wq_t 433 (by decide +kernel) (by decide +kernel), by decide +kernel⟩
theorem cw_X1_walkersAt : CWV yX1_walkersAt cX1_walkersAt 4 (some .int) RX1 1 := ⟨wq_t 150 (by decide +kernel) (by decide +kernel), wq_t 151 (by decide +kernel) (by decide +kernel), wq_t 2 (by decide +kernel) (by decide +kernel), wq_t 152 (by decide +kernel) (by decide +kernel), by decide +kernel⟩
theorem cw_X1_workSet : CWV yX1_workSet cX1_workSet 4 (some .int) RX1 1 := ⟨wq_t 224 (by decide +kernel) (by decide +kernel), wq_t 225 (by decide +kernel) (by decide +kernel), wq_t 2 (by decide +kernel) (by decide +kernel), wq_t 226 (by decide +kernel) (by decide +kernel), by decide +kernel⟩
theorem cw_X1_workSize : CWV yX1_workSize cX1_workSize 2 (some .int) RX1 1 := ⟨wq_t 288 (by decide +kernel) (by decide +kernel), wq_t 289 (by decide +kernel) (by decide +kernel), wq_t 2 (by decide +kernel) (by decide +kernel), wq_t 290 (by decide +kernel) (by decide +kernel), by decide +kernel⟩
theorem cw_X1_longestLine : CWV yX1_longestLine cX1_longestLine 5 (some .int) RX1 1 := ⟨wq_t 300 (by decide +kernel) (by decide +kernel), wq_t 301 (by decide +kernel) (by decide +kernel), wq_t 2 (by decide +kernel) (by decide +kernel), wq_t 302 (by decide +kernel) (by decide +kernel), by decide +kernel⟩
theorem cw_X1_printSet : CWV yX1_printSet cX1_printSet 1 (some .int) RX1 0 := ⟨wq_t 263 (by decide +kernel) (by decide +kernel), wq_t 264 (by decide +kernel) (by decide +kernel), wq_t 2 (by decide +kernel) (by decide +kernel), wq_t 265 (by decide +kernel) (by decide +kernel), by decide +kernel⟩
theorem cw_X1_printCount : CWV yX1_printCount cX1_printCount 1 (some .int) RX1 0 := ⟨wq_t 259 (by decide +kernel) (by decide +kernel), wq_t 260 (by decide +kernel) (by decide +kernel), wq_t 2 (by decide +kernel) (by decide +kernel), wq_t 261 (by decide +kernel) (by decide +kernel), by decide +kernel⟩
theorem cw_X1_depthSum : CWV yX1_depthSum cX1_depthSum 3 (some .int) RX1 0 := ⟨wq_t 280 (by decide +kernel) (by decide +kernel), wq_t 281 (by decide +kernel) (by decide +kernel), wq_t 2 (by decide +kernel) (by decide +kernel), wq_t 282 (by decide +kernel) (by decide +kernel), by decide +kernel⟩
theorem cw_X1_greatestAuthor : CWV yX1_greatestAuthor cX1_greatestAuthor 5 (some .int) RX1 0 := ⟨wq_t 284 (by decide +kernel) (by decide +kernel), wq_t 285 (by decide +kernel) (by decide +kernel), wq_t 2 (by decide +kernel) (by decide +kernel), wq_t 286 (by decide +kernel) (by decide +kernel), by decide +kernel⟩
theorem cw_X1_stepSum : CWV yX1_stepSum cX1_stepSum 3 (some .int) RX1 0 := ⟨wq_t 292 (by decide +kernel) (by decide +kernel), wq_t 293 (by decide +kernel) (by decide +kernel), wq_t 2 (by decide +kernel) (by decide +kernel), wq_t 294 (by decide +kernel) (by decide +kernel), by decide +kernel⟩
theorem cw_X1_heldCount : CWV yX1_heldCount cX1_heldCount 3 (some .int) RX1 0 := ⟨wq_t 654 (by decide +kernel) (by decide +kernel), wq_t 655 (by decide +kernel) (by decide +kernel), wq_t 2 (by decide +kernel) (by decide +kernel), wq_t 656 (by decide +kernel) (by decide +kernel), by decide +kernel⟩
theorem cw_X2_hasRoom : CWV yX2_hasRoom cX2_hasRoom 2 (some .boolean) RX2 1 := ⟨wq_t 453 (by decide +kernel) (by decide +kernel), wq_t 454 (by decide +kernel) (by decide +kernel), wq_t 3 (by decide +kernel) (by decide +kernel), wq_t 455 (by decide +kernel) (by decide +kernel), by decide +kernel⟩
theorem cw_X2_append : CWV yX2_append cX2_append 2 none RX2 1 := ⟨wq_t 457 (by decide +kernel) (by decide +kernel), wq_t 458 (by decide +kernel) (by decide +kernel), wq_t 3 (by decide +kernel) (by decide +kernel), wq_t 459 (by decide +kernel) (by decide +kernel), by decide +kernel⟩
theorem cw_X2_readText : CWV yX2_readText cX2_readText 3 (some .int) RX2 1 := ⟨wq_t 469 (by decide +kernel) (by decide +kernel), wq_t 470 (by decide +kernel) (by decide +kernel), wq_t 3 (by decide +kernel) (by decide +kernel), wq_t 471 (by decide +kernel) (by decide +kernel), by decide +kernel⟩
theorem cw_X2_readItem : CWV yX2_readItem cX2_readItem 3 (some .boolean) RX2 1 := ⟨wq_t 482 (by decide +kernel) (by decide +kernel), wq_p 11 (by decide +kernel) (by decide +kernel), wq_t 3 (by decide +kernel) (by decide +kernel), wq_t 483 (by decide +kernel) (by decide +kernel), by decide +kernel⟩
theorem cw_X2_readWalker : CWV yX2_readWalker cX2_readWalker 4 (some .boolean) RX2 2 := ⟨wq_t 552 (by decide +kernel) (by decide +kernel), wq_p 14 (by decide +kernel) (by decide +kernel), wq_t 3 (by decide +kernel) (by decide +kernel), wq_t 553 (by decide +kernel) (by decide +kernel), by decide +kernel⟩
theorem cw_X2_readTrait : CWV yX2_readTrait cX2_readTrait 5 (some .boolean) RX2 4 := ⟨wq_t 559 (by decide +kernel) (by decide +kernel), wq_p 15 (by decide +kernel) (by decide +kernel), wq_t 3 (by decide +kernel) (by decide +kernel), wq_t 560 (by decide +kernel) (by decide +kernel), by decide +kernel⟩
theorem cw_X2_readReach : CWV yX2_readReach cX2_readReach 2 (some .boolean) RX2 1 := ⟨wq_t 574 (by decide +kernel) (by decide +kernel), wq_p 17 (by decide +kernel) (by decide +kernel), wq_t 3 (by decide +kernel) (by decide +kernel), wq_t 575 (by decide +kernel) (by decide +kernel), by decide +kernel⟩
theorem cw_X2_readPrint : CWV yX2_readPrint cX2_readPrint 6 (some .boolean) RX2 1 := ⟨wq_t 579 (by decide +kernel) (by decide +kernel), wq_p 18 (by decide +kernel) (by decide +kernel), wq_t 3 (by decide +kernel) (by decide +kernel), wq_t 580 (by decide +kernel) (by decide +kernel), by decide +kernel⟩
theorem cw_X2_isNumber : CWV yX2_isNumber cX2_isNumber 3 (some .boolean) RX2 2 := ⟨wq_t 565 (by decide +kernel) (by decide +kernel), wq_p 16 (by decide +kernel) (by decide +kernel), wq_t 3 (by decide +kernel) (by decide +kernel), wq_t 566 (by decide +kernel) (by decide +kernel), by decide +kernel⟩
theorem cw_X2_isWord : CWV yX2_isWord cX2_isWord 3 (some .boolean) RX2 1 := ⟨wq_t 500 (by decide +kernel) (by decide +kernel), wq_p 13 (by decide +kernel) (by decide +kernel), wq_t 3 (by decide +kernel) (by decide +kernel), wq_t 501 (by decide +kernel) (by decide +kernel), by decide +kernel⟩
theorem cw_X2_kindOfWord : CWV yX2_kindOfWord cX2_kindOfWord 2 (some .int) RX2 0 := ⟨wq_t 486 (by decide +kernel) (by decide +kernel), wq_p 12 (by decide +kernel) (by decide +kernel), wq_t 3 (by decide +kernel) (by decide +kernel), wq_t 487 (by decide +kernel) (by decide +kernel), by decide +kernel⟩
theorem cw_X2_wordOfKind : CWS yX2_wordOfKind cX2_wordOfKind 1 (some (.object "java/lang/String")) 1 := ⟨wq_t 489 (by decide +kernel) (by decide +kernel), wq_t 3 (by decide +kernel) (by decide +kernel), wq_t 490 (by decide +kernel) (by decide +kernel), by decide +kernel⟩
theorem cw_X2_step : CWV yX2_step cX2_step 3 none RX2 0 := ⟨wq_t 474 (by decide +kernel) (by decide +kernel), wq_p 10 (by decide +kernel) (by decide +kernel), wq_t 3 (by decide +kernel) (by decide +kernel), wq_t 475 (by decide +kernel) (by decide +kernel), by decide +kernel⟩
theorem cw_X2_tokenOfByte : CWS yX2_tokenOfByte cX2_tokenOfByte 1 (some .int) 1 := ⟨wq_t 477 (by decide +kernel) (by decide +kernel), wq_t 3 (by decide +kernel) (by decide +kernel), wq_t 478 (by decide +kernel) (by decide +kernel), by decide +kernel⟩
theorem cw_X3_cell : CWV yX3_cell cX3_cell 3 (some .int) RX3 2 := ⟨wq_t 135 (by decide +kernel) (by decide +kernel), wq_t 136 (by decide +kernel) (by decide +kernel), wq_t 1 (by decide +kernel) (by decide +kernel), wq_t 137 (by decide +kernel) (by decide +kernel), by decide +kernel⟩
theorem cw_X3_print : CWV yX3_print cX3_print 5 (some .int) RX3 3 := ⟨wq_t 154 (by decide +kernel) (by decide +kernel), wq_t 155 (by decide +kernel) (by decide +kernel), wq_t 1 (by decide +kernel) (by decide +kernel), wq_t 156 (by decide +kernel) (by decide +kernel), by decide +kernel⟩
theorem cw_X3_reach : CWV yX3_reach cX3_reach 3 (some .int) RX3 1 := ⟨wq_t 172 (by decide +kernel) (by decide +kernel), wq_t 173 (by decide +kernel) (by decide +kernel), wq_t 1 (by decide +kernel) (by decide +kernel), wq_t 174 (by decide +kernel) (by decide +kernel), by decide +kernel⟩
theorem cw_X3_tide : CWV yX3_tide cX3_tide 1 (some .int) RX3 0 := ⟨wq_t 176 (by decide +kernel) (by decide +kernel), wq_t 177 (by decide +kernel) (by decide +kernel), wq_t 1 (by decide +kernel) (by decide +kernel), wq_t 178 (by decide +kernel) (by decide +kernel), by decide +kernel⟩
theorem cw_X3_walker : CWV yX3_walker cX3_walker 3 (some .int) RX3 2 := ⟨wq_t 185 (by decide +kernel) (by decide +kernel), wq_t 186 (by decide +kernel) (by decide +kernel), wq_t 1 (by decide +kernel) (by decide +kernel), wq_t 187 (by decide +kernel) (by decide +kernel), by decide +kernel⟩
theorem cw_X3_of : CWV yX3_of cX3_of 3 (some .int) RX3 2 := ⟨wq_t 198 (by decide +kernel) (by decide +kernel), wq_t 199 (by decide +kernel) (by decide +kernel), wq_t 1 (by decide +kernel) (by decide +kernel), wq_t 200 (by decide +kernel) (by decide +kernel), by decide +kernel⟩
theorem cw_X3_change : CWV yX3_change cX3_change 5 (some .int) RX3 3 := ⟨wq_t 228 (by decide +kernel) (by decide +kernel), wq_t 229 (by decide +kernel) (by decide +kernel), wq_t 1 (by decide +kernel) (by decide +kernel), wq_t 230 (by decide +kernel) (by decide +kernel), by decide +kernel⟩
theorem cw_X3_go : CWV yX3_go cX3_go 2 (some .int) RX3 1 := ⟨wq_t 236 (by decide +kernel) (by decide +kernel), wq_t 237 (by decide +kernel) (by decide +kernel), wq_t 1 (by decide +kernel) (by decide +kernel), wq_t 238 (by decide +kernel) (by decide +kernel), by decide +kernel⟩
theorem cw_X3_now : CWV yX3_now cX3_now 2 (some .int) RX3 1 := ⟨wq_t 275 (by decide +kernel) (by decide +kernel), wq_t 276 (by decide +kernel) (by decide +kernel), wq_t 1 (by decide +kernel) (by decide +kernel), wq_t 277 (by decide +kernel) (by decide +kernel), by decide +kernel⟩
theorem cw_X3_line : CWV yX3_line cX3_line 2 (some .int) RX3 1 := ⟨wq_t 296 (by decide +kernel) (by decide +kernel), wq_t 297 (by decide +kernel) (by decide +kernel), wq_t 1 (by decide +kernel) (by decide +kernel), wq_t 298 (by decide +kernel) (by decide +kernel), by decide +kernel⟩
theorem cw_X3_ahead : CWV yX3_ahead cX3_ahead 4 (some .int) RX3 3 := ⟨wq_t 304 (by decide +kernel) (by decide +kernel), wq_t 305 (by decide +kernel) (by decide +kernel), wq_t 1 (by decide +kernel) (by decide +kernel), wq_t 306 (by decide +kernel) (by decide +kernel), by decide +kernel⟩
theorem cw_X3_work : CWV yX3_work cX3_work 3 (some .int) RX3 2 := ⟨wq_t 315 (by decide +kernel) (by decide +kernel), wq_t 316 (by decide +kernel) (by decide +kernel), wq_t 1 (by decide +kernel) (by decide +kernel), wq_t 317 (by decide +kernel) (by decide +kernel), by decide +kernel⟩
theorem cw_X3_when : CWV yX3_when cX3_when 3 (some .int) RX3 2 := ⟨wq_t 320 (by decide +kernel) (by decide +kernel), wq_t 321 (by decide +kernel) (by decide +kernel), wq_t 1 (by decide +kernel) (by decide +kernel), wq_t 322 (by decide +kernel) (by decide +kernel), by decide +kernel⟩
theorem cw_X3_gone : CWV yX3_gone cX3_gone 2 (some .int) RX3 1 := ⟨wq_t 330 (by decide +kernel) (by decide +kernel), wq_t 331 (by decide +kernel) (by decide +kernel), wq_t 1 (by decide +kernel) (by decide +kernel), wq_t 332 (by decide +kernel) (by decide +kernel), by decide +kernel⟩
theorem cw_X3_meet : CWV yX3_meet cX3_meet 4 (some .int) RX3 2 := ⟨wq_t 334 (by decide +kernel) (by decide +kernel), wq_t 335 (by decide +kernel) (by decide +kernel), wq_t 1 (by decide +kernel) (by decide +kernel), wq_t 336 (by decide +kernel) (by decide +kernel), by decide +kernel⟩
theorem cw_X3_strideFor : CWV yX3_strideFor cX3_strideFor 3 (some .int) RX3 2 := ⟨wq_t 338 (by decide +kernel) (by decide +kernel), wq_t 339 (by decide +kernel) (by decide +kernel), wq_t 1 (by decide +kernel) (by decide +kernel), wq_t 340 (by decide +kernel) (by decide +kernel), by decide +kernel⟩
theorem cw_X3_start : CWV yX3_start cX3_start 3 (some .int) RX3 2 := ⟨wq_t 350 (by decide +kernel) (by decide +kernel), wq_t 351 (by decide +kernel) (by decide +kernel), wq_t 1 (by decide +kernel) (by decide +kernel), wq_t 352 (by decide +kernel) (by decide +kernel), by decide +kernel⟩
theorem cw_X3_kindFor : CWV yX3_kindFor cX3_kindFor 3 (some .int) RX3 2 := ⟨wq_t 354 (by decide +kernel) (by decide +kernel), wq_t 355 (by decide +kernel) (by decide +kernel), wq_t 1 (by decide +kernel) (by decide +kernel), wq_t 356 (by decide +kernel) (by decide +kernel), by decide +kernel⟩
theorem cw_X3_reachFor : CWV yX3_reachFor cX3_reachFor 4 (some .int) RX3 2 := ⟨wq_t 358 (by decide +kernel) (by decide +kernel), wq_t 359 (by decide +kernel) (by decide +kernel), wq_t 1 (by decide +kernel) (by decide +kernel), wq_t 360 (by decide +kernel) (by decide +kernel), by decide +kernel⟩
theorem cw_X3_weightFor : CWV yX3_weightFor cX3_weightFor 5 (some .int) RX3 3 := ⟨wq_t 362 (by decide +kernel) (by decide +kernel), wq_t 363 (by decide +kernel) (by decide +kernel), wq_t 1 (by decide +kernel) (by decide +kernel), wq_t 364 (by decide +kernel) (by decide +kernel), by decide +kernel⟩
theorem cw_X3_away : CWV yX3_away cX3_away 7 (some .int) RX3 2 := ⟨wq_t 366 (by decide +kernel) (by decide +kernel), wq_t 367 (by decide +kernel) (by decide +kernel), wq_t 1 (by decide +kernel) (by decide +kernel), wq_t 368 (by decide +kernel) (by decide +kernel), by decide +kernel⟩
theorem cw_X3_censor : CWV yX3_censor cX3_censor 5 (some .int) RX3 1 := ⟨wq_t 375 (by decide +kernel) (by decide +kernel), wq_t 376 (by decide +kernel) (by decide +kernel), wq_t 1 (by decide +kernel) (by decide +kernel), wq_t 377 (by decide +kernel) (by decide +kernel), by decide +kernel⟩
theorem cw_X3_fits : CWV yX3_fits cX3_fits 5 (some .int) RX3 3 := ⟨wq_t 380 (by decide +kernel) (by decide +kernel), wq_t 381 (by decide +kernel) (by decide +kernel), wq_t 1 (by decide +kernel) (by decide +kernel), wq_t 382 (by decide +kernel) (by decide +kernel), by decide +kernel⟩
theorem cw_X3_strode : CWV yX3_strode cX3_strode 6 (some .int) RX3 3 := ⟨wq_t 411 (by decide +kernel) (by decide +kernel), wq_t 412 (by decide +kernel) (by decide +kernel), wq_t 1 (by decide +kernel) (by decide +kernel), wq_t 413 (by decide +kernel) (by decide +kernel), by decide +kernel⟩
theorem cw_X3_kinds : CWV yX3_kinds cX3_kinds 5 (some .int) RX3 3 := ⟨wq_t 419 (by decide +kernel) (by decide +kernel), wq_t 420 (by decide +kernel) (by decide +kernel), wq_t 1 (by decide +kernel) (by decide +kernel), wq_t 421 (by decide +kernel) (by decide +kernel), by decide +kernel⟩
theorem cw_X3_tides : CWV yX3_tides cX3_tides 3 (some .int) RX3 1 := ⟨wq_t 423 (by decide +kernel) (by decide +kernel), wq_t 424 (by decide +kernel) (by decide +kernel), wq_t 1 (by decide +kernel) (by decide +kernel), wq_t 425 (by decide +kernel) (by decide +kernel), by decide +kernel⟩
theorem cw_X3_odds : CWV yX3_odds cX3_odds 6 (some .long) RX3 3 := ⟨wq_t 438 (by decide +kernel) (by decide +kernel), wq_t 439 (by decide +kernel) (by decide +kernel), wq_t 1 (by decide +kernel) (by decide +kernel), wq_t 440 (by decide +kernel) (by decide +kernel), by decide +kernel⟩
theorem cw_X3_seed : CWV yX3_seed cX3_seed 3 (some .int) RX3 1 := ⟨wq_t 445 (by decide +kernel) (by decide +kernel), wq_t 446 (by decide +kernel) (by decide +kernel), wq_t 1 (by decide +kernel) (by decide +kernel), wq_t 447 (by decide +kernel) (by decide +kernel), by decide +kernel⟩
theorem cw_X3_feed : CWV yX3_feed cX3_feed 4 (some .int) RX3 2 := ⟨wq_t 449 (by decide +kernel) (by decide +kernel), wq_t 450 (by decide +kernel) (by decide +kernel), wq_t 1 (by decide +kernel) (by decide +kernel), wq_t 451 (by decide +kernel) (by decide +kernel), by decide +kernel⟩
theorem cw_X3_wipe : CWV yX3_wipe cX3_wipe 2 (some .int) RX3 0 := ⟨wq_t 461 (by decide +kernel) (by decide +kernel), wq_t 462 (by decide +kernel) (by decide +kernel), wq_t 1 (by decide +kernel) (by decide +kernel), wq_t 463 (by decide +kernel) (by decide +kernel), by decide +kernel⟩
theorem cw_X3_text : CWV yX3_text cX3_text 2 (some .int) RX3 0 := ⟨wq_t 465 (by decide +kernel) (by decide +kernel), wq_t 466 (by decide +kernel) (by decide +kernel), wq_t 1 (by decide +kernel) (by decide +kernel), wq_t 467 (by decide +kernel) (by decide +kernel), by decide +kernel⟩
theorem cw_X3_hold : CWV yX3_hold cX3_hold 3 (some .int) RX3 2 := ⟨wq_t 584 (by decide +kernel) (by decide +kernel), wq_t 585 (by decide +kernel) (by decide +kernel), wq_t 1 (by decide +kernel) (by decide +kernel), wq_t 586 (by decide +kernel) (by decide +kernel), by decide +kernel⟩
theorem cw_X3_as : CWV yX3_as cX3_as 4 (some .int) RX3 2 := ⟨wq_t 588 (by decide +kernel) (by decide +kernel), wq_t 589 (by decide +kernel) (by decide +kernel), wq_t 1 (by decide +kernel) (by decide +kernel), wq_t 590 (by decide +kernel) (by decide +kernel), by decide +kernel⟩
theorem cw_X3_sheet : CWV yX3_sheet cX3_sheet 4 (some .int) RX3 3 := ⟨wq_t 599 (by decide +kernel) (by decide +kernel), wq_t 600 (by decide +kernel) (by decide +kernel), wq_t 1 (by decide +kernel) (by decide +kernel), wq_t 601 (by decide +kernel) (by decide +kernel), by decide +kernel⟩
theorem cw_X3_write : CWV yX3_write cX3_write 5 (some .int) RX3 3 := ⟨wq_t 612 (by decide +kernel) (by decide +kernel), wq_t 613 (by decide +kernel) (by decide +kernel), wq_t 1 (by decide +kernel) (by decide +kernel), wq_t 614 (by decide +kernel) (by decide +kernel), by decide +kernel⟩
theorem cw_X3_copy : CWV yX3_copy cX3_copy 6 (some .int) RX3 5 := ⟨wq_t 620 (by decide +kernel) (by decide +kernel), wq_t 621 (by decide +kernel) (by decide +kernel), wq_t 1 (by decide +kernel) (by decide +kernel), wq_t 622 (by decide +kernel) (by decide +kernel), by decide +kernel⟩
theorem cw_X3_load : CWV yX3_load cX3_load 6 (some .int) RX3 1 := ⟨wq_t 630 (by decide +kernel) (by decide +kernel), wq_t 631 (by decide +kernel) (by decide +kernel), wq_t 1 (by decide +kernel) (by decide +kernel), wq_t 632 (by decide +kernel) (by decide +kernel), by decide +kernel⟩
theorem cw_X3_judge : CWV yX3_judge cX3_judge 4 (some .int) RX3 1 := ⟨wq_t 634 (by decide +kernel) (by decide +kernel), wq_t 635 (by decide +kernel) (by decide +kernel), wq_t 1 (by decide +kernel) (by decide +kernel), wq_t 636 (by decide +kernel) (by decide +kernel), by decide +kernel⟩
theorem cw_X3_image : CWV yX3_image cX3_image 1 (some .int) RX3 0 := ⟨wq_t 638 (by decide +kernel) (by decide +kernel), wq_t 639 (by decide +kernel) (by decide +kernel), wq_t 1 (by decide +kernel) (by decide +kernel), wq_t 640 (by decide +kernel) (by decide +kernel), by decide +kernel⟩
theorem cw_X3_undo : CWV yX3_undo cX3_undo 1 (some .int) RX3 0 := ⟨wq_t 642 (by decide +kernel) (by decide +kernel), wq_t 643 (by decide +kernel) (by decide +kernel), wq_t 1 (by decide +kernel) (by decide +kernel), wq_t 644 (by decide +kernel) (by decide +kernel), by decide +kernel⟩
theorem cw_X3_tear : CWV yX3_tear cX3_tear 2 (some .int) RX3 0 := ⟨wq_t 646 (by decide +kernel) (by decide +kernel), wq_t 647 (by decide +kernel) (by decide +kernel), wq_t 1 (by decide +kernel) (by decide +kernel), wq_t 648 (by decide +kernel) (by decide +kernel), by decide +kernel⟩
theorem cw_X3_count : CWV yX3_count cX3_count 2 (some .int) RX3 1 := ⟨wq_t 650 (by decide +kernel) (by decide +kernel), wq_t 651 (by decide +kernel) (by decide +kernel), wq_t 1 (by decide +kernel) (by decide +kernel), wq_t 652 (by decide +kernel) (by decide +kernel), by decide +kernel⟩
theorem cw_X3_status : CWV yX3_status cX3_status 4 (some .int) RX3 1 := ⟨wq_t 658 (by decide +kernel) (by decide +kernel), wq_t 659 (by decide +kernel) (by decide +kernel), wq_t 1 (by decide +kernel) (by decide +kernel), wq_t 660 (by decide +kernel) (by decide +kernel), by decide +kernel⟩
theorem cw_X3_tell : CWV yX3_tell cX3_tell 3 (some .int) RX3 1 := ⟨wq_t 147 (by decide +kernel) (by decide +kernel), wq_p 0 (by decide +kernel) (by decide +kernel), wq_t 1 (by decide +kernel) (by decide +kernel), wq_t 148 (by decide +kernel) (by decide +kernel), by decide +kernel⟩
theorem cw_X3_within : CWS yX3_within cX3_within 3 (some .boolean) 3 := ⟨wq_t 142 (by decide +kernel) (by decide +kernel), wq_t 1 (by decide +kernel) (by decide +kernel), wq_t 143 (by decide +kernel) (by decide +kernel), by decide +kernel⟩
theorem cw_X3_isCell : CWS yX3_isCell cX3_isCell 1 (some .boolean) 1 := ⟨wq_t 139 (by decide +kernel) (by decide +kernel), wq_t 1 (by decide +kernel) (by decide +kernel), wq_t 140 (by decide +kernel) (by decide +kernel), by decide +kernel⟩
theorem cw_X3_isUnder : CWS yX3_isUnder cX3_isUnder 4 (some .boolean) 2 := ⟨wq_t 593 (by decide +kernel) (by decide +kernel), wq_t 1 (by decide +kernel) (by decide +kernel), wq_t 594 (by decide +kernel) (by decide +kernel), by decide +kernel⟩
theorem cw_X3_power : CWS yX3_power cX3_power 6 (some .long) 2 := ⟨wq_t 442 (by decide +kernel) (by decide +kernel), wq_t 1 (by decide +kernel) (by decide +kernel), wq_t 443 (by decide +kernel) (by decide +kernel), by decide +kernel⟩
theorem cw_X3_hoursUntilWhose : CWV yX3_hoursUntilWhose cX3_hoursUntilWhose 4 (some .int) RX3 2 := ⟨wq_t 325 (by decide +kernel) (by decide +kernel), wq_p 2 (by decide +kernel) (by decide +kernel), wq_t 1 (by decide +kernel) (by decide +kernel), wq_t 326 (by decide +kernel) (by decide +kernel), by decide +kernel⟩
theorem cw_X3_tryTrait : CWV yX3_tryTrait cX3_tryTrait 5 none RX3 4 := ⟨wq_t 347 (by decide +kernel) (by decide +kernel), wq_p 4 (by decide +kernel) (by decide +kernel), wq_t 1 (by decide +kernel) (by decide +kernel), wq_t 348 (by decide +kernel) (by decide +kernel), by decide +kernel⟩
theorem cw_X3_traitForMostWork : CWV yX3_traitForMostWork cX3_traitForMostWork 8 (some .int) RX3 3 := ⟨wq_t 343 (by decide +kernel) (by decide +kernel), wq_p 3 (by decide +kernel) (by decide +kernel), wq_t 1 (by decide +kernel) (by decide +kernel), wq_t 344 (by decide +kernel) (by decide +kernel), by decide +kernel⟩
theorem cw_X3_staysWithout : CWV yX3_staysWithout cX3_staysWithout 4 (some .boolean) RX3 3 := ⟨wq_t 372 (by decide +kernel) (by decide +kernel), wq_p 5 (by decide +kernel) (by decide +kernel), wq_t 1 (by decide +kernel) (by decide +kernel), wq_t 373 (by decide +kernel) (by decide +kernel), by decide +kernel⟩
theorem cw_X3_guessFinding : CWV yX3_guessFinding cX3_guessFinding 5 (some .int) RX3 3 := ⟨wq_t 385 (by decide +kernel) (by decide +kernel), wq_p 6 (by decide +kernel) (by decide +kernel), wq_t 1 (by decide +kernel) (by decide +kernel), wq_t 386 (by decide +kernel) (by decide +kernel), by decide +kernel⟩
theorem cw_X3_fittingSet : CWV yX3_fittingSet cX3_fittingSet 7 (some .int) RX3 4 := ⟨wq_t 403 (by decide +kernel) (by decide +kernel), wq_p 7 (by decide +kernel) (by decide +kernel), wq_t 1 (by decide +kernel) (by decide +kernel), wq_t 404 (by decide +kernel) (by decide +kernel), by decide +kernel⟩
theorem cw_X3_trialIsAsTold : CWV yX3_trialIsAsTold cX3_trialIsAsTold 7 (some .boolean) RX3 2 := ⟨wq_t 407 (by decide +kernel) (by decide +kernel), wq_p 8 (by decide +kernel) (by decide +kernel), wq_t 1 (by decide +kernel) (by decide +kernel), wq_t 408 (by decide +kernel) (by decide +kernel), by decide +kernel⟩
theorem cw_X4_finds : CWV yX4_finds cX4_finds 2 (some .int) RX4 1 := ⟨wq_t 727 (by decide +kernel) (by decide +kernel), wq_p 19 (by decide +kernel) (by decide +kernel), wq_t 5 (by decide +kernel) (by decide +kernel), wq_t 728 (by decide +kernel) (by decide +kernel), by decide +kernel⟩
theorem cw_X4_in : CWS yX4_in cX4_in 6 (some .boolean) 3 := ⟨wq_t 722 (by decide +kernel) (by decide +kernel), wq_t 5 (by decide +kernel) (by decide +kernel), wq_t 723 (by decide +kernel) (by decide +kernel), by decide +kernel⟩
theorem cw_X4_become : CWS yX4_become cX4_become 3 none 2 := ⟨wq_t 873 (by decide +kernel) (by decide +kernel), wq_t 5 (by decide +kernel) (by decide +kernel), wq_t 874 (by decide +kernel) (by decide +kernel), by decide +kernel⟩
theorem cw_X4_lends : CWV yX4_lends cX4_lends 1 none RX4 0 := ⟨wq_t 870 (by decide +kernel) (by decide +kernel), wq_p 39 (by decide +kernel) (by decide +kernel), wq_t 5 (by decide +kernel) (by decide +kernel), wq_t 871 (by decide +kernel) (by decide +kernel), by decide +kernel⟩
theorem cw_X4_laysBack : CWV yX4_laysBack cX4_laysBack 1 none RX4 0 := ⟨wq_t 877 (by decide +kernel) (by decide +kernel), wq_p 40 (by decide +kernel) (by decide +kernel), wq_t 5 (by decide +kernel) (by decide +kernel), wq_t 878 (by decide +kernel) (by decide +kernel), by decide +kernel⟩
theorem cw_X4_isWalker : CWV yX4_isWalker cX4_isWalker 2 (some .boolean) RX4 1 := ⟨wq_t 744 (by decide +kernel) (by decide +kernel), wq_p 22 (by decide +kernel) (by decide +kernel), wq_t 5 (by decide +kernel) (by decide +kernel), wq_t 745 (by decide +kernel) (by decide +kernel), by decide +kernel⟩
theorem cw_X4_isCell : CWS yX4_isCell cX4_isCell 1 (some .boolean) 1 := ⟨wq_t 718 (by decide +kernel) (by decide +kernel), wq_t 5 (by decide +kernel) (by decide +kernel), wq_t 719 (by decide +kernel) (by decide +kernel), by decide +kernel⟩
theorem cw_X4_its : CWV yX4_its cX4_its 3 (some .int) RX4 2 := ⟨wq_t 736 (by decide +kernel) (by decide +kernel), wq_p 21 (by decide +kernel) (by decide +kernel), wq_t 5 (by decide +kernel) (by decide +kernel), wq_t 737 (by decide +kernel) (by decide +kernel), by decide +kernel⟩
theorem cw_X4_sets : CWV yX4_sets cX4_sets 4 none RX4 3 := ⟨wq_t 782 (by decide +kernel) (by decide +kernel), wq_p 27 (by decide +kernel) (by decide +kernel), wq_t 5 (by decide +kernel) (by decide +kernel), wq_t 783 (by decide +kernel) (by decide +kernel), by decide +kernel⟩
theorem cw_X4_becomes : CWV yX4_becomes cX4_becomes 4 (some .int) RX4 2 := ⟨wq_t 758 (by decide +kernel) (by decide +kernel), wq_p 24 (by decide +kernel) (by decide +kernel), wq_t 5 (by decide +kernel) (by decide +kernel), wq_t 759 (by decide +kernel) (by decide +kernel), by decide +kernel⟩
theorem cw_X4_ones : CWS yX4_ones cX4_ones 3 (some .int) 1 := ⟨wq_t 837 (by decide +kernel) (by decide +kernel), wq_t 5 (by decide +kernel) (by decide +kernel), wq_t 838 (by decide +kernel) (by decide +kernel), by decide +kernel⟩
theorem cw_X4_aboveOf : CWS yX4_aboveOf cX4_aboveOf 1 (some .int) 1 := ⟨wq_t 1082 (by decide +kernel) (by decide +kernel), wq_t 5 (by decide +kernel) (by decide +kernel), wq_t 1083 (by decide +kernel) (by decide +kernel), by decide +kernel⟩
theorem cw_X4_isUnder : CWS yX4_isUnder cX4_isUnder 3 (some .boolean) 2 := ⟨wq_t 1079 (by decide +kernel) (by decide +kernel), wq_t 5 (by decide +kernel) (by decide +kernel), wq_t 1080 (by decide +kernel) (by decide +kernel), by decide +kernel⟩
theorem cw_X4_isKind : CWS yX4_isKind cX4_isKind 1 (some .boolean) 1 := ⟨wq_t 773 (by decide +kernel) (by decide +kernel), wq_t 5 (by decide +kernel) (by decide +kernel), wq_t 774 (by decide +kernel) (by decide +kernel), by decide +kernel⟩
theorem cw_X4_strides : CWV yX4_strides cX4_strides 4 (some .int) RX4 1 := ⟨wq_t 790 (by decide +kernel) (by decide +kernel), wq_p 28 (by decide +kernel) (by decide +kernel), wq_t 5 (by decide +kernel) (by decide +kernel), wq_t 791 (by decide +kernel) (by decide +kernel), by decide +kernel⟩
theorem cw_X4_presses : CWV yX4_presses cX4_presses 4 (some .int) RX4 1 := ⟨wq_t 794 (by decide +kernel) (by decide +kernel), wq_p 29 (by decide +kernel) (by decide +kernel), wq_t 5 (by decide +kernel) (by decide +kernel), wq_t 795 (by decide +kernel) (by decide +kernel), by decide +kernel⟩
theorem cw_X4_looks : CWV yX4_looks cX4_looks 2 (some .int) RX4 1 := ⟨wq_t 800 (by decide +kernel) (by decide +kernel), wq_p 30 (by decide +kernel) (by decide +kernel), wq_t 5 (by decide +kernel) (by decide +kernel), wq_t 801 (by decide +kernel) (by decide +kernel), by decide +kernel⟩
theorem cw_X4_workOf : CWV yX4_workOf cX4_workOf 4 (some .int) RX4 1 := ⟨wq_t 804 (by decide +kernel) (by decide +kernel), wq_p 31 (by decide +kernel) (by decide +kernel), wq_t 5 (by decide +kernel) (by decide +kernel), wq_t 805 (by decide +kernel) (by decide +kernel), by decide +kernel⟩
theorem cw_X4_adds : CWV yX4_adds cX4_adds 4 (some .int) RX4 2 := ⟨wq_t 778 (by decide +kernel) (by decide +kernel), wq_p 26 (by decide +kernel) (by decide +kernel), wq_t 5 (by decide +kernel) (by decide +kernel), wq_t 779 (by decide +kernel) (by decide +kernel), by decide +kernel⟩
theorem cw_X4_walkersAt : CWV yX4_walkersAt cX4_walkersAt 4 (some .int) RX4 1 := ⟨wq_t 732 (by decide +kernel) (by decide +kernel), wq_p 20 (by decide +kernel) (by decide +kernel), wq_t 5 (by decide +kernel) (by decide +kernel), wq_t 733 (by decide +kernel) (by decide +kernel), by decide +kernel⟩
theorem cw_X4_cell : CWV yX4_cell cX4_cell 3 (some .int) RX4 2 := ⟨wq_t 714 (by decide +kernel) (by decide +kernel), wq_t 715 (by decide +kernel) (by decide +kernel), wq_t 5 (by decide +kernel) (by decide +kernel), wq_t 716 (by decide +kernel) (by decide +kernel), by decide +kernel⟩
theorem cw_X4_prints : CWV yX4_prints cX4_prints 5 none RX4 4 := ⟨wq_t 749 (by decide +kernel) (by decide +kernel), wq_p 23 (by decide +kernel) (by decide +kernel), wq_t 5 (by decide +kernel) (by decide +kernel), wq_t 750 (by decide +kernel) (by decide +kernel), by decide +kernel⟩
theorem cw_X4_print : CWV yX4_print cX4_print 5 (some .int) RX4 3 := ⟨wq_t 739 (by decide +kernel) (by decide +kernel), wq_t 740 (by decide +kernel) (by decide +kernel), wq_t 5 (by decide +kernel) (by decide +kernel), wq_t 741 (by decide +kernel) (by decide +kernel), by decide +kernel⟩
theorem cw_X4_reach : CWV yX4_reach cX4_reach 2 (some .int) RX4 1 := ⟨wq_t 752 (by decide +kernel) (by decide +kernel), wq_t 753 (by decide +kernel) (by decide +kernel), wq_t 5 (by decide +kernel) (by decide +kernel), wq_t 754 (by decide +kernel) (by decide +kernel), by decide +kernel⟩
theorem cw_X4_theTide : CWV yX4_theTide cX4_theTide 3 (some .int) RX4 0 := ⟨wq_t 766 (by decide +kernel) (by decide +kernel), wq_p 25 (by decide +kernel) (by decide +kernel), wq_t 5 (by decide +kernel) (by decide +kernel), wq_t 767 (by decide +kernel) (by decide +kernel), by decide +kernel⟩
theorem cw_X4_tide : CWV yX4_tide cX4_tide 1 (some .int) RX4 0 := ⟨wq_t 761 (by decide +kernel) (by decide +kernel), wq_t 762 (by decide +kernel) (by decide +kernel), wq_t 5 (by decide +kernel) (by decide +kernel), wq_t 763 (by decide +kernel) (by decide +kernel), by decide +kernel⟩
theorem cw_X4_walker : CWV yX4_walker cX4_walker 3 (some .int) RX4 2 := ⟨wq_t 769 (by decide +kernel) (by decide +kernel), wq_t 770 (by decide +kernel) (by decide +kernel), wq_t 5 (by decide +kernel) (by decide +kernel), wq_t 771 (by decide +kernel) (by decide +kernel), by decide +kernel⟩
theorem cw_X4_of : CWV yX4_of cX4_of 3 (some .int) RX4 2 := ⟨wq_t 785 (by decide +kernel) (by decide +kernel), wq_t 786 (by decide +kernel) (by decide +kernel), wq_t 5 (by decide +kernel) (by decide +kernel), wq_t 787 (by decide +kernel) (by decide +kernel), by decide +kernel⟩
theorem cw_X4_mayBe : CWS yX4_mayBe cX4_mayBe 2 (some .boolean) 2 := ⟨wq_t 811 (by decide +kernel) (by decide +kernel), wq_t 5 (by decide +kernel) (by decide +kernel), wq_t 812 (by decide +kernel) (by decide +kernel), by decide +kernel⟩
theorem cw_X4_change : CWV yX4_change cX4_change 4 (some .int) RX4 3 := ⟨wq_t 807 (by decide +kernel) (by decide +kernel), wq_t 808 (by decide +kernel) (by decide +kernel), wq_t 5 (by decide +kernel) (by decide +kernel), wq_t 809 (by decide +kernel) (by decide +kernel), by decide +kernel⟩
theorem cw_X4_goes : CWV yX4_goes cX4_goes 5 none RX4 1 := ⟨wq_t 830 (by decide +kernel) (by decide +kernel), wq_p 34 (by decide +kernel) (by decide +kernel), wq_t 5 (by decide +kernel) (by decide +kernel), wq_t 831 (by decide +kernel) (by decide +kernel), by decide +kernel⟩
theorem cw_X4_anHour : CWV yX4_anHour cX4_anHour 2 none RX4 0 := ⟨wq_t 826 (by decide +kernel) (by decide +kernel), wq_p 33 (by decide +kernel) (by decide +kernel), wq_t 5 (by decide +kernel) (by decide +kernel), wq_t 827 (by decide +kernel) (by decide +kernel), by decide +kernel⟩
theorem cw_X4_hours : CWV yX4_hours cX4_hours 3 none RX4 1 := ⟨wq_t 822 (by decide +kernel) (by decide +kernel), wq_p 32 (by decide +kernel) (by decide +kernel), wq_t 5 (by decide +kernel) (by decide +kernel), wq_t 823 (by decide +kernel) (by decide +kernel), by decide +kernel⟩
theorem cw_X4_printed : CWV yX4_printed cX4_printed 3 (some .int) RX4 0 := ⟨wq_t 834 (by decide +kernel) (by decide +kernel), wq_p 35 (by decide +kernel) (by decide +kernel), wq_t 5 (by decide +kernel) (by decide +kernel), wq_t 835 (by decide +kernel) (by decide +kernel), by decide +kernel⟩
theorem cw_X4_go : CWV yX4_go cX4_go 2 (some .int) RX4 1 := ⟨wq_t 815 (by decide +kernel) (by decide +kernel), wq_t 816 (by decide +kernel) (by decide +kernel), wq_t 5 (by decide +kernel) (by decide +kernel), wq_t 817 (by decide +kernel) (by decide +kernel), by decide +kernel⟩
theorem cw_X4_depths : CWV yX4_depths cX4_depths 3 (some .int) RX4 0 := ⟨wq_t 845 (by decide +kernel) (by decide +kernel), wq_p 36 (by decide +kernel) (by decide +kernel), wq_t 5 (by decide +kernel) (by decide +kernel), wq_t 846 (by decide +kernel) (by decide +kernel), by decide +kernel⟩
theorem cw_X4_greatest : CWV yX4_greatest cX4_greatest 3 (some .int) RX4 0 := ⟨wq_t 849 (by decide +kernel) (by decide +kernel), wq_p 37 (by decide +kernel) (by decide +kernel), wq_t 5 (by decide +kernel) (by decide +kernel), wq_t 850 (by decide +kernel) (by decide +kernel), by decide +kernel⟩
theorem cw_X4_allSteps : CWV yX4_allSteps cX4_allSteps 3 (some .int) RX4 0 := ⟨wq_t 853 (by decide +kernel) (by decide +kernel), wq_p 38 (by decide +kernel) (by decide +kernel), wq_t 5 (by decide +kernel) (by decide +kernel), wq_t 854 (by decide +kernel) (by decide +kernel), by decide +kernel⟩
theorem cw_X4_now : CWV yX4_now cX4_now 2 (some .int) RX4 1 := ⟨wq_t 840 (by decide +kernel) (by decide +kernel), wq_t 841 (by decide +kernel) (by decide +kernel), wq_t 5 (by decide +kernel) (by decide +kernel), wq_t 842 (by decide +kernel) (by decide +kernel), by decide +kernel⟩
theorem cw_X4_line : CWV yX4_line cX4_line 5 (some .int) RX4 1 := ⟨wq_t 856 (by decide +kernel) (by decide +kernel), wq_t 857 (by decide +kernel) (by decide +kernel), wq_t 5 (by decide +kernel) (by decide +kernel), wq_t 858 (by decide +kernel) (by decide +kernel), by decide +kernel⟩
theorem cw_X4_isAhead : CWS yX4_isAhead cX4_isAhead 1 (some .boolean) 1 := ⟨wq_t 865 (by decide +kernel) (by decide +kernel), wq_t 5 (by decide +kernel) (by decide +kernel), wq_t 866 (by decide +kernel) (by decide +kernel), by decide +kernel⟩
theorem cw_X4_isSoon : CWS yX4_isSoon cX4_isSoon 1 (some .boolean) 1 := ⟨wq_t 912 (by decide +kernel) (by decide +kernel), wq_t 5 (by decide +kernel) (by decide +kernel), wq_t 913 (by decide +kernel) (by decide +kernel), by decide +kernel⟩
theorem cw_X4_orNone : CWV yX4_orNone cX4_orNone 3 (some .int) RX4 2 := ⟨wq_t 893 (by decide +kernel) (by decide +kernel), wq_p 42 (by decide +kernel) (by decide +kernel), wq_t 5 (by decide +kernel) (by decide +kernel), wq_t 894 (by decide +kernel) (by decide +kernel), by decide +kernel⟩
theorem cw_X4_ahead : CWV yX4_ahead cX4_ahead 5 (some .int) RX4 3 := ⟨wq_t 860 (by decide +kernel) (by decide +kernel), wq_t 861 (by decide +kernel) (by decide +kernel), wq_t 5 (by decide +kernel) (by decide +kernel), wq_t 862 (by decide +kernel) (by decide +kernel), by decide +kernel⟩
theorem cw_X4_workIn : CWV yX4_workIn cX4_workIn 4 (some .int) RX4 2 := ⟨wq_t 885 (by decide +kernel) (by decide +kernel), wq_p 41 (by decide +kernel) (by decide +kernel), wq_t 5 (by decide +kernel) (by decide +kernel), wq_t 886 (by decide +kernel) (by decide +kernel), by decide +kernel⟩
theorem cw_X4_work : CWV yX4_work cX4_work 3 (some .int) RX4 2 := ⟨wq_t 880 (by decide +kernel) (by decide +kernel), wq_t 881 (by decide +kernel) (by decide +kernel), wq_t 5 (by decide +kernel) (by decide +kernel), wq_t 882 (by decide +kernel) (by decide +kernel), by decide +kernel⟩
theorem cw_X4_when : CWV yX4_when cX4_when 4 (some .int) RX4 2 := ⟨wq_t 888 (by decide +kernel) (by decide +kernel), wq_t 889 (by decide +kernel) (by decide +kernel), wq_t 5 (by decide +kernel) (by decide +kernel), wq_t 890 (by decide +kernel) (by decide +kernel), by decide +kernel⟩
theorem cw_X4_gone : CWV yX4_gone cX4_gone 3 (some .int) RX4 1 := ⟨wq_t 896 (by decide +kernel) (by decide +kernel), wq_t 897 (by decide +kernel) (by decide +kernel), wq_t 5 (by decide +kernel) (by decide +kernel), wq_t 898 (by decide +kernel) (by decide +kernel), by decide +kernel⟩
theorem cw_X4_meet : CWV yX4_meet cX4_meet 4 (some .int) RX4 2 := ⟨wq_t 900 (by decide +kernel) (by decide +kernel), wq_t 901 (by decide +kernel) (by decide +kernel), wq_t 5 (by decide +kernel) (by decide +kernel), wq_t 902 (by decide +kernel) (by decide +kernel), by decide +kernel⟩
theorem cw_X4_bestBy : CWV yX4_bestBy cX4_bestBy 10 (some .int) RX4 5 := ⟨wq_t 917 (by decide +kernel) (by decide +kernel), wq_p 44 (by decide +kernel) (by decide +kernel), wq_t 5 (by decide +kernel) (by decide +kernel), wq_t 918 (by decide +kernel) (by decide +kernel), by decide +kernel⟩
theorem cw_X4_isAsked : CWV yX4_isAsked cX4_isAsked 3 (some .boolean) RX4 2 := ⟨wq_t 909 (by decide +kernel) (by decide +kernel), wq_p 43 (by decide +kernel) (by decide +kernel), wq_t 5 (by decide +kernel) (by decide +kernel), wq_t 910 (by decide +kernel) (by decide +kernel), by decide +kernel⟩
theorem cw_X4_strideFor : CWV yX4_strideFor cX4_strideFor 3 (some .int) RX4 2 := ⟨wq_t 904 (by decide +kernel) (by decide +kernel), wq_t 905 (by decide +kernel) (by decide +kernel), wq_t 5 (by decide +kernel) (by decide +kernel), wq_t 906 (by decide +kernel) (by decide +kernel), by decide +kernel⟩
theorem cw_X4_start : CWV yX4_start cX4_start 3 (some .int) RX4 2 := ⟨wq_t 920 (by decide +kernel) (by decide +kernel), wq_t 921 (by decide +kernel) (by decide +kernel), wq_t 5 (by decide +kernel) (by decide +kernel), wq_t 922 (by decide +kernel) (by decide +kernel), by decide +kernel⟩
theorem cw_X4_kindFor : CWV yX4_kindFor cX4_kindFor 3 (some .int) RX4 2 := ⟨wq_t 924 (by decide +kernel) (by decide +kernel), wq_t 925 (by decide +kernel) (by decide +kernel), wq_t 5 (by decide +kernel) (by decide +kernel), wq_t 926 (by decide +kernel) (by decide +kernel), by decide +kernel⟩
theorem cw_X4_whoseIn : CWV yX4_whoseIn cX4_whoseIn 4 (some .int) RX4 2 := ⟨wq_t 933 (by decide +kernel) (by decide +kernel), wq_p 45 (by decide +kernel) (by decide +kernel), wq_t 5 (by decide +kernel) (by decide +kernel), wq_t 934 (by decide +kernel) (by decide +kernel), by decide +kernel⟩
theorem cw_X4_reachFor : CWV yX4_reachFor cX4_reachFor 5 (some .int) RX4 2 := ⟨wq_t 928 (by decide +kernel) (by decide +kernel), wq_t 929 (by decide +kernel) (by decide +kernel), wq_t 5 (by decide +kernel) (by decide +kernel), wq_t 930 (by decide +kernel) (by decide +kernel), by decide +kernel⟩
theorem cw_X4_weightFor : CWV yX4_weightFor cX4_weightFor 6 (some .int) RX4 3 := ⟨wq_t 936 (by decide +kernel) (by decide +kernel), wq_t 937 (by decide +kernel) (by decide +kernel), wq_t 5 (by decide +kernel) (by decide +kernel), wq_t 938 (by decide +kernel) (by decide +kernel), by decide +kernel⟩
theorem cw_X4_away : CWV yX4_away cX4_away 5 (some .int) RX4 2 := ⟨wq_t 940 (by decide +kernel) (by decide +kernel), wq_t 941 (by decide +kernel) (by decide +kernel), wq_t 5 (by decide +kernel) (by decide +kernel), wq_t 942 (by decide +kernel) (by decide +kernel), by decide +kernel⟩
theorem cw_X4_censor : CWV yX4_censor cX4_censor 7 (some .int) RX4 1 := ⟨wq_t 945 (by decide +kernel) (by decide +kernel), wq_t 946 (by decide +kernel) (by decide +kernel), wq_t 5 (by decide +kernel) (by decide +kernel), wq_t 947 (by decide +kernel) (by decide +kernel), by decide +kernel⟩
theorem cw_X4_isSo : CWV yX4_isSo cX4_isSo 7 (some .boolean) RX4 3 := ⟨wq_t 969 (by decide +kernel) (by decide +kernel), wq_p 49 (by decide +kernel) (by decide +kernel), wq_t 5 (by decide +kernel) (by decide +kernel), wq_t 970 (by decide +kernel) (by decide +kernel), by decide +kernel⟩
theorem cw_X4_lacksAsked : CWV yX4_lacksAsked cX4_lacksAsked 5 (some .int) RX4 3 := ⟨wq_t 954 (by decide +kernel) (by decide +kernel), wq_p 46 (by decide +kernel) (by decide +kernel), wq_t 5 (by decide +kernel) (by decide +kernel), wq_t 955 (by decide +kernel) (by decide +kernel), by decide +kernel⟩
theorem cw_X4_thoseBy : CWV yX4_thoseBy cX4_thoseBy 9 (some .int) RX4 6 := ⟨wq_t 965 (by decide +kernel) (by decide +kernel), wq_p 48 (by decide +kernel) (by decide +kernel), wq_t 5 (by decide +kernel) (by decide +kernel), wq_t 966 (by decide +kernel) (by decide +kernel), by decide +kernel⟩
theorem cw_X4_fits : CWV yX4_fits cX4_fits 5 (some .int) RX4 3 := ⟨wq_t 949 (by decide +kernel) (by decide +kernel), wq_t 950 (by decide +kernel) (by decide +kernel), wq_t 5 (by decide +kernel) (by decide +kernel), wq_t 951 (by decide +kernel) (by decide +kernel), by decide +kernel⟩
theorem cw_X4_strode : CWV yX4_strode cX4_strode 7 (some .int) RX4 3 := ⟨wq_t 972 (by decide +kernel) (by decide +kernel), wq_t 973 (by decide +kernel) (by decide +kernel), wq_t 5 (by decide +kernel) (by decide +kernel), wq_t 974 (by decide +kernel) (by decide +kernel), by decide +kernel⟩
theorem cw_X4_kinds : CWV yX4_kinds cX4_kinds 5 (some .int) RX4 3 := ⟨wq_t 976 (by decide +kernel) (by decide +kernel), wq_t 977 (by decide +kernel) (by decide +kernel), wq_t 5 (by decide +kernel) (by decide +kernel), wq_t 978 (by decide +kernel) (by decide +kernel), by decide +kernel⟩
theorem cw_X4_draw : CWV yX4_draw cX4_draw 1 (some .int) RX4 0 := ⟨wq_t 985 (by decide +kernel) (by decide +kernel), wq_p 50 (by decide +kernel) (by decide +kernel), wq_t 5 (by decide +kernel) (by decide +kernel), wq_t 986 (by decide +kernel) (by decide +kernel), by decide +kernel⟩
theorem cw_X4_tides : CWV yX4_tides cX4_tides 4 (some .int) RX4 1 := ⟨wq_t 980 (by decide +kernel) (by decide +kernel), wq_t 981 (by decide +kernel) (by decide +kernel), wq_t 5 (by decide +kernel) (by decide +kernel), wq_t 982 (by decide +kernel) (by decide +kernel), by decide +kernel⟩
theorem cw_X4_odds : CWV yX4_odds cX4_odds 14 (some .long) RX4 3 := ⟨wq_t 989 (by decide +kernel) (by decide +kernel), wq_t 990 (by decide +kernel) (by decide +kernel), wq_t 5 (by decide +kernel) (by decide +kernel), wq_t 991 (by decide +kernel) (by decide +kernel), by decide +kernel⟩
theorem cw_X4_seed : CWV yX4_seed cX4_seed 2 (some .int) RX4 1 := ⟨wq_t 995 (by decide +kernel) (by decide +kernel), wq_t 996 (by decide +kernel) (by decide +kernel), wq_t 5 (by decide +kernel) (by decide +kernel), wq_t 997 (by decide +kernel) (by decide +kernel), by decide +kernel⟩
theorem cw_X4_feed : CWV yX4_feed cX4_feed 4 (some .int) RX4 2 := ⟨wq_t 999 (by decide +kernel) (by decide +kernel), wq_t 1000 (by decide +kernel) (by decide +kernel), wq_t 5 (by decide +kernel) (by decide +kernel), wq_t 1001 (by decide +kernel) (by decide +kernel), by decide +kernel⟩
theorem cw_X4_wipe : CWV yX4_wipe cX4_wipe 2 (some .int) RX4 0 := ⟨wq_t 1004 (by decide +kernel) (by decide +kernel), wq_t 1005 (by decide +kernel) (by decide +kernel), wq_t 5 (by decide +kernel) (by decide +kernel), wq_t 1006 (by decide +kernel) (by decide +kernel), by decide +kernel⟩
theorem cw_X4_isByte : CWV yX4_isByte cX4_isByte 4 (some .boolean) RX4 3 := ⟨wq_t 1017 (by decide +kernel) (by decide +kernel), wq_p 52 (by decide +kernel) (by decide +kernel), wq_t 5 (by decide +kernel) (by decide +kernel), wq_t 1018 (by decide +kernel) (by decide +kernel), by decide +kernel⟩
theorem cw_X4_next : CWV yX4_next cX4_next 3 none RX4 0 := ⟨wq_t 1013 (by decide +kernel) (by decide +kernel), wq_p 51 (by decide +kernel) (by decide +kernel), wq_t 5 (by decide +kernel) (by decide +kernel), wq_t 1014 (by decide +kernel) (by decide +kernel), by decide +kernel⟩
theorem cw_X4_isWord : CWV yX4_isWord cX4_isWord 4 (some .boolean) RX4 1 := ⟨wq_t 1030 (by decide +kernel) (by decide +kernel), wq_p 55 (by decide +kernel) (by decide +kernel), wq_t 5 (by decide +kernel) (by decide +kernel), wq_t 1031 (by decide +kernel) (by decide +kernel), by decide +kernel⟩
theorem cw_X4_must : CWV yX4_must cX4_must 2 none RX4 1 := ⟨wq_t 1046 (by decide +kernel) (by decide +kernel), wq_p 57 (by decide +kernel) (by decide +kernel), wq_t 5 (by decide +kernel) (by decide +kernel), wq_t 1047 (by decide +kernel) (by decide +kernel), by decide +kernel⟩
theorem cw_X4_takes : CWV yX4_takes cX4_takes 3 (some .boolean) RX4 1 := ⟨wq_t 1051 (by decide +kernel) (by decide +kernel), wq_p 58 (by decide +kernel) (by decide +kernel), wq_t 5 (by decide +kernel) (by decide +kernel), wq_t 1052 (by decide +kernel) (by decide +kernel), by decide +kernel⟩
theorem cw_X4_numberRead : CWV yX4_numberRead cX4_numberRead 5 (some .int) RX4 2 := ⟨wq_t 1055 (by decide +kernel) (by decide +kernel), wq_p 59 (by decide +kernel) (by decide +kernel), wq_t 5 (by decide +kernel) (by decide +kernel), wq_t 1056 (by decide +kernel) (by decide +kernel), by decide +kernel⟩
theorem cw_X4_kindHere : CWV yX4_kindHere cX4_kindHere 3 (some .int) RX4 0 := ⟨wq_t 1025 (by decide +kernel) (by decide +kernel), wq_p 54 (by decide +kernel) (by decide +kernel), wq_t 5 (by decide +kernel) (by decide +kernel), wq_t 1026 (by decide +kernel) (by decide +kernel), by decide +kernel⟩
theorem cw_X4_walkerTold : CWV yX4_walkerTold cX4_walkerTold 3 none RX4 1 := ⟨wq_t 1042 (by decide +kernel) (by decide +kernel), wq_p 56 (by decide +kernel) (by decide +kernel), wq_t 5 (by decide +kernel) (by decide +kernel), wq_t 1043 (by decide +kernel) (by decide +kernel), by decide +kernel⟩
theorem cw_X4_printTold : CWV yX4_printTold cX4_printTold 5 none RX4 0 := ⟨wq_t 1064 (by decide +kernel) (by decide +kernel), wq_p 60 (by decide +kernel) (by decide +kernel), wq_t 5 (by decide +kernel) (by decide +kernel), wq_t 1065 (by decide +kernel) (by decide +kernel), by decide +kernel⟩
theorem cw_X4_item : CWV yX4_item cX4_item 3 none RX4 0 := ⟨wq_t 1021 (by decide +kernel) (by decide +kernel), wq_p 53 (by decide +kernel) (by decide +kernel), wq_t 5 (by decide +kernel) (by decide +kernel), wq_t 1022 (by decide +kernel) (by decide +kernel), by decide +kernel⟩
theorem cw_X4_text : CWV yX4_text cX4_text 2 (some .int) RX4 0 := ⟨wq_t 1008 (by decide +kernel) (by decide +kernel), wq_t 1009 (by decide +kernel) (by decide +kernel), wq_t 5 (by decide +kernel) (by decide +kernel), wq_t 1010 (by decide +kernel) (by decide +kernel), by decide +kernel⟩
theorem cw_X4_isSpot : CWS yX4_isSpot cX4_isSpot 1 (some .boolean) 1 := ⟨wq_t 1072 (by decide +kernel) (by decide +kernel), wq_t 5 (by decide +kernel) (by decide +kernel), wq_t 1073 (by decide +kernel) (by decide +kernel), by decide +kernel⟩
theorem cw_X4_hold : CWV yX4_hold cX4_hold 3 (some .int) RX4 2 := ⟨wq_t 1068 (by decide +kernel) (by decide +kernel), wq_t 1069 (by decide +kernel) (by decide +kernel), wq_t 5 (by decide +kernel) (by decide +kernel), wq_t 1070 (by decide +kernel) (by decide +kernel), by decide +kernel⟩
theorem cw_X4_as : CWV yX4_as cX4_as 4 (some .int) RX4 2 := ⟨wq_t 1075 (by decide +kernel) (by decide +kernel), wq_t 1076 (by decide +kernel) (by decide +kernel), wq_t 5 (by decide +kernel) (by decide +kernel), wq_t 1077 (by decide +kernel) (by decide +kernel), by decide +kernel⟩
theorem cw_X4_isSheet : CWS yX4_isSheet cX4_isSheet 1 (some .boolean) 1 := ⟨wq_t 961 (by decide +kernel) (by decide +kernel), wq_t 5 (by decide +kernel) (by decide +kernel), wq_t 962 (by decide +kernel) (by decide +kernel), by decide +kernel⟩
theorem cw_X4_sheet : CWV yX4_sheet cX4_sheet 6 (some .int) RX4 3 := ⟨wq_t 1085 (by decide +kernel) (by decide +kernel), wq_t 1086 (by decide +kernel) (by decide +kernel), wq_t 5 (by decide +kernel) (by decide +kernel), wq_t 1087 (by decide +kernel) (by decide +kernel), by decide +kernel⟩
theorem cw_X4_lacks : CWV yX4_lacks cX4_lacks 2 (some .int) RX4 1 := ⟨wq_t 958 (by decide +kernel) (by decide +kernel), wq_p 47 (by decide +kernel) (by decide +kernel), wq_t 5 (by decide +kernel) (by decide +kernel), wq_t 959 (by decide +kernel) (by decide +kernel), by decide +kernel⟩
theorem cw_X4_write : CWV yX4_write cX4_write 5 (some .int) RX4 3 := ⟨wq_t 1089 (by decide +kernel) (by decide +kernel), wq_t 1090 (by decide +kernel) (by decide +kernel), wq_t 5 (by decide +kernel) (by decide +kernel), wq_t 1091 (by decide +kernel) (by decide +kernel), by decide +kernel⟩
theorem cw_X4_copy : CWV yX4_copy cX4_copy 8 (some .int) RX4 5 := ⟨wq_t 1093 (by decide +kernel) (by decide +kernel), wq_t 1094 (by decide +kernel) (by decide +kernel), wq_t 5 (by decide +kernel) (by decide +kernel), wq_t 1095 (by decide +kernel) (by decide +kernel), by decide +kernel⟩
theorem cw_X4_load : CWV yX4_load cX4_load 4 (some .int) RX4 1 := ⟨wq_t 1097 (by decide +kernel) (by decide +kernel), wq_t 1098 (by decide +kernel) (by decide +kernel), wq_t 5 (by decide +kernel) (by decide +kernel), wq_t 1099 (by decide +kernel) (by decide +kernel), by decide +kernel⟩
theorem cw_X4_judge : CWV yX4_judge cX4_judge 4 (some .int) RX4 1 := ⟨wq_t 1101 (by decide +kernel) (by decide +kernel), wq_t 1102 (by decide +kernel) (by decide +kernel), wq_t 5 (by decide +kernel) (by decide +kernel), wq_t 1103 (by decide +kernel) (by decide +kernel), by decide +kernel⟩
theorem cw_X4_image : CWV yX4_image cX4_image 1 (some .int) RX4 0 := ⟨wq_t 1105 (by decide +kernel) (by decide +kernel), wq_t 1106 (by decide +kernel) (by decide +kernel), wq_t 5 (by decide +kernel) (by decide +kernel), wq_t 1107 (by decide +kernel) (by decide +kernel), by decide +kernel⟩
theorem cw_X4_undo : CWV yX4_undo cX4_undo 1 (some .int) RX4 0 := ⟨wq_t 1109 (by decide +kernel) (by decide +kernel), wq_t 1110 (by decide +kernel) (by decide +kernel), wq_t 5 (by decide +kernel) (by decide +kernel), wq_t 1111 (by decide +kernel) (by decide +kernel), by decide +kernel⟩
theorem cw_X4_tear : CWV yX4_tear cX4_tear 2 (some .int) RX4 0 := ⟨wq_t 1113 (by decide +kernel) (by decide +kernel), wq_t 1114 (by decide +kernel) (by decide +kernel), wq_t 5 (by decide +kernel) (by decide +kernel), wq_t 1115 (by decide +kernel) (by decide +kernel), by decide +kernel⟩
theorem cw_X4_held : CWV yX4_held cX4_held 3 (some .int) RX4 0 := ⟨wq_t 1122 (by decide +kernel) (by decide +kernel), wq_p 61 (by decide +kernel) (by decide +kernel), wq_t 5 (by decide +kernel) (by decide +kernel), wq_t 1123 (by decide +kernel) (by decide +kernel), by decide +kernel⟩
theorem cw_X4_count : CWV yX4_count cX4_count 2 (some .int) RX4 1 := ⟨wq_t 1117 (by decide +kernel) (by decide +kernel), wq_t 1118 (by decide +kernel) (by decide +kernel), wq_t 5 (by decide +kernel) (by decide +kernel), wq_t 1119 (by decide +kernel) (by decide +kernel), by decide +kernel⟩
theorem cw_X4_status : CWV yX4_status cX4_status 4 (some .int) RX4 1 := ⟨wq_t 1125 (by decide +kernel) (by decide +kernel), wq_t 1126 (by decide +kernel) (by decide +kernel), wq_t 5 (by decide +kernel) (by decide +kernel), wq_t 1127 (by decide +kernel) (by decide +kernel), by decide +kernel⟩
theorem cw_J6_numberOfTrailingZeros_0f7a4 : CWS yJ6_numberOfTrailingZeros_0f7a4 cJ6_numberOfTrailingZeros_0f7a4 2 (some .int) 1 := ⟨wq_t 415 (by decide +kernel) (by decide +kernel), wq_t 7 (by decide +kernel) (by decide +kernel), wq_t 416 (by decide +kernel) (by decide +kernel), by decide +kernel⟩
theorem cw_J6_bitCount_0f7a4 : CWS yJ6_bitCount_0f7a4 cJ6_bitCount_0f7a4 1 (some .int) 1 := ⟨wq_t 269 (by decide +kernel) (by decide +kernel), wq_t 7 (by decide +kernel) (by decide +kernel), wq_t 270 (by decide +kernel) (by decide +kernel), by decide +kernel⟩
theorem cw_J0_length_8abf5 : CWV yJ0_length_8abf5 cJ0_length_8abf5 1 (some .int) RJ0 0 := ⟨wq_t 503 (by decide +kernel) (by decide +kernel), wq_t 504 (by decide +kernel) (by decide +kernel), wq_t 9 (by decide +kernel) (by decide +kernel), wq_t 505 (by decide +kernel) (by decide +kernel), by decide +kernel⟩
theorem cw_J0_charAt_5068e : CWV yJ0_charAt_5068e cJ0_charAt_5068e 2 (some .char) RJ0 1 := ⟨wq_t 513 (by decide +kernel) (by decide +kernel), wq_t 514 (by decide +kernel) (by decide +kernel), wq_t 9 (by decide +kernel) (by decide +kernel), wq_t 515 (by decide +kernel) (by decide +kernel), by decide +kernel⟩
theorem cw_J0_coder_7d493 : CWV yJ0_coder_7d493 cJ0_coder_7d493 1 (some .byte) RJ0 0 := ⟨wq_t 507 (by decide +kernel) (by decide +kernel), wq_t 508 (by decide +kernel) (by decide +kernel), wq_t 9 (by decide +kernel) (by decide +kernel), wq_t 509 (by decide +kernel) (by decide +kernel), by decide +kernel⟩
theorem cw_J0_isLatin1_aae02 : CWV yJ0_isLatin1_aae02 cJ0_isLatin1_aae02 1 (some .boolean) RJ0 0 := ⟨wq_t 517 (by decide +kernel) (by decide +kernel), wq_t 518 (by decide +kernel) (by decide +kernel), wq_t 9 (by decide +kernel) (by decide +kernel), wq_t 519 (by decide +kernel) (by decide +kernel), by decide +kernel⟩
theorem cw_J0_checkIndex_df160 : CWS yJ0_checkIndex_df160 cJ0_checkIndex_df160 2 none 2 := ⟨wq_t 524 (by decide +kernel) (by decide +kernel), wq_t 9 (by decide +kernel) (by decide +kernel), wq_t 525 (by decide +kernel) (by decide +kernel), by decide +kernel⟩
theorem cw_J1_charAt_3b067 : CWS yJ1_charAt_3b067 cJ1_charAt_3b067 2 (some .char) 2 := ⟨wq_t 521 (by decide +kernel) (by decide +kernel), wq_t 10 (by decide +kernel) (by decide +kernel), wq_t 522 (by decide +kernel) (by decide +kernel), by decide +kernel⟩
theorem cw_J3_checkIndex_8e157 : CWS yJ3_checkIndex_8e157 cJ3_checkIndex_8e157 3 (some .int) 3 := ⟨wq_t 529 (by decide +kernel) (by decide +kernel), wq_t 11 (by decide +kernel) (by decide +kernel), wq_t 530 (by decide +kernel) (by decide +kernel), by decide +kernel⟩
end
section
theorem bz_b {ρ : Type} {v : Int32} {K : Int32 → Option ρ} {res : ρ} (h : (bz v).bind K = some res) : (v = 0 ∨ v = 1) ∧ K v = some res := by
  obtain ⟨w, h0, h1⟩ := bnd h
  obtain ⟨hz, e⟩ := bz_s h0
  exact ⟨hz, e ▸ h1⟩
end
section
/-! ===== texts: length and charAt of the constants ===== -/
section VROWS7
variable {E : EE} {B : BB} {l0 : Launch} {cc : ByteArray} {own : String} {ret : Option FieldType} {mL fr lo : Nat} {σ : St2} {pc : Nat} {lv : List (Nat × Value)} {st : List Value}
theorem v_strf (C : Cx E B l0 cc own ret mL fr lo) {o nm d : String} {v : Value} {q index : Nat} (hE : ∀ (A : Nat → Prop) (U : State) (H : Heap), SF B A U H → va_OF o nm d v q A U H) (hw : Cond.fieldLink own index o nm d ∈ gw) (hd : decode cc pc = .ok (.getfield index, 3)) (k : V E B σ (pc + 3) lv (v :: st)) : V E B σ pc lv (.ref q :: st) := by
  obtain ⟨p, l, e, R, s, m, args, below, meth, c, A, Q, cells, slots, nL⟩ := E
  obtain ⟨hl0, hx, hb, hml, hnl, hr, hlk, hown, hts, hK, hD, hfr, hlo, hcc, hcs, hF⟩ := C
  subst hnl
  intro H locs ls hP hS hl
  exact vk_getf hx hb (hE _ _ _ hF) hS hown (hts _ hw) (fun _ h9 => h9) hd (k H locs ls hP hS hl)
theorem v_gets (C : Cx E B l0 cc own ret mL fr lo) {o nm d : String} {v : Value} {index : Nat} (hZ : ∀ (A : Nat → Prop) (U : State) (H : Heap), SF B A U H → va_Z o nm d v A U H) (hw : Cond.fieldLink own index o nm d ∈ gw) (hd : decode cc pc = .ok (.getstatic index, 3)) (k : V E B σ (pc + 3) lv (v :: st)) : V E B σ pc lv st := by
  obtain ⟨p, l, e, R, s, m, args, below, meth, c, A, Q, cells, slots, nL⟩ := E
  obtain ⟨hl0, hx, hb, hml, hnl, hr, hlk, hown, hts, hK, hD, hfr, hlo, hcc, hcs, hF⟩ := C
  subst hnl
  intro H locs ls hP hS hl
  exact va_gets hx hb (hZ _ _ _ hF) hS hown (hts _ hw) (fun _ h9 => h9) hd (k H locs ls hP hS hl)
theorem v_getsQ (C : Cx E B l0 cc own ret mL fr lo) {o nm d : String} {index : Nat} (hZ : ∀ (A : Nat → Prop) (U : State) (H : Heap), SF B A U H → va_Zq o nm d A U H) (hw : Cond.fieldLink own index o nm d ∈ gw) (hd : decode cc pc = .ok (.getstatic index, 3)) (k : ∀ v : Value, v.category = 1 → V E B σ (pc + 3) lv (v :: st)) : V E B σ pc lv st := by
  obtain ⟨p, l, e, R, s, m, args, below, meth, c, A, Q, cells, slots, nL⟩ := E
  obtain ⟨hl0, hx, hb, hml, hnl, hr, hlk, hown, hts, hK, hD, hfr, hlo, hcc, hcs, hF⟩ := C
  subst hnl
  intro H locs ls hP hS hl
  rcases hZ _ _ _ hF with h | ⟨t, h⟩
  · exact va_gets hx hb h hS hown (hts _ hw) (fun _ h9 => h9) hd (k _ rfl H locs ls hP hS hl)
  · exact va_gets hx hb h hS hown (hts _ hw) (fun _ h9 => h9) hd (k _ rfl H locs ls hP hS hl)
theorem v_slen (C : Cx E B l0 cc own ret mL fr lo) {i : Nat} (hi : i < 14) (hd : decode cc pc = .ok (.arraylength, 1)) (k : V E B σ (pc + 1) lv (.int (nI (slen i)) :: st)) : V E B σ pc lv (.ref (sv B i) :: st) := by
  obtain ⟨p, l, e, R, s, m, args, below, meth, c, A, Q, cells, slots, nL⟩ := E
  obtain ⟨hl0, hx, hb, hml, hnl, hr, hlk, hown, hts, hK, hD, hfr, hlo, hcc, hcs, hF⟩ := C
  subst hnl
  intro H locs ls hP hS hl
  exact va_tlen hx hb (hF.2.1 i hi).2.2.2 hS rfl hd (k H locs ls hP hS hl)
theorem v_sbld (C : Cx E B l0 cc own ret mL fr lo) {i : Nat} {j : Int32} (hi : i < 14) (hin : inb j (slen i)) (hd : decode cc pc = .ok (.baload, 1)) (k : V E B σ (pc + 1) lv (.int (sby i j.toNatClampNeg) :: st)) : V E B σ pc lv (.int j :: .ref (sv B i) :: st) := by
  obtain ⟨p, l, e, R, s, m, args, below, meth, c, A, Q, cells, slots, nL⟩ := E
  obtain ⟨hl0, hx, hb, hml, hnl, hr, hlk, hown, hts, hK, hD, hfr, hlo, hcc, hcs, hF⟩ := C
  subst hnl
  intro H locs ls hP hS hl
  exact va_tb hx hb (hF.2.1 i hi).2.2.2 hS (inb_vp hin) rfl hd (k H locs ls hP hS hl)
end VROWS7
theorem sf_cs (B : BB) (A : Nat → Prop) (U : State) (H : Heap) (h : SF B A U H) : va_Z "java/lang/String" "COMPACT_STRINGS" "Z" (.int 1) A U H := h.2.2.1.1
theorem sf_zq (B : BB) (A : Nat → Prop) (U : State) (H : Heap) (h : SF B A U H) : va_Zq "jdk/internal/util/Preconditions" "SIOOBE_FORMATTER" "Ljava/util/function/BiFunction;" A U H := h.2.2.1.2
theorem sf_co {B : BB} {i : Nat} (hi : i < 14) (A : Nat → Prop) (U : State) (H : Heap) (h : SF B A U H) : va_OF "java/lang/String" "coder" "B" (.int 0) (sk B i) A U H := (h.2.1 i hi).2.1
theorem sf_va {B : BB} {i : Nat} (hi : i < 14) (A : Nat → Prop) (U : State) (H : Heap) (h : SF B A U H) : va_OF "java/lang/String" "value" "[B" (.ref (sv B i)) (sk B i) A U H := (h.2.1 i hi).2.2.1
theorem slen_31 : ∀ i, i < 14 → slen i < 100 := by decide +kernel
theorem sby_c : ∀ i, i < 14 → ∀ j, j < slen i → ((sby i j &&& 255).toUInt32 % 65536).toInt32 = sby i j := by decide +kernel
theorem mJ0_coder {B : BB} {l : Launch} {σ : St2} {i : Nat} (hi : i < 14) : Ret l B yJ0_coder_7d493 cJ0_coder_7d493 1 (some .byte) 0 0 [.ref (sk B i)] σ (some (.int 0)) σ := ret_of (own := RJ0) (by decide) rfl (Nat.le_of_ble_eq_true rfl) (fun E C hQ => by
  refine v_gets C (sf_cs B) wd_510 dJ0_coder_7d493_0 ?_
  refine v_if_eq (tgt := 13) (Pt := none) (Pf := some ()) (res := ()) C dJ0_coder_7d493_3 (by decide) rfl (fun hf => by cases hf) (fun _ => ?_)
  refine v_aload_n C 0 dJ0_coder_7d493_6 rfl rfl ?_
  refine v_strf C (sf_co hi) wd_1130 dJ0_coder_7d493_7 ?_
  refine v_goto (tgt := 14) C dJ0_coder_7d493_10 (by decide) ?_
  exact v_nret C rfl dJ0_coder_7d493_14 hQ)
theorem mJ0_isLatin1 {B : BB} {l : Launch} {σ : St2} {i : Nat} (hi : i < 14) : Ret l B yJ0_isLatin1_aae02 cJ0_isLatin1_aae02 1 (some .boolean) 0 0 [.ref (sk B i)] σ (some (.int 1)) σ := ret_of (own := RJ0) (by decide) rfl (Nat.le_of_ble_eq_true rfl) (fun E C hQ => by
  refine v_gets C (sf_cs B) wd_510 dJ0_isLatin1_aae02_0 ?_
  refine v_if_eq (tgt := 17) (Pt := none) (Pf := some ()) (res := ()) C dJ0_isLatin1_aae02_3 (by decide) rfl (fun hf => by cases hf) (fun _ => ?_)
  refine v_aload_n C 0 dJ0_isLatin1_aae02_6 rfl rfl ?_
  refine v_strf C (sf_co hi) wd_1130 dJ0_isLatin1_aae02_7 ?_
  refine v_if_ne (tgt := 17) (Pt := some ()) (Pf := none) (res := ()) C dJ0_isLatin1_aae02_10 (by decide) rfl (fun hf => by cases hf) (fun _ => ?_)
  refine v_iconst (v := 1) C dJ0_isLatin1_aae02_13 (by decide) ?_
  refine v_goto (tgt := 18) C dJ0_isLatin1_aae02_14 (by decide) ?_
  exact v_zret C (Or.inr rfl) dJ0_isLatin1_aae02_18 hQ)
def fJ0_length_8abf5 (i : Nat) : Option Int32 := some (nI (slen i))
theorem mJ0_length_8abf5 {B : BB} {l : Launch} {σ : St2} {i : Nat} {res : Int32} (hi : i < 14) (hf : fJ0_length_8abf5 i = some res) : Ret l B yJ0_length_8abf5 cJ0_length_8abf5 1 (some .int) 1 20 [.ref (sk B i)] σ (some (.int res)) σ := ret_of (own := RJ0) (by decide) rfl (Nat.le_of_ble_eq_true rfl) (fun E C hQ => by
  cases hf
  refine v_aload_n C 0 dJ0_length_8abf5_0 rfl rfl ?_
  refine v_strf C (sf_va hi) wd_1129 dJ0_length_8abf5_1 ?_
  refine v_slen C hi dJ0_length_8abf5_4 ?_
  refine v_aload_n C 0 dJ0_length_8abf5_5 rfl rfl ?_
  refine v_callT (r := some (.int 0)) (As := []) (rest := [.int (nI (slen i))]) C hi (mJ0_coder hi) cw_J0_coder_7d493 wd_506 ⟨Nat.le_of_ble_eq_true rfl, Nat.le_of_ble_eq_true rfl⟩ rfl rfl (Nat.le_of_ble_eq_true rfl) dJ0_length_8abf5_6 ?_
  refine v_ishr C dJ0_length_8abf5_9 ?_
  have e : nI (slen i) >>> ((0 : Int32) &&& 31) = nI (slen i) := by
    have h : ∀ i, i < 14 → nI (slen i) >>> ((0 : Int32) &&& 31) = nI (slen i) := by decide +kernel
    exact h i hi
  rw [e]
  exact v_iret C dJ0_length_8abf5_10 hQ)
theorem mJ3_checkIndex {B : BB} {l : Launch} {σ : St2} {v : Int32} {n : Nat} {q : Value} (hq : q.category = 1) (hn : n < 100) (hin : inb v n) : Ret l B yJ3_checkIndex_8e157 cJ3_checkIndex_8e157 3 (some .int) 0 0 [.int v, .int (nI n), q] σ (some (.int v)) σ := ret_of (own := RJ3) (by decide) rfl (by cases q <;> first | (cases hq; done) | exact Nat.le_of_ble_eq_true rfl) (fun E C hQ => by
  refine v_sub (lv' := [(0, .int v), (1, .int (nI n))]) [0, 1] rfl ?_
  have h1 : ¬ v < 0 := hin.1
  have h2 : v < nI n := by
    obtain ⟨j, hj, e⟩ := nI_of h1
    have h3 := hin.2
    rw [e, nI_clamp hj] at h3
    rw [e]
    exact nI_lt h3 (by omega)
  refine v_iload_n C 0 dJ3_checkIndex_8e157_0 rfl rfl ?_
  refine v_if_lt (tgt := 9) (Pt := none) (Pf := some ()) (res := ()) C dJ3_checkIndex_8e157_1 (by decide) (if_neg h1) (fun hf => by cases hf) (fun _ => ?_)
  refine v_iload_n C 0 dJ3_checkIndex_8e157_4 rfl rfl ?_
  refine v_iload_n C 1 dJ3_checkIndex_8e157_5 rfl rfl ?_
  refine v_icmp_lt (tgt := 16) (Pt := some ()) (Pf := none) (res := ()) C dJ3_checkIndex_8e157_6 (by decide) (if_pos h2) (fun _ => ?_) (fun hf => by cases hf)
  refine v_iload_n C 0 dJ3_checkIndex_8e157_16 rfl rfl ?_
  exact v_iret C dJ3_checkIndex_8e157_17 hQ)
theorem mJ0_checkIndex {B : BB} {l : Launch} {σ : St2} {v : Int32} {n : Nat} (hn : n < 100) (hin : inb v n) : Ret l B yJ0_checkIndex_df160 cJ0_checkIndex_df160 2 none 1 22 [.int v, .int (nI n)] σ none σ := ret_of (own := RJ0) (by decide) rfl (Nat.le_of_ble_eq_true rfl) (fun E C hQ => by
  refine v_iload_n C 0 dJ0_checkIndex_df160_0 rfl rfl ?_
  refine v_iload_n C 1 dJ0_checkIndex_df160_1 rfl rfl ?_
  refine v_getsQ C (sf_zq B) wd_526 dJ0_checkIndex_df160_2 (fun q hq => ?_)
  refine v_callS (r := some (.int v)) (As := [.int v, .int (nI n), q]) (rest := []) C (mJ3_checkIndex hq hn hin) cw_J3_checkIndex_8e157 wd_528 ⟨Nat.le_of_ble_eq_true rfl, Nat.le_of_ble_eq_true rfl⟩ rfl rfl (Nat.le_of_ble_eq_true rfl) dJ0_checkIndex_df160_5 ?_
  refine v_pop C dJ0_checkIndex_df160_8 rfl ?_
  exact v_vret C dJ0_checkIndex_df160_9 hQ)
theorem mJ1_charAt {B : BB} {l : Launch} {σ : St2} {i : Nat} {v : Int32} (hi : i < 14) (hin : inb v (slen i)) : Ret l B yJ1_charAt_3b067 cJ1_charAt_3b067 2 (some .char) 2 43 [.ref (sv B i), .int v] σ (some (.int (sby i v.toNatClampNeg))) σ := ret_of (own := RJ1) (by decide) rfl (Nat.le_of_ble_eq_true rfl) (fun E C hQ => by
  refine v_iload_n C 1 dJ1_charAt_3b067_0 rfl rfl ?_
  refine v_aload_n C 0 dJ1_charAt_3b067_1 rfl rfl ?_
  refine v_slen C hi dJ1_charAt_3b067_2 ?_
  refine v_callS (r := none) (As := [.int v, .int (nI (slen i))]) (rest := []) C (mJ0_checkIndex (slen_31 i hi) hin) cw_J0_checkIndex_df160 wd_523 ⟨Nat.le_of_ble_eq_true rfl, Nat.le_of_ble_eq_true rfl⟩ rfl rfl (Nat.le_of_ble_eq_true rfl) dJ1_charAt_3b067_3 ?_
  refine v_aload_n C 0 dJ1_charAt_3b067_6 rfl rfl ?_
  refine v_iload_n C 1 dJ1_charAt_3b067_7 rfl rfl ?_
  refine v_sbld C hi hin dJ1_charAt_3b067_8 ?_
  refine v_sipush (v := 255) C dJ1_charAt_3b067_9 (by decide) ?_
  refine v_iand C dJ1_charAt_3b067_12 ?_
  refine v_i2c C dJ1_charAt_3b067_13 ?_
  have hz := pk_nc (sby i v.toNatClampNeg &&& 255)
  rw [sby_c i hi _ hin.2] at hz ⊢
  exact v_nret C hz dJ1_charAt_3b067_14 hQ)
def fJ0_charAt_5068e (i : Nat) (v : Int32) : Option Int32 := rd (sby i) (slen i) v
theorem mJ0_charAt_5068e {B : BB} {l : Launch} {σ : St2} {i : Nat} {v : Int32} {res : Int32} (hi : i < 14) (hf : fJ0_charAt_5068e i v = some res) : Ret l B yJ0_charAt_5068e cJ0_charAt_5068e 2 (some .char) 3 64 [.ref (sk B i), .int v] σ (some (.int res)) σ := ret_of (own := RJ0) (by decide) rfl (Nat.le_of_ble_eq_true rfl) (fun E C hQ => by
  obtain ⟨hin, e⟩ := rd_s hf
  refine v_aload_n C 0 dJ0_charAt_5068e_0 rfl rfl ?_
  refine v_callT (r := some (.int 1)) (As := []) (rest := []) C hi (mJ0_isLatin1 hi) cw_J0_isLatin1_aae02 wd_516 ⟨Nat.le_of_ble_eq_true rfl, Nat.le_of_ble_eq_true rfl⟩ rfl rfl (Nat.le_of_ble_eq_true rfl) dJ0_charAt_5068e_1 ?_
  refine v_if_eq (tgt := 16) (Pt := none) (Pf := some ()) (res := ()) C dJ0_charAt_5068e_4 (by decide) rfl (fun hf => by cases hf) (fun _ => ?_)
  refine v_aload_n C 0 dJ0_charAt_5068e_7 rfl rfl ?_
  refine v_strf C (sf_va hi) wd_1129 dJ0_charAt_5068e_8 ?_
  refine v_iload_n C 1 dJ0_charAt_5068e_11 rfl rfl ?_
  refine v_callS (r := some (.int (sby i v.toNatClampNeg))) (As := [.ref (sv B i), .int v]) (rest := []) C (mJ1_charAt hi hin) cw_J1_charAt_3b067 wd_520 ⟨Nat.le_of_ble_eq_true rfl, Nat.le_of_ble_eq_true rfl⟩ rfl rfl (Nat.le_of_ble_eq_true rfl) dJ0_charAt_5068e_12 ?_
  have hz := pk_nc (sby i v.toNatClampNeg &&& 255)
  rw [sby_c i hi _ hin.2] at hz
  rw [e] at hQ
  exact v_nret C hz dJ0_charAt_5068e_15 hQ)
def Mj (j : Nat) : Prop := j = 1 ∨ j = 2 ∨ j = 3
theorem mj1 : Mj 1 := Or.inl rfl
theorem mj2 : Mj 2 := Or.inr (Or.inl rfl)
theorem mj3 : Mj 3 := Or.inr (Or.inr rfl)
theorem Mj.lt {j : Nat} (h : Mj j) : j < 10 := by rcases h with h | h | h <;> omega
theorem Mj.tb {j : Nat} (h : Mj j) : tb (51 + j) = .inl 135 := by rcases h with rfl | rfl | rfl <;> rfl
end
