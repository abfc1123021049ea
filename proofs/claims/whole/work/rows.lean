section
-- ===== PART A: goes FIRST, ahead of the names: the tables' words, and 'selects' of the private methods out of them =====
/-- a private method of a class that the tables say can be made, by its rows of tables_1 -/
def lw_okq (q : MethodName × Nat) : Prop := (q.1.cls ≠ "java/lang/invoke/MethodHandle" ∧ q.1.cls ≠ "java/lang/invoke/VarHandle") ∧ Cond.instantiable q.1.cls q.2 ∈ tables_1 ∧ Cond.privateMethod q.1 ∈ tables_1 ∧ Cond.instanceMethod q.1 ∈ tables_1
theorem lw_p0 : lw_okq (⟨"MightHaveBeenPutUp", "changeYear", "(I)I"⟩, 8) := ⟨⟨by decide +kernel, by decide +kernel⟩, List.mem_of_getElem? (i := 20) (by decide +kernel), List.mem_of_getElem? (i := 187) (by decide +kernel), List.mem_of_getElem? (i := 188) (by decide +kernel)⟩
theorem lw_p1 : lw_okq (⟨"MightHaveBeenPutUp", "changeOfOne", "([IIII)I"⟩, 8) := ⟨⟨by decide +kernel, by decide +kernel⟩, List.mem_of_getElem? (i := 20) (by decide +kernel), List.mem_of_getElem? (i := 194) (by decide +kernel), List.mem_of_getElem? (i := 195) (by decide +kernel)⟩
theorem lw_p2 : lw_okq (⟨"MightHaveBeenPutUp", "isOne", "(I)Z"⟩, 8) := ⟨⟨by decide +kernel, by decide +kernel⟩, List.mem_of_getElem? (i := 20) (by decide +kernel), List.mem_of_getElem? (i := 198) (by decide +kernel), List.mem_of_getElem? (i := 199) (by decide +kernel)⟩
theorem lw_p3 : lw_okq (⟨"MightHaveBeenPutUp", "changeHouse", "(II)I"⟩, 8) := ⟨⟨by decide +kernel, by decide +kernel⟩, List.mem_of_getElem? (i := 20) (by decide +kernel), List.mem_of_getElem? (i := 202) (by decide +kernel), List.mem_of_getElem? (i := 203) (by decide +kernel)⟩
theorem lw_p4 : lw_okq (⟨"MightHaveBeenPutUp", "toldOfOne", "(II)I"⟩, 8) := ⟨⟨by decide +kernel, by decide +kernel⟩, List.mem_of_getElem? (i := 20) (by decide +kernel), List.mem_of_getElem? (i := 250) (by decide +kernel), List.mem_of_getElem? (i := 251) (by decide +kernel)⟩
theorem lw_p5 : lw_okq (⟨"MightHaveBeenPutUp$World", "tell", "(II)I"⟩, 12) := ⟨⟨by decide +kernel, by decide +kernel⟩, List.mem_of_getElem? (i := 30) (by decide +kernel), List.mem_of_getElem? (i := 258) (by decide +kernel), List.mem_of_getElem? (i := 259) (by decide +kernel)⟩
theorem lw_p6 : lw_okq (⟨"MightHaveBeenPutUp$World", "highestCell", "(I)I"⟩, 12) := ⟨⟨by decide +kernel, by decide +kernel⟩, List.mem_of_getElem? (i := 30) (by decide +kernel), List.mem_of_getElem? (i := 268) (by decide +kernel), List.mem_of_getElem? (i := 269) (by decide +kernel)⟩
theorem lw_p7 : lw_okq (⟨"MightHaveBeenPutUp$Reader", "step", "()V"⟩, 11) := ⟨⟨by decide +kernel, by decide +kernel⟩, List.mem_of_getElem? (i := 85) (by decide +kernel), List.mem_of_getElem? (i := 330) (by decide +kernel), List.mem_of_getElem? (i := 331) (by decide +kernel)⟩
theorem lw_p8 : lw_okq (⟨"MightHaveBeenPutUp$Reader", "wordToken", "()I"⟩, 11) := ⟨⟨by decide +kernel, by decide +kernel⟩, List.mem_of_getElem? (i := 85) (by decide +kernel), List.mem_of_getElem? (i := 340) (by decide +kernel), List.mem_of_getElem? (i := 341) (by decide +kernel)⟩
theorem lw_p9 : lw_okq (⟨"MightHaveBeenPutUp$Reader", "spells", "(III)Z"⟩, 11) := ⟨⟨by decide +kernel, by decide +kernel⟩, List.mem_of_getElem? (i := 85) (by decide +kernel), List.mem_of_getElem? (i := 344) (by decide +kernel), List.mem_of_getElem? (i := 345) (by decide +kernel)⟩
theorem lw_p10 : lw_okq (⟨"MightHaveBeenPutUp$Reader", "numberToken", "()I"⟩, 11) := ⟨⟨by decide +kernel, by decide +kernel⟩, List.mem_of_getElem? (i := 85) (by decide +kernel), List.mem_of_getElem? (i := 392) (by decide +kernel), List.mem_of_getElem? (i := 393) (by decide +kernel)⟩
theorem lw_p11 : lw_okq (⟨"MightHaveBeenPutUp$Reader", "expect", "(I)V"⟩, 11) := ⟨⟨by decide +kernel, by decide +kernel⟩, List.mem_of_getElem? (i := 85) (by decide +kernel), List.mem_of_getElem? (i := 459) (by decide +kernel), List.mem_of_getElem? (i := 460) (by decide +kernel)⟩
theorem lw_p12 : lw_okq (⟨"MightHaveBeenPutUp$Reader", "refuse", "()V"⟩, 11) := ⟨⟨by decide +kernel, by decide +kernel⟩, List.mem_of_getElem? (i := 85) (by decide +kernel), List.mem_of_getElem? (i := 463) (by decide +kernel), List.mem_of_getElem? (i := 464) (by decide +kernel)⟩
theorem lw_p13 : lw_okq (⟨"MightHaveBeenPutUp$Reader", "readEither", "()V"⟩, 11) := ⟨⟨by decide +kernel, by decide +kernel⟩, List.mem_of_getElem? (i := 85) (by decide +kernel), List.mem_of_getElem? (i := 467) (by decide +kernel), List.mem_of_getElem? (i := 468) (by decide +kernel)⟩
theorem lw_p14 : lw_okq (⟨"MightHaveBeenPutUp$Reader", "readBoth", "()V"⟩, 11) := ⟨⟨by decide +kernel, by decide +kernel⟩, List.mem_of_getElem? (i := 85) (by decide +kernel), List.mem_of_getElem? (i := 471) (by decide +kernel), List.mem_of_getElem? (i := 472) (by decide +kernel)⟩
theorem lw_p15 : lw_okq (⟨"MightHaveBeenPutUp$Reader", "readNot", "()V"⟩, 11) := ⟨⟨by decide +kernel, by decide +kernel⟩, List.mem_of_getElem? (i := 85) (by decide +kernel), List.mem_of_getElem? (i := 475) (by decide +kernel), List.mem_of_getElem? (i := 476) (by decide +kernel)⟩
def lw_privs_1 : List (MethodName × Nat) := [(⟨"MightHaveBeenPutUp", "changeYear", "(I)I"⟩, 8), (⟨"MightHaveBeenPutUp", "changeOfOne", "([IIII)I"⟩, 8), (⟨"MightHaveBeenPutUp", "isOne", "(I)Z"⟩, 8), (⟨"MightHaveBeenPutUp", "changeHouse", "(II)I"⟩, 8), (⟨"MightHaveBeenPutUp", "toldOfOne", "(II)I"⟩, 8), (⟨"MightHaveBeenPutUp$World", "tell", "(II)I"⟩, 12), (⟨"MightHaveBeenPutUp$World", "highestCell", "(I)I"⟩, 12), (⟨"MightHaveBeenPutUp$Reader", "step", "()V"⟩, 11), (⟨"MightHaveBeenPutUp$Reader", "wordToken", "()I"⟩, 11), (⟨"MightHaveBeenPutUp$Reader", "spells", "(III)Z"⟩, 11), (⟨"MightHaveBeenPutUp$Reader", "numberToken", "()I"⟩, 11), (⟨"MightHaveBeenPutUp$Reader", "expect", "(I)V"⟩, 11), (⟨"MightHaveBeenPutUp$Reader", "refuse", "()V"⟩, 11), (⟨"MightHaveBeenPutUp$Reader", "readEither", "()V"⟩, 11), (⟨"MightHaveBeenPutUp$Reader", "readBoth", "()V"⟩, 11), (⟨"MightHaveBeenPutUp$Reader", "readNot", "()V"⟩, 11)]
theorem lw_r1 : ∀ q ∈ lw_privs_1, lw_okq q := List.forall_mem_cons.mpr ⟨lw_p0, List.forall_mem_cons.mpr ⟨lw_p1, List.forall_mem_cons.mpr ⟨lw_p2, List.forall_mem_cons.mpr ⟨lw_p3, List.forall_mem_cons.mpr ⟨lw_p4, List.forall_mem_cons.mpr ⟨lw_p5, List.forall_mem_cons.mpr ⟨lw_p6, List.forall_mem_cons.mpr ⟨lw_p7, List.forall_mem_cons.mpr ⟨lw_p8, List.forall_mem_cons.mpr ⟨lw_p9, List.forall_mem_cons.mpr ⟨lw_p10, List.forall_mem_cons.mpr ⟨lw_p11, List.forall_mem_cons.mpr ⟨lw_p12, List.forall_mem_cons.mpr ⟨lw_p13, List.forall_mem_cons.mpr ⟨lw_p14, List.forall_mem_cons.mpr ⟨lw_p15, fun _ h => absurd h List.not_mem_nil⟩⟩⟩⟩⟩⟩⟩⟩⟩⟩⟩⟩⟩⟩⟩⟩
theorem lw_p16 : lw_okq (⟨"MightHaveBeenPutUp$Reader", "opens", "()Z"⟩, 11) := ⟨⟨by decide +kernel, by decide +kernel⟩, List.mem_of_getElem? (i := 85) (by decide +kernel), List.mem_of_getElem? (i := 479) (by decide +kernel), List.mem_of_getElem? (i := 480) (by decide +kernel)⟩
theorem lw_p17 : lw_okq (⟨"MightHaveBeenPutUp$Reader", "write", "(I)V"⟩, 11) := ⟨⟨by decide +kernel, by decide +kernel⟩, List.mem_of_getElem? (i := 85) (by decide +kernel), List.mem_of_getElem? (i := 483) (by decide +kernel), List.mem_of_getElem? (i := 484) (by decide +kernel)⟩
theorem lw_p18 : lw_okq (⟨"MightHaveBeenPutUp$Reader", "readSum", "()V"⟩, 11) := ⟨⟨by decide +kernel, by decide +kernel⟩, List.mem_of_getElem? (i := 85) (by decide +kernel), List.mem_of_getElem? (i := 487) (by decide +kernel), List.mem_of_getElem? (i := 488) (by decide +kernel)⟩
theorem lw_p19 : lw_okq (⟨"MightHaveBeenPutUp$Reader", "readTerm", "()V"⟩, 11) := ⟨⟨by decide +kernel, by decide +kernel⟩, List.mem_of_getElem? (i := 85) (by decide +kernel), List.mem_of_getElem? (i := 491) (by decide +kernel), List.mem_of_getElem? (i := 492) (by decide +kernel)⟩
theorem lw_p20 : lw_okq (⟨"MightHaveBeenPutUp$Reader", "readOne", "()V"⟩, 11) := ⟨⟨by decide +kernel, by decide +kernel⟩, List.mem_of_getElem? (i := 85) (by decide +kernel), List.mem_of_getElem? (i := 495) (by decide +kernel), List.mem_of_getElem? (i := 496) (by decide +kernel)⟩
theorem lw_p21 : lw_okq (⟨"MightHaveBeenPutUp", "think", "(I)V"⟩, 8) := ⟨⟨by decide +kernel, by decide +kernel⟩, List.mem_of_getElem? (i := 20) (by decide +kernel), List.mem_of_getElem? (i := 581) (by decide +kernel), List.mem_of_getElem? (i := 582) (by decide +kernel)⟩
theorem lw_p22 : lw_okq (⟨"MightHaveBeenPutUp", "firstOtherwise", "(LMightHaveBeenPutUp$Sheet;I)I"⟩, 8) := ⟨⟨by decide +kernel, by decide +kernel⟩, List.mem_of_getElem? (i := 20) (by decide +kernel), List.mem_of_getElem? (i := 654) (by decide +kernel), List.mem_of_getElem? (i := 655) (by decide +kernel)⟩
theorem lw_p23 : lw_okq (⟨"MightHaveBeenPutUp", "supposedTold", "(LMightHaveBeenPutUp$Sheet;II)I"⟩, 8) := ⟨⟨by decide +kernel, by decide +kernel⟩, List.mem_of_getElem? (i := 20) (by decide +kernel), List.mem_of_getElem? (i := 658) (by decide +kernel), List.mem_of_getElem? (i := 659) (by decide +kernel)⟩
theorem lw_p24 : lw_okq (⟨"MightHaveBeenPutUp", "suppositions", "(I)I"⟩, 8) := ⟨⟨by decide +kernel, by decide +kernel⟩, List.mem_of_getElem? (i := 20) (by decide +kernel), List.mem_of_getElem? (i := 662) (by decide +kernel), List.mem_of_getElem? (i := 663) (by decide +kernel)⟩
theorem lw_p25 : lw_okq (⟨"MightHaveBeenPutUp", "suppose", "(III)V"⟩, 8) := ⟨⟨by decide +kernel, by decide +kernel⟩, List.mem_of_getElem? (i := 20) (by decide +kernel), List.mem_of_getElem? (i := 666) (by decide +kernel), List.mem_of_getElem? (i := 667) (by decide +kernel)⟩
theorem lw_p26 : lw_okq (⟨"MightHaveBeenPutUp", "countDrawn", "(II)I"⟩, 8) := ⟨⟨by decide +kernel, by decide +kernel⟩, List.mem_of_getElem? (i := 20) (by decide +kernel), List.mem_of_getElem? (i := 689) (by decide +kernel), List.mem_of_getElem? (i := 690) (by decide +kernel)⟩
theorem lw_p27 : lw_okq (⟨"MightHaveBeenPutUpModel", "spell", "(IIIIIIIII)V"⟩, 41) := ⟨⟨by decide +kernel, by decide +kernel⟩, List.mem_of_getElem? (i := 741) (by decide +kernel), List.mem_of_getElem? (i := 748) (by decide +kernel), List.mem_of_getElem? (i := 749) (by decide +kernel)⟩
theorem lw_p28 : lw_okq (⟨"MightHaveBeenPutUpModel", "isOne", "(I)Z"⟩, 41) := ⟨⟨by decide +kernel, by decide +kernel⟩, List.mem_of_getElem? (i := 741) (by decide +kernel), List.mem_of_getElem? (i := 887) (by decide +kernel), List.mem_of_getElem? (i := 888) (by decide +kernel)⟩
theorem lw_p29 : lw_okq (⟨"MightHaveBeenPutUpModel", "putAll", "()J"⟩, 41) := ⟨⟨by decide +kernel, by decide +kernel⟩, List.mem_of_getElem? (i := 741) (by decide +kernel), List.mem_of_getElem? (i := 895) (by decide +kernel), List.mem_of_getElem? (i := 896) (by decide +kernel)⟩
theorem lw_p30 : lw_okq (⟨"MightHaveBeenPutUpModel", "holdsOf", "(I)I"⟩, 41) := ⟨⟨by decide +kernel, by decide +kernel⟩, List.mem_of_getElem? (i := 741) (by decide +kernel), List.mem_of_getElem? (i := 907) (by decide +kernel), List.mem_of_getElem? (i := 908) (by decide +kernel)⟩
theorem lw_p31 : lw_okq (⟨"MightHaveBeenPutUpModel", "says", "(II)I"⟩, 41) := ⟨⟨by decide +kernel, by decide +kernel⟩, List.mem_of_getElem? (i := 741) (by decide +kernel), List.mem_of_getElem? (i := 911) (by decide +kernel), List.mem_of_getElem? (i := 912) (by decide +kernel)⟩
def lw_privs_2 : List (MethodName × Nat) := [(⟨"MightHaveBeenPutUp$Reader", "opens", "()Z"⟩, 11), (⟨"MightHaveBeenPutUp$Reader", "write", "(I)V"⟩, 11), (⟨"MightHaveBeenPutUp$Reader", "readSum", "()V"⟩, 11), (⟨"MightHaveBeenPutUp$Reader", "readTerm", "()V"⟩, 11), (⟨"MightHaveBeenPutUp$Reader", "readOne", "()V"⟩, 11), (⟨"MightHaveBeenPutUp", "think", "(I)V"⟩, 8), (⟨"MightHaveBeenPutUp", "firstOtherwise", "(LMightHaveBeenPutUp$Sheet;I)I"⟩, 8), (⟨"MightHaveBeenPutUp", "supposedTold", "(LMightHaveBeenPutUp$Sheet;II)I"⟩, 8), (⟨"MightHaveBeenPutUp", "suppositions", "(I)I"⟩, 8), (⟨"MightHaveBeenPutUp", "suppose", "(III)V"⟩, 8), (⟨"MightHaveBeenPutUp", "countDrawn", "(II)I"⟩, 8), (⟨"MightHaveBeenPutUpModel", "spell", "(IIIIIIIII)V"⟩, 41), (⟨"MightHaveBeenPutUpModel", "isOne", "(I)Z"⟩, 41), (⟨"MightHaveBeenPutUpModel", "putAll", "()J"⟩, 41), (⟨"MightHaveBeenPutUpModel", "holdsOf", "(I)I"⟩, 41), (⟨"MightHaveBeenPutUpModel", "says", "(II)I"⟩, 41)]
theorem lw_r2 : ∀ q ∈ lw_privs_2, lw_okq q := List.forall_mem_cons.mpr ⟨lw_p16, List.forall_mem_cons.mpr ⟨lw_p17, List.forall_mem_cons.mpr ⟨lw_p18, List.forall_mem_cons.mpr ⟨lw_p19, List.forall_mem_cons.mpr ⟨lw_p20, List.forall_mem_cons.mpr ⟨lw_p21, List.forall_mem_cons.mpr ⟨lw_p22, List.forall_mem_cons.mpr ⟨lw_p23, List.forall_mem_cons.mpr ⟨lw_p24, List.forall_mem_cons.mpr ⟨lw_p25, List.forall_mem_cons.mpr ⟨lw_p26, List.forall_mem_cons.mpr ⟨lw_p27, List.forall_mem_cons.mpr ⟨lw_p28, List.forall_mem_cons.mpr ⟨lw_p29, List.forall_mem_cons.mpr ⟨lw_p30, List.forall_mem_cons.mpr ⟨lw_p31, fun _ h => absurd h List.not_mem_nil⟩⟩⟩⟩⟩⟩⟩⟩⟩⟩⟩⟩⟩⟩⟩⟩
theorem lw_p32 : lw_okq (⟨"MightHaveBeenPutUpModel", "read", "(II)I"⟩, 41) := ⟨⟨by decide +kernel, by decide +kernel⟩, List.mem_of_getElem? (i := 741) (by decide +kernel), List.mem_of_getElem? (i := 921) (by decide +kernel), List.mem_of_getElem? (i := 922) (by decide +kernel)⟩
theorem lw_p33 : lw_okq (⟨"MightHaveBeenPutUpModel", "next", "()V"⟩, 41) := ⟨⟨by decide +kernel, by decide +kernel⟩, List.mem_of_getElem? (i := 741) (by decide +kernel), List.mem_of_getElem? (i := 925) (by decide +kernel), List.mem_of_getElem? (i := 926) (by decide +kernel)⟩
theorem lw_p34 : lw_okq (⟨"MightHaveBeenPutUpModel", "byteAt", "(I)I"⟩, 41) := ⟨⟨by decide +kernel, by decide +kernel⟩, List.mem_of_getElem? (i := 741) (by decide +kernel), List.mem_of_getElem? (i := 929) (by decide +kernel), List.mem_of_getElem? (i := 930) (by decide +kernel)⟩
theorem lw_p35 : lw_okq (⟨"MightHaveBeenPutUpModel", "isWord", "(IIIIIIII)Z"⟩, 41) := ⟨⟨by decide +kernel, by decide +kernel⟩, List.mem_of_getElem? (i := 741) (by decide +kernel), List.mem_of_getElem? (i := 938) (by decide +kernel), List.mem_of_getElem? (i := 939) (by decide +kernel)⟩
theorem lw_p36 : lw_okq (⟨"MightHaveBeenPutUpModel", "isLetter", "(II)Z"⟩, 41) := ⟨⟨by decide +kernel, by decide +kernel⟩, List.mem_of_getElem? (i := 741) (by decide +kernel), List.mem_of_getElem? (i := 942) (by decide +kernel), List.mem_of_getElem? (i := 943) (by decide +kernel)⟩
theorem lw_p37 : lw_okq (⟨"MightHaveBeenPutUpModel", "part", "(Z)I"⟩, 41) := ⟨⟨by decide +kernel, by decide +kernel⟩, List.mem_of_getElem? (i := 741) (by decide +kernel), List.mem_of_getElem? (i := 946) (by decide +kernel), List.mem_of_getElem? (i := 947) (by decide +kernel)⟩
theorem lw_p38 : lw_okq (⟨"MightHaveBeenPutUpModel", "fail", "()V"⟩, 41) := ⟨⟨by decide +kernel, by decide +kernel⟩, List.mem_of_getElem? (i := 741) (by decide +kernel), List.mem_of_getElem? (i := 950) (by decide +kernel), List.mem_of_getElem? (i := 951) (by decide +kernel)⟩
theorem lw_p39 : lw_okq (⟨"MightHaveBeenPutUpModel", "either0", "()I"⟩, 41) := ⟨⟨by decide +kernel, by decide +kernel⟩, List.mem_of_getElem? (i := 741) (by decide +kernel), List.mem_of_getElem? (i := 954) (by decide +kernel), List.mem_of_getElem? (i := 955) (by decide +kernel)⟩
theorem lw_p40 : lw_okq (⟨"MightHaveBeenPutUpModel", "both0", "()I"⟩, 41) := ⟨⟨by decide +kernel, by decide +kernel⟩, List.mem_of_getElem? (i := 741) (by decide +kernel), List.mem_of_getElem? (i := 958) (by decide +kernel), List.mem_of_getElem? (i := 959) (by decide +kernel)⟩
theorem lw_p41 : lw_okq (⟨"MightHaveBeenPutUpModel", "not0", "()I"⟩, 41) := ⟨⟨by decide +kernel, by decide +kernel⟩, List.mem_of_getElem? (i := 741) (by decide +kernel), List.mem_of_getElem? (i := 962) (by decide +kernel), List.mem_of_getElem? (i := 963) (by decide +kernel)⟩
theorem lw_p42 : lw_okq (⟨"MightHaveBeenPutUpModel", "opens", "()Z"⟩, 41) := ⟨⟨by decide +kernel, by decide +kernel⟩, List.mem_of_getElem? (i := 741) (by decide +kernel), List.mem_of_getElem? (i := 966) (by decide +kernel), List.mem_of_getElem? (i := 967) (by decide +kernel)⟩
theorem lw_p43 : lw_okq (⟨"MightHaveBeenPutUpModel", "not1", "()I"⟩, 41) := ⟨⟨by decide +kernel, by decide +kernel⟩, List.mem_of_getElem? (i := 741) (by decide +kernel), List.mem_of_getElem? (i := 970) (by decide +kernel), List.mem_of_getElem? (i := 971) (by decide +kernel)⟩
theorem lw_p44 : lw_okq (⟨"MightHaveBeenPutUpModel", "not2", "()I"⟩, 41) := ⟨⟨by decide +kernel, by decide +kernel⟩, List.mem_of_getElem? (i := 741) (by decide +kernel), List.mem_of_getElem? (i := 974) (by decide +kernel), List.mem_of_getElem? (i := 975) (by decide +kernel)⟩
theorem lw_p45 : lw_okq (⟨"MightHaveBeenPutUpModel", "not3", "()I"⟩, 41) := ⟨⟨by decide +kernel, by decide +kernel⟩, List.mem_of_getElem? (i := 741) (by decide +kernel), List.mem_of_getElem? (i := 978) (by decide +kernel), List.mem_of_getElem? (i := 979) (by decide +kernel)⟩
theorem lw_p46 : lw_okq (⟨"MightHaveBeenPutUpModel", "not4", "()I"⟩, 41) := ⟨⟨by decide +kernel, by decide +kernel⟩, List.mem_of_getElem? (i := 741) (by decide +kernel), List.mem_of_getElem? (i := 982) (by decide +kernel), List.mem_of_getElem? (i := 983) (by decide +kernel)⟩
theorem lw_p47 : lw_okq (⟨"MightHaveBeenPutUpModel", "not5", "()I"⟩, 41) := ⟨⟨by decide +kernel, by decide +kernel⟩, List.mem_of_getElem? (i := 741) (by decide +kernel), List.mem_of_getElem? (i := 986) (by decide +kernel), List.mem_of_getElem? (i := 987) (by decide +kernel)⟩
def lw_privs_3 : List (MethodName × Nat) := [(⟨"MightHaveBeenPutUpModel", "read", "(II)I"⟩, 41), (⟨"MightHaveBeenPutUpModel", "next", "()V"⟩, 41), (⟨"MightHaveBeenPutUpModel", "byteAt", "(I)I"⟩, 41), (⟨"MightHaveBeenPutUpModel", "isWord", "(IIIIIIII)Z"⟩, 41), (⟨"MightHaveBeenPutUpModel", "isLetter", "(II)Z"⟩, 41), (⟨"MightHaveBeenPutUpModel", "part", "(Z)I"⟩, 41), (⟨"MightHaveBeenPutUpModel", "fail", "()V"⟩, 41), (⟨"MightHaveBeenPutUpModel", "either0", "()I"⟩, 41), (⟨"MightHaveBeenPutUpModel", "both0", "()I"⟩, 41), (⟨"MightHaveBeenPutUpModel", "not0", "()I"⟩, 41), (⟨"MightHaveBeenPutUpModel", "opens", "()Z"⟩, 41), (⟨"MightHaveBeenPutUpModel", "not1", "()I"⟩, 41), (⟨"MightHaveBeenPutUpModel", "not2", "()I"⟩, 41), (⟨"MightHaveBeenPutUpModel", "not3", "()I"⟩, 41), (⟨"MightHaveBeenPutUpModel", "not4", "()I"⟩, 41), (⟨"MightHaveBeenPutUpModel", "not5", "()I"⟩, 41)]
theorem lw_r3 : ∀ q ∈ lw_privs_3, lw_okq q := List.forall_mem_cons.mpr ⟨lw_p32, List.forall_mem_cons.mpr ⟨lw_p33, List.forall_mem_cons.mpr ⟨lw_p34, List.forall_mem_cons.mpr ⟨lw_p35, List.forall_mem_cons.mpr ⟨lw_p36, List.forall_mem_cons.mpr ⟨lw_p37, List.forall_mem_cons.mpr ⟨lw_p38, List.forall_mem_cons.mpr ⟨lw_p39, List.forall_mem_cons.mpr ⟨lw_p40, List.forall_mem_cons.mpr ⟨lw_p41, List.forall_mem_cons.mpr ⟨lw_p42, List.forall_mem_cons.mpr ⟨lw_p43, List.forall_mem_cons.mpr ⟨lw_p44, List.forall_mem_cons.mpr ⟨lw_p45, List.forall_mem_cons.mpr ⟨lw_p46, List.forall_mem_cons.mpr ⟨lw_p47, fun _ h => absurd h List.not_mem_nil⟩⟩⟩⟩⟩⟩⟩⟩⟩⟩⟩⟩⟩⟩⟩⟩
theorem lw_p48 : lw_okq (⟨"MightHaveBeenPutUpModel", "added5", "()I"⟩, 41) := ⟨⟨by decide +kernel, by decide +kernel⟩, List.mem_of_getElem? (i := 741) (by decide +kernel), List.mem_of_getElem? (i := 990) (by decide +kernel), List.mem_of_getElem? (i := 991) (by decide +kernel)⟩
theorem lw_p49 : lw_okq (⟨"MightHaveBeenPutUpModel", "term5", "()I"⟩, 41) := ⟨⟨by decide +kernel, by decide +kernel⟩, List.mem_of_getElem? (i := 741) (by decide +kernel), List.mem_of_getElem? (i := 994) (by decide +kernel), List.mem_of_getElem? (i := 995) (by decide +kernel)⟩
theorem lw_p50 : lw_okq (⟨"MightHaveBeenPutUpModel", "atom5", "()I"⟩, 41) := ⟨⟨by decide +kernel, by decide +kernel⟩, List.mem_of_getElem? (i := 741) (by decide +kernel), List.mem_of_getElem? (i := 998) (by decide +kernel), List.mem_of_getElem? (i := 999) (by decide +kernel)⟩
theorem lw_p51 : lw_okq (⟨"MightHaveBeenPutUpModel", "isSign", "(I)Z"⟩, 41) := ⟨⟨by decide +kernel, by decide +kernel⟩, List.mem_of_getElem? (i := 741) (by decide +kernel), List.mem_of_getElem? (i := 1002) (by decide +kernel), List.mem_of_getElem? (i := 1003) (by decide +kernel)⟩
theorem lw_p52 : lw_okq (⟨"MightHaveBeenPutUpModel", "name", "()I"⟩, 41) := ⟨⟨by decide +kernel, by decide +kernel⟩, List.mem_of_getElem? (i := 741) (by decide +kernel), List.mem_of_getElem? (i := 1006) (by decide +kernel), List.mem_of_getElem? (i := 1007) (by decide +kernel)⟩
theorem lw_p53 : lw_okq (⟨"MightHaveBeenPutUpModel", "added4", "()I"⟩, 41) := ⟨⟨by decide +kernel, by decide +kernel⟩, List.mem_of_getElem? (i := 741) (by decide +kernel), List.mem_of_getElem? (i := 1012) (by decide +kernel), List.mem_of_getElem? (i := 1013) (by decide +kernel)⟩
theorem lw_p54 : lw_okq (⟨"MightHaveBeenPutUpModel", "term4", "()I"⟩, 41) := ⟨⟨by decide +kernel, by decide +kernel⟩, List.mem_of_getElem? (i := 741) (by decide +kernel), List.mem_of_getElem? (i := 1016) (by decide +kernel), List.mem_of_getElem? (i := 1017) (by decide +kernel)⟩
theorem lw_p55 : lw_okq (⟨"MightHaveBeenPutUpModel", "atom4", "()I"⟩, 41) := ⟨⟨by decide +kernel, by decide +kernel⟩, List.mem_of_getElem? (i := 741) (by decide +kernel), List.mem_of_getElem? (i := 1020) (by decide +kernel), List.mem_of_getElem? (i := 1021) (by decide +kernel)⟩
theorem lw_p56 : lw_okq (⟨"MightHaveBeenPutUpModel", "either5", "()I"⟩, 41) := ⟨⟨by decide +kernel, by decide +kernel⟩, List.mem_of_getElem? (i := 741) (by decide +kernel), List.mem_of_getElem? (i := 1024) (by decide +kernel), List.mem_of_getElem? (i := 1025) (by decide +kernel)⟩
theorem lw_p57 : lw_okq (⟨"MightHaveBeenPutUpModel", "both5", "()I"⟩, 41) := ⟨⟨by decide +kernel, by decide +kernel⟩, List.mem_of_getElem? (i := 741) (by decide +kernel), List.mem_of_getElem? (i := 1028) (by decide +kernel), List.mem_of_getElem? (i := 1029) (by decide +kernel)⟩
theorem lw_p58 : lw_okq (⟨"MightHaveBeenPutUpModel", "added3", "()I"⟩, 41) := ⟨⟨by decide +kernel, by decide +kernel⟩, List.mem_of_getElem? (i := 741) (by decide +kernel), List.mem_of_getElem? (i := 1032) (by decide +kernel), List.mem_of_getElem? (i := 1033) (by decide +kernel)⟩
theorem lw_p59 : lw_okq (⟨"MightHaveBeenPutUpModel", "term3", "()I"⟩, 41) := ⟨⟨by decide +kernel, by decide +kernel⟩, List.mem_of_getElem? (i := 741) (by decide +kernel), List.mem_of_getElem? (i := 1036) (by decide +kernel), List.mem_of_getElem? (i := 1037) (by decide +kernel)⟩
theorem lw_p60 : lw_okq (⟨"MightHaveBeenPutUpModel", "atom3", "()I"⟩, 41) := ⟨⟨by decide +kernel, by decide +kernel⟩, List.mem_of_getElem? (i := 741) (by decide +kernel), List.mem_of_getElem? (i := 1040) (by decide +kernel), List.mem_of_getElem? (i := 1041) (by decide +kernel)⟩
theorem lw_p61 : lw_okq (⟨"MightHaveBeenPutUpModel", "either4", "()I"⟩, 41) := ⟨⟨by decide +kernel, by decide +kernel⟩, List.mem_of_getElem? (i := 741) (by decide +kernel), List.mem_of_getElem? (i := 1044) (by decide +kernel), List.mem_of_getElem? (i := 1045) (by decide +kernel)⟩
theorem lw_p62 : lw_okq (⟨"MightHaveBeenPutUpModel", "both4", "()I"⟩, 41) := ⟨⟨by decide +kernel, by decide +kernel⟩, List.mem_of_getElem? (i := 741) (by decide +kernel), List.mem_of_getElem? (i := 1048) (by decide +kernel), List.mem_of_getElem? (i := 1049) (by decide +kernel)⟩
theorem lw_p63 : lw_okq (⟨"MightHaveBeenPutUpModel", "added2", "()I"⟩, 41) := ⟨⟨by decide +kernel, by decide +kernel⟩, List.mem_of_getElem? (i := 741) (by decide +kernel), List.mem_of_getElem? (i := 1052) (by decide +kernel), List.mem_of_getElem? (i := 1053) (by decide +kernel)⟩
def lw_privs_4 : List (MethodName × Nat) := [(⟨"MightHaveBeenPutUpModel", "added5", "()I"⟩, 41), (⟨"MightHaveBeenPutUpModel", "term5", "()I"⟩, 41), (⟨"MightHaveBeenPutUpModel", "atom5", "()I"⟩, 41), (⟨"MightHaveBeenPutUpModel", "isSign", "(I)Z"⟩, 41), (⟨"MightHaveBeenPutUpModel", "name", "()I"⟩, 41), (⟨"MightHaveBeenPutUpModel", "added4", "()I"⟩, 41), (⟨"MightHaveBeenPutUpModel", "term4", "()I"⟩, 41), (⟨"MightHaveBeenPutUpModel", "atom4", "()I"⟩, 41), (⟨"MightHaveBeenPutUpModel", "either5", "()I"⟩, 41), (⟨"MightHaveBeenPutUpModel", "both5", "()I"⟩, 41), (⟨"MightHaveBeenPutUpModel", "added3", "()I"⟩, 41), (⟨"MightHaveBeenPutUpModel", "term3", "()I"⟩, 41), (⟨"MightHaveBeenPutUpModel", "atom3", "()I"⟩, 41), (⟨"MightHaveBeenPutUpModel", "either4", "()I"⟩, 41), (⟨"MightHaveBeenPutUpModel", "both4", "()I"⟩, 41), (⟨"MightHaveBeenPutUpModel", "added2", "()I"⟩, 41)]
theorem lw_r4 : ∀ q ∈ lw_privs_4, lw_okq q := List.forall_mem_cons.mpr ⟨lw_p48, List.forall_mem_cons.mpr ⟨lw_p49, List.forall_mem_cons.mpr ⟨lw_p50, List.forall_mem_cons.mpr ⟨lw_p51, List.forall_mem_cons.mpr ⟨lw_p52, List.forall_mem_cons.mpr ⟨lw_p53, List.forall_mem_cons.mpr ⟨lw_p54, List.forall_mem_cons.mpr ⟨lw_p55, List.forall_mem_cons.mpr ⟨lw_p56, List.forall_mem_cons.mpr ⟨lw_p57, List.forall_mem_cons.mpr ⟨lw_p58, List.forall_mem_cons.mpr ⟨lw_p59, List.forall_mem_cons.mpr ⟨lw_p60, List.forall_mem_cons.mpr ⟨lw_p61, List.forall_mem_cons.mpr ⟨lw_p62, List.forall_mem_cons.mpr ⟨lw_p63, fun _ h => absurd h List.not_mem_nil⟩⟩⟩⟩⟩⟩⟩⟩⟩⟩⟩⟩⟩⟩⟩⟩
theorem lw_p64 : lw_okq (⟨"MightHaveBeenPutUpModel", "term2", "()I"⟩, 41) := ⟨⟨by decide +kernel, by decide +kernel⟩, List.mem_of_getElem? (i := 741) (by decide +kernel), List.mem_of_getElem? (i := 1056) (by decide +kernel), List.mem_of_getElem? (i := 1057) (by decide +kernel)⟩
theorem lw_p65 : lw_okq (⟨"MightHaveBeenPutUpModel", "atom2", "()I"⟩, 41) := ⟨⟨by decide +kernel, by decide +kernel⟩, List.mem_of_getElem? (i := 741) (by decide +kernel), List.mem_of_getElem? (i := 1060) (by decide +kernel), List.mem_of_getElem? (i := 1061) (by decide +kernel)⟩
theorem lw_p66 : lw_okq (⟨"MightHaveBeenPutUpModel", "either3", "()I"⟩, 41) := ⟨⟨by decide +kernel, by decide +kernel⟩, List.mem_of_getElem? (i := 741) (by decide +kernel), List.mem_of_getElem? (i := 1064) (by decide +kernel), List.mem_of_getElem? (i := 1065) (by decide +kernel)⟩
theorem lw_p67 : lw_okq (⟨"MightHaveBeenPutUpModel", "both3", "()I"⟩, 41) := ⟨⟨by decide +kernel, by decide +kernel⟩, List.mem_of_getElem? (i := 741) (by decide +kernel), List.mem_of_getElem? (i := 1068) (by decide +kernel), List.mem_of_getElem? (i := 1069) (by decide +kernel)⟩
theorem lw_p68 : lw_okq (⟨"MightHaveBeenPutUpModel", "added1", "()I"⟩, 41) := ⟨⟨by decide +kernel, by decide +kernel⟩, List.mem_of_getElem? (i := 741) (by decide +kernel), List.mem_of_getElem? (i := 1072) (by decide +kernel), List.mem_of_getElem? (i := 1073) (by decide +kernel)⟩
theorem lw_p69 : lw_okq (⟨"MightHaveBeenPutUpModel", "term1", "()I"⟩, 41) := ⟨⟨by decide +kernel, by decide +kernel⟩, List.mem_of_getElem? (i := 741) (by decide +kernel), List.mem_of_getElem? (i := 1076) (by decide +kernel), List.mem_of_getElem? (i := 1077) (by decide +kernel)⟩
theorem lw_p70 : lw_okq (⟨"MightHaveBeenPutUpModel", "atom1", "()I"⟩, 41) := ⟨⟨by decide +kernel, by decide +kernel⟩, List.mem_of_getElem? (i := 741) (by decide +kernel), List.mem_of_getElem? (i := 1080) (by decide +kernel), List.mem_of_getElem? (i := 1081) (by decide +kernel)⟩
theorem lw_p71 : lw_okq (⟨"MightHaveBeenPutUpModel", "either2", "()I"⟩, 41) := ⟨⟨by decide +kernel, by decide +kernel⟩, List.mem_of_getElem? (i := 741) (by decide +kernel), List.mem_of_getElem? (i := 1084) (by decide +kernel), List.mem_of_getElem? (i := 1085) (by decide +kernel)⟩
theorem lw_p72 : lw_okq (⟨"MightHaveBeenPutUpModel", "both2", "()I"⟩, 41) := ⟨⟨by decide +kernel, by decide +kernel⟩, List.mem_of_getElem? (i := 741) (by decide +kernel), List.mem_of_getElem? (i := 1088) (by decide +kernel), List.mem_of_getElem? (i := 1089) (by decide +kernel)⟩
theorem lw_p73 : lw_okq (⟨"MightHaveBeenPutUpModel", "added0", "()I"⟩, 41) := ⟨⟨by decide +kernel, by decide +kernel⟩, List.mem_of_getElem? (i := 741) (by decide +kernel), List.mem_of_getElem? (i := 1092) (by decide +kernel), List.mem_of_getElem? (i := 1093) (by decide +kernel)⟩
theorem lw_p74 : lw_okq (⟨"MightHaveBeenPutUpModel", "term0", "()I"⟩, 41) := ⟨⟨by decide +kernel, by decide +kernel⟩, List.mem_of_getElem? (i := 741) (by decide +kernel), List.mem_of_getElem? (i := 1096) (by decide +kernel), List.mem_of_getElem? (i := 1097) (by decide +kernel)⟩
theorem lw_p75 : lw_okq (⟨"MightHaveBeenPutUpModel", "atom0", "()I"⟩, 41) := ⟨⟨by decide +kernel, by decide +kernel⟩, List.mem_of_getElem? (i := 741) (by decide +kernel), List.mem_of_getElem? (i := 1100) (by decide +kernel), List.mem_of_getElem? (i := 1101) (by decide +kernel)⟩
theorem lw_p76 : lw_okq (⟨"MightHaveBeenPutUpModel", "either1", "()I"⟩, 41) := ⟨⟨by decide +kernel, by decide +kernel⟩, List.mem_of_getElem? (i := 741) (by decide +kernel), List.mem_of_getElem? (i := 1104) (by decide +kernel), List.mem_of_getElem? (i := 1105) (by decide +kernel)⟩
theorem lw_p77 : lw_okq (⟨"MightHaveBeenPutUpModel", "both1", "()I"⟩, 41) := ⟨⟨by decide +kernel, by decide +kernel⟩, List.mem_of_getElem? (i := 741) (by decide +kernel), List.mem_of_getElem? (i := 1108) (by decide +kernel), List.mem_of_getElem? (i := 1109) (by decide +kernel)⟩
theorem lw_p78 : lw_okq (⟨"MightHaveBeenPutUpModel", "fadesOf", "(I)I"⟩, 41) := ⟨⟨by decide +kernel, by decide +kernel⟩, List.mem_of_getElem? (i := 741) (by decide +kernel), List.mem_of_getElem? (i := 1115) (by decide +kernel), List.mem_of_getElem? (i := 1116) (by decide +kernel)⟩
theorem lw_p79 : lw_okq (⟨"MightHaveBeenPutUpModel", "costsOf", "(I)I"⟩, 41) := ⟨⟨by decide +kernel, by decide +kernel⟩, List.mem_of_getElem? (i := 741) (by decide +kernel), List.mem_of_getElem? (i := 1119) (by decide +kernel), List.mem_of_getElem? (i := 1120) (by decide +kernel)⟩
def lw_privs_5 : List (MethodName × Nat) := [(⟨"MightHaveBeenPutUpModel", "term2", "()I"⟩, 41), (⟨"MightHaveBeenPutUpModel", "atom2", "()I"⟩, 41), (⟨"MightHaveBeenPutUpModel", "either3", "()I"⟩, 41), (⟨"MightHaveBeenPutUpModel", "both3", "()I"⟩, 41), (⟨"MightHaveBeenPutUpModel", "added1", "()I"⟩, 41), (⟨"MightHaveBeenPutUpModel", "term1", "()I"⟩, 41), (⟨"MightHaveBeenPutUpModel", "atom1", "()I"⟩, 41), (⟨"MightHaveBeenPutUpModel", "either2", "()I"⟩, 41), (⟨"MightHaveBeenPutUpModel", "both2", "()I"⟩, 41), (⟨"MightHaveBeenPutUpModel", "added0", "()I"⟩, 41), (⟨"MightHaveBeenPutUpModel", "term0", "()I"⟩, 41), (⟨"MightHaveBeenPutUpModel", "atom0", "()I"⟩, 41), (⟨"MightHaveBeenPutUpModel", "either1", "()I"⟩, 41), (⟨"MightHaveBeenPutUpModel", "both1", "()I"⟩, 41), (⟨"MightHaveBeenPutUpModel", "fadesOf", "(I)I"⟩, 41), (⟨"MightHaveBeenPutUpModel", "costsOf", "(I)I"⟩, 41)]
theorem lw_r5 : ∀ q ∈ lw_privs_5, lw_okq q := List.forall_mem_cons.mpr ⟨lw_p64, List.forall_mem_cons.mpr ⟨lw_p65, List.forall_mem_cons.mpr ⟨lw_p66, List.forall_mem_cons.mpr ⟨lw_p67, List.forall_mem_cons.mpr ⟨lw_p68, List.forall_mem_cons.mpr ⟨lw_p69, List.forall_mem_cons.mpr ⟨lw_p70, List.forall_mem_cons.mpr ⟨lw_p71, List.forall_mem_cons.mpr ⟨lw_p72, List.forall_mem_cons.mpr ⟨lw_p73, List.forall_mem_cons.mpr ⟨lw_p74, List.forall_mem_cons.mpr ⟨lw_p75, List.forall_mem_cons.mpr ⟨lw_p76, List.forall_mem_cons.mpr ⟨lw_p77, List.forall_mem_cons.mpr ⟨lw_p78, List.forall_mem_cons.mpr ⟨lw_p79, fun _ h => absurd h List.not_mem_nil⟩⟩⟩⟩⟩⟩⟩⟩⟩⟩⟩⟩⟩⟩⟩⟩
theorem lw_p80 : lw_okq (⟨"MightHaveBeenPutUpModel", "whoseIs", "(I)I"⟩, 41) := ⟨⟨by decide +kernel, by decide +kernel⟩, List.mem_of_getElem? (i := 741) (by decide +kernel), List.mem_of_getElem? (i := 1123) (by decide +kernel), List.mem_of_getElem? (i := 1124) (by decide +kernel)⟩
theorem lw_p81 : lw_okq (⟨"MightHaveBeenPutUpModel", "falls", "()I"⟩, 41) := ⟨⟨by decide +kernel, by decide +kernel⟩, List.mem_of_getElem? (i := 741) (by decide +kernel), List.mem_of_getElem? (i := 1128) (by decide +kernel), List.mem_of_getElem? (i := 1129) (by decide +kernel)⟩
theorem lw_p82 : lw_okq (⟨"MightHaveBeenPutUpModel", "stands", "()J"⟩, 41) := ⟨⟨by decide +kernel, by decide +kernel⟩, List.mem_of_getElem? (i := 741) (by decide +kernel), List.mem_of_getElem? (i := 1132) (by decide +kernel), List.mem_of_getElem? (i := 1133) (by decide +kernel)⟩
theorem lw_p83 : lw_okq (⟨"MightHaveBeenPutUpModel", "lays", "(III)V"⟩, 41) := ⟨⟨by decide +kernel, by decide +kernel⟩, List.mem_of_getElem? (i := 741) (by decide +kernel), List.mem_of_getElem? (i := 1144) (by decide +kernel), List.mem_of_getElem? (i := 1145) (by decide +kernel)⟩
theorem lw_p84 : lw_okq (⟨"MightHaveBeenPutUpModel", "felled", "(I)I"⟩, 41) := ⟨⟨by decide +kernel, by decide +kernel⟩, List.mem_of_getElem? (i := 741) (by decide +kernel), List.mem_of_getElem? (i := 1177) (by decide +kernel), List.mem_of_getElem? (i := 1178) (by decide +kernel)⟩
theorem lw_p85 : lw_okq (⟨"MightHaveBeenPutUpModel", "passes", "()I"⟩, 41) := ⟨⟨by decide +kernel, by decide +kernel⟩, List.mem_of_getElem? (i := 741) (by decide +kernel), List.mem_of_getElem? (i := 1203) (by decide +kernel), List.mem_of_getElem? (i := 1204) (by decide +kernel)⟩
theorem lw_p86 : lw_okq (⟨"MightHaveBeenPutUpModel", "laysAside", "()V"⟩, 41) := ⟨⟨by decide +kernel, by decide +kernel⟩, List.mem_of_getElem? (i := 741) (by decide +kernel), List.mem_of_getElem? (i := 1213) (by decide +kernel), List.mem_of_getElem? (i := 1214) (by decide +kernel)⟩
theorem lw_p87 : lw_okq (⟨"MightHaveBeenPutUpModel", "go", "(I)V"⟩, 41) := ⟨⟨by decide +kernel, by decide +kernel⟩, List.mem_of_getElem? (i := 741) (by decide +kernel), List.mem_of_getElem? (i := 1217) (by decide +kernel), List.mem_of_getElem? (i := 1218) (by decide +kernel)⟩
theorem lw_p88 : lw_okq (⟨"MightHaveBeenPutUpModel", "laysBack", "()V"⟩, 41) := ⟨⟨by decide +kernel, by decide +kernel⟩, List.mem_of_getElem? (i := 741) (by decide +kernel), List.mem_of_getElem? (i := 1221) (by decide +kernel), List.mem_of_getElem? (i := 1222) (by decide +kernel)⟩
theorem lw_p89 : lw_okq (⟨"MightHaveBeenPutUpModel", "putBehind", "(IJI)I"⟩, 41) := ⟨⟨by decide +kernel, by decide +kernel⟩, List.mem_of_getElem? (i := 741) (by decide +kernel), List.mem_of_getElem? (i := 1256) (by decide +kernel), List.mem_of_getElem? (i := 1257) (by decide +kernel)⟩
theorem lw_p90 : lw_okq (⟨"MightHaveBeenPutUpModel", "firstOther", "(II)I"⟩, 41) := ⟨⟨by decide +kernel, by decide +kernel⟩, List.mem_of_getElem? (i := 741) (by decide +kernel), List.mem_of_getElem? (i := 1275) (by decide +kernel), List.mem_of_getElem? (i := 1276) (by decide +kernel)⟩
theorem lw_p91 : lw_okq (⟨"MightHaveBeenPutUpModel", "likeSet", "(I)I"⟩, 41) := ⟨⟨by decide +kernel, by decide +kernel⟩, List.mem_of_getElem? (i := 741) (by decide +kernel), List.mem_of_getElem? (i := 1279) (by decide +kernel), List.mem_of_getElem? (i := 1280) (by decide +kernel)⟩
theorem lw_p92 : lw_okq (⟨"MightHaveBeenPutUpModel", "putDrawn", "(II)I"⟩, 41) := ⟨⟨by decide +kernel, by decide +kernel⟩, List.mem_of_getElem? (i := 741) (by decide +kernel), List.mem_of_getElem? (i := 1296) (by decide +kernel), List.mem_of_getElem? (i := 1297) (by decide +kernel)⟩
def lw_privs_6 : List (MethodName × Nat) := [(⟨"MightHaveBeenPutUpModel", "whoseIs", "(I)I"⟩, 41), (⟨"MightHaveBeenPutUpModel", "falls", "()I"⟩, 41), (⟨"MightHaveBeenPutUpModel", "stands", "()J"⟩, 41), (⟨"MightHaveBeenPutUpModel", "lays", "(III)V"⟩, 41), (⟨"MightHaveBeenPutUpModel", "felled", "(I)I"⟩, 41), (⟨"MightHaveBeenPutUpModel", "passes", "()I"⟩, 41), (⟨"MightHaveBeenPutUpModel", "laysAside", "()V"⟩, 41), (⟨"MightHaveBeenPutUpModel", "go", "(I)V"⟩, 41), (⟨"MightHaveBeenPutUpModel", "laysBack", "()V"⟩, 41), (⟨"MightHaveBeenPutUpModel", "putBehind", "(IJI)I"⟩, 41), (⟨"MightHaveBeenPutUpModel", "firstOther", "(II)I"⟩, 41), (⟨"MightHaveBeenPutUpModel", "likeSet", "(I)I"⟩, 41), (⟨"MightHaveBeenPutUpModel", "putDrawn", "(II)I"⟩, 41)]
theorem lw_r6 : ∀ q ∈ lw_privs_6, lw_okq q := List.forall_mem_cons.mpr ⟨lw_p80, List.forall_mem_cons.mpr ⟨lw_p81, List.forall_mem_cons.mpr ⟨lw_p82, List.forall_mem_cons.mpr ⟨lw_p83, List.forall_mem_cons.mpr ⟨lw_p84, List.forall_mem_cons.mpr ⟨lw_p85, List.forall_mem_cons.mpr ⟨lw_p86, List.forall_mem_cons.mpr ⟨lw_p87, List.forall_mem_cons.mpr ⟨lw_p88, List.forall_mem_cons.mpr ⟨lw_p89, List.forall_mem_cons.mpr ⟨lw_p90, List.forall_mem_cons.mpr ⟨lw_p91, List.forall_mem_cons.mpr ⟨lw_p92, fun _ h => absurd h List.not_mem_nil⟩⟩⟩⟩⟩⟩⟩⟩⟩⟩⟩⟩⟩
def lw_privs : List (MethodName × Nat) := lw_privs_1 ++ (lw_privs_2 ++ (lw_privs_3 ++ (lw_privs_4 ++ (lw_privs_5 ++ (lw_privs_6)))))
def lw_tbl : List Cond := k2_sels lw_privs ++ tables_1
theorem lw_privs_ok : ∀ q ∈ lw_privs, lw_okq q := by
  show ∀ q ∈ lw_privs_1 ++ (lw_privs_2 ++ (lw_privs_3 ++ (lw_privs_4 ++ (lw_privs_5 ++ (lw_privs_6))))), lw_okq q
  exact List.forall_mem_append.mpr ⟨lw_r1, List.forall_mem_append.mpr ⟨lw_r2, List.forall_mem_append.mpr ⟨lw_r3, List.forall_mem_append.mpr ⟨lw_r4, List.forall_mem_append.mpr ⟨lw_r5, lw_r6⟩⟩⟩⟩⟩
end
section
def RX0 : String := "MightHaveBeenPutUp$Reader"
def TX0 : u_T := fun k => match k with
  | 0 => ("MightHaveBeenPutUp$Reader", "size", "I", false)
  | 1 => ("MightHaveBeenPutUp$Reader", "tape", "[I", true)
  | 2 => ("MightHaveBeenPutUp$Reader", "code", "[I", true)
  | 3 => ("MightHaveBeenPutUp$Reader", "ends", "[I", true)
  | 4 => ("MightHaveBeenPutUp$Reader", "codeSize", "I", false)
  | 5 => ("MightHaveBeenPutUp$Reader", "next", "I", false)
  | 6 => ("MightHaveBeenPutUp$Reader", "token", "I", false)
  | 7 => ("MightHaveBeenPutUp$Reader", "tokenPlace", "I", false)
  | 8 => ("MightHaveBeenPutUp$Reader", "tokenNumber", "I", false)
  | 9 => ("MightHaveBeenPutUp$Reader", "open", "I", false)
  | _ => ("MightHaveBeenPutUp$Reader", "fault", "I", false)
def tyX0 : Nat → FieldType := fun k => match k with
  | 0 => .int
  | 1 => .array .int
  | 2 => .array .int
  | 3 => .array .int
  | 4 => .int
  | 5 => .int
  | 6 => .int
  | 7 => .int
  | 8 => .int
  | 9 => .int
  | _ => .int
abbrev wsX00 : List Cond := u_ws RX0 TX0 11
theorem nmX0 : ∀ a, a < 11 → ∀ b, b < 11 → a ≠ b → (TX0 a).2.1 ≠ (TX0 b).2.1 := by decide +kernel
theorem tyX0_ok : ∀ k, k < 11 → parseFieldDescriptor (TX0 k).2.2.1 = some (tyX0 k) := by decide +kernel
abbrev cX0_init : ByteArray := prog_2_method_1_code
def yX0_init : MethodName := ⟨RX0, "<init>", "()V"⟩
abbrev cX0_isName : ByteArray := prog_2_method_2_code
def yX0_isName : MethodName := ⟨RX0, "isName", "(I)Z"⟩
abbrev cX0_hasRoom : ByteArray := prog_2_method_3_code
def yX0_hasRoom : MethodName := ⟨RX0, "hasRoom", "()Z"⟩
abbrev cX0_take : ByteArray := prog_2_method_4_code
def yX0_take : MethodName := ⟨RX0, "take", "(I)I"⟩
abbrev cX0_read : ByteArray := prog_2_method_5_code
def yX0_read : MethodName := ⟨RX0, "read", "()I"⟩
abbrev cX0_made : ByteArray := prog_2_method_6_code
def yX0_made : MethodName := ⟨RX0, "made", "()LMightHaveBeenPutUp$Text;"⟩
abbrev cX0_readEither : ByteArray := prog_2_method_7_code
def yX0_readEither : MethodName := ⟨RX0, "readEither", "()V"⟩
abbrev cX0_readBoth : ByteArray := prog_2_method_8_code
def yX0_readBoth : MethodName := ⟨RX0, "readBoth", "()V"⟩
abbrev cX0_readNot : ByteArray := prog_2_method_9_code
def yX0_readNot : MethodName := ⟨RX0, "readNot", "()V"⟩
abbrev cX0_readSum : ByteArray := prog_2_method_10_code
def yX0_readSum : MethodName := ⟨RX0, "readSum", "()V"⟩
abbrev cX0_readTerm : ByteArray := prog_2_method_11_code
def yX0_readTerm : MethodName := ⟨RX0, "readTerm", "()V"⟩
abbrev cX0_readOne : ByteArray := prog_2_method_12_code
def yX0_readOne : MethodName := ⟨RX0, "readOne", "()V"⟩
abbrev cX0_opens : ByteArray := prog_2_method_13_code
def yX0_opens : MethodName := ⟨RX0, "opens", "()Z"⟩
abbrev cX0_expect : ByteArray := prog_2_method_14_code
def yX0_expect : MethodName := ⟨RX0, "expect", "(I)V"⟩
abbrev cX0_refuse : ByteArray := prog_2_method_15_code
def yX0_refuse : MethodName := ⟨RX0, "refuse", "()V"⟩
abbrev cX0_write : ByteArray := prog_2_method_16_code
def yX0_write : MethodName := ⟨RX0, "write", "(I)V"⟩
abbrev cX0_step : ByteArray := prog_2_method_17_code
def yX0_step : MethodName := ⟨RX0, "step", "()V"⟩
abbrev cX0_wordToken : ByteArray := prog_2_method_18_code
def yX0_wordToken : MethodName := ⟨RX0, "wordToken", "()I"⟩
abbrev cX0_spells : ByteArray := prog_2_method_19_code
def yX0_spells : MethodName := ⟨RX0, "spells", "(III)Z"⟩
abbrev cX0_numberToken : ByteArray := prog_2_method_20_code
def yX0_numberToken : MethodName := ⟨RX0, "numberToken", "()I"⟩
abbrev cX0_isBlank : ByteArray := prog_2_method_21_code
def yX0_isBlank : MethodName := ⟨RX0, "isBlank", "(I)Z"⟩
abbrev cX0_isLetter : ByteArray := prog_2_method_22_code
def yX0_isLetter : MethodName := ⟨RX0, "isLetter", "(I)Z"⟩
abbrev cX0_isDigit : ByteArray := prog_2_method_23_code
def yX0_isDigit : MethodName := ⟨RX0, "isDigit", "(I)Z"⟩
def RX1 : String := "MightHaveBeenPutUp$Sheet"
def TX1 : u_T := fun k => match k with
  | 0 => ("MightHaveBeenPutUp$Sheet", "items", "[I", true)
  | 1 => ("MightHaveBeenPutUp$Sheet", "sort", "I", false)
  | _ => ("MightHaveBeenPutUp$Sheet", "size", "I", false)
def tyX1 : Nat → FieldType := fun k => match k with
  | 0 => .array .int
  | 1 => .int
  | _ => .int
abbrev wsX10 : List Cond := u_ws RX1 TX1 3
theorem nmX1 : ∀ a, a < 3 → ∀ b, b < 3 → a ≠ b → (TX1 a).2.1 ≠ (TX1 b).2.1 := by decide +kernel
theorem tyX1_ok : ∀ k, k < 3 → parseFieldDescriptor (TX1 k).2.2.1 = some (tyX1 k) := by decide +kernel
abbrev cX1_init : ByteArray := prog_3_method_1_code
def yX1_init : MethodName := ⟨RX1, "<init>", "()V"⟩
abbrev cX1_isMissing : ByteArray := prog_3_method_2_code
def yX1_isMissing : MethodName := ⟨RX1, "isMissing", "()Z"⟩
abbrev cX1_become : ByteArray := prog_3_method_3_code
def yX1_become : MethodName := ⟨RX1, "become", "(II)V"⟩
abbrev cX1_put : ByteArray := prog_3_method_4_code
def yX1_put : MethodName := ⟨RX1, "put", "(II)V"⟩
abbrev cX1_hasRange : ByteArray := prog_3_method_5_code
def yX1_hasRange : MethodName := ⟨RX1, "hasRange", "(II)Z"⟩
def RX2 : String := "MightHaveBeenPutUp$Text"
def TX2 : u_T := fun k => match k with
  | 0 => ("MightHaveBeenPutUp$Text", "code", "[I", true)
  | _ => ("MightHaveBeenPutUp$Text", "ends", "[I", true)
def tyX2 : Nat → FieldType := fun k => match k with
  | 0 => .array .int
  | _ => .array .int
abbrev wsX20 : List Cond := u_ws RX2 TX2 2
theorem nmX2 : ∀ a, a < 2 → ∀ b, b < 2 → a ≠ b → (TX2 a).2.1 ≠ (TX2 b).2.1 := by decide +kernel
theorem tyX2_ok : ∀ k, k < 2 → parseFieldDescriptor (TX2 k).2.2.1 = some (tyX2 k) := by decide +kernel
abbrev cX2_init : ByteArray := prog_4_method_1_code
def yX2_init : MethodName := ⟨RX2, "<init>", "([I[I)V"⟩
abbrev cX2_value : ByteArray := prog_4_method_2_code
def yX2_value : MethodName := ⟨RX2, "value", "(I[I[I)I"⟩
abbrev cX2_joined : ByteArray := prog_4_method_3_code
def yX2_joined : MethodName := ⟨RX2, "joined", "(III)I"⟩
def RX3 : String := "MightHaveBeenPutUp$Wall"
def TX3 : u_T := fun k => match k with
  | _ => ("", "", "", false)
def tyX3 : Nat → FieldType := fun k => match k with
  | _ => .int
abbrev wsX30 : List Cond := u_ws RX3 TX3 0
theorem nmX3 : ∀ a, a < 0 → ∀ b, b < 0 → a ≠ b → (TX3 a).2.1 ≠ (TX3 b).2.1 := by decide +kernel
theorem tyX3_ok : ∀ k, k < 0 → parseFieldDescriptor (TX3 k).2.2.1 = some (tyX3 k) := by decide +kernel
abbrev cX3_has : ByteArray := prog_5_method_2_code
def yX3_has : MethodName := ⟨RX3, "has", "(JI)Z"⟩
abbrev cX3_beside : ByteArray := prog_5_method_3_code
def yX3_beside : MethodName := ⟨RX3, "beside", "(J)J"⟩
abbrev cX3_held : ByteArray := prog_5_method_4_code
def yX3_held : MethodName := ⟨RX3, "held", "(JJ)J"⟩
abbrev cX3_cellsOf : ByteArray := prog_5_method_5_code
def yX3_cellsOf : MethodName := ⟨RX3, "cellsOf", "(II)J"⟩
abbrev cX3_touching : ByteArray := prog_5_method_6_code
def yX3_touching : MethodName := ⟨RX3, "touching", "(IJ)J"⟩
abbrev cX3_places : ByteArray := prog_5_method_7_code
def yX3_places : MethodName := ⟨RX3, "places", "(IJ)J"⟩
abbrev cX3_reachedByOne : ByteArray := prog_5_method_8_code
def yX3_reachedByOne : MethodName := ⟨RX3, "reachedByOne", "(JI)Z"⟩
abbrev cX3_reachedByTwo : ByteArray := prog_5_method_9_code
def yX3_reachedByTwo : MethodName := ⟨RX3, "reachedByTwo", "(JI)Z"⟩
abbrev cX3_isMadeRoom : ByteArray := prog_5_method_10_code
def yX3_isMadeRoom : MethodName := ⟨RX3, "isMadeRoom", "(JJ)Z"⟩
def RX4 : String := "MightHaveBeenPutUp$World"
def TX4 : u_T := fun k => match k with
  | 0 => ("MightHaveBeenPutUp$World", "kinds", "[I", true)
  | 1 => ("MightHaveBeenPutUp$World", "numbers", "[I", true)
  | 2 => ("MightHaveBeenPutUp$World", "firms", "[I", true)
  | 3 => ("MightHaveBeenPutUp$World", "up", "[J", true)
  | 4 => ("MightHaveBeenPutUp$World", "regrets", "I", false)
  | 5 => ("MightHaveBeenPutUp$World", "year", "I", false)
  | 6 => ("MightHaveBeenPutUp$World", "paid", "I", false)
  | 7 => ("MightHaveBeenPutUp$World", "rule", "I", false)
  | 8 => ("MightHaveBeenPutUp$World", "house", "J", false)
  | 9 => ("MightHaveBeenPutUp$World", "texts", "[LMightHaveBeenPutUp$Text;", true)
  | 10 => ("MightHaveBeenPutUp$World", "names", "[I", true)
  | _ => ("MightHaveBeenPutUp$World", "stack", "[I", true)
def tyX4 : Nat → FieldType := fun k => match k with
  | 0 => .array .int
  | 1 => .array .int
  | 2 => .array .int
  | 3 => .array .long
  | 4 => .int
  | 5 => .int
  | 6 => .int
  | 7 => .int
  | 8 => .long
  | 9 => .array (.object "MightHaveBeenPutUp$Text")
  | 10 => .array .int
  | _ => .array .int
abbrev wsX40 : List Cond := u_ws RX4 TX4 12
theorem nmX4 : ∀ a, a < 12 → ∀ b, b < 12 → a ≠ b → (TX4 a).2.1 ≠ (TX4 b).2.1 := by decide +kernel
theorem tyX4_ok : ∀ k, k < 12 → parseFieldDescriptor (TX4 k).2.2.1 = some (tyX4 k) := by decide +kernel
abbrev cX4_init : ByteArray := prog_6_method_1_code
def yX4_init : MethodName := ⟨RX4, "<init>", "([LMightHaveBeenPutUp$Text;)V"⟩
abbrev cX4_become : ByteArray := prog_6_method_2_code
def yX4_become : MethodName := ⟨RX4, "become", "(LMightHaveBeenPutUp$World;)V"⟩
abbrev cX4_allUp : ByteArray := prog_6_method_3_code
def yX4_allUp : MethodName := ⟨RX4, "allUp", "()J"⟩
abbrev cX4_stands : ByteArray := prog_6_method_4_code
def yX4_stands : MethodName := ⟨RX4, "stands", "()J"⟩
abbrev cX4_countUp : ByteArray := prog_6_method_5_code
def yX4_countUp : MethodName := ⟨RX4, "countUp", "()I"⟩
abbrev cX4_whose : ByteArray := prog_6_method_6_code
def yX4_whose : MethodName := ⟨RX4, "whose", "(I)I"⟩
abbrev cX4_dropLoose : ByteArray := prog_6_method_7_code
def yX4_dropLoose : MethodName := ⟨RX4, "dropLoose", "()V"⟩
abbrev cX4_dropCell : ByteArray := prog_6_method_8_code
def yX4_dropCell : MethodName := ⟨RX4, "dropCell", "(I)V"⟩
abbrev cX4_highestCell : ByteArray := prog_6_method_9_code
def yX4_highestCell : MethodName := ⟨RX4, "highestCell", "(I)I"⟩
abbrev cX4_fallWithout : ByteArray := prog_6_method_10_code
def yX4_fallWithout : MethodName := ⟨RX4, "fallWithout", "(I)I"⟩
abbrev cX4_passYear : ByteArray := prog_6_method_11_code
def yX4_passYear : MethodName := ⟨RX4, "passYear", "()V"⟩
abbrev cX4_countBehind : ByteArray := prog_6_method_12_code
def yX4_countBehind : MethodName := ⟨RX4, "countBehind", "(II)I"⟩
abbrev cX4_holds : ByteArray := prog_6_method_13_code
def yX4_holds : MethodName := ⟨RX4, "holds", "(I)I"⟩
abbrev cX4_fades : ByteArray := prog_6_method_14_code
def yX4_fades : MethodName := ⟨RX4, "fades", "(I)I"⟩
abbrev cX4_costs : ByteArray := prog_6_method_15_code
def yX4_costs : MethodName := ⟨RX4, "costs", "(I)I"⟩
abbrev cX4_tell : ByteArray := prog_6_method_16_code
def yX4_tell : MethodName := ⟨RX4, "tell", "(II)I"⟩
def RX5 : String := "MightHaveBeenPutUp"
def TX5 : u_T := fun k => match k with
  | 0 => ("MightHaveBeenPutUp", "texts", "[LMightHaveBeenPutUp$Text;", true)
  | 1 => ("MightHaveBeenPutUp", "now", "LMightHaveBeenPutUp$World;", true)
  | 2 => ("MightHaveBeenPutUp", "thought", "LMightHaveBeenPutUp$World;", true)
  | 3 => ("MightHaveBeenPutUp", "kept", "LMightHaveBeenPutUp$World;", true)
  | 4 => ("MightHaveBeenPutUp", "reader", "LMightHaveBeenPutUp$Reader;", true)
  | 5 => ("MightHaveBeenPutUp", "sheets", "[LMightHaveBeenPutUp$Sheet;", true)
  | 6 => ("MightHaveBeenPutUp", "textCount", "I", false)
  | _ => ("MightHaveBeenPutUp", "imageKept", "Z", false)
def tyX5 : Nat → FieldType := fun k => match k with
  | 0 => .array (.object "MightHaveBeenPutUp$Text")
  | 1 => .object "MightHaveBeenPutUp$World"
  | 2 => .object "MightHaveBeenPutUp$World"
  | 3 => .object "MightHaveBeenPutUp$World"
  | 4 => .object "MightHaveBeenPutUp$Reader"
  | 5 => .array (.object "MightHaveBeenPutUp$Sheet")
  | 6 => .int
  | _ => .boolean
abbrev wsX50 : List Cond := u_ws RX5 TX5 8
theorem nmX5 : ∀ a, a < 8 → ∀ b, b < 8 → a ≠ b → (TX5 a).2.1 ≠ (TX5 b).2.1 := by decide +kernel
theorem tyX5_ok : ∀ k, k < 8 → parseFieldDescriptor (TX5 k).2.2.1 = some (tyX5 k) := by decide +kernel
abbrev cX5_init : ByteArray := prog_1_method_1_code
def yX5_init : MethodName := ⟨RX5, "<init>", "()V"⟩
abbrev cX5_set : ByteArray := prog_1_method_2_code
def yX5_set : MethodName := ⟨RX5, "set", "(III)I"⟩
abbrev cX5_regret : ByteArray := prog_1_method_3_code
def yX5_regret : MethodName := ⟨RX5, "regret", "(III)I"⟩
abbrev cX5_told : ByteArray := prog_1_method_4_code
def yX5_told : MethodName := ⟨RX5, "told", "(II)I"⟩
abbrev cX5_wall : ByteArray := prog_1_method_5_code
def yX5_wall : MethodName := ⟨RX5, "wall", "(I)J"⟩
abbrev cX5_feed : ByteArray := prog_1_method_6_code
def yX5_feed : MethodName := ⟨RX5, "feed", "(I)I"⟩
abbrev cX5_text : ByteArray := prog_1_method_7_code
def yX5_text : MethodName := ⟨RX5, "text", "()I"⟩
abbrev cX5_force : ByteArray := prog_1_method_8_code
def yX5_force : MethodName := ⟨RX5, "force", "(I)I"⟩
abbrev cX5_raise : ByteArray := prog_1_method_9_code
def yX5_raise : MethodName := ⟨RX5, "raise", "(III)I"⟩
abbrev cX5_fell : ByteArray := prog_1_method_10_code
def yX5_fell : MethodName := ⟨RX5, "fell", "(I)I"⟩
abbrev cX5_room : ByteArray := prog_1_method_11_code
def yX5_room : MethodName := ⟨RX5, "room", "(I)J"⟩
abbrev cX5_year : ByteArray := prog_1_method_12_code
def yX5_year : MethodName := ⟨RX5, "year", "()I"⟩
abbrev cX5_run : ByteArray := prog_1_method_13_code
def yX5_run : MethodName := ⟨RX5, "run", "(III)I"⟩
abbrev cX5_later : ByteArray := prog_1_method_14_code
def yX5_later : MethodName := ⟨RX5, "later", "(I)J"⟩
abbrev cX5_walk : ByteArray := prog_1_method_15_code
def yX5_walk : MethodName := ⟨RX5, "walk", "(II)I"⟩
abbrev cX5_round : ByteArray := prog_1_method_16_code
def yX5_round : MethodName := ⟨RX5, "round", "(II)J"⟩
abbrev cX5_reach : ByteArray := prog_1_method_17_code
def yX5_reach : MethodName := ⟨RX5, "reach", "(I)I"⟩
abbrev cX5_key : ByteArray := prog_1_method_18_code
def yX5_key : MethodName := ⟨RX5, "key", "(I)I"⟩
abbrev cX5_add : ByteArray := prog_1_method_19_code
def yX5_add : MethodName := ⟨RX5, "add", "(III)I"⟩
abbrev cX5_share : ByteArray := prog_1_method_20_code
def yX5_share : MethodName := ⟨RX5, "share", "(II)J"⟩
abbrev cX5_tells : ByteArray := prog_1_method_21_code
def yX5_tells : MethodName := ⟨RX5, "tells", "(III)I"⟩
abbrev cX5_film : ByteArray := prog_1_method_22_code
def yX5_film : MethodName := ⟨RX5, "film", "(III)I"⟩
abbrev cX5_drawn : ByteArray := prog_1_method_23_code
def yX5_drawn : MethodName := ⟨RX5, "drawn", "(II)I"⟩
abbrev cX5_chance : ByteArray := prog_1_method_24_code
def yX5_chance : MethodName := ⟨RX5, "chance", "(IIII)J"⟩
abbrev cX5_image : ByteArray := prog_1_method_25_code
def yX5_image : MethodName := ⟨RX5, "image", "()I"⟩
abbrev cX5_back : ByteArray := prog_1_method_26_code
def yX5_back : MethodName := ⟨RX5, "back", "()I"⟩
abbrev cX5_count : ByteArray := prog_1_method_27_code
def yX5_count : MethodName := ⟨RX5, "count", "(I)I"⟩
abbrev cX5_sheet : ByteArray := prog_1_method_28_code
def yX5_sheet : MethodName := ⟨RX5, "sheet", "(III)I"⟩
abbrev cX5_cell : ByteArray := prog_1_method_29_code
def yX5_cell : MethodName := ⟨RX5, "cell", "(III)I"⟩
abbrev cX5_copy : ByteArray := prog_1_method_30_code
def yX5_copy : MethodName := ⟨RX5, "copy", "(IIIII)I"⟩
abbrev cX5_bag : ByteArray := prog_1_method_31_code
def yX5_bag : MethodName := ⟨RX5, "bag", "(IIII)I"⟩
abbrev cX5_taken : ByteArray := prog_1_method_32_code
def yX5_taken : MethodName := ⟨RX5, "taken", "(II)I"⟩
abbrev cX5_within : ByteArray := prog_1_method_33_code
def yX5_within : MethodName := ⟨RX5, "within", "(II)Z"⟩
abbrev cX5_isCell : ByteArray := prog_1_method_34_code
def yX5_isCell : MethodName := ⟨RX5, "isCell", "(I)Z"⟩
abbrev cX5_isKind : ByteArray := prog_1_method_35_code
def yX5_isKind : MethodName := ⟨RX5, "isKind", "(I)Z"⟩
abbrev cX5_isPart : ByteArray := prog_1_method_36_code
def yX5_isPart : MethodName := ⟨RX5, "isPart", "(I)Z"⟩
abbrev cX5_isSheet : ByteArray := prog_1_method_37_code
def yX5_isSheet : MethodName := ⟨RX5, "isSheet", "(I)Z"⟩
abbrev cX5_isOne : ByteArray := prog_1_method_38_code
def yX5_isOne : MethodName := ⟨RX5, "isOne", "(I)Z"⟩
abbrev cX5_isUnder : ByteArray := prog_1_method_39_code
def yX5_isUnder : MethodName := ⟨RX5, "isUnder", "(II)Z"⟩
abbrev cX5_changeYear : ByteArray := prog_1_method_40_code
def yX5_changeYear : MethodName := ⟨RX5, "changeYear", "(I)I"⟩
abbrev cX5_changeOfOne : ByteArray := prog_1_method_41_code
def yX5_changeOfOne : MethodName := ⟨RX5, "changeOfOne", "([IIII)I"⟩
abbrev cX5_changeHouse : ByteArray := prog_1_method_42_code
def yX5_changeHouse : MethodName := ⟨RX5, "changeHouse", "(II)I"⟩
abbrev cX5_toldOfOne : ByteArray := prog_1_method_43_code
def yX5_toldOfOne : MethodName := ⟨RX5, "toldOfOne", "(II)I"⟩
abbrev cX5_lowest : ByteArray := prog_1_method_44_code
def yX5_lowest : MethodName := ⟨RX5, "lowest", "(III)I"⟩
abbrev cX5_think : ByteArray := prog_1_method_45_code
def yX5_think : MethodName := ⟨RX5, "think", "(I)V"⟩
abbrev cX5_countDrawn : ByteArray := prog_1_method_46_code
def yX5_countDrawn : MethodName := ⟨RX5, "countDrawn", "(II)I"⟩
abbrev cX5_firstOtherwise : ByteArray := prog_1_method_47_code
def yX5_firstOtherwise : MethodName := ⟨RX5, "firstOtherwise", "(LMightHaveBeenPutUp$Sheet;I)I"⟩
abbrev cX5_supposedTold : ByteArray := prog_1_method_48_code
def yX5_supposedTold : MethodName := ⟨RX5, "supposedTold", "(LMightHaveBeenPutUp$Sheet;II)I"⟩
abbrev cX5_suppositions : ByteArray := prog_1_method_49_code
def yX5_suppositions : MethodName := ⟨RX5, "suppositions", "(I)I"⟩
abbrev cX5_suppose : ByteArray := prog_1_method_50_code
def yX5_suppose : MethodName := ⟨RX5, "suppose", "(III)V"⟩
def RX6 : String := "MightHaveBeenPutUpModel"
def TX6 : u_T := fun k => match k with
  | 0 => ("MightHaveBeenPutUpModel", "thrown", "I", false)
  | 1 => ("MightHaveBeenPutUpModel", "texts", "[I", true)
  | 2 => ("MightHaveBeenPutUpModel", "textSize", "[I", true)
  | 3 => ("MightHaveBeenPutUpModel", "textCount", "I", false)
  | 4 => ("MightHaveBeenPutUpModel", "rule", "I", false)
  | 5 => ("MightHaveBeenPutUpModel", "tape", "[I", true)
  | 6 => ("MightHaveBeenPutUpModel", "taped", "I", false)
  | 7 => ("MightHaveBeenPutUpModel", "yearNow", "I", false)
  | 8 => ("MightHaveBeenPutUpModel", "paidNow", "I", false)
  | 9 => ("MightHaveBeenPutUpModel", "house", "J", false)
  | 10 => ("MightHaveBeenPutUpModel", "rows", "[I", true)
  | 11 => ("MightHaveBeenPutUpModel", "put", "[J", true)
  | 12 => ("MightHaveBeenPutUpModel", "many", "I", false)
  | 13 => ("MightHaveBeenPutUpModel", "ofFirm", "I", false)
  | 14 => ("MightHaveBeenPutUpModel", "ofNumber", "I", false)
  | 15 => ("MightHaveBeenPutUpModel", "ofYear", "I", false)
  | 16 => ("MightHaveBeenPutUpModel", "ofParts", "I", false)
  | 17 => ("MightHaveBeenPutUpModel", "ofHigh", "I", false)
  | 18 => ("MightHaveBeenPutUpModel", "ofPaid", "I", false)
  | 19 => ("MightHaveBeenPutUpModel", "from", "I", false)
  | 20 => ("MightHaveBeenPutUpModel", "size", "I", false)
  | 21 => ("MightHaveBeenPutUpModel", "here", "I", false)
  | 22 => ("MightHaveBeenPutUpModel", "token", "I", false)
  | 23 => ("MightHaveBeenPutUpModel", "tokenAt", "I", false)
  | 24 => ("MightHaveBeenPutUpModel", "tokenWorth", "J", false)
  | 25 => ("MightHaveBeenPutUpModel", "open", "I", false)
  | 26 => ("MightHaveBeenPutUpModel", "bad", "Z", false)
  | 27 => ("MightHaveBeenPutUpModel", "fault", "I", false)
  | 28 => ("MightHaveBeenPutUpModel", "was", "[I", true)
  | 29 => ("MightHaveBeenPutUpModel", "putWas", "[J", true)
  | 30 => ("MightHaveBeenPutUpModel", "rowsKept", "[I", true)
  | 31 => ("MightHaveBeenPutUpModel", "putKept", "[J", true)
  | 32 => ("MightHaveBeenPutUpModel", "manyKept", "I", false)
  | 33 => ("MightHaveBeenPutUpModel", "yearKept", "I", false)
  | 34 => ("MightHaveBeenPutUpModel", "paidKept", "I", false)
  | 35 => ("MightHaveBeenPutUpModel", "ruleKept", "I", false)
  | 36 => ("MightHaveBeenPutUpModel", "houseKept", "J", false)
  | 37 => ("MightHaveBeenPutUpModel", "isThere", "[Z", true)
  | 38 => ("MightHaveBeenPutUpModel", "sorts", "[I", true)
  | 39 => ("MightHaveBeenPutUpModel", "sheetSize", "[I", true)
  | _ => ("MightHaveBeenPutUpModel", "items", "[I", true)
def tyX6 : Nat → FieldType := fun k => match k with
  | 0 => .int
  | 1 => .array .int
  | 2 => .array .int
  | 3 => .int
  | 4 => .int
  | 5 => .array .int
  | 6 => .int
  | 7 => .int
  | 8 => .int
  | 9 => .long
  | 10 => .array .int
  | 11 => .array .long
  | 12 => .int
  | 13 => .int
  | 14 => .int
  | 15 => .int
  | 16 => .int
  | 17 => .int
  | 18 => .int
  | 19 => .int
  | 20 => .int
  | 21 => .int
  | 22 => .int
  | 23 => .int
  | 24 => .long
  | 25 => .int
  | 26 => .boolean
  | 27 => .int
  | 28 => .array .int
  | 29 => .array .long
  | 30 => .array .int
  | 31 => .array .long
  | 32 => .int
  | 33 => .int
  | 34 => .int
  | 35 => .int
  | 36 => .long
  | 37 => .array .boolean
  | 38 => .array .int
  | 39 => .array .int
  | _ => .array .int
abbrev wsX60 : List Cond := u_ws RX6 TX6 41
theorem nmX6 : ∀ a, a < 41 → ∀ b, b < 41 → a ≠ b → (TX6 a).2.1 ≠ (TX6 b).2.1 := by decide +kernel
theorem tyX6_ok : ∀ k, k < 41 → parseFieldDescriptor (TX6 k).2.2.1 = some (tyX6 k) := by decide +kernel
abbrev cX6_in : ByteArray := prog_8_method_2_code
def yX6_in : MethodName := ⟨RX6, "in", "(JJJ)Z"⟩
abbrev cX6_within : ByteArray := prog_8_method_3_code
def yX6_within : MethodName := ⟨RX6, "within", "(III)I"⟩
abbrev cX6_init : ByteArray := prog_8_method_4_code
def yX6_init : MethodName := ⟨RX6, "<init>", "()V"⟩
abbrev cX6_spell : ByteArray := prog_8_method_5_code
def yX6_spell : MethodName := ⟨RX6, "spell", "(IIIIIIIII)V"⟩
abbrev cX6_isOne : ByteArray := prog_8_method_6_code
def yX6_isOne : MethodName := ⟨RX6, "isOne", "(I)Z"⟩
abbrev cX6_isCell : ByteArray := prog_8_method_7_code
def yX6_isCell : MethodName := ⟨RX6, "isCell", "(I)Z"⟩
abbrev cX6_bitsOf : ByteArray := prog_8_method_8_code
def yX6_bitsOf : MethodName := ⟨RX6, "bitsOf", "(J)I"⟩
abbrev cX6_has : ByteArray := prog_8_method_9_code
def yX6_has : MethodName := ⟨RX6, "has", "(JI)Z"⟩
abbrev cX6_putAll : ByteArray := prog_8_method_10_code
def yX6_putAll : MethodName := ⟨RX6, "putAll", "()J"⟩
abbrev cX6_stands : ByteArray := prog_8_method_11_code
def yX6_stands : MethodName := ⟨RX6, "stands", "()J"⟩
abbrev cX6_mostOf : ByteArray := prog_8_method_12_code
def yX6_mostOf : MethodName := ⟨RX6, "mostOf", "(I)I"⟩
abbrev cX6_set : ByteArray := prog_8_method_13_code
def yX6_set : MethodName := ⟨RX6, "set", "(III)I"⟩
abbrev cX6_lays : ByteArray := prog_8_method_14_code
def yX6_lays : MethodName := ⟨RX6, "lays", "(III)V"⟩
abbrev cX6_regret : ByteArray := prog_8_method_15_code
def yX6_regret : MethodName := ⟨RX6, "regret", "(III)I"⟩
abbrev cX6_told : ByteArray := prog_8_method_16_code
def yX6_told : MethodName := ⟨RX6, "told", "(II)I"⟩
abbrev cX6_whoseIs : ByteArray := prog_8_method_17_code
def yX6_whoseIs : MethodName := ⟨RX6, "whoseIs", "(I)I"⟩
abbrev cX6_wall : ByteArray := prog_8_method_18_code
def yX6_wall : MethodName := ⟨RX6, "wall", "(I)J"⟩
abbrev cX6_feed : ByteArray := prog_8_method_19_code
def yX6_feed : MethodName := ⟨RX6, "feed", "(I)I"⟩
abbrev cX6_byteAt : ByteArray := prog_8_method_20_code
def yX6_byteAt : MethodName := ⟨RX6, "byteAt", "(I)I"⟩
abbrev cX6_next : ByteArray := prog_8_method_21_code
def yX6_next : MethodName := ⟨RX6, "next", "()V"⟩
abbrev cX6_fail : ByteArray := prog_8_method_22_code
def yX6_fail : MethodName := ⟨RX6, "fail", "()V"⟩
abbrev cX6_isLetter : ByteArray := prog_8_method_23_code
def yX6_isLetter : MethodName := ⟨RX6, "isLetter", "(II)Z"⟩
abbrev cX6_isWord : ByteArray := prog_8_method_24_code
def yX6_isWord : MethodName := ⟨RX6, "isWord", "(IIIIIIII)Z"⟩
abbrev cX6_isSign : ByteArray := prog_8_method_25_code
def yX6_isSign : MethodName := ⟨RX6, "isSign", "(I)Z"⟩
abbrev cX6_opens : ByteArray := prog_8_method_26_code
def yX6_opens : MethodName := ⟨RX6, "opens", "()Z"⟩
abbrev cX6_name : ByteArray := prog_8_method_27_code
def yX6_name : MethodName := ⟨RX6, "name", "()I"⟩
abbrev cX6_atom5 : ByteArray := prog_8_method_28_code
def yX6_atom5 : MethodName := ⟨RX6, "atom5", "()I"⟩
abbrev cX6_term5 : ByteArray := prog_8_method_29_code
def yX6_term5 : MethodName := ⟨RX6, "term5", "()I"⟩
abbrev cX6_added5 : ByteArray := prog_8_method_30_code
def yX6_added5 : MethodName := ⟨RX6, "added5", "()I"⟩
abbrev cX6_not5 : ByteArray := prog_8_method_31_code
def yX6_not5 : MethodName := ⟨RX6, "not5", "()I"⟩
abbrev cX6_both5 : ByteArray := prog_8_method_32_code
def yX6_both5 : MethodName := ⟨RX6, "both5", "()I"⟩
abbrev cX6_either5 : ByteArray := prog_8_method_33_code
def yX6_either5 : MethodName := ⟨RX6, "either5", "()I"⟩
abbrev cX6_atom4 : ByteArray := prog_8_method_34_code
def yX6_atom4 : MethodName := ⟨RX6, "atom4", "()I"⟩
abbrev cX6_term4 : ByteArray := prog_8_method_35_code
def yX6_term4 : MethodName := ⟨RX6, "term4", "()I"⟩
abbrev cX6_added4 : ByteArray := prog_8_method_36_code
def yX6_added4 : MethodName := ⟨RX6, "added4", "()I"⟩
abbrev cX6_not4 : ByteArray := prog_8_method_37_code
def yX6_not4 : MethodName := ⟨RX6, "not4", "()I"⟩
abbrev cX6_both4 : ByteArray := prog_8_method_38_code
def yX6_both4 : MethodName := ⟨RX6, "both4", "()I"⟩
abbrev cX6_either4 : ByteArray := prog_8_method_39_code
def yX6_either4 : MethodName := ⟨RX6, "either4", "()I"⟩
abbrev cX6_atom3 : ByteArray := prog_8_method_40_code
def yX6_atom3 : MethodName := ⟨RX6, "atom3", "()I"⟩
abbrev cX6_term3 : ByteArray := prog_8_method_41_code
def yX6_term3 : MethodName := ⟨RX6, "term3", "()I"⟩
abbrev cX6_added3 : ByteArray := prog_8_method_42_code
def yX6_added3 : MethodName := ⟨RX6, "added3", "()I"⟩
abbrev cX6_not3 : ByteArray := prog_8_method_43_code
def yX6_not3 : MethodName := ⟨RX6, "not3", "()I"⟩
abbrev cX6_both3 : ByteArray := prog_8_method_44_code
def yX6_both3 : MethodName := ⟨RX6, "both3", "()I"⟩
abbrev cX6_either3 : ByteArray := prog_8_method_45_code
def yX6_either3 : MethodName := ⟨RX6, "either3", "()I"⟩
abbrev cX6_atom2 : ByteArray := prog_8_method_46_code
def yX6_atom2 : MethodName := ⟨RX6, "atom2", "()I"⟩
abbrev cX6_term2 : ByteArray := prog_8_method_47_code
def yX6_term2 : MethodName := ⟨RX6, "term2", "()I"⟩
abbrev cX6_added2 : ByteArray := prog_8_method_48_code
def yX6_added2 : MethodName := ⟨RX6, "added2", "()I"⟩
abbrev cX6_not2 : ByteArray := prog_8_method_49_code
def yX6_not2 : MethodName := ⟨RX6, "not2", "()I"⟩
abbrev cX6_both2 : ByteArray := prog_8_method_50_code
def yX6_both2 : MethodName := ⟨RX6, "both2", "()I"⟩
abbrev cX6_either2 : ByteArray := prog_8_method_51_code
def yX6_either2 : MethodName := ⟨RX6, "either2", "()I"⟩
abbrev cX6_atom1 : ByteArray := prog_8_method_52_code
def yX6_atom1 : MethodName := ⟨RX6, "atom1", "()I"⟩
abbrev cX6_term1 : ByteArray := prog_8_method_53_code
def yX6_term1 : MethodName := ⟨RX6, "term1", "()I"⟩
abbrev cX6_added1 : ByteArray := prog_8_method_54_code
def yX6_added1 : MethodName := ⟨RX6, "added1", "()I"⟩
abbrev cX6_not1 : ByteArray := prog_8_method_55_code
def yX6_not1 : MethodName := ⟨RX6, "not1", "()I"⟩
abbrev cX6_both1 : ByteArray := prog_8_method_56_code
def yX6_both1 : MethodName := ⟨RX6, "both1", "()I"⟩
abbrev cX6_either1 : ByteArray := prog_8_method_57_code
def yX6_either1 : MethodName := ⟨RX6, "either1", "()I"⟩
abbrev cX6_atom0 : ByteArray := prog_8_method_58_code
def yX6_atom0 : MethodName := ⟨RX6, "atom0", "()I"⟩
abbrev cX6_term0 : ByteArray := prog_8_method_59_code
def yX6_term0 : MethodName := ⟨RX6, "term0", "()I"⟩
abbrev cX6_added0 : ByteArray := prog_8_method_60_code
def yX6_added0 : MethodName := ⟨RX6, "added0", "()I"⟩
abbrev cX6_not0 : ByteArray := prog_8_method_61_code
def yX6_not0 : MethodName := ⟨RX6, "not0", "()I"⟩
abbrev cX6_both0 : ByteArray := prog_8_method_62_code
def yX6_both0 : MethodName := ⟨RX6, "both0", "()I"⟩
abbrev cX6_either0 : ByteArray := prog_8_method_63_code
def yX6_either0 : MethodName := ⟨RX6, "either0", "()I"⟩
abbrev cX6_part : ByteArray := prog_8_method_64_code
def yX6_part : MethodName := ⟨RX6, "part", "(Z)I"⟩
abbrev cX6_read : ByteArray := prog_8_method_65_code
def yX6_read : MethodName := ⟨RX6, "read", "(II)I"⟩
abbrev cX6_text : ByteArray := prog_8_method_66_code
def yX6_text : MethodName := ⟨RX6, "text", "()I"⟩
abbrev cX6_force : ByteArray := prog_8_method_67_code
def yX6_force : MethodName := ⟨RX6, "force", "(I)I"⟩
abbrev cX6_greatest : ByteArray := prog_8_method_68_code
def yX6_greatest : MethodName := ⟨RX6, "greatest", "(J)I"⟩
abbrev cX6_says : ByteArray := prog_8_method_69_code
def yX6_says : MethodName := ⟨RX6, "says", "(II)I"⟩
abbrev cX6_holdsOf : ByteArray := prog_8_method_70_code
def yX6_holdsOf : MethodName := ⟨RX6, "holdsOf", "(I)I"⟩
abbrev cX6_fadesOf : ByteArray := prog_8_method_71_code
def yX6_fadesOf : MethodName := ⟨RX6, "fadesOf", "(I)I"⟩
abbrev cX6_costsOf : ByteArray := prog_8_method_72_code
def yX6_costsOf : MethodName := ⟨RX6, "costsOf", "(I)I"⟩
abbrev cX6_beside : ByteArray := prog_8_method_73_code
def yX6_beside : MethodName := ⟨RX6, "beside", "(J)J"⟩
abbrev cX6_comeTo : ByteArray := prog_8_method_74_code
def yX6_comeTo : MethodName := ⟨RX6, "comeTo", "(JJI)J"⟩
abbrev cX6_falls : ByteArray := prog_8_method_75_code
def yX6_falls : MethodName := ⟨RX6, "falls", "()I"⟩
abbrev cX6_felled : ByteArray := prog_8_method_76_code
def yX6_felled : MethodName := ⟨RX6, "felled", "(I)I"⟩
abbrev cX6_fell : ByteArray := prog_8_method_77_code
def yX6_fell : MethodName := ⟨RX6, "fell", "(I)I"⟩
abbrev cX6_partAt : ByteArray := prog_8_method_78_code
def yX6_partAt : MethodName := ⟨RX6, "partAt", "(II)J"⟩
abbrev cX6_can : ByteArray := prog_8_method_79_code
def yX6_can : MethodName := ⟨RX6, "can", "(JJ)Z"⟩
abbrev cX6_raise : ByteArray := prog_8_method_80_code
def yX6_raise : MethodName := ⟨RX6, "raise", "(III)I"⟩
abbrev cX6_room : ByteArray := prog_8_method_81_code
def yX6_room : MethodName := ⟨RX6, "room", "(I)J"⟩
abbrev cX6_passes : ByteArray := prog_8_method_82_code
def yX6_passes : MethodName := ⟨RX6, "passes", "()I"⟩
abbrev cX6_year : ByteArray := prog_8_method_83_code
def yX6_year : MethodName := ⟨RX6, "year", "()I"⟩
abbrev cX6_laysAside : ByteArray := prog_8_method_84_code
def yX6_laysAside : MethodName := ⟨RX6, "laysAside", "()V"⟩
abbrev cX6_laysBack : ByteArray := prog_8_method_85_code
def yX6_laysBack : MethodName := ⟨RX6, "laysBack", "()V"⟩
abbrev cX6_go : ByteArray := prog_8_method_86_code
def yX6_go : MethodName := ⟨RX6, "go", "(I)V"⟩
abbrev cX6_run : ByteArray := prog_8_method_87_code
def yX6_run : MethodName := ⟨RX6, "run", "(III)I"⟩
abbrev cX6_later : ByteArray := prog_8_method_88_code
def yX6_later : MethodName := ⟨RX6, "later", "(I)J"⟩
abbrev cX6_walk : ByteArray := prog_8_method_89_code
def yX6_walk : MethodName := ⟨RX6, "walk", "(II)I"⟩
abbrev cX6_round : ByteArray := prog_8_method_90_code
def yX6_round : MethodName := ⟨RX6, "round", "(II)J"⟩
abbrev cX6_byOne : ByteArray := prog_8_method_91_code
def yX6_byOne : MethodName := ⟨RX6, "byOne", "(IJ)Z"⟩
abbrev cX6_byTwo : ByteArray := prog_8_method_92_code
def yX6_byTwo : MethodName := ⟨RX6, "byTwo", "(IJ)Z"⟩
abbrev cX6_reach : ByteArray := prog_8_method_93_code
def yX6_reach : MethodName := ⟨RX6, "reach", "(I)I"⟩
abbrev cX6_key : ByteArray := prog_8_method_94_code
def yX6_key : MethodName := ⟨RX6, "key", "(I)I"⟩
abbrev cX6_putBehind : ByteArray := prog_8_method_95_code
def yX6_putBehind : MethodName := ⟨RX6, "putBehind", "(IJI)I"⟩
abbrev cX6_add : ByteArray := prog_8_method_96_code
def yX6_add : MethodName := ⟨RX6, "add", "(III)I"⟩
abbrev cX6_lowest : ByteArray := prog_8_method_97_code
def yX6_lowest : MethodName := ⟨RX6, "lowest", "(JJI)J"⟩
abbrev cX6_share : ByteArray := prog_8_method_98_code
def yX6_share : MethodName := ⟨RX6, "share", "(II)J"⟩
abbrev cX6_firstOther : ByteArray := prog_8_method_99_code
def yX6_firstOther : MethodName := ⟨RX6, "firstOther", "(II)I"⟩
abbrev cX6_likeSet : ByteArray := prog_8_method_100_code
def yX6_likeSet : MethodName := ⟨RX6, "likeSet", "(I)I"⟩
abbrev cX6_tells : ByteArray := prog_8_method_101_code
def yX6_tells : MethodName := ⟨RX6, "tells", "(III)I"⟩
abbrev cX6_film : ByteArray := prog_8_method_102_code
def yX6_film : MethodName := ⟨RX6, "film", "(III)I"⟩
abbrev cX6_putDrawn : ByteArray := prog_8_method_103_code
def yX6_putDrawn : MethodName := ⟨RX6, "putDrawn", "(II)I"⟩
abbrev cX6_drawn : ByteArray := prog_8_method_104_code
def yX6_drawn : MethodName := ⟨RX6, "drawn", "(II)I"⟩
abbrev cX6_chance : ByteArray := prog_8_method_105_code
def yX6_chance : MethodName := ⟨RX6, "chance", "(IIII)J"⟩
abbrev cX6_image : ByteArray := prog_8_method_106_code
def yX6_image : MethodName := ⟨RX6, "image", "()I"⟩
abbrev cX6_back : ByteArray := prog_8_method_107_code
def yX6_back : MethodName := ⟨RX6, "back", "()I"⟩
abbrev cX6_count : ByteArray := prog_8_method_108_code
def yX6_count : MethodName := ⟨RX6, "count", "(I)I"⟩
abbrev cX6_isSheet : ByteArray := prog_8_method_109_code
def yX6_isSheet : MethodName := ⟨RX6, "isSheet", "(I)Z"⟩
abbrev cX6_sheet : ByteArray := prog_8_method_110_code
def yX6_sheet : MethodName := ⟨RX6, "sheet", "(III)I"⟩
abbrev cX6_cell : ByteArray := prog_8_method_111_code
def yX6_cell : MethodName := ⟨RX6, "cell", "(III)I"⟩
abbrev cX6_copy : ByteArray := prog_8_method_112_code
def yX6_copy : MethodName := ⟨RX6, "copy", "(IIIII)I"⟩
abbrev cX6_bag : ByteArray := prog_8_method_113_code
def yX6_bag : MethodName := ⟨RX6, "bag", "(IIII)I"⟩
abbrev cX6_over : ByteArray := prog_8_method_114_code
def yX6_over : MethodName := ⟨RX6, "over", "(I)I"⟩
abbrev cX6_taken : ByteArray := prog_8_method_115_code
def yX6_taken : MethodName := ⟨RX6, "taken", "(II)I"⟩
def RJx145de : String := "java/io/Serializable"
def TJx145de : u_T := fun k => match k with
  | _ => ("", "", "", false)
def tyJx145de : Nat → FieldType := fun k => match k with
  | _ => .int
abbrev wsJx145de0 : List Cond := u_ws RJx145de TJx145de 0
def RJx9f9b0 : String := "java/lang/CharSequence"
def TJx9f9b0 : u_T := fun k => match k with
  | _ => ("", "", "", false)
def tyJx9f9b0 : Nat → FieldType := fun k => match k with
  | _ => .int
abbrev wsJx9f9b00 : List Cond := u_ws RJx9f9b0 TJx9f9b0 0
def RJ11 : String := "java/lang/Character"
def TJ11 : u_T := fun k => match k with
  | _ => ("", "", "", false)
def tyJ11 : Nat → FieldType := fun k => match k with
  | _ => .int
abbrev wsJ110 : List Cond := u_ws RJ11 TJ11 0
abbrev cJ11_isValidCodePoint_9a6ad : ByteArray := prog_9_method_11_code
def yJ11_isValidCodePoint_9a6ad : MethodName := ⟨RJ11, "isValidCodePoint", "(I)Z"⟩
abbrev cJ11_highSurrogate_5068e : ByteArray := prog_9_method_28_code
def yJ11_highSurrogate_5068e : MethodName := ⟨RJ11, "highSurrogate", "(I)C"⟩
abbrev cJ11_lowSurrogate_5068e : ByteArray := prog_9_method_29_code
def yJ11_lowSurrogate_5068e : MethodName := ⟨RJ11, "lowSurrogate", "(I)C"⟩
def RJx8e188 : String := "java/lang/Cloneable"
def TJx8e188 : u_T := fun k => match k with
  | _ => ("", "", "", false)
def tyJx8e188 : Nat → FieldType := fun k => match k with
  | _ => .int
abbrev wsJx8e1880 : List Cond := u_ws RJx8e188 TJx8e188 0
def RJxb160c : String := "java/lang/Comparable"
def TJxb160c : u_T := fun k => match k with
  | _ => ("", "", "", false)
def tyJxb160c : Nat → FieldType := fun k => match k with
  | _ => .int
abbrev wsJxb160c0 : List Cond := u_ws RJxb160c TJxb160c 0
def RJ6 : String := "java/lang/Integer"
def TJ6 : u_T := fun k => match k with
  | _ => ("", "", "", false)
def tyJ6 : Nat → FieldType := fun k => match k with
  | _ => .int
abbrev wsJ60 : List Cond := u_ws RJ6 TJ6 0
abbrev cJ6_numberOfLeadingZeros_0f7a4 : ByteArray := prog_11_method_47_code
def yJ6_numberOfLeadingZeros_0f7a4 : MethodName := ⟨RJ6, "numberOfLeadingZeros", "(I)I"⟩
def RJ13 : String := "java/lang/Long"
def TJ13 : u_T := fun k => match k with
  | _ => ("", "", "", false)
def tyJ13 : Nat → FieldType := fun k => match k with
  | _ => .int
abbrev wsJ130 : List Cond := u_ws RJ13 TJ13 0
abbrev cJ13_numberOfLeadingZeros_95d88 : ByteArray := prog_12_method_48_code
def yJ13_numberOfLeadingZeros_95d88 : MethodName := ⟨RJ13, "numberOfLeadingZeros", "(J)I"⟩
abbrev cJ13_bitCount_95d88 : ByteArray := prog_12_method_50_code
def yJ13_bitCount_95d88 : MethodName := ⟨RJ13, "bitCount", "(J)I"⟩
def RJ9 : String := "java/lang/Math"
def TJ9 : u_T := fun k => match k with
  | _ => ("", "", "", false)
def tyJ9 : Nat → FieldType := fun k => match k with
  | _ => .int
abbrev wsJ90 : List Cond := u_ws RJ9 TJ9 0
abbrev cJ9_max_7cf53 : ByteArray := prog_13_method_65_code
def yJ9_max_7cf53 : MethodName := ⟨RJ9, "max", "(II)I"⟩
abbrev cJ9_min_7cf53 : ByteArray := prog_13_method_69_code
def yJ9_min_7cf53 : MethodName := ⟨RJ9, "min", "(II)I"⟩
def RJxd2413 : String := "java/lang/Number"
def TJxd2413 : u_T := fun k => match k with
  | _ => ("", "", "", false)
def tyJxd2413 : Nat → FieldType := fun k => match k with
  | _ => .int
abbrev wsJxd24130 : List Cond := u_ws RJxd2413 TJxd2413 0
def RJ0 : String := "java/lang/String"
def TJ0 : u_T := fun k => match k with
  | _ => ("", "", "", false)
def tyJ0 : Nat → FieldType := fun k => match k with
  | _ => .int
abbrev wsJ00 : List Cond := u_ws RJ0 TJ0 0
abbrev cJ0_length_8abf5 : ByteArray := prog_15_method_54_code
def yJ0_length_8abf5 : MethodName := ⟨RJ0, "length", "()I"⟩
abbrev cJ0_charAt_5068e : ByteArray := prog_15_method_56_code
def yJ0_charAt_5068e : MethodName := ⟨RJ0, "charAt", "(I)C"⟩
abbrev cJ0_indexOf_0f7a4 : ByteArray := prog_15_method_79_code
def yJ0_indexOf_0f7a4 : MethodName := ⟨RJ0, "indexOf", "(I)I"⟩
abbrev cJ0_indexOf_7cf53 : ByteArray := prog_15_method_80_code
def yJ0_indexOf_7cf53 : MethodName := ⟨RJ0, "indexOf", "(II)I"⟩
abbrev cJ0_coder_7d493 : ByteArray := prog_15_method_152_code
def yJ0_coder_7d493 : MethodName := ⟨RJ0, "coder", "()B"⟩
abbrev cJ0_isLatin1_aae02 : ByteArray := prog_15_method_154_code
def yJ0_isLatin1_aae02 : MethodName := ⟨RJ0, "isLatin1", "()Z"⟩
abbrev cJ0_checkIndex_df160 : ByteArray := prog_15_method_155_code
def yJ0_checkIndex_df160 : MethodName := ⟨RJ0, "checkIndex", "(II)V"⟩
abbrev cJ0_checkBoundsBeginEnd_23922 : ByteArray := prog_15_method_158_code
def yJ0_checkBoundsBeginEnd_23922 : MethodName := ⟨RJ0, "checkBoundsBeginEnd", "(III)V"⟩
def RJ1 : String := "java/lang/StringLatin1"
def TJ1 : u_T := fun k => match k with
  | _ => ("", "", "", false)
def tyJ1 : Nat → FieldType := fun k => match k with
  | _ => .int
abbrev wsJ10 : List Cond := u_ws RJ1 TJ1 0
abbrev cJ1_charAt_3b067 : ByteArray := prog_16_method_2_code
def yJ1_charAt_3b067 : MethodName := ⟨RJ1, "charAt", "([BI)C"⟩
abbrev cJ1_canEncode_9a6ad : ByteArray := prog_16_method_4_code
def yJ1_canEncode_9a6ad : MethodName := ⟨RJ1, "canEncode", "(I)Z"⟩
abbrev cJ1_indexOf_4cfef : ByteArray := prog_16_method_22_code
def yJ1_indexOf_4cfef : MethodName := ⟨RJ1, "indexOf", "([BIII)I"⟩
abbrev cJ1_indexOfChar_4cfef : ByteArray := prog_16_method_23_code
def yJ1_indexOfChar_4cfef : MethodName := ⟨RJ1, "indexOfChar", "([BIII)I"⟩
def RJ2 : String := "java/lang/StringUTF16"
def TJ2 : u_T := fun k => match k with
  | _ => ("", "", "", false)
def tyJ2 : Nat → FieldType := fun k => match k with
  | _ => .int
abbrev wsJ20 : List Cond := u_ws RJ2 TJ2 0
abbrev cJ2_getChar_3b067 : ByteArray := prog_17_method_5_code
def yJ2_getChar_3b067 : MethodName := ⟨RJ2, "getChar", "([BI)C"⟩
abbrev cJ2_length_9d52b : ByteArray := prog_17_method_6_code
def yJ2_length_9d52b : MethodName := ⟨RJ2, "length", "([B)I"⟩
abbrev cJ2_indexOf_4cfef : ByteArray := prog_17_method_40_code
def yJ2_indexOf_4cfef : MethodName := ⟨RJ2, "indexOf", "([BIII)I"⟩
abbrev cJ2_indexOfChar_4cfef : ByteArray := prog_17_method_47_code
def yJ2_indexOfChar_4cfef : MethodName := ⟨RJ2, "indexOfChar", "([BIII)I"⟩
abbrev cJ2_indexOfCharUnsafe_4cfef : ByteArray := prog_17_method_48_code
def yJ2_indexOfCharUnsafe_4cfef : MethodName := ⟨RJ2, "indexOfCharUnsafe", "([BIII)I"⟩
abbrev cJ2_indexOfSupplementary_4cfef : ByteArray := prog_17_method_49_code
def yJ2_indexOfSupplementary_4cfef : MethodName := ⟨RJ2, "indexOfSupplementary", "([BIII)I"⟩
abbrev cJ2_charAt_3b067 : ByteArray := prog_17_method_83_code
def yJ2_charAt_3b067 : MethodName := ⟨RJ2, "charAt", "([BI)C"⟩
abbrev cJ2_checkIndex_2214a : ByteArray := prog_17_method_91_code
def yJ2_checkIndex_2214a : MethodName := ⟨RJ2, "checkIndex", "(I[B)V"⟩
abbrev cJ2_checkBoundsBeginEnd_d044e : ByteArray := prog_17_method_93_code
def yJ2_checkBoundsBeginEnd_d044e : MethodName := ⟨RJ2, "checkBoundsBeginEnd", "(II[B)V"⟩
def RJ10 : String := "java/lang/System"
def TJ10 : u_T := fun k => match k with
  | _ => ("", "", "", false)
def tyJ10 : Nat → FieldType := fun k => match k with
  | _ => .int
abbrev wsJ100 : List Cond := u_ws RJ10 TJ10 0
def RJxfd54e : String := "java/lang/constant/Constable"
def TJxfd54e : u_T := fun k => match k with
  | _ => ("", "", "", false)
def tyJxfd54e : Nat → FieldType := fun k => match k with
  | _ => .int
abbrev wsJxfd54e0 : List Cond := u_ws RJxfd54e TJxfd54e 0
def RJx3cf43 : String := "java/lang/constant/ConstantDesc"
def TJx3cf43 : u_T := fun k => match k with
  | _ => ("", "", "", false)
def tyJx3cf43 : Nat → FieldType := fun k => match k with
  | _ => .int
abbrev wsJx3cf430 : List Cond := u_ws RJx3cf43 TJx3cf43 0
def RJ7 : String := "java/util/Arrays"
def TJ7 : u_T := fun k => match k with
  | _ => ("", "", "", false)
def tyJ7 : Nat → FieldType := fun k => match k with
  | _ => .int
abbrev wsJ70 : List Cond := u_ws RJ7 TJ7 0
abbrev cJ7_fill_53178 : ByteArray := prog_19_method_103_code
def yJ7_fill_53178 : MethodName := ⟨RJ7, "fill", "([II)V"⟩
abbrev cJ7_copyOf_59c91 : ByteArray := prog_19_method_123_code
def yJ7_copyOf_59c91 : MethodName := ⟨RJ7, "copyOf", "([II)[I"⟩
def RJ3 : String := "jdk/internal/util/Preconditions"
def TJ3 : u_T := fun k => match k with
  | _ => ("", "", "", false)
def tyJ3 : Nat → FieldType := fun k => match k with
  | _ => .int
abbrev wsJ30 : List Cond := u_ws RJ3 TJ3 0
abbrev cJ3_checkIndex_8e157 : ByteArray := prog_20_method_11_code
def yJ3_checkIndex_8e157 : MethodName := ⟨RJ3, "checkIndex", "(IILjava/util/function/BiFunction;)I"⟩
abbrev cJ3_checkFromToIndex_8c36e : ByteArray := prog_20_method_12_code
def yJ3_checkFromToIndex_8c36e : MethodName := ⟨RJ3, "checkFromToIndex", "(IIILjava/util/function/BiFunction;)I"⟩
def RL : String := "MightHaveBeenPutUpLaw"
abbrev cL_law : ByteArray := code
def yL_law : MethodName := ⟨RL, "law", "([I)Z"⟩
abbrev vwCl : List vw_C := [(RX0, TX0, 11), (RX1, TX1, 3), (RX2, TX2, 2), (RX4, TX4, 12), (RX5, TX5, 8), (RX6, TX6, 41)]
end
section
def gT : List Cond := lw_tbl.filter goodWord
theorem tm {w : Cond} (i : Nat) (h : tables_1[i]? = some w) (hg : goodWord w = true) : w ∈ gT := List.mem_filter.mpr ⟨List.mem_append_right _ (List.mem_of_getElem? h), hg⟩
theorem tp {w : Cond} (i : Nat) (h : (k2_sels lw_privs)[i]? = some w) (hg : goodWord w = true) : w ∈ gT := List.mem_filter.mpr ⟨List.mem_append_left _ (List.mem_of_getElem? h), hg⟩
theorem kn_L : Cond.initialized RL ∈ gT := tm 0 (by decide +kernel) (by decide +kernel)
theorem kn_X5 : Cond.initialized RX5 ∈ gT := tm 1 (by decide +kernel) (by decide +kernel)
theorem kn_X4 : Cond.initialized RX4 ∈ gT := tm 2 (by decide +kernel) (by decide +kernel)
theorem kn_X0 : Cond.initialized RX0 ∈ gT := tm 3 (by decide +kernel) (by decide +kernel)
theorem kn_X2 : Cond.initialized RX2 ∈ gT := tm 4 (by decide +kernel) (by decide +kernel)
theorem kn_X1 : Cond.initialized RX1 ∈ gT := tm 5 (by decide +kernel) (by decide +kernel)
theorem kn_X6 : Cond.initialized RX6 ∈ gT := tm 6 (by decide +kernel) (by decide +kernel)
theorem kn_X3 : Cond.initialized RX3 ∈ gT := tm 7 (by decide +kernel) (by decide +kernel)
theorem kn_Jxd2413 : Cond.initialized RJxd2413 ∈ gT := tm 8 (by decide +kernel) (by decide +kernel)
theorem kn_J13 : Cond.initialized RJ13 ∈ gT := tm 9 (by decide +kernel) (by decide +kernel)
theorem kn_J6 : Cond.initialized RJ6 ∈ gT := tm 10 (by decide +kernel) (by decide +kernel)
theorem kn_J9 : Cond.initialized RJ9 ∈ gT := tm 11 (by decide +kernel) (by decide +kernel)
theorem kn_J0 : Cond.initialized RJ0 ∈ gT := tm 12 (by decide +kernel) (by decide +kernel)
theorem kn_J1 : Cond.initialized RJ1 ∈ gT := tm 13 (by decide +kernel) (by decide +kernel)
theorem kn_J3 : Cond.initialized RJ3 ∈ gT := tm 14 (by decide +kernel) (by decide +kernel)
theorem kn_J2 : Cond.initialized RJ2 ∈ gT := tm 15 (by decide +kernel) (by decide +kernel)
theorem kn_J11 : Cond.initialized RJ11 ∈ gT := tm 16 (by decide +kernel) (by decide +kernel)
theorem kn_J7 : Cond.initialized RJ7 ∈ gT := tm 17 (by decide +kernel) (by decide +kernel)
theorem kn_J10 : Cond.initialized RJ10 ∈ gT := tm 18 (by decide +kernel) (by decide +kernel)
theorem kl_L_7 : Cond.classLink RL 7 RX5 ∈ gT := tm 19 (by decide +kernel) (by decide +kernel)
theorem kt_X5 : Cond.instantiable RX5 8 ∈ gT := tm 20 (by decide +kernel) (by decide +kernel)
theorem km_L_9 : Cond.methodLink RL 9 yX5_init ∈ gT := tm 21 (by decide +kernel) (by decide +kernel)
theorem ki_X5_init : Cond.instanceMethod yX5_init ∈ gT := tm 22 (by decide +kernel) (by decide +kernel)
theorem kc_X5_init : Cond.code yX5_init cX5_init 2 none ∈ gT := tm 23 (by decide +kernel) (by decide +kernel)
theorem km_X5_1 : Cond.methodLink RX5 1 ⟨"java/lang/Object", "<init>", "()V"⟩ ∈ gT := tm 24 (by decide +kernel) (by decide +kernel)
theorem kl_X5_9 : Cond.classLink RX5 9 RX2 ∈ gT := tm 27 (by decide +kernel) (by decide +kernel)
theorem kl_X5_15 : Cond.classLink RX5 15 RX4 ∈ gT := tm 29 (by decide +kernel) (by decide +kernel)
theorem kt_X4 : Cond.instantiable RX4 12 ∈ gT := tm 30 (by decide +kernel) (by decide +kernel)
theorem km_X5_17 : Cond.methodLink RX5 17 yX4_init ∈ gT := tm 31 (by decide +kernel) (by decide +kernel)
theorem ki_X4_init : Cond.instanceMethod yX4_init ∈ gT := tm 32 (by decide +kernel) (by decide +kernel)
theorem kc_X4_init : Cond.code yX4_init cX4_init 2 none ∈ gT := tm 33 (by decide +kernel) (by decide +kernel)
theorem km_X4_3 : Cond.methodLink RX4 3 ⟨"java/lang/Object", "<init>", "()V"⟩ ∈ gT := tm 34 (by decide +kernel) (by decide +kernel)
theorem kk_X4_25 : Cond.constantLong RX4 25 (255) ∈ gT := tm 35 (by decide +kernel) (by decide +kernel)
theorem kf_X4_9 : Cond.fieldLink RX4 9 RX4 (TX4 0).2.1 (TX4 0).2.2.1 ∈ gT := tm 36 (by decide +kernel) (by decide +kernel)
theorem kf_X5_81 : Cond.fieldLink RX5 81 RX4 (TX4 0).2.1 (TX4 0).2.2.1 ∈ gT := tm 37 (by decide +kernel) (by decide +kernel)
theorem kf_X4_15 : Cond.fieldLink RX4 15 RX4 (TX4 1).2.1 (TX4 1).2.2.1 ∈ gT := tm 38 (by decide +kernel) (by decide +kernel)
theorem kf_X5_55 : Cond.fieldLink RX5 55 RX4 (TX4 1).2.1 (TX4 1).2.2.1 ∈ gT := tm 39 (by decide +kernel) (by decide +kernel)
theorem kf_X4_18 : Cond.fieldLink RX4 18 RX4 (TX4 2).2.1 (TX4 2).2.2.1 ∈ gT := tm 40 (by decide +kernel) (by decide +kernel)
theorem kf_X5_63 : Cond.fieldLink RX5 63 RX4 (TX4 2).2.1 (TX4 2).2.2.1 ∈ gT := tm 41 (by decide +kernel) (by decide +kernel)
theorem kf_X4_21 : Cond.fieldLink RX4 21 RX4 (TX4 3).2.1 (TX4 3).2.2.1 ∈ gT := tm 42 (by decide +kernel) (by decide +kernel)
theorem kf_X5_84 : Cond.fieldLink RX5 84 RX4 (TX4 3).2.1 (TX4 3).2.2.1 ∈ gT := tm 43 (by decide +kernel) (by decide +kernel)
theorem kf_X4_43 : Cond.fieldLink RX4 43 RX4 (TX4 4).2.1 (TX4 4).2.2.1 ∈ gT := tm 44 (by decide +kernel) (by decide +kernel)
theorem kf_X5_78 : Cond.fieldLink RX5 78 RX4 (TX4 4).2.1 (TX4 4).2.2.1 ∈ gT := tm 45 (by decide +kernel) (by decide +kernel)
theorem kf_X4_47 : Cond.fieldLink RX4 47 RX4 (TX4 5).2.1 (TX4 5).2.2.1 ∈ gT := tm 46 (by decide +kernel) (by decide +kernel)
theorem kf_X5_88 : Cond.fieldLink RX5 88 RX4 (TX4 5).2.1 (TX4 5).2.2.1 ∈ gT := tm 47 (by decide +kernel) (by decide +kernel)
theorem kf_X4_50 : Cond.fieldLink RX4 50 RX4 (TX4 6).2.1 (TX4 6).2.2.1 ∈ gT := tm 48 (by decide +kernel) (by decide +kernel)
theorem kf_X5_170 : Cond.fieldLink RX5 170 RX4 (TX4 6).2.1 (TX4 6).2.2.1 ∈ gT := tm 49 (by decide +kernel) (by decide +kernel)
theorem kf_X4_53 : Cond.fieldLink RX4 53 RX4 (TX4 7).2.1 (TX4 7).2.2.1 ∈ gT := tm 50 (by decide +kernel) (by decide +kernel)
theorem kf_X5_128 : Cond.fieldLink RX5 128 RX4 (TX4 7).2.1 (TX4 7).2.2.1 ∈ gT := tm 51 (by decide +kernel) (by decide +kernel)
theorem kf_X4_27 : Cond.fieldLink RX4 27 RX4 (TX4 8).2.1 (TX4 8).2.2.1 ∈ gT := tm 52 (by decide +kernel) (by decide +kernel)
theorem kf_X5_103 : Cond.fieldLink RX5 103 RX4 (TX4 8).2.1 (TX4 8).2.2.1 ∈ gT := tm 53 (by decide +kernel) (by decide +kernel)
theorem kf_X4_39 : Cond.fieldLink RX4 39 RX4 (TX4 9).2.1 (TX4 9).2.2.1 ∈ gT := tm 54 (by decide +kernel) (by decide +kernel)
theorem kf_X4_33 : Cond.fieldLink RX4 33 RX4 (TX4 10).2.1 (TX4 10).2.2.1 ∈ gT := tm 55 (by decide +kernel) (by decide +kernel)
theorem kf_X4_36 : Cond.fieldLink RX4 36 RX4 (TX4 11).2.1 (TX4 11).2.2.1 ∈ gT := tm 56 (by decide +kernel) (by decide +kernel)
theorem ka_82 : Cond.arrayClass .int ∈ gT := tm 82 (by decide +kernel) (by decide +kernel)
theorem ka_83 : Cond.arrayClass .long ∈ gT := tm 83 (by decide +kernel) (by decide +kernel)
theorem kl_X5_30 : Cond.classLink RX5 30 RX0 ∈ gT := tm 84 (by decide +kernel) (by decide +kernel)
theorem kt_X0 : Cond.instantiable RX0 11 ∈ gT := tm 85 (by decide +kernel) (by decide +kernel)
theorem ki_X0_init : Cond.instanceMethod yX0_init ∈ gT := tm 87 (by decide +kernel) (by decide +kernel)
theorem kc_X0_init : Cond.code yX0_init cX0_init 1 none ∈ gT := tm 88 (by decide +kernel) (by decide +kernel)
theorem km_X0_3 : Cond.methodLink RX0 3 ⟨"java/lang/Object", "<init>", "()V"⟩ ∈ gT := tm 89 (by decide +kernel) (by decide +kernel)
theorem kf_X0_21 : Cond.fieldLink RX0 21 RX0 (TX0 0).2.1 (TX0 0).2.2.1 ∈ gT := tm 90 (by decide +kernel) (by decide +kernel)
theorem kf_X5_227 : Cond.fieldLink RX5 227 RX0 (TX0 0).2.1 (TX0 0).2.2.1 ∈ gT := tm 91 (by decide +kernel) (by decide +kernel)
theorem kf_X0_9 : Cond.fieldLink RX0 9 RX0 (TX0 1).2.1 (TX0 1).2.2.1 ∈ gT := tm 92 (by decide +kernel) (by decide +kernel)
theorem kf_X0_15 : Cond.fieldLink RX0 15 RX0 (TX0 2).2.1 (TX0 2).2.2.1 ∈ gT := tm 93 (by decide +kernel) (by decide +kernel)
theorem kf_X0_18 : Cond.fieldLink RX0 18 RX0 (TX0 3).2.1 (TX0 3).2.2.1 ∈ gT := tm 94 (by decide +kernel) (by decide +kernel)
theorem kf_X0_25 : Cond.fieldLink RX0 25 RX0 (TX0 4).2.1 (TX0 4).2.2.1 ∈ gT := tm 95 (by decide +kernel) (by decide +kernel)
theorem kf_X0_28 : Cond.fieldLink RX0 28 RX0 (TX0 5).2.1 (TX0 5).2.2.1 ∈ gT := tm 96 (by decide +kernel) (by decide +kernel)
theorem kf_X0_61 : Cond.fieldLink RX0 61 RX0 (TX0 6).2.1 (TX0 6).2.2.1 ∈ gT := tm 97 (by decide +kernel) (by decide +kernel)
theorem kf_X0_93 : Cond.fieldLink RX0 93 RX0 (TX0 7).2.1 (TX0 7).2.2.1 ∈ gT := tm 98 (by decide +kernel) (by decide +kernel)
theorem kf_X0_83 : Cond.fieldLink RX0 83 RX0 (TX0 8).2.1 (TX0 8).2.2.1 ∈ gT := tm 99 (by decide +kernel) (by decide +kernel)
theorem kf_X0_31 : Cond.fieldLink RX0 31 RX0 (TX0 9).2.1 (TX0 9).2.2.1 ∈ gT := tm 100 (by decide +kernel) (by decide +kernel)
theorem kf_X0_34 : Cond.fieldLink RX0 34 RX0 (TX0 10).2.1 (TX0 10).2.2.1 ∈ gT := tm 101 (by decide +kernel) (by decide +kernel)
theorem kl_X5_37 : Cond.classLink RX5 37 RX1 ∈ gT := tm 125 (by decide +kernel) (by decide +kernel)
theorem kt_X2 : Cond.instantiable RX2 2 ∈ gT := tm 127 (by decide +kernel) (by decide +kernel)
theorem km_X5_43 : Cond.methodLink RX5 43 yX2_init ∈ gT := tm 128 (by decide +kernel) (by decide +kernel)
theorem ki_X2_init : Cond.instanceMethod yX2_init ∈ gT := tm 129 (by decide +kernel) (by decide +kernel)
theorem kc_X2_init : Cond.code yX2_init cX2_init 3 none ∈ gT := tm 130 (by decide +kernel) (by decide +kernel)
theorem km_X2_1 : Cond.methodLink RX2 1 ⟨"java/lang/Object", "<init>", "()V"⟩ ∈ gT := tm 131 (by decide +kernel) (by decide +kernel)
theorem kf_X2_7 : Cond.fieldLink RX2 7 RX2 (TX2 0).2.1 (TX2 0).2.2.1 ∈ gT := tm 132 (by decide +kernel) (by decide +kernel)
theorem kf_X2_13 : Cond.fieldLink RX2 13 RX2 (TX2 1).2.1 (TX2 1).2.2.1 ∈ gT := tm 133 (by decide +kernel) (by decide +kernel)
theorem kt_X1 : Cond.instantiable RX1 3 ∈ gT := tm 139 (by decide +kernel) (by decide +kernel)
theorem ki_X1_init : Cond.instanceMethod yX1_init ∈ gT := tm 141 (by decide +kernel) (by decide +kernel)
theorem kc_X1_init : Cond.code yX1_init cX1_init 1 none ∈ gT := tm 142 (by decide +kernel) (by decide +kernel)
theorem km_X1_3 : Cond.methodLink RX1 3 ⟨"java/lang/Object", "<init>", "()V"⟩ ∈ gT := tm 143 (by decide +kernel) (by decide +kernel)
theorem kf_X1_9 : Cond.fieldLink RX1 9 RX1 (TX1 0).2.1 (TX1 0).2.2.1 ∈ gT := tm 144 (by decide +kernel) (by decide +kernel)
theorem kf_X5_234 : Cond.fieldLink RX5 234 RX1 (TX1 0).2.1 (TX1 0).2.2.1 ∈ gT := tm 145 (by decide +kernel) (by decide +kernel)
theorem kf_X1_15 : Cond.fieldLink RX1 15 RX1 (TX1 1).2.1 (TX1 1).2.2.1 ∈ gT := tm 146 (by decide +kernel) (by decide +kernel)
theorem kf_X5_228 : Cond.fieldLink RX5 228 RX1 (TX1 1).2.1 (TX1 1).2.2.1 ∈ gT := tm 147 (by decide +kernel) (by decide +kernel)
theorem kf_X1_19 : Cond.fieldLink RX1 19 RX1 (TX1 2).2.1 (TX1 2).2.2.1 ∈ gT := tm 148 (by decide +kernel) (by decide +kernel)
theorem kf_X5_203 : Cond.fieldLink RX5 203 RX1 (TX1 2).2.1 (TX1 2).2.2.1 ∈ gT := tm 149 (by decide +kernel) (by decide +kernel)
theorem kf_X5_11 : Cond.fieldLink RX5 11 RX5 (TX5 0).2.1 (TX5 0).2.2.1 ∈ gT := tm 157 (by decide +kernel) (by decide +kernel)
theorem kf_X5_20 : Cond.fieldLink RX5 20 RX5 (TX5 1).2.1 (TX5 1).2.2.1 ∈ gT := tm 158 (by decide +kernel) (by decide +kernel)
theorem kf_X5_24 : Cond.fieldLink RX5 24 RX5 (TX5 2).2.1 (TX5 2).2.2.1 ∈ gT := tm 159 (by decide +kernel) (by decide +kernel)
theorem kf_X5_27 : Cond.fieldLink RX5 27 RX5 (TX5 3).2.1 (TX5 3).2.2.1 ∈ gT := tm 160 (by decide +kernel) (by decide +kernel)
theorem kf_X5_33 : Cond.fieldLink RX5 33 RX5 (TX5 4).2.1 (TX5 4).2.2.1 ∈ gT := tm 161 (by decide +kernel) (by decide +kernel)
theorem kf_X5_39 : Cond.fieldLink RX5 39 RX5 (TX5 5).2.1 (TX5 5).2.2.1 ∈ gT := tm 162 (by decide +kernel) (by decide +kernel)
theorem kf_X5_46 : Cond.fieldLink RX5 46 RX5 (TX5 6).2.1 (TX5 6).2.2.1 ∈ gT := tm 163 (by decide +kernel) (by decide +kernel)
theorem kf_X5_223 : Cond.fieldLink RX5 223 RX5 (TX5 7).2.1 (TX5 7).2.2.1 ∈ gT := tm 164 (by decide +kernel) (by decide +kernel)
theorem km_L_13 : Cond.methodLink RL 13 yX5_set ∈ gT := tm 182 (by decide +kernel) (by decide +kernel)
theorem ki_X5_set : Cond.instanceMethod yX5_set ∈ gT := tm 183 (by decide +kernel) (by decide +kernel)
theorem kv_X5_set : Cond.selects RX5 yX5_set yX5_set ∈ gT := tm 184 (by decide +kernel) (by decide +kernel)
theorem kc_X5_set : Cond.code yX5_set cX5_set 4 (some .int) ∈ gT := tm 185 (by decide +kernel) (by decide +kernel)
theorem km_X5_51 : Cond.methodLink RX5 51 yX5_changeYear ∈ gT := tm 186 (by decide +kernel) (by decide +kernel)
theorem ki_X5_changeYear : Cond.instanceMethod yX5_changeYear ∈ gT := tm 188 (by decide +kernel) (by decide +kernel)
theorem kc_X5_changeYear : Cond.code yX5_changeYear cX5_changeYear 3 (some .int) ∈ gT := tm 189 (by decide +kernel) (by decide +kernel)
theorem km_X5_74 : Cond.methodLink RX5 74 yX5_within ∈ gT := tm 190 (by decide +kernel) (by decide +kernel)
theorem ks_X5_within : Cond.static yX5_within ∈ gT := tm 191 (by decide +kernel) (by decide +kernel)
theorem kc_X5_within : Cond.code yX5_within cX5_within 2 (some .boolean) ∈ gT := tm 192 (by decide +kernel) (by decide +kernel)
theorem km_X5_59 : Cond.methodLink RX5 59 yX5_changeOfOne ∈ gT := tm 193 (by decide +kernel) (by decide +kernel)
theorem ki_X5_changeOfOne : Cond.instanceMethod yX5_changeOfOne ∈ gT := tm 195 (by decide +kernel) (by decide +kernel)
theorem kc_X5_changeOfOne : Cond.code yX5_changeOfOne cX5_changeOfOne 6 (some .int) ∈ gT := tm 196 (by decide +kernel) (by decide +kernel)
theorem km_X5_97 : Cond.methodLink RX5 97 yX5_isOne ∈ gT := tm 197 (by decide +kernel) (by decide +kernel)
theorem ki_X5_isOne : Cond.instanceMethod yX5_isOne ∈ gT := tm 199 (by decide +kernel) (by decide +kernel)
theorem kc_X5_isOne : Cond.code yX5_isOne cX5_isOne 2 (some .boolean) ∈ gT := tm 200 (by decide +kernel) (by decide +kernel)
theorem km_X5_66 : Cond.methodLink RX5 66 yX5_changeHouse ∈ gT := tm 201 (by decide +kernel) (by decide +kernel)
theorem ki_X5_changeHouse : Cond.instanceMethod yX5_changeHouse ∈ gT := tm 203 (by decide +kernel) (by decide +kernel)
theorem kc_X5_changeHouse : Cond.code yX5_changeHouse cX5_changeHouse 6 (some .int) ∈ gT := tm 204 (by decide +kernel) (by decide +kernel)
theorem km_X5_91 : Cond.methodLink RX5 91 yX5_isCell ∈ gT := tm 205 (by decide +kernel) (by decide +kernel)
theorem ks_X5_isCell : Cond.static yX5_isCell ∈ gT := tm 206 (by decide +kernel) (by decide +kernel)
theorem kc_X5_isCell : Cond.code yX5_isCell cX5_isCell 1 (some .boolean) ∈ gT := tm 207 (by decide +kernel) (by decide +kernel)
theorem km_X5_154 : Cond.methodLink RX5 154 yX4_allUp ∈ gT := tm 208 (by decide +kernel) (by decide +kernel)
theorem ki_X4_allUp : Cond.instanceMethod yX4_allUp ∈ gT := tm 209 (by decide +kernel) (by decide +kernel)
theorem kv_X4_allUp : Cond.selects RX4 yX4_allUp yX4_allUp ∈ gT := tm 210 (by decide +kernel) (by decide +kernel)
theorem kc_X4_allUp : Cond.code yX4_allUp cX4_allUp 4 (some .long) ∈ gT := tm 211 (by decide +kernel) (by decide +kernel)
theorem km_X5_140 : Cond.methodLink RX5 140 yX3_has ∈ gT := tm 212 (by decide +kernel) (by decide +kernel)
theorem ks_X3_has : Cond.static yX3_has ∈ gT := tm 213 (by decide +kernel) (by decide +kernel)
theorem kc_X3_has : Cond.code yX3_has cX3_has 3 (some .boolean) ∈ gT := tm 214 (by decide +kernel) (by decide +kernel)
theorem kk_X5_252 : Cond.constantLong RX5 252 (-1) ∈ gT := tm 215 (by decide +kernel) (by decide +kernel)
theorem km_X5_254 : Cond.methodLink RX5 254 yX4_dropLoose ∈ gT := tm 216 (by decide +kernel) (by decide +kernel)
theorem ki_X4_dropLoose : Cond.instanceMethod yX4_dropLoose ∈ gT := tm 217 (by decide +kernel) (by decide +kernel)
theorem kv_X4_dropLoose : Cond.selects RX4 yX4_dropLoose yX4_dropLoose ∈ gT := tm 218 (by decide +kernel) (by decide +kernel)
theorem kc_X4_dropLoose : Cond.code yX4_dropLoose cX4_dropLoose 4 none ∈ gT := tm 219 (by decide +kernel) (by decide +kernel)
theorem km_X4_72 : Cond.methodLink RX4 72 yX4_stands ∈ gT := tm 220 (by decide +kernel) (by decide +kernel)
theorem ki_X4_stands : Cond.instanceMethod yX4_stands ∈ gT := tm 221 (by decide +kernel) (by decide +kernel)
theorem kv_X4_stands : Cond.selects RX4 yX4_stands yX4_stands ∈ gT := tm 222 (by decide +kernel) (by decide +kernel)
theorem kc_X4_stands : Cond.code yX4_stands cX4_stands 1 (some .long) ∈ gT := tm 223 (by decide +kernel) (by decide +kernel)
theorem km_X4_56 : Cond.methodLink RX4 56 yX4_allUp ∈ gT := tm 224 (by decide +kernel) (by decide +kernel)
theorem km_X4_75 : Cond.methodLink RX4 75 yX3_held ∈ gT := tm 225 (by decide +kernel) (by decide +kernel)
theorem ks_X3_held : Cond.static yX3_held ∈ gT := tm 226 (by decide +kernel) (by decide +kernel)
theorem kc_X3_held : Cond.code yX3_held cX3_held 9 (some .long) ∈ gT := tm 227 (by decide +kernel) (by decide +kernel)
theorem km_X3_15 : Cond.methodLink RX3 15 yX3_beside ∈ gT := tm 228 (by decide +kernel) (by decide +kernel)
theorem ks_X3_beside : Cond.static yX3_beside ∈ gT := tm 229 (by decide +kernel) (by decide +kernel)
theorem kc_X3_beside : Cond.code yX3_beside cX3_beside 2 (some .long) ∈ gT := tm 230 (by decide +kernel) (by decide +kernel)
theorem kk_X3_11 : Cond.constantLong RX3 11 (9187201950435737471) ∈ gT := tm 231 (by decide +kernel) (by decide +kernel)
theorem kk_X3_13 : Cond.constantLong RX3 13 (-72340172838076674) ∈ gT := tm 232 (by decide +kernel) (by decide +kernel)
theorem km_L_18 : Cond.methodLink RL 18 yX5_regret ∈ gT := tm 233 (by decide +kernel) (by decide +kernel)
theorem ki_X5_regret : Cond.instanceMethod yX5_regret ∈ gT := tm 234 (by decide +kernel) (by decide +kernel)
theorem kv_X5_regret : Cond.selects RX5 yX5_regret yX5_regret ∈ gT := tm 235 (by decide +kernel) (by decide +kernel)
theorem kc_X5_regret : Cond.code yX5_regret cX5_regret 5 (some .int) ∈ gT := tm 236 (by decide +kernel) (by decide +kernel)
theorem km_X5_70 : Cond.methodLink RX5 70 yX5_isKind ∈ gT := tm 237 (by decide +kernel) (by decide +kernel)
theorem ks_X5_isKind : Cond.static yX5_isKind ∈ gT := tm 238 (by decide +kernel) (by decide +kernel)
theorem kc_X5_isKind : Cond.code yX5_isKind cX5_isKind 1 (some .boolean) ∈ gT := tm 239 (by decide +kernel) (by decide +kernel)
theorem km_L_22 : Cond.methodLink RL 22 yX5_told ∈ gT := tm 240 (by decide +kernel) (by decide +kernel)
theorem ki_X5_told : Cond.instanceMethod yX5_told ∈ gT := tm 241 (by decide +kernel) (by decide +kernel)
theorem kv_X5_told : Cond.selects RX5 yX5_told yX5_told ∈ gT := tm 242 (by decide +kernel) (by decide +kernel)
theorem kc_X5_told : Cond.code yX5_told cX5_told 3 (some .int) ∈ gT := tm 243 (by decide +kernel) (by decide +kernel)
theorem km_X5_94 : Cond.methodLink RX5 94 yX4_whose ∈ gT := tm 244 (by decide +kernel) (by decide +kernel)
theorem ki_X4_whose : Cond.instanceMethod yX4_whose ∈ gT := tm 245 (by decide +kernel) (by decide +kernel)
theorem kv_X4_whose : Cond.selects RX4 yX4_whose yX4_whose ∈ gT := tm 246 (by decide +kernel) (by decide +kernel)
theorem kc_X4_whose : Cond.code yX4_whose cX4_whose 3 (some .int) ∈ gT := tm 247 (by decide +kernel) (by decide +kernel)
theorem km_X4_66 : Cond.methodLink RX4 66 yX3_has ∈ gT := tm 248 (by decide +kernel) (by decide +kernel)
theorem km_X5_100 : Cond.methodLink RX5 100 yX5_toldOfOne ∈ gT := tm 249 (by decide +kernel) (by decide +kernel)
theorem ki_X5_toldOfOne : Cond.instanceMethod yX5_toldOfOne ∈ gT := tm 251 (by decide +kernel) (by decide +kernel)
theorem kc_X5_toldOfOne : Cond.code yX5_toldOfOne cX5_toldOfOne 3 (some .int) ∈ gT := tm 252 (by decide +kernel) (by decide +kernel)
theorem km_X5_257 : Cond.methodLink RX5 257 yX4_holds ∈ gT := tm 253 (by decide +kernel) (by decide +kernel)
theorem ki_X4_holds : Cond.instanceMethod yX4_holds ∈ gT := tm 254 (by decide +kernel) (by decide +kernel)
theorem kv_X4_holds : Cond.selects RX4 yX4_holds yX4_holds ∈ gT := tm 255 (by decide +kernel) (by decide +kernel)
theorem kc_X4_holds : Cond.code yX4_holds cX4_holds 5 (some .int) ∈ gT := tm 256 (by decide +kernel) (by decide +kernel)
theorem km_X4_121 : Cond.methodLink RX4 121 yX4_tell ∈ gT := tm 257 (by decide +kernel) (by decide +kernel)
theorem ki_X4_tell : Cond.instanceMethod yX4_tell ∈ gT := tm 259 (by decide +kernel) (by decide +kernel)
theorem kc_X4_tell : Cond.code yX4_tell cX4_tell 6 (some .int) ∈ gT := tm 260 (by decide +kernel) (by decide +kernel)
theorem km_X4_60 : Cond.methodLink RX4 60 yJ13_bitCount_95d88 ∈ gT := tm 261 (by decide +kernel) (by decide +kernel)
theorem ks_J13_bitCount_95d88 : Cond.static yJ13_bitCount_95d88 ∈ gT := tm 262 (by decide +kernel) (by decide +kernel)
theorem kc_J13_bitCount_95d88 : Cond.code yJ13_bitCount_95d88 cJ13_bitCount_95d88 2 (some .int) ∈ gT := tm 263 (by decide +kernel) (by decide +kernel)
theorem kk_J13_314 : Cond.constantLong RJ13 314 (6148914691236517205) ∈ gT := tm 264 (by decide +kernel) (by decide +kernel)
theorem kk_J13_316 : Cond.constantLong RJ13 316 (3689348814741910323) ∈ gT := tm 265 (by decide +kernel) (by decide +kernel)
theorem kk_J13_318 : Cond.constantLong RJ13 318 (1085102592571150095) ∈ gT := tm 266 (by decide +kernel) (by decide +kernel)
theorem km_X4_107 : Cond.methodLink RX4 107 yX4_highestCell ∈ gT := tm 267 (by decide +kernel) (by decide +kernel)
theorem ki_X4_highestCell : Cond.instanceMethod yX4_highestCell ∈ gT := tm 269 (by decide +kernel) (by decide +kernel)
theorem kc_X4_highestCell : Cond.code yX4_highestCell cX4_highestCell 2 (some .int) ∈ gT := tm 270 (by decide +kernel) (by decide +kernel)
theorem km_X4_84 : Cond.methodLink RX4 84 yJ13_numberOfLeadingZeros_95d88 ∈ gT := tm 271 (by decide +kernel) (by decide +kernel)
theorem ks_J13_numberOfLeadingZeros_95d88 : Cond.static yJ13_numberOfLeadingZeros_95d88 ∈ gT := tm 272 (by decide +kernel) (by decide +kernel)
theorem kc_J13_numberOfLeadingZeros_95d88 : Cond.code yJ13_numberOfLeadingZeros_95d88 cJ13_numberOfLeadingZeros_95d88 3 (some .int) ∈ gT := tm 273 (by decide +kernel) (by decide +kernel)
theorem km_J13_308 : Cond.methodLink RJ13 308 yJ6_numberOfLeadingZeros_0f7a4 ∈ gT := tm 274 (by decide +kernel) (by decide +kernel)
theorem ks_J6_numberOfLeadingZeros_0f7a4 : Cond.static yJ6_numberOfLeadingZeros_0f7a4 ∈ gT := tm 275 (by decide +kernel) (by decide +kernel)
theorem kc_J6_numberOfLeadingZeros_0f7a4 : Cond.code yJ6_numberOfLeadingZeros_0f7a4 cJ6_numberOfLeadingZeros_0f7a4 2 (some .int) ∈ gT := tm 276 (by decide +kernel) (by decide +kernel)
theorem kk_J6_264 : Cond.constant RJ6 264 (65536) ∈ gT := tm 277 (by decide +kernel) (by decide +kernel)
theorem km_X4_126 : Cond.methodLink RX4 126 yX2_value ∈ gT := tm 278 (by decide +kernel) (by decide +kernel)
theorem ki_X2_value : Cond.instanceMethod yX2_value ∈ gT := tm 279 (by decide +kernel) (by decide +kernel)
theorem kv_X2_value : Cond.selects RX2 yX2_value yX2_value ∈ gT := tm 280 (by decide +kernel) (by decide +kernel)
theorem kc_X2_value : Cond.code yX2_value cX2_value 9 (some .int) ∈ gT := tm 281 (by decide +kernel) (by decide +kernel)
theorem km_X2_16 : Cond.methodLink RX2 16 yX0_isName ∈ gT := tm 282 (by decide +kernel) (by decide +kernel)
theorem ks_X0_isName : Cond.static yX0_isName ∈ gT := tm 283 (by decide +kernel) (by decide +kernel)
theorem kc_X0_isName : Cond.code yX0_isName cX0_isName 1 (some .boolean) ∈ gT := tm 284 (by decide +kernel) (by decide +kernel)
theorem km_X2_22 : Cond.methodLink RX2 22 yX2_joined ∈ gT := tm 285 (by decide +kernel) (by decide +kernel)
theorem ks_X2_joined : Cond.static yX2_joined ∈ gT := tm 286 (by decide +kernel) (by decide +kernel)
theorem kc_X2_joined : Cond.code yX2_joined cX2_joined 3 (some .int) ∈ gT := tm 287 (by decide +kernel) (by decide +kernel)
theorem km_X4_101 : Cond.methodLink RX4 101 yJ9_min_7cf53 ∈ gT := tm 288 (by decide +kernel) (by decide +kernel)
theorem ks_J9_min_7cf53 : Cond.static yJ9_min_7cf53 ∈ gT := tm 289 (by decide +kernel) (by decide +kernel)
theorem kc_J9_min_7cf53 : Cond.code yJ9_min_7cf53 cJ9_min_7cf53 2 (some .int) ∈ gT := tm 290 (by decide +kernel) (by decide +kernel)
theorem km_X4_94 : Cond.methodLink RX4 94 yJ9_max_7cf53 ∈ gT := tm 291 (by decide +kernel) (by decide +kernel)
theorem ks_J9_max_7cf53 : Cond.static yJ9_max_7cf53 ∈ gT := tm 292 (by decide +kernel) (by decide +kernel)
theorem kc_J9_max_7cf53 : Cond.code yJ9_max_7cf53 cJ9_max_7cf53 2 (some .int) ∈ gT := tm 293 (by decide +kernel) (by decide +kernel)
theorem km_X5_260 : Cond.methodLink RX5 260 yX4_fades ∈ gT := tm 294 (by decide +kernel) (by decide +kernel)
theorem ki_X4_fades : Cond.instanceMethod yX4_fades ∈ gT := tm 295 (by decide +kernel) (by decide +kernel)
theorem kv_X4_fades : Cond.selects RX4 yX4_fades yX4_fades ∈ gT := tm 296 (by decide +kernel) (by decide +kernel)
theorem kc_X4_fades : Cond.code yX4_fades cX4_fades 5 (some .int) ∈ gT := tm 297 (by decide +kernel) (by decide +kernel)
theorem km_X5_263 : Cond.methodLink RX5 263 yX4_costs ∈ gT := tm 298 (by decide +kernel) (by decide +kernel)
theorem ki_X4_costs : Cond.instanceMethod yX4_costs ∈ gT := tm 299 (by decide +kernel) (by decide +kernel)
theorem kv_X4_costs : Cond.selects RX4 yX4_costs yX4_costs ∈ gT := tm 300 (by decide +kernel) (by decide +kernel)
theorem kc_X4_costs : Cond.code yX4_costs cX4_costs 5 (some .int) ∈ gT := tm 301 (by decide +kernel) (by decide +kernel)
theorem km_X5_148 : Cond.methodLink RX5 148 yJ13_bitCount_95d88 ∈ gT := tm 302 (by decide +kernel) (by decide +kernel)
theorem km_L_27 : Cond.methodLink RL 27 yX5_wall ∈ gT := tm 303 (by decide +kernel) (by decide +kernel)
theorem ki_X5_wall : Cond.instanceMethod yX5_wall ∈ gT := tm 304 (by decide +kernel) (by decide +kernel)
theorem kv_X5_wall : Cond.selects RX5 yX5_wall yX5_wall ∈ gT := tm 305 (by decide +kernel) (by decide +kernel)
theorem kc_X5_wall : Cond.code yX5_wall cX5_wall 2 (some .long) ∈ gT := tm 306 (by decide +kernel) (by decide +kernel)
theorem km_X5_107 : Cond.methodLink RX5 107 yX4_stands ∈ gT := tm 307 (by decide +kernel) (by decide +kernel)
theorem kk_X5_111 : Cond.constantLong RX5 111 (-4611686018427387904) ∈ gT := tm 308 (by decide +kernel) (by decide +kernel)
theorem km_L_32 : Cond.methodLink RL 32 yX5_feed ∈ gT := tm 309 (by decide +kernel) (by decide +kernel)
theorem ki_X5_feed : Cond.instanceMethod yX5_feed ∈ gT := tm 310 (by decide +kernel) (by decide +kernel)
theorem kv_X5_feed : Cond.selects RX5 yX5_feed yX5_feed ∈ gT := tm 311 (by decide +kernel) (by decide +kernel)
theorem kc_X5_feed : Cond.code yX5_feed cX5_feed 2 (some .int) ∈ gT := tm 312 (by decide +kernel) (by decide +kernel)
theorem km_X5_113 : Cond.methodLink RX5 113 yX0_hasRoom ∈ gT := tm 313 (by decide +kernel) (by decide +kernel)
theorem ki_X0_hasRoom : Cond.instanceMethod yX0_hasRoom ∈ gT := tm 314 (by decide +kernel) (by decide +kernel)
theorem kv_X0_hasRoom : Cond.selects RX0 yX0_hasRoom yX0_hasRoom ∈ gT := tm 315 (by decide +kernel) (by decide +kernel)
theorem kc_X0_hasRoom : Cond.code yX0_hasRoom cX0_hasRoom 1 (some .boolean) ∈ gT := tm 316 (by decide +kernel) (by decide +kernel)
theorem km_X5_117 : Cond.methodLink RX5 117 yX0_take ∈ gT := tm 317 (by decide +kernel) (by decide +kernel)
theorem ki_X0_take : Cond.instanceMethod yX0_take ∈ gT := tm 318 (by decide +kernel) (by decide +kernel)
theorem kv_X0_take : Cond.selects RX0 yX0_take yX0_take ∈ gT := tm 319 (by decide +kernel) (by decide +kernel)
theorem kc_X0_take : Cond.code yX0_take cX0_take 2 (some .int) ∈ gT := tm 320 (by decide +kernel) (by decide +kernel)
theorem km_L_37 : Cond.methodLink RL 37 yX5_text ∈ gT := tm 321 (by decide +kernel) (by decide +kernel)
theorem ki_X5_text : Cond.instanceMethod yX5_text ∈ gT := tm 322 (by decide +kernel) (by decide +kernel)
theorem kv_X5_text : Cond.selects RX5 yX5_text yX5_text ∈ gT := tm 323 (by decide +kernel) (by decide +kernel)
theorem kc_X5_text : Cond.code yX5_text cX5_text 3 (some .int) ∈ gT := tm 324 (by decide +kernel) (by decide +kernel)
theorem km_X5_120 : Cond.methodLink RX5 120 yX0_read ∈ gT := tm 325 (by decide +kernel) (by decide +kernel)
theorem ki_X0_read : Cond.instanceMethod yX0_read ∈ gT := tm 326 (by decide +kernel) (by decide +kernel)
theorem kv_X0_read : Cond.selects RX0 yX0_read yX0_read ∈ gT := tm 327 (by decide +kernel) (by decide +kernel)
theorem kc_X0_read : Cond.code yX0_read cX0_read 2 (some .int) ∈ gT := tm 328 (by decide +kernel) (by decide +kernel)
theorem km_X0_37 : Cond.methodLink RX0 37 yX0_step ∈ gT := tm 329 (by decide +kernel) (by decide +kernel)
theorem ki_X0_step : Cond.instanceMethod yX0_step ∈ gT := tm 331 (by decide +kernel) (by decide +kernel)
theorem kc_X0_step : Cond.code yX0_step cX0_step 2 none ∈ gT := tm 332 (by decide +kernel) (by decide +kernel)
theorem km_X0_96 : Cond.methodLink RX0 96 yX0_isBlank ∈ gT := tm 333 (by decide +kernel) (by decide +kernel)
theorem ks_X0_isBlank : Cond.static yX0_isBlank ∈ gT := tm 334 (by decide +kernel) (by decide +kernel)
theorem kc_X0_isBlank : Cond.code yX0_isBlank cX0_isBlank 1 (some .boolean) ∈ gT := tm 335 (by decide +kernel) (by decide +kernel)
theorem km_X0_99 : Cond.methodLink RX0 99 yX0_isLetter ∈ gT := tm 336 (by decide +kernel) (by decide +kernel)
theorem ks_X0_isLetter : Cond.static yX0_isLetter ∈ gT := tm 337 (by decide +kernel) (by decide +kernel)
theorem kc_X0_isLetter : Cond.code yX0_isLetter cX0_isLetter 1 (some .boolean) ∈ gT := tm 338 (by decide +kernel) (by decide +kernel)
theorem km_X0_102 : Cond.methodLink RX0 102 yX0_wordToken ∈ gT := tm 339 (by decide +kernel) (by decide +kernel)
theorem ki_X0_wordToken : Cond.instanceMethod yX0_wordToken ∈ gT := tm 341 (by decide +kernel) (by decide +kernel)
theorem kc_X0_wordToken : Cond.code yX0_wordToken cX0_wordToken 2 (some .int) ∈ gT := tm 342 (by decide +kernel) (by decide +kernel)
theorem km_X0_120 : Cond.methodLink RX0 120 yX0_spells ∈ gT := tm 343 (by decide +kernel) (by decide +kernel)
theorem ki_X0_spells : Cond.instanceMethod yX0_spells ∈ gT := tm 345 (by decide +kernel) (by decide +kernel)
theorem kc_X0_spells : Cond.code yX0_spells cX0_spells 6 (some .boolean) ∈ gT := tm 346 (by decide +kernel) (by decide +kernel)
theorem km_X0_126 : Cond.methodLink RX0 126 yJ0_charAt_5068e ∈ gT := tm 348 (by decide +kernel) (by decide +kernel)
theorem ki_J0_charAt_5068e : Cond.instanceMethod yJ0_charAt_5068e ∈ gT := tm 349 (by decide +kernel) (by decide +kernel)
theorem kv_J0_charAt_5068e : Cond.selects RJ0 yJ0_charAt_5068e yJ0_charAt_5068e ∈ gT := tm 350 (by decide +kernel) (by decide +kernel)
theorem kc_J0_charAt_5068e : Cond.code yJ0_charAt_5068e cJ0_charAt_5068e 2 (some .char) ∈ gT := tm 351 (by decide +kernel) (by decide +kernel)
theorem km_J0_492 : Cond.methodLink RJ0 492 yJ0_isLatin1_aae02 ∈ gT := tm 352 (by decide +kernel) (by decide +kernel)
theorem ki_J0_isLatin1_aae02 : Cond.instanceMethod yJ0_isLatin1_aae02 ∈ gT := tm 353 (by decide +kernel) (by decide +kernel)
theorem kv_J0_isLatin1_aae02 : Cond.selects RJ0 yJ0_isLatin1_aae02 yJ0_isLatin1_aae02 ∈ gT := tm 354 (by decide +kernel) (by decide +kernel)
theorem kc_J0_isLatin1_aae02 : Cond.code yJ0_isLatin1_aae02 cJ0_isLatin1_aae02 1 (some .boolean) ∈ gT := tm 355 (by decide +kernel) (by decide +kernel)
theorem kf_J0_38 : Cond.fieldLink RJ0 38 RJ0 "COMPACT_STRINGS" "Z" ∈ gT := tm 356 (by decide +kernel) (by decide +kernel)
theorem km_J0_495 : Cond.methodLink RJ0 495 yJ1_charAt_3b067 ∈ gT := tm 358 (by decide +kernel) (by decide +kernel)
theorem ks_J1_charAt_3b067 : Cond.static yJ1_charAt_3b067 ∈ gT := tm 359 (by decide +kernel) (by decide +kernel)
theorem kc_J1_charAt_3b067 : Cond.code yJ1_charAt_3b067 cJ1_charAt_3b067 2 (some .char) ∈ gT := tm 360 (by decide +kernel) (by decide +kernel)
theorem km_J1_9 : Cond.methodLink RJ1 9 yJ0_checkIndex_df160 ∈ gT := tm 361 (by decide +kernel) (by decide +kernel)
theorem ks_J0_checkIndex_df160 : Cond.static yJ0_checkIndex_df160 ∈ gT := tm 362 (by decide +kernel) (by decide +kernel)
theorem kc_J0_checkIndex_df160 : Cond.code yJ0_checkIndex_df160 cJ0_checkIndex_df160 2 none ∈ gT := tm 363 (by decide +kernel) (by decide +kernel)
theorem kf_J0_1053 : Cond.fieldLink RJ0 1053 RJ3 "SIOOBE_FORMATTER" "Ljava/util/function/BiFunction;" ∈ gT := tm 364 (by decide +kernel) (by decide +kernel)
theorem km_J0_1059 : Cond.methodLink RJ0 1059 yJ3_checkIndex_8e157 ∈ gT := tm 366 (by decide +kernel) (by decide +kernel)
theorem ks_J3_checkIndex_8e157 : Cond.static yJ3_checkIndex_8e157 ∈ gT := tm 367 (by decide +kernel) (by decide +kernel)
theorem kc_J3_checkIndex_8e157 : Cond.code yJ3_checkIndex_8e157 cJ3_checkIndex_8e157 3 (some .int) ∈ gT := tm 368 (by decide +kernel) (by decide +kernel)
theorem km_J0_498 : Cond.methodLink RJ0 498 yJ2_charAt_3b067 ∈ gT := tm 369 (by decide +kernel) (by decide +kernel)
theorem ks_J2_charAt_3b067 : Cond.static yJ2_charAt_3b067 ∈ gT := tm 370 (by decide +kernel) (by decide +kernel)
theorem kc_J2_charAt_3b067 : Cond.code yJ2_charAt_3b067 cJ2_charAt_3b067 2 (some .char) ∈ gT := tm 371 (by decide +kernel) (by decide +kernel)
theorem km_J2_67 : Cond.methodLink RJ2 67 yJ2_checkIndex_2214a ∈ gT := tm 372 (by decide +kernel) (by decide +kernel)
theorem ks_J2_checkIndex_2214a : Cond.static yJ2_checkIndex_2214a ∈ gT := tm 373 (by decide +kernel) (by decide +kernel)
theorem kc_J2_checkIndex_2214a : Cond.code yJ2_checkIndex_2214a cJ2_checkIndex_2214a 2 none ∈ gT := tm 374 (by decide +kernel) (by decide +kernel)
theorem km_J2_48 : Cond.methodLink RJ2 48 yJ2_length_9d52b ∈ gT := tm 375 (by decide +kernel) (by decide +kernel)
theorem ks_J2_length_9d52b : Cond.static yJ2_length_9d52b ∈ gT := tm 376 (by decide +kernel) (by decide +kernel)
theorem kc_J2_length_9d52b : Cond.code yJ2_length_9d52b cJ2_length_9d52b 1 (some .int) ∈ gT := tm 377 (by decide +kernel) (by decide +kernel)
theorem km_J2_414 : Cond.methodLink RJ2 414 yJ0_checkIndex_df160 ∈ gT := tm 378 (by decide +kernel) (by decide +kernel)
theorem km_J2_71 : Cond.methodLink RJ2 71 yJ2_getChar_3b067 ∈ gT := tm 379 (by decide +kernel) (by decide +kernel)
theorem ks_J2_getChar_3b067 : Cond.static yJ2_getChar_3b067 ∈ gT := tm 380 (by decide +kernel) (by decide +kernel)
theorem kc_J2_getChar_3b067 : Cond.code yJ2_getChar_3b067 cJ2_getChar_3b067 2 (some .char) ∈ gT := tm 381 (by decide +kernel) (by decide +kernel)
theorem kf_J2_44 : Cond.fieldLink RJ2 44 RJ2 "$assertionsDisabled" "Z" ∈ gT := tm 382 (by decide +kernel) (by decide +kernel)
theorem kf_J2_59 : Cond.fieldLink RJ2 59 RJ2 "HI_BYTE_SHIFT" "I" ∈ gT := tm 384 (by decide +kernel) (by decide +kernel)
theorem kf_J2_63 : Cond.fieldLink RJ2 63 RJ2 "LO_BYTE_SHIFT" "I" ∈ gT := tm 386 (by decide +kernel) (by decide +kernel)
theorem km_X0_106 : Cond.methodLink RX0 106 yX0_isDigit ∈ gT := tm 388 (by decide +kernel) (by decide +kernel)
theorem ks_X0_isDigit : Cond.static yX0_isDigit ∈ gT := tm 389 (by decide +kernel) (by decide +kernel)
theorem kc_X0_isDigit : Cond.code yX0_isDigit cX0_isDigit 1 (some .boolean) ∈ gT := tm 390 (by decide +kernel) (by decide +kernel)
theorem km_X0_109 : Cond.methodLink RX0 109 yX0_numberToken ∈ gT := tm 391 (by decide +kernel) (by decide +kernel)
theorem ki_X0_numberToken : Cond.instanceMethod yX0_numberToken ∈ gT := tm 393 (by decide +kernel) (by decide +kernel)
theorem kc_X0_numberToken : Cond.code yX0_numberToken cX0_numberToken 3 (some .int) ∈ gT := tm 394 (by decide +kernel) (by decide +kernel)
theorem km_X0_114 : Cond.methodLink RX0 114 yJ0_indexOf_0f7a4 ∈ gT := tm 396 (by decide +kernel) (by decide +kernel)
theorem ki_J0_indexOf_0f7a4 : Cond.instanceMethod yJ0_indexOf_0f7a4 ∈ gT := tm 397 (by decide +kernel) (by decide +kernel)
theorem kv_J0_indexOf_0f7a4 : Cond.selects RJ0 yJ0_indexOf_0f7a4 yJ0_indexOf_0f7a4 ∈ gT := tm 398 (by decide +kernel) (by decide +kernel)
theorem kc_J0_indexOf_0f7a4 : Cond.code yJ0_indexOf_0f7a4 cJ0_indexOf_0f7a4 2 (some .int) ∈ gT := tm 399 (by decide +kernel) (by decide +kernel)
theorem km_J0_633 : Cond.methodLink RJ0 633 yJ0_indexOf_7cf53 ∈ gT := tm 400 (by decide +kernel) (by decide +kernel)
theorem ki_J0_indexOf_7cf53 : Cond.instanceMethod yJ0_indexOf_7cf53 ∈ gT := tm 401 (by decide +kernel) (by decide +kernel)
theorem kv_J0_indexOf_7cf53 : Cond.selects RJ0 yJ0_indexOf_7cf53 yJ0_indexOf_7cf53 ∈ gT := tm 402 (by decide +kernel) (by decide +kernel)
theorem kc_J0_indexOf_7cf53 : Cond.code yJ0_indexOf_7cf53 cJ0_indexOf_7cf53 3 (some .int) ∈ gT := tm 403 (by decide +kernel) (by decide +kernel)
theorem km_J0_505 : Cond.methodLink RJ0 505 yJ0_length_8abf5 ∈ gT := tm 404 (by decide +kernel) (by decide +kernel)
theorem ki_J0_length_8abf5 : Cond.instanceMethod yJ0_length_8abf5 ∈ gT := tm 405 (by decide +kernel) (by decide +kernel)
theorem kv_J0_length_8abf5 : Cond.selects RJ0 yJ0_length_8abf5 yJ0_length_8abf5 ∈ gT := tm 406 (by decide +kernel) (by decide +kernel)
theorem kc_J0_length_8abf5 : Cond.code yJ0_length_8abf5 cJ0_length_8abf5 1 (some .int) ∈ gT := tm 407 (by decide +kernel) (by decide +kernel)
theorem km_J0_335 : Cond.methodLink RJ0 335 yJ0_coder_7d493 ∈ gT := tm 408 (by decide +kernel) (by decide +kernel)
theorem ki_J0_coder_7d493 : Cond.instanceMethod yJ0_coder_7d493 ∈ gT := tm 409 (by decide +kernel) (by decide +kernel)
theorem kv_J0_coder_7d493 : Cond.selects RJ0 yJ0_coder_7d493 yJ0_coder_7d493 ∈ gT := tm 410 (by decide +kernel) (by decide +kernel)
theorem kc_J0_coder_7d493 : Cond.code yJ0_coder_7d493 cJ0_coder_7d493 1 (some .byte) ∈ gT := tm 411 (by decide +kernel) (by decide +kernel)
theorem km_J0_637 : Cond.methodLink RJ0 637 yJ1_indexOf_4cfef ∈ gT := tm 412 (by decide +kernel) (by decide +kernel)
theorem ks_J1_indexOf_4cfef : Cond.static yJ1_indexOf_4cfef ∈ gT := tm 413 (by decide +kernel) (by decide +kernel)
theorem kc_J1_indexOf_4cfef : Cond.code yJ1_indexOf_4cfef cJ1_indexOf_4cfef 4 (some .int) ∈ gT := tm 414 (by decide +kernel) (by decide +kernel)
theorem km_J1_88 : Cond.methodLink RJ1 88 yJ1_canEncode_9a6ad ∈ gT := tm 415 (by decide +kernel) (by decide +kernel)
theorem ks_J1_canEncode_9a6ad : Cond.static yJ1_canEncode_9a6ad ∈ gT := tm 416 (by decide +kernel) (by decide +kernel)
theorem kc_J1_canEncode_9a6ad : Cond.code yJ1_canEncode_9a6ad cJ1_canEncode_9a6ad 1 (some .boolean) ∈ gT := tm 417 (by decide +kernel) (by decide +kernel)
theorem km_J1_92 : Cond.methodLink RJ1 92 yJ9_max_7cf53 ∈ gT := tm 418 (by decide +kernel) (by decide +kernel)
theorem km_J1_38 : Cond.methodLink RJ1 38 yJ9_min_7cf53 ∈ gT := tm 419 (by decide +kernel) (by decide +kernel)
theorem km_J1_95 : Cond.methodLink RJ1 95 yJ1_indexOfChar_4cfef ∈ gT := tm 420 (by decide +kernel) (by decide +kernel)
theorem ks_J1_indexOfChar_4cfef : Cond.static yJ1_indexOfChar_4cfef ∈ gT := tm 421 (by decide +kernel) (by decide +kernel)
theorem kc_J1_indexOfChar_4cfef : Cond.code yJ1_indexOfChar_4cfef cJ1_indexOfChar_4cfef 6 (some .int) ∈ gT := tm 422 (by decide +kernel) (by decide +kernel)
theorem km_J0_640 : Cond.methodLink RJ0 640 yJ2_indexOf_4cfef ∈ gT := tm 423 (by decide +kernel) (by decide +kernel)
theorem ks_J2_indexOf_4cfef : Cond.static yJ2_indexOf_4cfef ∈ gT := tm 424 (by decide +kernel) (by decide +kernel)
theorem kc_J2_indexOf_4cfef : Cond.code yJ2_indexOf_4cfef cJ2_indexOf_4cfef 4 (some .int) ∈ gT := tm 425 (by decide +kernel) (by decide +kernel)
theorem km_J2_224 : Cond.methodLink RJ2 224 yJ9_max_7cf53 ∈ gT := tm 426 (by decide +kernel) (by decide +kernel)
theorem km_J2_183 : Cond.methodLink RJ2 183 yJ9_min_7cf53 ∈ gT := tm 427 (by decide +kernel) (by decide +kernel)
theorem kk_J2_227 : Cond.constant RJ2 227 (65536) ∈ gT := tm 428 (by decide +kernel) (by decide +kernel)
theorem km_J2_228 : Cond.methodLink RJ2 228 yJ2_indexOfChar_4cfef ∈ gT := tm 429 (by decide +kernel) (by decide +kernel)
theorem ks_J2_indexOfChar_4cfef : Cond.static yJ2_indexOfChar_4cfef ∈ gT := tm 430 (by decide +kernel) (by decide +kernel)
theorem kc_J2_indexOfChar_4cfef : Cond.code yJ2_indexOfChar_4cfef cJ2_indexOfChar_4cfef 4 (some .int) ∈ gT := tm 431 (by decide +kernel) (by decide +kernel)
theorem km_J2_96 : Cond.methodLink RJ2 96 yJ2_checkBoundsBeginEnd_d044e ∈ gT := tm 432 (by decide +kernel) (by decide +kernel)
theorem ks_J2_checkBoundsBeginEnd_d044e : Cond.static yJ2_checkBoundsBeginEnd_d044e ∈ gT := tm 433 (by decide +kernel) (by decide +kernel)
theorem kc_J2_checkBoundsBeginEnd_d044e : Cond.code yJ2_checkBoundsBeginEnd_d044e cJ2_checkBoundsBeginEnd_d044e 3 none ∈ gT := tm 434 (by decide +kernel) (by decide +kernel)
theorem km_J2_241 : Cond.methodLink RJ2 241 yJ0_checkBoundsBeginEnd_23922 ∈ gT := tm 435 (by decide +kernel) (by decide +kernel)
theorem ks_J0_checkBoundsBeginEnd_23922 : Cond.static yJ0_checkBoundsBeginEnd_23922 ∈ gT := tm 436 (by decide +kernel) (by decide +kernel)
theorem kc_J0_checkBoundsBeginEnd_23922 : Cond.code yJ0_checkBoundsBeginEnd_23922 cJ0_checkBoundsBeginEnd_23922 3 none ∈ gT := tm 437 (by decide +kernel) (by decide +kernel)
theorem km_J0_1062 : Cond.methodLink RJ0 1062 yJ3_checkFromToIndex_8c36e ∈ gT := tm 438 (by decide +kernel) (by decide +kernel)
theorem ks_J3_checkFromToIndex_8c36e : Cond.static yJ3_checkFromToIndex_8c36e ∈ gT := tm 439 (by decide +kernel) (by decide +kernel)
theorem kc_J3_checkFromToIndex_8c36e : Cond.code yJ3_checkFromToIndex_8c36e cJ3_checkFromToIndex_8c36e 4 (some .int) ∈ gT := tm 440 (by decide +kernel) (by decide +kernel)
theorem km_J2_244 : Cond.methodLink RJ2 244 yJ2_indexOfCharUnsafe_4cfef ∈ gT := tm 441 (by decide +kernel) (by decide +kernel)
theorem ks_J2_indexOfCharUnsafe_4cfef : Cond.static yJ2_indexOfCharUnsafe_4cfef ∈ gT := tm 442 (by decide +kernel) (by decide +kernel)
theorem kc_J2_indexOfCharUnsafe_4cfef : Cond.code yJ2_indexOfCharUnsafe_4cfef cJ2_indexOfCharUnsafe_4cfef 5 (some .int) ∈ gT := tm 443 (by decide +kernel) (by decide +kernel)
theorem km_J2_232 : Cond.methodLink RJ2 232 yJ2_indexOfSupplementary_4cfef ∈ gT := tm 444 (by decide +kernel) (by decide +kernel)
theorem ks_J2_indexOfSupplementary_4cfef : Cond.static yJ2_indexOfSupplementary_4cfef ∈ gT := tm 445 (by decide +kernel) (by decide +kernel)
theorem kc_J2_indexOfSupplementary_4cfef : Cond.code yJ2_indexOfSupplementary_4cfef cJ2_indexOfSupplementary_4cfef 7 (some .int) ∈ gT := tm 446 (by decide +kernel) (by decide +kernel)
theorem km_J2_164 : Cond.methodLink RJ2 164 yJ11_isValidCodePoint_9a6ad ∈ gT := tm 447 (by decide +kernel) (by decide +kernel)
theorem ks_J11_isValidCodePoint_9a6ad : Cond.static yJ11_isValidCodePoint_9a6ad ∈ gT := tm 448 (by decide +kernel) (by decide +kernel)
theorem kc_J11_isValidCodePoint_9a6ad : Cond.code yJ11_isValidCodePoint_9a6ad cJ11_isValidCodePoint_9a6ad 2 (some .boolean) ∈ gT := tm 449 (by decide +kernel) (by decide +kernel)
theorem km_J2_157 : Cond.methodLink RJ2 157 yJ11_highSurrogate_5068e ∈ gT := tm 450 (by decide +kernel) (by decide +kernel)
theorem ks_J11_highSurrogate_5068e : Cond.static yJ11_highSurrogate_5068e ∈ gT := tm 451 (by decide +kernel) (by decide +kernel)
theorem kc_J11_highSurrogate_5068e : Cond.code yJ11_highSurrogate_5068e cJ11_highSurrogate_5068e 1 (some .char) ∈ gT := tm 452 (by decide +kernel) (by decide +kernel)
theorem kk_J11_110 : Cond.constant RJ11 110 (55232) ∈ gT := tm 453 (by decide +kernel) (by decide +kernel)
theorem km_J2_161 : Cond.methodLink RJ2 161 yJ11_lowSurrogate_5068e ∈ gT := tm 454 (by decide +kernel) (by decide +kernel)
theorem ks_J11_lowSurrogate_5068e : Cond.static yJ11_lowSurrogate_5068e ∈ gT := tm 455 (by decide +kernel) (by decide +kernel)
theorem kc_J11_lowSurrogate_5068e : Cond.code yJ11_lowSurrogate_5068e cJ11_lowSurrogate_5068e 1 (some .char) ∈ gT := tm 456 (by decide +kernel) (by decide +kernel)
theorem kk_J11_76 : Cond.constant RJ11 76 (56320) ∈ gT := tm 457 (by decide +kernel) (by decide +kernel)
theorem km_X0_40 : Cond.methodLink RX0 40 yX0_expect ∈ gT := tm 458 (by decide +kernel) (by decide +kernel)
theorem ki_X0_expect : Cond.instanceMethod yX0_expect ∈ gT := tm 460 (by decide +kernel) (by decide +kernel)
theorem kc_X0_expect : Cond.code yX0_expect cX0_expect 2 none ∈ gT := tm 461 (by decide +kernel) (by decide +kernel)
theorem km_X0_90 : Cond.methodLink RX0 90 yX0_refuse ∈ gT := tm 462 (by decide +kernel) (by decide +kernel)
theorem ki_X0_refuse : Cond.instanceMethod yX0_refuse ∈ gT := tm 464 (by decide +kernel) (by decide +kernel)
theorem kc_X0_refuse : Cond.code yX0_refuse cX0_refuse 1 none ∈ gT := tm 465 (by decide +kernel) (by decide +kernel)
theorem km_X0_44 : Cond.methodLink RX0 44 yX0_readEither ∈ gT := tm 466 (by decide +kernel) (by decide +kernel)
theorem ki_X0_readEither : Cond.instanceMethod yX0_readEither ∈ gT := tm 468 (by decide +kernel) (by decide +kernel)
theorem kc_X0_readEither : Cond.code yX0_readEither cX0_readEither 2 none ∈ gT := tm 469 (by decide +kernel) (by decide +kernel)
theorem km_X0_58 : Cond.methodLink RX0 58 yX0_readBoth ∈ gT := tm 470 (by decide +kernel) (by decide +kernel)
theorem ki_X0_readBoth : Cond.instanceMethod yX0_readBoth ∈ gT := tm 472 (by decide +kernel) (by decide +kernel)
theorem kc_X0_readBoth : Cond.code yX0_readBoth cX0_readBoth 2 none ∈ gT := tm 473 (by decide +kernel) (by decide +kernel)
theorem km_X0_67 : Cond.methodLink RX0 67 yX0_readNot ∈ gT := tm 474 (by decide +kernel) (by decide +kernel)
theorem ki_X0_readNot : Cond.instanceMethod yX0_readNot ∈ gT := tm 476 (by decide +kernel) (by decide +kernel)
theorem kc_X0_readNot : Cond.code yX0_readNot cX0_readNot 2 none ∈ gT := tm 477 (by decide +kernel) (by decide +kernel)
theorem km_X0_70 : Cond.methodLink RX0 70 yX0_opens ∈ gT := tm 478 (by decide +kernel) (by decide +kernel)
theorem ki_X0_opens : Cond.instanceMethod yX0_opens ∈ gT := tm 480 (by decide +kernel) (by decide +kernel)
theorem kc_X0_opens : Cond.code yX0_opens cX0_opens 1 (some .boolean) ∈ gT := tm 481 (by decide +kernel) (by decide +kernel)
theorem km_X0_64 : Cond.methodLink RX0 64 yX0_write ∈ gT := tm 482 (by decide +kernel) (by decide +kernel)
theorem ki_X0_write : Cond.instanceMethod yX0_write ∈ gT := tm 484 (by decide +kernel) (by decide +kernel)
theorem kc_X0_write : Cond.code yX0_write cX0_write 2 none ∈ gT := tm 485 (by decide +kernel) (by decide +kernel)
theorem km_X0_74 : Cond.methodLink RX0 74 yX0_readSum ∈ gT := tm 486 (by decide +kernel) (by decide +kernel)
theorem ki_X0_readSum : Cond.instanceMethod yX0_readSum ∈ gT := tm 488 (by decide +kernel) (by decide +kernel)
theorem kc_X0_readSum : Cond.code yX0_readSum cX0_readSum 3 none ∈ gT := tm 489 (by decide +kernel) (by decide +kernel)
theorem km_X0_77 : Cond.methodLink RX0 77 yX0_readTerm ∈ gT := tm 490 (by decide +kernel) (by decide +kernel)
theorem ki_X0_readTerm : Cond.instanceMethod yX0_readTerm ∈ gT := tm 492 (by decide +kernel) (by decide +kernel)
theorem kc_X0_readTerm : Cond.code yX0_readTerm cX0_readTerm 2 none ∈ gT := tm 493 (by decide +kernel) (by decide +kernel)
theorem km_X0_80 : Cond.methodLink RX0 80 yX0_readOne ∈ gT := tm 494 (by decide +kernel) (by decide +kernel)
theorem ki_X0_readOne : Cond.instanceMethod yX0_readOne ∈ gT := tm 496 (by decide +kernel) (by decide +kernel)
theorem kc_X0_readOne : Cond.code yX0_readOne cX0_readOne 1 none ∈ gT := tm 497 (by decide +kernel) (by decide +kernel)
theorem km_X0_86 : Cond.methodLink RX0 86 yX0_isName ∈ gT := tm 498 (by decide +kernel) (by decide +kernel)
theorem km_X5_124 : Cond.methodLink RX5 124 yX0_made ∈ gT := tm 499 (by decide +kernel) (by decide +kernel)
theorem ki_X0_made : Cond.instanceMethod yX0_made ∈ gT := tm 500 (by decide +kernel) (by decide +kernel)
theorem kv_X0_made : Cond.selects RX0 yX0_made yX0_made ∈ gT := tm 501 (by decide +kernel) (by decide +kernel)
theorem kc_X0_made : Cond.code yX0_made cX0_made 1 (some (.object "MightHaveBeenPutUp$Text")) ∈ gT := tm 502 (by decide +kernel) (by decide +kernel)
theorem kl_X0_47 : Cond.classLink RX0 47 RX2 ∈ gT := tm 503 (by decide +kernel) (by decide +kernel)
theorem km_X0_49 : Cond.methodLink RX0 49 yJ7_copyOf_59c91 ∈ gT := tm 504 (by decide +kernel) (by decide +kernel)
theorem ks_J7_copyOf_59c91 : Cond.static yJ7_copyOf_59c91 ∈ gT := tm 505 (by decide +kernel) (by decide +kernel)
theorem kc_J7_copyOf_59c91 : Cond.code yJ7_copyOf_59c91 cJ7_copyOf_59c91 3 (some (.array .int)) ∈ gT := tm 506 (by decide +kernel) (by decide +kernel)
theorem km_J7_316 : Cond.methodLink RJ7 316 ⟨"[I", "clone", "()Ljava/lang/Object;"⟩ ∈ gT := tm 507 (by decide +kernel) (by decide +kernel)
theorem kl_J7_317 : Cond.classLink RJ7 317 "[I" ∈ gT := tm 513 (by decide +kernel) (by decide +kernel)
theorem km_J7_304 : Cond.methodLink RJ7 304 yJ9_min_7cf53 ∈ gT := tm 514 (by decide +kernel) (by decide +kernel)
theorem km_J7_150 : Cond.methodLink RJ7 150 ⟨RJ10, "arraycopy", "(Ljava/lang/Object;ILjava/lang/Object;II)V"⟩ ∈ gT := tm 515 (by decide +kernel) (by decide +kernel)
theorem km_X0_55 : Cond.methodLink RX0 55 yX2_init ∈ gT := tm 518 (by decide +kernel) (by decide +kernel)
theorem ka_519 : Cond.arrayClass .byte ∈ gT := tm 519 (by decide +kernel) (by decide +kernel)
theorem km_L_42 : Cond.methodLink RL 42 yX5_force ∈ gT := tm 520 (by decide +kernel) (by decide +kernel)
theorem ki_X5_force : Cond.instanceMethod yX5_force ∈ gT := tm 521 (by decide +kernel) (by decide +kernel)
theorem kv_X5_force : Cond.selects RX5 yX5_force yX5_force ∈ gT := tm 522 (by decide +kernel) (by decide +kernel)
theorem kc_X5_force : Cond.code yX5_force cX5_force 3 (some .int) ∈ gT := tm 523 (by decide +kernel) (by decide +kernel)
theorem km_L_46 : Cond.methodLink RL 46 yX5_raise ∈ gT := tm 524 (by decide +kernel) (by decide +kernel)
theorem ki_X5_raise : Cond.instanceMethod yX5_raise ∈ gT := tm 525 (by decide +kernel) (by decide +kernel)
theorem kv_X5_raise : Cond.selects RX5 yX5_raise yX5_raise ∈ gT := tm 526 (by decide +kernel) (by decide +kernel)
theorem kc_X5_raise : Cond.code yX5_raise cX5_raise 4 (some .int) ∈ gT := tm 527 (by decide +kernel) (by decide +kernel)
theorem km_X5_131 : Cond.methodLink RX5 131 yX5_isPart ∈ gT := tm 528 (by decide +kernel) (by decide +kernel)
theorem ks_X5_isPart : Cond.static yX5_isPart ∈ gT := tm 529 (by decide +kernel) (by decide +kernel)
theorem kc_X5_isPart : Cond.code yX5_isPart cX5_isPart 1 (some .boolean) ∈ gT := tm 530 (by decide +kernel) (by decide +kernel)
theorem km_X5_134 : Cond.methodLink RX5 134 yX3_places ∈ gT := tm 531 (by decide +kernel) (by decide +kernel)
theorem ks_X3_places : Cond.static yX3_places ∈ gT := tm 532 (by decide +kernel) (by decide +kernel)
theorem kc_X3_places : Cond.code yX3_places cX3_places 3 (some .long) ∈ gT := tm 533 (by decide +kernel) (by decide +kernel)
theorem kf_X3_23 : Cond.fieldLink RX3 23 RX3 "ON_WALL" "[J" ∈ gT := tm 534 (by decide +kernel) (by decide +kernel)
theorem km_X3_27 : Cond.methodLink RX3 27 yX3_touching ∈ gT := tm 536 (by decide +kernel) (by decide +kernel)
theorem ks_X3_touching : Cond.static yX3_touching ∈ gT := tm 537 (by decide +kernel) (by decide +kernel)
theorem kc_X3_touching : Cond.code yX3_touching cX3_touching 6 (some .long) ∈ gT := tm 538 (by decide +kernel) (by decide +kernel)
theorem kf_X3_19 : Cond.fieldLink RX3 19 RX3 "OFFSETS" "[I" ∈ gT := tm 539 (by decide +kernel) (by decide +kernel)
theorem kk_X3_31 : Cond.constantLong RX3 31 (-1) ∈ gT := tm 541 (by decide +kernel) (by decide +kernel)
theorem km_X5_144 : Cond.methodLink RX5 144 yX3_cellsOf ∈ gT := tm 542 (by decide +kernel) (by decide +kernel)
theorem ks_X3_cellsOf : Cond.static yX3_cellsOf ∈ gT := tm 543 (by decide +kernel) (by decide +kernel)
theorem kc_X3_cellsOf : Cond.code yX3_cellsOf cX3_cellsOf 5 (some .long) ∈ gT := tm 544 (by decide +kernel) (by decide +kernel)
theorem km_L_50 : Cond.methodLink RL 50 yX5_fell ∈ gT := tm 545 (by decide +kernel) (by decide +kernel)
theorem ki_X5_fell : Cond.instanceMethod yX5_fell ∈ gT := tm 546 (by decide +kernel) (by decide +kernel)
theorem kv_X5_fell : Cond.selects RX5 yX5_fell yX5_fell ∈ gT := tm 547 (by decide +kernel) (by decide +kernel)
theorem kc_X5_fell : Cond.code yX5_fell cX5_fell 3 (some .int) ∈ gT := tm 548 (by decide +kernel) (by decide +kernel)
theorem km_X5_157 : Cond.methodLink RX5 157 yX4_countUp ∈ gT := tm 549 (by decide +kernel) (by decide +kernel)
theorem ki_X4_countUp : Cond.instanceMethod yX4_countUp ∈ gT := tm 550 (by decide +kernel) (by decide +kernel)
theorem kv_X4_countUp : Cond.selects RX4 yX4_countUp yX4_countUp ∈ gT := tm 551 (by decide +kernel) (by decide +kernel)
theorem kc_X4_countUp : Cond.code yX4_countUp cX4_countUp 1 (some .int) ∈ gT := tm 552 (by decide +kernel) (by decide +kernel)
theorem km_X5_160 : Cond.methodLink RX5 160 yX4_dropCell ∈ gT := tm 553 (by decide +kernel) (by decide +kernel)
theorem ki_X4_dropCell : Cond.instanceMethod yX4_dropCell ∈ gT := tm 554 (by decide +kernel) (by decide +kernel)
theorem kv_X4_dropCell : Cond.selects RX4 yX4_dropCell yX4_dropCell ∈ gT := tm 555 (by decide +kernel) (by decide +kernel)
theorem kc_X4_dropCell : Cond.code yX4_dropCell cX4_dropCell 3 none ∈ gT := tm 556 (by decide +kernel) (by decide +kernel)
theorem kk_X4_79 : Cond.constantLong RX4 79 (-1) ∈ gT := tm 557 (by decide +kernel) (by decide +kernel)
theorem km_X4_81 : Cond.methodLink RX4 81 yX4_dropLoose ∈ gT := tm 558 (by decide +kernel) (by decide +kernel)
theorem km_L_54 : Cond.methodLink RL 54 yX5_room ∈ gT := tm 559 (by decide +kernel) (by decide +kernel)
theorem ki_X5_room : Cond.instanceMethod yX5_room ∈ gT := tm 560 (by decide +kernel) (by decide +kernel)
theorem kv_X5_room : Cond.selects RX5 yX5_room yX5_room ∈ gT := tm 561 (by decide +kernel) (by decide +kernel)
theorem kc_X5_room : Cond.code yX5_room cX5_room 2 (some .long) ∈ gT := tm 562 (by decide +kernel) (by decide +kernel)
theorem km_L_58 : Cond.methodLink RL 58 yX5_year ∈ gT := tm 563 (by decide +kernel) (by decide +kernel)
theorem ki_X5_year : Cond.instanceMethod yX5_year ∈ gT := tm 564 (by decide +kernel) (by decide +kernel)
theorem kv_X5_year : Cond.selects RX5 yX5_year yX5_year ∈ gT := tm 565 (by decide +kernel) (by decide +kernel)
theorem kc_X5_year : Cond.code yX5_year cX5_year 2 (some .int) ∈ gT := tm 566 (by decide +kernel) (by decide +kernel)
theorem km_X5_164 : Cond.methodLink RX5 164 yX4_passYear ∈ gT := tm 567 (by decide +kernel) (by decide +kernel)
theorem ki_X4_passYear : Cond.instanceMethod yX4_passYear ∈ gT := tm 568 (by decide +kernel) (by decide +kernel)
theorem kv_X4_passYear : Cond.selects RX4 yX4_passYear yX4_passYear ∈ gT := tm 569 (by decide +kernel) (by decide +kernel)
theorem kc_X4_passYear : Cond.code yX4_passYear cX4_passYear 5 none ∈ gT := tm 570 (by decide +kernel) (by decide +kernel)
theorem km_X4_87 : Cond.methodLink RX4 87 yX4_fades ∈ gT := tm 571 (by decide +kernel) (by decide +kernel)
theorem km_X4_91 : Cond.methodLink RX4 91 yX4_costs ∈ gT := tm 572 (by decide +kernel) (by decide +kernel)
theorem kk_X4_100 : Cond.constant RX4 100 (99999) ∈ gT := tm 573 (by decide +kernel) (by decide +kernel)
theorem km_X4_104 : Cond.methodLink RX4 104 yX4_holds ∈ gT := tm 574 (by decide +kernel) (by decide +kernel)
theorem km_X4_110 : Cond.methodLink RX4 110 yX4_dropCell ∈ gT := tm 575 (by decide +kernel) (by decide +kernel)
theorem km_L_62 : Cond.methodLink RL 62 yX5_run ∈ gT := tm 576 (by decide +kernel) (by decide +kernel)
theorem ki_X5_run : Cond.instanceMethod yX5_run ∈ gT := tm 577 (by decide +kernel) (by decide +kernel)
theorem kv_X5_run : Cond.selects RX5 yX5_run yX5_run ∈ gT := tm 578 (by decide +kernel) (by decide +kernel)
theorem kc_X5_run : Cond.code yX5_run cX5_run 4 (some .int) ∈ gT := tm 579 (by decide +kernel) (by decide +kernel)
theorem km_X5_167 : Cond.methodLink RX5 167 yX5_think ∈ gT := tm 580 (by decide +kernel) (by decide +kernel)
theorem ki_X5_think : Cond.instanceMethod yX5_think ∈ gT := tm 582 (by decide +kernel) (by decide +kernel)
theorem kc_X5_think : Cond.code yX5_think cX5_think 3 none ∈ gT := tm 583 (by decide +kernel) (by decide +kernel)
theorem km_X5_186 : Cond.methodLink RX5 186 yX4_become ∈ gT := tm 584 (by decide +kernel) (by decide +kernel)
theorem ki_X4_become : Cond.instanceMethod yX4_become ∈ gT := tm 585 (by decide +kernel) (by decide +kernel)
theorem kv_X4_become : Cond.selects RX4 yX4_become yX4_become ∈ gT := tm 586 (by decide +kernel) (by decide +kernel)
theorem kc_X4_become : Cond.code yX4_become cX4_become 3 none ∈ gT := tm 587 (by decide +kernel) (by decide +kernel)
theorem km_L_66 : Cond.methodLink RL 66 yX5_later ∈ gT := tm 588 (by decide +kernel) (by decide +kernel)
theorem ki_X5_later : Cond.instanceMethod yX5_later ∈ gT := tm 589 (by decide +kernel) (by decide +kernel)
theorem kv_X5_later : Cond.selects RX5 yX5_later yX5_later ∈ gT := tm 590 (by decide +kernel) (by decide +kernel)
theorem kc_X5_later : Cond.code yX5_later cX5_later 2 (some .long) ∈ gT := tm 591 (by decide +kernel) (by decide +kernel)
theorem km_L_70 : Cond.methodLink RL 70 yX5_walk ∈ gT := tm 592 (by decide +kernel) (by decide +kernel)
theorem ki_X5_walk : Cond.instanceMethod yX5_walk ∈ gT := tm 593 (by decide +kernel) (by decide +kernel)
theorem kv_X5_walk : Cond.selects RX5 yX5_walk yX5_walk ∈ gT := tm 594 (by decide +kernel) (by decide +kernel)
theorem kc_X5_walk : Cond.code yX5_walk cX5_walk 8 (some .int) ∈ gT := tm 595 (by decide +kernel) (by decide +kernel)
theorem km_X5_173 : Cond.methodLink RX5 173 yX3_beside ∈ gT := tm 596 (by decide +kernel) (by decide +kernel)
theorem km_L_74 : Cond.methodLink RL 74 yX5_round ∈ gT := tm 597 (by decide +kernel) (by decide +kernel)
theorem ki_X5_round : Cond.instanceMethod yX5_round ∈ gT := tm 598 (by decide +kernel) (by decide +kernel)
theorem kv_X5_round : Cond.selects RX5 yX5_round yX5_round ∈ gT := tm 599 (by decide +kernel) (by decide +kernel)
theorem kc_X5_round : Cond.code yX5_round cX5_round 8 (some .long) ∈ gT := tm 600 (by decide +kernel) (by decide +kernel)
theorem km_L_79 : Cond.methodLink RL 79 yX5_reach ∈ gT := tm 601 (by decide +kernel) (by decide +kernel)
theorem ki_X5_reach : Cond.instanceMethod yX5_reach ∈ gT := tm 602 (by decide +kernel) (by decide +kernel)
theorem kv_X5_reach : Cond.selects RX5 yX5_reach yX5_reach ∈ gT := tm 603 (by decide +kernel) (by decide +kernel)
theorem kc_X5_reach : Cond.code yX5_reach cX5_reach 4 (some .int) ∈ gT := tm 604 (by decide +kernel) (by decide +kernel)
theorem km_X5_177 : Cond.methodLink RX5 177 yX3_reachedByOne ∈ gT := tm 605 (by decide +kernel) (by decide +kernel)
theorem ks_X3_reachedByOne : Cond.static yX3_reachedByOne ∈ gT := tm 606 (by decide +kernel) (by decide +kernel)
theorem kc_X3_reachedByOne : Cond.code yX3_reachedByOne cX3_reachedByOne 5 (some .boolean) ∈ gT := tm 607 (by decide +kernel) (by decide +kernel)
theorem km_X3_33 : Cond.methodLink RX3 33 yX3_places ∈ gT := tm 608 (by decide +kernel) (by decide +kernel)
theorem km_X3_36 : Cond.methodLink RX3 36 yX3_has ∈ gT := tm 609 (by decide +kernel) (by decide +kernel)
theorem km_X5_180 : Cond.methodLink RX5 180 yX3_reachedByTwo ∈ gT := tm 610 (by decide +kernel) (by decide +kernel)
theorem ks_X3_reachedByTwo : Cond.static yX3_reachedByTwo ∈ gT := tm 611 (by decide +kernel) (by decide +kernel)
theorem kc_X3_reachedByTwo : Cond.code yX3_reachedByTwo cX3_reachedByTwo 6 (some .boolean) ∈ gT := tm 612 (by decide +kernel) (by decide +kernel)
theorem km_X3_40 : Cond.methodLink RX3 40 yX3_cellsOf ∈ gT := tm 613 (by decide +kernel) (by decide +kernel)
theorem km_X3_44 : Cond.methodLink RX3 44 yX3_isMadeRoom ∈ gT := tm 614 (by decide +kernel) (by decide +kernel)
theorem ks_X3_isMadeRoom : Cond.static yX3_isMadeRoom ∈ gT := tm 615 (by decide +kernel) (by decide +kernel)
theorem kc_X3_isMadeRoom : Cond.code yX3_isMadeRoom cX3_isMadeRoom 7 (some .boolean) ∈ gT := tm 616 (by decide +kernel) (by decide +kernel)
theorem km_L_83 : Cond.methodLink RL 83 yX5_key ∈ gT := tm 617 (by decide +kernel) (by decide +kernel)
theorem ki_X5_key : Cond.instanceMethod yX5_key ∈ gT := tm 618 (by decide +kernel) (by decide +kernel)
theorem kv_X5_key : Cond.selects RX5 yX5_key yX5_key ∈ gT := tm 619 (by decide +kernel) (by decide +kernel)
theorem kc_X5_key : Cond.code yX5_key cX5_key 8 (some .int) ∈ gT := tm 620 (by decide +kernel) (by decide +kernel)
theorem km_X5_183 : Cond.methodLink RX5 183 yX4_fallWithout ∈ gT := tm 621 (by decide +kernel) (by decide +kernel)
theorem ki_X4_fallWithout : Cond.instanceMethod yX4_fallWithout ∈ gT := tm 622 (by decide +kernel) (by decide +kernel)
theorem kv_X4_fallWithout : Cond.selects RX4 yX4_fallWithout yX4_fallWithout ∈ gT := tm 623 (by decide +kernel) (by decide +kernel)
theorem kc_X4_fallWithout : Cond.code yX4_fallWithout cX4_fallWithout 4 (some .int) ∈ gT := tm 624 (by decide +kernel) (by decide +kernel)
theorem km_L_87 : Cond.methodLink RL 87 yX5_add ∈ gT := tm 625 (by decide +kernel) (by decide +kernel)
theorem ki_X5_add : Cond.instanceMethod yX5_add ∈ gT := tm 626 (by decide +kernel) (by decide +kernel)
theorem kv_X5_add : Cond.selects RX5 yX5_add yX5_add ∈ gT := tm 627 (by decide +kernel) (by decide +kernel)
theorem kc_X5_add : Cond.code yX5_add cX5_add 11 (some .int) ∈ gT := tm 628 (by decide +kernel) (by decide +kernel)
theorem km_X5_190 : Cond.methodLink RX5 190 yX4_countBehind ∈ gT := tm 629 (by decide +kernel) (by decide +kernel)
theorem ki_X4_countBehind : Cond.instanceMethod yX4_countBehind ∈ gT := tm 630 (by decide +kernel) (by decide +kernel)
theorem kv_X4_countBehind : Cond.selects RX4 yX4_countBehind yX4_countBehind ∈ gT := tm 631 (by decide +kernel) (by decide +kernel)
theorem kc_X4_countBehind : Cond.code yX4_countBehind cX4_countBehind 5 (some .int) ∈ gT := tm 632 (by decide +kernel) (by decide +kernel)
theorem km_X4_114 : Cond.methodLink RX4 114 yX4_countUp ∈ gT := tm 633 (by decide +kernel) (by decide +kernel)
theorem km_X4_118 : Cond.methodLink RX4 118 yX4_passYear ∈ gT := tm 634 (by decide +kernel) (by decide +kernel)
theorem km_L_91 : Cond.methodLink RL 91 yX5_share ∈ gT := tm 635 (by decide +kernel) (by decide +kernel)
theorem ki_X5_share : Cond.instanceMethod yX5_share ∈ gT := tm 636 (by decide +kernel) (by decide +kernel)
theorem kv_X5_share : Cond.selects RX5 yX5_share yX5_share ∈ gT := tm 637 (by decide +kernel) (by decide +kernel)
theorem kc_X5_share : Cond.code yX5_share cX5_share 4 (some .long) ∈ gT := tm 638 (by decide +kernel) (by decide +kernel)
theorem km_X5_193 : Cond.methodLink RX5 193 yX5_lowest ∈ gT := tm 639 (by decide +kernel) (by decide +kernel)
theorem ks_X5_lowest : Cond.static yX5_lowest ∈ gT := tm 640 (by decide +kernel) (by decide +kernel)
theorem kc_X5_lowest : Cond.code yX5_lowest cX5_lowest 5 (some .int) ∈ gT := tm 641 (by decide +kernel) (by decide +kernel)
theorem km_L_95 : Cond.methodLink RL 95 yX5_tells ∈ gT := tm 642 (by decide +kernel) (by decide +kernel)
theorem ki_X5_tells : Cond.instanceMethod yX5_tells ∈ gT := tm 643 (by decide +kernel) (by decide +kernel)
theorem kv_X5_tells : Cond.selects RX5 yX5_tells yX5_tells ∈ gT := tm 644 (by decide +kernel) (by decide +kernel)
theorem kc_X5_tells : Cond.code yX5_tells cX5_tells 5 (some .int) ∈ gT := tm 645 (by decide +kernel) (by decide +kernel)
theorem km_X5_197 : Cond.methodLink RX5 197 yX5_isSheet ∈ gT := tm 646 (by decide +kernel) (by decide +kernel)
theorem ks_X5_isSheet : Cond.static yX5_isSheet ∈ gT := tm 647 (by decide +kernel) (by decide +kernel)
theorem kc_X5_isSheet : Cond.code yX5_isSheet cX5_isSheet 1 (some .boolean) ∈ gT := tm 648 (by decide +kernel) (by decide +kernel)
theorem km_X5_200 : Cond.methodLink RX5 200 yX1_isMissing ∈ gT := tm 649 (by decide +kernel) (by decide +kernel)
theorem ki_X1_isMissing : Cond.instanceMethod yX1_isMissing ∈ gT := tm 650 (by decide +kernel) (by decide +kernel)
theorem kv_X1_isMissing : Cond.selects RX1 yX1_isMissing yX1_isMissing ∈ gT := tm 651 (by decide +kernel) (by decide +kernel)
theorem kc_X1_isMissing : Cond.code yX1_isMissing cX1_isMissing 1 (some .boolean) ∈ gT := tm 652 (by decide +kernel) (by decide +kernel)
theorem km_X5_206 : Cond.methodLink RX5 206 yX5_firstOtherwise ∈ gT := tm 653 (by decide +kernel) (by decide +kernel)
theorem ki_X5_firstOtherwise : Cond.instanceMethod yX5_firstOtherwise ∈ gT := tm 655 (by decide +kernel) (by decide +kernel)
theorem kc_X5_firstOtherwise : Cond.code yX5_firstOtherwise cX5_firstOtherwise 4 (some .int) ∈ gT := tm 656 (by decide +kernel) (by decide +kernel)
theorem km_X5_210 : Cond.methodLink RX5 210 yX5_supposedTold ∈ gT := tm 657 (by decide +kernel) (by decide +kernel)
theorem ki_X5_supposedTold : Cond.instanceMethod yX5_supposedTold ∈ gT := tm 659 (by decide +kernel) (by decide +kernel)
theorem kc_X5_supposedTold : Cond.code yX5_supposedTold cX5_supposedTold 8 (some .int) ∈ gT := tm 660 (by decide +kernel) (by decide +kernel)
theorem km_X5_267 : Cond.methodLink RX5 267 yX5_suppositions ∈ gT := tm 661 (by decide +kernel) (by decide +kernel)
theorem ki_X5_suppositions : Cond.instanceMethod yX5_suppositions ∈ gT := tm 663 (by decide +kernel) (by decide +kernel)
theorem kc_X5_suppositions : Cond.code yX5_suppositions cX5_suppositions 2 (some .int) ∈ gT := tm 664 (by decide +kernel) (by decide +kernel)
theorem km_X5_270 : Cond.methodLink RX5 270 yX5_suppose ∈ gT := tm 665 (by decide +kernel) (by decide +kernel)
theorem ki_X5_suppose : Cond.instanceMethod yX5_suppose ∈ gT := tm 667 (by decide +kernel) (by decide +kernel)
theorem kc_X5_suppose : Cond.code yX5_suppose cX5_suppose 4 none ∈ gT := tm 668 (by decide +kernel) (by decide +kernel)
theorem km_L_99 : Cond.methodLink RL 99 yX5_film ∈ gT := tm 669 (by decide +kernel) (by decide +kernel)
theorem ki_X5_film : Cond.instanceMethod yX5_film ∈ gT := tm 670 (by decide +kernel) (by decide +kernel)
theorem kv_X5_film : Cond.selects RX5 yX5_film yX5_film ∈ gT := tm 671 (by decide +kernel) (by decide +kernel)
theorem kc_X5_film : Cond.code yX5_film cX5_film 6 (some .int) ∈ gT := tm 672 (by decide +kernel) (by decide +kernel)
theorem km_X5_214 : Cond.methodLink RX5 214 yX1_become ∈ gT := tm 673 (by decide +kernel) (by decide +kernel)
theorem ki_X1_become : Cond.instanceMethod yX1_become ∈ gT := tm 674 (by decide +kernel) (by decide +kernel)
theorem kv_X1_become : Cond.selects RX1 yX1_become yX1_become ∈ gT := tm 675 (by decide +kernel) (by decide +kernel)
theorem kc_X1_become : Cond.code yX1_become cX1_become 3 none ∈ gT := tm 676 (by decide +kernel) (by decide +kernel)
theorem km_X1_22 : Cond.methodLink RX1 22 yJ7_fill_53178 ∈ gT := tm 677 (by decide +kernel) (by decide +kernel)
theorem ks_J7_fill_53178 : Cond.static yJ7_fill_53178 ∈ gT := tm 678 (by decide +kernel) (by decide +kernel)
theorem kc_J7_fill_53178 : Cond.code yJ7_fill_53178 cJ7_fill_53178 4 none ∈ gT := tm 679 (by decide +kernel) (by decide +kernel)
theorem km_X5_217 : Cond.methodLink RX5 217 yX1_put ∈ gT := tm 680 (by decide +kernel) (by decide +kernel)
theorem ki_X1_put : Cond.instanceMethod yX1_put ∈ gT := tm 681 (by decide +kernel) (by decide +kernel)
theorem kv_X1_put : Cond.selects RX1 yX1_put yX1_put ∈ gT := tm 682 (by decide +kernel) (by decide +kernel)
theorem kc_X1_put : Cond.code yX1_put cX1_put 3 none ∈ gT := tm 683 (by decide +kernel) (by decide +kernel)
theorem km_L_103 : Cond.methodLink RL 103 yX5_drawn ∈ gT := tm 684 (by decide +kernel) (by decide +kernel)
theorem ki_X5_drawn : Cond.instanceMethod yX5_drawn ∈ gT := tm 685 (by decide +kernel) (by decide +kernel)
theorem kv_X5_drawn : Cond.selects RX5 yX5_drawn yX5_drawn ∈ gT := tm 686 (by decide +kernel) (by decide +kernel)
theorem kc_X5_drawn : Cond.code yX5_drawn cX5_drawn 3 (some .int) ∈ gT := tm 687 (by decide +kernel) (by decide +kernel)
theorem km_X5_220 : Cond.methodLink RX5 220 yX5_countDrawn ∈ gT := tm 688 (by decide +kernel) (by decide +kernel)
theorem ki_X5_countDrawn : Cond.instanceMethod yX5_countDrawn ∈ gT := tm 690 (by decide +kernel) (by decide +kernel)
theorem kc_X5_countDrawn : Cond.code yX5_countDrawn cX5_countDrawn 5 (some .int) ∈ gT := tm 691 (by decide +kernel) (by decide +kernel)
theorem kk_X5_266 : Cond.constant RX5 266 (1103515245) ∈ gT := tm 692 (by decide +kernel) (by decide +kernel)
theorem km_L_107 : Cond.methodLink RL 107 yX5_chance ∈ gT := tm 693 (by decide +kernel) (by decide +kernel)
theorem ki_X5_chance : Cond.instanceMethod yX5_chance ∈ gT := tm 694 (by decide +kernel) (by decide +kernel)
theorem kv_X5_chance : Cond.selects RX5 yX5_chance yX5_chance ∈ gT := tm 695 (by decide +kernel) (by decide +kernel)
theorem kc_X5_chance : Cond.code yX5_chance cX5_chance 7 (some .long) ∈ gT := tm 696 (by decide +kernel) (by decide +kernel)
theorem km_L_112 : Cond.methodLink RL 112 yX5_image ∈ gT := tm 697 (by decide +kernel) (by decide +kernel)
theorem ki_X5_image : Cond.instanceMethod yX5_image ∈ gT := tm 698 (by decide +kernel) (by decide +kernel)
theorem kv_X5_image : Cond.selects RX5 yX5_image yX5_image ∈ gT := tm 699 (by decide +kernel) (by decide +kernel)
theorem kc_X5_image : Cond.code yX5_image cX5_image 1 (some .int) ∈ gT := tm 700 (by decide +kernel) (by decide +kernel)
theorem km_L_116 : Cond.methodLink RL 116 yX5_back ∈ gT := tm 701 (by decide +kernel) (by decide +kernel)
theorem ki_X5_back : Cond.instanceMethod yX5_back ∈ gT := tm 702 (by decide +kernel) (by decide +kernel)
theorem kv_X5_back : Cond.selects RX5 yX5_back yX5_back ∈ gT := tm 703 (by decide +kernel) (by decide +kernel)
theorem kc_X5_back : Cond.code yX5_back cX5_back 1 (some .int) ∈ gT := tm 704 (by decide +kernel) (by decide +kernel)
theorem km_L_120 : Cond.methodLink RL 120 yX5_count ∈ gT := tm 705 (by decide +kernel) (by decide +kernel)
theorem ki_X5_count : Cond.instanceMethod yX5_count ∈ gT := tm 706 (by decide +kernel) (by decide +kernel)
theorem kv_X5_count : Cond.selects RX5 yX5_count yX5_count ∈ gT := tm 707 (by decide +kernel) (by decide +kernel)
theorem kc_X5_count : Cond.code yX5_count cX5_count 2 (some .int) ∈ gT := tm 708 (by decide +kernel) (by decide +kernel)
theorem km_L_124 : Cond.methodLink RL 124 yX5_sheet ∈ gT := tm 709 (by decide +kernel) (by decide +kernel)
theorem ki_X5_sheet : Cond.instanceMethod yX5_sheet ∈ gT := tm 710 (by decide +kernel) (by decide +kernel)
theorem kv_X5_sheet : Cond.selects RX5 yX5_sheet yX5_sheet ∈ gT := tm 711 (by decide +kernel) (by decide +kernel)
theorem kc_X5_sheet : Cond.code yX5_sheet cX5_sheet 4 (some .int) ∈ gT := tm 712 (by decide +kernel) (by decide +kernel)
theorem km_L_128 : Cond.methodLink RL 128 yX5_cell ∈ gT := tm 713 (by decide +kernel) (by decide +kernel)
theorem ki_X5_cell : Cond.instanceMethod yX5_cell ∈ gT := tm 714 (by decide +kernel) (by decide +kernel)
theorem kv_X5_cell : Cond.selects RX5 yX5_cell yX5_cell ∈ gT := tm 715 (by decide +kernel) (by decide +kernel)
theorem kc_X5_cell : Cond.code yX5_cell cX5_cell 5 (some .int) ∈ gT := tm 716 (by decide +kernel) (by decide +kernel)
theorem km_L_132 : Cond.methodLink RL 132 yX5_copy ∈ gT := tm 717 (by decide +kernel) (by decide +kernel)
theorem ki_X5_copy : Cond.instanceMethod yX5_copy ∈ gT := tm 718 (by decide +kernel) (by decide +kernel)
theorem kv_X5_copy : Cond.selects RX5 yX5_copy yX5_copy ∈ gT := tm 719 (by decide +kernel) (by decide +kernel)
theorem kc_X5_copy : Cond.code yX5_copy cX5_copy 8 (some .int) ∈ gT := tm 720 (by decide +kernel) (by decide +kernel)
theorem km_X5_231 : Cond.methodLink RX5 231 yX1_hasRange ∈ gT := tm 721 (by decide +kernel) (by decide +kernel)
theorem ki_X1_hasRange : Cond.instanceMethod yX1_hasRange ∈ gT := tm 722 (by decide +kernel) (by decide +kernel)
theorem kv_X1_hasRange : Cond.selects RX1 yX1_hasRange yX1_hasRange ∈ gT := tm 723 (by decide +kernel) (by decide +kernel)
theorem kc_X1_hasRange : Cond.code yX1_hasRange cX1_hasRange 3 (some .boolean) ∈ gT := tm 724 (by decide +kernel) (by decide +kernel)
theorem km_X5_237 : Cond.methodLink RX5 237 ⟨RJ10, "arraycopy", "(Ljava/lang/Object;ILjava/lang/Object;II)V"⟩ ∈ gT := tm 725 (by decide +kernel) (by decide +kernel)
theorem km_L_137 : Cond.methodLink RL 137 yX5_bag ∈ gT := tm 726 (by decide +kernel) (by decide +kernel)
theorem ki_X5_bag : Cond.instanceMethod yX5_bag ∈ gT := tm 727 (by decide +kernel) (by decide +kernel)
theorem kv_X5_bag : Cond.selects RX5 yX5_bag yX5_bag ∈ gT := tm 728 (by decide +kernel) (by decide +kernel)
theorem kc_X5_bag : Cond.code yX5_bag cX5_bag 9 (some .int) ∈ gT := tm 729 (by decide +kernel) (by decide +kernel)
theorem km_X5_243 : Cond.methodLink RX5 243 yX5_regret ∈ gT := tm 730 (by decide +kernel) (by decide +kernel)
theorem km_L_142 : Cond.methodLink RL 142 yX5_taken ∈ gT := tm 731 (by decide +kernel) (by decide +kernel)
theorem ki_X5_taken : Cond.instanceMethod yX5_taken ∈ gT := tm 732 (by decide +kernel) (by decide +kernel)
theorem kv_X5_taken : Cond.selects RX5 yX5_taken yX5_taken ∈ gT := tm 733 (by decide +kernel) (by decide +kernel)
theorem kc_X5_taken : Cond.code yX5_taken cX5_taken 3 (some .int) ∈ gT := tm 734 (by decide +kernel) (by decide +kernel)
theorem km_X5_246 : Cond.methodLink RX5 246 yX5_isUnder ∈ gT := tm 735 (by decide +kernel) (by decide +kernel)
theorem ks_X5_isUnder : Cond.static yX5_isUnder ∈ gT := tm 736 (by decide +kernel) (by decide +kernel)
theorem kc_X5_isUnder : Cond.code yX5_isUnder cX5_isUnder 4 (some .boolean) ∈ gT := tm 737 (by decide +kernel) (by decide +kernel)
theorem kf_X5_249 : Cond.fieldLink RX5 249 RX5 "KIND_ABOVE" "[I" ∈ gT := tm 738 (by decide +kernel) (by decide +kernel)
theorem kl_L_10 : Cond.classLink RL 10 RX6 ∈ gT := tm 740 (by decide +kernel) (by decide +kernel)
theorem kt_X6 : Cond.instantiable RX6 41 ∈ gT := tm 741 (by decide +kernel) (by decide +kernel)
theorem km_L_12 : Cond.methodLink RL 12 yX6_init ∈ gT := tm 742 (by decide +kernel) (by decide +kernel)
theorem ki_X6_init : Cond.instanceMethod yX6_init ∈ gT := tm 743 (by decide +kernel) (by decide +kernel)
theorem kc_X6_init : Cond.code yX6_init cX6_init 1 none ∈ gT := tm 744 (by decide +kernel) (by decide +kernel)
theorem km_X6_7 : Cond.methodLink RX6 7 ⟨"java/lang/Object", "<init>", "()V"⟩ ∈ gT := tm 745 (by decide +kernel) (by decide +kernel)
theorem kk_X6_23 : Cond.constantLong RX6 23 (255) ∈ gT := tm 746 (by decide +kernel) (by decide +kernel)
theorem km_X6_64 : Cond.methodLink RX6 64 yX6_spell ∈ gT := tm 747 (by decide +kernel) (by decide +kernel)
theorem ki_X6_spell : Cond.instanceMethod yX6_spell ∈ gT := tm 749 (by decide +kernel) (by decide +kernel)
theorem kc_X6_spell : Cond.code yX6_spell cX6_spell 10 none ∈ gT := tm 750 (by decide +kernel) (by decide +kernel)
theorem kf_X6_13 : Cond.fieldLink RX6 13 RX6 (TX6 1).2.1 (TX6 1).2.2.1 ∈ gT := tm 751 (by decide +kernel) (by decide +kernel)
theorem kf_X6_17 : Cond.fieldLink RX6 17 RX6 (TX6 2).2.1 (TX6 2).2.2.1 ∈ gT := tm 752 (by decide +kernel) (by decide +kernel)
theorem kf_X6_68 : Cond.fieldLink RX6 68 RX6 (TX6 3).2.1 (TX6 3).2.2.1 ∈ gT := tm 753 (by decide +kernel) (by decide +kernel)
theorem kf_X6_118 : Cond.fieldLink RX6 118 RX6 (TX6 4).2.1 (TX6 4).2.2.1 ∈ gT := tm 754 (by decide +kernel) (by decide +kernel)
theorem kf_X6_20 : Cond.fieldLink RX6 20 RX6 (TX6 5).2.1 (TX6 5).2.2.1 ∈ gT := tm 755 (by decide +kernel) (by decide +kernel)
theorem kf_X6_150 : Cond.fieldLink RX6 150 RX6 (TX6 6).2.1 (TX6 6).2.2.1 ∈ gT := tm 756 (by decide +kernel) (by decide +kernel)
theorem kf_X6_115 : Cond.fieldLink RX6 115 RX6 (TX6 7).2.1 (TX6 7).2.2.1 ∈ gT := tm 757 (by decide +kernel) (by decide +kernel)
theorem kf_X6_358 : Cond.fieldLink RX6 358 RX6 (TX6 8).2.1 (TX6 8).2.2.1 ∈ gT := tm 758 (by decide +kernel) (by decide +kernel)
theorem kf_X6_25 : Cond.fieldLink RX6 25 RX6 (TX6 9).2.1 (TX6 9).2.2.1 ∈ gT := tm 759 (by decide +kernel) (by decide +kernel)
theorem kf_X6_29 : Cond.fieldLink RX6 29 RX6 (TX6 10).2.1 (TX6 10).2.2.1 ∈ gT := tm 760 (by decide +kernel) (by decide +kernel)
theorem kf_X6_32 : Cond.fieldLink RX6 32 RX6 (TX6 11).2.1 (TX6 11).2.2.1 ∈ gT := tm 761 (by decide +kernel) (by decide +kernel)
theorem kf_X6_71 : Cond.fieldLink RX6 71 RX6 (TX6 12).2.1 (TX6 12).2.2.1 ∈ gT := tm 762 (by decide +kernel) (by decide +kernel)
theorem kf_X6_208 : Cond.fieldLink RX6 208 RX6 (TX6 13).2.1 (TX6 13).2.2.1 ∈ gT := tm 763 (by decide +kernel) (by decide +kernel)
theorem kf_X6_211 : Cond.fieldLink RX6 211 RX6 (TX6 14).2.1 (TX6 14).2.2.1 ∈ gT := tm 764 (by decide +kernel) (by decide +kernel)
theorem kf_X6_214 : Cond.fieldLink RX6 214 RX6 (TX6 15).2.1 (TX6 15).2.2.1 ∈ gT := tm 765 (by decide +kernel) (by decide +kernel)
theorem kf_X6_217 : Cond.fieldLink RX6 217 RX6 (TX6 16).2.1 (TX6 16).2.2.1 ∈ gT := tm 766 (by decide +kernel) (by decide +kernel)
theorem kf_X6_220 : Cond.fieldLink RX6 220 RX6 (TX6 17).2.1 (TX6 17).2.2.1 ∈ gT := tm 767 (by decide +kernel) (by decide +kernel)
theorem kf_X6_223 : Cond.fieldLink RX6 223 RX6 (TX6 18).2.1 (TX6 18).2.2.1 ∈ gT := tm 768 (by decide +kernel) (by decide +kernel)
theorem kf_X6_156 : Cond.fieldLink RX6 156 RX6 (TX6 19).2.1 (TX6 19).2.2.1 ∈ gT := tm 769 (by decide +kernel) (by decide +kernel)
theorem kf_X6_153 : Cond.fieldLink RX6 153 RX6 (TX6 20).2.1 (TX6 20).2.2.1 ∈ gT := tm 770 (by decide +kernel) (by decide +kernel)
theorem kf_X6_159 : Cond.fieldLink RX6 159 RX6 (TX6 21).2.1 (TX6 21).2.2.1 ∈ gT := tm 771 (by decide +kernel) (by decide +kernel)
theorem kf_X6_168 : Cond.fieldLink RX6 168 RX6 (TX6 22).2.1 (TX6 22).2.2.1 ∈ gT := tm 772 (by decide +kernel) (by decide +kernel)
theorem kf_X6_165 : Cond.fieldLink RX6 165 RX6 (TX6 23).2.1 (TX6 23).2.2.1 ∈ gT := tm 773 (by decide +kernel) (by decide +kernel)
theorem kf_X6_179 : Cond.fieldLink RX6 179 RX6 (TX6 24).2.1 (TX6 24).2.2.1 ∈ gT := tm 774 (by decide +kernel) (by decide +kernel)
theorem kf_X6_195 : Cond.fieldLink RX6 195 RX6 (TX6 25).2.1 (TX6 25).2.2.1 ∈ gT := tm 775 (by decide +kernel) (by decide +kernel)
theorem kf_X6_184 : Cond.fieldLink RX6 184 RX6 (TX6 26).2.1 (TX6 26).2.2.1 ∈ gT := tm 776 (by decide +kernel) (by decide +kernel)
theorem kf_X6_188 : Cond.fieldLink RX6 188 RX6 (TX6 27).2.1 (TX6 27).2.2.1 ∈ gT := tm 777 (by decide +kernel) (by decide +kernel)
theorem kf_X6_36 : Cond.fieldLink RX6 36 RX6 (TX6 28).2.1 (TX6 28).2.2.1 ∈ gT := tm 778 (by decide +kernel) (by decide +kernel)
theorem kf_X6_39 : Cond.fieldLink RX6 39 RX6 (TX6 29).2.1 (TX6 29).2.2.1 ∈ gT := tm 779 (by decide +kernel) (by decide +kernel)
theorem kf_X6_42 : Cond.fieldLink RX6 42 RX6 (TX6 30).2.1 (TX6 30).2.2.1 ∈ gT := tm 780 (by decide +kernel) (by decide +kernel)
theorem kf_X6_45 : Cond.fieldLink RX6 45 RX6 (TX6 31).2.1 (TX6 31).2.2.1 ∈ gT := tm 781 (by decide +kernel) (by decide +kernel)
theorem kf_X6_48 : Cond.fieldLink RX6 48 RX6 (TX6 32).2.1 (TX6 32).2.2.1 ∈ gT := tm 782 (by decide +kernel) (by decide +kernel)
theorem kf_X6_451 : Cond.fieldLink RX6 451 RX6 (TX6 33).2.1 (TX6 33).2.2.1 ∈ gT := tm 783 (by decide +kernel) (by decide +kernel)
theorem kf_X6_454 : Cond.fieldLink RX6 454 RX6 (TX6 34).2.1 (TX6 34).2.2.1 ∈ gT := tm 784 (by decide +kernel) (by decide +kernel)
theorem kf_X6_457 : Cond.fieldLink RX6 457 RX6 (TX6 35).2.1 (TX6 35).2.2.1 ∈ gT := tm 785 (by decide +kernel) (by decide +kernel)
theorem kf_X6_460 : Cond.fieldLink RX6 460 RX6 (TX6 36).2.1 (TX6 36).2.2.1 ∈ gT := tm 786 (by decide +kernel) (by decide +kernel)
theorem kf_X6_51 : Cond.fieldLink RX6 51 RX6 (TX6 37).2.1 (TX6 37).2.2.1 ∈ gT := tm 787 (by decide +kernel) (by decide +kernel)
theorem kf_X6_55 : Cond.fieldLink RX6 55 RX6 (TX6 38).2.1 (TX6 38).2.2.1 ∈ gT := tm 788 (by decide +kernel) (by decide +kernel)
theorem kf_X6_58 : Cond.fieldLink RX6 58 RX6 (TX6 39).2.1 (TX6 39).2.2.1 ∈ gT := tm 789 (by decide +kernel) (by decide +kernel)
theorem kf_X6_61 : Cond.fieldLink RX6 61 RX6 (TX6 40).2.1 (TX6 40).2.2.1 ∈ gT := tm 790 (by decide +kernel) (by decide +kernel)
theorem ka_874 : Cond.arrayClass .boolean ∈ gT := tm 874 (by decide +kernel) (by decide +kernel)
theorem km_L_17 : Cond.methodLink RL 17 yX6_set ∈ gT := tm 875 (by decide +kernel) (by decide +kernel)
theorem ki_X6_set : Cond.instanceMethod yX6_set ∈ gT := tm 876 (by decide +kernel) (by decide +kernel)
theorem kv_X6_set : Cond.selects RX6 yX6_set yX6_set ∈ gT := tm 877 (by decide +kernel) (by decide +kernel)
theorem kc_X6_set : Cond.code yX6_set cX6_set 5 (some .int) ∈ gT := tm 878 (by decide +kernel) (by decide +kernel)
theorem kk_X6_84 : Cond.constantLong RX6 84 (3) ∈ gT := tm 879 (by decide +kernel) (by decide +kernel)
theorem km_X6_74 : Cond.methodLink RX6 74 yX6_in ∈ gT := tm 880 (by decide +kernel) (by decide +kernel)
theorem ks_X6_in : Cond.static yX6_in ∈ gT := tm 881 (by decide +kernel) (by decide +kernel)
theorem kc_X6_in : Cond.code yX6_in cX6_in 6 (some .boolean) ∈ gT := tm 882 (by decide +kernel) (by decide +kernel)
theorem km_X6_86 : Cond.methodLink RX6 86 yX6_mostOf ∈ gT := tm 883 (by decide +kernel) (by decide +kernel)
theorem ks_X6_mostOf : Cond.static yX6_mostOf ∈ gT := tm 884 (by decide +kernel) (by decide +kernel)
theorem kc_X6_mostOf : Cond.code yX6_mostOf cX6_mostOf 1 (some .int) ∈ gT := tm 885 (by decide +kernel) (by decide +kernel)
theorem km_X6_90 : Cond.methodLink RX6 90 yX6_isOne ∈ gT := tm 886 (by decide +kernel) (by decide +kernel)
theorem ki_X6_isOne : Cond.instanceMethod yX6_isOne ∈ gT := tm 888 (by decide +kernel) (by decide +kernel)
theorem kc_X6_isOne : Cond.code yX6_isOne cX6_isOne 2 (some .boolean) ∈ gT := tm 889 (by decide +kernel) (by decide +kernel)
theorem km_X6_94 : Cond.methodLink RX6 94 yX6_isCell ∈ gT := tm 890 (by decide +kernel) (by decide +kernel)
theorem ks_X6_isCell : Cond.static yX6_isCell ∈ gT := tm 891 (by decide +kernel) (by decide +kernel)
theorem kc_X6_isCell : Cond.code yX6_isCell cX6_isCell 1 (some .boolean) ∈ gT := tm 892 (by decide +kernel) (by decide +kernel)
theorem kk_X6_78 : Cond.constantLong RX6 78 (63) ∈ gT := tm 893 (by decide +kernel) (by decide +kernel)
theorem km_X6_80 : Cond.methodLink RX6 80 yX6_putAll ∈ gT := tm 894 (by decide +kernel) (by decide +kernel)
theorem ki_X6_putAll : Cond.instanceMethod yX6_putAll ∈ gT := tm 896 (by decide +kernel) (by decide +kernel)
theorem kc_X6_putAll : Cond.code yX6_putAll cX6_putAll 4 (some .long) ∈ gT := tm 897 (by decide +kernel) (by decide +kernel)
theorem km_X6_97 : Cond.methodLink RX6 97 yX6_has ∈ gT := tm 898 (by decide +kernel) (by decide +kernel)
theorem ks_X6_has : Cond.static yX6_has ∈ gT := tm 899 (by decide +kernel) (by decide +kernel)
theorem kc_X6_has : Cond.code yX6_has cX6_has 3 (some .boolean) ∈ gT := tm 900 (by decide +kernel) (by decide +kernel)
theorem km_X6_101 : Cond.methodLink RX6 101 yX6_told ∈ gT := tm 901 (by decide +kernel) (by decide +kernel)
theorem ki_X6_told : Cond.instanceMethod yX6_told ∈ gT := tm 902 (by decide +kernel) (by decide +kernel)
theorem kv_X6_told : Cond.selects RX6 yX6_told yX6_told ∈ gT := tm 903 (by decide +kernel) (by decide +kernel)
theorem kc_X6_told : Cond.code yX6_told cX6_told 3 (some .int) ∈ gT := tm 904 (by decide +kernel) (by decide +kernel)
theorem kk_X6_127 : Cond.constantLong RX6 127 (8) ∈ gT := tm 905 (by decide +kernel) (by decide +kernel)
theorem km_X6_129 : Cond.methodLink RX6 129 yX6_holdsOf ∈ gT := tm 906 (by decide +kernel) (by decide +kernel)
theorem ki_X6_holdsOf : Cond.instanceMethod yX6_holdsOf ∈ gT := tm 908 (by decide +kernel) (by decide +kernel)
theorem kc_X6_holdsOf : Cond.code yX6_holdsOf cX6_holdsOf 6 (some .int) ∈ gT := tm 909 (by decide +kernel) (by decide +kernel)
theorem km_X6_365 : Cond.methodLink RX6 365 yX6_says ∈ gT := tm 910 (by decide +kernel) (by decide +kernel)
theorem ki_X6_says : Cond.instanceMethod yX6_says ∈ gT := tm 912 (by decide +kernel) (by decide +kernel)
theorem kc_X6_says : Cond.code yX6_says cX6_says 3 (some .int) ∈ gT := tm 913 (by decide +kernel) (by decide +kernel)
theorem km_X6_138 : Cond.methodLink RX6 138 yX6_bitsOf ∈ gT := tm 914 (by decide +kernel) (by decide +kernel)
theorem ks_X6_bitsOf : Cond.static yX6_bitsOf ∈ gT := tm 915 (by decide +kernel) (by decide +kernel)
theorem kc_X6_bitsOf : Cond.code yX6_bitsOf cX6_bitsOf 5 (some .int) ∈ gT := tm 916 (by decide +kernel) (by decide +kernel)
theorem km_X6_355 : Cond.methodLink RX6 355 yX6_greatest ∈ gT := tm 917 (by decide +kernel) (by decide +kernel)
theorem ks_X6_greatest : Cond.static yX6_greatest ∈ gT := tm 918 (by decide +kernel) (by decide +kernel)
theorem kc_X6_greatest : Cond.code yX6_greatest cX6_greatest 4 (some .int) ∈ gT := tm 919 (by decide +kernel) (by decide +kernel)
theorem km_X6_352 : Cond.methodLink RX6 352 yX6_read ∈ gT := tm 920 (by decide +kernel) (by decide +kernel)
theorem ki_X6_read : Cond.instanceMethod yX6_read ∈ gT := tm 922 (by decide +kernel) (by decide +kernel)
theorem kc_X6_read : Cond.code yX6_read cX6_read 6 (some .int) ∈ gT := tm 923 (by decide +kernel) (by decide +kernel)
theorem km_X6_201 : Cond.methodLink RX6 201 yX6_next ∈ gT := tm 924 (by decide +kernel) (by decide +kernel)
theorem ki_X6_next : Cond.instanceMethod yX6_next ∈ gT := tm 926 (by decide +kernel) (by decide +kernel)
theorem kc_X6_next : Cond.code yX6_next cX6_next 3 none ∈ gT := tm 927 (by decide +kernel) (by decide +kernel)
theorem km_X6_162 : Cond.methodLink RX6 162 yX6_byteAt ∈ gT := tm 928 (by decide +kernel) (by decide +kernel)
theorem ki_X6_byteAt : Cond.instanceMethod yX6_byteAt ∈ gT := tm 930 (by decide +kernel) (by decide +kernel)
theorem kc_X6_byteAt : Cond.code yX6_byteAt cX6_byteAt 2 (some .int) ∈ gT := tm 931 (by decide +kernel) (by decide +kernel)
theorem kk_X6_171 : Cond.constantLong RX6 171 (97) ∈ gT := tm 932 (by decide +kernel) (by decide +kernel)
theorem kk_X6_173 : Cond.constantLong RX6 173 (122) ∈ gT := tm 933 (by decide +kernel) (by decide +kernel)
theorem kk_X6_175 : Cond.constantLong RX6 175 (48) ∈ gT := tm 934 (by decide +kernel) (by decide +kernel)
theorem kk_X6_177 : Cond.constantLong RX6 177 (57) ∈ gT := tm 935 (by decide +kernel) (by decide +kernel)
theorem kk_X6_182 : Cond.constantLong RX6 182 (10) ∈ gT := tm 936 (by decide +kernel) (by decide +kernel)
theorem km_X6_204 : Cond.methodLink RX6 204 yX6_isWord ∈ gT := tm 937 (by decide +kernel) (by decide +kernel)
theorem ki_X6_isWord : Cond.instanceMethod yX6_isWord ∈ gT := tm 939 (by decide +kernel) (by decide +kernel)
theorem kc_X6_isWord : Cond.code yX6_isWord cX6_isWord 9 (some .boolean) ∈ gT := tm 940 (by decide +kernel) (by decide +kernel)
theorem km_X6_191 : Cond.methodLink RX6 191 yX6_isLetter ∈ gT := tm 941 (by decide +kernel) (by decide +kernel)
theorem ki_X6_isLetter : Cond.instanceMethod yX6_isLetter ∈ gT := tm 943 (by decide +kernel) (by decide +kernel)
theorem kc_X6_isLetter : Cond.code yX6_isLetter cX6_isLetter 3 (some .boolean) ∈ gT := tm 944 (by decide +kernel) (by decide +kernel)
theorem km_X6_348 : Cond.methodLink RX6 348 yX6_part ∈ gT := tm 945 (by decide +kernel) (by decide +kernel)
theorem ki_X6_part : Cond.instanceMethod yX6_part ∈ gT := tm 947 (by decide +kernel) (by decide +kernel)
theorem kc_X6_part : Cond.code yX6_part cX6_part 3 (some .int) ∈ gT := tm 948 (by decide +kernel) (by decide +kernel)
theorem km_X6_198 : Cond.methodLink RX6 198 yX6_fail ∈ gT := tm 949 (by decide +kernel) (by decide +kernel)
theorem ki_X6_fail : Cond.instanceMethod yX6_fail ∈ gT := tm 951 (by decide +kernel) (by decide +kernel)
theorem kc_X6_fail : Cond.code yX6_fail cX6_fail 1 none ∈ gT := tm 952 (by decide +kernel) (by decide +kernel)
theorem km_X6_345 : Cond.methodLink RX6 345 yX6_either0 ∈ gT := tm 953 (by decide +kernel) (by decide +kernel)
theorem ki_X6_either0 : Cond.instanceMethod yX6_either0 ∈ gT := tm 955 (by decide +kernel) (by decide +kernel)
theorem kc_X6_either0 : Cond.code yX6_either0 cX6_either0 3 (some .int) ∈ gT := tm 956 (by decide +kernel) (by decide +kernel)
theorem km_X6_342 : Cond.methodLink RX6 342 yX6_both0 ∈ gT := tm 957 (by decide +kernel) (by decide +kernel)
theorem ki_X6_both0 : Cond.instanceMethod yX6_both0 ∈ gT := tm 959 (by decide +kernel) (by decide +kernel)
theorem kc_X6_both0 : Cond.code yX6_both0 cX6_both0 3 (some .int) ∈ gT := tm 960 (by decide +kernel) (by decide +kernel)
theorem km_X6_339 : Cond.methodLink RX6 339 yX6_not0 ∈ gT := tm 961 (by decide +kernel) (by decide +kernel)
theorem ki_X6_not0 : Cond.instanceMethod yX6_not0 ∈ gT := tm 963 (by decide +kernel) (by decide +kernel)
theorem kc_X6_not0 : Cond.code yX6_not0 cX6_not0 4 (some .int) ∈ gT := tm 964 (by decide +kernel) (by decide +kernel)
theorem km_X6_229 : Cond.methodLink RX6 229 yX6_opens ∈ gT := tm 965 (by decide +kernel) (by decide +kernel)
theorem ki_X6_opens : Cond.instanceMethod yX6_opens ∈ gT := tm 967 (by decide +kernel) (by decide +kernel)
theorem kc_X6_opens : Cond.code yX6_opens cX6_opens 1 (some .boolean) ∈ gT := tm 968 (by decide +kernel) (by decide +kernel)
theorem km_X6_321 : Cond.methodLink RX6 321 yX6_not1 ∈ gT := tm 969 (by decide +kernel) (by decide +kernel)
theorem ki_X6_not1 : Cond.instanceMethod yX6_not1 ∈ gT := tm 971 (by decide +kernel) (by decide +kernel)
theorem kc_X6_not1 : Cond.code yX6_not1 cX6_not1 4 (some .int) ∈ gT := tm 972 (by decide +kernel) (by decide +kernel)
theorem km_X6_303 : Cond.methodLink RX6 303 yX6_not2 ∈ gT := tm 973 (by decide +kernel) (by decide +kernel)
theorem ki_X6_not2 : Cond.instanceMethod yX6_not2 ∈ gT := tm 975 (by decide +kernel) (by decide +kernel)
theorem kc_X6_not2 : Cond.code yX6_not2 cX6_not2 4 (some .int) ∈ gT := tm 976 (by decide +kernel) (by decide +kernel)
theorem km_X6_285 : Cond.methodLink RX6 285 yX6_not3 ∈ gT := tm 977 (by decide +kernel) (by decide +kernel)
theorem ki_X6_not3 : Cond.instanceMethod yX6_not3 ∈ gT := tm 979 (by decide +kernel) (by decide +kernel)
theorem kc_X6_not3 : Cond.code yX6_not3 cX6_not3 4 (some .int) ∈ gT := tm 980 (by decide +kernel) (by decide +kernel)
theorem km_X6_267 : Cond.methodLink RX6 267 yX6_not4 ∈ gT := tm 981 (by decide +kernel) (by decide +kernel)
theorem ki_X6_not4 : Cond.instanceMethod yX6_not4 ∈ gT := tm 983 (by decide +kernel) (by decide +kernel)
theorem kc_X6_not4 : Cond.code yX6_not4 cX6_not4 4 (some .int) ∈ gT := tm 984 (by decide +kernel) (by decide +kernel)
theorem km_X6_249 : Cond.methodLink RX6 249 yX6_not5 ∈ gT := tm 985 (by decide +kernel) (by decide +kernel)
theorem ki_X6_not5 : Cond.instanceMethod yX6_not5 ∈ gT := tm 987 (by decide +kernel) (by decide +kernel)
theorem kc_X6_not5 : Cond.code yX6_not5 cX6_not5 4 (some .int) ∈ gT := tm 988 (by decide +kernel) (by decide +kernel)
theorem km_X6_244 : Cond.methodLink RX6 244 yX6_added5 ∈ gT := tm 989 (by decide +kernel) (by decide +kernel)
theorem ki_X6_added5 : Cond.instanceMethod yX6_added5 ∈ gT := tm 991 (by decide +kernel) (by decide +kernel)
theorem kc_X6_added5 : Cond.code yX6_added5 cX6_added5 4 (some .int) ∈ gT := tm 992 (by decide +kernel) (by decide +kernel)
theorem km_X6_239 : Cond.methodLink RX6 239 yX6_term5 ∈ gT := tm 993 (by decide +kernel) (by decide +kernel)
theorem ki_X6_term5 : Cond.instanceMethod yX6_term5 ∈ gT := tm 995 (by decide +kernel) (by decide +kernel)
theorem kc_X6_term5 : Cond.code yX6_term5 cX6_term5 2 (some .int) ∈ gT := tm 996 (by decide +kernel) (by decide +kernel)
theorem km_X6_236 : Cond.methodLink RX6 236 yX6_atom5 ∈ gT := tm 997 (by decide +kernel) (by decide +kernel)
theorem ki_X6_atom5 : Cond.instanceMethod yX6_atom5 ∈ gT := tm 999 (by decide +kernel) (by decide +kernel)
theorem kc_X6_atom5 : Cond.code yX6_atom5 cX6_atom5 2 (some .int) ∈ gT := tm 1000 (by decide +kernel) (by decide +kernel)
theorem km_X6_226 : Cond.methodLink RX6 226 yX6_isSign ∈ gT := tm 1001 (by decide +kernel) (by decide +kernel)
theorem ki_X6_isSign : Cond.instanceMethod yX6_isSign ∈ gT := tm 1003 (by decide +kernel) (by decide +kernel)
theorem kc_X6_isSign : Cond.code yX6_isSign cX6_isSign 2 (some .boolean) ∈ gT := tm 1004 (by decide +kernel) (by decide +kernel)
theorem km_X6_233 : Cond.methodLink RX6 233 yX6_name ∈ gT := tm 1005 (by decide +kernel) (by decide +kernel)
theorem ki_X6_name : Cond.instanceMethod yX6_name ∈ gT := tm 1007 (by decide +kernel) (by decide +kernel)
theorem kc_X6_name : Cond.code yX6_name cX6_name 1 (some .int) ∈ gT := tm 1008 (by decide +kernel) (by decide +kernel)
theorem kk_X6_242 : Cond.constantLong RX6 242 (43) ∈ gT := tm 1009 (by decide +kernel) (by decide +kernel)
theorem kk_X6_247 : Cond.constantLong RX6 247 (60) ∈ gT := tm 1010 (by decide +kernel) (by decide +kernel)
theorem km_X6_264 : Cond.methodLink RX6 264 yX6_added4 ∈ gT := tm 1011 (by decide +kernel) (by decide +kernel)
theorem ki_X6_added4 : Cond.instanceMethod yX6_added4 ∈ gT := tm 1013 (by decide +kernel) (by decide +kernel)
theorem kc_X6_added4 : Cond.code yX6_added4 cX6_added4 4 (some .int) ∈ gT := tm 1014 (by decide +kernel) (by decide +kernel)
theorem km_X6_261 : Cond.methodLink RX6 261 yX6_term4 ∈ gT := tm 1015 (by decide +kernel) (by decide +kernel)
theorem ki_X6_term4 : Cond.instanceMethod yX6_term4 ∈ gT := tm 1017 (by decide +kernel) (by decide +kernel)
theorem kc_X6_term4 : Cond.code yX6_term4 cX6_term4 2 (some .int) ∈ gT := tm 1018 (by decide +kernel) (by decide +kernel)
theorem km_X6_258 : Cond.methodLink RX6 258 yX6_atom4 ∈ gT := tm 1019 (by decide +kernel) (by decide +kernel)
theorem ki_X6_atom4 : Cond.instanceMethod yX6_atom4 ∈ gT := tm 1021 (by decide +kernel) (by decide +kernel)
theorem kc_X6_atom4 : Cond.code yX6_atom4 cX6_atom4 2 (some .int) ∈ gT := tm 1022 (by decide +kernel) (by decide +kernel)
theorem km_X6_255 : Cond.methodLink RX6 255 yX6_either5 ∈ gT := tm 1023 (by decide +kernel) (by decide +kernel)
theorem ki_X6_either5 : Cond.instanceMethod yX6_either5 ∈ gT := tm 1025 (by decide +kernel) (by decide +kernel)
theorem kc_X6_either5 : Cond.code yX6_either5 cX6_either5 3 (some .int) ∈ gT := tm 1026 (by decide +kernel) (by decide +kernel)
theorem km_X6_252 : Cond.methodLink RX6 252 yX6_both5 ∈ gT := tm 1027 (by decide +kernel) (by decide +kernel)
theorem ki_X6_both5 : Cond.instanceMethod yX6_both5 ∈ gT := tm 1029 (by decide +kernel) (by decide +kernel)
theorem kc_X6_both5 : Cond.code yX6_both5 cX6_both5 3 (some .int) ∈ gT := tm 1030 (by decide +kernel) (by decide +kernel)
theorem km_X6_282 : Cond.methodLink RX6 282 yX6_added3 ∈ gT := tm 1031 (by decide +kernel) (by decide +kernel)
theorem ki_X6_added3 : Cond.instanceMethod yX6_added3 ∈ gT := tm 1033 (by decide +kernel) (by decide +kernel)
theorem kc_X6_added3 : Cond.code yX6_added3 cX6_added3 4 (some .int) ∈ gT := tm 1034 (by decide +kernel) (by decide +kernel)
theorem km_X6_279 : Cond.methodLink RX6 279 yX6_term3 ∈ gT := tm 1035 (by decide +kernel) (by decide +kernel)
theorem ki_X6_term3 : Cond.instanceMethod yX6_term3 ∈ gT := tm 1037 (by decide +kernel) (by decide +kernel)
theorem kc_X6_term3 : Cond.code yX6_term3 cX6_term3 2 (some .int) ∈ gT := tm 1038 (by decide +kernel) (by decide +kernel)
theorem km_X6_276 : Cond.methodLink RX6 276 yX6_atom3 ∈ gT := tm 1039 (by decide +kernel) (by decide +kernel)
theorem ki_X6_atom3 : Cond.instanceMethod yX6_atom3 ∈ gT := tm 1041 (by decide +kernel) (by decide +kernel)
theorem kc_X6_atom3 : Cond.code yX6_atom3 cX6_atom3 2 (some .int) ∈ gT := tm 1042 (by decide +kernel) (by decide +kernel)
theorem km_X6_273 : Cond.methodLink RX6 273 yX6_either4 ∈ gT := tm 1043 (by decide +kernel) (by decide +kernel)
theorem ki_X6_either4 : Cond.instanceMethod yX6_either4 ∈ gT := tm 1045 (by decide +kernel) (by decide +kernel)
theorem kc_X6_either4 : Cond.code yX6_either4 cX6_either4 3 (some .int) ∈ gT := tm 1046 (by decide +kernel) (by decide +kernel)
theorem km_X6_270 : Cond.methodLink RX6 270 yX6_both4 ∈ gT := tm 1047 (by decide +kernel) (by decide +kernel)
theorem ki_X6_both4 : Cond.instanceMethod yX6_both4 ∈ gT := tm 1049 (by decide +kernel) (by decide +kernel)
theorem kc_X6_both4 : Cond.code yX6_both4 cX6_both4 3 (some .int) ∈ gT := tm 1050 (by decide +kernel) (by decide +kernel)
theorem km_X6_300 : Cond.methodLink RX6 300 yX6_added2 ∈ gT := tm 1051 (by decide +kernel) (by decide +kernel)
theorem ki_X6_added2 : Cond.instanceMethod yX6_added2 ∈ gT := tm 1053 (by decide +kernel) (by decide +kernel)
theorem kc_X6_added2 : Cond.code yX6_added2 cX6_added2 4 (some .int) ∈ gT := tm 1054 (by decide +kernel) (by decide +kernel)
theorem km_X6_297 : Cond.methodLink RX6 297 yX6_term2 ∈ gT := tm 1055 (by decide +kernel) (by decide +kernel)
theorem ki_X6_term2 : Cond.instanceMethod yX6_term2 ∈ gT := tm 1057 (by decide +kernel) (by decide +kernel)
theorem kc_X6_term2 : Cond.code yX6_term2 cX6_term2 2 (some .int) ∈ gT := tm 1058 (by decide +kernel) (by decide +kernel)
theorem km_X6_294 : Cond.methodLink RX6 294 yX6_atom2 ∈ gT := tm 1059 (by decide +kernel) (by decide +kernel)
theorem ki_X6_atom2 : Cond.instanceMethod yX6_atom2 ∈ gT := tm 1061 (by decide +kernel) (by decide +kernel)
theorem kc_X6_atom2 : Cond.code yX6_atom2 cX6_atom2 2 (some .int) ∈ gT := tm 1062 (by decide +kernel) (by decide +kernel)
theorem km_X6_291 : Cond.methodLink RX6 291 yX6_either3 ∈ gT := tm 1063 (by decide +kernel) (by decide +kernel)
theorem ki_X6_either3 : Cond.instanceMethod yX6_either3 ∈ gT := tm 1065 (by decide +kernel) (by decide +kernel)
theorem kc_X6_either3 : Cond.code yX6_either3 cX6_either3 3 (some .int) ∈ gT := tm 1066 (by decide +kernel) (by decide +kernel)
theorem km_X6_288 : Cond.methodLink RX6 288 yX6_both3 ∈ gT := tm 1067 (by decide +kernel) (by decide +kernel)
theorem ki_X6_both3 : Cond.instanceMethod yX6_both3 ∈ gT := tm 1069 (by decide +kernel) (by decide +kernel)
theorem kc_X6_both3 : Cond.code yX6_both3 cX6_both3 3 (some .int) ∈ gT := tm 1070 (by decide +kernel) (by decide +kernel)
theorem km_X6_318 : Cond.methodLink RX6 318 yX6_added1 ∈ gT := tm 1071 (by decide +kernel) (by decide +kernel)
theorem ki_X6_added1 : Cond.instanceMethod yX6_added1 ∈ gT := tm 1073 (by decide +kernel) (by decide +kernel)
theorem kc_X6_added1 : Cond.code yX6_added1 cX6_added1 4 (some .int) ∈ gT := tm 1074 (by decide +kernel) (by decide +kernel)
theorem km_X6_315 : Cond.methodLink RX6 315 yX6_term1 ∈ gT := tm 1075 (by decide +kernel) (by decide +kernel)
theorem ki_X6_term1 : Cond.instanceMethod yX6_term1 ∈ gT := tm 1077 (by decide +kernel) (by decide +kernel)
theorem kc_X6_term1 : Cond.code yX6_term1 cX6_term1 2 (some .int) ∈ gT := tm 1078 (by decide +kernel) (by decide +kernel)
theorem km_X6_312 : Cond.methodLink RX6 312 yX6_atom1 ∈ gT := tm 1079 (by decide +kernel) (by decide +kernel)
theorem ki_X6_atom1 : Cond.instanceMethod yX6_atom1 ∈ gT := tm 1081 (by decide +kernel) (by decide +kernel)
theorem kc_X6_atom1 : Cond.code yX6_atom1 cX6_atom1 2 (some .int) ∈ gT := tm 1082 (by decide +kernel) (by decide +kernel)
theorem km_X6_309 : Cond.methodLink RX6 309 yX6_either2 ∈ gT := tm 1083 (by decide +kernel) (by decide +kernel)
theorem ki_X6_either2 : Cond.instanceMethod yX6_either2 ∈ gT := tm 1085 (by decide +kernel) (by decide +kernel)
theorem kc_X6_either2 : Cond.code yX6_either2 cX6_either2 3 (some .int) ∈ gT := tm 1086 (by decide +kernel) (by decide +kernel)
theorem km_X6_306 : Cond.methodLink RX6 306 yX6_both2 ∈ gT := tm 1087 (by decide +kernel) (by decide +kernel)
theorem ki_X6_both2 : Cond.instanceMethod yX6_both2 ∈ gT := tm 1089 (by decide +kernel) (by decide +kernel)
theorem kc_X6_both2 : Cond.code yX6_both2 cX6_both2 3 (some .int) ∈ gT := tm 1090 (by decide +kernel) (by decide +kernel)
theorem km_X6_336 : Cond.methodLink RX6 336 yX6_added0 ∈ gT := tm 1091 (by decide +kernel) (by decide +kernel)
theorem ki_X6_added0 : Cond.instanceMethod yX6_added0 ∈ gT := tm 1093 (by decide +kernel) (by decide +kernel)
theorem kc_X6_added0 : Cond.code yX6_added0 cX6_added0 4 (some .int) ∈ gT := tm 1094 (by decide +kernel) (by decide +kernel)
theorem km_X6_333 : Cond.methodLink RX6 333 yX6_term0 ∈ gT := tm 1095 (by decide +kernel) (by decide +kernel)
theorem ki_X6_term0 : Cond.instanceMethod yX6_term0 ∈ gT := tm 1097 (by decide +kernel) (by decide +kernel)
theorem kc_X6_term0 : Cond.code yX6_term0 cX6_term0 2 (some .int) ∈ gT := tm 1098 (by decide +kernel) (by decide +kernel)
theorem km_X6_330 : Cond.methodLink RX6 330 yX6_atom0 ∈ gT := tm 1099 (by decide +kernel) (by decide +kernel)
theorem ki_X6_atom0 : Cond.instanceMethod yX6_atom0 ∈ gT := tm 1101 (by decide +kernel) (by decide +kernel)
theorem kc_X6_atom0 : Cond.code yX6_atom0 cX6_atom0 2 (some .int) ∈ gT := tm 1102 (by decide +kernel) (by decide +kernel)
theorem km_X6_327 : Cond.methodLink RX6 327 yX6_either1 ∈ gT := tm 1103 (by decide +kernel) (by decide +kernel)
theorem ki_X6_either1 : Cond.instanceMethod yX6_either1 ∈ gT := tm 1105 (by decide +kernel) (by decide +kernel)
theorem kc_X6_either1 : Cond.code yX6_either1 cX6_either1 3 (some .int) ∈ gT := tm 1106 (by decide +kernel) (by decide +kernel)
theorem km_X6_324 : Cond.methodLink RX6 324 yX6_both1 ∈ gT := tm 1107 (by decide +kernel) (by decide +kernel)
theorem ki_X6_both1 : Cond.instanceMethod yX6_both1 ∈ gT := tm 1109 (by decide +kernel) (by decide +kernel)
theorem kc_X6_both1 : Cond.code yX6_both1 cX6_both1 3 (some .int) ∈ gT := tm 1110 (by decide +kernel) (by decide +kernel)
theorem km_X6_361 : Cond.methodLink RX6 361 yX6_within ∈ gT := tm 1111 (by decide +kernel) (by decide +kernel)
theorem ks_X6_within : Cond.static yX6_within ∈ gT := tm 1112 (by decide +kernel) (by decide +kernel)
theorem kc_X6_within : Cond.code yX6_within cX6_within 3 (some .int) ∈ gT := tm 1113 (by decide +kernel) (by decide +kernel)
theorem km_X6_132 : Cond.methodLink RX6 132 yX6_fadesOf ∈ gT := tm 1114 (by decide +kernel) (by decide +kernel)
theorem ki_X6_fadesOf : Cond.instanceMethod yX6_fadesOf ∈ gT := tm 1116 (by decide +kernel) (by decide +kernel)
theorem kc_X6_fadesOf : Cond.code yX6_fadesOf cX6_fadesOf 5 (some .int) ∈ gT := tm 1117 (by decide +kernel) (by decide +kernel)
theorem km_X6_135 : Cond.methodLink RX6 135 yX6_costsOf ∈ gT := tm 1118 (by decide +kernel) (by decide +kernel)
theorem ki_X6_costsOf : Cond.instanceMethod yX6_costsOf ∈ gT := tm 1120 (by decide +kernel) (by decide +kernel)
theorem kc_X6_costsOf : Cond.code yX6_costsOf cX6_costsOf 5 (some .int) ∈ gT := tm 1121 (by decide +kernel) (by decide +kernel)
theorem km_X6_142 : Cond.methodLink RX6 142 yX6_whoseIs ∈ gT := tm 1122 (by decide +kernel) (by decide +kernel)
theorem ki_X6_whoseIs : Cond.instanceMethod yX6_whoseIs ∈ gT := tm 1124 (by decide +kernel) (by decide +kernel)
theorem kc_X6_whoseIs : Cond.code yX6_whoseIs cX6_whoseIs 4 (some .int) ∈ gT := tm 1125 (by decide +kernel) (by decide +kernel)
theorem kk_X6_105 : Cond.constantLong RX6 105 (-1) ∈ gT := tm 1126 (by decide +kernel) (by decide +kernel)
theorem km_X6_107 : Cond.methodLink RX6 107 yX6_falls ∈ gT := tm 1127 (by decide +kernel) (by decide +kernel)
theorem ki_X6_falls : Cond.instanceMethod yX6_falls ∈ gT := tm 1129 (by decide +kernel) (by decide +kernel)
theorem kc_X6_falls : Cond.code yX6_falls cX6_falls 5 (some .int) ∈ gT := tm 1130 (by decide +kernel) (by decide +kernel)
theorem km_X6_147 : Cond.methodLink RX6 147 yX6_stands ∈ gT := tm 1131 (by decide +kernel) (by decide +kernel)
theorem ki_X6_stands : Cond.instanceMethod yX6_stands ∈ gT := tm 1133 (by decide +kernel) (by decide +kernel)
theorem kc_X6_stands : Cond.code yX6_stands cX6_stands 1 (some .long) ∈ gT := tm 1134 (by decide +kernel) (by decide +kernel)
theorem km_X6_376 : Cond.methodLink RX6 376 yX6_comeTo ∈ gT := tm 1135 (by decide +kernel) (by decide +kernel)
theorem ks_X6_comeTo : Cond.static yX6_comeTo ∈ gT := tm 1136 (by decide +kernel) (by decide +kernel)
theorem kc_X6_comeTo : Cond.code yX6_comeTo cX6_comeTo 10 (some .long) ∈ gT := tm 1137 (by decide +kernel) (by decide +kernel)
theorem km_X6_372 : Cond.methodLink RX6 372 yX6_beside ∈ gT := tm 1138 (by decide +kernel) (by decide +kernel)
theorem ks_X6_beside : Cond.static yX6_beside ∈ gT := tm 1139 (by decide +kernel) (by decide +kernel)
theorem kc_X6_beside : Cond.code yX6_beside cX6_beside 2 (some .long) ∈ gT := tm 1140 (by decide +kernel) (by decide +kernel)
theorem kk_X6_368 : Cond.constantLong RX6 368 (9187201950435737471) ∈ gT := tm 1141 (by decide +kernel) (by decide +kernel)
theorem kk_X6_370 : Cond.constantLong RX6 370 (-72340172838076674) ∈ gT := tm 1142 (by decide +kernel) (by decide +kernel)
theorem km_X6_111 : Cond.methodLink RX6 111 yX6_lays ∈ gT := tm 1143 (by decide +kernel) (by decide +kernel)
theorem ki_X6_lays : Cond.instanceMethod yX6_lays ∈ gT := tm 1145 (by decide +kernel) (by decide +kernel)
theorem kc_X6_lays : Cond.code yX6_lays cX6_lays 4 none ∈ gT := tm 1146 (by decide +kernel) (by decide +kernel)
theorem km_L_21 : Cond.methodLink RL 21 yX6_regret ∈ gT := tm 1147 (by decide +kernel) (by decide +kernel)
theorem ki_X6_regret : Cond.instanceMethod yX6_regret ∈ gT := tm 1148 (by decide +kernel) (by decide +kernel)
theorem kv_X6_regret : Cond.selects RX6 yX6_regret yX6_regret ∈ gT := tm 1149 (by decide +kernel) (by decide +kernel)
theorem kc_X6_regret : Cond.code yX6_regret cX6_regret 4 (some .int) ∈ gT := tm 1150 (by decide +kernel) (by decide +kernel)
theorem kk_X6_121 : Cond.constantLong RX6 121 (5) ∈ gT := tm 1151 (by decide +kernel) (by decide +kernel)
theorem kk_X6_123 : Cond.constantLong RX6 123 (9) ∈ gT := tm 1152 (by decide +kernel) (by decide +kernel)
theorem kk_X6_125 : Cond.constantLong RX6 125 (99) ∈ gT := tm 1153 (by decide +kernel) (by decide +kernel)
theorem km_L_26 : Cond.methodLink RL 26 yX6_told ∈ gT := tm 1154 (by decide +kernel) (by decide +kernel)
theorem km_L_31 : Cond.methodLink RL 31 yX6_wall ∈ gT := tm 1155 (by decide +kernel) (by decide +kernel)
theorem ki_X6_wall : Cond.instanceMethod yX6_wall ∈ gT := tm 1156 (by decide +kernel) (by decide +kernel)
theorem kv_X6_wall : Cond.selects RX6 yX6_wall yX6_wall ∈ gT := tm 1157 (by decide +kernel) (by decide +kernel)
theorem kc_X6_wall : Cond.code yX6_wall cX6_wall 2 (some .long) ∈ gT := tm 1158 (by decide +kernel) (by decide +kernel)
theorem kk_X6_145 : Cond.constantLong RX6 145 (-4611686018427387904) ∈ gT := tm 1159 (by decide +kernel) (by decide +kernel)
theorem km_L_36 : Cond.methodLink RL 36 yX6_feed ∈ gT := tm 1160 (by decide +kernel) (by decide +kernel)
theorem ki_X6_feed : Cond.instanceMethod yX6_feed ∈ gT := tm 1161 (by decide +kernel) (by decide +kernel)
theorem kv_X6_feed : Cond.selects RX6 yX6_feed yX6_feed ∈ gT := tm 1162 (by decide +kernel) (by decide +kernel)
theorem kc_X6_feed : Cond.code yX6_feed cX6_feed 2 (some .int) ∈ gT := tm 1163 (by decide +kernel) (by decide +kernel)
theorem km_L_41 : Cond.methodLink RL 41 yX6_text ∈ gT := tm 1164 (by decide +kernel) (by decide +kernel)
theorem ki_X6_text : Cond.instanceMethod yX6_text ∈ gT := tm 1165 (by decide +kernel) (by decide +kernel)
theorem kv_X6_text : Cond.selects RX6 yX6_text yX6_text ∈ gT := tm 1166 (by decide +kernel) (by decide +kernel)
theorem kc_X6_text : Cond.code yX6_text cX6_text 2 (some .int) ∈ gT := tm 1167 (by decide +kernel) (by decide +kernel)
theorem km_L_45 : Cond.methodLink RL 45 yX6_force ∈ gT := tm 1168 (by decide +kernel) (by decide +kernel)
theorem ki_X6_force : Cond.instanceMethod yX6_force ∈ gT := tm 1169 (by decide +kernel) (by decide +kernel)
theorem kv_X6_force : Cond.selects RX6 yX6_force yX6_force ∈ gT := tm 1170 (by decide +kernel) (by decide +kernel)
theorem kc_X6_force : Cond.code yX6_force cX6_force 3 (some .int) ∈ gT := tm 1171 (by decide +kernel) (by decide +kernel)
theorem km_L_53 : Cond.methodLink RL 53 yX6_fell ∈ gT := tm 1172 (by decide +kernel) (by decide +kernel)
theorem ki_X6_fell : Cond.instanceMethod yX6_fell ∈ gT := tm 1173 (by decide +kernel) (by decide +kernel)
theorem kv_X6_fell : Cond.selects RX6 yX6_fell yX6_fell ∈ gT := tm 1174 (by decide +kernel) (by decide +kernel)
theorem kc_X6_fell : Cond.code yX6_fell cX6_fell 2 (some .int) ∈ gT := tm 1175 (by decide +kernel) (by decide +kernel)
theorem km_X6_380 : Cond.methodLink RX6 380 yX6_felled ∈ gT := tm 1176 (by decide +kernel) (by decide +kernel)
theorem ki_X6_felled : Cond.instanceMethod yX6_felled ∈ gT := tm 1178 (by decide +kernel) (by decide +kernel)
theorem kc_X6_felled : Cond.code yX6_felled cX6_felled 3 (some .int) ∈ gT := tm 1179 (by decide +kernel) (by decide +kernel)
theorem km_L_49 : Cond.methodLink RL 49 yX6_raise ∈ gT := tm 1180 (by decide +kernel) (by decide +kernel)
theorem ki_X6_raise : Cond.instanceMethod yX6_raise ∈ gT := tm 1181 (by decide +kernel) (by decide +kernel)
theorem kv_X6_raise : Cond.selects RX6 yX6_raise yX6_raise ∈ gT := tm 1182 (by decide +kernel) (by decide +kernel)
theorem kc_X6_raise : Cond.code yX6_raise cX6_raise 6 (some .int) ∈ gT := tm 1183 (by decide +kernel) (by decide +kernel)
theorem km_X6_391 : Cond.methodLink RX6 391 yX6_partAt ∈ gT := tm 1184 (by decide +kernel) (by decide +kernel)
theorem ks_X6_partAt : Cond.static yX6_partAt ∈ gT := tm 1185 (by decide +kernel) (by decide +kernel)
theorem kc_X6_partAt : Cond.code yX6_partAt cX6_partAt 8 (some .long) ∈ gT := tm 1186 (by decide +kernel) (by decide +kernel)
theorem kk_X6_383 : Cond.constantLong RX6 383 (515) ∈ gT := tm 1187 (by decide +kernel) (by decide +kernel)
theorem kk_X6_385 : Cond.constantLong RX6 385 (7) ∈ gT := tm 1188 (by decide +kernel) (by decide +kernel)
theorem kk_X6_387 : Cond.constantLong RX6 387 (65793) ∈ gT := tm 1189 (by decide +kernel) (by decide +kernel)
theorem kk_X6_389 : Cond.constantLong RX6 389 (771) ∈ gT := tm 1190 (by decide +kernel) (by decide +kernel)
theorem km_X6_395 : Cond.methodLink RX6 395 yX6_can ∈ gT := tm 1191 (by decide +kernel) (by decide +kernel)
theorem ks_X6_can : Cond.static yX6_can ∈ gT := tm 1192 (by decide +kernel) (by decide +kernel)
theorem kc_X6_can : Cond.code yX6_can cX6_can 4 (some .boolean) ∈ gT := tm 1193 (by decide +kernel) (by decide +kernel)
theorem km_L_57 : Cond.methodLink RL 57 yX6_room ∈ gT := tm 1194 (by decide +kernel) (by decide +kernel)
theorem ki_X6_room : Cond.instanceMethod yX6_room ∈ gT := tm 1195 (by decide +kernel) (by decide +kernel)
theorem kv_X6_room : Cond.selects RX6 yX6_room yX6_room ∈ gT := tm 1196 (by decide +kernel) (by decide +kernel)
theorem kc_X6_room : Cond.code yX6_room cX6_room 7 (some .long) ∈ gT := tm 1197 (by decide +kernel) (by decide +kernel)
theorem km_L_61 : Cond.methodLink RL 61 yX6_year ∈ gT := tm 1198 (by decide +kernel) (by decide +kernel)
theorem ki_X6_year : Cond.instanceMethod yX6_year ∈ gT := tm 1199 (by decide +kernel) (by decide +kernel)
theorem kv_X6_year : Cond.selects RX6 yX6_year yX6_year ∈ gT := tm 1200 (by decide +kernel) (by decide +kernel)
theorem kc_X6_year : Cond.code yX6_year cX6_year 1 (some .int) ∈ gT := tm 1201 (by decide +kernel) (by decide +kernel)
theorem km_X6_400 : Cond.methodLink RX6 400 yX6_passes ∈ gT := tm 1202 (by decide +kernel) (by decide +kernel)
theorem ki_X6_passes : Cond.instanceMethod yX6_passes ∈ gT := tm 1204 (by decide +kernel) (by decide +kernel)
theorem kc_X6_passes : Cond.code yX6_passes cX6_passes 5 (some .int) ∈ gT := tm 1205 (by decide +kernel) (by decide +kernel)
theorem kk_X6_399 : Cond.constant RX6 399 (99999) ∈ gT := tm 1206 (by decide +kernel) (by decide +kernel)
theorem km_L_65 : Cond.methodLink RL 65 yX6_run ∈ gT := tm 1207 (by decide +kernel) (by decide +kernel)
theorem ki_X6_run : Cond.instanceMethod yX6_run ∈ gT := tm 1208 (by decide +kernel) (by decide +kernel)
theorem kv_X6_run : Cond.selects RX6 yX6_run yX6_run ∈ gT := tm 1209 (by decide +kernel) (by decide +kernel)
theorem kc_X6_run : Cond.code yX6_run cX6_run 5 (some .int) ∈ gT := tm 1210 (by decide +kernel) (by decide +kernel)
theorem kk_X6_403 : Cond.constantLong RX6 403 (40) ∈ gT := tm 1211 (by decide +kernel) (by decide +kernel)
theorem km_X6_405 : Cond.methodLink RX6 405 yX6_laysAside ∈ gT := tm 1212 (by decide +kernel) (by decide +kernel)
theorem ki_X6_laysAside : Cond.instanceMethod yX6_laysAside ∈ gT := tm 1214 (by decide +kernel) (by decide +kernel)
theorem kc_X6_laysAside : Cond.code yX6_laysAside cX6_laysAside 2 none ∈ gT := tm 1215 (by decide +kernel) (by decide +kernel)
theorem km_X6_408 : Cond.methodLink RX6 408 yX6_go ∈ gT := tm 1216 (by decide +kernel) (by decide +kernel)
theorem ki_X6_go : Cond.instanceMethod yX6_go ∈ gT := tm 1218 (by decide +kernel) (by decide +kernel)
theorem kc_X6_go : Cond.code yX6_go cX6_go 3 none ∈ gT := tm 1219 (by decide +kernel) (by decide +kernel)
theorem km_X6_412 : Cond.methodLink RX6 412 yX6_laysBack ∈ gT := tm 1220 (by decide +kernel) (by decide +kernel)
theorem ki_X6_laysBack : Cond.instanceMethod yX6_laysBack ∈ gT := tm 1222 (by decide +kernel) (by decide +kernel)
theorem kc_X6_laysBack : Cond.code yX6_laysBack cX6_laysBack 2 none ∈ gT := tm 1223 (by decide +kernel) (by decide +kernel)
theorem km_L_69 : Cond.methodLink RL 69 yX6_later ∈ gT := tm 1224 (by decide +kernel) (by decide +kernel)
theorem ki_X6_later : Cond.instanceMethod yX6_later ∈ gT := tm 1225 (by decide +kernel) (by decide +kernel)
theorem kv_X6_later : Cond.selects RX6 yX6_later yX6_later ∈ gT := tm 1226 (by decide +kernel) (by decide +kernel)
theorem kc_X6_later : Cond.code yX6_later cX6_later 4 (some .long) ∈ gT := tm 1227 (by decide +kernel) (by decide +kernel)
theorem km_L_73 : Cond.methodLink RL 73 yX6_walk ∈ gT := tm 1228 (by decide +kernel) (by decide +kernel)
theorem ki_X6_walk : Cond.instanceMethod yX6_walk ∈ gT := tm 1229 (by decide +kernel) (by decide +kernel)
theorem kv_X6_walk : Cond.selects RX6 yX6_walk yX6_walk ∈ gT := tm 1230 (by decide +kernel) (by decide +kernel)
theorem kc_X6_walk : Cond.code yX6_walk cX6_walk 6 (some .int) ∈ gT := tm 1231 (by decide +kernel) (by decide +kernel)
theorem km_L_78 : Cond.methodLink RL 78 yX6_round ∈ gT := tm 1232 (by decide +kernel) (by decide +kernel)
theorem ki_X6_round : Cond.instanceMethod yX6_round ∈ gT := tm 1233 (by decide +kernel) (by decide +kernel)
theorem kv_X6_round : Cond.selects RX6 yX6_round yX6_round ∈ gT := tm 1234 (by decide +kernel) (by decide +kernel)
theorem kc_X6_round : Cond.code yX6_round cX6_round 3 (some .long) ∈ gT := tm 1235 (by decide +kernel) (by decide +kernel)
theorem km_L_82 : Cond.methodLink RL 82 yX6_reach ∈ gT := tm 1236 (by decide +kernel) (by decide +kernel)
theorem ki_X6_reach : Cond.instanceMethod yX6_reach ∈ gT := tm 1237 (by decide +kernel) (by decide +kernel)
theorem kv_X6_reach : Cond.selects RX6 yX6_reach yX6_reach ∈ gT := tm 1238 (by decide +kernel) (by decide +kernel)
theorem kc_X6_reach : Cond.code yX6_reach cX6_reach 4 (some .int) ∈ gT := tm 1239 (by decide +kernel) (by decide +kernel)
theorem km_X6_415 : Cond.methodLink RX6 415 yX6_byOne ∈ gT := tm 1240 (by decide +kernel) (by decide +kernel)
theorem ks_X6_byOne : Cond.static yX6_byOne ∈ gT := tm 1241 (by decide +kernel) (by decide +kernel)
theorem kc_X6_byOne : Cond.code yX6_byOne cX6_byOne 6 (some .boolean) ∈ gT := tm 1242 (by decide +kernel) (by decide +kernel)
theorem km_X6_419 : Cond.methodLink RX6 419 yX6_byTwo ∈ gT := tm 1243 (by decide +kernel) (by decide +kernel)
theorem ks_X6_byTwo : Cond.static yX6_byTwo ∈ gT := tm 1244 (by decide +kernel) (by decide +kernel)
theorem kc_X6_byTwo : Cond.code yX6_byTwo cX6_byTwo 6 (some .boolean) ∈ gT := tm 1245 (by decide +kernel) (by decide +kernel)
theorem km_L_86 : Cond.methodLink RL 86 yX6_key ∈ gT := tm 1246 (by decide +kernel) (by decide +kernel)
theorem ki_X6_key : Cond.instanceMethod yX6_key ∈ gT := tm 1247 (by decide +kernel) (by decide +kernel)
theorem kv_X6_key : Cond.selects RX6 yX6_key yX6_key ∈ gT := tm 1248 (by decide +kernel) (by decide +kernel)
theorem kc_X6_key : Cond.code yX6_key cX6_key 10 (some .int) ∈ gT := tm 1249 (by decide +kernel) (by decide +kernel)
theorem km_L_90 : Cond.methodLink RL 90 yX6_add ∈ gT := tm 1250 (by decide +kernel) (by decide +kernel)
theorem ki_X6_add : Cond.instanceMethod yX6_add ∈ gT := tm 1251 (by decide +kernel) (by decide +kernel)
theorem kv_X6_add : Cond.selects RX6 yX6_add yX6_add ∈ gT := tm 1252 (by decide +kernel) (by decide +kernel)
theorem kc_X6_add : Cond.code yX6_add cX6_add 12 (some .int) ∈ gT := tm 1253 (by decide +kernel) (by decide +kernel)
theorem kk_X6_422 : Cond.constantLong RX6 422 (20) ∈ gT := tm 1254 (by decide +kernel) (by decide +kernel)
theorem km_X6_424 : Cond.methodLink RX6 424 yX6_putBehind ∈ gT := tm 1255 (by decide +kernel) (by decide +kernel)
theorem ki_X6_putBehind : Cond.instanceMethod yX6_putBehind ∈ gT := tm 1257 (by decide +kernel) (by decide +kernel)
theorem kc_X6_putBehind : Cond.code yX6_putBehind cX6_putBehind 6 (some .int) ∈ gT := tm 1258 (by decide +kernel) (by decide +kernel)
theorem km_L_94 : Cond.methodLink RL 94 yX6_share ∈ gT := tm 1259 (by decide +kernel) (by decide +kernel)
theorem ki_X6_share : Cond.instanceMethod yX6_share ∈ gT := tm 1260 (by decide +kernel) (by decide +kernel)
theorem kv_X6_share : Cond.selects RX6 yX6_share yX6_share ∈ gT := tm 1261 (by decide +kernel) (by decide +kernel)
theorem kc_X6_share : Cond.code yX6_share cX6_share 3 (some .long) ∈ gT := tm 1262 (by decide +kernel) (by decide +kernel)
theorem km_X6_428 : Cond.methodLink RX6 428 yX6_lowest ∈ gT := tm 1263 (by decide +kernel) (by decide +kernel)
theorem ks_X6_lowest : Cond.static yX6_lowest ∈ gT := tm 1264 (by decide +kernel) (by decide +kernel)
theorem kc_X6_lowest : Cond.code yX6_lowest cX6_lowest 11 (some .long) ∈ gT := tm 1265 (by decide +kernel) (by decide +kernel)
theorem km_L_98 : Cond.methodLink RL 98 yX6_tells ∈ gT := tm 1266 (by decide +kernel) (by decide +kernel)
theorem ki_X6_tells : Cond.instanceMethod yX6_tells ∈ gT := tm 1267 (by decide +kernel) (by decide +kernel)
theorem kv_X6_tells : Cond.selects RX6 yX6_tells yX6_tells ∈ gT := tm 1268 (by decide +kernel) (by decide +kernel)
theorem kc_X6_tells : Cond.code yX6_tells cX6_tells 11 (some .int) ∈ gT := tm 1269 (by decide +kernel) (by decide +kernel)
theorem km_X6_434 : Cond.methodLink RX6 434 yX6_isSheet ∈ gT := tm 1270 (by decide +kernel) (by decide +kernel)
theorem ks_X6_isSheet : Cond.static yX6_isSheet ∈ gT := tm 1271 (by decide +kernel) (by decide +kernel)
theorem kc_X6_isSheet : Cond.code yX6_isSheet cX6_isSheet 1 (some .boolean) ∈ gT := tm 1272 (by decide +kernel) (by decide +kernel)
theorem kk_X6_437 : Cond.constantLong RX6 437 (6) ∈ gT := tm 1273 (by decide +kernel) (by decide +kernel)
theorem km_X6_431 : Cond.methodLink RX6 431 yX6_firstOther ∈ gT := tm 1274 (by decide +kernel) (by decide +kernel)
theorem ki_X6_firstOther : Cond.instanceMethod yX6_firstOther ∈ gT := tm 1276 (by decide +kernel) (by decide +kernel)
theorem kc_X6_firstOther : Cond.code yX6_firstOther cX6_firstOther 5 (some .int) ∈ gT := tm 1277 (by decide +kernel) (by decide +kernel)
theorem km_X6_439 : Cond.methodLink RX6 439 yX6_likeSet ∈ gT := tm 1278 (by decide +kernel) (by decide +kernel)
theorem ki_X6_likeSet : Cond.instanceMethod yX6_likeSet ∈ gT := tm 1280 (by decide +kernel) (by decide +kernel)
theorem kc_X6_likeSet : Cond.code yX6_likeSet cX6_likeSet 4 (some .int) ∈ gT := tm 1281 (by decide +kernel) (by decide +kernel)
theorem km_L_102 : Cond.methodLink RL 102 yX6_film ∈ gT := tm 1282 (by decide +kernel) (by decide +kernel)
theorem ki_X6_film : Cond.instanceMethod yX6_film ∈ gT := tm 1283 (by decide +kernel) (by decide +kernel)
theorem kv_X6_film : Cond.selects RX6 yX6_film yX6_film ∈ gT := tm 1284 (by decide +kernel) (by decide +kernel)
theorem kc_X6_film : Cond.code yX6_film cX6_film 5 (some .int) ∈ gT := tm 1285 (by decide +kernel) (by decide +kernel)
theorem km_X6_442 : Cond.methodLink RX6 442 yX6_sheet ∈ gT := tm 1286 (by decide +kernel) (by decide +kernel)
theorem ki_X6_sheet : Cond.instanceMethod yX6_sheet ∈ gT := tm 1287 (by decide +kernel) (by decide +kernel)
theorem kv_X6_sheet : Cond.selects RX6 yX6_sheet yX6_sheet ∈ gT := tm 1288 (by decide +kernel) (by decide +kernel)
theorem kc_X6_sheet : Cond.code yX6_sheet cX6_sheet 5 (some .int) ∈ gT := tm 1289 (by decide +kernel) (by decide +kernel)
theorem kk_X6_463 : Cond.constantLong RX6 463 (2) ∈ gT := tm 1290 (by decide +kernel) (by decide +kernel)
theorem km_L_106 : Cond.methodLink RL 106 yX6_drawn ∈ gT := tm 1291 (by decide +kernel) (by decide +kernel)
theorem ki_X6_drawn : Cond.instanceMethod yX6_drawn ∈ gT := tm 1292 (by decide +kernel) (by decide +kernel)
theorem kv_X6_drawn : Cond.selects RX6 yX6_drawn yX6_drawn ∈ gT := tm 1293 (by decide +kernel) (by decide +kernel)
theorem kc_X6_drawn : Cond.code yX6_drawn cX6_drawn 3 (some .int) ∈ gT := tm 1294 (by decide +kernel) (by decide +kernel)
theorem km_X6_446 : Cond.methodLink RX6 446 yX6_putDrawn ∈ gT := tm 1295 (by decide +kernel) (by decide +kernel)
theorem ki_X6_putDrawn : Cond.instanceMethod yX6_putDrawn ∈ gT := tm 1297 (by decide +kernel) (by decide +kernel)
theorem kc_X6_putDrawn : Cond.code yX6_putDrawn cX6_putDrawn 6 (some .int) ∈ gT := tm 1298 (by decide +kernel) (by decide +kernel)
theorem kk_X6_445 : Cond.constant RX6 445 (1103515245) ∈ gT := tm 1299 (by decide +kernel) (by decide +kernel)
theorem km_L_111 : Cond.methodLink RL 111 yX6_chance ∈ gT := tm 1300 (by decide +kernel) (by decide +kernel)
theorem ki_X6_chance : Cond.instanceMethod yX6_chance ∈ gT := tm 1301 (by decide +kernel) (by decide +kernel)
theorem kv_X6_chance : Cond.selects RX6 yX6_chance yX6_chance ∈ gT := tm 1302 (by decide +kernel) (by decide +kernel)
theorem kc_X6_chance : Cond.code yX6_chance cX6_chance 8 (some .long) ∈ gT := tm 1303 (by decide +kernel) (by decide +kernel)
theorem kk_X6_449 : Cond.constantLong RX6 449 (64) ∈ gT := tm 1304 (by decide +kernel) (by decide +kernel)
theorem km_L_115 : Cond.methodLink RL 115 yX6_image ∈ gT := tm 1305 (by decide +kernel) (by decide +kernel)
theorem ki_X6_image : Cond.instanceMethod yX6_image ∈ gT := tm 1306 (by decide +kernel) (by decide +kernel)
theorem kv_X6_image : Cond.selects RX6 yX6_image yX6_image ∈ gT := tm 1307 (by decide +kernel) (by decide +kernel)
theorem kc_X6_image : Cond.code yX6_image cX6_image 2 (some .int) ∈ gT := tm 1308 (by decide +kernel) (by decide +kernel)
theorem km_L_119 : Cond.methodLink RL 119 yX6_back ∈ gT := tm 1309 (by decide +kernel) (by decide +kernel)
theorem ki_X6_back : Cond.instanceMethod yX6_back ∈ gT := tm 1310 (by decide +kernel) (by decide +kernel)
theorem kv_X6_back : Cond.selects RX6 yX6_back yX6_back ∈ gT := tm 1311 (by decide +kernel) (by decide +kernel)
theorem kc_X6_back : Cond.code yX6_back cX6_back 2 (some .int) ∈ gT := tm 1312 (by decide +kernel) (by decide +kernel)
theorem km_L_123 : Cond.methodLink RL 123 yX6_count ∈ gT := tm 1313 (by decide +kernel) (by decide +kernel)
theorem ki_X6_count : Cond.instanceMethod yX6_count ∈ gT := tm 1314 (by decide +kernel) (by decide +kernel)
theorem kv_X6_count : Cond.selects RX6 yX6_count yX6_count ∈ gT := tm 1315 (by decide +kernel) (by decide +kernel)
theorem kc_X6_count : Cond.code yX6_count cX6_count 2 (some .int) ∈ gT := tm 1316 (by decide +kernel) (by decide +kernel)
theorem km_L_127 : Cond.methodLink RL 127 yX6_sheet ∈ gT := tm 1317 (by decide +kernel) (by decide +kernel)
theorem km_L_131 : Cond.methodLink RL 131 yX6_cell ∈ gT := tm 1318 (by decide +kernel) (by decide +kernel)
theorem ki_X6_cell : Cond.instanceMethod yX6_cell ∈ gT := tm 1319 (by decide +kernel) (by decide +kernel)
theorem kv_X6_cell : Cond.selects RX6 yX6_cell yX6_cell ∈ gT := tm 1320 (by decide +kernel) (by decide +kernel)
theorem kc_X6_cell : Cond.code yX6_cell cX6_cell 4 (some .int) ∈ gT := tm 1321 (by decide +kernel) (by decide +kernel)
theorem km_L_136 : Cond.methodLink RL 136 yX6_copy ∈ gT := tm 1322 (by decide +kernel) (by decide +kernel)
theorem ki_X6_copy : Cond.instanceMethod yX6_copy ∈ gT := tm 1323 (by decide +kernel) (by decide +kernel)
theorem kv_X6_copy : Cond.selects RX6 yX6_copy yX6_copy ∈ gT := tm 1324 (by decide +kernel) (by decide +kernel)
theorem kc_X6_copy : Cond.code yX6_copy cX6_copy 9 (some .int) ∈ gT := tm 1325 (by decide +kernel) (by decide +kernel)
theorem km_L_141 : Cond.methodLink RL 141 yX6_bag ∈ gT := tm 1326 (by decide +kernel) (by decide +kernel)
theorem ki_X6_bag : Cond.instanceMethod yX6_bag ∈ gT := tm 1327 (by decide +kernel) (by decide +kernel)
theorem kv_X6_bag : Cond.selects RX6 yX6_bag yX6_bag ∈ gT := tm 1328 (by decide +kernel) (by decide +kernel)
theorem kc_X6_bag : Cond.code yX6_bag cX6_bag 8 (some .int) ∈ gT := tm 1329 (by decide +kernel) (by decide +kernel)
theorem km_X6_465 : Cond.methodLink RX6 465 yX6_regret ∈ gT := tm 1330 (by decide +kernel) (by decide +kernel)
theorem km_L_145 : Cond.methodLink RL 145 yX6_taken ∈ gT := tm 1331 (by decide +kernel) (by decide +kernel)
theorem ki_X6_taken : Cond.instanceMethod yX6_taken ∈ gT := tm 1332 (by decide +kernel) (by decide +kernel)
theorem kv_X6_taken : Cond.selects RX6 yX6_taken yX6_taken ∈ gT := tm 1333 (by decide +kernel) (by decide +kernel)
theorem kc_X6_taken : Cond.code yX6_taken cX6_taken 4 (some .int) ∈ gT := tm 1334 (by decide +kernel) (by decide +kernel)
theorem km_X6_468 : Cond.methodLink RX6 468 yX6_over ∈ gT := tm 1335 (by decide +kernel) (by decide +kernel)
theorem ks_X6_over : Cond.static yX6_over ∈ gT := tm 1336 (by decide +kernel) (by decide +kernel)
theorem kc_X6_over : Cond.code yX6_over cX6_over 1 (some .int) ∈ gT := tm 1337 (by decide +kernel) (by decide +kernel)
theorem kf_J0_15 : Cond.fieldLink RJ0 15 RJ0 "coder" "B" ∈ gT := tm 1338 (by decide +kernel) (by decide +kernel)
theorem kf_J0_9 : Cond.fieldLink RJ0 9 RJ0 "value" "[B" ∈ gT := tm 1339 (by decide +kernel) (by decide +kernel)
theorem kv_X5_changeYear : Cond.selects RX5 yX5_changeYear yX5_changeYear ∈ gT := tp 0 (by decide +kernel) (by decide +kernel)
theorem kv_X5_changeOfOne : Cond.selects RX5 yX5_changeOfOne yX5_changeOfOne ∈ gT := tp 1 (by decide +kernel) (by decide +kernel)
theorem kv_X5_isOne : Cond.selects RX5 yX5_isOne yX5_isOne ∈ gT := tp 2 (by decide +kernel) (by decide +kernel)
theorem kv_X5_changeHouse : Cond.selects RX5 yX5_changeHouse yX5_changeHouse ∈ gT := tp 3 (by decide +kernel) (by decide +kernel)
theorem kv_X5_toldOfOne : Cond.selects RX5 yX5_toldOfOne yX5_toldOfOne ∈ gT := tp 4 (by decide +kernel) (by decide +kernel)
theorem kv_X4_tell : Cond.selects RX4 yX4_tell yX4_tell ∈ gT := tp 5 (by decide +kernel) (by decide +kernel)
theorem kv_X4_highestCell : Cond.selects RX4 yX4_highestCell yX4_highestCell ∈ gT := tp 6 (by decide +kernel) (by decide +kernel)
theorem kv_X0_step : Cond.selects RX0 yX0_step yX0_step ∈ gT := tp 7 (by decide +kernel) (by decide +kernel)
theorem kv_X0_wordToken : Cond.selects RX0 yX0_wordToken yX0_wordToken ∈ gT := tp 8 (by decide +kernel) (by decide +kernel)
theorem kv_X0_spells : Cond.selects RX0 yX0_spells yX0_spells ∈ gT := tp 9 (by decide +kernel) (by decide +kernel)
theorem kv_X0_numberToken : Cond.selects RX0 yX0_numberToken yX0_numberToken ∈ gT := tp 10 (by decide +kernel) (by decide +kernel)
theorem kv_X0_expect : Cond.selects RX0 yX0_expect yX0_expect ∈ gT := tp 11 (by decide +kernel) (by decide +kernel)
theorem kv_X0_refuse : Cond.selects RX0 yX0_refuse yX0_refuse ∈ gT := tp 12 (by decide +kernel) (by decide +kernel)
theorem kv_X0_readEither : Cond.selects RX0 yX0_readEither yX0_readEither ∈ gT := tp 13 (by decide +kernel) (by decide +kernel)
theorem kv_X0_readBoth : Cond.selects RX0 yX0_readBoth yX0_readBoth ∈ gT := tp 14 (by decide +kernel) (by decide +kernel)
theorem kv_X0_readNot : Cond.selects RX0 yX0_readNot yX0_readNot ∈ gT := tp 15 (by decide +kernel) (by decide +kernel)
theorem kv_X0_opens : Cond.selects RX0 yX0_opens yX0_opens ∈ gT := tp 16 (by decide +kernel) (by decide +kernel)
theorem kv_X0_write : Cond.selects RX0 yX0_write yX0_write ∈ gT := tp 17 (by decide +kernel) (by decide +kernel)
theorem kv_X0_readSum : Cond.selects RX0 yX0_readSum yX0_readSum ∈ gT := tp 18 (by decide +kernel) (by decide +kernel)
theorem kv_X0_readTerm : Cond.selects RX0 yX0_readTerm yX0_readTerm ∈ gT := tp 19 (by decide +kernel) (by decide +kernel)
theorem kv_X0_readOne : Cond.selects RX0 yX0_readOne yX0_readOne ∈ gT := tp 20 (by decide +kernel) (by decide +kernel)
theorem kv_X5_think : Cond.selects RX5 yX5_think yX5_think ∈ gT := tp 21 (by decide +kernel) (by decide +kernel)
theorem kv_X5_firstOtherwise : Cond.selects RX5 yX5_firstOtherwise yX5_firstOtherwise ∈ gT := tp 22 (by decide +kernel) (by decide +kernel)
theorem kv_X5_supposedTold : Cond.selects RX5 yX5_supposedTold yX5_supposedTold ∈ gT := tp 23 (by decide +kernel) (by decide +kernel)
theorem kv_X5_suppositions : Cond.selects RX5 yX5_suppositions yX5_suppositions ∈ gT := tp 24 (by decide +kernel) (by decide +kernel)
theorem kv_X5_suppose : Cond.selects RX5 yX5_suppose yX5_suppose ∈ gT := tp 25 (by decide +kernel) (by decide +kernel)
theorem kv_X5_countDrawn : Cond.selects RX5 yX5_countDrawn yX5_countDrawn ∈ gT := tp 26 (by decide +kernel) (by decide +kernel)
theorem kv_X6_spell : Cond.selects RX6 yX6_spell yX6_spell ∈ gT := tp 27 (by decide +kernel) (by decide +kernel)
theorem kv_X6_isOne : Cond.selects RX6 yX6_isOne yX6_isOne ∈ gT := tp 28 (by decide +kernel) (by decide +kernel)
theorem kv_X6_putAll : Cond.selects RX6 yX6_putAll yX6_putAll ∈ gT := tp 29 (by decide +kernel) (by decide +kernel)
theorem kv_X6_holdsOf : Cond.selects RX6 yX6_holdsOf yX6_holdsOf ∈ gT := tp 30 (by decide +kernel) (by decide +kernel)
theorem kv_X6_says : Cond.selects RX6 yX6_says yX6_says ∈ gT := tp 31 (by decide +kernel) (by decide +kernel)
theorem kv_X6_read : Cond.selects RX6 yX6_read yX6_read ∈ gT := tp 32 (by decide +kernel) (by decide +kernel)
theorem kv_X6_next : Cond.selects RX6 yX6_next yX6_next ∈ gT := tp 33 (by decide +kernel) (by decide +kernel)
theorem kv_X6_byteAt : Cond.selects RX6 yX6_byteAt yX6_byteAt ∈ gT := tp 34 (by decide +kernel) (by decide +kernel)
theorem kv_X6_isWord : Cond.selects RX6 yX6_isWord yX6_isWord ∈ gT := tp 35 (by decide +kernel) (by decide +kernel)
theorem kv_X6_isLetter : Cond.selects RX6 yX6_isLetter yX6_isLetter ∈ gT := tp 36 (by decide +kernel) (by decide +kernel)
theorem kv_X6_part : Cond.selects RX6 yX6_part yX6_part ∈ gT := tp 37 (by decide +kernel) (by decide +kernel)
theorem kv_X6_fail : Cond.selects RX6 yX6_fail yX6_fail ∈ gT := tp 38 (by decide +kernel) (by decide +kernel)
theorem kv_X6_either0 : Cond.selects RX6 yX6_either0 yX6_either0 ∈ gT := tp 39 (by decide +kernel) (by decide +kernel)
theorem kv_X6_both0 : Cond.selects RX6 yX6_both0 yX6_both0 ∈ gT := tp 40 (by decide +kernel) (by decide +kernel)
theorem kv_X6_not0 : Cond.selects RX6 yX6_not0 yX6_not0 ∈ gT := tp 41 (by decide +kernel) (by decide +kernel)
theorem kv_X6_opens : Cond.selects RX6 yX6_opens yX6_opens ∈ gT := tp 42 (by decide +kernel) (by decide +kernel)
theorem kv_X6_not1 : Cond.selects RX6 yX6_not1 yX6_not1 ∈ gT := tp 43 (by decide +kernel) (by decide +kernel)
theorem kv_X6_not2 : Cond.selects RX6 yX6_not2 yX6_not2 ∈ gT := tp 44 (by decide +kernel) (by decide +kernel)
theorem kv_X6_not3 : Cond.selects RX6 yX6_not3 yX6_not3 ∈ gT := tp 45 (by decide +kernel) (by decide +kernel)
theorem kv_X6_not4 : Cond.selects RX6 yX6_not4 yX6_not4 ∈ gT := tp 46 (by decide +kernel) (by decide +kernel)
theorem kv_X6_not5 : Cond.selects RX6 yX6_not5 yX6_not5 ∈ gT := tp 47 (by decide +kernel) (by decide +kernel)
theorem kv_X6_added5 : Cond.selects RX6 yX6_added5 yX6_added5 ∈ gT := tp 48 (by decide +kernel) (by decide +kernel)
theorem kv_X6_term5 : Cond.selects RX6 yX6_term5 yX6_term5 ∈ gT := tp 49 (by decide +kernel) (by decide +kernel)
theorem kv_X6_atom5 : Cond.selects RX6 yX6_atom5 yX6_atom5 ∈ gT := tp 50 (by decide +kernel) (by decide +kernel)
theorem kv_X6_isSign : Cond.selects RX6 yX6_isSign yX6_isSign ∈ gT := tp 51 (by decide +kernel) (by decide +kernel)
theorem kv_X6_name : Cond.selects RX6 yX6_name yX6_name ∈ gT := tp 52 (by decide +kernel) (by decide +kernel)
theorem kv_X6_added4 : Cond.selects RX6 yX6_added4 yX6_added4 ∈ gT := tp 53 (by decide +kernel) (by decide +kernel)
theorem kv_X6_term4 : Cond.selects RX6 yX6_term4 yX6_term4 ∈ gT := tp 54 (by decide +kernel) (by decide +kernel)
theorem kv_X6_atom4 : Cond.selects RX6 yX6_atom4 yX6_atom4 ∈ gT := tp 55 (by decide +kernel) (by decide +kernel)
theorem kv_X6_either5 : Cond.selects RX6 yX6_either5 yX6_either5 ∈ gT := tp 56 (by decide +kernel) (by decide +kernel)
theorem kv_X6_both5 : Cond.selects RX6 yX6_both5 yX6_both5 ∈ gT := tp 57 (by decide +kernel) (by decide +kernel)
theorem kv_X6_added3 : Cond.selects RX6 yX6_added3 yX6_added3 ∈ gT := tp 58 (by decide +kernel) (by decide +kernel)
theorem kv_X6_term3 : Cond.selects RX6 yX6_term3 yX6_term3 ∈ gT := tp 59 (by decide +kernel) (by decide +kernel)
theorem kv_X6_atom3 : Cond.selects RX6 yX6_atom3 yX6_atom3 ∈ gT := tp 60 (by decide +kernel) (by decide +kernel)
theorem kv_X6_either4 : Cond.selects RX6 yX6_either4 yX6_either4 ∈ gT := tp 61 (by decide +kernel) (by decide +kernel)
theorem kv_X6_both4 : Cond.selects RX6 yX6_both4 yX6_both4 ∈ gT := tp 62 (by decide +kernel) (by decide +kernel)
theorem kv_X6_added2 : Cond.selects RX6 yX6_added2 yX6_added2 ∈ gT := tp 63 (by decide +kernel) (by decide +kernel)
theorem kv_X6_term2 : Cond.selects RX6 yX6_term2 yX6_term2 ∈ gT := tp 64 (by decide +kernel) (by decide +kernel)
theorem kv_X6_atom2 : Cond.selects RX6 yX6_atom2 yX6_atom2 ∈ gT := tp 65 (by decide +kernel) (by decide +kernel)
theorem kv_X6_either3 : Cond.selects RX6 yX6_either3 yX6_either3 ∈ gT := tp 66 (by decide +kernel) (by decide +kernel)
theorem kv_X6_both3 : Cond.selects RX6 yX6_both3 yX6_both3 ∈ gT := tp 67 (by decide +kernel) (by decide +kernel)
theorem kv_X6_added1 : Cond.selects RX6 yX6_added1 yX6_added1 ∈ gT := tp 68 (by decide +kernel) (by decide +kernel)
theorem kv_X6_term1 : Cond.selects RX6 yX6_term1 yX6_term1 ∈ gT := tp 69 (by decide +kernel) (by decide +kernel)
theorem kv_X6_atom1 : Cond.selects RX6 yX6_atom1 yX6_atom1 ∈ gT := tp 70 (by decide +kernel) (by decide +kernel)
theorem kv_X6_either2 : Cond.selects RX6 yX6_either2 yX6_either2 ∈ gT := tp 71 (by decide +kernel) (by decide +kernel)
theorem kv_X6_both2 : Cond.selects RX6 yX6_both2 yX6_both2 ∈ gT := tp 72 (by decide +kernel) (by decide +kernel)
theorem kv_X6_added0 : Cond.selects RX6 yX6_added0 yX6_added0 ∈ gT := tp 73 (by decide +kernel) (by decide +kernel)
theorem kv_X6_term0 : Cond.selects RX6 yX6_term0 yX6_term0 ∈ gT := tp 74 (by decide +kernel) (by decide +kernel)
theorem kv_X6_atom0 : Cond.selects RX6 yX6_atom0 yX6_atom0 ∈ gT := tp 75 (by decide +kernel) (by decide +kernel)
theorem kv_X6_either1 : Cond.selects RX6 yX6_either1 yX6_either1 ∈ gT := tp 76 (by decide +kernel) (by decide +kernel)
theorem kv_X6_both1 : Cond.selects RX6 yX6_both1 yX6_both1 ∈ gT := tp 77 (by decide +kernel) (by decide +kernel)
theorem kv_X6_fadesOf : Cond.selects RX6 yX6_fadesOf yX6_fadesOf ∈ gT := tp 78 (by decide +kernel) (by decide +kernel)
theorem kv_X6_costsOf : Cond.selects RX6 yX6_costsOf yX6_costsOf ∈ gT := tp 79 (by decide +kernel) (by decide +kernel)
theorem kv_X6_whoseIs : Cond.selects RX6 yX6_whoseIs yX6_whoseIs ∈ gT := tp 80 (by decide +kernel) (by decide +kernel)
theorem kv_X6_falls : Cond.selects RX6 yX6_falls yX6_falls ∈ gT := tp 81 (by decide +kernel) (by decide +kernel)
theorem kv_X6_stands : Cond.selects RX6 yX6_stands yX6_stands ∈ gT := tp 82 (by decide +kernel) (by decide +kernel)
theorem kv_X6_lays : Cond.selects RX6 yX6_lays yX6_lays ∈ gT := tp 83 (by decide +kernel) (by decide +kernel)
theorem kv_X6_felled : Cond.selects RX6 yX6_felled yX6_felled ∈ gT := tp 84 (by decide +kernel) (by decide +kernel)
theorem kv_X6_passes : Cond.selects RX6 yX6_passes yX6_passes ∈ gT := tp 85 (by decide +kernel) (by decide +kernel)
theorem kv_X6_laysAside : Cond.selects RX6 yX6_laysAside yX6_laysAside ∈ gT := tp 86 (by decide +kernel) (by decide +kernel)
theorem kv_X6_go : Cond.selects RX6 yX6_go yX6_go ∈ gT := tp 87 (by decide +kernel) (by decide +kernel)
theorem kv_X6_laysBack : Cond.selects RX6 yX6_laysBack yX6_laysBack ∈ gT := tp 88 (by decide +kernel) (by decide +kernel)
theorem kv_X6_putBehind : Cond.selects RX6 yX6_putBehind yX6_putBehind ∈ gT := tp 89 (by decide +kernel) (by decide +kernel)
theorem kv_X6_firstOther : Cond.selects RX6 yX6_firstOther yX6_firstOther ∈ gT := tp 90 (by decide +kernel) (by decide +kernel)
theorem kv_X6_likeSet : Cond.selects RX6 yX6_likeSet yX6_likeSet ∈ gT := tp 91 (by decide +kernel) (by decide +kernel)
theorem kv_X6_putDrawn : Cond.selects RX6 yX6_putDrawn yX6_putDrawn ∈ gT := tp 92 (by decide +kernel) (by decide +kernel)
theorem kw_X0 : ∀ w ∈ u_ws RX0 TX0 11, w ∈ gT := by
  have h : u_ws RX0 TX0 11 = ([102, 104, 106, 108, 110, 112, 114, 116, 118, 120, 122] : List Nat).filterMap (fun i => tables_1[i]?) := by decide +kernel
  intro w hw
  have hg : goodWord w = true := List.all_eq_true.mp (show (u_ws RX0 TX0 11).all goodWord = true by decide +kernel) w hw
  rw [h] at hw
  obtain ⟨i, -, hi⟩ := List.mem_filterMap.mp hw
  exact tm i hi hg
theorem kw_X1 : ∀ w ∈ u_ws RX1 TX1 3, w ∈ gT := by
  have h : u_ws RX1 TX1 3 = ([150, 152, 154] : List Nat).filterMap (fun i => tables_1[i]?) := by decide +kernel
  intro w hw
  have hg : goodWord w = true := List.all_eq_true.mp (show (u_ws RX1 TX1 3).all goodWord = true by decide +kernel) w hw
  rw [h] at hw
  obtain ⟨i, -, hi⟩ := List.mem_filterMap.mp hw
  exact tm i hi hg
theorem kw_X2 : ∀ w ∈ u_ws RX2 TX2 2, w ∈ gT := by
  have h : u_ws RX2 TX2 2 = ([134, 136] : List Nat).filterMap (fun i => tables_1[i]?) := by decide +kernel
  intro w hw
  have hg : goodWord w = true := List.all_eq_true.mp (show (u_ws RX2 TX2 2).all goodWord = true by decide +kernel) w hw
  rw [h] at hw
  obtain ⟨i, -, hi⟩ := List.mem_filterMap.mp hw
  exact tm i hi hg
theorem kw_X4 : ∀ w ∈ u_ws RX4 TX4 12, w ∈ gT := by
  have h : u_ws RX4 TX4 12 = ([57, 59, 61, 63, 65, 67, 69, 71, 73, 75, 77, 79] : List Nat).filterMap (fun i => tables_1[i]?) := by decide +kernel
  intro w hw
  have hg : goodWord w = true := List.all_eq_true.mp (show (u_ws RX4 TX4 12).all goodWord = true by decide +kernel) w hw
  rw [h] at hw
  obtain ⟨i, -, hi⟩ := List.mem_filterMap.mp hw
  exact tm i hi hg
theorem kw_X5 : ∀ w ∈ u_ws RX5 TX5 8, w ∈ gT := by
  have h : u_ws RX5 TX5 8 = ([165, 167, 169, 171, 173, 175, 177, 179] : List Nat).filterMap (fun i => tables_1[i]?) := by decide +kernel
  intro w hw
  have hg : goodWord w = true := List.all_eq_true.mp (show (u_ws RX5 TX5 8).all goodWord = true by decide +kernel) w hw
  rw [h] at hw
  obtain ⟨i, -, hi⟩ := List.mem_filterMap.mp hw
  exact tm i hi hg
theorem kw_X6 : ∀ w ∈ u_ws RX6 TX6 41, w ∈ gT := by
  have h : u_ws RX6 TX6 41 = ([791, 793, 795, 797, 799, 801, 803, 805, 807, 809, 811, 813, 815, 817, 819, 821, 823, 825, 827, 829, 831, 833, 835, 837, 839, 841, 843, 845, 847, 849, 851, 853, 855, 857, 859, 861, 863, 865, 867, 869, 871] : List Nat).filterMap (fun i => tables_1[i]?) := by decide +kernel
  intro w hw
  have hg : goodWord w = true := List.all_eq_true.mp (show (u_ws RX6 TX6 41).all goodWord = true by decide +kernel) w hw
  rw [h] at hw
  obtain ⟨i, -, hi⟩ := List.mem_filterMap.mp hw
  exact tm i hi hg
end
section
/-! the judgement of a walk over an abstract world: At; a context: Cx; a contract: Con -/
theorem dall {c : ByteArray} {tb : List (Nat × Instr × Nat)} (h : tb.all (fun q => decide (decode c q.1 = .ok q.2)) = true) (k : Nat) {pc : Nat} {i : Instr} {n : Nat} (hk : tb[k]? = some (pc, i, n)) : decode c pc = .ok (i, n) :=
  of_decide_eq_true (List.all_eq_true.mp h (pc, i, n) (List.mem_of_getElem? hk))
theorem gT_self : GoodIn gT gT := fun _ h => ⟨h, good_of_word (List.mem_filter.mp h).2⟩
theorem gT_c {w : Cond} (h : w ∈ gT) : GoodIn gT (w :: gT) := fun _ hv => (List.mem_cons.mp hv).elim (fun e => e ▸ gT_self _ h) (gT_self _)
/-- the room of a method of a level -/
def rmL (lev mc ms : Nat) : Room := { frames := lev, cells := mc, slots := ms, locals := 40 * lev }
/-- what the class's statics hold -/
def tOFF (j : Nat) : Int32 := ([0, 0, 0, 0, 0, 1, 1, 1, 0, 1, 9, 9, 0, 1, 2, 2, 0, 8, 16, 16, 0, 1, 8, 9] : List Int32).getD j 0
def tWALL (j : Nat) : Int64 := ([-1, 9187201950435737471, 35887507618889599, 4557430888798830399, 281474976710655, 35887507618889599] : List Int64).getD j 0
def tKIND (j : Nat) : Int32 := ([-1, 0, 0, 1, 2, 0] : List Int32).getD j 0
def sWORDS : String := "holds fades costs or    and   not   firm  numberyear  parts high  paid  "
def sSIGNS : String := "();+-*<="
def lenS : List Nat := [72, 8]
def bytS : List (List Int32) := [[104, 111, 108, 100, 115, 32, 102, 97, 100, 101, 115, 32, 99, 111, 115, 116, 115, 32, 111, 114, 32, 32, 32, 32, 97, 110, 100, 32, 32, 32, 110, 111, 116, 32, 32, 32, 102, 105, 114, 109, 32, 32, 110, 117, 109, 98, 101, 114, 121, 101, 97, 114, 32, 32, 112, 97, 114, 116, 115, 32, 104, 105, 103, 104, 32, 32, 112, 97, 105, 100, 32, 32], [40, 41, 59, 43, 45, 42, 60, 61]]
/-- the statics and the String constants, at the addresses that D keeps beside its classes -/
def Stt (D : va_G) (A : Nat → Prop) (U : State) (H : Heap) : Prop :=
  (va_Z RX3 "OFFSETS" "[I" (.ref (D.2 100 0)) A U H ∧ va_T .int (D.2 100 0) 24 (fun j => .int (tOFF j)) A U H) ∧
  (va_Z RX3 "ON_WALL" "[J" (.ref (D.2 100 1)) A U H ∧ va_T .long (D.2 100 1) 6 (fun j => .long (tWALL j)) A U H) ∧
  (va_Z RX5 "KIND_ABOVE" "[I" (.ref (D.2 100 2)) A U H ∧ va_T .int (D.2 100 2) 6 (fun j => .int (tKIND j)) A U H) ∧
  va_Z RJ0 "COMPACT_STRINGS" "Z" (.int 1) A U H ∧ (∃ v : Value, v.category = 1 ∧ va_Z RJ3 "SIOOBE_FORMATTER" "Ljava/util/function/BiFunction;" v A U H) ∧
  vk_S 2 lenS bytS (D.2 101) (D.2 102) A U H ∧ vk_R RX0 124 sWORDS (D.2 101 0) U ∧ vk_R RX0 112 sSIGNS (D.2 101 1) U
theorem Stt.moved {D : va_G} {A : Nat → Prop} {u U : State} {H : Heap} (hvm : u.vm.Alike U.vm) (hr : ∀ {own tx : String} {k a : Nat}, vk_R own k tx a u → vk_R own k tx a U) (h : Stt D A u H) : Stt D A U H := by
  obtain ⟨⟨a1, b1⟩, ⟨a2, b2⟩, ⟨a3, b3⟩, a4, ⟨v, hv, a5⟩, a6, a7, a8⟩ := h
  exact ⟨⟨a1.moved hvm, b1.moved hvm⟩, ⟨a2.moved hvm, b2.moved hvm⟩, ⟨a3.moved hvm, b3.moved hvm⟩, a4.moved hvm, ⟨v, hv, a5.moved hvm⟩, a6.moved hvm, hr a7, hr a8⟩
abbrev CX : Type := (Program × Launch × Env × Room × State) × (MethodId × Array Value × List Frame × Method × Code) × (State → Prop)
/-- the machine comes to X's end from every heap that holds the world ws, at pc with these locals and this stack -/
def At (X : CX) (D : va_G) (A : Nat → Prop) (nL kc ks pc : Nat) (lv : List (Nat × Value)) (st : List Value) (ws : va_W) : Prop :=
  ∀ (H : Heap) (locs : List Loc) (ls : Array Slot), va_P D vwCl ws H → va_D A ws → va_S A X.1.2.2.2.2.heap H locs → lv_has ls nL lv →
    W X.1.1 X.1.2.1 X.1.2.2.1 X.1.2.2.2.1 X.1.2.2.2.2 X.2.1.1 X.2.1.2.1 X.2.1.2.2.1 X.2.1.2.2.2.1 X.2.1.2.2.2.2 H locs kc ks X.2.2 (F0 X.2.1.1 pc ls st)
/-- what a walk's context gives -/
def Cx (X : CX) (cc : ByteArray) (own : String) (nL : Nat) (D : va_G) (tys : List (ClassId × FieldType)) (A : Nat → Prop) (lev cM sM : Nat) : Prop :=
  X.1.1.tables.exec = Jvm.exec ∧ X.2.1.2.2.2.2.code = cc ∧ X.2.1.2.2.2.2.maxLocals = nL ∧ X.1.2.2.2.2.vm.findClass own = some X.2.1.1.cls ∧ (∀ w ∈ gT, w.before X.2.1.2.1 X.1.2.2.2.2 = true) ∧
  va_K D vwCl tys X.1.2.2.2.2 ∧ (∀ q : Nat, X.1.2.2.2.2.heap.size ≤ q → A q) ∧ lev ≤ X.1.2.2.2.1.frames ∧ 40 * lev ≤ X.1.2.2.2.1.locals ∧ X.1.2.2.2.1.cells = cM ∧ X.1.2.2.2.1.slots = sM ∧ Stt D A X.1.2.2.2.2 X.1.2.2.2.2.heap
/-- a contract's end -/
def gQ (post : Option Value → va_W → Prop) (D : va_G) (tys : List (ClassId × FieldType)) (A : Nat → Prop) : Array Value → State → Outcome → State → Prop := fun _ st oc t =>
  (∃ (v : Option Value) (w : va_W), oc = .returned v ∧ post v w ∧ va_P D vwCl w t.heap ∧ va_K D vwCl tys t ∧ va_D A w) ∧ va_F A st t
/-- a contract's start -/
def gB (D : va_G) (tys : List (ClassId × FieldType)) (ws : va_W) (sz : Nat) (U : State) : Prop :=
  U.heap.size = sz ∧ va_P D vwCl ws U.heap ∧ va_K D vwCl tys U ∧ va_D (fun _ => True) ws ∧ Stt D (va_A ws sz) U U.heap
/-- a contract: from a world ws with these arguments the method returns v and leaves w with post v w -/
def Con (y : MethodName) (cc : ByteArray) (nL : Nat) (ret : Option FieldType) (lev mc ms : Nat) (D : va_G) (tys : List (ClassId × FieldType)) (as : List Value) (ws : va_W) (post : Option Value → va_W → Prop) : Prop :=
  ∀ (l : Launch) (sz : Nat), Met l y (Cond.code y cc nL ret :: gT) (rmL lev mc ms) (va_Pc as (gB D tys ws sz)) (gQ post D tys (va_A ws sz)) mc ms (va_A ws sz)
theorem gB_blind {D : va_G} {tys : List (ClassId × FieldType)} {as : List Value} {ws : va_W} {sz : Nat} : FrameBlind (va_Pc as (gB D tys ws sz)) := fun a U g mk q => by
  obtain ⟨q0, q1, qP, qK, qD, qS⟩ := q
  exact ⟨q0, q1, qP, va_K.moved (u := U) (U := U.calling g mk a) (Vm.Alike.refl U.vm) qK, qD, Stt.moved (u := U) (U := U.calling g mk a) (Vm.Alike.refl U.vm) (fun h => vk_R.same rfl h) qS⟩
/-- what a return needs -/
def Rt (X : CX) (ret : Option FieldType) (D : va_G) (tys : List (ClassId × FieldType)) (A : Nat → Prop) (mc ms : Nat) (post : Option Value → va_W → Prop) : Prop :=
  X.2.2 = MQ X.2.1.2.2.1 (gQ post D tys A) X.2.1.2.1 X.1.2.2.2.2 mc ms A ∧ X.2.1.2.2.2.1.sig.returnType = ret ∧ X.2.1.2.2.2.1.locks = false
set_option maxHeartbeats 1000000 in
/-- a contract out of a walk -/
theorem Con.of {y : MethodName} {cc : ByteArray} {nL lev mc ms : Nat} {ret : Option FieldType} {D : va_G} {tys : List (ClassId × FieldType)} {as : List Value} {ws : va_W} {post : Option Value → va_W → Prop} {own : String}
    (hy : plainName y.cls = true) (ho : y.cls = own) (hfit : (lg_sl as).length ≤ nL) (hlev : 0 ≤ lev)
    (body : ∀ (X : CX) (A : Nat → Prop), Cx X cc own nL D tys A lev mc ms → Rt X ret D tys A mc ms post → (y.name = "<init>" → X.2.1.2.2.2.1.name = "<init>") → At X D A nL 0 0 0 (lv_args 0 as) [] ws) : Con y cc nL ret lev mc ms D tys as ws post := by
  intro l sz
  refine Met.ofW (cc := cc) (maxL := nL) (ret := ret) hy rfl ?_
  intro p e s m args below meth c s₁ B hml hv
  obtain ⟨rfl, hsz, hP, hK, hD0, hSt⟩ := hv
  have hts := atoms_spec (ws := Cond.code y cc nL ret :: gT) B.pre
  have hown : s.vm.findClass y.cls = some m.cls := findClass_of_methodNamed B.named
  subst hsz
  have hD := hD0.self (sz := s.heap.size)
  have hl := lv_entry as (n := nL) hfit
  rw [lg_entry_eq]
  have hin : y.name = "<init>" → meth.name = "<init>" := fun hq => hq ▸ (name_of_methodNamed B.named B.method).1
  exact body ((p, l, e, (headSpec (Cond.code y cc nL ret :: gT) (rmL lev mc ms)).room, s), (m, as.toArray, below, meth, c), MQ below (gQ post D tys (va_A ws s.heap.size)) as.toArray s mc ms (va_A ws s.heap.size)) (va_A ws s.heap.size)
    ⟨B.exec, B.bytes, hml, ho ▸ hown, fun w hw => hts w (List.mem_cons_of_mem _ hw), hK, fun q h => Or.inr h, Nat.le_refl _, Nat.le_refl _, rfl, rfl, hSt⟩ ⟨rfl, B.returns, B.notSynchronized⟩ hin s.heap [] _ hP hD va_S.rf hl
section Rows
variable {X : CX} {cc : ByteArray} {own : String} {nL : Nat} {D : va_G} {tys : List (ClassId × FieldType)} {A : Nat → Prop} {lev cM sM kc ks pc : Nat} {lv lv' : List (Nat × Value)} {st : List Value} {ws : va_W}
theorem r_iconst (C : Cx X cc own nL D tys A lev cM sM) {n : Int} {v : Int32} (hdg : decode cc pc = .ok (.iconst n, 1)) (hv : Int32.ofInt n = v) (k : At X D A nL kc ks (pc + 1) lv (.int v :: st) ws) : At X D A nL kc ks pc lv st ws :=
  fun H locs ls hP hD hS hl => lv_iconst C.1 C.2.1 hdg hv (k H locs ls hP hD hS hl)
theorem r_bipush (C : Cx X cc own nL D tys A lev cM sM) {n : Int} {v : Int32} (hdg : decode cc pc = .ok (.bipush n, 2)) (hv : (Int8.ofInt n).toInt32 = v) (k : At X D A nL kc ks (pc + 2) lv (.int v :: st) ws) : At X D A nL kc ks pc lv st ws :=
  fun H locs ls hP hD hS hl => lv_bipush C.1 C.2.1 hdg hv (k H locs ls hP hD hS hl)
theorem r_sipush (C : Cx X cc own nL D tys A lev cM sM) {n : Int} {v : Int32} (hdg : decode cc pc = .ok (.sipush n, 3)) (hv : (Int16.ofInt n).toInt32 = v) (k : At X D A nL kc ks (pc + 3) lv (.int v :: st) ws) : At X D A nL kc ks pc lv st ws :=
  fun H locs ls hP hD hS hl => lv_sipush C.1 C.2.1 hdg hv (k H locs ls hP hD hS hl)
theorem r_lconst (C : Cx X cc own nL D tys A lev cM sM) {n : Fin 2} {v : Int64} (hdg : decode cc pc = .ok (.lconst n, 1)) (hv : Int64.ofNat (n : Nat) = v) (k : At X D A nL kc ks (pc + 1) lv (.long v :: st) ws) : At X D A nL kc ks pc lv st ws :=
  fun H locs ls hP hD hS hl => lv_lconst C.1 C.2.1 hdg hv (k H locs ls hP hD hS hl)
theorem r_ldc (C : Cx X cc own nL D tys A lev cM sM) {index : Nat} {v : Int32} (hc : Cond.constant own index v ∈ gT) (hdg : decode cc pc = .ok (.ldc index, 2)) (k : At X D A nL kc ks (pc + 2) lv (.int v :: st) ws) : At X D A nL kc ks pc lv st ws :=
  fun H locs ls hP hD hS hl => lv_ldc C.1 C.2.1 C.2.2.2.1 (C.2.2.2.2.1 _ hc) hdg (k H locs ls hP hD hS hl)
theorem r_ldcw (C : Cx X cc own nL D tys A lev cM sM) {index : Nat} {v : Int32} (hc : Cond.constant own index v ∈ gT) (hdg : decode cc pc = .ok (.ldc_w index, 3)) (k : At X D A nL kc ks (pc + 3) lv (.int v :: st) ws) : At X D A nL kc ks pc lv st ws :=
  fun H locs ls hP hD hS hl => lv_ldcw C.1 C.2.1 C.2.2.2.1 (C.2.2.2.2.1 _ hc) hdg (k H locs ls hP hD hS hl)
theorem r_ldc2 (C : Cx X cc own nL D tys A lev cM sM) {index : Nat} {v : Int64} (hc : Cond.constantLong own index v ∈ gT) (hdg : decode cc pc = .ok (.ldc2_w index, 3)) (k : At X D A nL kc ks (pc + 3) lv (.long v :: st) ws) : At X D A nL kc ks pc lv st ws :=
  fun H locs ls hP hD hS hl => lv_ldc2 C.1 C.2.1 C.2.2.2.1 (C.2.2.2.2.1 _ hc) hdg (k H locs ls hP hD hS hl)
theorem r_iload_n (C : Cx X cc own nL D tys A lev cM sM) (q : Nat) {n : Fin 4} {x : Int32} (hdg : decode cc pc = .ok (.iload_n n, 1)) (hq : lv[q]? = some ((n : Nat), .int x)) (k : At X D A nL kc ks (pc + 1) lv (.int x :: st) ws) : At X D A nL kc ks pc lv st ws :=
  fun H locs ls hP hD hS hl => lv_iload_n C.1 C.2.1 hdg rfl (lv_at hl q hq) (k H locs ls hP hD hS hl)
theorem r_iload (C : Cx X cc own nL D tys A lev cM sM) (q : Nat) {i : Nat} {x : Int32} (hdg : decode cc pc = .ok (.iload i, 2)) (hq : lv[q]? = some (i, .int x)) (k : At X D A nL kc ks (pc + 2) lv (.int x :: st) ws) : At X D A nL kc ks pc lv st ws :=
  fun H locs ls hP hD hS hl => lv_iload C.1 C.2.1 hdg (lv_at hl q hq) (k H locs ls hP hD hS hl)
theorem r_lload_n (C : Cx X cc own nL D tys A lev cM sM) (q : Nat) {n : Fin 4} {x : Int64} (hdg : decode cc pc = .ok (.lload_n n, 1)) (hq : lv[q]? = some ((n : Nat), .long x)) (k : At X D A nL kc ks (pc + 1) lv (.long x :: st) ws) : At X D A nL kc ks pc lv st ws :=
  fun H locs ls hP hD hS hl => lv_lload_n C.1 C.2.1 hdg rfl (lv_at hl q hq) (k H locs ls hP hD hS hl)
theorem r_lload (C : Cx X cc own nL D tys A lev cM sM) (q : Nat) {i : Nat} {x : Int64} (hdg : decode cc pc = .ok (.lload i, 2)) (hq : lv[q]? = some (i, .long x)) (k : At X D A nL kc ks (pc + 2) lv (.long x :: st) ws) : At X D A nL kc ks pc lv st ws :=
  fun H locs ls hP hD hS hl => lv_lload C.1 C.2.1 hdg (lv_at hl q hq) (k H locs ls hP hD hS hl)
theorem r_aload_n (C : Cx X cc own nL D tys A lev cM sM) (q : Nat) {n : Fin 4} {x : Nat} (hdg : decode cc pc = .ok (.aload_n n, 1)) (hq : lv[q]? = some ((n : Nat), .ref x)) (k : At X D A nL kc ks (pc + 1) lv (.ref x :: st) ws) : At X D A nL kc ks pc lv st ws :=
  fun H locs ls hP hD hS hl => lv_aload_n C.1 C.2.1 hdg rfl (lv_at hl q hq) (k H locs ls hP hD hS hl)
theorem r_aload (C : Cx X cc own nL D tys A lev cM sM) (q : Nat) {i : Nat} {x : Nat} (hdg : decode cc pc = .ok (.aload i, 2)) (hq : lv[q]? = some (i, .ref x)) (k : At X D A nL kc ks (pc + 2) lv (.ref x :: st) ws) : At X D A nL kc ks pc lv st ws :=
  fun H locs ls hP hD hS hl => lv_aload C.1 C.2.1 hdg (lv_at hl q hq) (k H locs ls hP hD hS hl)
/-- locals after a store of a category 1 value, of a category 2 value -/
def s1 (lv : List (Nat × Value)) (i : Nat) (v : Value) : List (Nat × Value) := (i, v) :: lv.filter (fun q => !(q.1 == i) && !(q.1 + 1 == i && q.2.category == 2))
def s2 (lv : List (Nat × Value)) (i : Nat) (v : Value) : List (Nat × Value) := (i, v) :: lv.filter (fun q => !(q.1 == i) && (!(q.1 == i + 1) && !(q.1 + 1 == i && q.2.category == 2)))
theorem r_istore_n (C : Cx X cc own nL D tys A lev cM sM) {n : Fin 4} {x : Int32} (hdg : decode cc pc = .ok (.istore_n n, 1)) (hn : (n : Nat) < nL) (hl : s1 lv n (.int x) = lv') (k : At X D A nL kc ks (pc + 1) lv' st ws) : At X D A nL kc ks pc lv (.int x :: st) ws :=
  fun H locs _ hP hD hS h => lv_istore_n C.1 C.2.1 hdg rfl h hn hl (fun ls' h' => k H locs ls' hP hD hS h')
theorem r_istore (C : Cx X cc own nL D tys A lev cM sM) {i : Nat} {x : Int32} (hdg : decode cc pc = .ok (.istore i, 2)) (hn : i < nL) (hl : s1 lv i (.int x) = lv') (k : At X D A nL kc ks (pc + 2) lv' st ws) : At X D A nL kc ks pc lv (.int x :: st) ws :=
  fun H locs _ hP hD hS h => lv_istore C.1 C.2.1 hdg h hn hl (fun ls' h' => k H locs ls' hP hD hS h')
theorem r_lstore_n (C : Cx X cc own nL D tys A lev cM sM) {n : Fin 4} {x : Int64} (hdg : decode cc pc = .ok (.lstore_n n, 1)) (hn : (n : Nat) + 1 < nL) (hl : s2 lv n (.long x) = lv') (k : At X D A nL kc ks (pc + 1) lv' st ws) : At X D A nL kc ks pc lv (.long x :: st) ws :=
  fun H locs _ hP hD hS h => lv_lstore_n C.1 C.2.1 hdg rfl h hn hl (fun ls' h' => k H locs ls' hP hD hS h')
theorem r_lstore (C : Cx X cc own nL D tys A lev cM sM) {i : Nat} {x : Int64} (hdg : decode cc pc = .ok (.lstore i, 2)) (hn : i + 1 < nL) (hl : s2 lv i (.long x) = lv') (k : At X D A nL kc ks (pc + 2) lv' st ws) : At X D A nL kc ks pc lv (.long x :: st) ws :=
  fun H locs _ hP hD hS h => lv_lstore C.1 C.2.1 hdg h hn hl (fun ls' h' => k H locs ls' hP hD hS h')
theorem r_astore_n (C : Cx X cc own nL D tys A lev cM sM) {n : Fin 4} {x : Nat} (hdg : decode cc pc = .ok (.astore_n n, 1)) (hn : (n : Nat) < nL) (hl : s1 lv n (.ref x) = lv') (k : At X D A nL kc ks (pc + 1) lv' st ws) : At X D A nL kc ks pc lv (.ref x :: st) ws :=
  fun H locs _ hP hD hS h => lv_astore_n C.1 C.2.1 hdg rfl h hn hl (fun ls' h' => k H locs ls' hP hD hS h')
theorem r_astore (C : Cx X cc own nL D tys A lev cM sM) {i : Nat} {x : Nat} (hdg : decode cc pc = .ok (.astore i, 2)) (hn : i < nL) (hl : s1 lv i (.ref x) = lv') (k : At X D A nL kc ks (pc + 2) lv' st ws) : At X D A nL kc ks pc lv (.ref x :: st) ws :=
  fun H locs _ hP hD hS h => lv_astore C.1 C.2.1 hdg h hn hl (fun ls' h' => k H locs ls' hP hD hS h')
theorem r_iinc (C : Cx X cc own nL D tys A lev cM sM) (q : Nat) {i : Nat} {n : Int} {x v : Int32} (hdg : decode cc pc = .ok (.iinc i n, 3)) (hq : lv[q]? = some (i, .int x)) (hv : x + Int32.ofInt n = v) (hn : i < nL) (hl : s1 lv i (.int v) = lv') (k : At X D A nL kc ks (pc + 3) lv' st ws) : At X D A nL kc ks pc lv st ws :=
  fun H locs _ hP hD hS h => lv_iinc C.1 C.2.1 hdg h hq hv hn hl (fun ls' h' => k H locs ls' hP hD hS h')
theorem r_pick (ps : List Nat) (hl : lv_pick lv ps = lv') (k : At X D A nL kc ks pc lv' st ws) : At X D A nL kc ks pc lv st ws :=
  fun H locs ls hP hD hS h => k H locs ls hP hD hS (lv_sub h ps hl)
theorem r_goto (C : Cx X cc own nL D tys A lev cM sM) {off : Int} {tgt : Nat} (hdg : decode cc pc = .ok (.goto off, 3)) (ht : (pc : Int) + off = (tgt : Int)) (k : At X D A nL kc ks tgt lv st ws) : At X D A nL kc ks pc lv st ws :=
  fun H locs ls hP hD hS hl => lv_goto C.1 C.2.1 hdg ht (k H locs ls hP hD hS hl)
theorem r_iadd (C : Cx X cc own nL D tys A lev cM sM) {x y : Int32} (hdg : decode cc pc = .ok (.iadd, 1)) (k : At X D A nL kc ks (pc + 1) lv (.int (x + y) :: st) ws) : At X D A nL kc ks pc lv (.int y :: .int x :: st) ws :=
  fun H locs ls hP hD hS hl => lv_iadd C.1 C.2.1 hdg (k H locs ls hP hD hS hl)
theorem r_isub (C : Cx X cc own nL D tys A lev cM sM) {x y : Int32} (hdg : decode cc pc = .ok (.isub, 1)) (k : At X D A nL kc ks (pc + 1) lv (.int (x - y) :: st) ws) : At X D A nL kc ks pc lv (.int y :: .int x :: st) ws :=
  fun H locs ls hP hD hS hl => lv_isub C.1 C.2.1 hdg (k H locs ls hP hD hS hl)
theorem r_imul (C : Cx X cc own nL D tys A lev cM sM) {x y : Int32} (hdg : decode cc pc = .ok (.imul, 1)) (k : At X D A nL kc ks (pc + 1) lv (.int (x * y) :: st) ws) : At X D A nL kc ks pc lv (.int y :: .int x :: st) ws :=
  fun H locs ls hP hD hS hl => lv_imul C.1 C.2.1 hdg (k H locs ls hP hD hS hl)
theorem r_iand (C : Cx X cc own nL D tys A lev cM sM) {x y : Int32} (hdg : decode cc pc = .ok (.iand, 1)) (k : At X D A nL kc ks (pc + 1) lv (.int (x &&& y) :: st) ws) : At X D A nL kc ks pc lv (.int y :: .int x :: st) ws :=
  fun H locs ls hP hD hS hl => lv_iand C.1 C.2.1 hdg (k H locs ls hP hD hS hl)
theorem r_ior (C : Cx X cc own nL D tys A lev cM sM) {x y : Int32} (hdg : decode cc pc = .ok (.ior, 1)) (k : At X D A nL kc ks (pc + 1) lv (.int (x ||| y) :: st) ws) : At X D A nL kc ks pc lv (.int y :: .int x :: st) ws :=
  fun H locs ls hP hD hS hl => lv_ior C.1 C.2.1 hdg (k H locs ls hP hD hS hl)
theorem r_ixor (C : Cx X cc own nL D tys A lev cM sM) {x y : Int32} (hdg : decode cc pc = .ok (.ixor, 1)) (k : At X D A nL kc ks (pc + 1) lv (.int (x ^^^ y) :: st) ws) : At X D A nL kc ks pc lv (.int y :: .int x :: st) ws :=
  fun H locs ls hP hD hS hl => lv_ixor C.1 C.2.1 hdg (k H locs ls hP hD hS hl)
theorem r_ishl (C : Cx X cc own nL D tys A lev cM sM) {x y : Int32} (hdg : decode cc pc = .ok (.ishl, 1)) (k : At X D A nL kc ks (pc + 1) lv (.int (x <<< (y &&& 31)) :: st) ws) : At X D A nL kc ks pc lv (.int y :: .int x :: st) ws :=
  fun H locs ls hP hD hS hl => lv_ishl C.1 C.2.1 hdg (k H locs ls hP hD hS hl)
theorem r_ishr (C : Cx X cc own nL D tys A lev cM sM) {x y : Int32} (hdg : decode cc pc = .ok (.ishr, 1)) (k : At X D A nL kc ks (pc + 1) lv (.int (x >>> (y &&& 31)) :: st) ws) : At X D A nL kc ks pc lv (.int y :: .int x :: st) ws :=
  fun H locs ls hP hD hS hl => lv_ishr C.1 C.2.1 hdg (k H locs ls hP hD hS hl)
theorem r_ladd (C : Cx X cc own nL D tys A lev cM sM) {x y : Int64} (hdg : decode cc pc = .ok (.ladd, 1)) (k : At X D A nL kc ks (pc + 1) lv (.long (x + y) :: st) ws) : At X D A nL kc ks pc lv (.long y :: .long x :: st) ws :=
  fun H locs ls hP hD hS hl => lv_ladd C.1 C.2.1 hdg (k H locs ls hP hD hS hl)
theorem r_lsub (C : Cx X cc own nL D tys A lev cM sM) {x y : Int64} (hdg : decode cc pc = .ok (.lsub, 1)) (k : At X D A nL kc ks (pc + 1) lv (.long (x - y) :: st) ws) : At X D A nL kc ks pc lv (.long y :: .long x :: st) ws :=
  fun H locs ls hP hD hS hl => lv_lsub C.1 C.2.1 hdg (k H locs ls hP hD hS hl)
theorem r_lmul (C : Cx X cc own nL D tys A lev cM sM) {x y : Int64} (hdg : decode cc pc = .ok (.lmul, 1)) (k : At X D A nL kc ks (pc + 1) lv (.long (x * y) :: st) ws) : At X D A nL kc ks pc lv (.long y :: .long x :: st) ws :=
  fun H locs ls hP hD hS hl => lv_lmul C.1 C.2.1 hdg (k H locs ls hP hD hS hl)
theorem r_land (C : Cx X cc own nL D tys A lev cM sM) {x y : Int64} (hdg : decode cc pc = .ok (.land, 1)) (k : At X D A nL kc ks (pc + 1) lv (.long (x &&& y) :: st) ws) : At X D A nL kc ks pc lv (.long y :: .long x :: st) ws :=
  fun H locs ls hP hD hS hl => lv_land C.1 C.2.1 hdg (k H locs ls hP hD hS hl)
theorem r_lor (C : Cx X cc own nL D tys A lev cM sM) {x y : Int64} (hdg : decode cc pc = .ok (.lor, 1)) (k : At X D A nL kc ks (pc + 1) lv (.long (x ||| y) :: st) ws) : At X D A nL kc ks pc lv (.long y :: .long x :: st) ws :=
  fun H locs ls hP hD hS hl => lv_lor C.1 C.2.1 hdg (k H locs ls hP hD hS hl)
theorem r_lxor (C : Cx X cc own nL D tys A lev cM sM) {x y : Int64} (hdg : decode cc pc = .ok (.lxor, 1)) (k : At X D A nL kc ks (pc + 1) lv (.long (x ^^^ y) :: st) ws) : At X D A nL kc ks pc lv (.long y :: .long x :: st) ws :=
  fun H locs ls hP hD hS hl => lv_lxor C.1 C.2.1 hdg (k H locs ls hP hD hS hl)
theorem r_idiv (C : Cx X cc own nL D tys A lev cM sM) {x y : Int32} (hdg : decode cc pc = .ok (.idiv, 1)) (hne : ¬ y = 0) (k : At X D A nL kc ks (pc + 1) lv (.int (x / y) :: st) ws) : At X D A nL kc ks pc lv (.int y :: .int x :: st) ws :=
  fun H locs ls hP hD hS hl => lv_idiv C.1 C.2.1 hdg hne (k H locs ls hP hD hS hl)
theorem r_irem (C : Cx X cc own nL D tys A lev cM sM) {x y : Int32} (hdg : decode cc pc = .ok (.irem, 1)) (hne : ¬ y = 0) (k : At X D A nL kc ks (pc + 1) lv (.int (x - x / y * y) :: st) ws) : At X D A nL kc ks pc lv (.int y :: .int x :: st) ws :=
  fun H locs ls hP hD hS hl => lv_irem C.1 C.2.1 hdg hne (k H locs ls hP hD hS hl)
theorem r_ldiv (C : Cx X cc own nL D tys A lev cM sM) {x y : Int64} (hdg : decode cc pc = .ok (.ldiv, 1)) (hne : ¬ y = 0) (k : At X D A nL kc ks (pc + 1) lv (.long (x / y) :: st) ws) : At X D A nL kc ks pc lv (.long y :: .long x :: st) ws :=
  fun H locs ls hP hD hS hl => lv_ldiv C.1 C.2.1 hdg hne (k H locs ls hP hD hS hl)
theorem r_lrem (C : Cx X cc own nL D tys A lev cM sM) {x y : Int64} (hdg : decode cc pc = .ok (.lrem, 1)) (hne : ¬ y = 0) (k : At X D A nL kc ks (pc + 1) lv (.long (x - x / y * y) :: st) ws) : At X D A nL kc ks pc lv (.long y :: .long x :: st) ws :=
  fun H locs ls hP hD hS hl => lv_lrem C.1 C.2.1 hdg hne (k H locs ls hP hD hS hl)
theorem r_ineg (C : Cx X cc own nL D tys A lev cM sM) {x : Int32} (hdg : decode cc pc = .ok (.ineg, 1)) (k : At X D A nL kc ks (pc + 1) lv (.int (-x) :: st) ws) : At X D A nL kc ks pc lv (.int x :: st) ws :=
  fun H locs ls hP hD hS hl => lv_ineg C.1 C.2.1 hdg (k H locs ls hP hD hS hl)
theorem r_lneg (C : Cx X cc own nL D tys A lev cM sM) {x : Int64} (hdg : decode cc pc = .ok (.lneg, 1)) (k : At X D A nL kc ks (pc + 1) lv (.long (-x) :: st) ws) : At X D A nL kc ks pc lv (.long x :: st) ws :=
  fun H locs ls hP hD hS hl => lv_lneg C.1 C.2.1 hdg (k H locs ls hP hD hS hl)
theorem r_i2l (C : Cx X cc own nL D tys A lev cM sM) {x : Int32} (hdg : decode cc pc = .ok (.i2l, 1)) (k : At X D A nL kc ks (pc + 1) lv (.long x.toInt64 :: st) ws) : At X D A nL kc ks pc lv (.int x :: st) ws :=
  fun H locs ls hP hD hS hl => lv_i2l C.1 C.2.1 hdg rfl (k H locs ls hP hD hS hl)
theorem r_l2i (C : Cx X cc own nL D tys A lev cM sM) {x : Int64} (hdg : decode cc pc = .ok (.l2i, 1)) (k : At X D A nL kc ks (pc + 1) lv (.int x.toInt32 :: st) ws) : At X D A nL kc ks pc lv (.long x :: st) ws :=
  fun H locs ls hP hD hS hl => lv_l2i C.1 C.2.1 hdg rfl (k H locs ls hP hD hS hl)
theorem r_i2b (C : Cx X cc own nL D tys A lev cM sM) {x : Int32} (hdg : decode cc pc = .ok (.i2b, 1)) (k : At X D A nL kc ks (pc + 1) lv (.int x.toInt8.toInt32 :: st) ws) : At X D A nL kc ks pc lv (.int x :: st) ws :=
  fun H locs ls hP hD hS hl => lv_i2b C.1 C.2.1 hdg rfl (k H locs ls hP hD hS hl)
theorem r_i2s (C : Cx X cc own nL D tys A lev cM sM) {x : Int32} (hdg : decode cc pc = .ok (.i2s, 1)) (k : At X D A nL kc ks (pc + 1) lv (.int x.toInt16.toInt32 :: st) ws) : At X D A nL kc ks pc lv (.int x :: st) ws :=
  fun H locs ls hP hD hS hl => lv_i2s C.1 C.2.1 hdg rfl (k H locs ls hP hD hS hl)
theorem r_i2c (C : Cx X cc own nL D tys A lev cM sM) {x : Int32} (hdg : decode cc pc = .ok (.i2c, 1)) (k : At X D A nL kc ks (pc + 1) lv (.int (x.toUInt32 % 65536).toInt32 :: st) ws) : At X D A nL kc ks pc lv (.int x :: st) ws :=
  fun H locs ls hP hD hS hl => lv_i2c C.1 C.2.1 hdg rfl (k H locs ls hP hD hS hl)
/-- the shifts of longs and the unsigned ones, by name -/
def jshl (x : Int64) (y : Int32) : Int64 := x <<< (y.toInt64 &&& 63)
def jshr (x : Int64) (y : Int32) : Int64 := x >>> (y.toInt64 &&& 63)
def jushr (x : Int64) (y : Int32) : Int64 := (x.toUInt64 >>> (y.toInt64.toUInt64 &&& Int64.toUInt64 63)).toInt64
def jiushr (x y : Int32) : Int32 := (x.toUInt32 >>> (y.toUInt32 &&& Int32.toUInt32 31)).toInt32
theorem r_iushr (C : Cx X cc own nL D tys A lev cM sM) {x y : Int32} (hdg : decode cc pc = .ok (.iushr, 1)) (k : At X D A nL kc ks (pc + 1) lv (.int (jiushr x y) :: st) ws) : At X D A nL kc ks pc lv (.int y :: .int x :: st) ws :=
  fun H locs ls hP hD hS hl => lv_iushr C.1 C.2.1 hdg rfl (k H locs ls hP hD hS hl)
theorem r_lushr (C : Cx X cc own nL D tys A lev cM sM) {x : Int64} {y : Int32} (hdg : decode cc pc = .ok (.lushr, 1)) (k : At X D A nL kc ks (pc + 1) lv (.long (jushr x y) :: st) ws) : At X D A nL kc ks pc lv (.int y :: .long x :: st) ws :=
  fun H locs ls hP hD hS hl => lv_lushr C.1 C.2.1 hdg rfl (k H locs ls hP hD hS hl)
theorem r_lshl (C : Cx X cc own nL D tys A lev cM sM) {x : Int64} {y : Int32} (hdg : decode cc pc = .ok (.lshl, 1)) (k : At X D A nL kc ks (pc + 1) lv (.long (jshl x y) :: st) ws) : At X D A nL kc ks pc lv (.int y :: .long x :: st) ws :=
  fun H locs ls hP hD hS hl => lv_lshl C.1 C.2.1 hdg rfl (k H locs ls hP hD hS hl)
theorem r_lshr (C : Cx X cc own nL D tys A lev cM sM) {x : Int64} {y : Int32} (hdg : decode cc pc = .ok (.lshr, 1)) (k : At X D A nL kc ks (pc + 1) lv (.long (jshr x y) :: st) ws) : At X D A nL kc ks pc lv (.int y :: .long x :: st) ws :=
  fun H locs ls hP hD hS hl => lv_lshr C.1 C.2.1 hdg rfl (k H locs ls hP hD hS hl)
theorem r_lcmp (C : Cx X cc own nL D tys A lev cM sM) {x y : Int64} (hdg : decode cc pc = .ok (.lcmp, 1)) (k : At X D A nL kc ks (pc + 1) lv (.int (lg_cmp x y) :: st) ws) : At X D A nL kc ks pc lv (.long y :: .long x :: st) ws :=
  fun H locs ls hP hD hS hl => W.lcmp C.1 C.2.1 hdg (k H locs ls hP hD hS hl)
theorem r_dup (C : Cx X cc own nL D tys A lev cM sM) {v : Value} (hdg : decode cc pc = .ok (.dup, 1)) (h1 : v.category = 1) (k : At X D A nL kc ks (pc + 1) lv (v :: v :: st) ws) : At X D A nL kc ks pc lv (v :: st) ws :=
  fun H locs ls hP hD hS hl => lv_dup C.1 C.2.1 hdg h1 (k H locs ls hP hD hS hl)
theorem r_pop (C : Cx X cc own nL D tys A lev cM sM) {v : Value} (hdg : decode cc pc = .ok (.pop, 1)) (h1 : v.category = 1) (k : At X D A nL kc ks (pc + 1) lv (st) ws) : At X D A nL kc ks pc lv (v :: st) ws :=
  fun H locs ls hP hD hS hl => lv_pop C.1 C.2.1 hdg h1 (k H locs ls hP hD hS hl)
theorem r_dup_x1 (C : Cx X cc own nL D tys A lev cM sM) {v w : Value} (hdg : decode cc pc = .ok (.dup_x1, 1)) (h1 : v.category = 1) (h2 : w.category = 1) (k : At X D A nL kc ks (pc + 1) lv (v :: w :: v :: st) ws) : At X D A nL kc ks pc lv (v :: w :: st) ws :=
  fun H locs ls hP hD hS hl => lv_dup_x1 C.1 C.2.1 hdg h1 h2 (k H locs ls hP hD hS hl)
theorem r_dup_x2 (C : Cx X cc own nL D tys A lev cM sM) {v w z : Value} (hdg : decode cc pc = .ok (.dup_x2, 1)) (h1 : v.category = 1) (h2 : w.category = 1) (h3 : z.category = 1) (k : At X D A nL kc ks (pc + 1) lv (v :: w :: z :: v :: st) ws) : At X D A nL kc ks pc lv (v :: w :: z :: st) ws :=
  fun H locs ls hP hD hS hl => lv_dup_x2 C.1 C.2.1 hdg h1 h2 h3 (k H locs ls hP hD hS hl)
theorem r_dup2_11 (C : Cx X cc own nL D tys A lev cM sM) {v w : Value} (hdg : decode cc pc = .ok (.dup2, 1)) (h1 : v.category = 1) (h2 : w.category = 1) (k : At X D A nL kc ks (pc + 1) lv (v :: w :: v :: w :: st) ws) : At X D A nL kc ks pc lv (v :: w :: st) ws :=
  fun H locs ls hP hD hS hl => lv_dup2_11 C.1 C.2.1 hdg h1 h2 (k H locs ls hP hD hS hl)
theorem r_dup2_2 (C : Cx X cc own nL D tys A lev cM sM) {v : Value} (hdg : decode cc pc = .ok (.dup2, 1)) (h1 : v.category = 2) (k : At X D A nL kc ks (pc + 1) lv (v :: v :: st) ws) : At X D A nL kc ks pc lv (v :: st) ws :=
  fun H locs ls hP hD hS hl => lv_dup2_2 C.1 C.2.1 hdg h1 (k H locs ls hP hD hS hl)
theorem r_pop2_2 (C : Cx X cc own nL D tys A lev cM sM) {v : Value} (hdg : decode cc pc = .ok (.pop2, 1)) (h1 : v.category = 2) (k : At X D A nL kc ks (pc + 1) lv (st) ws) : At X D A nL kc ks pc lv (v :: st) ws :=
  fun H locs ls hP hD hS hl => lv_pop2_2 C.1 C.2.1 hdg h1 (k H locs ls hP hD hS hl)
theorem r_if_eq (C : Cx X cc own nL D tys A lev cM sM) {x : Int32} {off : Int} {tgt : Nat} (hdg : decode cc pc = .ok (.ifCond .eq off, 3)) (ht : (pc : Int) + off = (tgt : Int)) (kt : x = 0 → At X D A nL kc ks tgt lv st ws) (kf : ¬ x = 0 → At X D A nL kc ks (pc + 3) lv st ws) : At X D A nL kc ks pc lv (.int x :: st) ws :=
  fun H locs ls hP hD hS hl => lv_if_eq C.1 C.2.1 hdg ht (fun h => kt h H locs ls hP hD hS hl) (fun h => kf h H locs ls hP hD hS hl)
theorem r_icmp_eq (C : Cx X cc own nL D tys A lev cM sM) {x y : Int32} {off : Int} {tgt : Nat} (hdg : decode cc pc = .ok (.if_icmp .eq off, 3)) (ht : (pc : Int) + off = (tgt : Int)) (kt : x = y → At X D A nL kc ks tgt lv st ws) (kf : ¬ x = y → At X D A nL kc ks (pc + 3) lv st ws) : At X D A nL kc ks pc lv (.int y :: .int x :: st) ws :=
  fun H locs ls hP hD hS hl => lv_icmp_eq C.1 C.2.1 hdg ht (fun h => kt h H locs ls hP hD hS hl) (fun h => kf h H locs ls hP hD hS hl)
theorem r_if_ne (C : Cx X cc own nL D tys A lev cM sM) {x : Int32} {off : Int} {tgt : Nat} (hdg : decode cc pc = .ok (.ifCond .ne off, 3)) (ht : (pc : Int) + off = (tgt : Int)) (kt : ¬ x = 0 → At X D A nL kc ks tgt lv st ws) (kf : x = 0 → At X D A nL kc ks (pc + 3) lv st ws) : At X D A nL kc ks pc lv (.int x :: st) ws :=
  fun H locs ls hP hD hS hl => lv_if_ne C.1 C.2.1 hdg ht (fun h => kt h H locs ls hP hD hS hl) (fun h => kf h H locs ls hP hD hS hl)
theorem r_icmp_ne (C : Cx X cc own nL D tys A lev cM sM) {x y : Int32} {off : Int} {tgt : Nat} (hdg : decode cc pc = .ok (.if_icmp .ne off, 3)) (ht : (pc : Int) + off = (tgt : Int)) (kt : ¬ x = y → At X D A nL kc ks tgt lv st ws) (kf : x = y → At X D A nL kc ks (pc + 3) lv st ws) : At X D A nL kc ks pc lv (.int y :: .int x :: st) ws :=
  fun H locs ls hP hD hS hl => lv_icmp_ne C.1 C.2.1 hdg ht (fun h => kt h H locs ls hP hD hS hl) (fun h => kf h H locs ls hP hD hS hl)
theorem r_if_lt (C : Cx X cc own nL D tys A lev cM sM) {x : Int32} {off : Int} {tgt : Nat} (hdg : decode cc pc = .ok (.ifCond .lt off, 3)) (ht : (pc : Int) + off = (tgt : Int)) (kt : x < 0 → At X D A nL kc ks tgt lv st ws) (kf : ¬ x < 0 → At X D A nL kc ks (pc + 3) lv st ws) : At X D A nL kc ks pc lv (.int x :: st) ws :=
  fun H locs ls hP hD hS hl => lv_if_lt C.1 C.2.1 hdg ht (fun h => kt h H locs ls hP hD hS hl) (fun h => kf h H locs ls hP hD hS hl)
theorem r_icmp_lt (C : Cx X cc own nL D tys A lev cM sM) {x y : Int32} {off : Int} {tgt : Nat} (hdg : decode cc pc = .ok (.if_icmp .lt off, 3)) (ht : (pc : Int) + off = (tgt : Int)) (kt : x < y → At X D A nL kc ks tgt lv st ws) (kf : ¬ x < y → At X D A nL kc ks (pc + 3) lv st ws) : At X D A nL kc ks pc lv (.int y :: .int x :: st) ws :=
  fun H locs ls hP hD hS hl => lv_icmp_lt C.1 C.2.1 hdg ht (fun h => kt h H locs ls hP hD hS hl) (fun h => kf h H locs ls hP hD hS hl)
theorem r_if_ge (C : Cx X cc own nL D tys A lev cM sM) {x : Int32} {off : Int} {tgt : Nat} (hdg : decode cc pc = .ok (.ifCond .ge off, 3)) (ht : (pc : Int) + off = (tgt : Int)) (kt : 0 ≤ x → At X D A nL kc ks tgt lv st ws) (kf : ¬ 0 ≤ x → At X D A nL kc ks (pc + 3) lv st ws) : At X D A nL kc ks pc lv (.int x :: st) ws :=
  fun H locs ls hP hD hS hl => lv_if_ge C.1 C.2.1 hdg ht (fun h => kt h H locs ls hP hD hS hl) (fun h => kf h H locs ls hP hD hS hl)
theorem r_icmp_ge (C : Cx X cc own nL D tys A lev cM sM) {x y : Int32} {off : Int} {tgt : Nat} (hdg : decode cc pc = .ok (.if_icmp .ge off, 3)) (ht : (pc : Int) + off = (tgt : Int)) (kt : y ≤ x → At X D A nL kc ks tgt lv st ws) (kf : ¬ y ≤ x → At X D A nL kc ks (pc + 3) lv st ws) : At X D A nL kc ks pc lv (.int y :: .int x :: st) ws :=
  fun H locs ls hP hD hS hl => lv_icmp_ge C.1 C.2.1 hdg ht (fun h => kt h H locs ls hP hD hS hl) (fun h => kf h H locs ls hP hD hS hl)
theorem r_if_gt (C : Cx X cc own nL D tys A lev cM sM) {x : Int32} {off : Int} {tgt : Nat} (hdg : decode cc pc = .ok (.ifCond .gt off, 3)) (ht : (pc : Int) + off = (tgt : Int)) (kt : 0 < x → At X D A nL kc ks tgt lv st ws) (kf : ¬ 0 < x → At X D A nL kc ks (pc + 3) lv st ws) : At X D A nL kc ks pc lv (.int x :: st) ws :=
  fun H locs ls hP hD hS hl => lv_if_gt C.1 C.2.1 hdg ht (fun h => kt h H locs ls hP hD hS hl) (fun h => kf h H locs ls hP hD hS hl)
theorem r_icmp_gt (C : Cx X cc own nL D tys A lev cM sM) {x y : Int32} {off : Int} {tgt : Nat} (hdg : decode cc pc = .ok (.if_icmp .gt off, 3)) (ht : (pc : Int) + off = (tgt : Int)) (kt : y < x → At X D A nL kc ks tgt lv st ws) (kf : ¬ y < x → At X D A nL kc ks (pc + 3) lv st ws) : At X D A nL kc ks pc lv (.int y :: .int x :: st) ws :=
  fun H locs ls hP hD hS hl => lv_icmp_gt C.1 C.2.1 hdg ht (fun h => kt h H locs ls hP hD hS hl) (fun h => kf h H locs ls hP hD hS hl)
theorem r_if_le (C : Cx X cc own nL D tys A lev cM sM) {x : Int32} {off : Int} {tgt : Nat} (hdg : decode cc pc = .ok (.ifCond .le off, 3)) (ht : (pc : Int) + off = (tgt : Int)) (kt : x ≤ 0 → At X D A nL kc ks tgt lv st ws) (kf : ¬ x ≤ 0 → At X D A nL kc ks (pc + 3) lv st ws) : At X D A nL kc ks pc lv (.int x :: st) ws :=
  fun H locs ls hP hD hS hl => lv_if_le C.1 C.2.1 hdg ht (fun h => kt h H locs ls hP hD hS hl) (fun h => kf h H locs ls hP hD hS hl)
theorem r_icmp_le (C : Cx X cc own nL D tys A lev cM sM) {x y : Int32} {off : Int} {tgt : Nat} (hdg : decode cc pc = .ok (.if_icmp .le off, 3)) (ht : (pc : Int) + off = (tgt : Int)) (kt : x ≤ y → At X D A nL kc ks tgt lv st ws) (kf : ¬ x ≤ y → At X D A nL kc ks (pc + 3) lv st ws) : At X D A nL kc ks pc lv (.int y :: .int x :: st) ws :=
  fun H locs ls hP hD hS hl => lv_icmp_le C.1 C.2.1 hdg ht (fun h => kt h H locs ls hP hD hS hl) (fun h => kf h H locs ls hP hD hS hl)
end Rows
end
section
/-! rows over the world: fields, arrays, returns, calls, loops -/
section Heap
variable {X : CX} {cc : ByteArray} {own : String} {nL : Nat} {D : va_G} {tys : List (ClassId × FieldType)} {A : Nat → Prop} {lev cM sM kc ks pc : Nat} {lv lv' : List (Nat × Value)} {st : List Value} {ws ws' : va_W}
theorem r_ws (h : ws = ws') (k : At X D A nL kc ks pc lv st ws') : At X D A nL kc ks pc lv st ws := h ▸ k
theorem r_get (C : Cx X cc own nL D tys A lev cM sM) (q0 : Nat) {a ci index k N : Nat} {fs : List Value} {CC ref : String} {T : u_T} {v : Value} (hw : ∀ w ∈ u_ws CC T N, w ∈ gT) (he : ws[q0]? = some (a, .inr (ci, fs))) (hc : vwCl[ci]? = some (CC, T, N)) (hk : k < N)
    (hlink : Cond.fieldLink own index ref (T k).2.1 (T k).2.2.1 ∈ gT) (href : (T k).1 = ref) (hv : fs[k]? = some v) (hdg : decode cc pc = .ok (.getfield index, 3)) (kk : At X D A nL kc ks (pc + 3) lv (v :: st) ws) : At X D A nL kc ks pc lv (.ref a :: st) ws :=
  fun H locs ls hP hD hS hl => va_get C.1 C.2.1 C.2.2.2.2.1 hw C.2.2.2.1 C.2.2.2.2.2.1 hP q0 he hc k hk (C.2.2.2.2.1 _ hlink) (fun _ h => href ▸ h) hv hdg (kk H locs ls hP hD hS hl)
theorem r_put (C : Cx X cc own nL D tys A lev cM sM) (q0 : Nat) {a ci index k N : Nat} {fs : List Value} {CC ref : String} {T : u_T} {ty0 : Nat → FieldType} {v : Value} {ty : FieldType} (hw : ∀ w ∈ u_ws CC T N, w ∈ gT) (hty : ∀ k, k < N → parseFieldDescriptor (T k).2.2.1 = some (ty0 k)) (hnm : ∀ a, a < N → ∀ b, b < N → a ≠ b → (T a).2.1 ≠ (T b).2.1)
    (he : ws[q0]? = some (a, .inr (ci, fs))) (hc : vwCl[ci]? = some (CC, T, N)) (hk : k < N) (hlink : Cond.fieldLink own index ref (T k).2.1 (T k).2.2.1 ∈ gT) (href : (T k).1 = ref) (hfin : (T k).2.2.2 = false) (hd : ty0 k = ty) (hn : narrow ty v = v) (hfit : fits ty v = true) (hl : k < fs.length)
    (hws : ws.set q0 (a, .inr (ci, fs.set k v)) = ws') (hdg : decode cc pc = .ok (.putfield index, 3)) (kk : At X D A nL kc ks (pc + 3) lv st ws') : At X D A nL kc ks pc lv (v :: .ref a :: st) ws :=
  fun _ _ ls hP hD hS h => va_put C.1 C.2.1 C.2.2.2.2.1 hw ty0 hty hnm C.2.2.2.1 C.2.2.2.2.2.1 hP hD hS q0 he hc k hk (C.2.2.2.2.1 _ hlink) (fun _ h => href ▸ h) hfin (hd ▸ hty k hk) hn hfit hl hdg (fun H1 locs1 hP1 hD1 hS1 => kk H1 locs1 ls (hws ▸ hP1) (hws ▸ hD1) hS1 h)
theorem r_putF (C : Cx X cc own nL D tys A lev cM sM) (q0 : Nat) {a ci index k N : Nat} {fs : List Value} {CC ref : String} {T : u_T} {ty0 : Nat → FieldType} {v : Value} {ty : FieldType} (hw : ∀ w ∈ u_ws CC T N, w ∈ gT) (hty : ∀ k, k < N → parseFieldDescriptor (T k).2.2.1 = some (ty0 k)) (hnm : ∀ a, a < N → ∀ b, b < N → a ≠ b → (T a).2.1 ≠ (T b).2.1)
    (he : ws[q0]? = some (a, .inr (ci, fs))) (hc : vwCl[ci]? = some (CC, T, N)) (hk : k < N) (hlink : Cond.fieldLink own index ref (T k).2.1 (T k).2.2.1 ∈ gT) (href : (T k).1 = ref) (hfin : (T k).2.2.2 = true) (hin : X.2.1.2.2.2.1.name = "<init>") (hdecl : (T k).1 = own) (hd : ty0 k = ty) (hn : narrow ty v = v) (hfit : fits ty v = true) (hl : k < fs.length)
    (hws : ws.set q0 (a, .inr (ci, fs.set k v)) = ws') (hdg : decode cc pc = .ok (.putfield index, 3)) (kk : At X D A nL kc ks (pc + 3) lv st ws') : At X D A nL kc ks pc lv (v :: .ref a :: st) ws :=
  fun _ _ ls hP hD hS h => va_putF C.1 C.2.1 C.2.2.2.2.1 hw ty0 hty hnm C.2.2.2.1 C.2.2.2.2.2.1 hP hD hS q0 he hc k hk (C.2.2.2.2.1 _ hlink) (fun _ h => href ▸ h) hfin hin hdecl (hd ▸ hty k hk) hn hfit hl hdg (fun H1 locs1 hP1 hD1 hS1 => kk H1 locs1 ls (hws ▸ hP1) (hws ▸ hD1) hS1 h)
theorem r_iald (C : Cx X cc own nL D tys A lev cM sM) (q0 t0 : Nat) {a n : Nat} {cA : ClassId} {f : Nat → Int32} {i : Int32} (ha : ws[q0]? = some (a, .inl (cA, n, .inl f))) (ht : tys[t0]? = some (cA, .int)) (hin : vp_in i n) (hdg : decode cc pc = .ok (.iaload, 1)) (kk : At X D A nL kc ks (pc + 1) lv (.int (f i.toNatClampNeg) :: st) ws) : At X D A nL kc ks pc lv (.int i :: .ref a :: st) ws :=
  fun H locs ls hP hD hS hl => va_iald C.1 C.2.1 C.2.2.2.2.2.1 hP q0 t0 ha ht hin hdg (kk H locs ls hP hD hS hl)
theorem r_zald (C : Cx X cc own nL D tys A lev cM sM) (q0 t0 : Nat) {a n : Nat} {cA : ClassId} {f : Nat → Int32} {i : Int32} (ha : ws[q0]? = some (a, .inl (cA, n, .inl f))) (ht : tys[t0]? = some (cA, .boolean)) (hin : vp_in i n) (hdg : decode cc pc = .ok (.baload, 1)) (kk : At X D A nL kc ks (pc + 1) lv (.int (f i.toNatClampNeg) :: st) ws) : At X D A nL kc ks pc lv (.int i :: .ref a :: st) ws :=
  fun H locs ls hP hD hS hl => va_zald C.1 C.2.1 C.2.2.2.2.2.1 hP q0 t0 ha ht hin hdg (kk H locs ls hP hD hS hl)
theorem r_lald (C : Cx X cc own nL D tys A lev cM sM) (q0 t0 : Nat) {a n : Nat} {cA : ClassId} {f : Nat → Int64} {i : Int32} (ha : ws[q0]? = some (a, .inl (cA, n, .inr (.inl f)))) (ht : tys[t0]? = some (cA, .long)) (hin : vp_in i n) (hdg : decode cc pc = .ok (.laload, 1)) (kk : At X D A nL kc ks (pc + 1) lv (.long (f i.toNatClampNeg) :: st) ws) : At X D A nL kc ks pc lv (.int i :: .ref a :: st) ws :=
  fun H locs ls hP hD hS hl => va_lald C.1 C.2.1 C.2.2.2.2.2.1 hP q0 t0 ha ht hin hdg (kk H locs ls hP hD hS hl)
theorem r_aald (C : Cx X cc own nL D tys A lev cM sM) (q0 t0 : Nat) {a n : Nat} {cA : ClassId} {EC : String} {f : Nat → Option Nat} {i : Int32} (ha : ws[q0]? = some (a, .inl (cA, n, .inr (.inr (.inr (.inr f)))))) (ht : tys[t0]? = some (cA, .object EC)) (hin : vp_in i n) (hdg : decode cc pc = .ok (.aaload, 1)) (kk : At X D A nL kc ks (pc + 1) lv (va_rf (f i.toNatClampNeg) :: st) ws) : At X D A nL kc ks pc lv (.int i :: .ref a :: st) ws :=
  fun H locs ls hP hD hS hl => va_aldq C.1 C.2.1 C.2.2.2.2.2.1 hP q0 t0 ha ht hin hdg (kk H locs ls hP hD hS hl)
theorem r_iast (C : Cx X cc own nL D tys A lev cM sM) (q0 t0 : Nat) {a n : Nat} {cA : ClassId} {f : Nat → Int32} {i x : Int32} (ha : ws[q0]? = some (a, .inl (cA, n, .inl f))) (ht : tys[t0]? = some (cA, .int)) (hin : vp_in i n) (hws : ws.set q0 (a, .inl (cA, n, .inl (upd f i.toNatClampNeg x))) = ws') (hdg : decode cc pc = .ok (.iastore, 1)) (kk : At X D A nL kc ks (pc + 1) lv st ws') : At X D A nL kc ks pc lv (.int x :: .int i :: .ref a :: st) ws :=
  fun _ _ ls hP hD hS hl => va_iast C.1 C.2.1 C.2.2.2.2.2.1 hP hD hS q0 t0 ha ht hin hdg (fun H1 locs1 hP1 hD1 hS1 => kk H1 locs1 ls (hws ▸ hP1) (hws ▸ hD1) hS1 hl)
theorem r_zast (C : Cx X cc own nL D tys A lev cM sM) (q0 t0 : Nat) {a n : Nat} {cA : ClassId} {f : Nat → Int32} {i x : Int32} (ha : ws[q0]? = some (a, .inl (cA, n, .inl f))) (ht : tys[t0]? = some (cA, .boolean)) (hin : vp_in i n) (hws : ws.set q0 (a, .inl (cA, n, .inl (upd f i.toNatClampNeg (vp_nar .boolean x)))) = ws') (hdg : decode cc pc = .ok (.bastore, 1)) (kk : At X D A nL kc ks (pc + 1) lv st ws') : At X D A nL kc ks pc lv (.int x :: .int i :: .ref a :: st) ws :=
  fun _ _ ls hP hD hS hl => va_zast C.1 C.2.1 C.2.2.2.2.2.1 hP hD hS q0 t0 ha ht hin hdg (fun H1 locs1 hP1 hD1 hS1 => kk H1 locs1 ls (hws ▸ hP1) (hws ▸ hD1) hS1 hl)
theorem r_last (C : Cx X cc own nL D tys A lev cM sM) (q0 t0 : Nat) {a n : Nat} {cA : ClassId} {f : Nat → Int64} {i : Int32} {x : Int64} (ha : ws[q0]? = some (a, .inl (cA, n, .inr (.inl f)))) (ht : tys[t0]? = some (cA, .long)) (hin : vp_in i n) (hws : ws.set q0 (a, .inl (cA, n, .inr (.inl (vp_updL f i.toNatClampNeg x)))) = ws') (hdg : decode cc pc = .ok (.lastore, 1)) (kk : At X D A nL kc ks (pc + 1) lv st ws') : At X D A nL kc ks pc lv (.long x :: .int i :: .ref a :: st) ws :=
  fun _ _ ls hP hD hS hl => va_last C.1 C.2.1 C.2.2.2.2.2.1 hP hD hS q0 t0 ha ht hin hdg (fun H1 locs1 hP1 hD1 hS1 => kk H1 locs1 ls (hws ▸ hP1) (hws ▸ hD1) hS1 hl)
theorem r_alen (C : Cx X cc own nL D tys A lev cM sM) (q0 t0 : Nat) {a : Nat} {cA : ClassId} {x : vp_A} {ty : FieldType} {v : Int32} (ha : ws[q0]? = some (a, .inl (cA, x))) (ht : tys[t0]? = some (cA, ty)) (hv : Int32.ofNat x.1 = v) (hdg : decode cc pc = .ok (.arraylength, 1)) (kk : At X D A nL kc ks (pc + 1) lv (.int v :: st) ws) : At X D A nL kc ks pc lv (.ref a :: st) ws :=
  fun H locs ls hP hD hS hl => va_alen C.1 C.2.1 C.2.2.2.2.2.1 hP q0 t0 ha ht hv hdg (kk H locs ls hP hD hS hl)
theorem r_widen {kc' ks' : Nat} (h1 : kc ≤ kc') (h2 : ks ≤ ks') (k : At X D A nL kc' ks' pc lv st ws) : At X D A nL kc ks pc lv st ws :=
  fun H locs ls hP hD hS hl => W.widen h1 h2 (k H locs ls hP hD hS hl)
theorem r_iret (C : Cx X cc own nL D tys A lev cM sM) {post : Option Value → va_W → Prop} {v : Int32} (hR : Rt X (some .int) D tys A kc ks post) (hdg : decode cc pc = .ok (.ireturn, 1)) (hp : post (some (.int v)) ws) : At X D A nL kc ks pc lv [.int v] ws := by
  intro H locs ls hP hD hS hl
  rw [hR.1]
  exact W.iret C.1 C.2.1 hR.2.1 (fun t ht hW => ⟨⟨some (.int v), ws, rfl, hp, ht ▸ hP, va_K.moved hW.alike C.2.2.2.2.2.1, hD⟩, hS.F ht⟩) hS.2.2 hdg hR.2.2
theorem r_zret (C : Cx X cc own nL D tys A lev cM sM) {post : Option Value → va_W → Prop} {v : Int32} {ty : FieldType} (hn : narrow ty (.int v) = .int v) (hR : Rt X (some ty) D tys A kc ks post) (hdg : decode cc pc = .ok (.ireturn, 1)) (hp : post (some (.int v)) ws) : At X D A nL kc ks pc lv [.int v] ws := by
  intro H locs ls hP hD hS hl
  rw [hR.1]
  exact W.zret C.1 C.2.1 hR.2.1 hn (fun t ht hW => ⟨⟨some (.int v), ws, rfl, hp, ht ▸ hP, va_K.moved hW.alike C.2.2.2.2.2.1, hD⟩, hS.F ht⟩) hS.2.2 hdg hR.2.2
theorem r_lret (C : Cx X cc own nL D tys A lev cM sM) {post : Option Value → va_W → Prop} {v : Int64} (hR : Rt X (some .long) D tys A kc ks post) (hdg : decode cc pc = .ok (.lreturn, 1)) (hp : post (some (.long v)) ws) : At X D A nL kc ks pc lv [.long v] ws := by
  intro H locs ls hP hD hS hl
  rw [hR.1]
  exact W.lret C.1 C.2.1 hR.2.1 (fun t ht hW => ⟨⟨some (.long v), ws, rfl, hp, ht ▸ hP, va_K.moved hW.alike C.2.2.2.2.2.1, hD⟩, hS.F ht⟩) hS.2.2 hdg hR.2.2
theorem r_vret (C : Cx X cc own nL D tys A lev cM sM) {post : Option Value → va_W → Prop} (hR : Rt X none D tys A kc ks post) (hdg : decode cc pc = .ok (.return_, 1)) (hp : post none ws) : At X D A nL kc ks pc lv [] ws := by
  intro H locs ls hP hD hS hl
  rw [hR.1]
  exact W.vret C.1 C.2.1 hR.2.1 (fun t ht hW => ⟨⟨none, ws, rfl, hp, ht ▸ hP, va_K.moved hW.alike C.2.2.2.2.2.1, hD⟩, hS.F ht⟩) hS.2.2 hdg hR.2.2
/-- lcmp and the branch behind it -/
theorem r_lif_lt (C : Cx X cc own nL D tys A lev cM sM) {x y : Int64} {off : Int} {tgt : Nat} (h1 : decode cc pc = .ok (.lcmp, 1)) (h2 : decode cc (pc + 1) = .ok (.ifCond .lt off, 3)) (ht : ((pc + 1 : Nat) : Int) + off = (tgt : Int)) (kt : x < y → At X D A nL kc ks tgt lv st ws) (kf : ¬ x < y → At X D A nL kc ks (pc + 4) lv st ws) : At X D A nL kc ks pc lv (.long y :: .long x :: st) ws :=
  r_lcmp C h1 (r_if_lt C h2 ht (fun h => kt ((lg_cmp_lt x y).mp h)) (fun h => kf (fun g => h ((lg_cmp_lt x y).mpr g))))
theorem r_lif_le (C : Cx X cc own nL D tys A lev cM sM) {x y : Int64} {off : Int} {tgt : Nat} (h1 : decode cc pc = .ok (.lcmp, 1)) (h2 : decode cc (pc + 1) = .ok (.ifCond .le off, 3)) (ht : ((pc + 1 : Nat) : Int) + off = (tgt : Int)) (kt : x ≤ y → At X D A nL kc ks tgt lv st ws) (kf : ¬ x ≤ y → At X D A nL kc ks (pc + 4) lv st ws) : At X D A nL kc ks pc lv (.long y :: .long x :: st) ws :=
  r_lcmp C h1 (r_if_le C h2 ht (fun h => kt ((lg_cmp_le x y).mp h)) (fun h => kf (fun g => h ((lg_cmp_le x y).mpr g))))
theorem r_lif_gt (C : Cx X cc own nL D tys A lev cM sM) {x y : Int64} {off : Int} {tgt : Nat} (h1 : decode cc pc = .ok (.lcmp, 1)) (h2 : decode cc (pc + 1) = .ok (.ifCond .gt off, 3)) (ht : ((pc + 1 : Nat) : Int) + off = (tgt : Int)) (kt : y < x → At X D A nL kc ks tgt lv st ws) (kf : ¬ y < x → At X D A nL kc ks (pc + 4) lv st ws) : At X D A nL kc ks pc lv (.long y :: .long x :: st) ws :=
  r_lcmp C h1 (r_if_gt C h2 ht (fun h => kt ((lg_cmp_gt x y).mp h)) (fun h => kf (fun g => h ((lg_cmp_gt x y).mpr g))))
theorem r_lif_ge (C : Cx X cc own nL D tys A lev cM sM) {x y : Int64} {off : Int} {tgt : Nat} (h1 : decode cc pc = .ok (.lcmp, 1)) (h2 : decode cc (pc + 1) = .ok (.ifCond .ge off, 3)) (ht : ((pc + 1 : Nat) : Int) + off = (tgt : Int)) (kt : y ≤ x → At X D A nL kc ks tgt lv st ws) (kf : ¬ y ≤ x → At X D A nL kc ks (pc + 4) lv st ws) : At X D A nL kc ks pc lv (.long y :: .long x :: st) ws :=
  r_lcmp C h1 (r_if_ge C h2 ht (fun h => kt ((lg_cmp_ge x y).mp h)) (fun h => kf (fun g => h ((lg_cmp_ge x y).mpr g))))
theorem r_lif_eq (C : Cx X cc own nL D tys A lev cM sM) {x y : Int64} {off : Int} {tgt : Nat} (h1 : decode cc pc = .ok (.lcmp, 1)) (h2 : decode cc (pc + 1) = .ok (.ifCond .eq off, 3)) (ht : ((pc + 1 : Nat) : Int) + off = (tgt : Int)) (kt : x = y → At X D A nL kc ks tgt lv st ws) (kf : ¬ x = y → At X D A nL kc ks (pc + 4) lv st ws) : At X D A nL kc ks pc lv (.long y :: .long x :: st) ws :=
  r_lcmp C h1 (r_if_eq C h2 ht (fun h => kt ((lg_cmp_eq x y).mp h)) (fun h => kf (fun g => h ((lg_cmp_eq x y).mpr g))))
theorem r_lif_ne (C : Cx X cc own nL D tys A lev cM sM) {x y : Int64} {off : Int} {tgt : Nat} (h1 : decode cc pc = .ok (.lcmp, 1)) (h2 : decode cc (pc + 1) = .ok (.ifCond .ne off, 3)) (ht : ((pc + 1 : Nat) : Int) + off = (tgt : Int)) (kt : ¬ x = y → At X D A nL kc ks tgt lv st ws) (kf : x = y → At X D A nL kc ks (pc + 4) lv st ws) : At X D A nL kc ks pc lv (.long y :: .long x :: st) ws :=
  r_lcmp C h1 (r_if_ne C h2 ht (fun h => kt (fun g => h ((lg_cmp_eq x y).mpr g))) (fun h => kf ((lg_cmp_eq x y).mp h)))
end Heap
/-- the statics stay where nothing of A is theirs -/
theorem Stt.sub {D : va_G} {A B : Nat → Prop} {u : State} {H0 H : Heap} {locs : List Loc} (hS : va_S A H0 H locs) (hAB : ∀ q, B q → A q) (h : Stt D A u H0) : Stt D B u H := by
  obtain ⟨⟨a1, b1⟩, ⟨a2, b2⟩, ⟨a3, b3⟩, a4, ⟨v, hv, a5⟩, a6, a7, a8⟩ := h
  have hk : ∀ a : Nat, a < H0.size → ¬ A a → H[a]? = H0[a]? := hS.2.1
  exact ⟨⟨(a1.kept hk).narrow hAB, (b1.kept hk).narrow hAB⟩, ⟨(a2.kept hk).narrow hAB, (b2.kept hk).narrow hAB⟩, ⟨(a3.kept hk).narrow hAB, (b3.kept hk).narrow hAB⟩, (a4.kept hk).narrow hAB, ⟨v, hv, (a5.kept hk).narrow hAB⟩, (a6.kept hk).narrow hAB, a7, a8⟩
/-- the words of a method that is called on an object; of a static one -/
def MV (y : MethodName) (cc : ByteArray) (nL : Nat) (ret : Option FieldType) (C : String) (n : Nat) : Prop :=
  Cond.instanceMethod y ∈ gT ∧ Cond.selects C y y ∈ gT ∧ Cond.initialized C ∈ gT ∧ Cond.code y cc nL ret ∈ gT ∧ (y.cls = C ∧ y.cls ≠ "java/lang/invoke/MethodHandle" ∧ y.cls ≠ "java/lang/invoke/VarHandle" ∧ (parseMethodDescriptor y.desc).map (fun d => d.parameters.length) = some n)
def MS_ (y : MethodName) (cc : ByteArray) (nL : Nat) (ret : Option FieldType) (n : Nat) : Prop :=
  Cond.static y ∈ gT ∧ Cond.initialized y.cls ∈ gT ∧ Cond.code y cc nL ret ∈ gT ∧ (y.cls ≠ "java/lang/invoke/MethodHandle" ∧ y.cls ≠ "java/lang/invoke/VarHandle" ∧ (parseMethodDescriptor y.desc).map (fun d => d.parameters.length) = some n)
section Calls5
variable {X : CX} {cc : ByteArray} {own : String} {nL : Nat} {D : va_G} {tys : List (ClassId × FieldType)} {A : Nat → Prop} {lev cM sM kc ks pc : Nat} {lv lv' : List (Nat × Value)} {st stk : List Value} {ws ws' wc wr : va_W}
variable {y : MethodName} {cc' : ByteArray} {nL' lev' mc ms idx n : Nat} {ret : Option FieldType} {as : List Value} {post : Option Value → va_W → Prop} {CC : String} {b : Nat}
set_option maxHeartbeats 2000000 in
/-- behind a call -/
theorem r_back (hC0 : Cx X cc own nL D tys A lev cM sM) (isC isR : List Nat) (hC : isC.map (fun i => ws[i]?) = wc.map some) (hR : isR.map (fun i => ws[i]?) = wr.map some) (hn : va_nd isR = true) (hdis : ∀ i ∈ isR, i ∉ isC) {aa : Array Value}
    {H : Heap} {locs : List Loc} {ls : Array Slot} (hP : va_P D vwCl ws H) (hD : va_D A ws) (hS : va_S A X.1.2.2.2.2.heap H locs) (hl : lv_has ls nL lv)
    (hrun : va_Run X.1.1 X.1.2.1 X.1.2.2.1 X.1.2.2.2.1 X.1.2.2.2.2 X.2.1.1 X.2.1.2.1 X.2.1.2.2.1 X.2.1.2.2.2.1 X.2.1.2.2.2.2 H locs kc ks mc ms (F0 X.2.1.1 pc ls stk) st (gQ post D tys (va_A wc H.size) aa) (va_A wc H.size))
    (k : ∀ (v : Option Value) (w : va_W), post v w → At X D A nL (kc + mc) (ks + ms) (pc + 3) lv (v.toList ++ st) (wr ++ w)) :
    W X.1.1 X.1.2.1 X.1.2.2.1 X.1.2.2.2.1 X.1.2.2.2.2 X.2.1.1 X.2.1.2.1 X.2.1.2.2.1 X.2.1.2.2.2.1 X.2.1.2.2.2.2 H locs kc ks X.2.2 (F0 X.2.1.1 pc ls stk) := by
  intro T hT XX
  have hFc := va_free (wc := wc) hD hS hC0.2.2.2.2.2.2.1 isC hC
  obtain ⟨v, st₀, t, T', L, h0, X', hL, e1, e2, ⟨⟨v', w, hv, hp, hPw, hKw, hDw⟩, hz, hk⟩, stp⟩ := hrun T hT XX
  cases hv
  rw [h0] at hz hk
  obtain ⟨hP1, hD1⟩ := va_join hP hD isC isR hC hR hn hdis (H1 := t.heap) hk hFc hPw hDw
  obtain ⟨t2, a1, b1⟩ := k v w hp T'.heap (locs ++ L) ls (e1 ▸ hP1) hD1
    ⟨Nat.le_trans hS.1 (by rw [e1]; exact hz), fun q h1 h2 => by rw [e1, hk q (Nat.lt_of_lt_of_le h1 hS.1) (fun z => h2 (hFc q z))]; exact hS.2.1 q h1 h2, fun q hq => by
      rcases List.mem_append.mp hq with h | h
      · exact hS.2.2 q h
      · exact hFc _ (hL q h)⟩ hl T' rfl X'
  exact ⟨t2, stp t2 a1, b1⟩
set_option maxHeartbeats 2000000 in
theorem r_callV (C : Cx X cc own nL D tys A lev cM sM) (hM : Con y cc' nL' ret lev' mc ms D tys (.ref b :: as) wc post) (hw : MV y cc' nL' ret CC n) (hlk : Cond.methodLink own idx y ∈ gT) (hlev : lev' + 1 ≤ lev) (hnL : nL' ≤ 21) (hcap : kc + mc ≤ cM ∧ ks + ms ≤ sM)
    {q0 ci : Nat} {fs : List Value} {T : u_T} {N : Nat} (hrc : vwCl[ci]? = some (CC, T, N)) (hre : wc[q0]? = some (b, .inr (ci, fs)))
    (isC isR : List Nat) (hC : isC.map (fun i => ws[i]?) = wc.map some) (hCf : isC.filterMap (fun i => ws[i]?) = wc) (hCn : va_nd isC = true) (hR : isR.map (fun i => ws[i]?) = wr.map some) (hnd : va_nd isR = true) (hdis : ∀ i ∈ isR, i ∉ isC)
    (hn : as.length = n) (hstk : stk = as.reverse ++ .ref b :: st) (hW : (st.map fun v => v.category).sum ≤ 8) (hdg : decode cc pc = .ok (.invokevirtual idx, 3))
    (k : ∀ (v : Option Value) (w : va_W), post v w → At X D A nL (kc + mc) (ks + ms) (pc + 3) lv (v.toList ++ st) (wr ++ w)) : At X D A nL kc ks pc lv stk ws := by
  intro H locs ls hP hD hS hl
  have hPc := hP.sub (ws' := wc) isC hCf
  have hDc := hD.sub (ws' := wc) isC hCn hC
  have hFc := va_free (wc := wc) hD hS C.2.2.2.2.2.2.1 isC hC
  obtain ⟨hx, hb, hml, hown, hts, hK, hA, hf1, hf2, hc1, hc2, hSt⟩ := C
  obtain ⟨w1, w2, w3, w4, w5⟩ := hw
  have hG : GoodIn gT (wsV own idx CC y (Cond.code y cc' nL' ret :: gT)) := by
    intro w h
    rcases List.mem_append.mp h with h | h
    · simp only [List.mem_cons, List.not_mem_nil, or_false] at h
      rcases h with rfl | rfl | rfl | rfl
      · exact gT_self _ hlk
      · exact gT_self _ w1
      · exact gT_self _ w2
      · exact gT_self _ w3
    · exact gT_c w4 w h
  refine r_back ⟨hx, hb, hml, hown, hts, hK, hA, hf1, hf2, hc1, hc2, hSt⟩ isC isR hC hR hnd hdis hP hD hS hl (va_runV (g := F0 X.2.1.1 pc ls stk) (As := as) ⟨hx, hb, hml, hown, hts⟩ (hM X.1.2.1 H.size) (cwV n hts hG rfl rfl rfl w5 ⟨by show lev' + 1 ≤ _; omega, by show 8 + (nL' + 11) + 40 * lev' ≤ _; omega⟩) ⟨gB_blind, va_recv hK hPc hrc hre, fun U hU hWm => ⟨rfl, by rw [hU], by rw [hU]; exact hPc, va_K.moved hWm.alike hK, hDc.weaken (fun _ _ _ _ => trivial), ?_⟩⟩ rfl hn hl.1 hstk (lv_room hW) hdg ⟨by rw [hc1]; exact hcap.1, by rw [hc2]; exact hcap.2⟩) k
  rw [hU]
  exact (Stt.sub hS hFc hSt).moved hWm.alike (fun h => h.warm hWm)
set_option maxHeartbeats 2000000 in
theorem r_callS (C : Cx X cc own nL D tys A lev cM sM) (hM : Con y cc' nL' ret lev' mc ms D tys as wc post) (hw : MS_ y cc' nL' ret n) (hlk : Cond.methodLink own idx y ∈ gT) (hlev : lev' + 1 ≤ lev) (hnL : nL' ≤ 21) (hcap : kc + mc ≤ cM ∧ ks + ms ≤ sM)
    (isC isR : List Nat) (hC : isC.map (fun i => ws[i]?) = wc.map some) (hCf : isC.filterMap (fun i => ws[i]?) = wc) (hCn : va_nd isC = true) (hR : isR.map (fun i => ws[i]?) = wr.map some) (hnd : va_nd isR = true) (hdis : ∀ i ∈ isR, i ∉ isC)
    (hn : as.length = n) (hstk : stk = as.reverse ++ st) (hW : (st.map fun v => v.category).sum ≤ 8) (hdg : decode cc pc = .ok (.invokestatic idx, 3))
    (k : ∀ (v : Option Value) (w : va_W), post v w → At X D A nL (kc + mc) (ks + ms) (pc + 3) lv (v.toList ++ st) (wr ++ w)) : At X D A nL kc ks pc lv stk ws := by
  intro H locs ls hP hD hS hl
  have hPc := hP.sub (ws' := wc) isC hCf
  have hDc := hD.sub (ws' := wc) isC hCn hC
  have hFc := va_free (wc := wc) hD hS C.2.2.2.2.2.2.1 isC hC
  obtain ⟨hx, hb, hml, hown, hts, hK, hA, hf1, hf2, hc1, hc2, hSt⟩ := C
  obtain ⟨w1, w2, w3, w4⟩ := hw
  have hG : GoodIn gT (va_wsS own idx y (Cond.code y cc' nL' ret :: gT)) := by
    intro w h
    rcases List.mem_append.mp h with h | h
    · simp only [List.mem_cons, List.not_mem_nil, or_false] at h
      rcases h with rfl | rfl | rfl
      · exact gT_self _ hlk
      · exact gT_self _ w1
      · exact gT_self _ w2
    · exact gT_c w3 w h
  refine r_back ⟨hx, hb, hml, hown, hts, hK, hA, hf1, hf2, hc1, hc2, hSt⟩ isC isR hC hR hnd hdis hP hD hS hl (va_runS (g := F0 X.2.1.1 pc ls stk) (As := as) ⟨hx, hb, hml, hown, hts⟩ (hM X.1.2.1 H.size) (va_cwS n hts hG rfl rfl rfl w4 ⟨by show lev' + 1 ≤ _; omega, by show 8 + (nL' + 11) + 40 * lev' ≤ _; omega⟩) ⟨gB_blind, fun U hU hWm => ⟨rfl, by rw [hU], by rw [hU]; exact hPc, va_K.moved hWm.alike hK, hDc.weaken (fun _ _ _ _ => trivial), ?_⟩⟩ rfl hn hl.1 hstk (lv_room hW) hdg ⟨by rw [hc1]; exact hcap.1, by rw [hc2]; exact hcap.2⟩) k
  rw [hU]
  exact (Stt.sub hS hFc hSt).moved hWm.alike (fun h => h.warm hWm)
end Calls5
/-! loops: a body over what comes behind it, and as often as it goes -/
def lp {V R : Type} (d : R) (body : (V → R) → V → R) : Nat → V → R
  | 0, _ => d
  | n + 1, v => body (lp d body n) v
def lpOk {V : Type} (ok : (V → Prop) → V → Prop) : Nat → V → Prop
  | 0, _ => False
  | n + 1, v => ok (lpOk ok n) v
theorem lp_rule {V R : Type} {d : R} {body : (V → R) → V → R} {ok : (V → Prop) → V → Prop} (Wt : V → R → Prop) (h : ∀ (kR : V → R) (kO : V → Prop), (∀ v, kO v → Wt v (kR v)) → ∀ v, ok kO v → Wt v (body kR v)) : ∀ (n : Nat) (v : V), lpOk ok n v → Wt v (lp d body n v)
  | 0, _, hk => hk.elim
  | n + 1, v, hk => h (lp d body n) (lpOk ok n) (fun v hv => lp_rule Wt h n v hv) v hk
/-- the state of an object: its ints, its longs, its arrays of ints, of longs, by their slots -/
abbrev OS : Type := (Nat → Int32) × (Nat → Int64) × (Nat → Nat → Int32) × (Nat → Nat → Int64)
def oI (σ : OS) (k : Nat) (v : Int32) : OS := (va_up σ.1 k v, σ.2)
def oL (σ : OS) (k : Nat) (v : Int64) : OS := (σ.1, va_up σ.2.1 k v, σ.2.2)
def oS (σ : OS) (k i : Nat) (x : Int32) : OS := (σ.1, σ.2.1, va_up σ.2.2.1 k (upd (σ.2.2.1 k) i x), σ.2.2.2)
def oT (σ : OS) (k i : Nat) (x : Int64) : OS := (σ.1, σ.2.1, σ.2.2.1, va_up σ.2.2.2 k (vp_updL (σ.2.2.2 k) i x))
/-- ends: of a static method, of one that changes nothing of its world, of one that makes a world anew -/
abbrev eI (w : va_W) (r : Int32) : Option Value → va_W → Prop := fun v u => v = some (.int r) ∧ u = w
abbrev eL (w : va_W) (r : Int64) : Option Value → va_W → Prop := fun v u => v = some (.long r) ∧ u = w
abbrev eV (w : va_W) : Option Value → va_W → Prop := fun v u => v = none ∧ u = w
end
section
/-! calls of the usual forms: a static method that has no world; a method of the same object; kinds of objects -/
abbrev gty (cy : Nat → ClassId) : List (ClassId × FieldType) := [(cy 0, .int), (cy 1, .long), (cy 2, .boolean), (cy 3, .object RX1), (cy 4, .object RX2)]
abbrev bz (v : Int32) : Prop := narrow .boolean (.int v) = .int v
def fu : Nat := 1000
def o0 : OS := (fun _ => 0, fun _ => 0, fun _ _ => 0, fun _ _ => 0)
section Calls6
variable {X : CX} {cc : ByteArray} {own : String} {nL : Nat} {D : va_G} {tys : List (ClassId × FieldType)} {A : Nat → Prop} {lev cM sM kc ks pc : Nat} {lv lv' : List (Nat × Value)} {st stk : List Value} {ws ws' w' : va_W}
variable {y : MethodName} {cc' : ByteArray} {nL' lev' idx n : Nat} {ret : Option FieldType} {as : List Value} {CC : String} {b : Nat}
theorem va_nd_range' (n : Nat) : ∀ k, va_nd ((List.range' k n)) = true := by
  induction n with
  | zero => intro k; rfl
  | succ n ih =>
    intro k
    rw [List.range'_succ]
    simp only [va_nd, ih, Bool.and_true]
    simp
theorem all_places (ws : va_W) : (List.range ws.length).map (fun i => ws[i]?) = ws.map some := by
  apply List.ext_getElem?
  intro i
  simp only [List.getElem?_map, List.getElem?_range']
  by_cases h : i < ws.length
  · simp [h]
  · simp [h, List.getElem?_eq_none (Nat.not_lt.mp h)]
theorem all_places_f (ws : va_W) : (List.range ws.length).filterMap (fun i => ws[i]?) = ws := by
  have h := all_places ws
  have h2 : (List.range ws.length).filterMap (fun i => ws[i]?) = ((List.range ws.length).map (fun i => ws[i]?)).filterMap id := by
    rw [List.filterMap_map]; rfl
  rw [h2, h]
  simp
theorem va_nd_range (n : Nat) : va_nd (List.range n) = true := by rw [List.range_eq_range']; exact va_nd_range' n 0
theorem r_s0I {r : Int32} (C : Cx X cc own nL D tys A lev cM sM) (hM : Con y cc' nL' ret lev' 0 0 D tys as [] (eI [] r)) (hw : MS_ y cc' nL' ret n) (hlk : Cond.methodLink own idx y ∈ gT) (hlev : lev' + 1 ≤ lev) (hnL : nL' ≤ 21) (hcap : kc ≤ cM ∧ ks ≤ sM)
    (hn : as.length = n) (hstk : stk = as.reverse ++ st) (hW : (st.map fun v => v.category).sum ≤ 8) (hdg : decode cc pc = .ok (.invokestatic idx, 3)) (k : At X D A nL kc ks (pc + 3) lv (.int r :: st) ws) : At X D A nL kc ks pc lv stk ws :=
  r_callS C hM hw hlk hlev hnL hcap [] (List.range ws.length) rfl rfl rfl (all_places ws) (va_nd_range _) (fun _ _ h => by simp at h) hn hstk hW hdg (fun v w hp => by obtain ⟨rfl, rfl⟩ := hp; rw [List.append_nil]; exact k)
theorem r_s0L {r : Int64} (C : Cx X cc own nL D tys A lev cM sM) (hM : Con y cc' nL' ret lev' 0 0 D tys as [] (eL [] r)) (hw : MS_ y cc' nL' ret n) (hlk : Cond.methodLink own idx y ∈ gT) (hlev : lev' + 1 ≤ lev) (hnL : nL' ≤ 21) (hcap : kc ≤ cM ∧ ks ≤ sM)
    (hn : as.length = n) (hstk : stk = as.reverse ++ st) (hW : (st.map fun v => v.category).sum ≤ 8) (hdg : decode cc pc = .ok (.invokestatic idx, 3)) (k : At X D A nL kc ks (pc + 3) lv (.long r :: st) ws) : At X D A nL kc ks pc lv stk ws :=
  r_callS C hM hw hlk hlev hnL hcap [] (List.range ws.length) rfl rfl rfl (all_places ws) (va_nd_range _) (fun _ _ h => by simp at h) hn hstk hW hdg (fun v w hp => by obtain ⟨rfl, rfl⟩ := hp; rw [List.append_nil]; exact k)
theorem r_s0V (C : Cx X cc own nL D tys A lev cM sM) (hM : Con y cc' nL' ret lev' 0 0 D tys as [] (eV [])) (hw : MS_ y cc' nL' ret n) (hlk : Cond.methodLink own idx y ∈ gT) (hlev : lev' + 1 ≤ lev) (hnL : nL' ≤ 21) (hcap : kc ≤ cM ∧ ks ≤ sM)
    (hn : as.length = n) (hstk : stk = as.reverse ++ st) (hW : (st.map fun v => v.category).sum ≤ 8) (hdg : decode cc pc = .ok (.invokestatic idx, 3)) (k : At X D A nL kc ks (pc + 3) lv st ws) : At X D A nL kc ks pc lv stk ws :=
  r_callS C hM hw hlk hlev hnL hcap [] (List.range ws.length) rfl rfl rfl (all_places ws) (va_nd_range _) (fun _ _ h => by simp at h) hn hstk hW hdg (fun v w hp => by obtain ⟨rfl, rfl⟩ := hp; rw [List.append_nil]; exact k)
section Self
variable {ci : Nat} {fs : List Value} {T : u_T} {N : Nat}
theorem r_vI {r : Int32} (C : Cx X cc own nL D tys A lev cM sM) (hM : Con y cc' nL' ret lev' 0 0 D tys (.ref b :: as) ws (eI w' r)) (hw : MV y cc' nL' ret CC n) (hlk : Cond.methodLink own idx y ∈ gT) (hlev : lev' + 1 ≤ lev) (hnL : nL' ≤ 21) (hcap : kc ≤ cM ∧ ks ≤ sM)
    (hrc : vwCl[ci]? = some (CC, T, N)) (hre : ws[0]? = some (b, .inr (ci, fs))) (hn : as.length = n) (hstk : stk = as.reverse ++ .ref b :: st) (hW : (st.map fun v => v.category).sum ≤ 8) (hdg : decode cc pc = .ok (.invokevirtual idx, 3)) (k : At X D A nL kc ks (pc + 3) lv (.int r :: st) w') : At X D A nL kc ks pc lv stk ws :=
  r_callV C hM hw hlk hlev hnL hcap hrc hre (List.range ws.length) [] (all_places ws) (all_places_f ws) (va_nd_range _) (wr := []) rfl rfl (fun _ h => by simp at h) hn hstk hW hdg (fun v w hp => by obtain ⟨rfl, rfl⟩ := hp; exact k)
theorem r_vL {r : Int64} (C : Cx X cc own nL D tys A lev cM sM) (hM : Con y cc' nL' ret lev' 0 0 D tys (.ref b :: as) ws (eL w' r)) (hw : MV y cc' nL' ret CC n) (hlk : Cond.methodLink own idx y ∈ gT) (hlev : lev' + 1 ≤ lev) (hnL : nL' ≤ 21) (hcap : kc ≤ cM ∧ ks ≤ sM)
    (hrc : vwCl[ci]? = some (CC, T, N)) (hre : ws[0]? = some (b, .inr (ci, fs))) (hn : as.length = n) (hstk : stk = as.reverse ++ .ref b :: st) (hW : (st.map fun v => v.category).sum ≤ 8) (hdg : decode cc pc = .ok (.invokevirtual idx, 3)) (k : At X D A nL kc ks (pc + 3) lv (.long r :: st) w') : At X D A nL kc ks pc lv stk ws :=
  r_callV C hM hw hlk hlev hnL hcap hrc hre (List.range ws.length) [] (all_places ws) (all_places_f ws) (va_nd_range _) (wr := []) rfl rfl (fun _ h => by simp at h) hn hstk hW hdg (fun v w hp => by obtain ⟨rfl, rfl⟩ := hp; exact k)
theorem r_vV (C : Cx X cc own nL D tys A lev cM sM) (hM : Con y cc' nL' ret lev' 0 0 D tys (.ref b :: as) ws (eV w')) (hw : MV y cc' nL' ret CC n) (hlk : Cond.methodLink own idx y ∈ gT) (hlev : lev' + 1 ≤ lev) (hnL : nL' ≤ 21) (hcap : kc ≤ cM ∧ ks ≤ sM)
    (hrc : vwCl[ci]? = some (CC, T, N)) (hre : ws[0]? = some (b, .inr (ci, fs))) (hn : as.length = n) (hstk : stk = as.reverse ++ .ref b :: st) (hW : (st.map fun v => v.category).sum ≤ 8) (hdg : decode cc pc = .ok (.invokevirtual idx, 3)) (k : At X D A nL kc ks (pc + 3) lv st w') : At X D A nL kc ks pc lv stk ws :=
  r_callV C hM hw hlk hlev hnL hcap hrc hre (List.range ws.length) [] (all_places ws) (all_places_f ws) (va_nd_range _) (wr := []) rfl rfl (fun _ h => by simp at h) hn hstk hW hdg (fun v w hp => by obtain ⟨rfl, rfl⟩ := hp; exact k)
end Self
end Calls6
/-! switches -/
section Sw
variable {X : CX} {cc : ByteArray} {own : String} {nL : Nat} {D : va_G} {tys : List (ClassId × FieldType)} {A : Nat → Prop} {lev cM sM kc ks pc : Nat} {lv : List (Nat × Value)} {st : List Value} {ws : va_W}
theorem r_tsIn (C : Cx X cc own nL D tys A lev cM sM) {dflt lo hi off : Int} {offs : Array Int} {len tgt : Nat} {x : Int32} (j : Int32) (hdg : decode cc pc = .ok (.tableswitch dflt lo hi offs, len)) (hj : x = j) (h1 : ¬ j.toInt < lo) (h2 : ¬ hi < j.toInt) (ho : offs[(j.toInt - lo).toNat]? = some off) (ht : (pc : Int) + off = (tgt : Int)) (k : At X D A nL kc ks tgt lv st ws) : At X D A nL kc ks pc lv (.int x :: st) ws := by
  subst hj
  exact fun H locs ls hP hD hS hl => lv_tableIn C.1 C.2.1 hdg h1 h2 ho ht (k H locs ls hP hD hS hl)
theorem r_tsOut (C : Cx X cc own nL D tys A lev cM sM) {dflt lo hi : Int} {offs : Array Int} {len tgt : Nat} {x : Int32} (hdg : decode cc pc = .ok (.tableswitch dflt lo hi offs, len)) (h : x.toInt < lo ∨ hi < x.toInt) (ht : (pc : Int) + dflt = (tgt : Int)) (k : At X D A nL kc ks tgt lv st ws) : At X D A nL kc ks pc lv (.int x :: st) ws :=
  fun H locs ls hP hD hS hl => lv_tableOut C.1 C.2.1 hdg h ht (k H locs ls hP hD hS hl)
theorem ne_toInt {x j : Int32} (h : ¬ x = j) : ¬ x.toInt = j.toInt := fun g => h (Int32.toInt_inj.mp g)
end Sw
end
section
/-! rows of the statics and of the String constants -/
section Stat
variable {X : CX} {cc : ByteArray} {own : String} {nL : Nat} {D : va_G} {tys : List (ClassId × FieldType)} {A : Nat → Prop} {lev cM sM kc ks pc : Nat} {lv lv' : List (Nat × Value)} {st stk : List Value} {ws : va_W}
theorem Cx_st (C : Cx X cc own nL D tys A lev cM sM) : Stt D A X.1.2.2.2.2 X.1.2.2.2.2.heap := C.2.2.2.2.2.2.2.2.2.2.2
theorem rg_OFFSETS (C : Cx X cc own nL D tys A lev cM sM) {index : Nat} (hl : Cond.fieldLink own index RX3 "OFFSETS" "[I" ∈ gT) (hdg : decode cc pc = .ok (.getstatic index, 3)) (k : At X D A nL kc ks (pc + 3) lv (.ref (D.2 100 0) :: st) ws) : At X D A nL kc ks pc lv st ws :=
  fun H locs ls hP hD hS h => va_gets C.1 C.2.1 (Cx_st C).1.1 hS C.2.2.2.1 (C.2.2.2.2.1 _ hl) (fun _ h => h) hdg (k H locs ls hP hD hS h)
theorem rs_OFFSETS (C : Cx X cc own nL D tys A lev cM sM) {i : Int32} (hin : vp_in i 24) (hdg : decode cc pc = .ok (.iaload, 1)) (k : At X D A nL kc ks (pc + 1) lv (.int (tOFF i.toNatClampNeg) :: st) ws) : At X D A nL kc ks pc lv (.int i :: .ref (D.2 100 0) :: st) ws :=
  fun H locs ls hP hD hS h => va_ti C.1 C.2.1 (Cx_st C).1.2 hS hin rfl hdg (k H locs ls hP hD hS h)
theorem rl_OFFSETS (C : Cx X cc own nL D tys A lev cM sM) (hdg : decode cc pc = .ok (.arraylength, 1)) (k : At X D A nL kc ks (pc + 1) lv (.int 24 :: st) ws) : At X D A nL kc ks pc lv (.ref (D.2 100 0) :: st) ws :=
  fun H locs ls hP hD hS h => va_tlen C.1 C.2.1 (Cx_st C).1.2 hS (by decide) hdg (k H locs ls hP hD hS h)
theorem rg_ON_WALL (C : Cx X cc own nL D tys A lev cM sM) {index : Nat} (hl : Cond.fieldLink own index RX3 "ON_WALL" "[J" ∈ gT) (hdg : decode cc pc = .ok (.getstatic index, 3)) (k : At X D A nL kc ks (pc + 3) lv (.ref (D.2 100 1) :: st) ws) : At X D A nL kc ks pc lv st ws :=
  fun H locs ls hP hD hS h => va_gets C.1 C.2.1 (Cx_st C).2.1.1 hS C.2.2.2.1 (C.2.2.2.2.1 _ hl) (fun _ h => h) hdg (k H locs ls hP hD hS h)
theorem rs_ON_WALL (C : Cx X cc own nL D tys A lev cM sM) {i : Int32} (hin : vp_in i 6) (hdg : decode cc pc = .ok (.laload, 1)) (k : At X D A nL kc ks (pc + 1) lv (.long (tWALL i.toNatClampNeg) :: st) ws) : At X D A nL kc ks pc lv (.int i :: .ref (D.2 100 1) :: st) ws :=
  fun H locs ls hP hD hS h => va_tl C.1 C.2.1 (Cx_st C).2.1.2 hS hin rfl hdg (k H locs ls hP hD hS h)
theorem rg_KIND_ABOVE (C : Cx X cc own nL D tys A lev cM sM) {index : Nat} (hl : Cond.fieldLink own index RX5 "KIND_ABOVE" "[I" ∈ gT) (hdg : decode cc pc = .ok (.getstatic index, 3)) (k : At X D A nL kc ks (pc + 3) lv (.ref (D.2 100 2) :: st) ws) : At X D A nL kc ks pc lv st ws :=
  fun H locs ls hP hD hS h => va_gets C.1 C.2.1 (Cx_st C).2.2.1.1 hS C.2.2.2.1 (C.2.2.2.2.1 _ hl) (fun _ h => h) hdg (k H locs ls hP hD hS h)
theorem rs_KIND_ABOVE (C : Cx X cc own nL D tys A lev cM sM) {i : Int32} (hin : vp_in i 6) (hdg : decode cc pc = .ok (.iaload, 1)) (k : At X D A nL kc ks (pc + 1) lv (.int (tKIND i.toNatClampNeg) :: st) ws) : At X D A nL kc ks pc lv (.int i :: .ref (D.2 100 2) :: st) ws :=
  fun H locs ls hP hD hS h => va_ti C.1 C.2.1 (Cx_st C).2.2.1.2 hS hin rfl hdg (k H locs ls hP hD hS h)
theorem rg_COMPACT (C : Cx X cc own nL D tys A lev cM sM) {index : Nat} (hl : Cond.fieldLink own index RJ0 "COMPACT_STRINGS" "Z" ∈ gT) (hdg : decode cc pc = .ok (.getstatic index, 3)) (k : At X D A nL kc ks (pc + 3) lv (.int 1 :: st) ws) : At X D A nL kc ks pc lv st ws :=
  fun H locs ls hP hD hS h => va_gets C.1 C.2.1 (Cx_st C).2.2.2.1 hS C.2.2.2.1 (C.2.2.2.2.1 _ hl) (fun _ h => h) hdg (k H locs ls hP hD hS h)
theorem rg_SIOOBE (C : Cx X cc own nL D tys A lev cM sM) {index : Nat} (hl : Cond.fieldLink own index RJ3 "SIOOBE_FORMATTER" "Ljava/util/function/BiFunction;" ∈ gT) (hdg : decode cc pc = .ok (.getstatic index, 3)) (k : ∀ v : Value, v.category = 1 → At X D A nL kc ks (pc + 3) lv (v :: st) ws) : At X D A nL kc ks pc lv st ws :=
  fun H locs ls hP hD hS h => by
    obtain ⟨v, hv, hz⟩ := (Cx_st C).2.2.2.2.1
    exact va_gets C.1 C.2.1 hz hS C.2.2.2.1 (C.2.2.2.2.1 _ hl) (fun _ h => h) hdg (k v hv H locs ls hP hD hS h)
theorem r_ldcS0 (C : Cx X cc RX0 nL D tys A lev cM sM) (hdg : decode cc pc = .ok (.ldc 124, 2)) (k : At X D A nL kc ks (pc + 2) lv (.ref (D.2 101 0) :: st) ws) : At X D A nL kc ks pc lv st ws :=
  fun H locs ls hP hD hS h => va_ldcS C.1 C.2.1 C.2.2.2.1 (Cx_st C).2.2.2.2.2.2.1 hdg (k H locs ls hP hD hS h)
theorem r_ldcS1 (C : Cx X cc RX0 nL D tys A lev cM sM) (hdg : decode cc pc = .ok (.ldc 112, 2)) (k : At X D A nL kc ks (pc + 2) lv (.ref (D.2 101 1) :: st) ws) : At X D A nL kc ks pc lv st ws :=
  fun H locs ls hP hD hS h => va_ldcS C.1 C.2.1 C.2.2.2.1 (Cx_st C).2.2.2.2.2.2.2 hdg (k H locs ls hP hD hS h)
theorem r_strV (C : Cx X cc own nL D tys A lev cM sM) {index : Nat} (i : Nat) (hi : i < 2) (hl : Cond.fieldLink own index RJ0 "value" "[B" ∈ gT) (hdg : decode cc pc = .ok (.getfield index, 3)) (k : At X D A nL kc ks (pc + 3) lv (.ref (D.2 102 i) :: st) ws) : At X D A nL kc ks pc lv (.ref (D.2 101 i) :: st) ws :=
  fun H locs ls hP hD hS h => vk_getf C.1 C.2.1 ((Cx_st C).2.2.2.2.2.1.1 i hi).2.2.1 hS C.2.2.2.1 (C.2.2.2.2.1 _ hl) (fun _ h => h) hdg (k H locs ls hP hD hS h)
theorem r_strC (C : Cx X cc own nL D tys A lev cM sM) {index : Nat} (i : Nat) (hi : i < 2) (hl : Cond.fieldLink own index RJ0 "coder" "B" ∈ gT) (hdg : decode cc pc = .ok (.getfield index, 3)) (k : At X D A nL kc ks (pc + 3) lv (.int 0 :: st) ws) : At X D A nL kc ks pc lv (.ref (D.2 101 i) :: st) ws :=
  fun H locs ls hP hD hS h => vk_getf C.1 C.2.1 ((Cx_st C).2.2.2.2.2.1.1 i hi).2.1 hS C.2.2.2.1 (C.2.2.2.2.1 _ hl) (fun _ h => h) hdg (k H locs ls hP hD hS h)
theorem r_strB (C : Cx X cc own nL D tys A lev cM sM) (j : Nat) (hj : j < 2) {i : Int32} (hin : vp_in i (lenS.getD j 0)) (hdg : decode cc pc = .ok (.baload, 1)) (k : At X D A nL kc ks (pc + 1) lv (.int ((bytS.getD j []).getD i.toNatClampNeg 0) :: st) ws) : At X D A nL kc ks pc lv (.int i :: .ref (D.2 102 j) :: st) ws :=
  fun H locs ls hP hD hS h => va_tb C.1 C.2.1 ((Cx_st C).2.2.2.2.2.1.1 j hj).2.2.2 hS hin rfl hdg (k H locs ls hP hD hS h)
theorem r_strN (C : Cx X cc own nL D tys A lev cM sM) (j : Nat) (hj : j < 2) (hdg : decode cc pc = .ok (.arraylength, 1)) (k : At X D A nL kc ks (pc + 1) lv (.int (Int32.ofNat (lenS.getD j 0)) :: st) ws) : At X D A nL kc ks pc lv (.ref (D.2 102 j) :: st) ws :=
  fun H locs ls hP hD hS h => va_tlen C.1 C.2.1 ((Cx_st C).2.2.2.2.2.1.1 j hj).2.2.2 hS rfl hdg (k H locs ls hP hD hS h)
/-- Math.max, Math.min -/
def jmax (x y : Int32) : Int32 := if x < y then y else x
def jmin (x y : Int32) : Int32 := if y < x then y else x
theorem r_mmax (C : Cx X cc own nL D tys A lev cM sM) {index : Nat} {x y : Int32} (hl : Cond.methodLink own index yJ9_max_7cf53 ∈ gT) (hdg : decode cc pc = .ok (.invokestatic index, 3)) (hlev : 0 + 1 ≤ lev) (hW : (st.map fun v => v.category).sum ≤ 8) (hcap : kc ≤ cM ∧ ks ≤ sM) (k : At X D A nL kc ks (pc + 3) lv (.int (jmax x y) :: st) ws) : At X D A nL kc ks pc lv (.int y :: .int x :: st) ws :=
  fun H locs ls hP hD hS h => va_mmax C.1 C.2.1 (C.2.2.1.trans h.1.symm) C.2.2.2.1 (C.2.2.2.2.1 _ hl) (C.2.2.2.2.1 _ ks_J9_max_7cf53) (C.2.2.2.2.1 _ kn_J9) (C.2.2.2.2.1 _ kc_J9_max_7cf53) (by have := C.2.2.2.2.2.2.2.1; omega) (by have := C.2.2.2.2.2.2.2.2.1; omega) (by rw [C.2.2.2.2.2.2.2.2.2.1]; exact hcap.1) (by rw [C.2.2.2.2.2.2.2.2.2.2.1]; exact hcap.2) hdg (k H locs ls hP hD hS h)
theorem r_mmin (C : Cx X cc own nL D tys A lev cM sM) {index : Nat} {x y : Int32} (hl : Cond.methodLink own index yJ9_min_7cf53 ∈ gT) (hdg : decode cc pc = .ok (.invokestatic index, 3)) (hlev : 0 + 1 ≤ lev) (hW : (st.map fun v => v.category).sum ≤ 8) (hcap : kc ≤ cM ∧ ks ≤ sM) (k : At X D A nL kc ks (pc + 3) lv (.int (jmin x y) :: st) ws) : At X D A nL kc ks pc lv (.int y :: .int x :: st) ws :=
  fun H locs ls hP hD hS h => va_mmin C.1 C.2.1 (C.2.2.1.trans h.1.symm) C.2.2.2.1 (C.2.2.2.2.1 _ hl) (C.2.2.2.2.1 _ ks_J9_min_7cf53) (C.2.2.2.2.1 _ kn_J9) (C.2.2.2.2.1 _ kc_J9_min_7cf53) (by have := C.2.2.2.2.2.2.2.1; omega) (by have := C.2.2.2.2.2.2.2.2.1; omega) (by rw [C.2.2.2.2.2.2.2.2.2.1]; exact hcap.1) (by rw [C.2.2.2.2.2.2.2.2.2.2.1]; exact hcap.2) hdg (k H locs ls hP hD hS h)
variable {y : MethodName} {cc' : ByteArray} {nL' lev' idx n : Nat} {ret : Option FieldType} {as : List Value}
set_option maxHeartbeats 2000000 in
/-- a call on a String constant -/
theorem r_strI {r : Int32} (C : Cx X cc own nL D tys A lev cM sM) (j : Nat) (hj : j < 2) (hM : Con y cc' nL' ret lev' 0 0 D tys (.ref (D.2 101 j) :: as) [] (eI [] r)) (hw : MV y cc' nL' ret RJ0 n) (hlk : Cond.methodLink own idx y ∈ gT) (hlev : lev' + 1 ≤ lev) (hnL : nL' ≤ 21) (hcap : kc ≤ cM ∧ ks ≤ sM)
    (hn : as.length = n) (hstk : stk = as.reverse ++ .ref (D.2 101 j) :: st) (hW : (st.map fun v => v.category).sum ≤ 8) (hdg : decode cc pc = .ok (.invokevirtual idx, 3)) (k : At X D A nL kc ks (pc + 3) lv (.int r :: st) ws) : At X D A nL kc ks pc lv stk ws := by
  intro H locs ls hP hD hS hl
  have hPc := hP.sub (ws' := []) [] rfl
  have hDc := hD.sub (ws' := []) [] rfl rfl
  have hFc := va_free (wc := []) hD hS C.2.2.2.2.2.2.1 [] rfl
  have C' := C
  obtain ⟨hx, hb, hml, hown, hts, hK, hA, hf1, hf2, hc1, hc2, hSt⟩ := C
  obtain ⟨w1, w2, w3, w4, w5⟩ := hw
  have hG : GoodIn gT (wsV own idx RJ0 y (Cond.code y cc' nL' ret :: gT)) := by
    intro w h
    rcases List.mem_append.mp h with h | h
    · simp only [List.mem_cons, List.not_mem_nil, or_false] at h
      rcases h with rfl | rfl | rfl | rfl
      · exact gT_self _ hlk
      · exact gT_self _ w1
      · exact gT_self _ w2
      · exact gT_self _ w3
    · exact gT_c w4 w h
  refine r_back C' [] (List.range ws.length) rfl (all_places ws) (va_nd_range _) (fun _ _ h => by simp at h) hP hD hS hl (va_runV (g := F0 X.2.1.1 pc ls stk) (As := as) ⟨hx, hb, hml, hown, hts⟩ (hM X.1.2.1 H.size) (cwV n hts hG rfl rfl rfl w5 ⟨by show lev' + 1 ≤ _; omega, by show 8 + (nL' + 11) + 40 * lev' ≤ _; omega⟩) ⟨gB_blind, vk_recv hSt.2.2.2.2.2.1 hj hS, fun U hU hWm => ⟨rfl, by rw [hU], by rw [hU]; exact hPc, va_K.moved hWm.alike hK, hDc.weaken (fun _ _ _ _ => trivial), ?_⟩⟩ rfl hn hl.1 hstk (lv_room hW) hdg ⟨by rw [hc1]; exact hcap.1, by rw [hc2]; exact hcap.2⟩) (fun v w hp => by obtain ⟨rfl, rfl⟩ := hp; rw [List.append_nil]; exact k)
  rw [hU]
  exact (Stt.sub hS hFc hSt).moved hWm.alike (fun h => h.warm hWm)
end Stat
end
section
/-! a call whose world is some places of the caller's: what stands there is put anew, the rest stays -/
theorem fm_of_map {α β : Type} {f : α → Option β} : ∀ {l : List α} {w : List β}, l.map f = w.map some → l.filterMap f = w
  | [], [], _ => rfl
  | [], _ :: _, h => by simp at h
  | _ :: _, [], h => by simp at h
  | a :: l, b :: w, h => by
    simp only [List.map_cons, List.cons.injEq] at h
    rw [List.filterMap_cons_some h.1, fm_of_map h.2]
section CallW
variable {X : CX} {cc : ByteArray} {own : String} {nL : Nat} {D : va_G} {tys : List (ClassId × FieldType)} {A : Nat → Prop} {lev cM sM kc ks pc : Nat} {lv lv' : List (Nat × Value)} {st stk : List Value} {ws ws' wc : va_W}
variable {y : MethodName} {cc' : ByteArray} {nL' lev' idx n : Nat} {ret : Option FieldType} {as : List Value} {post : Option Value → va_W → Prop} {CC : String} {b : Nat}
/-- ws' is ws with cells of w at the places isC -/
def Put (isC : List Nat) (ws w ws' : va_W) : Prop := ws'.map Prod.fst = ws.map Prod.fst ∧ ∀ (i : Nat) (c : Nat × va_E), ws'[i]? = some c → (i ∈ isC ∧ c ∈ w) ∨ (i ∉ isC ∧ ws[i]? = some c)
theorem va_D_fst {A : Nat → Prop} {ws ws' : va_W} (h : ws'.map Prod.fst = ws.map Prod.fst) (hD : va_D A ws) : va_D A ws' := by
  have g : ∀ (i : Nat) (p : Nat × va_E), ws'[i]? = some p → ∃ p', ws[i]? = some p' ∧ p'.1 = p.1 := by
    intro i p hp
    have e : (ws'.map Prod.fst)[i]? = some p.1 := by rw [List.getElem?_map, hp]; rfl
    rw [h, List.getElem?_map] at e
    cases hq : ws[i]? with
    | none => rw [hq] at e; cases e
    | some p' => rw [hq] at e; exact ⟨p', rfl, Option.some.inj e⟩
  refine ⟨fun i j p q hi hj hpq => ?_, fun k q hk => ?_⟩
  · obtain ⟨p', h1, e1⟩ := g i p hi
    obtain ⟨q', h2, e2⟩ := g j q hj
    exact hD.1 i j p' q' h1 h2 (by rw [e1, e2, hpq])
  · obtain ⟨q', h1, e1⟩ := g k q hk
    exact e1 ▸ hD.2 k q' h1
set_option maxHeartbeats 2000000 in
theorem r_back2 (hC0 : Cx X cc own nL D tys A lev cM sM) (isC : List Nat) (hC : isC.map (fun i => ws[i]?) = wc.map some) {aa : Array Value} {mc ms : Nat}
    {H : Heap} {locs : List Loc} {ls : Array Slot} (hP : va_P D vwCl ws H) (hD : va_D A ws) (hS : va_S A X.1.2.2.2.2.heap H locs) (hl : lv_has ls nL lv)
    (hrun : va_Run X.1.1 X.1.2.1 X.1.2.2.1 X.1.2.2.2.1 X.1.2.2.2.2 X.2.1.1 X.2.1.2.1 X.2.1.2.2.1 X.2.1.2.2.2.1 X.2.1.2.2.2.2 H locs kc ks mc ms (F0 X.2.1.1 pc ls stk) st (gQ post D tys (va_A wc H.size) aa) (va_A wc H.size))
    (k : ∀ (v : Option Value) (w : va_W), post v w → ∃ ws', Put isC ws w ws' ∧ At X D A nL (kc + mc) (ks + ms) (pc + 3) lv (v.toList ++ st) ws') :
    W X.1.1 X.1.2.1 X.1.2.2.1 X.1.2.2.2.1 X.1.2.2.2.2 X.2.1.1 X.2.1.2.1 X.2.1.2.2.1 X.2.1.2.2.2.1 X.2.1.2.2.2.2 H locs kc ks X.2.2 (F0 X.2.1.1 pc ls stk) := by
  intro T hT XX
  have hFc := va_free (wc := wc) hD hS hC0.2.2.2.2.2.2.1 isC hC
  obtain ⟨v, st₀, t, T', L, h0, X', hL, e1, e2, ⟨⟨v', w, hv, hp, hPw, hKw, hDw⟩, hz, hk⟩, stp⟩ := hrun T hT XX
  cases hv
  rw [h0] at hz hk
  obtain ⟨ws', ⟨hf, hpl⟩, hAt⟩ := k v w hp
  have hP1 : va_P D vwCl ws' t.heap := by
    intro i c hi
    rcases hpl i c hi with ⟨_, hw⟩ | ⟨hni, hws⟩
    · obtain ⟨j, hj⟩ := List.getElem?_of_mem hw
      exact hPw j c hj
    · have hat := hP i c hws
      refine hat.kept (hk c.1 hat.lt (fun hA => ?_))
      rcases hA with ⟨j, e, hj⟩ | hge
      · have hm : (wc.map some)[j]? = some (some (c.1, e)) := by rw [List.getElem?_map, hj]; rfl
        rw [← hC, List.getElem?_map] at hm
        cases hq : isC[j]? with
        | none => rw [hq] at hm; cases hm
        | some i' =>
          rw [hq] at hm
          have hi' : ws[i']? = some (c.1, e) := Option.some.inj hm
          exact hni (hD.1 i i' c (c.1, e) hws hi' rfl ▸ List.mem_of_getElem? hq)
      · exact Nat.lt_irrefl _ (Nat.lt_of_lt_of_le hat.lt hge)
  obtain ⟨t2, a1, b1⟩ := hAt T'.heap (locs ++ L) ls (e1 ▸ hP1) (va_D_fst hf hD)
    ⟨Nat.le_trans hS.1 (by rw [e1]; exact hz), fun q h1 h2 => by rw [e1, hk q (Nat.lt_of_lt_of_le h1 hS.1) (fun z => h2 (hFc q z))]; exact hS.2.1 q h1 h2, fun q hq => by
      rcases List.mem_append.mp hq with h | h
      · exact hS.2.2 q h
      · exact hFc _ (hL q h)⟩ hl T' rfl X'
  exact ⟨t2, stp t2 a1, b1⟩
set_option maxHeartbeats 2000000 in
theorem r_callW (C : Cx X cc own nL D tys A lev cM sM) (hM : Con y cc' nL' ret lev' 0 0 D tys (.ref b :: as) wc post) (hw : MV y cc' nL' ret CC n) (hlk : Cond.methodLink own idx y ∈ gT) (hlev : lev' + 1 ≤ lev) (hnL : nL' ≤ 21) (hcap : kc ≤ cM ∧ ks ≤ sM)
    {q0 ci : Nat} {fs : List Value} {T : u_T} {N : Nat} (hrc : vwCl[ci]? = some (CC, T, N)) (hre : wc[q0]? = some (b, .inr (ci, fs)))
    (isC : List Nat) (hC : isC.map (fun i => ws[i]?) = wc.map some) (hCn : va_nd isC = true)
    (hn : as.length = n) (hstk : stk = as.reverse ++ .ref b :: st) (hW : (st.map fun v => v.category).sum ≤ 8) (hdg : decode cc pc = .ok (.invokevirtual idx, 3))
    (k : ∀ (v : Option Value) (w : va_W), post v w → ∃ ws', Put isC ws w ws' ∧ At X D A nL kc ks (pc + 3) lv (v.toList ++ st) ws') : At X D A nL kc ks pc lv stk ws := by
  intro H locs ls hP hD hS hl
  have hPc := hP.sub (ws' := wc) isC (fm_of_map hC)
  have hDc := hD.sub (ws' := wc) isC hCn hC
  have hFc := va_free (wc := wc) hD hS C.2.2.2.2.2.2.1 isC hC
  have C' := C
  obtain ⟨hx, hb, hml, hown, hts, hK, hA, hf1, hf2, hc1, hc2, hSt⟩ := C
  obtain ⟨w1, w2, w3, w4, w5⟩ := hw
  have hG : GoodIn gT (wsV own idx CC y (Cond.code y cc' nL' ret :: gT)) := by
    intro w h
    rcases List.mem_append.mp h with h | h
    · simp only [List.mem_cons, List.not_mem_nil, or_false] at h
      rcases h with rfl | rfl | rfl | rfl
      · exact gT_self _ hlk
      · exact gT_self _ w1
      · exact gT_self _ w2
      · exact gT_self _ w3
    · exact gT_c w4 w h
  refine r_back2 C' isC hC hP hD hS hl (va_runV (g := F0 X.2.1.1 pc ls stk) (As := as) ⟨hx, hb, hml, hown, hts⟩ (hM X.1.2.1 H.size) (cwV n hts hG rfl rfl rfl w5 ⟨by show lev' + 1 ≤ _; omega, by show 8 + (nL' + 11) + 40 * lev' ≤ _; omega⟩) ⟨gB_blind, va_recv hK hPc hrc hre, fun U hU hWm => ⟨rfl, by rw [hU], by rw [hU]; exact hPc, va_K.moved hWm.alike hK, hDc.weaken (fun _ _ _ _ => trivial), ?_⟩⟩ rfl hn hl.1 hstk (lv_room hW) hdg ⟨by rw [hc1]; exact hcap.1, by rw [hc2]; exact hcap.2⟩) k
  rw [hU]
  exact (Stt.sub hS hFc hSt).moved hWm.alike (fun h => h.warm hWm)
set_option maxHeartbeats 2000000 in
theorem r_callWS (C : Cx X cc own nL D tys A lev cM sM) (hM : Con y cc' nL' ret lev' 0 0 D tys as wc post) (hw : MS_ y cc' nL' ret n) (hlk : Cond.methodLink own idx y ∈ gT) (hlev : lev' + 1 ≤ lev) (hnL : nL' ≤ 21) (hcap : kc ≤ cM ∧ ks ≤ sM)
    (isC : List Nat) (hC : isC.map (fun i => ws[i]?) = wc.map some) (hCn : va_nd isC = true)
    (hn : as.length = n) (hstk : stk = as.reverse ++ st) (hW : (st.map fun v => v.category).sum ≤ 8) (hdg : decode cc pc = .ok (.invokestatic idx, 3))
    (k : ∀ (v : Option Value) (w : va_W), post v w → ∃ ws', Put isC ws w ws' ∧ At X D A nL kc ks (pc + 3) lv (v.toList ++ st) ws') : At X D A nL kc ks pc lv stk ws := by
  intro H locs ls hP hD hS hl
  have hPc := hP.sub (ws' := wc) isC (fm_of_map hC)
  have hDc := hD.sub (ws' := wc) isC hCn hC
  have hFc := va_free (wc := wc) hD hS C.2.2.2.2.2.2.1 isC hC
  have C' := C
  obtain ⟨hx, hb, hml, hown, hts, hK, hA, hf1, hf2, hc1, hc2, hSt⟩ := C
  obtain ⟨w1, w2, w3, w4⟩ := hw
  have hG : GoodIn gT (va_wsS own idx y (Cond.code y cc' nL' ret :: gT)) := by
    intro w h
    rcases List.mem_append.mp h with h | h
    · simp only [List.mem_cons, List.not_mem_nil, or_false] at h
      rcases h with rfl | rfl | rfl
      · exact gT_self _ hlk
      · exact gT_self _ w1
      · exact gT_self _ w2
    · exact gT_c w3 w h
  refine r_back2 C' isC hC hP hD hS hl (va_runS (g := F0 X.2.1.1 pc ls stk) (As := as) ⟨hx, hb, hml, hown, hts⟩ (hM X.1.2.1 H.size) (va_cwS n hts hG rfl rfl rfl w4 ⟨by show lev' + 1 ≤ _; omega, by show 8 + (nL' + 11) + 40 * lev' ≤ _; omega⟩) ⟨gB_blind, fun U hU hWm => ⟨rfl, by rw [hU], by rw [hU]; exact hPc, va_K.moved hWm.alike hK, hDc.weaken (fun _ _ _ _ => trivial), ?_⟩⟩ rfl hn hl.1 hstk (lv_room hW) hdg ⟨by rw [hc1]; exact hcap.1, by rw [hc2]; exact hcap.2⟩) k
  rw [hU]
  exact (Stt.sub hS hFc hSt).moved hWm.alike (fun h => h.warm hWm)
theorem r_ifnonnull (C : Cx X cc own nL D tys A lev cM sM) {x : Nat} {off : Int} {tgt : Nat} (hdg : decode cc pc = .ok (.ifnonnull off, 3)) (ht : (pc : Int) + off = (tgt : Int)) (k : At X D A nL kc ks tgt lv st ws) : At X D A nL kc ks pc lv (.ref x :: st) ws :=
  fun H locs ls hP hD hS hl => lv_ifnonnull C.1 C.2.1 hdg ht (k H locs ls hP hD hS hl)
end CallW
/-- a state with an array anew -/
def oAr (σ : OS) (k : Nat) (f : Nat → Int32) : OS := (σ.1, σ.2.1, va_up σ.2.2.1 k f, σ.2.2.2)
/-- the texts: addresses of the text, its code, its ends; the code's size; the code, the ends -/
abbrev TX : Type := List ((Nat × Nat × Nat) × (Nat × (Nat → Int32) × (Nat → Int32)))
abbrev tcells (cy : Nat → ClassId) (t : (Nat × Nat × Nat) × (Nat × (Nat → Int32) × (Nat → Int32))) : va_W := [(t.1.1, .inr (2, [.ref t.1.2.1, .ref t.1.2.2])), (t.1.2.1, .inl (cy 0, t.2.1, .inl t.2.2.1)), (t.1.2.2, .inl (cy 0, 3, .inl t.2.2.2))]
def tw (cy : Nat → ClassId) (a : Nat) (τ : TX) : va_W := (a, .inl (cy 4, 6, .inr (.inr (.inr (.inr (fun j => (τ[j]?).map (fun t => t.1.1))))))) :: τ.flatMap (tcells cy)
/-- the text at a place (one that is there) -/
def tAt (τ : TX) (i : Nat) : (Nat × Nat × Nat) × (Nat × (Nat → Int32) × (Nat → Int32)) := (τ[i]?).getD ((0, 0, 0), (0, fun _ => 0, fun _ => 0))
theorem fm_three {α β : Type} (f : α → List β) (hf : ∀ a, (f a).length = 3) : ∀ (l : List α) (i r : Nat), r < 3 → (l.flatMap f)[3 * i + r]? = (l[i]?).bind (fun a => (f a)[r]?)
  | [], i, r, _ => by simp
  | a :: l, 0, r, hr => by
    rw [List.flatMap_cons, List.getElem?_append_left (by rw [hf]; omega)]
    simp
  | a :: l, i + 1, r, hr => by
    rw [List.flatMap_cons, List.getElem?_append_right (by rw [hf]; omega), hf, show 3 * (i + 1) + r - 3 = 3 * i + r by omega, fm_three f hf l i r hr]
    simp
theorem tw_at (cy : Nat → ClassId) (a : Nat) {τ : TX} {i r : Nat} (hi : i < τ.length) (hr : r < 3) : (tw cy a τ)[3 * i + r + 1]? = (tcells cy (tAt τ i))[r]? := by
  unfold tw
  rw [List.getElem?_cons_succ, fm_three _ (fun _ => rfl) τ i r hr]
  simp [tAt, List.getElem?_eq_getElem hi]
end
section
def tbJ13_bitCount_95d88 : List (Nat × Instr × Nat) := [(0, .lload_n 0, 1), (1, .lload_n 0, 1), (2, .iconst 1, 1), (3, .lushr, 1), (4, .ldc2_w 314, 3), (7, .land, 1), (8, .lsub, 1), (9, .lstore_n 0, 1), (10, .lload_n 0, 1), (11, .ldc2_w 316, 3), (14, .land, 1), (15, .lload_n 0, 1), (16, .iconst 2, 1), (17, .lushr, 1), (18, .ldc2_w 316, 3), (21, .land, 1), (22, .ladd, 1), (23, .lstore_n 0, 1), (24, .lload_n 0, 1), (25, .lload_n 0, 1), (26, .iconst 4, 1), (27, .lushr, 1), (28, .ladd, 1), (29, .ldc2_w 318, 3), (32, .land, 1), (33, .lstore_n 0, 1), (34, .lload_n 0, 1), (35, .lload_n 0, 1), (36, .bipush 8, 2), (38, .lushr, 1), (39, .ladd, 1), (40, .lstore_n 0, 1), (41, .lload_n 0, 1), (42, .lload_n 0, 1), (43, .bipush 16, 2), (45, .lushr, 1), (46, .ladd, 1), (47, .lstore_n 0, 1), (48, .lload_n 0, 1), (49, .lload_n 0, 1), (50, .bipush 32, 2), (52, .lushr, 1), (53, .ladd, 1), (54, .lstore_n 0, 1), (55, .lload_n 0, 1), (56, .l2i, 1), (57, .bipush 127, 2), (59, .iand, 1), (60, .ireturn, 1)]
theorem tdJ13_bitCount_95d88 : tbJ13_bitCount_95d88.all (fun q => decide (decode cJ13_bitCount_95d88 q.1 = .ok q.2)) = true := by decide +kernel
def pJ13_bitCount_95d88_0  (a0_ : Int64) : Int32 := (((((((((a0_ - ((jushr a0_ 1) &&& (6148914691236517205))) &&& (3689348814741910323)) + ((jushr (a0_ - ((jushr a0_ 1) &&& (6148914691236517205))) 2) &&& (3689348814741910323))) + (jushr (((a0_ - ((jushr a0_ 1) &&& (6148914691236517205))) &&& (3689348814741910323)) + ((jushr (a0_ - ((jushr a0_ 1) &&& (6148914691236517205))) 2) &&& (3689348814741910323))) 4)) &&& (1085102592571150095)) + (jushr (((((a0_ - ((jushr a0_ 1) &&& (6148914691236517205))) &&& (3689348814741910323)) + ((jushr (a0_ - ((jushr a0_ 1) &&& (6148914691236517205))) 2) &&& (3689348814741910323))) + (jushr (((a0_ - ((jushr a0_ 1) &&& (6148914691236517205))) &&& (3689348814741910323)) + ((jushr (a0_ - ((jushr a0_ 1) &&& (6148914691236517205))) 2) &&& (3689348814741910323))) 4)) &&& (1085102592571150095)) 8)) + (jushr ((((((a0_ - ((jushr a0_ 1) &&& (6148914691236517205))) &&& (3689348814741910323)) + ((jushr (a0_ - ((jushr a0_ 1) &&& (6148914691236517205))) 2) &&& (3689348814741910323))) + (jushr (((a0_ - ((jushr a0_ 1) &&& (6148914691236517205))) &&& (3689348814741910323)) + ((jushr (a0_ - ((jushr a0_ 1) &&& (6148914691236517205))) 2) &&& (3689348814741910323))) 4)) &&& (1085102592571150095)) + (jushr (((((a0_ - ((jushr a0_ 1) &&& (6148914691236517205))) &&& (3689348814741910323)) + ((jushr (a0_ - ((jushr a0_ 1) &&& (6148914691236517205))) 2) &&& (3689348814741910323))) + (jushr (((a0_ - ((jushr a0_ 1) &&& (6148914691236517205))) &&& (3689348814741910323)) + ((jushr (a0_ - ((jushr a0_ 1) &&& (6148914691236517205))) 2) &&& (3689348814741910323))) 4)) &&& (1085102592571150095)) 8)) 16)) + (jushr (((((((a0_ - ((jushr a0_ 1) &&& (6148914691236517205))) &&& (3689348814741910323)) + ((jushr (a0_ - ((jushr a0_ 1) &&& (6148914691236517205))) 2) &&& (3689348814741910323))) + (jushr (((a0_ - ((jushr a0_ 1) &&& (6148914691236517205))) &&& (3689348814741910323)) + ((jushr (a0_ - ((jushr a0_ 1) &&& (6148914691236517205))) 2) &&& (3689348814741910323))) 4)) &&& (1085102592571150095)) + (jushr (((((a0_ - ((jushr a0_ 1) &&& (6148914691236517205))) &&& (3689348814741910323)) + ((jushr (a0_ - ((jushr a0_ 1) &&& (6148914691236517205))) 2) &&& (3689348814741910323))) + (jushr (((a0_ - ((jushr a0_ 1) &&& (6148914691236517205))) &&& (3689348814741910323)) + ((jushr (a0_ - ((jushr a0_ 1) &&& (6148914691236517205))) 2) &&& (3689348814741910323))) 4)) &&& (1085102592571150095)) 8)) + (jushr ((((((a0_ - ((jushr a0_ 1) &&& (6148914691236517205))) &&& (3689348814741910323)) + ((jushr (a0_ - ((jushr a0_ 1) &&& (6148914691236517205))) 2) &&& (3689348814741910323))) + (jushr (((a0_ - ((jushr a0_ 1) &&& (6148914691236517205))) &&& (3689348814741910323)) + ((jushr (a0_ - ((jushr a0_ 1) &&& (6148914691236517205))) 2) &&& (3689348814741910323))) 4)) &&& (1085102592571150095)) + (jushr (((((a0_ - ((jushr a0_ 1) &&& (6148914691236517205))) &&& (3689348814741910323)) + ((jushr (a0_ - ((jushr a0_ 1) &&& (6148914691236517205))) 2) &&& (3689348814741910323))) + (jushr (((a0_ - ((jushr a0_ 1) &&& (6148914691236517205))) &&& (3689348814741910323)) + ((jushr (a0_ - ((jushr a0_ 1) &&& (6148914691236517205))) 2) &&& (3689348814741910323))) 4)) &&& (1085102592571150095)) 8)) 16)) 32)).toInt32) &&& 127
set_option maxHeartbeats 4000000 in
set_option maxRecDepth 100000 in
theorem wJ13_bitCount_95d88_0 {X : CX} {tys : List (ClassId × FieldType)} {D : va_G} {A : Nat → Prop} {res : Int32} (a0_ : Int64) (C : Cx X cJ13_bitCount_95d88 RJ13 2 D tys A 0 0 0) (hR : Rt X (some .int) D tys A 0 0 (eI ([]) res))  (h : pJ13_bitCount_95d88_0  a0_ = res) : At X D A 2 0 0 0 [(0, .long a0_)] [] (([] : va_W)) := by
  unfold pJ13_bitCount_95d88_0 at h
  refine r_lload_n C 0 (dall tdJ13_bitCount_95d88 0 rfl) rfl ?_
  refine r_lload_n C 0 (dall tdJ13_bitCount_95d88 1 rfl) rfl ?_
  refine r_iconst (v := 1) C (dall tdJ13_bitCount_95d88 2 rfl) (by decide) ?_
  refine r_lushr C (dall tdJ13_bitCount_95d88 3 rfl) ?_
  refine r_ldc2 C kk_J13_314 (dall tdJ13_bitCount_95d88 4 rfl) ?_
  refine r_land C (dall tdJ13_bitCount_95d88 5 rfl) ?_
  refine r_lsub C (dall tdJ13_bitCount_95d88 6 rfl) ?_
  refine r_lstore_n (lv' := [(0, .long (a0_ - ((jushr a0_ 1) &&& (6148914691236517205))))]) C (dall tdJ13_bitCount_95d88 7 rfl) (by decide) rfl ?_
  refine r_lload_n C 0 (dall tdJ13_bitCount_95d88 8 rfl) rfl ?_
  refine r_ldc2 C kk_J13_316 (dall tdJ13_bitCount_95d88 9 rfl) ?_
  refine r_land C (dall tdJ13_bitCount_95d88 10 rfl) ?_
  refine r_lload_n C 0 (dall tdJ13_bitCount_95d88 11 rfl) rfl ?_
  refine r_iconst (v := 2) C (dall tdJ13_bitCount_95d88 12 rfl) (by decide) ?_
  refine r_lushr C (dall tdJ13_bitCount_95d88 13 rfl) ?_
  refine r_ldc2 C kk_J13_316 (dall tdJ13_bitCount_95d88 14 rfl) ?_
  refine r_land C (dall tdJ13_bitCount_95d88 15 rfl) ?_
  refine r_ladd C (dall tdJ13_bitCount_95d88 16 rfl) ?_
  refine r_lstore_n (lv' := [(0, .long (((a0_ - ((jushr a0_ 1) &&& (6148914691236517205))) &&& (3689348814741910323)) + ((jushr (a0_ - ((jushr a0_ 1) &&& (6148914691236517205))) 2) &&& (3689348814741910323))))]) C (dall tdJ13_bitCount_95d88 17 rfl) (by decide) rfl ?_
  refine r_lload_n C 0 (dall tdJ13_bitCount_95d88 18 rfl) rfl ?_
  refine r_lload_n C 0 (dall tdJ13_bitCount_95d88 19 rfl) rfl ?_
  refine r_iconst (v := 4) C (dall tdJ13_bitCount_95d88 20 rfl) (by decide) ?_
  refine r_lushr C (dall tdJ13_bitCount_95d88 21 rfl) ?_
  refine r_ladd C (dall tdJ13_bitCount_95d88 22 rfl) ?_
  refine r_ldc2 C kk_J13_318 (dall tdJ13_bitCount_95d88 23 rfl) ?_
  refine r_land C (dall tdJ13_bitCount_95d88 24 rfl) ?_
  refine r_lstore_n (lv' := [(0, .long (((((a0_ - ((jushr a0_ 1) &&& (6148914691236517205))) &&& (3689348814741910323)) + ((jushr (a0_ - ((jushr a0_ 1) &&& (6148914691236517205))) 2) &&& (3689348814741910323))) + (jushr (((a0_ - ((jushr a0_ 1) &&& (6148914691236517205))) &&& (3689348814741910323)) + ((jushr (a0_ - ((jushr a0_ 1) &&& (6148914691236517205))) 2) &&& (3689348814741910323))) 4)) &&& (1085102592571150095)))]) C (dall tdJ13_bitCount_95d88 25 rfl) (by decide) rfl ?_
  refine r_lload_n C 0 (dall tdJ13_bitCount_95d88 26 rfl) rfl ?_
  refine r_lload_n C 0 (dall tdJ13_bitCount_95d88 27 rfl) rfl ?_
  refine r_bipush (v := 8) C (dall tdJ13_bitCount_95d88 28 rfl) (by decide) ?_
  refine r_lushr C (dall tdJ13_bitCount_95d88 29 rfl) ?_
  refine r_ladd C (dall tdJ13_bitCount_95d88 30 rfl) ?_
  refine r_lstore_n (lv' := [(0, .long ((((((a0_ - ((jushr a0_ 1) &&& (6148914691236517205))) &&& (3689348814741910323)) + ((jushr (a0_ - ((jushr a0_ 1) &&& (6148914691236517205))) 2) &&& (3689348814741910323))) + (jushr (((a0_ - ((jushr a0_ 1) &&& (6148914691236517205))) &&& (3689348814741910323)) + ((jushr (a0_ - ((jushr a0_ 1) &&& (6148914691236517205))) 2) &&& (3689348814741910323))) 4)) &&& (1085102592571150095)) + (jushr (((((a0_ - ((jushr a0_ 1) &&& (6148914691236517205))) &&& (3689348814741910323)) + ((jushr (a0_ - ((jushr a0_ 1) &&& (6148914691236517205))) 2) &&& (3689348814741910323))) + (jushr (((a0_ - ((jushr a0_ 1) &&& (6148914691236517205))) &&& (3689348814741910323)) + ((jushr (a0_ - ((jushr a0_ 1) &&& (6148914691236517205))) 2) &&& (3689348814741910323))) 4)) &&& (1085102592571150095)) 8)))]) C (dall tdJ13_bitCount_95d88 31 rfl) (by decide) rfl ?_
  refine r_lload_n C 0 (dall tdJ13_bitCount_95d88 32 rfl) rfl ?_
  refine r_lload_n C 0 (dall tdJ13_bitCount_95d88 33 rfl) rfl ?_
  refine r_bipush (v := 16) C (dall tdJ13_bitCount_95d88 34 rfl) (by decide) ?_
  refine r_lushr C (dall tdJ13_bitCount_95d88 35 rfl) ?_
  refine r_ladd C (dall tdJ13_bitCount_95d88 36 rfl) ?_
  refine r_lstore_n (lv' := [(0, .long (((((((a0_ - ((jushr a0_ 1) &&& (6148914691236517205))) &&& (3689348814741910323)) + ((jushr (a0_ - ((jushr a0_ 1) &&& (6148914691236517205))) 2) &&& (3689348814741910323))) + (jushr (((a0_ - ((jushr a0_ 1) &&& (6148914691236517205))) &&& (3689348814741910323)) + ((jushr (a0_ - ((jushr a0_ 1) &&& (6148914691236517205))) 2) &&& (3689348814741910323))) 4)) &&& (1085102592571150095)) + (jushr (((((a0_ - ((jushr a0_ 1) &&& (6148914691236517205))) &&& (3689348814741910323)) + ((jushr (a0_ - ((jushr a0_ 1) &&& (6148914691236517205))) 2) &&& (3689348814741910323))) + (jushr (((a0_ - ((jushr a0_ 1) &&& (6148914691236517205))) &&& (3689348814741910323)) + ((jushr (a0_ - ((jushr a0_ 1) &&& (6148914691236517205))) 2) &&& (3689348814741910323))) 4)) &&& (1085102592571150095)) 8)) + (jushr ((((((a0_ - ((jushr a0_ 1) &&& (6148914691236517205))) &&& (3689348814741910323)) + ((jushr (a0_ - ((jushr a0_ 1) &&& (6148914691236517205))) 2) &&& (3689348814741910323))) + (jushr (((a0_ - ((jushr a0_ 1) &&& (6148914691236517205))) &&& (3689348814741910323)) + ((jushr (a0_ - ((jushr a0_ 1) &&& (6148914691236517205))) 2) &&& (3689348814741910323))) 4)) &&& (1085102592571150095)) + (jushr (((((a0_ - ((jushr a0_ 1) &&& (6148914691236517205))) &&& (3689348814741910323)) + ((jushr (a0_ - ((jushr a0_ 1) &&& (6148914691236517205))) 2) &&& (3689348814741910323))) + (jushr (((a0_ - ((jushr a0_ 1) &&& (6148914691236517205))) &&& (3689348814741910323)) + ((jushr (a0_ - ((jushr a0_ 1) &&& (6148914691236517205))) 2) &&& (3689348814741910323))) 4)) &&& (1085102592571150095)) 8)) 16)))]) C (dall tdJ13_bitCount_95d88 37 rfl) (by decide) rfl ?_
  refine r_lload_n C 0 (dall tdJ13_bitCount_95d88 38 rfl) rfl ?_
  refine r_lload_n C 0 (dall tdJ13_bitCount_95d88 39 rfl) rfl ?_
  refine r_bipush (v := 32) C (dall tdJ13_bitCount_95d88 40 rfl) (by decide) ?_
  refine r_lushr C (dall tdJ13_bitCount_95d88 41 rfl) ?_
  refine r_ladd C (dall tdJ13_bitCount_95d88 42 rfl) ?_
  refine r_lstore_n (lv' := [(0, .long ((((((((a0_ - ((jushr a0_ 1) &&& (6148914691236517205))) &&& (3689348814741910323)) + ((jushr (a0_ - ((jushr a0_ 1) &&& (6148914691236517205))) 2) &&& (3689348814741910323))) + (jushr (((a0_ - ((jushr a0_ 1) &&& (6148914691236517205))) &&& (3689348814741910323)) + ((jushr (a0_ - ((jushr a0_ 1) &&& (6148914691236517205))) 2) &&& (3689348814741910323))) 4)) &&& (1085102592571150095)) + (jushr (((((a0_ - ((jushr a0_ 1) &&& (6148914691236517205))) &&& (3689348814741910323)) + ((jushr (a0_ - ((jushr a0_ 1) &&& (6148914691236517205))) 2) &&& (3689348814741910323))) + (jushr (((a0_ - ((jushr a0_ 1) &&& (6148914691236517205))) &&& (3689348814741910323)) + ((jushr (a0_ - ((jushr a0_ 1) &&& (6148914691236517205))) 2) &&& (3689348814741910323))) 4)) &&& (1085102592571150095)) 8)) + (jushr ((((((a0_ - ((jushr a0_ 1) &&& (6148914691236517205))) &&& (3689348814741910323)) + ((jushr (a0_ - ((jushr a0_ 1) &&& (6148914691236517205))) 2) &&& (3689348814741910323))) + (jushr (((a0_ - ((jushr a0_ 1) &&& (6148914691236517205))) &&& (3689348814741910323)) + ((jushr (a0_ - ((jushr a0_ 1) &&& (6148914691236517205))) 2) &&& (3689348814741910323))) 4)) &&& (1085102592571150095)) + (jushr (((((a0_ - ((jushr a0_ 1) &&& (6148914691236517205))) &&& (3689348814741910323)) + ((jushr (a0_ - ((jushr a0_ 1) &&& (6148914691236517205))) 2) &&& (3689348814741910323))) + (jushr (((a0_ - ((jushr a0_ 1) &&& (6148914691236517205))) &&& (3689348814741910323)) + ((jushr (a0_ - ((jushr a0_ 1) &&& (6148914691236517205))) 2) &&& (3689348814741910323))) 4)) &&& (1085102592571150095)) 8)) 16)) + (jushr (((((((a0_ - ((jushr a0_ 1) &&& (6148914691236517205))) &&& (3689348814741910323)) + ((jushr (a0_ - ((jushr a0_ 1) &&& (6148914691236517205))) 2) &&& (3689348814741910323))) + (jushr (((a0_ - ((jushr a0_ 1) &&& (6148914691236517205))) &&& (3689348814741910323)) + ((jushr (a0_ - ((jushr a0_ 1) &&& (6148914691236517205))) 2) &&& (3689348814741910323))) 4)) &&& (1085102592571150095)) + (jushr (((((a0_ - ((jushr a0_ 1) &&& (6148914691236517205))) &&& (3689348814741910323)) + ((jushr (a0_ - ((jushr a0_ 1) &&& (6148914691236517205))) 2) &&& (3689348814741910323))) + (jushr (((a0_ - ((jushr a0_ 1) &&& (6148914691236517205))) &&& (3689348814741910323)) + ((jushr (a0_ - ((jushr a0_ 1) &&& (6148914691236517205))) 2) &&& (3689348814741910323))) 4)) &&& (1085102592571150095)) 8)) + (jushr ((((((a0_ - ((jushr a0_ 1) &&& (6148914691236517205))) &&& (3689348814741910323)) + ((jushr (a0_ - ((jushr a0_ 1) &&& (6148914691236517205))) 2) &&& (3689348814741910323))) + (jushr (((a0_ - ((jushr a0_ 1) &&& (6148914691236517205))) &&& (3689348814741910323)) + ((jushr (a0_ - ((jushr a0_ 1) &&& (6148914691236517205))) 2) &&& (3689348814741910323))) 4)) &&& (1085102592571150095)) + (jushr (((((a0_ - ((jushr a0_ 1) &&& (6148914691236517205))) &&& (3689348814741910323)) + ((jushr (a0_ - ((jushr a0_ 1) &&& (6148914691236517205))) 2) &&& (3689348814741910323))) + (jushr (((a0_ - ((jushr a0_ 1) &&& (6148914691236517205))) &&& (3689348814741910323)) + ((jushr (a0_ - ((jushr a0_ 1) &&& (6148914691236517205))) 2) &&& (3689348814741910323))) 4)) &&& (1085102592571150095)) 8)) 16)) 32)))]) C (dall tdJ13_bitCount_95d88 43 rfl) (by decide) rfl ?_
  refine r_lload_n C 0 (dall tdJ13_bitCount_95d88 44 rfl) rfl ?_
  refine r_l2i C (dall tdJ13_bitCount_95d88 45 rfl) ?_
  refine r_bipush (v := 127) C (dall tdJ13_bitCount_95d88 46 rfl) (by decide) ?_
  refine r_iand C (dall tdJ13_bitCount_95d88 47 rfl) ?_
  exact r_iret C hR (dall tdJ13_bitCount_95d88 48 rfl) (by subst h; exact ⟨rfl, rfl⟩)
def fJ13_bitCount_95d88 (a0_ : Int64) : Int32 := pJ13_bitCount_95d88_0  a0_
set_option maxRecDepth 100000 in
theorem zJ13_bitCount_95d88  {D : va_G} (a0_ : Int64)  {tys : List (ClassId × FieldType)} : Con yJ13_bitCount_95d88 cJ13_bitCount_95d88 2 (some .int) 0 0 0 D tys [.long a0_] ([]) (eI ([]) (fJ13_bitCount_95d88 a0_)) :=
  Con.of (own := RJ13) (by decide +kernel) rfl (Nat.le_of_ble_eq_true rfl) (Nat.zero_le _) (fun X A C hR _ => (wJ13_bitCount_95d88_0 a0_ C hR  rfl))
theorem ms_J13_bitCount_95d88 : MS_ yJ13_bitCount_95d88 cJ13_bitCount_95d88 2 (some .int) 1 := ⟨ks_J13_bitCount_95d88, kn_J13, kc_J13_bitCount_95d88, by decide +kernel⟩
def tbJ6_numberOfLeadingZeros_0f7a4 : List (Nat × Instr × Nat) := [(0, .iload_n 0, 1), (1, .ifCond .gt 14, 3), (4, .iload_n 0, 1), (5, .ifCond .ne 8, 3), (8, .bipush 32, 2), (10, .goto 4, 3), (13, .iconst 0, 1), (14, .ireturn, 1), (15, .bipush 31, 2), (17, .istore_n 1, 1), (18, .iload_n 0, 1), (19, .ldc_w 264, 3), (22, .if_icmp .lt 11, 3), (25, .iinc 1 (-16), 3), (28, .iload_n 0, 1), (29, .bipush 16, 2), (31, .iushr, 1), (32, .istore_n 0, 1), (33, .iload_n 0, 1), (34, .sipush 256, 3), (37, .if_icmp .lt 11, 3), (40, .iinc 1 (-8), 3), (43, .iload_n 0, 1), (44, .bipush 8, 2), (46, .iushr, 1), (47, .istore_n 0, 1), (48, .iload_n 0, 1), (49, .bipush 16, 2), (51, .if_icmp .lt 10, 3), (54, .iinc 1 (-4), 3), (57, .iload_n 0, 1), (58, .iconst 4, 1), (59, .iushr, 1), (60, .istore_n 0, 1), (61, .iload_n 0, 1), (62, .iconst 4, 1), (63, .if_icmp .lt 10, 3), (66, .iinc 1 (-2), 3), (69, .iload_n 0, 1), (70, .iconst 2, 1), (71, .iushr, 1), (72, .istore_n 0, 1), (73, .iload_n 1, 1), (74, .iload_n 0, 1), (75, .iconst 1, 1), (76, .iushr, 1), (77, .isub, 1), (78, .ireturn, 1)]
theorem tdJ6_numberOfLeadingZeros_0f7a4 : tbJ6_numberOfLeadingZeros_0f7a4.all (fun q => decide (decode cJ6_numberOfLeadingZeros_0f7a4 q.1 = .ok q.2)) = true := by decide +kernel
def pJ6_numberOfLeadingZeros_0f7a4_73  (a0_ : Int32) (a1_ : Int32) : Int32 := a1_ - (jiushr a0_ 1)
set_option maxHeartbeats 4000000 in
set_option maxRecDepth 100000 in
theorem wJ6_numberOfLeadingZeros_0f7a4_73 {X : CX} {tys : List (ClassId × FieldType)} {D : va_G} {A : Nat → Prop} {res : Int32} (a0_ : Int32) (a1_ : Int32) (C : Cx X cJ6_numberOfLeadingZeros_0f7a4 RJ6 2 D tys A 0 0 0) (hR : Rt X (some .int) D tys A 0 0 (eI ([]) res))  (h : pJ6_numberOfLeadingZeros_0f7a4_73  a0_ a1_ = res) : At X D A 2 0 0 73 [(0, .int a0_), (1, .int a1_)] [] (([] : va_W)) := by
  unfold pJ6_numberOfLeadingZeros_0f7a4_73 at h
  refine r_iload_n C 1 (dall tdJ6_numberOfLeadingZeros_0f7a4 42 rfl) rfl ?_
  refine r_iload_n C 0 (dall tdJ6_numberOfLeadingZeros_0f7a4 43 rfl) rfl ?_
  refine r_iconst (v := 1) C (dall tdJ6_numberOfLeadingZeros_0f7a4 44 rfl) (by decide) ?_
  refine r_iushr C (dall tdJ6_numberOfLeadingZeros_0f7a4 45 rfl) ?_
  refine r_isub C (dall tdJ6_numberOfLeadingZeros_0f7a4 46 rfl) ?_
  exact r_iret C hR (dall tdJ6_numberOfLeadingZeros_0f7a4 47 rfl) (by subst h; exact ⟨rfl, rfl⟩)
def pJ6_numberOfLeadingZeros_0f7a4_61  (a0_ : Int32) (a1_ : Int32) : Int32 := if a0_ < 4 then pJ6_numberOfLeadingZeros_0f7a4_73  a0_ a1_ else pJ6_numberOfLeadingZeros_0f7a4_73  (jiushr a0_ 2) (a1_ + (-2))
set_option maxHeartbeats 4000000 in
set_option maxRecDepth 100000 in
theorem wJ6_numberOfLeadingZeros_0f7a4_61 {X : CX} {tys : List (ClassId × FieldType)} {D : va_G} {A : Nat → Prop} {res : Int32} (a0_ : Int32) (a1_ : Int32) (C : Cx X cJ6_numberOfLeadingZeros_0f7a4 RJ6 2 D tys A 0 0 0) (hR : Rt X (some .int) D tys A 0 0 (eI ([]) res))  (h : pJ6_numberOfLeadingZeros_0f7a4_61  a0_ a1_ = res) : At X D A 2 0 0 61 [(0, .int a0_), (1, .int a1_)] [] (([] : va_W)) := by
  unfold pJ6_numberOfLeadingZeros_0f7a4_61 at h
  refine r_iload_n C 0 (dall tdJ6_numberOfLeadingZeros_0f7a4 34 rfl) rfl ?_
  refine r_iconst (v := 4) C (dall tdJ6_numberOfLeadingZeros_0f7a4 35 rfl) (by decide) ?_
  refine r_icmp_lt (tgt := 73) C (dall tdJ6_numberOfLeadingZeros_0f7a4 36 rfl) (by decide) (fun c1 => ?_) (fun c1 => ?_)
  · have h := (if_pos c1).symm.trans h
    exact wJ6_numberOfLeadingZeros_0f7a4_73 a0_ a1_ C hR  h
  · have h := (if_neg c1).symm.trans h
    refine r_iinc (v := a1_ + (-2)) (lv' := [(1, .int (a1_ + (-2))), (0, .int a0_)]) C 1 (dall tdJ6_numberOfLeadingZeros_0f7a4 37 rfl) rfl rfl (by decide) rfl ?_
    refine r_iload_n C 1 (dall tdJ6_numberOfLeadingZeros_0f7a4 38 rfl) rfl ?_
    refine r_iconst (v := 2) C (dall tdJ6_numberOfLeadingZeros_0f7a4 39 rfl) (by decide) ?_
    refine r_iushr C (dall tdJ6_numberOfLeadingZeros_0f7a4 40 rfl) ?_
    refine r_istore_n (lv' := [(0, .int (jiushr a0_ 2)), (1, .int (a1_ + (-2)))]) C (dall tdJ6_numberOfLeadingZeros_0f7a4 41 rfl) (by decide) rfl ?_
    exact wJ6_numberOfLeadingZeros_0f7a4_73 (jiushr a0_ 2) (a1_ + (-2)) C hR  h
def pJ6_numberOfLeadingZeros_0f7a4_48  (a0_ : Int32) (a1_ : Int32) : Int32 := if a0_ < 16 then pJ6_numberOfLeadingZeros_0f7a4_61  a0_ a1_ else pJ6_numberOfLeadingZeros_0f7a4_61  (jiushr a0_ 4) (a1_ + (-4))
set_option maxHeartbeats 4000000 in
set_option maxRecDepth 100000 in
theorem wJ6_numberOfLeadingZeros_0f7a4_48 {X : CX} {tys : List (ClassId × FieldType)} {D : va_G} {A : Nat → Prop} {res : Int32} (a0_ : Int32) (a1_ : Int32) (C : Cx X cJ6_numberOfLeadingZeros_0f7a4 RJ6 2 D tys A 0 0 0) (hR : Rt X (some .int) D tys A 0 0 (eI ([]) res))  (h : pJ6_numberOfLeadingZeros_0f7a4_48  a0_ a1_ = res) : At X D A 2 0 0 48 [(0, .int a0_), (1, .int a1_)] [] (([] : va_W)) := by
  unfold pJ6_numberOfLeadingZeros_0f7a4_48 at h
  refine r_iload_n C 0 (dall tdJ6_numberOfLeadingZeros_0f7a4 26 rfl) rfl ?_
  refine r_bipush (v := 16) C (dall tdJ6_numberOfLeadingZeros_0f7a4 27 rfl) (by decide) ?_
  refine r_icmp_lt (tgt := 61) C (dall tdJ6_numberOfLeadingZeros_0f7a4 28 rfl) (by decide) (fun c2 => ?_) (fun c2 => ?_)
  · have h := (if_pos c2).symm.trans h
    exact wJ6_numberOfLeadingZeros_0f7a4_61 a0_ a1_ C hR  h
  · have h := (if_neg c2).symm.trans h
    refine r_iinc (v := a1_ + (-4)) (lv' := [(1, .int (a1_ + (-4))), (0, .int a0_)]) C 1 (dall tdJ6_numberOfLeadingZeros_0f7a4 29 rfl) rfl rfl (by decide) rfl ?_
    refine r_iload_n C 1 (dall tdJ6_numberOfLeadingZeros_0f7a4 30 rfl) rfl ?_
    refine r_iconst (v := 4) C (dall tdJ6_numberOfLeadingZeros_0f7a4 31 rfl) (by decide) ?_
    refine r_iushr C (dall tdJ6_numberOfLeadingZeros_0f7a4 32 rfl) ?_
    refine r_istore_n (lv' := [(0, .int (jiushr a0_ 4)), (1, .int (a1_ + (-4)))]) C (dall tdJ6_numberOfLeadingZeros_0f7a4 33 rfl) (by decide) rfl ?_
    exact wJ6_numberOfLeadingZeros_0f7a4_61 (jiushr a0_ 4) (a1_ + (-4)) C hR  h
def pJ6_numberOfLeadingZeros_0f7a4_33  (a0_ : Int32) (a1_ : Int32) : Int32 := if a0_ < 256 then pJ6_numberOfLeadingZeros_0f7a4_48  a0_ a1_ else pJ6_numberOfLeadingZeros_0f7a4_48  (jiushr a0_ 8) (a1_ + (-8))
set_option maxHeartbeats 4000000 in
set_option maxRecDepth 100000 in
theorem wJ6_numberOfLeadingZeros_0f7a4_33 {X : CX} {tys : List (ClassId × FieldType)} {D : va_G} {A : Nat → Prop} {res : Int32} (a0_ : Int32) (a1_ : Int32) (C : Cx X cJ6_numberOfLeadingZeros_0f7a4 RJ6 2 D tys A 0 0 0) (hR : Rt X (some .int) D tys A 0 0 (eI ([]) res))  (h : pJ6_numberOfLeadingZeros_0f7a4_33  a0_ a1_ = res) : At X D A 2 0 0 33 [(0, .int a0_), (1, .int a1_)] [] (([] : va_W)) := by
  unfold pJ6_numberOfLeadingZeros_0f7a4_33 at h
  refine r_iload_n C 0 (dall tdJ6_numberOfLeadingZeros_0f7a4 18 rfl) rfl ?_
  refine r_sipush (v := 256) C (dall tdJ6_numberOfLeadingZeros_0f7a4 19 rfl) (by decide) ?_
  refine r_icmp_lt (tgt := 48) C (dall tdJ6_numberOfLeadingZeros_0f7a4 20 rfl) (by decide) (fun c3 => ?_) (fun c3 => ?_)
  · have h := (if_pos c3).symm.trans h
    exact wJ6_numberOfLeadingZeros_0f7a4_48 a0_ a1_ C hR  h
  · have h := (if_neg c3).symm.trans h
    refine r_iinc (v := a1_ + (-8)) (lv' := [(1, .int (a1_ + (-8))), (0, .int a0_)]) C 1 (dall tdJ6_numberOfLeadingZeros_0f7a4 21 rfl) rfl rfl (by decide) rfl ?_
    refine r_iload_n C 1 (dall tdJ6_numberOfLeadingZeros_0f7a4 22 rfl) rfl ?_
    refine r_bipush (v := 8) C (dall tdJ6_numberOfLeadingZeros_0f7a4 23 rfl) (by decide) ?_
    refine r_iushr C (dall tdJ6_numberOfLeadingZeros_0f7a4 24 rfl) ?_
    refine r_istore_n (lv' := [(0, .int (jiushr a0_ 8)), (1, .int (a1_ + (-8)))]) C (dall tdJ6_numberOfLeadingZeros_0f7a4 25 rfl) (by decide) rfl ?_
    exact wJ6_numberOfLeadingZeros_0f7a4_48 (jiushr a0_ 8) (a1_ + (-8)) C hR  h
def pJ6_numberOfLeadingZeros_0f7a4_0  (a0_ : Int32) : Int32 := if 0 < a0_ then if a0_ < (65536) then pJ6_numberOfLeadingZeros_0f7a4_33  a0_ 31 else pJ6_numberOfLeadingZeros_0f7a4_33  (jiushr a0_ 16) (31 + (-16)) else if a0_ = 0 then 32 else 0
set_option maxHeartbeats 4000000 in
set_option maxRecDepth 100000 in
theorem wJ6_numberOfLeadingZeros_0f7a4_0 {X : CX} {tys : List (ClassId × FieldType)} {D : va_G} {A : Nat → Prop} {res : Int32} (a0_ : Int32) (C : Cx X cJ6_numberOfLeadingZeros_0f7a4 RJ6 2 D tys A 0 0 0) (hR : Rt X (some .int) D tys A 0 0 (eI ([]) res))  (h : pJ6_numberOfLeadingZeros_0f7a4_0  a0_ = res) : At X D A 2 0 0 0 [(0, .int a0_)] [] (([] : va_W)) := by
  unfold pJ6_numberOfLeadingZeros_0f7a4_0 at h
  refine r_iload_n C 0 (dall tdJ6_numberOfLeadingZeros_0f7a4 0 rfl) rfl ?_
  refine r_if_gt (tgt := 15) C (dall tdJ6_numberOfLeadingZeros_0f7a4 1 rfl) (by decide) (fun c4 => ?_) (fun c4 => ?_)
  · have h := (if_pos c4).symm.trans h
    refine r_bipush (v := 31) C (dall tdJ6_numberOfLeadingZeros_0f7a4 8 rfl) (by decide) ?_
    refine r_istore_n (lv' := [(1, .int 31), (0, .int a0_)]) C (dall tdJ6_numberOfLeadingZeros_0f7a4 9 rfl) (by decide) rfl ?_
    refine r_iload_n C 1 (dall tdJ6_numberOfLeadingZeros_0f7a4 10 rfl) rfl ?_
    refine r_ldcw C kk_J6_264 (dall tdJ6_numberOfLeadingZeros_0f7a4 11 rfl) ?_
    refine r_icmp_lt (tgt := 33) C (dall tdJ6_numberOfLeadingZeros_0f7a4 12 rfl) (by decide) (fun c5 => ?_) (fun c5 => ?_)
    · have h := (if_pos c5).symm.trans h
      refine r_pick [1, 0] rfl ?_
      exact wJ6_numberOfLeadingZeros_0f7a4_33 a0_ 31 C hR  h
    · have h := (if_neg c5).symm.trans h
      refine r_iinc (v := 31 + (-16)) (lv' := [(1, .int (31 + (-16))), (0, .int a0_)]) C 0 (dall tdJ6_numberOfLeadingZeros_0f7a4 13 rfl) rfl rfl (by decide) rfl ?_
      refine r_iload_n C 1 (dall tdJ6_numberOfLeadingZeros_0f7a4 14 rfl) rfl ?_
      refine r_bipush (v := 16) C (dall tdJ6_numberOfLeadingZeros_0f7a4 15 rfl) (by decide) ?_
      refine r_iushr C (dall tdJ6_numberOfLeadingZeros_0f7a4 16 rfl) ?_
      refine r_istore_n (lv' := [(0, .int (jiushr a0_ 16)), (1, .int (31 + (-16)))]) C (dall tdJ6_numberOfLeadingZeros_0f7a4 17 rfl) (by decide) rfl ?_
      exact wJ6_numberOfLeadingZeros_0f7a4_33 (jiushr a0_ 16) (31 + (-16)) C hR  h
  · have h := (if_neg c4).symm.trans h
    refine r_iload_n C 0 (dall tdJ6_numberOfLeadingZeros_0f7a4 2 rfl) rfl ?_
    refine r_if_ne (tgt := 13) C (dall tdJ6_numberOfLeadingZeros_0f7a4 3 rfl) (by decide) (fun c6 => ?_) (fun c6 => ?_)
    · have h := (if_neg c6).symm.trans h
      refine r_iconst (v := 0) C (dall tdJ6_numberOfLeadingZeros_0f7a4 6 rfl) (by decide) ?_
      exact r_iret C hR (dall tdJ6_numberOfLeadingZeros_0f7a4 7 rfl) (by subst h; exact ⟨rfl, rfl⟩)
    · have h := (if_pos c6).symm.trans h
      refine r_bipush (v := 32) C (dall tdJ6_numberOfLeadingZeros_0f7a4 4 rfl) (by decide) ?_
      refine r_goto (tgt := 14) C (dall tdJ6_numberOfLeadingZeros_0f7a4 5 rfl) (by decide) ?_
      exact r_iret C hR (dall tdJ6_numberOfLeadingZeros_0f7a4 7 rfl) (by subst h; exact ⟨rfl, rfl⟩)
def fJ6_numberOfLeadingZeros_0f7a4 (a0_ : Int32) : Int32 := pJ6_numberOfLeadingZeros_0f7a4_0  a0_
set_option maxRecDepth 100000 in
theorem zJ6_numberOfLeadingZeros_0f7a4  {D : va_G} (a0_ : Int32)  {tys : List (ClassId × FieldType)} : Con yJ6_numberOfLeadingZeros_0f7a4 cJ6_numberOfLeadingZeros_0f7a4 2 (some .int) 0 0 0 D tys [.int a0_] ([]) (eI ([]) (fJ6_numberOfLeadingZeros_0f7a4 a0_)) :=
  Con.of (own := RJ6) (by decide +kernel) rfl (Nat.le_of_ble_eq_true rfl) (Nat.zero_le _) (fun X A C hR _ => (wJ6_numberOfLeadingZeros_0f7a4_0 a0_ C hR  rfl))
theorem ms_J6_numberOfLeadingZeros_0f7a4 : MS_ yJ6_numberOfLeadingZeros_0f7a4 cJ6_numberOfLeadingZeros_0f7a4 2 (some .int) 1 := ⟨ks_J6_numberOfLeadingZeros_0f7a4, kn_J6, kc_J6_numberOfLeadingZeros_0f7a4, by decide +kernel⟩
def tbJ13_numberOfLeadingZeros_95d88 : List (Nat × Instr × Nat) := [(0, .lload_n 0, 1), (1, .bipush 32, 2), (3, .lushr, 1), (4, .l2i, 1), (5, .istore_n 2, 1), (6, .iload_n 2, 1), (7, .ifCond .ne 14, 3), (10, .bipush 32, 2), (12, .lload_n 0, 1), (13, .l2i, 1), (14, .invokestatic 308, 3), (17, .iadd, 1), (18, .goto 7, 3), (21, .iload_n 2, 1), (22, .invokestatic 308, 3), (25, .ireturn, 1)]
theorem tdJ13_numberOfLeadingZeros_95d88 : tbJ13_numberOfLeadingZeros_95d88.all (fun q => decide (decode cJ13_numberOfLeadingZeros_95d88 q.1 = .ok q.2)) = true := by decide +kernel
def pJ13_numberOfLeadingZeros_95d88_0  (a0_ : Int64) : Int32 := if ((jushr a0_ 32).toInt32) = 0 then 32 + (fJ6_numberOfLeadingZeros_0f7a4 a0_.toInt32) else fJ6_numberOfLeadingZeros_0f7a4 ((jushr a0_ 32).toInt32)
set_option maxHeartbeats 4000000 in
set_option maxRecDepth 100000 in
theorem wJ13_numberOfLeadingZeros_95d88_0 {X : CX} {tys : List (ClassId × FieldType)} {D : va_G} {A : Nat → Prop} {res : Int32} (a0_ : Int64) (C : Cx X cJ13_numberOfLeadingZeros_95d88 RJ13 3 D tys A 1 0 0) (hR : Rt X (some .int) D tys A 0 0 (eI ([]) res))  (h : pJ13_numberOfLeadingZeros_95d88_0  a0_ = res) : At X D A 3 0 0 0 [(0, .long a0_)] [] (([] : va_W)) := by
  unfold pJ13_numberOfLeadingZeros_95d88_0 at h
  refine r_lload_n C 0 (dall tdJ13_numberOfLeadingZeros_95d88 0 rfl) rfl ?_
  refine r_bipush (v := 32) C (dall tdJ13_numberOfLeadingZeros_95d88 1 rfl) (by decide) ?_
  refine r_lushr C (dall tdJ13_numberOfLeadingZeros_95d88 2 rfl) ?_
  refine r_l2i C (dall tdJ13_numberOfLeadingZeros_95d88 3 rfl) ?_
  refine r_istore_n (lv' := [(2, .int ((jushr a0_ 32).toInt32)), (0, .long a0_)]) C (dall tdJ13_numberOfLeadingZeros_95d88 4 rfl) (by decide) rfl ?_
  refine r_iload_n C 0 (dall tdJ13_numberOfLeadingZeros_95d88 5 rfl) rfl ?_
  refine r_if_ne (tgt := 21) C (dall tdJ13_numberOfLeadingZeros_95d88 6 rfl) (by decide) (fun c1 => ?_) (fun c1 => ?_)
  · have h := (if_neg c1).symm.trans h
    refine r_iload_n C 0 (dall tdJ13_numberOfLeadingZeros_95d88 13 rfl) rfl ?_
    refine r_s0I (as := [.int ((jushr a0_ 32).toInt32)]) C (zJ6_numberOfLeadingZeros_0f7a4 ((jushr a0_ 32).toInt32) ) ms_J6_numberOfLeadingZeros_0f7a4 km_J13_308 (by decide) (by decide) ⟨Nat.le_refl _, Nat.le_refl _⟩ rfl rfl (Nat.le_of_ble_eq_true rfl) (dall tdJ13_numberOfLeadingZeros_95d88 14 rfl) ?_
    exact r_iret C hR (dall tdJ13_numberOfLeadingZeros_95d88 15 rfl) (by subst h; exact ⟨rfl, rfl⟩)
  · have h := (if_pos c1).symm.trans h
    refine r_bipush (v := 32) C (dall tdJ13_numberOfLeadingZeros_95d88 7 rfl) (by decide) ?_
    refine r_lload_n C 1 (dall tdJ13_numberOfLeadingZeros_95d88 8 rfl) rfl ?_
    refine r_l2i C (dall tdJ13_numberOfLeadingZeros_95d88 9 rfl) ?_
    refine r_s0I (as := [.int a0_.toInt32]) C (zJ6_numberOfLeadingZeros_0f7a4 a0_.toInt32 ) ms_J6_numberOfLeadingZeros_0f7a4 km_J13_308 (by decide) (by decide) ⟨Nat.le_refl _, Nat.le_refl _⟩ rfl rfl (Nat.le_of_ble_eq_true rfl) (dall tdJ13_numberOfLeadingZeros_95d88 10 rfl) ?_
    refine r_iadd C (dall tdJ13_numberOfLeadingZeros_95d88 11 rfl) ?_
    refine r_goto (tgt := 25) C (dall tdJ13_numberOfLeadingZeros_95d88 12 rfl) (by decide) ?_
    exact r_iret C hR (dall tdJ13_numberOfLeadingZeros_95d88 15 rfl) (by subst h; exact ⟨rfl, rfl⟩)
def fJ13_numberOfLeadingZeros_95d88 (a0_ : Int64) : Int32 := pJ13_numberOfLeadingZeros_95d88_0  a0_
set_option maxRecDepth 100000 in
theorem zJ13_numberOfLeadingZeros_95d88  {D : va_G} (a0_ : Int64)  {tys : List (ClassId × FieldType)} : Con yJ13_numberOfLeadingZeros_95d88 cJ13_numberOfLeadingZeros_95d88 3 (some .int) 1 0 0 D tys [.long a0_] ([]) (eI ([]) (fJ13_numberOfLeadingZeros_95d88 a0_)) :=
  Con.of (own := RJ13) (by decide +kernel) rfl (Nat.le_of_ble_eq_true rfl) (Nat.zero_le _) (fun X A C hR _ => (wJ13_numberOfLeadingZeros_95d88_0 a0_ C hR  rfl))
theorem ms_J13_numberOfLeadingZeros_95d88 : MS_ yJ13_numberOfLeadingZeros_95d88 cJ13_numberOfLeadingZeros_95d88 3 (some .int) 1 := ⟨ks_J13_numberOfLeadingZeros_95d88, kn_J13, kc_J13_numberOfLeadingZeros_95d88, by decide +kernel⟩
def tbX0_isName : List (Nat × Instr × Nat) := [(0, .iload_n 0, 1), (1, .bipush 6, 2), (3, .if_icmp .lt 13, 3), (6, .iload_n 0, 1), (7, .bipush 12, 2), (9, .if_icmp .ge 7, 3), (12, .iconst 1, 1), (13, .goto 4, 3), (16, .iconst 0, 1), (17, .ireturn, 1)]
theorem tdX0_isName : tbX0_isName.all (fun q => decide (decode cX0_isName q.1 = .ok q.2)) = true := by decide +kernel
def pX0_isName_0  (a0_ : Int32) : Int32 := if a0_ < 6 then 0 else if 12 ≤ a0_ then 0 else 1
set_option maxHeartbeats 4000000 in
set_option maxRecDepth 100000 in
theorem wX0_isName_0 {X : CX} {tys : List (ClassId × FieldType)} {D : va_G} {A : Nat → Prop} {res : Int32} (a0_ : Int32) (C : Cx X cX0_isName RX0 1 D tys A 0 0 0) (hR : Rt X (some .boolean) D tys A 0 0 (eI ([]) res))  (h : pX0_isName_0  a0_ = res) : At X D A 1 0 0 0 [(0, .int a0_)] [] (([] : va_W)) := by
  unfold pX0_isName_0 at h
  refine r_iload_n C 0 (dall tdX0_isName 0 rfl) rfl ?_
  refine r_bipush (v := 6) C (dall tdX0_isName 1 rfl) (by decide) ?_
  refine r_icmp_lt (tgt := 16) C (dall tdX0_isName 2 rfl) (by decide) (fun c1 => ?_) (fun c1 => ?_)
  · have h := (if_pos c1).symm.trans h
    refine r_iconst (v := 0) C (dall tdX0_isName 8 rfl) (by decide) ?_
    exact r_zret C (by decide) hR (dall tdX0_isName 9 rfl) (by subst h; exact ⟨rfl, rfl⟩)
  · have h := (if_neg c1).symm.trans h
    refine r_iload_n C 0 (dall tdX0_isName 3 rfl) rfl ?_
    refine r_bipush (v := 12) C (dall tdX0_isName 4 rfl) (by decide) ?_
    refine r_icmp_ge (tgt := 16) C (dall tdX0_isName 5 rfl) (by decide) (fun c2 => ?_) (fun c2 => ?_)
    · have h := (if_pos c2).symm.trans h
      refine r_iconst (v := 0) C (dall tdX0_isName 8 rfl) (by decide) ?_
      exact r_zret C (by decide) hR (dall tdX0_isName 9 rfl) (by subst h; exact ⟨rfl, rfl⟩)
    · have h := (if_neg c2).symm.trans h
      refine r_iconst (v := 1) C (dall tdX0_isName 6 rfl) (by decide) ?_
      refine r_goto (tgt := 17) C (dall tdX0_isName 7 rfl) (by decide) ?_
      exact r_zret C (by decide) hR (dall tdX0_isName 9 rfl) (by subst h; exact ⟨rfl, rfl⟩)
def fX0_isName (a0_ : Int32) : Int32 := pX0_isName_0  a0_
set_option maxRecDepth 100000 in
theorem zX0_isName  {D : va_G} (a0_ : Int32)  {tys : List (ClassId × FieldType)} : Con yX0_isName cX0_isName 1 (some .boolean) 0 0 0 D tys [.int a0_] ([]) (eI ([]) (fX0_isName a0_)) :=
  Con.of (own := RX0) (by decide +kernel) rfl (Nat.le_of_ble_eq_true rfl) (Nat.zero_le _) (fun X A C hR _ => (wX0_isName_0 a0_ C hR  rfl))
theorem ms_X0_isName : MS_ yX0_isName cX0_isName 1 (some .boolean) 1 := ⟨ks_X0_isName, kn_X0, kc_X0_isName, by decide +kernel⟩
def tbX0_isBlank : List (Nat × Instr × Nat) := [(0, .iload_n 0, 1), (1, .bipush 32, 2), (3, .if_icmp .eq 9, 3), (6, .iload_n 0, 1), (7, .bipush 10, 2), (9, .if_icmp .ne 7, 3), (12, .iconst 1, 1), (13, .goto 4, 3), (16, .iconst 0, 1), (17, .ireturn, 1)]
theorem tdX0_isBlank : tbX0_isBlank.all (fun q => decide (decode cX0_isBlank q.1 = .ok q.2)) = true := by decide +kernel
def pX0_isBlank_12   : Int32 := 1
set_option maxHeartbeats 4000000 in
set_option maxRecDepth 100000 in
theorem wX0_isBlank_12 {X : CX} {tys : List (ClassId × FieldType)} {D : va_G} {A : Nat → Prop} {res : Int32}  (C : Cx X cX0_isBlank RX0 1 D tys A 0 0 0) (hR : Rt X (some .boolean) D tys A 0 0 (eI ([]) res))  (h : pX0_isBlank_12   = res) : At X D A 1 0 0 12 [] [] (([] : va_W)) := by
  unfold pX0_isBlank_12 at h
  refine r_iconst (v := 1) C (dall tdX0_isBlank 6 rfl) (by decide) ?_
  refine r_goto (tgt := 17) C (dall tdX0_isBlank 7 rfl) (by decide) ?_
  exact r_zret C (by decide) hR (dall tdX0_isBlank 9 rfl) (by subst h; exact ⟨rfl, rfl⟩)
def pX0_isBlank_0  (a0_ : Int32) : Int32 := if a0_ = 32 then pX0_isBlank_12   else if a0_ = 10 then pX0_isBlank_12   else 0
set_option maxHeartbeats 4000000 in
set_option maxRecDepth 100000 in
theorem wX0_isBlank_0 {X : CX} {tys : List (ClassId × FieldType)} {D : va_G} {A : Nat → Prop} {res : Int32} (a0_ : Int32) (C : Cx X cX0_isBlank RX0 1 D tys A 0 0 0) (hR : Rt X (some .boolean) D tys A 0 0 (eI ([]) res))  (h : pX0_isBlank_0  a0_ = res) : At X D A 1 0 0 0 [(0, .int a0_)] [] (([] : va_W)) := by
  unfold pX0_isBlank_0 at h
  refine r_iload_n C 0 (dall tdX0_isBlank 0 rfl) rfl ?_
  refine r_bipush (v := 32) C (dall tdX0_isBlank 1 rfl) (by decide) ?_
  refine r_icmp_eq (tgt := 12) C (dall tdX0_isBlank 2 rfl) (by decide) (fun c1 => ?_) (fun c1 => ?_)
  · have h := (if_pos c1).symm.trans h
    refine r_pick [] rfl ?_
    exact wX0_isBlank_12  C hR  h
  · have h := (if_neg c1).symm.trans h
    refine r_iload_n C 0 (dall tdX0_isBlank 3 rfl) rfl ?_
    refine r_bipush (v := 10) C (dall tdX0_isBlank 4 rfl) (by decide) ?_
    refine r_icmp_ne (tgt := 16) C (dall tdX0_isBlank 5 rfl) (by decide) (fun c2 => ?_) (fun c2 => ?_)
    · have h := (if_neg c2).symm.trans h
      refine r_iconst (v := 0) C (dall tdX0_isBlank 8 rfl) (by decide) ?_
      exact r_zret C (by decide) hR (dall tdX0_isBlank 9 rfl) (by subst h; exact ⟨rfl, rfl⟩)
    · have h := (if_pos c2).symm.trans h
      refine r_pick [] rfl ?_
      exact wX0_isBlank_12  C hR  h
def fX0_isBlank (a0_ : Int32) : Int32 := pX0_isBlank_0  a0_
set_option maxRecDepth 100000 in
theorem zX0_isBlank  {D : va_G} (a0_ : Int32)  {tys : List (ClassId × FieldType)} : Con yX0_isBlank cX0_isBlank 1 (some .boolean) 0 0 0 D tys [.int a0_] ([]) (eI ([]) (fX0_isBlank a0_)) :=
  Con.of (own := RX0) (by decide +kernel) rfl (Nat.le_of_ble_eq_true rfl) (Nat.zero_le _) (fun X A C hR _ => (wX0_isBlank_0 a0_ C hR  rfl))
theorem ms_X0_isBlank : MS_ yX0_isBlank cX0_isBlank 1 (some .boolean) 1 := ⟨ks_X0_isBlank, kn_X0, kc_X0_isBlank, by decide +kernel⟩
def tbX0_isLetter : List (Nat × Instr × Nat) := [(0, .iload_n 0, 1), (1, .bipush 97, 2), (3, .if_icmp .lt 13, 3), (6, .iload_n 0, 1), (7, .bipush 122, 2), (9, .if_icmp .gt 7, 3), (12, .iconst 1, 1), (13, .goto 4, 3), (16, .iconst 0, 1), (17, .ireturn, 1)]
theorem tdX0_isLetter : tbX0_isLetter.all (fun q => decide (decode cX0_isLetter q.1 = .ok q.2)) = true := by decide +kernel
def pX0_isLetter_0  (a0_ : Int32) : Int32 := if a0_ < 97 then 0 else if 122 < a0_ then 0 else 1
set_option maxHeartbeats 4000000 in
set_option maxRecDepth 100000 in
theorem wX0_isLetter_0 {X : CX} {tys : List (ClassId × FieldType)} {D : va_G} {A : Nat → Prop} {res : Int32} (a0_ : Int32) (C : Cx X cX0_isLetter RX0 1 D tys A 0 0 0) (hR : Rt X (some .boolean) D tys A 0 0 (eI ([]) res))  (h : pX0_isLetter_0  a0_ = res) : At X D A 1 0 0 0 [(0, .int a0_)] [] (([] : va_W)) := by
  unfold pX0_isLetter_0 at h
  refine r_iload_n C 0 (dall tdX0_isLetter 0 rfl) rfl ?_
  refine r_bipush (v := 97) C (dall tdX0_isLetter 1 rfl) (by decide) ?_
  refine r_icmp_lt (tgt := 16) C (dall tdX0_isLetter 2 rfl) (by decide) (fun c1 => ?_) (fun c1 => ?_)
  · have h := (if_pos c1).symm.trans h
    refine r_iconst (v := 0) C (dall tdX0_isLetter 8 rfl) (by decide) ?_
    exact r_zret C (by decide) hR (dall tdX0_isLetter 9 rfl) (by subst h; exact ⟨rfl, rfl⟩)
  · have h := (if_neg c1).symm.trans h
    refine r_iload_n C 0 (dall tdX0_isLetter 3 rfl) rfl ?_
    refine r_bipush (v := 122) C (dall tdX0_isLetter 4 rfl) (by decide) ?_
    refine r_icmp_gt (tgt := 16) C (dall tdX0_isLetter 5 rfl) (by decide) (fun c2 => ?_) (fun c2 => ?_)
    · have h := (if_pos c2).symm.trans h
      refine r_iconst (v := 0) C (dall tdX0_isLetter 8 rfl) (by decide) ?_
      exact r_zret C (by decide) hR (dall tdX0_isLetter 9 rfl) (by subst h; exact ⟨rfl, rfl⟩)
    · have h := (if_neg c2).symm.trans h
      refine r_iconst (v := 1) C (dall tdX0_isLetter 6 rfl) (by decide) ?_
      refine r_goto (tgt := 17) C (dall tdX0_isLetter 7 rfl) (by decide) ?_
      exact r_zret C (by decide) hR (dall tdX0_isLetter 9 rfl) (by subst h; exact ⟨rfl, rfl⟩)
def fX0_isLetter (a0_ : Int32) : Int32 := pX0_isLetter_0  a0_
set_option maxRecDepth 100000 in
theorem zX0_isLetter  {D : va_G} (a0_ : Int32)  {tys : List (ClassId × FieldType)} : Con yX0_isLetter cX0_isLetter 1 (some .boolean) 0 0 0 D tys [.int a0_] ([]) (eI ([]) (fX0_isLetter a0_)) :=
  Con.of (own := RX0) (by decide +kernel) rfl (Nat.le_of_ble_eq_true rfl) (Nat.zero_le _) (fun X A C hR _ => (wX0_isLetter_0 a0_ C hR  rfl))
theorem ms_X0_isLetter : MS_ yX0_isLetter cX0_isLetter 1 (some .boolean) 1 := ⟨ks_X0_isLetter, kn_X0, kc_X0_isLetter, by decide +kernel⟩
def tbX0_isDigit : List (Nat × Instr × Nat) := [(0, .iload_n 0, 1), (1, .bipush 48, 2), (3, .if_icmp .lt 13, 3), (6, .iload_n 0, 1), (7, .bipush 57, 2), (9, .if_icmp .gt 7, 3), (12, .iconst 1, 1), (13, .goto 4, 3), (16, .iconst 0, 1), (17, .ireturn, 1)]
theorem tdX0_isDigit : tbX0_isDigit.all (fun q => decide (decode cX0_isDigit q.1 = .ok q.2)) = true := by decide +kernel
def pX0_isDigit_0  (a0_ : Int32) : Int32 := if a0_ < 48 then 0 else if 57 < a0_ then 0 else 1
set_option maxHeartbeats 4000000 in
set_option maxRecDepth 100000 in
theorem wX0_isDigit_0 {X : CX} {tys : List (ClassId × FieldType)} {D : va_G} {A : Nat → Prop} {res : Int32} (a0_ : Int32) (C : Cx X cX0_isDigit RX0 1 D tys A 0 0 0) (hR : Rt X (some .boolean) D tys A 0 0 (eI ([]) res))  (h : pX0_isDigit_0  a0_ = res) : At X D A 1 0 0 0 [(0, .int a0_)] [] (([] : va_W)) := by
  unfold pX0_isDigit_0 at h
  refine r_iload_n C 0 (dall tdX0_isDigit 0 rfl) rfl ?_
  refine r_bipush (v := 48) C (dall tdX0_isDigit 1 rfl) (by decide) ?_
  refine r_icmp_lt (tgt := 16) C (dall tdX0_isDigit 2 rfl) (by decide) (fun c1 => ?_) (fun c1 => ?_)
  · have h := (if_pos c1).symm.trans h
    refine r_iconst (v := 0) C (dall tdX0_isDigit 8 rfl) (by decide) ?_
    exact r_zret C (by decide) hR (dall tdX0_isDigit 9 rfl) (by subst h; exact ⟨rfl, rfl⟩)
  · have h := (if_neg c1).symm.trans h
    refine r_iload_n C 0 (dall tdX0_isDigit 3 rfl) rfl ?_
    refine r_bipush (v := 57) C (dall tdX0_isDigit 4 rfl) (by decide) ?_
    refine r_icmp_gt (tgt := 16) C (dall tdX0_isDigit 5 rfl) (by decide) (fun c2 => ?_) (fun c2 => ?_)
    · have h := (if_pos c2).symm.trans h
      refine r_iconst (v := 0) C (dall tdX0_isDigit 8 rfl) (by decide) ?_
      exact r_zret C (by decide) hR (dall tdX0_isDigit 9 rfl) (by subst h; exact ⟨rfl, rfl⟩)
    · have h := (if_neg c2).symm.trans h
      refine r_iconst (v := 1) C (dall tdX0_isDigit 6 rfl) (by decide) ?_
      refine r_goto (tgt := 17) C (dall tdX0_isDigit 7 rfl) (by decide) ?_
      exact r_zret C (by decide) hR (dall tdX0_isDigit 9 rfl) (by subst h; exact ⟨rfl, rfl⟩)
def fX0_isDigit (a0_ : Int32) : Int32 := pX0_isDigit_0  a0_
set_option maxRecDepth 100000 in
theorem zX0_isDigit  {D : va_G} (a0_ : Int32)  {tys : List (ClassId × FieldType)} : Con yX0_isDigit cX0_isDigit 1 (some .boolean) 0 0 0 D tys [.int a0_] ([]) (eI ([]) (fX0_isDigit a0_)) :=
  Con.of (own := RX0) (by decide +kernel) rfl (Nat.le_of_ble_eq_true rfl) (Nat.zero_le _) (fun X A C hR _ => (wX0_isDigit_0 a0_ C hR  rfl))
theorem ms_X0_isDigit : MS_ yX0_isDigit cX0_isDigit 1 (some .boolean) 1 := ⟨ks_X0_isDigit, kn_X0, kc_X0_isDigit, by decide +kernel⟩
def tbX2_joined : List (Nat × Instr × Nat) := [(0, .iload_n 0, 1), (1, .tableswitch 141 3 19 #[83, 97, 141, 141, 141, 141, 141, 141, 141, 141, 141, 141, 133, 137, 141, 111, 122], 83), (84, .iload_n 1, 1), (85, .ifCond .ne 7, 3), (88, .iload_n 2, 1), (89, .ifCond .eq 7, 3), (92, .iconst 1, 1), (93, .goto 4, 3), (96, .iconst 0, 1), (97, .ireturn, 1), (98, .iload_n 1, 1), (99, .ifCond .eq 11, 3), (102, .iload_n 2, 1), (103, .ifCond .eq 7, 3), (106, .iconst 1, 1), (107, .goto 4, 3), (110, .iconst 0, 1), (111, .ireturn, 1), (112, .iload_n 1, 1), (113, .iload_n 2, 1), (114, .if_icmp .ge 7, 3), (117, .iconst 1, 1), (118, .goto 4, 3), (121, .iconst 0, 1), (122, .ireturn, 1), (123, .iload_n 1, 1), (124, .iload_n 2, 1), (125, .if_icmp .ne 7, 3), (128, .iconst 1, 1), (129, .goto 4, 3), (132, .iconst 0, 1), (133, .ireturn, 1), (134, .iload_n 1, 1), (135, .iload_n 2, 1), (136, .iadd, 1), (137, .ireturn, 1), (138, .iload_n 1, 1), (139, .iload_n 2, 1), (140, .isub, 1), (141, .ireturn, 1), (142, .iload_n 1, 1), (143, .iload_n 2, 1), (144, .imul, 1), (145, .ireturn, 1)]
theorem tdX2_joined : tbX2_joined.all (fun q => decide (decode cX2_joined q.1 = .ok q.2)) = true := by decide +kernel
def pX2_joined_92   : Int32 := 1
set_option maxHeartbeats 4000000 in
set_option maxRecDepth 100000 in
theorem wX2_joined_92 {X : CX} {tys : List (ClassId × FieldType)} {D : va_G} {A : Nat → Prop} {res : Int32}  (C : Cx X cX2_joined RX2 3 D tys A 0 0 0) (hR : Rt X (some .int) D tys A 0 0 (eI ([]) res))  (h : pX2_joined_92   = res) : At X D A 3 0 0 92 [] [] (([] : va_W)) := by
  unfold pX2_joined_92 at h
  refine r_iconst (v := 1) C (dall tdX2_joined 6 rfl) (by decide) ?_
  refine r_goto (tgt := 97) C (dall tdX2_joined 7 rfl) (by decide) ?_
  exact r_iret C hR (dall tdX2_joined 9 rfl) (by subst h; exact ⟨rfl, rfl⟩)
def pX2_joined_0  (a0_ : Int32) (a1_ : Int32) (a2_ : Int32) : Int32 := if a0_ = 3 then if a1_ = 0 then if a2_ = 0 then 0 else pX2_joined_92   else pX2_joined_92   else if a0_ = 4 then if a1_ = 0 then 0 else if a2_ = 0 then 0 else 1 else if a0_ = 5 then a1_ * a2_ else if a0_ = 6 then a1_ * a2_ else if a0_ = 7 then a1_ * a2_ else if a0_ = 8 then a1_ * a2_ else if a0_ = 9 then a1_ * a2_ else if a0_ = 10 then a1_ * a2_ else if a0_ = 11 then a1_ * a2_ else if a0_ = 12 then a1_ * a2_ else if a0_ = 13 then a1_ * a2_ else if a0_ = 14 then a1_ * a2_ else if a0_ = 15 then a1_ + a2_ else if a0_ = 16 then a1_ - a2_ else if a0_ = 17 then a1_ * a2_ else if a0_ = 18 then if a2_ ≤ a1_ then 0 else 1 else if a0_ = 19 then if a1_ = a2_ then 1 else 0 else a1_ * a2_
set_option maxHeartbeats 4000000 in
set_option maxRecDepth 100000 in
theorem wX2_joined_0 {X : CX} {tys : List (ClassId × FieldType)} {D : va_G} {A : Nat → Prop} {res : Int32} (a0_ : Int32) (a1_ : Int32) (a2_ : Int32) (C : Cx X cX2_joined RX2 3 D tys A 0 0 0) (hR : Rt X (some .int) D tys A 0 0 (eI ([]) res))  (h : pX2_joined_0  a0_ a1_ a2_ = res) : At X D A 3 0 0 0 [(0, .int a0_), (1, .int a1_), (2, .int a2_)] [] (([] : va_W)) := by
  unfold pX2_joined_0 at h
  refine r_iload_n C 0 (dall tdX2_joined 0 rfl) rfl ?_
  by_cases e1_0 : a0_ = 3
  · have h := (if_pos e1_0).symm.trans h
    refine r_tsIn (off := 83) (tgt := 84) C 3 (dall tdX2_joined 1 rfl) e1_0 (by decide) (by decide) (by decide) (by decide) ?_
    refine r_iload_n C 1 (dall tdX2_joined 2 rfl) rfl ?_
    refine r_if_ne (tgt := 92) C (dall tdX2_joined 3 rfl) (by decide) (fun c1 => ?_) (fun c1 => ?_)
    · have h := (if_neg c1).symm.trans h
      refine r_pick [] rfl ?_
      exact wX2_joined_92  C hR  h
    · have h := (if_pos c1).symm.trans h
      refine r_iload_n C 2 (dall tdX2_joined 4 rfl) rfl ?_
      refine r_if_eq (tgt := 96) C (dall tdX2_joined 5 rfl) (by decide) (fun c2 => ?_) (fun c2 => ?_)
      · have h := (if_pos c2).symm.trans h
        refine r_iconst (v := 0) C (dall tdX2_joined 8 rfl) (by decide) ?_
        exact r_iret C hR (dall tdX2_joined 9 rfl) (by subst h; exact ⟨rfl, rfl⟩)
      · have h := (if_neg c2).symm.trans h
        refine r_pick [] rfl ?_
        exact wX2_joined_92  C hR  h
  · have h := (if_neg e1_0).symm.trans h
    by_cases e1_1 : a0_ = 4
    · have h := (if_pos e1_1).symm.trans h
      refine r_tsIn (off := 97) (tgt := 98) C 4 (dall tdX2_joined 1 rfl) e1_1 (by decide) (by decide) (by decide) (by decide) ?_
      refine r_iload_n C 1 (dall tdX2_joined 10 rfl) rfl ?_
      refine r_if_eq (tgt := 110) C (dall tdX2_joined 11 rfl) (by decide) (fun c3 => ?_) (fun c3 => ?_)
      · have h := (if_pos c3).symm.trans h
        refine r_iconst (v := 0) C (dall tdX2_joined 16 rfl) (by decide) ?_
        exact r_iret C hR (dall tdX2_joined 17 rfl) (by subst h; exact ⟨rfl, rfl⟩)
      · have h := (if_neg c3).symm.trans h
        refine r_iload_n C 2 (dall tdX2_joined 12 rfl) rfl ?_
        refine r_if_eq (tgt := 110) C (dall tdX2_joined 13 rfl) (by decide) (fun c4 => ?_) (fun c4 => ?_)
        · have h := (if_pos c4).symm.trans h
          refine r_iconst (v := 0) C (dall tdX2_joined 16 rfl) (by decide) ?_
          exact r_iret C hR (dall tdX2_joined 17 rfl) (by subst h; exact ⟨rfl, rfl⟩)
        · have h := (if_neg c4).symm.trans h
          refine r_iconst (v := 1) C (dall tdX2_joined 14 rfl) (by decide) ?_
          refine r_goto (tgt := 111) C (dall tdX2_joined 15 rfl) (by decide) ?_
          exact r_iret C hR (dall tdX2_joined 17 rfl) (by subst h; exact ⟨rfl, rfl⟩)
    · have h := (if_neg e1_1).symm.trans h
      by_cases e1_2 : a0_ = 5
      · have h := (if_pos e1_2).symm.trans h
        refine r_tsIn (off := 141) (tgt := 142) C 5 (dall tdX2_joined 1 rfl) e1_2 (by decide) (by decide) (by decide) (by decide) ?_
        refine r_iload_n C 1 (dall tdX2_joined 40 rfl) rfl ?_
        refine r_iload_n C 2 (dall tdX2_joined 41 rfl) rfl ?_
        refine r_imul C (dall tdX2_joined 42 rfl) ?_
        exact r_iret C hR (dall tdX2_joined 43 rfl) (by subst h; exact ⟨rfl, rfl⟩)
      · have h := (if_neg e1_2).symm.trans h
        by_cases e1_3 : a0_ = 6
        · have h := (if_pos e1_3).symm.trans h
          refine r_tsIn (off := 141) (tgt := 142) C 6 (dall tdX2_joined 1 rfl) e1_3 (by decide) (by decide) (by decide) (by decide) ?_
          refine r_iload_n C 1 (dall tdX2_joined 40 rfl) rfl ?_
          refine r_iload_n C 2 (dall tdX2_joined 41 rfl) rfl ?_
          refine r_imul C (dall tdX2_joined 42 rfl) ?_
          exact r_iret C hR (dall tdX2_joined 43 rfl) (by subst h; exact ⟨rfl, rfl⟩)
        · have h := (if_neg e1_3).symm.trans h
          by_cases e1_4 : a0_ = 7
          · have h := (if_pos e1_4).symm.trans h
            refine r_tsIn (off := 141) (tgt := 142) C 7 (dall tdX2_joined 1 rfl) e1_4 (by decide) (by decide) (by decide) (by decide) ?_
            refine r_iload_n C 1 (dall tdX2_joined 40 rfl) rfl ?_
            refine r_iload_n C 2 (dall tdX2_joined 41 rfl) rfl ?_
            refine r_imul C (dall tdX2_joined 42 rfl) ?_
            exact r_iret C hR (dall tdX2_joined 43 rfl) (by subst h; exact ⟨rfl, rfl⟩)
          · have h := (if_neg e1_4).symm.trans h
            by_cases e1_5 : a0_ = 8
            · have h := (if_pos e1_5).symm.trans h
              refine r_tsIn (off := 141) (tgt := 142) C 8 (dall tdX2_joined 1 rfl) e1_5 (by decide) (by decide) (by decide) (by decide) ?_
              refine r_iload_n C 1 (dall tdX2_joined 40 rfl) rfl ?_
              refine r_iload_n C 2 (dall tdX2_joined 41 rfl) rfl ?_
              refine r_imul C (dall tdX2_joined 42 rfl) ?_
              exact r_iret C hR (dall tdX2_joined 43 rfl) (by subst h; exact ⟨rfl, rfl⟩)
            · have h := (if_neg e1_5).symm.trans h
              by_cases e1_6 : a0_ = 9
              · have h := (if_pos e1_6).symm.trans h
                refine r_tsIn (off := 141) (tgt := 142) C 9 (dall tdX2_joined 1 rfl) e1_6 (by decide) (by decide) (by decide) (by decide) ?_
                refine r_iload_n C 1 (dall tdX2_joined 40 rfl) rfl ?_
                refine r_iload_n C 2 (dall tdX2_joined 41 rfl) rfl ?_
                refine r_imul C (dall tdX2_joined 42 rfl) ?_
                exact r_iret C hR (dall tdX2_joined 43 rfl) (by subst h; exact ⟨rfl, rfl⟩)
              · have h := (if_neg e1_6).symm.trans h
                by_cases e1_7 : a0_ = 10
                · have h := (if_pos e1_7).symm.trans h
                  refine r_tsIn (off := 141) (tgt := 142) C 10 (dall tdX2_joined 1 rfl) e1_7 (by decide) (by decide) (by decide) (by decide) ?_
                  refine r_iload_n C 1 (dall tdX2_joined 40 rfl) rfl ?_
                  refine r_iload_n C 2 (dall tdX2_joined 41 rfl) rfl ?_
                  refine r_imul C (dall tdX2_joined 42 rfl) ?_
                  exact r_iret C hR (dall tdX2_joined 43 rfl) (by subst h; exact ⟨rfl, rfl⟩)
                · have h := (if_neg e1_7).symm.trans h
                  by_cases e1_8 : a0_ = 11
                  · have h := (if_pos e1_8).symm.trans h
                    refine r_tsIn (off := 141) (tgt := 142) C 11 (dall tdX2_joined 1 rfl) e1_8 (by decide) (by decide) (by decide) (by decide) ?_
                    refine r_iload_n C 1 (dall tdX2_joined 40 rfl) rfl ?_
                    refine r_iload_n C 2 (dall tdX2_joined 41 rfl) rfl ?_
                    refine r_imul C (dall tdX2_joined 42 rfl) ?_
                    exact r_iret C hR (dall tdX2_joined 43 rfl) (by subst h; exact ⟨rfl, rfl⟩)
                  · have h := (if_neg e1_8).symm.trans h
                    by_cases e1_9 : a0_ = 12
                    · have h := (if_pos e1_9).symm.trans h
                      refine r_tsIn (off := 141) (tgt := 142) C 12 (dall tdX2_joined 1 rfl) e1_9 (by decide) (by decide) (by decide) (by decide) ?_
                      refine r_iload_n C 1 (dall tdX2_joined 40 rfl) rfl ?_
                      refine r_iload_n C 2 (dall tdX2_joined 41 rfl) rfl ?_
                      refine r_imul C (dall tdX2_joined 42 rfl) ?_
                      exact r_iret C hR (dall tdX2_joined 43 rfl) (by subst h; exact ⟨rfl, rfl⟩)
                    · have h := (if_neg e1_9).symm.trans h
                      by_cases e1_10 : a0_ = 13
                      · have h := (if_pos e1_10).symm.trans h
                        refine r_tsIn (off := 141) (tgt := 142) C 13 (dall tdX2_joined 1 rfl) e1_10 (by decide) (by decide) (by decide) (by decide) ?_
                        refine r_iload_n C 1 (dall tdX2_joined 40 rfl) rfl ?_
                        refine r_iload_n C 2 (dall tdX2_joined 41 rfl) rfl ?_
                        refine r_imul C (dall tdX2_joined 42 rfl) ?_
                        exact r_iret C hR (dall tdX2_joined 43 rfl) (by subst h; exact ⟨rfl, rfl⟩)
                      · have h := (if_neg e1_10).symm.trans h
                        by_cases e1_11 : a0_ = 14
                        · have h := (if_pos e1_11).symm.trans h
                          refine r_tsIn (off := 141) (tgt := 142) C 14 (dall tdX2_joined 1 rfl) e1_11 (by decide) (by decide) (by decide) (by decide) ?_
                          refine r_iload_n C 1 (dall tdX2_joined 40 rfl) rfl ?_
                          refine r_iload_n C 2 (dall tdX2_joined 41 rfl) rfl ?_
                          refine r_imul C (dall tdX2_joined 42 rfl) ?_
                          exact r_iret C hR (dall tdX2_joined 43 rfl) (by subst h; exact ⟨rfl, rfl⟩)
                        · have h := (if_neg e1_11).symm.trans h
                          by_cases e1_12 : a0_ = 15
                          · have h := (if_pos e1_12).symm.trans h
                            refine r_tsIn (off := 133) (tgt := 134) C 15 (dall tdX2_joined 1 rfl) e1_12 (by decide) (by decide) (by decide) (by decide) ?_
                            refine r_iload_n C 1 (dall tdX2_joined 32 rfl) rfl ?_
                            refine r_iload_n C 2 (dall tdX2_joined 33 rfl) rfl ?_
                            refine r_iadd C (dall tdX2_joined 34 rfl) ?_
                            exact r_iret C hR (dall tdX2_joined 35 rfl) (by subst h; exact ⟨rfl, rfl⟩)
                          · have h := (if_neg e1_12).symm.trans h
                            by_cases e1_13 : a0_ = 16
                            · have h := (if_pos e1_13).symm.trans h
                              refine r_tsIn (off := 137) (tgt := 138) C 16 (dall tdX2_joined 1 rfl) e1_13 (by decide) (by decide) (by decide) (by decide) ?_
                              refine r_iload_n C 1 (dall tdX2_joined 36 rfl) rfl ?_
                              refine r_iload_n C 2 (dall tdX2_joined 37 rfl) rfl ?_
                              refine r_isub C (dall tdX2_joined 38 rfl) ?_
                              exact r_iret C hR (dall tdX2_joined 39 rfl) (by subst h; exact ⟨rfl, rfl⟩)
                            · have h := (if_neg e1_13).symm.trans h
                              by_cases e1_14 : a0_ = 17
                              · have h := (if_pos e1_14).symm.trans h
                                refine r_tsIn (off := 141) (tgt := 142) C 17 (dall tdX2_joined 1 rfl) e1_14 (by decide) (by decide) (by decide) (by decide) ?_
                                refine r_iload_n C 1 (dall tdX2_joined 40 rfl) rfl ?_
                                refine r_iload_n C 2 (dall tdX2_joined 41 rfl) rfl ?_
                                refine r_imul C (dall tdX2_joined 42 rfl) ?_
                                exact r_iret C hR (dall tdX2_joined 43 rfl) (by subst h; exact ⟨rfl, rfl⟩)
                              · have h := (if_neg e1_14).symm.trans h
                                by_cases e1_15 : a0_ = 18
                                · have h := (if_pos e1_15).symm.trans h
                                  refine r_tsIn (off := 111) (tgt := 112) C 18 (dall tdX2_joined 1 rfl) e1_15 (by decide) (by decide) (by decide) (by decide) ?_
                                  refine r_iload_n C 1 (dall tdX2_joined 18 rfl) rfl ?_
                                  refine r_iload_n C 2 (dall tdX2_joined 19 rfl) rfl ?_
                                  refine r_icmp_ge (tgt := 121) C (dall tdX2_joined 20 rfl) (by decide) (fun c5 => ?_) (fun c5 => ?_)
                                  · have h := (if_pos c5).symm.trans h
                                    refine r_iconst (v := 0) C (dall tdX2_joined 23 rfl) (by decide) ?_
                                    exact r_iret C hR (dall tdX2_joined 24 rfl) (by subst h; exact ⟨rfl, rfl⟩)
                                  · have h := (if_neg c5).symm.trans h
                                    refine r_iconst (v := 1) C (dall tdX2_joined 21 rfl) (by decide) ?_
                                    refine r_goto (tgt := 122) C (dall tdX2_joined 22 rfl) (by decide) ?_
                                    exact r_iret C hR (dall tdX2_joined 24 rfl) (by subst h; exact ⟨rfl, rfl⟩)
                                · have h := (if_neg e1_15).symm.trans h
                                  by_cases e1_16 : a0_ = 19
                                  · have h := (if_pos e1_16).symm.trans h
                                    refine r_tsIn (off := 122) (tgt := 123) C 19 (dall tdX2_joined 1 rfl) e1_16 (by decide) (by decide) (by decide) (by decide) ?_
                                    refine r_iload_n C 1 (dall tdX2_joined 25 rfl) rfl ?_
                                    refine r_iload_n C 2 (dall tdX2_joined 26 rfl) rfl ?_
                                    refine r_icmp_ne (tgt := 132) C (dall tdX2_joined 27 rfl) (by decide) (fun c6 => ?_) (fun c6 => ?_)
                                    · have h := (if_neg c6).symm.trans h
                                      refine r_iconst (v := 0) C (dall tdX2_joined 30 rfl) (by decide) ?_
                                      exact r_iret C hR (dall tdX2_joined 31 rfl) (by subst h; exact ⟨rfl, rfl⟩)
                                    · have h := (if_pos c6).symm.trans h
                                      refine r_iconst (v := 1) C (dall tdX2_joined 28 rfl) (by decide) ?_
                                      refine r_goto (tgt := 133) C (dall tdX2_joined 29 rfl) (by decide) ?_
                                      exact r_iret C hR (dall tdX2_joined 31 rfl) (by subst h; exact ⟨rfl, rfl⟩)
                                  · have h := (if_neg e1_16).symm.trans h
                                    refine r_tsOut (tgt := 142) C (dall tdX2_joined 1 rfl) (by have n0 := ne_toInt e1_0; rw [show (3 : Int32).toInt = 3 from by decide] at n0; have n1 := ne_toInt e1_1; rw [show (4 : Int32).toInt = 4 from by decide] at n1; have n2 := ne_toInt e1_2; rw [show (5 : Int32).toInt = 5 from by decide] at n2; have n3 := ne_toInt e1_3; rw [show (6 : Int32).toInt = 6 from by decide] at n3; have n4 := ne_toInt e1_4; rw [show (7 : Int32).toInt = 7 from by decide] at n4; have n5 := ne_toInt e1_5; rw [show (8 : Int32).toInt = 8 from by decide] at n5; have n6 := ne_toInt e1_6; rw [show (9 : Int32).toInt = 9 from by decide] at n6; have n7 := ne_toInt e1_7; rw [show (10 : Int32).toInt = 10 from by decide] at n7; have n8 := ne_toInt e1_8; rw [show (11 : Int32).toInt = 11 from by decide] at n8; have n9 := ne_toInt e1_9; rw [show (12 : Int32).toInt = 12 from by decide] at n9; have n10 := ne_toInt e1_10; rw [show (13 : Int32).toInt = 13 from by decide] at n10; have n11 := ne_toInt e1_11; rw [show (14 : Int32).toInt = 14 from by decide] at n11; have n12 := ne_toInt e1_12; rw [show (15 : Int32).toInt = 15 from by decide] at n12; have n13 := ne_toInt e1_13; rw [show (16 : Int32).toInt = 16 from by decide] at n13; have n14 := ne_toInt e1_14; rw [show (17 : Int32).toInt = 17 from by decide] at n14; have n15 := ne_toInt e1_15; rw [show (18 : Int32).toInt = 18 from by decide] at n15; have n16 := ne_toInt e1_16; rw [show (19 : Int32).toInt = 19 from by decide] at n16; omega) (by decide) ?_
                                    refine r_iload_n C 1 (dall tdX2_joined 40 rfl) rfl ?_
                                    refine r_iload_n C 2 (dall tdX2_joined 41 rfl) rfl ?_
                                    refine r_imul C (dall tdX2_joined 42 rfl) ?_
                                    exact r_iret C hR (dall tdX2_joined 43 rfl) (by subst h; exact ⟨rfl, rfl⟩)
def fX2_joined (a0_ : Int32) (a1_ : Int32) (a2_ : Int32) : Int32 := pX2_joined_0  a0_ a1_ a2_
set_option maxRecDepth 100000 in
theorem zX2_joined  {D : va_G} (a0_ : Int32) (a1_ : Int32) (a2_ : Int32)  {tys : List (ClassId × FieldType)} : Con yX2_joined cX2_joined 3 (some .int) 0 0 0 D tys [.int a0_, .int a1_, .int a2_] ([]) (eI ([]) (fX2_joined a0_ a1_ a2_)) :=
  Con.of (own := RX2) (by decide +kernel) rfl (Nat.le_of_ble_eq_true rfl) (Nat.zero_le _) (fun X A C hR _ => (wX2_joined_0 a0_ a1_ a2_ C hR  rfl))
theorem ms_X2_joined : MS_ yX2_joined cX2_joined 3 (some .int) 3 := ⟨ks_X2_joined, kn_X2, kc_X2_joined, by decide +kernel⟩
def tbX3_has : List (Nat × Instr × Nat) := [(0, .lload_n 0, 1), (1, .iload_n 2, 1), (2, .lushr, 1), (3, .lconst 1, 1), (4, .land, 1), (5, .lconst 0, 1), (6, .lcmp, 1), (7, .ifCond .eq 7, 3), (10, .iconst 1, 1), (11, .goto 4, 3), (14, .iconst 0, 1), (15, .ireturn, 1)]
theorem tdX3_has : tbX3_has.all (fun q => decide (decode cX3_has q.1 = .ok q.2)) = true := by decide +kernel
def pX3_has_0  (a0_ : Int64) (a2_ : Int32) : Int32 := if ((jushr a0_ a2_) &&& 1) = 0 then 0 else 1
set_option maxHeartbeats 4000000 in
set_option maxRecDepth 100000 in
theorem wX3_has_0 {X : CX} {tys : List (ClassId × FieldType)} {D : va_G} {A : Nat → Prop} {res : Int32} (a0_ : Int64) (a2_ : Int32) (C : Cx X cX3_has RX3 3 D tys A 0 0 0) (hR : Rt X (some .boolean) D tys A 0 0 (eI ([]) res))  (h : pX3_has_0  a0_ a2_ = res) : At X D A 3 0 0 0 [(0, .long a0_), (2, .int a2_)] [] (([] : va_W)) := by
  unfold pX3_has_0 at h
  refine r_lload_n C 0 (dall tdX3_has 0 rfl) rfl ?_
  refine r_iload_n C 1 (dall tdX3_has 1 rfl) rfl ?_
  refine r_lushr C (dall tdX3_has 2 rfl) ?_
  refine r_lconst (v := 1) C (dall tdX3_has 3 rfl) (by decide) ?_
  refine r_land C (dall tdX3_has 4 rfl) ?_
  refine r_lconst (v := 0) C (dall tdX3_has 5 rfl) (by decide) ?_
  refine r_lif_eq (tgt := 14) C (dall tdX3_has 6 rfl) (dall tdX3_has 7 rfl) (by decide) (fun c1 => ?_) (fun c1 => ?_)
  · have h := (if_pos c1).symm.trans h
    refine r_iconst (v := 0) C (dall tdX3_has 10 rfl) (by decide) ?_
    exact r_zret C (by decide) hR (dall tdX3_has 11 rfl) (by subst h; exact ⟨rfl, rfl⟩)
  · have h := (if_neg c1).symm.trans h
    refine r_iconst (v := 1) C (dall tdX3_has 8 rfl) (by decide) ?_
    refine r_goto (tgt := 15) C (dall tdX3_has 9 rfl) (by decide) ?_
    exact r_zret C (by decide) hR (dall tdX3_has 11 rfl) (by subst h; exact ⟨rfl, rfl⟩)
def fX3_has (a0_ : Int64) (a2_ : Int32) : Int32 := pX3_has_0  a0_ a2_
set_option maxRecDepth 100000 in
theorem zX3_has  {D : va_G} (a0_ : Int64) (a2_ : Int32)  {tys : List (ClassId × FieldType)} : Con yX3_has cX3_has 3 (some .boolean) 0 0 0 D tys [.long a0_, .int a2_] ([]) (eI ([]) (fX3_has a0_ a2_)) :=
  Con.of (own := RX3) (by decide +kernel) rfl (Nat.le_of_ble_eq_true rfl) (Nat.zero_le _) (fun X A C hR _ => (wX3_has_0 a0_ a2_ C hR  rfl))
theorem ms_X3_has : MS_ yX3_has cX3_has 3 (some .boolean) 2 := ⟨ks_X3_has, kn_X3, kc_X3_has, by decide +kernel⟩
def tbX3_beside : List (Nat × Instr × Nat) := [(0, .lload_n 0, 1), (1, .bipush 8, 2), (3, .lshl, 1), (4, .lload_n 0, 1), (5, .bipush 8, 2), (7, .lushr, 1), (8, .lor, 1), (9, .lload_n 0, 1), (10, .ldc2_w 11, 3), (13, .land, 1), (14, .iconst 1, 1), (15, .lshl, 1), (16, .lor, 1), (17, .lload_n 0, 1), (18, .ldc2_w 13, 3), (21, .land, 1), (22, .iconst 1, 1), (23, .lushr, 1), (24, .lor, 1), (25, .lreturn, 1)]
theorem tdX3_beside : tbX3_beside.all (fun q => decide (decode cX3_beside q.1 = .ok q.2)) = true := by decide +kernel
def pX3_beside_0  (a0_ : Int64) : Int64 := (((jshl a0_ 8) ||| (jushr a0_ 8)) ||| (jshl (a0_ &&& (9187201950435737471)) 1)) ||| (jushr (a0_ &&& (-72340172838076674)) 1)
set_option maxHeartbeats 4000000 in
set_option maxRecDepth 100000 in
theorem wX3_beside_0 {X : CX} {tys : List (ClassId × FieldType)} {D : va_G} {A : Nat → Prop} {res : Int64} (a0_ : Int64) (C : Cx X cX3_beside RX3 2 D tys A 0 0 0) (hR : Rt X (some .long) D tys A 0 0 (eL ([]) res))  (h : pX3_beside_0  a0_ = res) : At X D A 2 0 0 0 [(0, .long a0_)] [] (([] : va_W)) := by
  unfold pX3_beside_0 at h
  refine r_lload_n C 0 (dall tdX3_beside 0 rfl) rfl ?_
  refine r_bipush (v := 8) C (dall tdX3_beside 1 rfl) (by decide) ?_
  refine r_lshl C (dall tdX3_beside 2 rfl) ?_
  refine r_lload_n C 0 (dall tdX3_beside 3 rfl) rfl ?_
  refine r_bipush (v := 8) C (dall tdX3_beside 4 rfl) (by decide) ?_
  refine r_lushr C (dall tdX3_beside 5 rfl) ?_
  refine r_lor C (dall tdX3_beside 6 rfl) ?_
  refine r_lload_n C 0 (dall tdX3_beside 7 rfl) rfl ?_
  refine r_ldc2 C kk_X3_11 (dall tdX3_beside 8 rfl) ?_
  refine r_land C (dall tdX3_beside 9 rfl) ?_
  refine r_iconst (v := 1) C (dall tdX3_beside 10 rfl) (by decide) ?_
  refine r_lshl C (dall tdX3_beside 11 rfl) ?_
  refine r_lor C (dall tdX3_beside 12 rfl) ?_
  refine r_lload_n C 0 (dall tdX3_beside 13 rfl) rfl ?_
  refine r_ldc2 C kk_X3_13 (dall tdX3_beside 14 rfl) ?_
  refine r_land C (dall tdX3_beside 15 rfl) ?_
  refine r_iconst (v := 1) C (dall tdX3_beside 16 rfl) (by decide) ?_
  refine r_lushr C (dall tdX3_beside 17 rfl) ?_
  refine r_lor C (dall tdX3_beside 18 rfl) ?_
  exact r_lret C hR (dall tdX3_beside 19 rfl) (by subst h; exact ⟨rfl, rfl⟩)
def fX3_beside (a0_ : Int64) : Int64 := pX3_beside_0  a0_
set_option maxRecDepth 100000 in
theorem zX3_beside  {D : va_G} (a0_ : Int64)  {tys : List (ClassId × FieldType)} : Con yX3_beside cX3_beside 2 (some .long) 0 0 0 D tys [.long a0_] ([]) (eL ([]) (fX3_beside a0_)) :=
  Con.of (own := RX3) (by decide +kernel) rfl (Nat.le_of_ble_eq_true rfl) (Nat.zero_le _) (fun X A C hR _ => (wX3_beside_0 a0_ C hR  rfl))
theorem ms_X3_beside : MS_ yX3_beside cX3_beside 2 (some .long) 1 := ⟨ks_X3_beside, kn_X3, kc_X3_beside, by decide +kernel⟩
def tbX3_held : List (Nat × Instr × Nat) := [(0, .lload_n 0, 1), (1, .lstore 4, 2), (3, .iconst 0, 1), (4, .istore 6, 2), (6, .iload 6, 2), (8, .bipush 64, 2), (10, .if_icmp .ge 36, 3), (13, .lload 4, 2), (15, .lload 4, 2), (17, .invokestatic 15, 3), (20, .lload_n 2, 1), (21, .land, 1), (22, .lor, 1), (23, .lstore 7, 2), (25, .lload 7, 2), (27, .lload 4, 2), (29, .lcmp, 1), (30, .ifCond .ne 6, 3), (33, .lload 4, 2), (35, .lreturn, 1), (36, .lload 7, 2), (38, .lstore 4, 2), (40, .iinc 6 1, 3), (43, .goto (-37), 3), (46, .lload 4, 2), (48, .lreturn, 1)]
theorem tdX3_held : tbX3_held.all (fun q => decide (decode cX3_held q.1 = .ok q.2)) = true := by decide +kernel
def bX3_held_6 (a2_ : Int64)  (kR6 : Int64 × Int32 → Int64) (v : Int64 × Int32) : Int64 := if 64 ≤ v.2 then v.1 else if (v.1 ||| ((fX3_beside v.1) &&& a2_)) = v.1 then v.1 else kR6 (v.1 ||| ((fX3_beside v.1) &&& a2_), v.2 + 1)
def kX3_held_6 (a2_ : Int64)  (kO6 : Int64 × Int32 → Prop) (v : Int64 × Int32) : Prop := (64 ≤ v.2 → True) ∧ (¬ (64 ≤ v.2) → ((v.1 ||| ((fX3_beside v.1) &&& a2_)) = v.1 → True) ∧ (¬ ((v.1 ||| ((fX3_beside v.1) &&& a2_)) = v.1) → kO6 (v.1 ||| ((fX3_beside v.1) &&& a2_), v.2 + 1)))
set_option maxHeartbeats 4000000 in
set_option maxRecDepth 100000 in
theorem wX3_held_6 {X : CX} {tys : List (ClassId × FieldType)} {D : va_G} {A : Nat → Prop} {res : Int64} (a2_ : Int64) (C : Cx X cX3_held RX3 9 D tys A 1 0 0) (hR : Rt X (some .long) D tys A 0 0 (eL ([]) res)) (kR6 : Int64 × Int32 → Int64) (kO6 : Int64 × Int32 → Prop) (hk6 : ∀ z, kO6 z → kR6 z = res → At X D A 9 0 0 6 [(2, .long a2_), (4, .long z.1), (6, .int z.2)] [] (([] : va_W))) (v : Int64 × Int32) (ok : kX3_held_6 a2_ kO6 v) (h : bX3_held_6 a2_ kR6 v = res) : At X D A 9 0 0 6 [(2, .long a2_), (4, .long v.1), (6, .int v.2)] [] (([] : va_W)) := by
  unfold bX3_held_6 at h
  unfold kX3_held_6 at ok
  refine r_iload C 2 (dall tdX3_held 4 rfl) rfl ?_
  refine r_bipush (v := 64) C (dall tdX3_held 5 rfl) (by decide) ?_
  refine r_icmp_ge (tgt := 46) C (dall tdX3_held 6 rfl) (by decide) (fun c1 => ?_) (fun c1 => ?_)
  · have h := (if_pos c1).symm.trans h
    have ok := ok.1 c1
    refine r_lload C 1 (dall tdX3_held 24 rfl) rfl ?_
    exact r_lret C hR (dall tdX3_held 25 rfl) (by subst h; exact ⟨rfl, rfl⟩)
  · have h := (if_neg c1).symm.trans h
    have ok := ok.2 c1
    refine r_lload C 1 (dall tdX3_held 7 rfl) rfl ?_
    refine r_lload C 1 (dall tdX3_held 8 rfl) rfl ?_
    refine r_s0L (as := [.long v.1]) C (zX3_beside v.1 ) ms_X3_beside km_X3_15 (by decide) (by decide) ⟨Nat.le_refl _, Nat.le_refl _⟩ rfl rfl (Nat.le_of_ble_eq_true rfl) (dall tdX3_held 9 rfl) ?_
    refine r_lload_n C 0 (dall tdX3_held 10 rfl) rfl ?_
    refine r_land C (dall tdX3_held 11 rfl) ?_
    refine r_lor C (dall tdX3_held 12 rfl) ?_
    refine r_lstore (lv' := [(7, .long (v.1 ||| ((fX3_beside v.1) &&& a2_))), (2, .long a2_), (4, .long v.1), (6, .int v.2)]) C (dall tdX3_held 13 rfl) (by decide) rfl ?_
    refine r_lload C 0 (dall tdX3_held 14 rfl) rfl ?_
    refine r_lload C 2 (dall tdX3_held 15 rfl) rfl ?_
    refine r_lif_ne (tgt := 36) C (dall tdX3_held 16 rfl) (dall tdX3_held 17 rfl) (by decide) (fun c2 => ?_) (fun c2 => ?_)
    · have h := (if_neg c2).symm.trans h
      have ok := ok.2 c2
      refine r_lload C 0 (dall tdX3_held 20 rfl) rfl ?_
      refine r_lstore (lv' := [(4, .long (v.1 ||| ((fX3_beside v.1) &&& a2_))), (7, .long (v.1 ||| ((fX3_beside v.1) &&& a2_))), (2, .long a2_), (6, .int v.2)]) C (dall tdX3_held 21 rfl) (by decide) rfl ?_
      refine r_iinc (v := v.2 + 1) (lv' := [(6, .int (v.2 + 1)), (4, .long (v.1 ||| ((fX3_beside v.1) &&& a2_))), (7, .long (v.1 ||| ((fX3_beside v.1) &&& a2_))), (2, .long a2_)]) C 3 (dall tdX3_held 22 rfl) rfl rfl (by decide) rfl ?_
      refine r_goto (tgt := 6) C (dall tdX3_held 23 rfl) (by decide) ?_
      refine r_pick [3, 1, 0] rfl ?_
      exact hk6 (v.1 ||| ((fX3_beside v.1) &&& a2_), v.2 + 1) ok h
    · have h := (if_pos c2).symm.trans h
      have ok := ok.1 c2
      refine r_lload C 2 (dall tdX3_held 18 rfl) rfl ?_
      exact r_lret C hR (dall tdX3_held 19 rfl) (by subst h; exact ⟨rfl, rfl⟩)
set_option maxHeartbeats 4000000 in
set_option maxRecDepth 100000 in
theorem lX3_held_6 {X : CX} {tys : List (ClassId × FieldType)} {D : va_G} {A : Nat → Prop} {res : Int64} (a2_ : Int64) (C : Cx X cX3_held RX3 9 D tys A 1 0 0) (hR : Rt X (some .long) D tys A 0 0 (eL ([]) res))  (n : Nat) (v : Int64 × Int32) (ok : lpOk (kX3_held_6 a2_ ) n v) (h : lp 0 (bX3_held_6 a2_ ) n v = res) : At X D A 9 0 0 6 [(2, .long a2_), (4, .long v.1), (6, .int v.2)] [] (([] : va_W)) :=
  lp_rule (fun v rr_ => rr_ = res → At X D A 9 0 0 6 [(2, .long a2_), (4, .long v.1), (6, .int v.2)] [] (([] : va_W))) (fun kR kO hk v ok h => wX3_held_6 a2_ C hR  kR kO hk v ok h) n v ok h
def pX3_held_0  (a0_ : Int64) (a2_ : Int64) : Int64 := lp 0 (bX3_held_6 a2_ ) fu (a0_, 0)
def oX3_held_0  (a0_ : Int64) (a2_ : Int64) : Prop := lpOk (kX3_held_6 a2_ ) fu (a0_, 0)
set_option maxHeartbeats 4000000 in
set_option maxRecDepth 100000 in
theorem wX3_held_0 {X : CX} {tys : List (ClassId × FieldType)} {D : va_G} {A : Nat → Prop} {res : Int64} (a0_ : Int64) (a2_ : Int64) (C : Cx X cX3_held RX3 9 D tys A 1 0 0) (hR : Rt X (some .long) D tys A 0 0 (eL ([]) res))  (ok : oX3_held_0  a0_ a2_) (h : pX3_held_0  a0_ a2_ = res) : At X D A 9 0 0 0 [(0, .long a0_), (2, .long a2_)] [] (([] : va_W)) := by
  unfold pX3_held_0 at h
  unfold oX3_held_0 at ok
  refine r_lload_n C 0 (dall tdX3_held 0 rfl) rfl ?_
  refine r_lstore (lv' := [(4, .long a0_), (0, .long a0_), (2, .long a2_)]) C (dall tdX3_held 1 rfl) (by decide) rfl ?_
  refine r_iconst (v := 0) C (dall tdX3_held 2 rfl) (by decide) ?_
  refine r_istore (lv' := [(6, .int 0), (4, .long a0_), (0, .long a0_), (2, .long a2_)]) C (dall tdX3_held 3 rfl) (by decide) rfl ?_
  refine r_pick [3, 1, 0] rfl ?_
  exact lX3_held_6 a2_ C hR  fu _ ok h
def fX3_held (a0_ : Int64) (a2_ : Int64) : Int64 := pX3_held_0  a0_ a2_
def gX3_held (a0_ : Int64) (a2_ : Int64) : Prop := oX3_held_0  a0_ a2_
set_option maxRecDepth 100000 in
theorem zX3_held  {D : va_G} (a0_ : Int64) (a2_ : Int64) (ok : gX3_held a0_ a2_)  {tys : List (ClassId × FieldType)} : Con yX3_held cX3_held 9 (some .long) 1 0 0 D tys [.long a0_, .long a2_] ([]) (eL ([]) (fX3_held a0_ a2_)) :=
  Con.of (own := RX3) (by decide +kernel) rfl (Nat.le_of_ble_eq_true rfl) (Nat.zero_le _) (fun X A C hR _ => (wX3_held_0 a0_ a2_ C hR  ok rfl))
theorem ms_X3_held : MS_ yX3_held cX3_held 9 (some .long) 2 := ⟨ks_X3_held, kn_X3, kc_X3_held, by decide +kernel⟩
def tbX3_cellsOf : List (Nat × Instr × Nat) := [(0, .lconst 0, 1), (1, .lstore_n 2, 1), (2, .iconst 0, 1), (3, .istore 4, 2), (5, .iload 4, 2), (7, .iconst 4, 1), (8, .if_icmp .ge 26, 3), (11, .lload_n 2, 1), (12, .lconst 1, 1), (13, .iload_n 1, 1), (14, .getstatic 19, 3), (17, .iconst 4, 1), (18, .iload_n 0, 1), (19, .imul, 1), (20, .iload 4, 2), (22, .iadd, 1), (23, .iaload, 1), (24, .iadd, 1), (25, .lshl, 1), (26, .lor, 1), (27, .lstore_n 2, 1), (28, .iinc 4 1, 3), (31, .goto (-26), 3), (34, .lload_n 2, 1), (35, .lreturn, 1)]
theorem tdX3_cellsOf : tbX3_cellsOf.all (fun q => decide (decode cX3_cellsOf q.1 = .ok q.2)) = true := by decide +kernel
def bX3_cellsOf_5 (a0_ : Int32) (a1_ : Int32)  (kR5 : Int64 × Int32 → Int64) (v : Int64 × Int32) : Int64 := if 4 ≤ v.2 then v.1 else kR5 (v.1 ||| (jshl 1 (a1_ + (tOFF ((4 * a0_) + v.2).toNatClampNeg))), v.2 + 1)
def kX3_cellsOf_5 (a0_ : Int32) (a1_ : Int32)  (kO5 : Int64 × Int32 → Prop) (v : Int64 × Int32) : Prop := (4 ≤ v.2 → True) ∧ (¬ (4 ≤ v.2) → (vp_in ((4 * a0_) + v.2) 24) ∧ (kO5 (v.1 ||| (jshl 1 (a1_ + (tOFF ((4 * a0_) + v.2).toNatClampNeg))), v.2 + 1)))
set_option maxHeartbeats 4000000 in
set_option maxRecDepth 100000 in
theorem wX3_cellsOf_5 {X : CX} {tys : List (ClassId × FieldType)} {D : va_G} {A : Nat → Prop} {res : Int64} (a0_ : Int32) (a1_ : Int32) (C : Cx X cX3_cellsOf RX3 5 D tys A 0 0 0) (hR : Rt X (some .long) D tys A 0 0 (eL ([]) res)) (kR5 : Int64 × Int32 → Int64) (kO5 : Int64 × Int32 → Prop) (hk5 : ∀ z, kO5 z → kR5 z = res → At X D A 5 0 0 5 [(0, .int a0_), (1, .int a1_), (2, .long z.1), (4, .int z.2)] [] (([] : va_W))) (v : Int64 × Int32) (ok : kX3_cellsOf_5 a0_ a1_ kO5 v) (h : bX3_cellsOf_5 a0_ a1_ kR5 v = res) : At X D A 5 0 0 5 [(0, .int a0_), (1, .int a1_), (2, .long v.1), (4, .int v.2)] [] (([] : va_W)) := by
  unfold bX3_cellsOf_5 at h
  unfold kX3_cellsOf_5 at ok
  refine r_iload C 3 (dall tdX3_cellsOf 4 rfl) rfl ?_
  refine r_iconst (v := 4) C (dall tdX3_cellsOf 5 rfl) (by decide) ?_
  refine r_icmp_ge (tgt := 34) C (dall tdX3_cellsOf 6 rfl) (by decide) (fun c1 => ?_) (fun c1 => ?_)
  · have h := (if_pos c1).symm.trans h
    have ok := ok.1 c1
    refine r_lload_n C 2 (dall tdX3_cellsOf 23 rfl) rfl ?_
    exact r_lret C hR (dall tdX3_cellsOf 24 rfl) (by subst h; exact ⟨rfl, rfl⟩)
  · have h := (if_neg c1).symm.trans h
    have ok := ok.2 c1
    refine r_lload_n C 2 (dall tdX3_cellsOf 7 rfl) rfl ?_
    refine r_lconst (v := 1) C (dall tdX3_cellsOf 8 rfl) (by decide) ?_
    refine r_iload_n C 1 (dall tdX3_cellsOf 9 rfl) rfl ?_
    refine rg_OFFSETS C kf_X3_19 (dall tdX3_cellsOf 10 rfl) ?_
    refine r_iconst (v := 4) C (dall tdX3_cellsOf 11 rfl) (by decide) ?_
    refine r_iload_n C 0 (dall tdX3_cellsOf 12 rfl) rfl ?_
    refine r_imul C (dall tdX3_cellsOf 13 rfl) ?_
    refine r_iload C 3 (dall tdX3_cellsOf 14 rfl) rfl ?_
    refine r_iadd C (dall tdX3_cellsOf 15 rfl) ?_
    obtain ⟨o2, ok⟩ := ok
    refine rs_OFFSETS C o2 (dall tdX3_cellsOf 16 rfl) ?_
    refine r_iadd C (dall tdX3_cellsOf 17 rfl) ?_
    refine r_lshl C (dall tdX3_cellsOf 18 rfl) ?_
    refine r_lor C (dall tdX3_cellsOf 19 rfl) ?_
    refine r_lstore_n (lv' := [(2, .long (v.1 ||| (jshl 1 (a1_ + (tOFF ((4 * a0_) + v.2).toNatClampNeg))))), (0, .int a0_), (1, .int a1_), (4, .int v.2)]) C (dall tdX3_cellsOf 20 rfl) (by decide) rfl ?_
    refine r_iinc (v := v.2 + 1) (lv' := [(4, .int (v.2 + 1)), (2, .long (v.1 ||| (jshl 1 (a1_ + (tOFF ((4 * a0_) + v.2).toNatClampNeg))))), (0, .int a0_), (1, .int a1_)]) C 3 (dall tdX3_cellsOf 21 rfl) rfl rfl (by decide) rfl ?_
    refine r_goto (tgt := 5) C (dall tdX3_cellsOf 22 rfl) (by decide) ?_
    refine r_pick [2, 3, 1, 0] rfl ?_
    exact hk5 (v.1 ||| (jshl 1 (a1_ + (tOFF ((4 * a0_) + v.2).toNatClampNeg))), v.2 + 1) ok h
set_option maxHeartbeats 4000000 in
set_option maxRecDepth 100000 in
theorem lX3_cellsOf_5 {X : CX} {tys : List (ClassId × FieldType)} {D : va_G} {A : Nat → Prop} {res : Int64} (a0_ : Int32) (a1_ : Int32) (C : Cx X cX3_cellsOf RX3 5 D tys A 0 0 0) (hR : Rt X (some .long) D tys A 0 0 (eL ([]) res))  (n : Nat) (v : Int64 × Int32) (ok : lpOk (kX3_cellsOf_5 a0_ a1_ ) n v) (h : lp 0 (bX3_cellsOf_5 a0_ a1_ ) n v = res) : At X D A 5 0 0 5 [(0, .int a0_), (1, .int a1_), (2, .long v.1), (4, .int v.2)] [] (([] : va_W)) :=
  lp_rule (fun v rr_ => rr_ = res → At X D A 5 0 0 5 [(0, .int a0_), (1, .int a1_), (2, .long v.1), (4, .int v.2)] [] (([] : va_W))) (fun kR kO hk v ok h => wX3_cellsOf_5 a0_ a1_ C hR  kR kO hk v ok h) n v ok h
def pX3_cellsOf_0  (a0_ : Int32) (a1_ : Int32) : Int64 := lp 0 (bX3_cellsOf_5 a0_ a1_ ) fu (0, 0)
def oX3_cellsOf_0  (a0_ : Int32) (a1_ : Int32) : Prop := lpOk (kX3_cellsOf_5 a0_ a1_ ) fu (0, 0)
set_option maxHeartbeats 4000000 in
set_option maxRecDepth 100000 in
theorem wX3_cellsOf_0 {X : CX} {tys : List (ClassId × FieldType)} {D : va_G} {A : Nat → Prop} {res : Int64} (a0_ : Int32) (a1_ : Int32) (C : Cx X cX3_cellsOf RX3 5 D tys A 0 0 0) (hR : Rt X (some .long) D tys A 0 0 (eL ([]) res))  (ok : oX3_cellsOf_0  a0_ a1_) (h : pX3_cellsOf_0  a0_ a1_ = res) : At X D A 5 0 0 0 [(0, .int a0_), (1, .int a1_)] [] (([] : va_W)) := by
  unfold pX3_cellsOf_0 at h
  unfold oX3_cellsOf_0 at ok
  refine r_lconst (v := 0) C (dall tdX3_cellsOf 0 rfl) (by decide) ?_
  refine r_lstore_n (lv' := [(2, .long 0), (0, .int a0_), (1, .int a1_)]) C (dall tdX3_cellsOf 1 rfl) (by decide) rfl ?_
  refine r_iconst (v := 0) C (dall tdX3_cellsOf 2 rfl) (by decide) ?_
  refine r_istore (lv' := [(4, .int 0), (2, .long 0), (0, .int a0_), (1, .int a1_)]) C (dall tdX3_cellsOf 3 rfl) (by decide) rfl ?_
  refine r_pick [2, 3, 1, 0] rfl ?_
  exact lX3_cellsOf_5 a0_ a1_ C hR  fu _ ok h
def fX3_cellsOf (a0_ : Int32) (a1_ : Int32) : Int64 := pX3_cellsOf_0  a0_ a1_
def gX3_cellsOf (a0_ : Int32) (a1_ : Int32) : Prop := oX3_cellsOf_0  a0_ a1_
set_option maxRecDepth 100000 in
theorem zX3_cellsOf  {D : va_G} (a0_ : Int32) (a1_ : Int32) (ok : gX3_cellsOf a0_ a1_)  {tys : List (ClassId × FieldType)} : Con yX3_cellsOf cX3_cellsOf 5 (some .long) 0 0 0 D tys [.int a0_, .int a1_] ([]) (eL ([]) (fX3_cellsOf a0_ a1_)) :=
  Con.of (own := RX3) (by decide +kernel) rfl (Nat.le_of_ble_eq_true rfl) (Nat.zero_le _) (fun X A C hR _ => (wX3_cellsOf_0 a0_ a1_ C hR  ok rfl))
theorem ms_X3_cellsOf : MS_ yX3_cellsOf cX3_cellsOf 5 (some .long) 2 := ⟨ks_X3_cellsOf, kn_X3, kc_X3_cellsOf, by decide +kernel⟩
def tbX3_touching : List (Nat × Instr × Nat) := [(0, .lconst 0, 1), (1, .lstore_n 3, 1), (2, .iconst 0, 1), (3, .istore 5, 2), (5, .iload 5, 2), (7, .iconst 4, 1), (8, .if_icmp .ge 24, 3), (11, .lload_n 3, 1), (12, .lload_n 1, 1), (13, .getstatic 19, 3), (16, .iconst 4, 1), (17, .iload_n 0, 1), (18, .imul, 1), (19, .iload 5, 2), (21, .iadd, 1), (22, .iaload, 1), (23, .lushr, 1), (24, .lor, 1), (25, .lstore_n 3, 1), (26, .iinc 5 1, 3), (29, .goto (-24), 3), (32, .lload_n 3, 1), (33, .lreturn, 1)]
theorem tdX3_touching : tbX3_touching.all (fun q => decide (decode cX3_touching q.1 = .ok q.2)) = true := by decide +kernel
def bX3_touching_5 (a0_ : Int32) (a1_ : Int64)  (kR5 : Int64 × Int32 → Int64) (v : Int64 × Int32) : Int64 := if 4 ≤ v.2 then v.1 else kR5 (v.1 ||| (jushr a1_ (tOFF ((4 * a0_) + v.2).toNatClampNeg)), v.2 + 1)
def kX3_touching_5 (a0_ : Int32) (a1_ : Int64)  (kO5 : Int64 × Int32 → Prop) (v : Int64 × Int32) : Prop := (4 ≤ v.2 → True) ∧ (¬ (4 ≤ v.2) → (vp_in ((4 * a0_) + v.2) 24) ∧ (kO5 (v.1 ||| (jushr a1_ (tOFF ((4 * a0_) + v.2).toNatClampNeg)), v.2 + 1)))
set_option maxHeartbeats 4000000 in
set_option maxRecDepth 100000 in
theorem wX3_touching_5 {X : CX} {tys : List (ClassId × FieldType)} {D : va_G} {A : Nat → Prop} {res : Int64} (a0_ : Int32) (a1_ : Int64) (C : Cx X cX3_touching RX3 6 D tys A 0 0 0) (hR : Rt X (some .long) D tys A 0 0 (eL ([]) res)) (kR5 : Int64 × Int32 → Int64) (kO5 : Int64 × Int32 → Prop) (hk5 : ∀ z, kO5 z → kR5 z = res → At X D A 6 0 0 5 [(0, .int a0_), (1, .long a1_), (3, .long z.1), (5, .int z.2)] [] (([] : va_W))) (v : Int64 × Int32) (ok : kX3_touching_5 a0_ a1_ kO5 v) (h : bX3_touching_5 a0_ a1_ kR5 v = res) : At X D A 6 0 0 5 [(0, .int a0_), (1, .long a1_), (3, .long v.1), (5, .int v.2)] [] (([] : va_W)) := by
  unfold bX3_touching_5 at h
  unfold kX3_touching_5 at ok
  refine r_iload C 3 (dall tdX3_touching 4 rfl) rfl ?_
  refine r_iconst (v := 4) C (dall tdX3_touching 5 rfl) (by decide) ?_
  refine r_icmp_ge (tgt := 32) C (dall tdX3_touching 6 rfl) (by decide) (fun c1 => ?_) (fun c1 => ?_)
  · have h := (if_pos c1).symm.trans h
    have ok := ok.1 c1
    refine r_lload_n C 2 (dall tdX3_touching 21 rfl) rfl ?_
    exact r_lret C hR (dall tdX3_touching 22 rfl) (by subst h; exact ⟨rfl, rfl⟩)
  · have h := (if_neg c1).symm.trans h
    have ok := ok.2 c1
    refine r_lload_n C 2 (dall tdX3_touching 7 rfl) rfl ?_
    refine r_lload_n C 1 (dall tdX3_touching 8 rfl) rfl ?_
    refine rg_OFFSETS C kf_X3_19 (dall tdX3_touching 9 rfl) ?_
    refine r_iconst (v := 4) C (dall tdX3_touching 10 rfl) (by decide) ?_
    refine r_iload_n C 0 (dall tdX3_touching 11 rfl) rfl ?_
    refine r_imul C (dall tdX3_touching 12 rfl) ?_
    refine r_iload C 3 (dall tdX3_touching 13 rfl) rfl ?_
    refine r_iadd C (dall tdX3_touching 14 rfl) ?_
    obtain ⟨o2, ok⟩ := ok
    refine rs_OFFSETS C o2 (dall tdX3_touching 15 rfl) ?_
    refine r_lushr C (dall tdX3_touching 16 rfl) ?_
    refine r_lor C (dall tdX3_touching 17 rfl) ?_
    refine r_lstore_n (lv' := [(3, .long (v.1 ||| (jushr a1_ (tOFF ((4 * a0_) + v.2).toNatClampNeg)))), (0, .int a0_), (1, .long a1_), (5, .int v.2)]) C (dall tdX3_touching 18 rfl) (by decide) rfl ?_
    refine r_iinc (v := v.2 + 1) (lv' := [(5, .int (v.2 + 1)), (3, .long (v.1 ||| (jushr a1_ (tOFF ((4 * a0_) + v.2).toNatClampNeg)))), (0, .int a0_), (1, .long a1_)]) C 3 (dall tdX3_touching 19 rfl) rfl rfl (by decide) rfl ?_
    refine r_goto (tgt := 5) C (dall tdX3_touching 20 rfl) (by decide) ?_
    refine r_pick [2, 3, 1, 0] rfl ?_
    exact hk5 (v.1 ||| (jushr a1_ (tOFF ((4 * a0_) + v.2).toNatClampNeg)), v.2 + 1) ok h
set_option maxHeartbeats 4000000 in
set_option maxRecDepth 100000 in
theorem lX3_touching_5 {X : CX} {tys : List (ClassId × FieldType)} {D : va_G} {A : Nat → Prop} {res : Int64} (a0_ : Int32) (a1_ : Int64) (C : Cx X cX3_touching RX3 6 D tys A 0 0 0) (hR : Rt X (some .long) D tys A 0 0 (eL ([]) res))  (n : Nat) (v : Int64 × Int32) (ok : lpOk (kX3_touching_5 a0_ a1_ ) n v) (h : lp 0 (bX3_touching_5 a0_ a1_ ) n v = res) : At X D A 6 0 0 5 [(0, .int a0_), (1, .long a1_), (3, .long v.1), (5, .int v.2)] [] (([] : va_W)) :=
  lp_rule (fun v rr_ => rr_ = res → At X D A 6 0 0 5 [(0, .int a0_), (1, .long a1_), (3, .long v.1), (5, .int v.2)] [] (([] : va_W))) (fun kR kO hk v ok h => wX3_touching_5 a0_ a1_ C hR  kR kO hk v ok h) n v ok h
def pX3_touching_0  (a0_ : Int32) (a1_ : Int64) : Int64 := lp 0 (bX3_touching_5 a0_ a1_ ) fu (0, 0)
def oX3_touching_0  (a0_ : Int32) (a1_ : Int64) : Prop := lpOk (kX3_touching_5 a0_ a1_ ) fu (0, 0)
set_option maxHeartbeats 4000000 in
set_option maxRecDepth 100000 in
theorem wX3_touching_0 {X : CX} {tys : List (ClassId × FieldType)} {D : va_G} {A : Nat → Prop} {res : Int64} (a0_ : Int32) (a1_ : Int64) (C : Cx X cX3_touching RX3 6 D tys A 0 0 0) (hR : Rt X (some .long) D tys A 0 0 (eL ([]) res))  (ok : oX3_touching_0  a0_ a1_) (h : pX3_touching_0  a0_ a1_ = res) : At X D A 6 0 0 0 [(0, .int a0_), (1, .long a1_)] [] (([] : va_W)) := by
  unfold pX3_touching_0 at h
  unfold oX3_touching_0 at ok
  refine r_lconst (v := 0) C (dall tdX3_touching 0 rfl) (by decide) ?_
  refine r_lstore_n (lv' := [(3, .long 0), (0, .int a0_), (1, .long a1_)]) C (dall tdX3_touching 1 rfl) (by decide) rfl ?_
  refine r_iconst (v := 0) C (dall tdX3_touching 2 rfl) (by decide) ?_
  refine r_istore (lv' := [(5, .int 0), (3, .long 0), (0, .int a0_), (1, .long a1_)]) C (dall tdX3_touching 3 rfl) (by decide) rfl ?_
  refine r_pick [2, 3, 1, 0] rfl ?_
  exact lX3_touching_5 a0_ a1_ C hR  fu _ ok h
def fX3_touching (a0_ : Int32) (a1_ : Int64) : Int64 := pX3_touching_0  a0_ a1_
def gX3_touching (a0_ : Int32) (a1_ : Int64) : Prop := oX3_touching_0  a0_ a1_
set_option maxRecDepth 100000 in
theorem zX3_touching  {D : va_G} (a0_ : Int32) (a1_ : Int64) (ok : gX3_touching a0_ a1_)  {tys : List (ClassId × FieldType)} : Con yX3_touching cX3_touching 6 (some .long) 0 0 0 D tys [.int a0_, .long a1_] ([]) (eL ([]) (fX3_touching a0_ a1_)) :=
  Con.of (own := RX3) (by decide +kernel) rfl (Nat.le_of_ble_eq_true rfl) (Nat.zero_le _) (fun X A C hR _ => (wX3_touching_0 a0_ a1_ C hR  ok rfl))
theorem ms_X3_touching : MS_ yX3_touching cX3_touching 6 (some .long) 2 := ⟨ks_X3_touching, kn_X3, kc_X3_touching, by decide +kernel⟩
def tbX3_places : List (Nat × Instr × Nat) := [(0, .getstatic 23, 3), (3, .iload_n 0, 1), (4, .laload, 1), (5, .iload_n 0, 1), (6, .lload_n 1, 1), (7, .invokestatic 15, 3), (10, .invokestatic 27, 3), (13, .land, 1), (14, .iload_n 0, 1), (15, .lload_n 1, 1), (16, .invokestatic 27, 3), (19, .ldc2_w 31, 3), (22, .lxor, 1), (23, .land, 1), (24, .lreturn, 1)]
theorem tdX3_places : tbX3_places.all (fun q => decide (decode cX3_places q.1 = .ok q.2)) = true := by decide +kernel
def pX3_places_0  (a0_ : Int32) (a1_ : Int64) : Int64 := ((tWALL a0_.toNatClampNeg) &&& (fX3_touching a0_ (fX3_beside a1_))) &&& ((fX3_touching a0_ a1_) ^^^ (-1))
def oX3_places_0  (a0_ : Int32) (a1_ : Int64) : Prop := (vp_in a0_ 6) ∧ ((gX3_touching a0_ (fX3_beside a1_)) ∧ (gX3_touching a0_ a1_))
set_option maxHeartbeats 4000000 in
set_option maxRecDepth 100000 in
theorem wX3_places_0 {X : CX} {tys : List (ClassId × FieldType)} {D : va_G} {A : Nat → Prop} {res : Int64} (a0_ : Int32) (a1_ : Int64) (C : Cx X cX3_places RX3 3 D tys A 1 0 0) (hR : Rt X (some .long) D tys A 0 0 (eL ([]) res))  (ok : oX3_places_0  a0_ a1_) (h : pX3_places_0  a0_ a1_ = res) : At X D A 3 0 0 0 [(0, .int a0_), (1, .long a1_)] [] (([] : va_W)) := by
  unfold pX3_places_0 at h
  unfold oX3_places_0 at ok
  refine rg_ON_WALL C kf_X3_23 (dall tdX3_places 0 rfl) ?_
  refine r_iload_n C 0 (dall tdX3_places 1 rfl) rfl ?_
  obtain ⟨o1, ok⟩ := ok
  refine rs_ON_WALL C o1 (dall tdX3_places 2 rfl) ?_
  refine r_iload_n C 0 (dall tdX3_places 3 rfl) rfl ?_
  refine r_lload_n C 1 (dall tdX3_places 4 rfl) rfl ?_
  refine r_s0L (as := [.long a1_]) C (zX3_beside a1_ ) ms_X3_beside km_X3_15 (by decide) (by decide) ⟨Nat.le_refl _, Nat.le_refl _⟩ rfl rfl (Nat.le_of_ble_eq_true rfl) (dall tdX3_places 5 rfl) ?_
  obtain ⟨o2, ok⟩ := ok
  refine r_s0L (as := [.int a0_, .long (fX3_beside a1_)]) C (zX3_touching a0_ (fX3_beside a1_) o2) ms_X3_touching km_X3_27 (by decide) (by decide) ⟨Nat.le_refl _, Nat.le_refl _⟩ rfl rfl (Nat.le_of_ble_eq_true rfl) (dall tdX3_places 6 rfl) ?_
  refine r_land C (dall tdX3_places 7 rfl) ?_
  refine r_iload_n C 0 (dall tdX3_places 8 rfl) rfl ?_
  refine r_lload_n C 1 (dall tdX3_places 9 rfl) rfl ?_
  have o3 := ok
  refine r_s0L (as := [.int a0_, .long a1_]) C (zX3_touching a0_ a1_ o3) ms_X3_touching km_X3_27 (by decide) (by decide) ⟨Nat.le_refl _, Nat.le_refl _⟩ rfl rfl (Nat.le_of_ble_eq_true rfl) (dall tdX3_places 10 rfl) ?_
  refine r_ldc2 C kk_X3_31 (dall tdX3_places 11 rfl) ?_
  refine r_lxor C (dall tdX3_places 12 rfl) ?_
  refine r_land C (dall tdX3_places 13 rfl) ?_
  exact r_lret C hR (dall tdX3_places 14 rfl) (by subst h; exact ⟨rfl, rfl⟩)
def fX3_places (a0_ : Int32) (a1_ : Int64) : Int64 := pX3_places_0  a0_ a1_
def gX3_places (a0_ : Int32) (a1_ : Int64) : Prop := oX3_places_0  a0_ a1_
set_option maxRecDepth 100000 in
theorem zX3_places  {D : va_G} (a0_ : Int32) (a1_ : Int64) (ok : gX3_places a0_ a1_)  {tys : List (ClassId × FieldType)} : Con yX3_places cX3_places 3 (some .long) 1 0 0 D tys [.int a0_, .long a1_] ([]) (eL ([]) (fX3_places a0_ a1_)) :=
  Con.of (own := RX3) (by decide +kernel) rfl (Nat.le_of_ble_eq_true rfl) (Nat.zero_le _) (fun X A C hR _ => (wX3_places_0 a0_ a1_ C hR  ok rfl))
theorem ms_X3_places : MS_ yX3_places cX3_places 3 (some .long) 2 := ⟨ks_X3_places, kn_X3, kc_X3_places, by decide +kernel⟩
def tbX3_reachedByOne : List (Nat × Instr × Nat) := [(0, .iconst 0, 1), (1, .istore_n 3, 1), (2, .iload_n 3, 1), (3, .getstatic 19, 3), (6, .arraylength, 1), (7, .if_icmp .ge 40, 3), (10, .iload_n 2, 1), (11, .getstatic 19, 3), (14, .iload_n 3, 1), (15, .iaload, 1), (16, .isub, 1), (17, .istore 4, 2), (19, .iload 4, 2), (21, .ifCond .lt 20, 3), (24, .iload_n 3, 1), (25, .iconst 4, 1), (26, .idiv, 1), (27, .lload_n 0, 1), (28, .invokestatic 33, 3), (31, .iload 4, 2), (33, .invokestatic 36, 3), (36, .ifCond .eq 5, 3), (39, .iconst 1, 1), (40, .ireturn, 1), (41, .iinc 3 1, 3), (44, .goto (-42), 3), (47, .iconst 0, 1), (48, .ireturn, 1)]
theorem tdX3_reachedByOne : tbX3_reachedByOne.all (fun q => decide (decode cX3_reachedByOne q.1 = .ok q.2)) = true := by decide +kernel
def pX3_reachedByOne_41 (kR2 : Int32 → Int32) (a0_ : Int64) (a2_ : Int32) (a3_ : Int32) : Int32 := kR2 (a3_ + 1)
def oX3_reachedByOne_41 (kO2 : Int32 → Prop) (a0_ : Int64) (a2_ : Int32) (a3_ : Int32) : Prop := kO2 (a3_ + 1)
set_option maxHeartbeats 4000000 in
set_option maxRecDepth 100000 in
theorem wX3_reachedByOne_41 {X : CX} {tys : List (ClassId × FieldType)} {D : va_G} {A : Nat → Prop} {res : Int32} (a0_ : Int64) (a2_ : Int32) (a3_ : Int32) (C : Cx X cX3_reachedByOne RX3 5 D tys A 2 0 0) (hR : Rt X (some .boolean) D tys A 0 0 (eI ([]) res)) (kR2 : Int32 → Int32) (kO2 : Int32 → Prop) (hk2 : ∀ z, kO2 z → kR2 z = res → At X D A 5 0 0 2 [(0, .long a0_), (2, .int a2_), (3, .int z)] [] (([] : va_W))) (ok : oX3_reachedByOne_41 kO2 a0_ a2_ a3_) (h : pX3_reachedByOne_41 kR2 a0_ a2_ a3_ = res) : At X D A 5 0 0 41 [(0, .long a0_), (2, .int a2_), (3, .int a3_)] [] (([] : va_W)) := by
  unfold pX3_reachedByOne_41 at h
  unfold oX3_reachedByOne_41 at ok
  refine r_iinc (v := a3_ + 1) (lv' := [(3, .int (a3_ + 1)), (0, .long a0_), (2, .int a2_)]) C 2 (dall tdX3_reachedByOne 24 rfl) rfl rfl (by decide) rfl ?_
  refine r_goto (tgt := 2) C (dall tdX3_reachedByOne 25 rfl) (by decide) ?_
  refine r_pick [1, 2, 0] rfl ?_
  exact hk2 (a3_ + 1) ok h
def bX3_reachedByOne_2 (a0_ : Int64) (a2_ : Int32)  (kR2 : Int32 → Int32) (v : Int32) : Int32 := if 24 ≤ v then 0 else if (a2_ - (tOFF v.toNatClampNeg)) < 0 then pX3_reachedByOne_41 kR2 a0_ a2_ v else if (fX3_has (fX3_places (v / 4) a0_) (a2_ - (tOFF v.toNatClampNeg))) = 0 then pX3_reachedByOne_41 kR2 a0_ a2_ v else 1
def kX3_reachedByOne_2 (a0_ : Int64) (a2_ : Int32)  (kO2 : Int32 → Prop) (v : Int32) : Prop := (24 ≤ v → True) ∧ (¬ (24 ≤ v) → (vp_in v 24) ∧ (((a2_ - (tOFF v.toNatClampNeg)) < 0 → oX3_reachedByOne_41 kO2 a0_ a2_ v) ∧ (¬ ((a2_ - (tOFF v.toNatClampNeg)) < 0) → (gX3_places (v / 4) a0_) ∧ (((fX3_has (fX3_places (v / 4) a0_) (a2_ - (tOFF v.toNatClampNeg))) = 0 → oX3_reachedByOne_41 kO2 a0_ a2_ v) ∧ (¬ ((fX3_has (fX3_places (v / 4) a0_) (a2_ - (tOFF v.toNatClampNeg))) = 0) → True)))))
set_option maxHeartbeats 4000000 in
set_option maxRecDepth 100000 in
theorem wX3_reachedByOne_2 {X : CX} {tys : List (ClassId × FieldType)} {D : va_G} {A : Nat → Prop} {res : Int32} (a0_ : Int64) (a2_ : Int32) (C : Cx X cX3_reachedByOne RX3 5 D tys A 2 0 0) (hR : Rt X (some .boolean) D tys A 0 0 (eI ([]) res)) (kR2 : Int32 → Int32) (kO2 : Int32 → Prop) (hk2 : ∀ z, kO2 z → kR2 z = res → At X D A 5 0 0 2 [(0, .long a0_), (2, .int a2_), (3, .int z)] [] (([] : va_W))) (v : Int32) (ok : kX3_reachedByOne_2 a0_ a2_ kO2 v) (h : bX3_reachedByOne_2 a0_ a2_ kR2 v = res) : At X D A 5 0 0 2 [(0, .long a0_), (2, .int a2_), (3, .int v)] [] (([] : va_W)) := by
  unfold bX3_reachedByOne_2 at h
  unfold kX3_reachedByOne_2 at ok
  refine r_iload_n C 2 (dall tdX3_reachedByOne 2 rfl) rfl ?_
  refine rg_OFFSETS C kf_X3_19 (dall tdX3_reachedByOne 3 rfl) ?_
  refine rl_OFFSETS C (dall tdX3_reachedByOne 4 rfl) ?_
  refine r_icmp_ge (tgt := 47) C (dall tdX3_reachedByOne 5 rfl) (by decide) (fun c1 => ?_) (fun c1 => ?_)
  · have h := (if_pos c1).symm.trans h
    have ok := ok.1 c1
    refine r_iconst (v := 0) C (dall tdX3_reachedByOne 26 rfl) (by decide) ?_
    exact r_zret C (by decide) hR (dall tdX3_reachedByOne 27 rfl) (by subst h; exact ⟨rfl, rfl⟩)
  · have h := (if_neg c1).symm.trans h
    have ok := ok.2 c1
    refine r_iload_n C 1 (dall tdX3_reachedByOne 6 rfl) rfl ?_
    refine rg_OFFSETS C kf_X3_19 (dall tdX3_reachedByOne 7 rfl) ?_
    refine r_iload_n C 2 (dall tdX3_reachedByOne 8 rfl) rfl ?_
    obtain ⟨o2, ok⟩ := ok
    refine rs_OFFSETS C o2 (dall tdX3_reachedByOne 9 rfl) ?_
    refine r_isub C (dall tdX3_reachedByOne 10 rfl) ?_
    refine r_istore (lv' := [(4, .int (a2_ - (tOFF v.toNatClampNeg))), (0, .long a0_), (2, .int a2_), (3, .int v)]) C (dall tdX3_reachedByOne 11 rfl) (by decide) rfl ?_
    refine r_iload C 0 (dall tdX3_reachedByOne 12 rfl) rfl ?_
    refine r_if_lt (tgt := 41) C (dall tdX3_reachedByOne 13 rfl) (by decide) (fun c3 => ?_) (fun c3 => ?_)
    · have h := (if_pos c3).symm.trans h
      have ok := ok.1 c3
      refine r_pick [1, 2, 3] rfl ?_
      exact wX3_reachedByOne_41 a0_ a2_ v C hR kR2 kO2 hk2 ok h
    · have h := (if_neg c3).symm.trans h
      have ok := ok.2 c3
      refine r_iload_n C 3 (dall tdX3_reachedByOne 14 rfl) rfl ?_
      refine r_iconst (v := 4) C (dall tdX3_reachedByOne 15 rfl) (by decide) ?_
      refine r_idiv C (dall tdX3_reachedByOne 16 rfl) (by decide) ?_
      refine r_lload_n C 1 (dall tdX3_reachedByOne 17 rfl) rfl ?_
      obtain ⟨o4, ok⟩ := ok
      refine r_s0L (as := [.int (v / 4), .long a0_]) C (zX3_places (v / 4) a0_ o4) ms_X3_places km_X3_33 (by decide) (by decide) ⟨Nat.le_refl _, Nat.le_refl _⟩ rfl rfl (Nat.le_of_ble_eq_true rfl) (dall tdX3_reachedByOne 18 rfl) ?_
      refine r_iload C 0 (dall tdX3_reachedByOne 19 rfl) rfl ?_
      refine r_s0I (as := [.long (fX3_places (v / 4) a0_), .int (a2_ - (tOFF v.toNatClampNeg))]) C (zX3_has (fX3_places (v / 4) a0_) (a2_ - (tOFF v.toNatClampNeg)) ) ms_X3_has km_X3_36 (by decide) (by decide) ⟨Nat.le_refl _, Nat.le_refl _⟩ rfl rfl (Nat.le_of_ble_eq_true rfl) (dall tdX3_reachedByOne 20 rfl) ?_
      refine r_if_eq (tgt := 41) C (dall tdX3_reachedByOne 21 rfl) (by decide) (fun c5 => ?_) (fun c5 => ?_)
      · have h := (if_pos c5).symm.trans h
        have ok := ok.1 c5
        refine r_pick [1, 2, 3] rfl ?_
        exact wX3_reachedByOne_41 a0_ a2_ v C hR kR2 kO2 hk2 ok h
      · have h := (if_neg c5).symm.trans h
        have ok := ok.2 c5
        refine r_iconst (v := 1) C (dall tdX3_reachedByOne 22 rfl) (by decide) ?_
        exact r_zret C (by decide) hR (dall tdX3_reachedByOne 23 rfl) (by subst h; exact ⟨rfl, rfl⟩)
set_option maxHeartbeats 4000000 in
set_option maxRecDepth 100000 in
theorem lX3_reachedByOne_2 {X : CX} {tys : List (ClassId × FieldType)} {D : va_G} {A : Nat → Prop} {res : Int32} (a0_ : Int64) (a2_ : Int32) (C : Cx X cX3_reachedByOne RX3 5 D tys A 2 0 0) (hR : Rt X (some .boolean) D tys A 0 0 (eI ([]) res))  (n : Nat) (v : Int32) (ok : lpOk (kX3_reachedByOne_2 a0_ a2_ ) n v) (h : lp 0 (bX3_reachedByOne_2 a0_ a2_ ) n v = res) : At X D A 5 0 0 2 [(0, .long a0_), (2, .int a2_), (3, .int v)] [] (([] : va_W)) :=
  lp_rule (fun v rr_ => rr_ = res → At X D A 5 0 0 2 [(0, .long a0_), (2, .int a2_), (3, .int v)] [] (([] : va_W))) (fun kR kO hk v ok h => wX3_reachedByOne_2 a0_ a2_ C hR  kR kO hk v ok h) n v ok h
def pX3_reachedByOne_0  (a0_ : Int64) (a2_ : Int32) : Int32 := lp 0 (bX3_reachedByOne_2 a0_ a2_ ) fu 0
def oX3_reachedByOne_0  (a0_ : Int64) (a2_ : Int32) : Prop := lpOk (kX3_reachedByOne_2 a0_ a2_ ) fu 0
set_option maxHeartbeats 4000000 in
set_option maxRecDepth 100000 in
theorem wX3_reachedByOne_0 {X : CX} {tys : List (ClassId × FieldType)} {D : va_G} {A : Nat → Prop} {res : Int32} (a0_ : Int64) (a2_ : Int32) (C : Cx X cX3_reachedByOne RX3 5 D tys A 2 0 0) (hR : Rt X (some .boolean) D tys A 0 0 (eI ([]) res))  (ok : oX3_reachedByOne_0  a0_ a2_) (h : pX3_reachedByOne_0  a0_ a2_ = res) : At X D A 5 0 0 0 [(0, .long a0_), (2, .int a2_)] [] (([] : va_W)) := by
  unfold pX3_reachedByOne_0 at h
  unfold oX3_reachedByOne_0 at ok
  refine r_iconst (v := 0) C (dall tdX3_reachedByOne 0 rfl) (by decide) ?_
  refine r_istore_n (lv' := [(3, .int 0), (0, .long a0_), (2, .int a2_)]) C (dall tdX3_reachedByOne 1 rfl) (by decide) rfl ?_
  refine r_pick [1, 2, 0] rfl ?_
  exact lX3_reachedByOne_2 a0_ a2_ C hR  fu _ ok h
def fX3_reachedByOne (a0_ : Int64) (a2_ : Int32) : Int32 := pX3_reachedByOne_0  a0_ a2_
def gX3_reachedByOne (a0_ : Int64) (a2_ : Int32) : Prop := oX3_reachedByOne_0  a0_ a2_
set_option maxRecDepth 100000 in
theorem zX3_reachedByOne  {D : va_G} (a0_ : Int64) (a2_ : Int32) (ok : gX3_reachedByOne a0_ a2_)  {tys : List (ClassId × FieldType)} : Con yX3_reachedByOne cX3_reachedByOne 5 (some .boolean) 2 0 0 D tys [.long a0_, .int a2_] ([]) (eI ([]) (fX3_reachedByOne a0_ a2_)) :=
  Con.of (own := RX3) (by decide +kernel) rfl (Nat.le_of_ble_eq_true rfl) (Nat.zero_le _) (fun X A C hR _ => (wX3_reachedByOne_0 a0_ a2_ C hR  ok rfl))
theorem ms_X3_reachedByOne : MS_ yX3_reachedByOne cX3_reachedByOne 5 (some .boolean) 2 := ⟨ks_X3_reachedByOne, kn_X3, kc_X3_reachedByOne, by decide +kernel⟩
def tbX3_isMadeRoom : List (Nat × Instr × Nat) := [(0, .lload_n 2, 1), (1, .lload_n 0, 1), (2, .land, 1), (3, .lconst 0, 1), (4, .lcmp, 1), (5, .ifCond .eq 5, 3), (8, .iconst 0, 1), (9, .ireturn, 1), (10, .lload_n 2, 1), (11, .invokestatic 15, 3), (14, .lstore 4, 2), (16, .iconst 0, 1), (17, .istore 6, 2), (19, .iload 6, 2), (21, .bipush 6, 2), (23, .if_icmp .ge 41, 3), (26, .iload 6, 2), (28, .lload_n 0, 1), (29, .invokestatic 33, 3), (32, .iload 6, 2), (34, .lload 4, 2), (36, .invokestatic 27, 3), (39, .land, 1), (40, .iload 6, 2), (42, .lload_n 2, 1), (43, .invokestatic 27, 3), (46, .ldc2_w 31, 3), (49, .lxor, 1), (50, .land, 1), (51, .lconst 0, 1), (52, .lcmp, 1), (53, .ifCond .eq 5, 3), (56, .iconst 1, 1), (57, .ireturn, 1), (58, .iinc 6 1, 3), (61, .goto (-42), 3), (64, .iconst 0, 1), (65, .ireturn, 1)]
theorem tdX3_isMadeRoom : tbX3_isMadeRoom.all (fun q => decide (decode cX3_isMadeRoom q.1 = .ok q.2)) = true := by decide +kernel
def bX3_isMadeRoom_19 (a0_ : Int64) (a2_ : Int64) (a4_ : Int64)  (kR19 : Int32 → Int32) (v : Int32) : Int32 := if 6 ≤ v then 0 else if (((fX3_places v a0_) &&& (fX3_touching v a4_)) &&& ((fX3_touching v a2_) ^^^ (-1))) = 0 then kR19 (v + 1) else 1
def kX3_isMadeRoom_19 (a0_ : Int64) (a2_ : Int64) (a4_ : Int64)  (kO19 : Int32 → Prop) (v : Int32) : Prop := (6 ≤ v → True) ∧ (¬ (6 ≤ v) → (gX3_places v a0_) ∧ ((gX3_touching v a4_) ∧ ((gX3_touching v a2_) ∧ (((((fX3_places v a0_) &&& (fX3_touching v a4_)) &&& ((fX3_touching v a2_) ^^^ (-1))) = 0 → kO19 (v + 1)) ∧ (¬ ((((fX3_places v a0_) &&& (fX3_touching v a4_)) &&& ((fX3_touching v a2_) ^^^ (-1))) = 0) → True)))))
set_option maxHeartbeats 4000000 in
set_option maxRecDepth 100000 in
theorem wX3_isMadeRoom_19 {X : CX} {tys : List (ClassId × FieldType)} {D : va_G} {A : Nat → Prop} {res : Int32} (a0_ : Int64) (a2_ : Int64) (a4_ : Int64) (C : Cx X cX3_isMadeRoom RX3 7 D tys A 2 0 0) (hR : Rt X (some .boolean) D tys A 0 0 (eI ([]) res)) (kR19 : Int32 → Int32) (kO19 : Int32 → Prop) (hk19 : ∀ z, kO19 z → kR19 z = res → At X D A 7 0 0 19 [(0, .long a0_), (2, .long a2_), (4, .long a4_), (6, .int z)] [] (([] : va_W))) (v : Int32) (ok : kX3_isMadeRoom_19 a0_ a2_ a4_ kO19 v) (h : bX3_isMadeRoom_19 a0_ a2_ a4_ kR19 v = res) : At X D A 7 0 0 19 [(0, .long a0_), (2, .long a2_), (4, .long a4_), (6, .int v)] [] (([] : va_W)) := by
  unfold bX3_isMadeRoom_19 at h
  unfold kX3_isMadeRoom_19 at ok
  refine r_iload C 3 (dall tdX3_isMadeRoom 13 rfl) rfl ?_
  refine r_bipush (v := 6) C (dall tdX3_isMadeRoom 14 rfl) (by decide) ?_
  refine r_icmp_ge (tgt := 64) C (dall tdX3_isMadeRoom 15 rfl) (by decide) (fun c1 => ?_) (fun c1 => ?_)
  · have h := (if_pos c1).symm.trans h
    have ok := ok.1 c1
    refine r_iconst (v := 0) C (dall tdX3_isMadeRoom 36 rfl) (by decide) ?_
    exact r_zret C (by decide) hR (dall tdX3_isMadeRoom 37 rfl) (by subst h; exact ⟨rfl, rfl⟩)
  · have h := (if_neg c1).symm.trans h
    have ok := ok.2 c1
    refine r_iload C 3 (dall tdX3_isMadeRoom 16 rfl) rfl ?_
    refine r_lload_n C 0 (dall tdX3_isMadeRoom 17 rfl) rfl ?_
    obtain ⟨o2, ok⟩ := ok
    refine r_s0L (as := [.int v, .long a0_]) C (zX3_places v a0_ o2) ms_X3_places km_X3_33 (by decide) (by decide) ⟨Nat.le_refl _, Nat.le_refl _⟩ rfl rfl (Nat.le_of_ble_eq_true rfl) (dall tdX3_isMadeRoom 18 rfl) ?_
    refine r_iload C 3 (dall tdX3_isMadeRoom 19 rfl) rfl ?_
    refine r_lload C 2 (dall tdX3_isMadeRoom 20 rfl) rfl ?_
    obtain ⟨o3, ok⟩ := ok
    refine r_s0L (as := [.int v, .long a4_]) C (zX3_touching v a4_ o3) ms_X3_touching km_X3_27 (by decide) (by decide) ⟨Nat.le_refl _, Nat.le_refl _⟩ rfl rfl (Nat.le_of_ble_eq_true rfl) (dall tdX3_isMadeRoom 21 rfl) ?_
    refine r_land C (dall tdX3_isMadeRoom 22 rfl) ?_
    refine r_iload C 3 (dall tdX3_isMadeRoom 23 rfl) rfl ?_
    refine r_lload_n C 1 (dall tdX3_isMadeRoom 24 rfl) rfl ?_
    obtain ⟨o4, ok⟩ := ok
    refine r_s0L (as := [.int v, .long a2_]) C (zX3_touching v a2_ o4) ms_X3_touching km_X3_27 (by decide) (by decide) ⟨Nat.le_refl _, Nat.le_refl _⟩ rfl rfl (Nat.le_of_ble_eq_true rfl) (dall tdX3_isMadeRoom 25 rfl) ?_
    refine r_ldc2 C kk_X3_31 (dall tdX3_isMadeRoom 26 rfl) ?_
    refine r_lxor C (dall tdX3_isMadeRoom 27 rfl) ?_
    refine r_land C (dall tdX3_isMadeRoom 28 rfl) ?_
    refine r_lconst (v := 0) C (dall tdX3_isMadeRoom 29 rfl) (by decide) ?_
    refine r_lif_eq (tgt := 58) C (dall tdX3_isMadeRoom 30 rfl) (dall tdX3_isMadeRoom 31 rfl) (by decide) (fun c5 => ?_) (fun c5 => ?_)
    · have h := (if_pos c5).symm.trans h
      have ok := ok.1 c5
      refine r_iinc (v := v + 1) (lv' := [(6, .int (v + 1)), (0, .long a0_), (2, .long a2_), (4, .long a4_)]) C 3 (dall tdX3_isMadeRoom 34 rfl) rfl rfl (by decide) rfl ?_
      refine r_goto (tgt := 19) C (dall tdX3_isMadeRoom 35 rfl) (by decide) ?_
      refine r_pick [1, 2, 3, 0] rfl ?_
      exact hk19 (v + 1) ok h
    · have h := (if_neg c5).symm.trans h
      have ok := ok.2 c5
      refine r_iconst (v := 1) C (dall tdX3_isMadeRoom 32 rfl) (by decide) ?_
      exact r_zret C (by decide) hR (dall tdX3_isMadeRoom 33 rfl) (by subst h; exact ⟨rfl, rfl⟩)
set_option maxHeartbeats 4000000 in
set_option maxRecDepth 100000 in
theorem lX3_isMadeRoom_19 {X : CX} {tys : List (ClassId × FieldType)} {D : va_G} {A : Nat → Prop} {res : Int32} (a0_ : Int64) (a2_ : Int64) (a4_ : Int64) (C : Cx X cX3_isMadeRoom RX3 7 D tys A 2 0 0) (hR : Rt X (some .boolean) D tys A 0 0 (eI ([]) res))  (n : Nat) (v : Int32) (ok : lpOk (kX3_isMadeRoom_19 a0_ a2_ a4_ ) n v) (h : lp 0 (bX3_isMadeRoom_19 a0_ a2_ a4_ ) n v = res) : At X D A 7 0 0 19 [(0, .long a0_), (2, .long a2_), (4, .long a4_), (6, .int v)] [] (([] : va_W)) :=
  lp_rule (fun v rr_ => rr_ = res → At X D A 7 0 0 19 [(0, .long a0_), (2, .long a2_), (4, .long a4_), (6, .int v)] [] (([] : va_W))) (fun kR kO hk v ok h => wX3_isMadeRoom_19 a0_ a2_ a4_ C hR  kR kO hk v ok h) n v ok h
def pX3_isMadeRoom_0  (a0_ : Int64) (a2_ : Int64) : Int32 := if (a2_ &&& a0_) = 0 then lp 0 (bX3_isMadeRoom_19 a0_ a2_ (fX3_beside a2_) ) fu 0 else 0
def oX3_isMadeRoom_0  (a0_ : Int64) (a2_ : Int64) : Prop := ((a2_ &&& a0_) = 0 → lpOk (kX3_isMadeRoom_19 a0_ a2_ (fX3_beside a2_) ) fu 0) ∧ (¬ ((a2_ &&& a0_) = 0) → True)
set_option maxHeartbeats 4000000 in
set_option maxRecDepth 100000 in
theorem wX3_isMadeRoom_0 {X : CX} {tys : List (ClassId × FieldType)} {D : va_G} {A : Nat → Prop} {res : Int32} (a0_ : Int64) (a2_ : Int64) (C : Cx X cX3_isMadeRoom RX3 7 D tys A 2 0 0) (hR : Rt X (some .boolean) D tys A 0 0 (eI ([]) res))  (ok : oX3_isMadeRoom_0  a0_ a2_) (h : pX3_isMadeRoom_0  a0_ a2_ = res) : At X D A 7 0 0 0 [(0, .long a0_), (2, .long a2_)] [] (([] : va_W)) := by
  unfold pX3_isMadeRoom_0 at h
  unfold oX3_isMadeRoom_0 at ok
  refine r_lload_n C 1 (dall tdX3_isMadeRoom 0 rfl) rfl ?_
  refine r_lload_n C 0 (dall tdX3_isMadeRoom 1 rfl) rfl ?_
  refine r_land C (dall tdX3_isMadeRoom 2 rfl) ?_
  refine r_lconst (v := 0) C (dall tdX3_isMadeRoom 3 rfl) (by decide) ?_
  refine r_lif_eq (tgt := 10) C (dall tdX3_isMadeRoom 4 rfl) (dall tdX3_isMadeRoom 5 rfl) (by decide) (fun c6 => ?_) (fun c6 => ?_)
  · have h := (if_pos c6).symm.trans h
    have ok := ok.1 c6
    refine r_lload_n C 1 (dall tdX3_isMadeRoom 8 rfl) rfl ?_
    refine r_s0L (as := [.long a2_]) C (zX3_beside a2_ ) ms_X3_beside km_X3_15 (by decide) (by decide) ⟨Nat.le_refl _, Nat.le_refl _⟩ rfl rfl (Nat.le_of_ble_eq_true rfl) (dall tdX3_isMadeRoom 9 rfl) ?_
    refine r_lstore (lv' := [(4, .long (fX3_beside a2_)), (0, .long a0_), (2, .long a2_)]) C (dall tdX3_isMadeRoom 10 rfl) (by decide) rfl ?_
    refine r_iconst (v := 0) C (dall tdX3_isMadeRoom 11 rfl) (by decide) ?_
    refine r_istore (lv' := [(6, .int 0), (4, .long (fX3_beside a2_)), (0, .long a0_), (2, .long a2_)]) C (dall tdX3_isMadeRoom 12 rfl) (by decide) rfl ?_
    refine r_pick [2, 3, 1, 0] rfl ?_
    exact lX3_isMadeRoom_19 a0_ a2_ (fX3_beside a2_) C hR  fu _ ok h
  · have h := (if_neg c6).symm.trans h
    have ok := ok.2 c6
    refine r_iconst (v := 0) C (dall tdX3_isMadeRoom 6 rfl) (by decide) ?_
    exact r_zret C (by decide) hR (dall tdX3_isMadeRoom 7 rfl) (by subst h; exact ⟨rfl, rfl⟩)
def fX3_isMadeRoom (a0_ : Int64) (a2_ : Int64) : Int32 := pX3_isMadeRoom_0  a0_ a2_
def gX3_isMadeRoom (a0_ : Int64) (a2_ : Int64) : Prop := oX3_isMadeRoom_0  a0_ a2_
set_option maxRecDepth 100000 in
theorem zX3_isMadeRoom  {D : va_G} (a0_ : Int64) (a2_ : Int64) (ok : gX3_isMadeRoom a0_ a2_)  {tys : List (ClassId × FieldType)} : Con yX3_isMadeRoom cX3_isMadeRoom 7 (some .boolean) 2 0 0 D tys [.long a0_, .long a2_] ([]) (eI ([]) (fX3_isMadeRoom a0_ a2_)) :=
  Con.of (own := RX3) (by decide +kernel) rfl (Nat.le_of_ble_eq_true rfl) (Nat.zero_le _) (fun X A C hR _ => (wX3_isMadeRoom_0 a0_ a2_ C hR  ok rfl))
theorem ms_X3_isMadeRoom : MS_ yX3_isMadeRoom cX3_isMadeRoom 7 (some .boolean) 2 := ⟨ks_X3_isMadeRoom, kn_X3, kc_X3_isMadeRoom, by decide +kernel⟩
def tbX3_reachedByTwo : List (Nat × Instr × Nat) := [(0, .iconst 0, 1), (1, .istore_n 3, 1), (2, .iload_n 3, 1), (3, .getstatic 19, 3), (6, .arraylength, 1), (7, .if_icmp .ge 58, 3), (10, .iload_n 3, 1), (11, .iconst 4, 1), (12, .idiv, 1), (13, .istore 4, 2), (15, .iload_n 2, 1), (16, .getstatic 19, 3), (19, .iload_n 3, 1), (20, .iaload, 1), (21, .isub, 1), (22, .istore 5, 2), (24, .iload 5, 2), (26, .ifCond .lt 33, 3), (29, .getstatic 23, 3), (32, .iload 4, 2), (34, .laload, 1), (35, .iload 5, 2), (37, .invokestatic 36, 3), (40, .ifCond .eq 19, 3), (43, .lload_n 0, 1), (44, .iload 4, 2), (46, .iload 5, 2), (48, .invokestatic 40, 3), (51, .invokestatic 44, 3), (54, .ifCond .eq 5, 3), (57, .iconst 1, 1), (58, .ireturn, 1), (59, .iinc 3 1, 3), (62, .goto (-60), 3), (65, .iconst 0, 1), (66, .ireturn, 1)]
theorem tdX3_reachedByTwo : tbX3_reachedByTwo.all (fun q => decide (decode cX3_reachedByTwo q.1 = .ok q.2)) = true := by decide +kernel
def pX3_reachedByTwo_59 (kR2 : Int32 → Int32) (a0_ : Int64) (a2_ : Int32) (a3_ : Int32) : Int32 := kR2 (a3_ + 1)
def oX3_reachedByTwo_59 (kO2 : Int32 → Prop) (a0_ : Int64) (a2_ : Int32) (a3_ : Int32) : Prop := kO2 (a3_ + 1)
set_option maxHeartbeats 4000000 in
set_option maxRecDepth 100000 in
theorem wX3_reachedByTwo_59 {X : CX} {tys : List (ClassId × FieldType)} {D : va_G} {A : Nat → Prop} {res : Int32} (a0_ : Int64) (a2_ : Int32) (a3_ : Int32) (C : Cx X cX3_reachedByTwo RX3 6 D tys A 3 0 0) (hR : Rt X (some .boolean) D tys A 0 0 (eI ([]) res)) (kR2 : Int32 → Int32) (kO2 : Int32 → Prop) (hk2 : ∀ z, kO2 z → kR2 z = res → At X D A 6 0 0 2 [(0, .long a0_), (2, .int a2_), (3, .int z)] [] (([] : va_W))) (ok : oX3_reachedByTwo_59 kO2 a0_ a2_ a3_) (h : pX3_reachedByTwo_59 kR2 a0_ a2_ a3_ = res) : At X D A 6 0 0 59 [(0, .long a0_), (2, .int a2_), (3, .int a3_)] [] (([] : va_W)) := by
  unfold pX3_reachedByTwo_59 at h
  unfold oX3_reachedByTwo_59 at ok
  refine r_iinc (v := a3_ + 1) (lv' := [(3, .int (a3_ + 1)), (0, .long a0_), (2, .int a2_)]) C 2 (dall tdX3_reachedByTwo 32 rfl) rfl rfl (by decide) rfl ?_
  refine r_goto (tgt := 2) C (dall tdX3_reachedByTwo 33 rfl) (by decide) ?_
  refine r_pick [1, 2, 0] rfl ?_
  exact hk2 (a3_ + 1) ok h
def bX3_reachedByTwo_2 (a0_ : Int64) (a2_ : Int32)  (kR2 : Int32 → Int32) (v : Int32) : Int32 := if 24 ≤ v then 0 else if (a2_ - (tOFF v.toNatClampNeg)) < 0 then pX3_reachedByTwo_59 kR2 a0_ a2_ v else if (fX3_has (tWALL (v / 4).toNatClampNeg) (a2_ - (tOFF v.toNatClampNeg))) = 0 then pX3_reachedByTwo_59 kR2 a0_ a2_ v else if (fX3_isMadeRoom a0_ (fX3_cellsOf (v / 4) (a2_ - (tOFF v.toNatClampNeg)))) = 0 then pX3_reachedByTwo_59 kR2 a0_ a2_ v else 1
def kX3_reachedByTwo_2 (a0_ : Int64) (a2_ : Int32)  (kO2 : Int32 → Prop) (v : Int32) : Prop := (24 ≤ v → True) ∧ (¬ (24 ≤ v) → (vp_in v 24) ∧ (((a2_ - (tOFF v.toNatClampNeg)) < 0 → oX3_reachedByTwo_59 kO2 a0_ a2_ v) ∧ (¬ ((a2_ - (tOFF v.toNatClampNeg)) < 0) → (vp_in (v / 4) 6) ∧ (((fX3_has (tWALL (v / 4).toNatClampNeg) (a2_ - (tOFF v.toNatClampNeg))) = 0 → oX3_reachedByTwo_59 kO2 a0_ a2_ v) ∧ (¬ ((fX3_has (tWALL (v / 4).toNatClampNeg) (a2_ - (tOFF v.toNatClampNeg))) = 0) → (gX3_cellsOf (v / 4) (a2_ - (tOFF v.toNatClampNeg))) ∧ ((gX3_isMadeRoom a0_ (fX3_cellsOf (v / 4) (a2_ - (tOFF v.toNatClampNeg)))) ∧ (((fX3_isMadeRoom a0_ (fX3_cellsOf (v / 4) (a2_ - (tOFF v.toNatClampNeg)))) = 0 → oX3_reachedByTwo_59 kO2 a0_ a2_ v) ∧ (¬ ((fX3_isMadeRoom a0_ (fX3_cellsOf (v / 4) (a2_ - (tOFF v.toNatClampNeg)))) = 0) → True))))))))
set_option maxHeartbeats 4000000 in
set_option maxRecDepth 100000 in
theorem wX3_reachedByTwo_2 {X : CX} {tys : List (ClassId × FieldType)} {D : va_G} {A : Nat → Prop} {res : Int32} (a0_ : Int64) (a2_ : Int32) (C : Cx X cX3_reachedByTwo RX3 6 D tys A 3 0 0) (hR : Rt X (some .boolean) D tys A 0 0 (eI ([]) res)) (kR2 : Int32 → Int32) (kO2 : Int32 → Prop) (hk2 : ∀ z, kO2 z → kR2 z = res → At X D A 6 0 0 2 [(0, .long a0_), (2, .int a2_), (3, .int z)] [] (([] : va_W))) (v : Int32) (ok : kX3_reachedByTwo_2 a0_ a2_ kO2 v) (h : bX3_reachedByTwo_2 a0_ a2_ kR2 v = res) : At X D A 6 0 0 2 [(0, .long a0_), (2, .int a2_), (3, .int v)] [] (([] : va_W)) := by
  unfold bX3_reachedByTwo_2 at h
  unfold kX3_reachedByTwo_2 at ok
  refine r_iload_n C 2 (dall tdX3_reachedByTwo 2 rfl) rfl ?_
  refine rg_OFFSETS C kf_X3_19 (dall tdX3_reachedByTwo 3 rfl) ?_
  refine rl_OFFSETS C (dall tdX3_reachedByTwo 4 rfl) ?_
  refine r_icmp_ge (tgt := 65) C (dall tdX3_reachedByTwo 5 rfl) (by decide) (fun c1 => ?_) (fun c1 => ?_)
  · have h := (if_pos c1).symm.trans h
    have ok := ok.1 c1
    refine r_iconst (v := 0) C (dall tdX3_reachedByTwo 34 rfl) (by decide) ?_
    exact r_zret C (by decide) hR (dall tdX3_reachedByTwo 35 rfl) (by subst h; exact ⟨rfl, rfl⟩)
  · have h := (if_neg c1).symm.trans h
    have ok := ok.2 c1
    refine r_iload_n C 2 (dall tdX3_reachedByTwo 6 rfl) rfl ?_
    refine r_iconst (v := 4) C (dall tdX3_reachedByTwo 7 rfl) (by decide) ?_
    refine r_idiv C (dall tdX3_reachedByTwo 8 rfl) (by decide) ?_
    refine r_istore (lv' := [(4, .int (v / 4)), (0, .long a0_), (2, .int a2_), (3, .int v)]) C (dall tdX3_reachedByTwo 9 rfl) (by decide) rfl ?_
    refine r_iload_n C 2 (dall tdX3_reachedByTwo 10 rfl) rfl ?_
    refine rg_OFFSETS C kf_X3_19 (dall tdX3_reachedByTwo 11 rfl) ?_
    refine r_iload_n C 3 (dall tdX3_reachedByTwo 12 rfl) rfl ?_
    obtain ⟨o2, ok⟩ := ok
    refine rs_OFFSETS C o2 (dall tdX3_reachedByTwo 13 rfl) ?_
    refine r_isub C (dall tdX3_reachedByTwo 14 rfl) ?_
    refine r_istore (lv' := [(5, .int (a2_ - (tOFF v.toNatClampNeg))), (4, .int (v / 4)), (0, .long a0_), (2, .int a2_), (3, .int v)]) C (dall tdX3_reachedByTwo 15 rfl) (by decide) rfl ?_
    refine r_iload C 0 (dall tdX3_reachedByTwo 16 rfl) rfl ?_
    refine r_if_lt (tgt := 59) C (dall tdX3_reachedByTwo 17 rfl) (by decide) (fun c3 => ?_) (fun c3 => ?_)
    · have h := (if_pos c3).symm.trans h
      have ok := ok.1 c3
      refine r_pick [2, 3, 4] rfl ?_
      exact wX3_reachedByTwo_59 a0_ a2_ v C hR kR2 kO2 hk2 ok h
    · have h := (if_neg c3).symm.trans h
      have ok := ok.2 c3
      refine rg_ON_WALL C kf_X3_23 (dall tdX3_reachedByTwo 18 rfl) ?_
      refine r_iload C 1 (dall tdX3_reachedByTwo 19 rfl) rfl ?_
      obtain ⟨o4, ok⟩ := ok
      refine rs_ON_WALL C o4 (dall tdX3_reachedByTwo 20 rfl) ?_
      refine r_iload C 0 (dall tdX3_reachedByTwo 21 rfl) rfl ?_
      refine r_s0I (as := [.long (tWALL (v / 4).toNatClampNeg), .int (a2_ - (tOFF v.toNatClampNeg))]) C (zX3_has (tWALL (v / 4).toNatClampNeg) (a2_ - (tOFF v.toNatClampNeg)) ) ms_X3_has km_X3_36 (by decide) (by decide) ⟨Nat.le_refl _, Nat.le_refl _⟩ rfl rfl (Nat.le_of_ble_eq_true rfl) (dall tdX3_reachedByTwo 22 rfl) ?_
      refine r_if_eq (tgt := 59) C (dall tdX3_reachedByTwo 23 rfl) (by decide) (fun c5 => ?_) (fun c5 => ?_)
      · have h := (if_pos c5).symm.trans h
        have ok := ok.1 c5
        refine r_pick [2, 3, 4] rfl ?_
        exact wX3_reachedByTwo_59 a0_ a2_ v C hR kR2 kO2 hk2 ok h
      · have h := (if_neg c5).symm.trans h
        have ok := ok.2 c5
        refine r_lload_n C 2 (dall tdX3_reachedByTwo 24 rfl) rfl ?_
        refine r_iload C 1 (dall tdX3_reachedByTwo 25 rfl) rfl ?_
        refine r_iload C 0 (dall tdX3_reachedByTwo 26 rfl) rfl ?_
        obtain ⟨o6, ok⟩ := ok
        refine r_s0L (as := [.int (v / 4), .int (a2_ - (tOFF v.toNatClampNeg))]) C (zX3_cellsOf (v / 4) (a2_ - (tOFF v.toNatClampNeg)) o6) ms_X3_cellsOf km_X3_40 (by decide) (by decide) ⟨Nat.le_refl _, Nat.le_refl _⟩ rfl rfl (Nat.le_of_ble_eq_true rfl) (dall tdX3_reachedByTwo 27 rfl) ?_
        obtain ⟨o7, ok⟩ := ok
        refine r_s0I (as := [.long a0_, .long (fX3_cellsOf (v / 4) (a2_ - (tOFF v.toNatClampNeg)))]) C (zX3_isMadeRoom a0_ (fX3_cellsOf (v / 4) (a2_ - (tOFF v.toNatClampNeg))) o7) ms_X3_isMadeRoom km_X3_44 (by decide) (by decide) ⟨Nat.le_refl _, Nat.le_refl _⟩ rfl rfl (Nat.le_of_ble_eq_true rfl) (dall tdX3_reachedByTwo 28 rfl) ?_
        refine r_if_eq (tgt := 59) C (dall tdX3_reachedByTwo 29 rfl) (by decide) (fun c8 => ?_) (fun c8 => ?_)
        · have h := (if_pos c8).symm.trans h
          have ok := ok.1 c8
          refine r_pick [2, 3, 4] rfl ?_
          exact wX3_reachedByTwo_59 a0_ a2_ v C hR kR2 kO2 hk2 ok h
        · have h := (if_neg c8).symm.trans h
          have ok := ok.2 c8
          refine r_iconst (v := 1) C (dall tdX3_reachedByTwo 30 rfl) (by decide) ?_
          exact r_zret C (by decide) hR (dall tdX3_reachedByTwo 31 rfl) (by subst h; exact ⟨rfl, rfl⟩)
set_option maxHeartbeats 4000000 in
set_option maxRecDepth 100000 in
theorem lX3_reachedByTwo_2 {X : CX} {tys : List (ClassId × FieldType)} {D : va_G} {A : Nat → Prop} {res : Int32} (a0_ : Int64) (a2_ : Int32) (C : Cx X cX3_reachedByTwo RX3 6 D tys A 3 0 0) (hR : Rt X (some .boolean) D tys A 0 0 (eI ([]) res))  (n : Nat) (v : Int32) (ok : lpOk (kX3_reachedByTwo_2 a0_ a2_ ) n v) (h : lp 0 (bX3_reachedByTwo_2 a0_ a2_ ) n v = res) : At X D A 6 0 0 2 [(0, .long a0_), (2, .int a2_), (3, .int v)] [] (([] : va_W)) :=
  lp_rule (fun v rr_ => rr_ = res → At X D A 6 0 0 2 [(0, .long a0_), (2, .int a2_), (3, .int v)] [] (([] : va_W))) (fun kR kO hk v ok h => wX3_reachedByTwo_2 a0_ a2_ C hR  kR kO hk v ok h) n v ok h
def pX3_reachedByTwo_0  (a0_ : Int64) (a2_ : Int32) : Int32 := lp 0 (bX3_reachedByTwo_2 a0_ a2_ ) fu 0
def oX3_reachedByTwo_0  (a0_ : Int64) (a2_ : Int32) : Prop := lpOk (kX3_reachedByTwo_2 a0_ a2_ ) fu 0
set_option maxHeartbeats 4000000 in
set_option maxRecDepth 100000 in
theorem wX3_reachedByTwo_0 {X : CX} {tys : List (ClassId × FieldType)} {D : va_G} {A : Nat → Prop} {res : Int32} (a0_ : Int64) (a2_ : Int32) (C : Cx X cX3_reachedByTwo RX3 6 D tys A 3 0 0) (hR : Rt X (some .boolean) D tys A 0 0 (eI ([]) res))  (ok : oX3_reachedByTwo_0  a0_ a2_) (h : pX3_reachedByTwo_0  a0_ a2_ = res) : At X D A 6 0 0 0 [(0, .long a0_), (2, .int a2_)] [] (([] : va_W)) := by
  unfold pX3_reachedByTwo_0 at h
  unfold oX3_reachedByTwo_0 at ok
  refine r_iconst (v := 0) C (dall tdX3_reachedByTwo 0 rfl) (by decide) ?_
  refine r_istore_n (lv' := [(3, .int 0), (0, .long a0_), (2, .int a2_)]) C (dall tdX3_reachedByTwo 1 rfl) (by decide) rfl ?_
  refine r_pick [1, 2, 0] rfl ?_
  exact lX3_reachedByTwo_2 a0_ a2_ C hR  fu _ ok h
def fX3_reachedByTwo (a0_ : Int64) (a2_ : Int32) : Int32 := pX3_reachedByTwo_0  a0_ a2_
def gX3_reachedByTwo (a0_ : Int64) (a2_ : Int32) : Prop := oX3_reachedByTwo_0  a0_ a2_
set_option maxRecDepth 100000 in
theorem zX3_reachedByTwo  {D : va_G} (a0_ : Int64) (a2_ : Int32) (ok : gX3_reachedByTwo a0_ a2_)  {tys : List (ClassId × FieldType)} : Con yX3_reachedByTwo cX3_reachedByTwo 6 (some .boolean) 3 0 0 D tys [.long a0_, .int a2_] ([]) (eI ([]) (fX3_reachedByTwo a0_ a2_)) :=
  Con.of (own := RX3) (by decide +kernel) rfl (Nat.le_of_ble_eq_true rfl) (Nat.zero_le _) (fun X A C hR _ => (wX3_reachedByTwo_0 a0_ a2_ C hR  ok rfl))
theorem ms_X3_reachedByTwo : MS_ yX3_reachedByTwo cX3_reachedByTwo 6 (some .boolean) 2 := ⟨ks_X3_reachedByTwo, kn_X3, kc_X3_reachedByTwo, by decide +kernel⟩
def tbX5_within : List (Nat × Instr × Nat) := [(0, .iload_n 0, 1), (1, .ifCond .lt 12, 3), (4, .iload_n 0, 1), (5, .iload_n 1, 1), (6, .if_icmp .gt 7, 3), (9, .iconst 1, 1), (10, .goto 4, 3), (13, .iconst 0, 1), (14, .ireturn, 1)]
theorem tdX5_within : tbX5_within.all (fun q => decide (decode cX5_within q.1 = .ok q.2)) = true := by decide +kernel
def pX5_within_0  (a0_ : Int32) (a1_ : Int32) : Int32 := if a0_ < 0 then 0 else if a1_ < a0_ then 0 else 1
set_option maxHeartbeats 4000000 in
set_option maxRecDepth 100000 in
theorem wX5_within_0 {X : CX} {tys : List (ClassId × FieldType)} {D : va_G} {A : Nat → Prop} {res : Int32} (a0_ : Int32) (a1_ : Int32) (C : Cx X cX5_within RX5 2 D tys A 0 0 0) (hR : Rt X (some .boolean) D tys A 0 0 (eI ([]) res))  (h : pX5_within_0  a0_ a1_ = res) : At X D A 2 0 0 0 [(0, .int a0_), (1, .int a1_)] [] (([] : va_W)) := by
  unfold pX5_within_0 at h
  refine r_iload_n C 0 (dall tdX5_within 0 rfl) rfl ?_
  refine r_if_lt (tgt := 13) C (dall tdX5_within 1 rfl) (by decide) (fun c1 => ?_) (fun c1 => ?_)
  · have h := (if_pos c1).symm.trans h
    refine r_iconst (v := 0) C (dall tdX5_within 7 rfl) (by decide) ?_
    exact r_zret C (by decide) hR (dall tdX5_within 8 rfl) (by subst h; exact ⟨rfl, rfl⟩)
  · have h := (if_neg c1).symm.trans h
    refine r_iload_n C 0 (dall tdX5_within 2 rfl) rfl ?_
    refine r_iload_n C 1 (dall tdX5_within 3 rfl) rfl ?_
    refine r_icmp_gt (tgt := 13) C (dall tdX5_within 4 rfl) (by decide) (fun c2 => ?_) (fun c2 => ?_)
    · have h := (if_pos c2).symm.trans h
      refine r_iconst (v := 0) C (dall tdX5_within 7 rfl) (by decide) ?_
      exact r_zret C (by decide) hR (dall tdX5_within 8 rfl) (by subst h; exact ⟨rfl, rfl⟩)
    · have h := (if_neg c2).symm.trans h
      refine r_iconst (v := 1) C (dall tdX5_within 5 rfl) (by decide) ?_
      refine r_goto (tgt := 14) C (dall tdX5_within 6 rfl) (by decide) ?_
      exact r_zret C (by decide) hR (dall tdX5_within 8 rfl) (by subst h; exact ⟨rfl, rfl⟩)
def fX5_within (a0_ : Int32) (a1_ : Int32) : Int32 := pX5_within_0  a0_ a1_
set_option maxRecDepth 100000 in
theorem zX5_within  {D : va_G} (a0_ : Int32) (a1_ : Int32)  {tys : List (ClassId × FieldType)} : Con yX5_within cX5_within 2 (some .boolean) 0 0 0 D tys [.int a0_, .int a1_] ([]) (eI ([]) (fX5_within a0_ a1_)) :=
  Con.of (own := RX5) (by decide +kernel) rfl (Nat.le_of_ble_eq_true rfl) (Nat.zero_le _) (fun X A C hR _ => (wX5_within_0 a0_ a1_ C hR  rfl))
theorem ms_X5_within : MS_ yX5_within cX5_within 2 (some .boolean) 2 := ⟨ks_X5_within, kn_X5, kc_X5_within, by decide +kernel⟩
def tbX5_isCell : List (Nat × Instr × Nat) := [(0, .iload_n 0, 1), (1, .bipush 63, 2), (3, .invokestatic 74, 3), (6, .ireturn, 1)]
theorem tdX5_isCell : tbX5_isCell.all (fun q => decide (decode cX5_isCell q.1 = .ok q.2)) = true := by decide +kernel
def pX5_isCell_0  (a0_ : Int32) : Int32 := fX5_within a0_ 63
def oX5_isCell_0  (a0_ : Int32) : Prop := narrow .boolean (.int (fX5_within a0_ 63)) = .int (fX5_within a0_ 63)
set_option maxHeartbeats 4000000 in
set_option maxRecDepth 100000 in
theorem wX5_isCell_0 {X : CX} {tys : List (ClassId × FieldType)} {D : va_G} {A : Nat → Prop} {res : Int32} (a0_ : Int32) (C : Cx X cX5_isCell RX5 1 D tys A 1 0 0) (hR : Rt X (some .boolean) D tys A 0 0 (eI ([]) res))  (ok : oX5_isCell_0  a0_) (h : pX5_isCell_0  a0_ = res) : At X D A 1 0 0 0 [(0, .int a0_)] [] (([] : va_W)) := by
  unfold pX5_isCell_0 at h
  unfold oX5_isCell_0 at ok
  refine r_iload_n C 0 (dall tdX5_isCell 0 rfl) rfl ?_
  refine r_bipush (v := 63) C (dall tdX5_isCell 1 rfl) (by decide) ?_
  refine r_s0I (as := [.int a0_, .int 63]) C (zX5_within a0_ 63 ) ms_X5_within km_X5_74 (by decide) (by decide) ⟨Nat.le_refl _, Nat.le_refl _⟩ rfl rfl (Nat.le_of_ble_eq_true rfl) (dall tdX5_isCell 2 rfl) ?_
  have o1 := ok
  exact r_zret C o1 hR (dall tdX5_isCell 3 rfl) (by subst h; exact ⟨rfl, rfl⟩)
def fX5_isCell (a0_ : Int32) : Int32 := pX5_isCell_0  a0_
def gX5_isCell (a0_ : Int32) : Prop := oX5_isCell_0  a0_
set_option maxRecDepth 100000 in
theorem zX5_isCell  {D : va_G} (a0_ : Int32) (ok : gX5_isCell a0_)  {tys : List (ClassId × FieldType)} : Con yX5_isCell cX5_isCell 1 (some .boolean) 1 0 0 D tys [.int a0_] ([]) (eI ([]) (fX5_isCell a0_)) :=
  Con.of (own := RX5) (by decide +kernel) rfl (Nat.le_of_ble_eq_true rfl) (Nat.zero_le _) (fun X A C hR _ => (wX5_isCell_0 a0_ C hR  ok rfl))
theorem ms_X5_isCell : MS_ yX5_isCell cX5_isCell 1 (some .boolean) 1 := ⟨ks_X5_isCell, kn_X5, kc_X5_isCell, by decide +kernel⟩
def tbX5_isKind : List (Nat × Instr × Nat) := [(0, .iload_n 0, 1), (1, .iconst 5, 1), (2, .invokestatic 74, 3), (5, .ireturn, 1)]
theorem tdX5_isKind : tbX5_isKind.all (fun q => decide (decode cX5_isKind q.1 = .ok q.2)) = true := by decide +kernel
def pX5_isKind_0  (a0_ : Int32) : Int32 := fX5_within a0_ 5
def oX5_isKind_0  (a0_ : Int32) : Prop := narrow .boolean (.int (fX5_within a0_ 5)) = .int (fX5_within a0_ 5)
set_option maxHeartbeats 4000000 in
set_option maxRecDepth 100000 in
theorem wX5_isKind_0 {X : CX} {tys : List (ClassId × FieldType)} {D : va_G} {A : Nat → Prop} {res : Int32} (a0_ : Int32) (C : Cx X cX5_isKind RX5 1 D tys A 1 0 0) (hR : Rt X (some .boolean) D tys A 0 0 (eI ([]) res))  (ok : oX5_isKind_0  a0_) (h : pX5_isKind_0  a0_ = res) : At X D A 1 0 0 0 [(0, .int a0_)] [] (([] : va_W)) := by
  unfold pX5_isKind_0 at h
  unfold oX5_isKind_0 at ok
  refine r_iload_n C 0 (dall tdX5_isKind 0 rfl) rfl ?_
  refine r_iconst (v := 5) C (dall tdX5_isKind 1 rfl) (by decide) ?_
  refine r_s0I (as := [.int a0_, .int 5]) C (zX5_within a0_ 5 ) ms_X5_within km_X5_74 (by decide) (by decide) ⟨Nat.le_refl _, Nat.le_refl _⟩ rfl rfl (Nat.le_of_ble_eq_true rfl) (dall tdX5_isKind 2 rfl) ?_
  have o1 := ok
  exact r_zret C o1 hR (dall tdX5_isKind 3 rfl) (by subst h; exact ⟨rfl, rfl⟩)
def fX5_isKind (a0_ : Int32) : Int32 := pX5_isKind_0  a0_
def gX5_isKind (a0_ : Int32) : Prop := oX5_isKind_0  a0_
set_option maxRecDepth 100000 in
theorem zX5_isKind  {D : va_G} (a0_ : Int32) (ok : gX5_isKind a0_)  {tys : List (ClassId × FieldType)} : Con yX5_isKind cX5_isKind 1 (some .boolean) 1 0 0 D tys [.int a0_] ([]) (eI ([]) (fX5_isKind a0_)) :=
  Con.of (own := RX5) (by decide +kernel) rfl (Nat.le_of_ble_eq_true rfl) (Nat.zero_le _) (fun X A C hR _ => (wX5_isKind_0 a0_ C hR  ok rfl))
theorem ms_X5_isKind : MS_ yX5_isKind cX5_isKind 1 (some .boolean) 1 := ⟨ks_X5_isKind, kn_X5, kc_X5_isKind, by decide +kernel⟩
def tbX5_isPart : List (Nat × Instr × Nat) := [(0, .iload_n 0, 1), (1, .iconst 5, 1), (2, .invokestatic 74, 3), (5, .ireturn, 1)]
theorem tdX5_isPart : tbX5_isPart.all (fun q => decide (decode cX5_isPart q.1 = .ok q.2)) = true := by decide +kernel
def pX5_isPart_0  (a0_ : Int32) : Int32 := fX5_within a0_ 5
def oX5_isPart_0  (a0_ : Int32) : Prop := narrow .boolean (.int (fX5_within a0_ 5)) = .int (fX5_within a0_ 5)
set_option maxHeartbeats 4000000 in
set_option maxRecDepth 100000 in
theorem wX5_isPart_0 {X : CX} {tys : List (ClassId × FieldType)} {D : va_G} {A : Nat → Prop} {res : Int32} (a0_ : Int32) (C : Cx X cX5_isPart RX5 1 D tys A 1 0 0) (hR : Rt X (some .boolean) D tys A 0 0 (eI ([]) res))  (ok : oX5_isPart_0  a0_) (h : pX5_isPart_0  a0_ = res) : At X D A 1 0 0 0 [(0, .int a0_)] [] (([] : va_W)) := by
  unfold pX5_isPart_0 at h
  unfold oX5_isPart_0 at ok
  refine r_iload_n C 0 (dall tdX5_isPart 0 rfl) rfl ?_
  refine r_iconst (v := 5) C (dall tdX5_isPart 1 rfl) (by decide) ?_
  refine r_s0I (as := [.int a0_, .int 5]) C (zX5_within a0_ 5 ) ms_X5_within km_X5_74 (by decide) (by decide) ⟨Nat.le_refl _, Nat.le_refl _⟩ rfl rfl (Nat.le_of_ble_eq_true rfl) (dall tdX5_isPart 2 rfl) ?_
  have o1 := ok
  exact r_zret C o1 hR (dall tdX5_isPart 3 rfl) (by subst h; exact ⟨rfl, rfl⟩)
def fX5_isPart (a0_ : Int32) : Int32 := pX5_isPart_0  a0_
def gX5_isPart (a0_ : Int32) : Prop := oX5_isPart_0  a0_
set_option maxRecDepth 100000 in
theorem zX5_isPart  {D : va_G} (a0_ : Int32) (ok : gX5_isPart a0_)  {tys : List (ClassId × FieldType)} : Con yX5_isPart cX5_isPart 1 (some .boolean) 1 0 0 D tys [.int a0_] ([]) (eI ([]) (fX5_isPart a0_)) :=
  Con.of (own := RX5) (by decide +kernel) rfl (Nat.le_of_ble_eq_true rfl) (Nat.zero_le _) (fun X A C hR _ => (wX5_isPart_0 a0_ C hR  ok rfl))
theorem ms_X5_isPart : MS_ yX5_isPart cX5_isPart 1 (some .boolean) 1 := ⟨ks_X5_isPart, kn_X5, kc_X5_isPart, by decide +kernel⟩
def tbX5_isSheet : List (Nat × Instr × Nat) := [(0, .iload_n 0, 1), (1, .iconst 3, 1), (2, .invokestatic 74, 3), (5, .ireturn, 1)]
theorem tdX5_isSheet : tbX5_isSheet.all (fun q => decide (decode cX5_isSheet q.1 = .ok q.2)) = true := by decide +kernel
def pX5_isSheet_0  (a0_ : Int32) : Int32 := fX5_within a0_ 3
def oX5_isSheet_0  (a0_ : Int32) : Prop := narrow .boolean (.int (fX5_within a0_ 3)) = .int (fX5_within a0_ 3)
set_option maxHeartbeats 4000000 in
set_option maxRecDepth 100000 in
theorem wX5_isSheet_0 {X : CX} {tys : List (ClassId × FieldType)} {D : va_G} {A : Nat → Prop} {res : Int32} (a0_ : Int32) (C : Cx X cX5_isSheet RX5 1 D tys A 1 0 0) (hR : Rt X (some .boolean) D tys A 0 0 (eI ([]) res))  (ok : oX5_isSheet_0  a0_) (h : pX5_isSheet_0  a0_ = res) : At X D A 1 0 0 0 [(0, .int a0_)] [] (([] : va_W)) := by
  unfold pX5_isSheet_0 at h
  unfold oX5_isSheet_0 at ok
  refine r_iload_n C 0 (dall tdX5_isSheet 0 rfl) rfl ?_
  refine r_iconst (v := 3) C (dall tdX5_isSheet 1 rfl) (by decide) ?_
  refine r_s0I (as := [.int a0_, .int 3]) C (zX5_within a0_ 3 ) ms_X5_within km_X5_74 (by decide) (by decide) ⟨Nat.le_refl _, Nat.le_refl _⟩ rfl rfl (Nat.le_of_ble_eq_true rfl) (dall tdX5_isSheet 2 rfl) ?_
  have o1 := ok
  exact r_zret C o1 hR (dall tdX5_isSheet 3 rfl) (by subst h; exact ⟨rfl, rfl⟩)
def fX5_isSheet (a0_ : Int32) : Int32 := pX5_isSheet_0  a0_
def gX5_isSheet (a0_ : Int32) : Prop := oX5_isSheet_0  a0_
set_option maxRecDepth 100000 in
theorem zX5_isSheet  {D : va_G} (a0_ : Int32) (ok : gX5_isSheet a0_)  {tys : List (ClassId × FieldType)} : Con yX5_isSheet cX5_isSheet 1 (some .boolean) 1 0 0 D tys [.int a0_] ([]) (eI ([]) (fX5_isSheet a0_)) :=
  Con.of (own := RX5) (by decide +kernel) rfl (Nat.le_of_ble_eq_true rfl) (Nat.zero_le _) (fun X A C hR _ => (wX5_isSheet_0 a0_ C hR  ok rfl))
theorem ms_X5_isSheet : MS_ yX5_isSheet cX5_isSheet 1 (some .boolean) 1 := ⟨ks_X5_isSheet, kn_X5, kc_X5_isSheet, by decide +kernel⟩
def tbX5_isUnder : List (Nat × Instr × Nat) := [(0, .iload_n 0, 1), (1, .istore_n 2, 1), (2, .iconst 0, 1), (3, .istore_n 3, 1), (4, .iload_n 3, 1), (5, .bipush 6, 2), (7, .if_icmp .ge 29, 3), (10, .iload_n 2, 1), (11, .invokestatic 70, 3), (14, .ifCond .eq 22, 3), (17, .iload_n 2, 1), (18, .iload_n 1, 1), (19, .if_icmp .ne 5, 3), (22, .iconst 1, 1), (23, .ireturn, 1), (24, .getstatic 249, 3), (27, .iload_n 2, 1), (28, .iaload, 1), (29, .istore_n 2, 1), (30, .iinc 3 1, 3), (33, .goto (-29), 3), (36, .iconst 0, 1), (37, .ireturn, 1)]
theorem tdX5_isUnder : tbX5_isUnder.all (fun q => decide (decode cX5_isUnder q.1 = .ok q.2)) = true := by decide +kernel
def bX5_isUnder_4 (a1_ : Int32)  (kR4 : Int32 × Int32 → Int32) (v : Int32 × Int32) : Int32 := if 6 ≤ v.2 then 0 else if (fX5_isKind v.1) = 0 then 0 else if v.1 = a1_ then 1 else kR4 (tKIND v.1.toNatClampNeg, v.2 + 1)
def kX5_isUnder_4 (a1_ : Int32)  (kO4 : Int32 × Int32 → Prop) (v : Int32 × Int32) : Prop := (6 ≤ v.2 → True) ∧ (¬ (6 ≤ v.2) → (gX5_isKind v.1) ∧ (((fX5_isKind v.1) = 0 → True) ∧ (¬ ((fX5_isKind v.1) = 0) → (v.1 = a1_ → True) ∧ (¬ (v.1 = a1_) → (vp_in v.1 6) ∧ (kO4 (tKIND v.1.toNatClampNeg, v.2 + 1))))))
set_option maxHeartbeats 4000000 in
set_option maxRecDepth 100000 in
theorem wX5_isUnder_4 {X : CX} {tys : List (ClassId × FieldType)} {D : va_G} {A : Nat → Prop} {res : Int32} (a1_ : Int32) (C : Cx X cX5_isUnder RX5 4 D tys A 2 0 0) (hR : Rt X (some .boolean) D tys A 0 0 (eI ([]) res)) (kR4 : Int32 × Int32 → Int32) (kO4 : Int32 × Int32 → Prop) (hk4 : ∀ z, kO4 z → kR4 z = res → At X D A 4 0 0 4 [(1, .int a1_), (2, .int z.1), (3, .int z.2)] [] (([] : va_W))) (v : Int32 × Int32) (ok : kX5_isUnder_4 a1_ kO4 v) (h : bX5_isUnder_4 a1_ kR4 v = res) : At X D A 4 0 0 4 [(1, .int a1_), (2, .int v.1), (3, .int v.2)] [] (([] : va_W)) := by
  unfold bX5_isUnder_4 at h
  unfold kX5_isUnder_4 at ok
  refine r_iload_n C 2 (dall tdX5_isUnder 4 rfl) rfl ?_
  refine r_bipush (v := 6) C (dall tdX5_isUnder 5 rfl) (by decide) ?_
  refine r_icmp_ge (tgt := 36) C (dall tdX5_isUnder 6 rfl) (by decide) (fun c1 => ?_) (fun c1 => ?_)
  · have h := (if_pos c1).symm.trans h
    have ok := ok.1 c1
    refine r_iconst (v := 0) C (dall tdX5_isUnder 21 rfl) (by decide) ?_
    exact r_zret C (by decide) hR (dall tdX5_isUnder 22 rfl) (by subst h; exact ⟨rfl, rfl⟩)
  · have h := (if_neg c1).symm.trans h
    have ok := ok.2 c1
    refine r_iload_n C 1 (dall tdX5_isUnder 7 rfl) rfl ?_
    obtain ⟨o2, ok⟩ := ok
    refine r_s0I (as := [.int v.1]) C (zX5_isKind v.1 o2) ms_X5_isKind km_X5_70 (by decide) (by decide) ⟨Nat.le_refl _, Nat.le_refl _⟩ rfl rfl (Nat.le_of_ble_eq_true rfl) (dall tdX5_isUnder 8 rfl) ?_
    refine r_if_eq (tgt := 36) C (dall tdX5_isUnder 9 rfl) (by decide) (fun c3 => ?_) (fun c3 => ?_)
    · have h := (if_pos c3).symm.trans h
      have ok := ok.1 c3
      refine r_iconst (v := 0) C (dall tdX5_isUnder 21 rfl) (by decide) ?_
      exact r_zret C (by decide) hR (dall tdX5_isUnder 22 rfl) (by subst h; exact ⟨rfl, rfl⟩)
    · have h := (if_neg c3).symm.trans h
      have ok := ok.2 c3
      refine r_iload_n C 1 (dall tdX5_isUnder 10 rfl) rfl ?_
      refine r_iload_n C 0 (dall tdX5_isUnder 11 rfl) rfl ?_
      refine r_icmp_ne (tgt := 24) C (dall tdX5_isUnder 12 rfl) (by decide) (fun c4 => ?_) (fun c4 => ?_)
      · have h := (if_neg c4).symm.trans h
        have ok := ok.2 c4
        refine rg_KIND_ABOVE C kf_X5_249 (dall tdX5_isUnder 15 rfl) ?_
        refine r_iload_n C 1 (dall tdX5_isUnder 16 rfl) rfl ?_
        obtain ⟨o5, ok⟩ := ok
        refine rs_KIND_ABOVE C o5 (dall tdX5_isUnder 17 rfl) ?_
        refine r_istore_n (lv' := [(2, .int (tKIND v.1.toNatClampNeg)), (1, .int a1_), (3, .int v.2)]) C (dall tdX5_isUnder 18 rfl) (by decide) rfl ?_
        refine r_iinc (v := v.2 + 1) (lv' := [(3, .int (v.2 + 1)), (2, .int (tKIND v.1.toNatClampNeg)), (1, .int a1_)]) C 2 (dall tdX5_isUnder 19 rfl) rfl rfl (by decide) rfl ?_
        refine r_goto (tgt := 4) C (dall tdX5_isUnder 20 rfl) (by decide) ?_
        refine r_pick [2, 1, 0] rfl ?_
        exact hk4 (tKIND v.1.toNatClampNeg, v.2 + 1) ok h
      · have h := (if_pos c4).symm.trans h
        have ok := ok.1 c4
        refine r_iconst (v := 1) C (dall tdX5_isUnder 13 rfl) (by decide) ?_
        exact r_zret C (by decide) hR (dall tdX5_isUnder 14 rfl) (by subst h; exact ⟨rfl, rfl⟩)
set_option maxHeartbeats 4000000 in
set_option maxRecDepth 100000 in
theorem lX5_isUnder_4 {X : CX} {tys : List (ClassId × FieldType)} {D : va_G} {A : Nat → Prop} {res : Int32} (a1_ : Int32) (C : Cx X cX5_isUnder RX5 4 D tys A 2 0 0) (hR : Rt X (some .boolean) D tys A 0 0 (eI ([]) res))  (n : Nat) (v : Int32 × Int32) (ok : lpOk (kX5_isUnder_4 a1_ ) n v) (h : lp 0 (bX5_isUnder_4 a1_ ) n v = res) : At X D A 4 0 0 4 [(1, .int a1_), (2, .int v.1), (3, .int v.2)] [] (([] : va_W)) :=
  lp_rule (fun v rr_ => rr_ = res → At X D A 4 0 0 4 [(1, .int a1_), (2, .int v.1), (3, .int v.2)] [] (([] : va_W))) (fun kR kO hk v ok h => wX5_isUnder_4 a1_ C hR  kR kO hk v ok h) n v ok h
def pX5_isUnder_0  (a0_ : Int32) (a1_ : Int32) : Int32 := lp 0 (bX5_isUnder_4 a1_ ) fu (a0_, 0)
def oX5_isUnder_0  (a0_ : Int32) (a1_ : Int32) : Prop := lpOk (kX5_isUnder_4 a1_ ) fu (a0_, 0)
set_option maxHeartbeats 4000000 in
set_option maxRecDepth 100000 in
theorem wX5_isUnder_0 {X : CX} {tys : List (ClassId × FieldType)} {D : va_G} {A : Nat → Prop} {res : Int32} (a0_ : Int32) (a1_ : Int32) (C : Cx X cX5_isUnder RX5 4 D tys A 2 0 0) (hR : Rt X (some .boolean) D tys A 0 0 (eI ([]) res))  (ok : oX5_isUnder_0  a0_ a1_) (h : pX5_isUnder_0  a0_ a1_ = res) : At X D A 4 0 0 0 [(0, .int a0_), (1, .int a1_)] [] (([] : va_W)) := by
  unfold pX5_isUnder_0 at h
  unfold oX5_isUnder_0 at ok
  refine r_iload_n C 0 (dall tdX5_isUnder 0 rfl) rfl ?_
  refine r_istore_n (lv' := [(2, .int a0_), (0, .int a0_), (1, .int a1_)]) C (dall tdX5_isUnder 1 rfl) (by decide) rfl ?_
  refine r_iconst (v := 0) C (dall tdX5_isUnder 2 rfl) (by decide) ?_
  refine r_istore_n (lv' := [(3, .int 0), (2, .int a0_), (0, .int a0_), (1, .int a1_)]) C (dall tdX5_isUnder 3 rfl) (by decide) rfl ?_
  refine r_pick [3, 1, 0] rfl ?_
  exact lX5_isUnder_4 a1_ C hR  fu _ ok h
def fX5_isUnder (a0_ : Int32) (a1_ : Int32) : Int32 := pX5_isUnder_0  a0_ a1_
def gX5_isUnder (a0_ : Int32) (a1_ : Int32) : Prop := oX5_isUnder_0  a0_ a1_
set_option maxRecDepth 100000 in
theorem zX5_isUnder  {D : va_G} (a0_ : Int32) (a1_ : Int32) (ok : gX5_isUnder a0_ a1_)  {tys : List (ClassId × FieldType)} : Con yX5_isUnder cX5_isUnder 4 (some .boolean) 2 0 0 D tys [.int a0_, .int a1_] ([]) (eI ([]) (fX5_isUnder a0_ a1_)) :=
  Con.of (own := RX5) (by decide +kernel) rfl (Nat.le_of_ble_eq_true rfl) (Nat.zero_le _) (fun X A C hR _ => (wX5_isUnder_0 a0_ a1_ C hR  ok rfl))
theorem ms_X5_isUnder : MS_ yX5_isUnder cX5_isUnder 4 (some .boolean) 2 := ⟨ks_X5_isUnder, kn_X5, kc_X5_isUnder, by decide +kernel⟩
def tbX5_lowest : List (Nat × Instr × Nat) := [(0, .iload_n 2, 1), (1, .ifCond .ne 7, 3), (4, .iload_n 0, 1), (5, .goto 4, 3), (8, .iload_n 1, 1), (9, .istore_n 3, 1), (10, .iload_n 1, 1), (11, .istore 4, 2), (13, .iload 4, 2), (15, .iconst 1, 1), (16, .if_icmp .le 28, 3), (19, .iload_n 0, 1), (20, .iload 4, 2), (22, .irem, 1), (23, .ifCond .ne 15, 3), (26, .iload_n 1, 1), (27, .iload 4, 2), (29, .irem, 1), (30, .ifCond .ne 8, 3), (33, .iload_n 3, 1), (34, .iload 4, 2), (36, .idiv, 1), (37, .ireturn, 1), (38, .iinc 4 (-1), 3), (41, .goto (-28), 3), (44, .iload_n 3, 1), (45, .ireturn, 1)]
theorem tdX5_lowest : tbX5_lowest.all (fun q => decide (decode cX5_lowest q.1 = .ok q.2)) = true := by decide +kernel
def pX5_lowest_38 (kR13 : Int32 → Int32) (a0_ : Int32) (a1_ : Int32) (a3_ : Int32) (a4_ : Int32) : Int32 := kR13 (a4_ + (-1))
def oX5_lowest_38 (kO13 : Int32 → Prop) (a0_ : Int32) (a1_ : Int32) (a3_ : Int32) (a4_ : Int32) : Prop := kO13 (a4_ + (-1))
set_option maxHeartbeats 4000000 in
set_option maxRecDepth 100000 in
theorem wX5_lowest_38 {X : CX} {tys : List (ClassId × FieldType)} {D : va_G} {A : Nat → Prop} {res : Int32} (a0_ : Int32) (a1_ : Int32) (a3_ : Int32) (a4_ : Int32) (C : Cx X cX5_lowest RX5 5 D tys A 0 0 0) (hR : Rt X (some .int) D tys A 0 0 (eI ([]) res)) (kR13 : Int32 → Int32) (kO13 : Int32 → Prop) (hk13 : ∀ z, kO13 z → kR13 z = res → At X D A 5 0 0 13 [(0, .int a0_), (1, .int a1_), (3, .int a3_), (4, .int z)] [] (([] : va_W))) (ok : oX5_lowest_38 kO13 a0_ a1_ a3_ a4_) (h : pX5_lowest_38 kR13 a0_ a1_ a3_ a4_ = res) : At X D A 5 0 0 38 [(0, .int a0_), (1, .int a1_), (3, .int a3_), (4, .int a4_)] [] (([] : va_W)) := by
  unfold pX5_lowest_38 at h
  unfold oX5_lowest_38 at ok
  refine r_iinc (v := a4_ + (-1)) (lv' := [(4, .int (a4_ + (-1))), (0, .int a0_), (1, .int a1_), (3, .int a3_)]) C 3 (dall tdX5_lowest 23 rfl) rfl rfl (by decide) rfl ?_
  refine r_goto (tgt := 13) C (dall tdX5_lowest 24 rfl) (by decide) ?_
  refine r_pick [1, 2, 3, 0] rfl ?_
  exact hk13 (a4_ + (-1)) ok h
def bX5_lowest_13 (a0_ : Int32) (a1_ : Int32) (a3_ : Int32)  (kR13 : Int32 → Int32) (v : Int32) : Int32 := if v ≤ 1 then a3_ else if (a0_ - a0_ / v * v) = 0 then if (a1_ - a1_ / v * v) = 0 then a3_ / v else pX5_lowest_38 kR13 a0_ a1_ a3_ v else pX5_lowest_38 kR13 a0_ a1_ a3_ v
def kX5_lowest_13 (a0_ : Int32) (a1_ : Int32) (a3_ : Int32)  (kO13 : Int32 → Prop) (v : Int32) : Prop := (v ≤ 1 → True) ∧ (¬ (v ≤ 1) → (¬ v = 0) ∧ (((a0_ - a0_ / v * v) = 0 → (¬ v = 0) ∧ (((a1_ - a1_ / v * v) = 0 → ¬ v = 0) ∧ (¬ ((a1_ - a1_ / v * v) = 0) → oX5_lowest_38 kO13 a0_ a1_ a3_ v))) ∧ (¬ ((a0_ - a0_ / v * v) = 0) → oX5_lowest_38 kO13 a0_ a1_ a3_ v)))
set_option maxHeartbeats 4000000 in
set_option maxRecDepth 100000 in
theorem wX5_lowest_13 {X : CX} {tys : List (ClassId × FieldType)} {D : va_G} {A : Nat → Prop} {res : Int32} (a0_ : Int32) (a1_ : Int32) (a3_ : Int32) (C : Cx X cX5_lowest RX5 5 D tys A 0 0 0) (hR : Rt X (some .int) D tys A 0 0 (eI ([]) res)) (kR13 : Int32 → Int32) (kO13 : Int32 → Prop) (hk13 : ∀ z, kO13 z → kR13 z = res → At X D A 5 0 0 13 [(0, .int a0_), (1, .int a1_), (3, .int a3_), (4, .int z)] [] (([] : va_W))) (v : Int32) (ok : kX5_lowest_13 a0_ a1_ a3_ kO13 v) (h : bX5_lowest_13 a0_ a1_ a3_ kR13 v = res) : At X D A 5 0 0 13 [(0, .int a0_), (1, .int a1_), (3, .int a3_), (4, .int v)] [] (([] : va_W)) := by
  unfold bX5_lowest_13 at h
  unfold kX5_lowest_13 at ok
  refine r_iload C 3 (dall tdX5_lowest 8 rfl) rfl ?_
  refine r_iconst (v := 1) C (dall tdX5_lowest 9 rfl) (by decide) ?_
  refine r_icmp_le (tgt := 44) C (dall tdX5_lowest 10 rfl) (by decide) (fun c1 => ?_) (fun c1 => ?_)
  · have h := (if_pos c1).symm.trans h
    have ok := ok.1 c1
    refine r_iload_n C 2 (dall tdX5_lowest 25 rfl) rfl ?_
    exact r_iret C hR (dall tdX5_lowest 26 rfl) (by subst h; exact ⟨rfl, rfl⟩)
  · have h := (if_neg c1).symm.trans h
    have ok := ok.2 c1
    refine r_iload_n C 0 (dall tdX5_lowest 11 rfl) rfl ?_
    refine r_iload C 3 (dall tdX5_lowest 12 rfl) rfl ?_
    obtain ⟨o2, ok⟩ := ok
    refine r_irem C (dall tdX5_lowest 13 rfl) o2 ?_
    refine r_if_ne (tgt := 38) C (dall tdX5_lowest 14 rfl) (by decide) (fun c3 => ?_) (fun c3 => ?_)
    · have h := (if_neg c3).symm.trans h
      have ok := ok.2 c3
      exact wX5_lowest_38 a0_ a1_ a3_ v C hR kR13 kO13 hk13 ok h
    · have h := (if_pos c3).symm.trans h
      have ok := ok.1 c3
      refine r_iload_n C 1 (dall tdX5_lowest 15 rfl) rfl ?_
      refine r_iload C 3 (dall tdX5_lowest 16 rfl) rfl ?_
      obtain ⟨o4, ok⟩ := ok
      refine r_irem C (dall tdX5_lowest 17 rfl) o4 ?_
      refine r_if_ne (tgt := 38) C (dall tdX5_lowest 18 rfl) (by decide) (fun c5 => ?_) (fun c5 => ?_)
      · have h := (if_neg c5).symm.trans h
        have ok := ok.2 c5
        exact wX5_lowest_38 a0_ a1_ a3_ v C hR kR13 kO13 hk13 ok h
      · have h := (if_pos c5).symm.trans h
        have ok := ok.1 c5
        refine r_iload_n C 2 (dall tdX5_lowest 19 rfl) rfl ?_
        refine r_iload C 3 (dall tdX5_lowest 20 rfl) rfl ?_
        have o6 := ok
        refine r_idiv C (dall tdX5_lowest 21 rfl) o6 ?_
        exact r_iret C hR (dall tdX5_lowest 22 rfl) (by subst h; exact ⟨rfl, rfl⟩)
set_option maxHeartbeats 4000000 in
set_option maxRecDepth 100000 in
theorem lX5_lowest_13 {X : CX} {tys : List (ClassId × FieldType)} {D : va_G} {A : Nat → Prop} {res : Int32} (a0_ : Int32) (a1_ : Int32) (a3_ : Int32) (C : Cx X cX5_lowest RX5 5 D tys A 0 0 0) (hR : Rt X (some .int) D tys A 0 0 (eI ([]) res))  (n : Nat) (v : Int32) (ok : lpOk (kX5_lowest_13 a0_ a1_ a3_ ) n v) (h : lp 0 (bX5_lowest_13 a0_ a1_ a3_ ) n v = res) : At X D A 5 0 0 13 [(0, .int a0_), (1, .int a1_), (3, .int a3_), (4, .int v)] [] (([] : va_W)) :=
  lp_rule (fun v rr_ => rr_ = res → At X D A 5 0 0 13 [(0, .int a0_), (1, .int a1_), (3, .int a3_), (4, .int v)] [] (([] : va_W))) (fun kR kO hk v ok h => wX5_lowest_13 a0_ a1_ a3_ C hR  kR kO hk v ok h) n v ok h
def pX5_lowest_9  (a0_ : Int32) (a1_ : Int32) (b0_ : Int32) : Int32 := lp 0 (bX5_lowest_13 a0_ a1_ b0_ ) fu a1_
def oX5_lowest_9  (a0_ : Int32) (a1_ : Int32) (b0_ : Int32) : Prop := lpOk (kX5_lowest_13 a0_ a1_ b0_ ) fu a1_
set_option maxHeartbeats 4000000 in
set_option maxRecDepth 100000 in
theorem wX5_lowest_9 {X : CX} {tys : List (ClassId × FieldType)} {D : va_G} {A : Nat → Prop} {res : Int32} (a0_ : Int32) (a1_ : Int32) (b0_ : Int32) (C : Cx X cX5_lowest RX5 5 D tys A 0 0 0) (hR : Rt X (some .int) D tys A 0 0 (eI ([]) res))  (ok : oX5_lowest_9  a0_ a1_ b0_) (h : pX5_lowest_9  a0_ a1_ b0_ = res) : At X D A 5 0 0 9 [(0, .int a0_), (1, .int a1_)] [.int b0_] (([] : va_W)) := by
  unfold pX5_lowest_9 at h
  unfold oX5_lowest_9 at ok
  refine r_istore_n (lv' := [(3, .int b0_), (0, .int a0_), (1, .int a1_)]) C (dall tdX5_lowest 5 rfl) (by decide) rfl ?_
  refine r_iload_n C 2 (dall tdX5_lowest 6 rfl) rfl ?_
  refine r_istore (lv' := [(4, .int a1_), (3, .int b0_), (0, .int a0_), (1, .int a1_)]) C (dall tdX5_lowest 7 rfl) (by decide) rfl ?_
  refine r_pick [2, 3, 1, 0] rfl ?_
  exact lX5_lowest_13 a0_ a1_ b0_ C hR  fu _ ok h
def pX5_lowest_0  (a0_ : Int32) (a1_ : Int32) (a2_ : Int32) : Int32 := if a2_ = 0 then pX5_lowest_9  a0_ a1_ a0_ else pX5_lowest_9  a0_ a1_ a1_
def oX5_lowest_0  (a0_ : Int32) (a1_ : Int32) (a2_ : Int32) : Prop := (a2_ = 0 → oX5_lowest_9  a0_ a1_ a0_) ∧ (¬ (a2_ = 0) → oX5_lowest_9  a0_ a1_ a1_)
set_option maxHeartbeats 4000000 in
set_option maxRecDepth 100000 in
theorem wX5_lowest_0 {X : CX} {tys : List (ClassId × FieldType)} {D : va_G} {A : Nat → Prop} {res : Int32} (a0_ : Int32) (a1_ : Int32) (a2_ : Int32) (C : Cx X cX5_lowest RX5 5 D tys A 0 0 0) (hR : Rt X (some .int) D tys A 0 0 (eI ([]) res))  (ok : oX5_lowest_0  a0_ a1_ a2_) (h : pX5_lowest_0  a0_ a1_ a2_ = res) : At X D A 5 0 0 0 [(0, .int a0_), (1, .int a1_), (2, .int a2_)] [] (([] : va_W)) := by
  unfold pX5_lowest_0 at h
  unfold oX5_lowest_0 at ok
  refine r_iload_n C 2 (dall tdX5_lowest 0 rfl) rfl ?_
  refine r_if_ne (tgt := 8) C (dall tdX5_lowest 1 rfl) (by decide) (fun c7 => ?_) (fun c7 => ?_)
  · have h := (if_neg c7).symm.trans h
    have ok := ok.2 c7
    refine r_iload_n C 1 (dall tdX5_lowest 4 rfl) rfl ?_
    refine r_pick [0, 1] rfl ?_
    exact wX5_lowest_9 a0_ a1_ a1_ C hR  ok h
  · have h := (if_pos c7).symm.trans h
    have ok := ok.1 c7
    refine r_iload_n C 0 (dall tdX5_lowest 2 rfl) rfl ?_
    refine r_goto (tgt := 9) C (dall tdX5_lowest 3 rfl) (by decide) ?_
    refine r_pick [0, 1] rfl ?_
    exact wX5_lowest_9 a0_ a1_ a0_ C hR  ok h
def fX5_lowest (a0_ : Int32) (a1_ : Int32) (a2_ : Int32) : Int32 := pX5_lowest_0  a0_ a1_ a2_
def gX5_lowest (a0_ : Int32) (a1_ : Int32) (a2_ : Int32) : Prop := oX5_lowest_0  a0_ a1_ a2_
set_option maxRecDepth 100000 in
theorem zX5_lowest  {D : va_G} (a0_ : Int32) (a1_ : Int32) (a2_ : Int32) (ok : gX5_lowest a0_ a1_ a2_)  {tys : List (ClassId × FieldType)} : Con yX5_lowest cX5_lowest 5 (some .int) 0 0 0 D tys [.int a0_, .int a1_, .int a2_] ([]) (eI ([]) (fX5_lowest a0_ a1_ a2_)) :=
  Con.of (own := RX5) (by decide +kernel) rfl (Nat.le_of_ble_eq_true rfl) (Nat.zero_le _) (fun X A C hR _ => (wX5_lowest_0 a0_ a1_ a2_ C hR  ok rfl))
theorem ms_X5_lowest : MS_ yX5_lowest cX5_lowest 5 (some .int) 3 := ⟨ks_X5_lowest, kn_X5, kc_X5_lowest, by decide +kernel⟩
end
section
abbrev fX4 (q : Nat → Nat) (σ : OS) : List Value := [.ref (q 0), .ref (q 1), .ref (q 2), .ref (q 3), .int (σ.1 4), .int (σ.1 5), .int (σ.1 6), .int (σ.1 7), .long (σ.2.1 8), .ref (q 9), .ref (q 10), .ref (q 11)]
def wX4 (cy : Nat → ClassId) (q : Nat → Nat) (w0 : va_W) (σ : OS) : va_W := (q 12, .inr (3, fX4 q σ)) :: (q 0, .inl (cy 0, 5, .inl (σ.2.2.1 0))) :: (q 1, .inl (cy 0, 5, .inl (σ.2.2.1 1))) :: (q 2, .inl (cy 0, 5, .inl (σ.2.2.1 2))) :: (q 3, .inl (cy 1, 5, .inr (.inl (σ.2.2.2 3)))) :: (q 10, .inl (cy 0, 6, .inl (σ.2.2.1 10))) :: (q 11, .inl (cy 0, 160, .inl (σ.2.2.1 11))) :: w0
theorem pu_X4_this_4 (cy : Nat → ClassId) (q : Nat → Nat) (w0 : va_W) (σ : OS) (v : Int32) : (wX4 cy q w0 σ).set 0 (q 12, .inr (3, (fX4 q σ).set 4 (.int v))) = wX4 cy q w0 (oI σ 4 v) := rfl
theorem pu_X4_this_5 (cy : Nat → ClassId) (q : Nat → Nat) (w0 : va_W) (σ : OS) (v : Int32) : (wX4 cy q w0 σ).set 0 (q 12, .inr (3, (fX4 q σ).set 5 (.int v))) = wX4 cy q w0 (oI σ 5 v) := rfl
theorem pu_X4_this_6 (cy : Nat → ClassId) (q : Nat → Nat) (w0 : va_W) (σ : OS) (v : Int32) : (wX4 cy q w0 σ).set 0 (q 12, .inr (3, (fX4 q σ).set 6 (.int v))) = wX4 cy q w0 (oI σ 6 v) := rfl
theorem pu_X4_this_7 (cy : Nat → ClassId) (q : Nat → Nat) (w0 : va_W) (σ : OS) (v : Int32) : (wX4 cy q w0 σ).set 0 (q 12, .inr (3, (fX4 q σ).set 7 (.int v))) = wX4 cy q w0 (oI σ 7 v) := rfl
theorem pu_X4_this_8 (cy : Nat → ClassId) (q : Nat → Nat) (w0 : va_W) (σ : OS) (v : Int64) : (wX4 cy q w0 σ).set 0 (q 12, .inr (3, (fX4 q σ).set 8 (.long v))) = wX4 cy q w0 (oL σ 8 v) := rfl
theorem pa_X4_this_0 (cy : Nat → ClassId) (q : Nat → Nat) (w0 : va_W) (σ : OS) (i : Nat) (x : Int32) : (wX4 cy q w0 σ).set 1 (q 0, .inl (cy 0, 5, .inl (upd (σ.2.2.1 0) i x))) = wX4 cy q w0 (oS σ 0 i x) := rfl
theorem pa_X4_this_1 (cy : Nat → ClassId) (q : Nat → Nat) (w0 : va_W) (σ : OS) (i : Nat) (x : Int32) : (wX4 cy q w0 σ).set 2 (q 1, .inl (cy 0, 5, .inl (upd (σ.2.2.1 1) i x))) = wX4 cy q w0 (oS σ 1 i x) := rfl
theorem pa_X4_this_2 (cy : Nat → ClassId) (q : Nat → Nat) (w0 : va_W) (σ : OS) (i : Nat) (x : Int32) : (wX4 cy q w0 σ).set 3 (q 2, .inl (cy 0, 5, .inl (upd (σ.2.2.1 2) i x))) = wX4 cy q w0 (oS σ 2 i x) := rfl
theorem pa_X4_this_3 (cy : Nat → ClassId) (q : Nat → Nat) (w0 : va_W) (σ : OS) (i : Nat) (x : Int64) : (wX4 cy q w0 σ).set 4 (q 3, .inl (cy 1, 5, .inr (.inl (vp_updL (σ.2.2.2 3) i x)))) = wX4 cy q w0 (oT σ 3 i x) := rfl
theorem pa_X4_this_10 (cy : Nat → ClassId) (q : Nat → Nat) (w0 : va_W) (σ : OS) (i : Nat) (x : Int32) : (wX4 cy q w0 σ).set 5 (q 10, .inl (cy 0, 6, .inl (upd (σ.2.2.1 10) i x))) = wX4 cy q w0 (oS σ 10 i x) := rfl
theorem pa_X4_this_11 (cy : Nat → ClassId) (q : Nat → Nat) (w0 : va_W) (σ : OS) (i : Nat) (x : Int32) : (wX4 cy q w0 σ).set 6 (q 11, .inl (cy 0, 160, .inl (upd (σ.2.2.1 11) i x))) = wX4 cy q w0 (oS σ 11 i x) := rfl
def tbX4_allUp : List (Nat × Instr × Nat) := [(0, .lconst 0, 1), (1, .lstore_n 1, 1), (2, .iconst 0, 1), (3, .istore_n 3, 1), (4, .iload_n 3, 1), (5, .aload_n 0, 1), (6, .getfield 43, 3), (9, .if_icmp .ge 18, 3), (12, .lload_n 1, 1), (13, .aload_n 0, 1), (14, .getfield 21, 3), (17, .iload_n 3, 1), (18, .laload, 1), (19, .lor, 1), (20, .lstore_n 1, 1), (21, .iinc 3 1, 3), (24, .goto (-20), 3), (27, .lload_n 1, 1), (28, .lreturn, 1)]
theorem tdX4_allUp : tbX4_allUp.all (fun q => decide (decode cX4_allUp q.1 = .ok q.2)) = true := by decide +kernel
def bX4_allUp_4 (σ : OS)  (kR4 : Int64 × Int32 → Int64) (v : Int64 × Int32) : Int64 := if (σ.1 4) ≤ v.2 then v.1 else kR4 (v.1 ||| (σ.2.2.2 3 v.2.toNatClampNeg), v.2 + 1)
def kX4_allUp_4 (σ : OS)  (kO4 : Int64 × Int32 → Prop) (v : Int64 × Int32) : Prop := ((σ.1 4) ≤ v.2 → True) ∧ (¬ ((σ.1 4) ≤ v.2) → (vp_in v.2 5) ∧ (kO4 (v.1 ||| (σ.2.2.2 3 v.2.toNatClampNeg), v.2 + 1)))
set_option maxHeartbeats 4000000 in
set_option maxRecDepth 100000 in
theorem wX4_allUp_4 {X : CX} {cy : Nat → ClassId} {q : Nat → Nat} {w0 : va_W} {D : va_G} {A : Nat → Prop} {res : Int64} (σ : OS) (C : Cx X cX4_allUp RX4 4 D (gty cy) A 0 0 0) (hR : Rt X (some .long) D (gty cy) A 0 0 (eL (wX4 cy q w0 σ) res)) (kR4 : Int64 × Int32 → Int64) (kO4 : Int64 × Int32 → Prop) (hk4 : ∀ z, kO4 z → kR4 z = res → At X D A 4 0 0 4 [(0, .ref (q 12)), (1, .long z.1), (3, .int z.2)] [] (wX4 cy q w0 σ)) (v : Int64 × Int32) (ok : kX4_allUp_4 σ kO4 v) (h : bX4_allUp_4 σ kR4 v = res) : At X D A 4 0 0 4 [(0, .ref (q 12)), (1, .long v.1), (3, .int v.2)] [] (wX4 cy q w0 σ) := by
  unfold bX4_allUp_4 at h
  unfold kX4_allUp_4 at ok
  refine r_iload_n C 2 (dall tdX4_allUp 4 rfl) rfl ?_
  refine r_aload_n C 0 (dall tdX4_allUp 5 rfl) rfl ?_
  refine r_get C 0 kw_X4 rfl rfl (by decide) kf_X4_43 rfl rfl (dall tdX4_allUp 6 rfl) ?_
  refine r_icmp_ge (tgt := 27) C (dall tdX4_allUp 7 rfl) (by decide) (fun c1 => ?_) (fun c1 => ?_)
  · have h := (if_pos c1).symm.trans h
    have ok := ok.1 c1
    refine r_lload_n C 1 (dall tdX4_allUp 17 rfl) rfl ?_
    exact r_lret C hR (dall tdX4_allUp 18 rfl) (by subst h; exact ⟨rfl, rfl⟩)
  · have h := (if_neg c1).symm.trans h
    have ok := ok.2 c1
    refine r_lload_n C 1 (dall tdX4_allUp 8 rfl) rfl ?_
    refine r_aload_n C 0 (dall tdX4_allUp 9 rfl) rfl ?_
    refine r_get C 0 kw_X4 rfl rfl (by decide) kf_X4_21 rfl rfl (dall tdX4_allUp 10 rfl) ?_
    refine r_iload_n C 2 (dall tdX4_allUp 11 rfl) rfl ?_
    obtain ⟨o2, ok⟩ := ok
    refine r_lald C 4 1 rfl rfl o2 (dall tdX4_allUp 12 rfl) ?_
    refine r_lor C (dall tdX4_allUp 13 rfl) ?_
    refine r_lstore_n (lv' := [(1, .long (v.1 ||| (σ.2.2.2 3 v.2.toNatClampNeg))), (0, .ref (q 12)), (3, .int v.2)]) C (dall tdX4_allUp 14 rfl) (by decide) rfl ?_
    refine r_iinc (v := v.2 + 1) (lv' := [(3, .int (v.2 + 1)), (1, .long (v.1 ||| (σ.2.2.2 3 v.2.toNatClampNeg))), (0, .ref (q 12))]) C 2 (dall tdX4_allUp 15 rfl) rfl rfl (by decide) rfl ?_
    refine r_goto (tgt := 4) C (dall tdX4_allUp 16 rfl) (by decide) ?_
    refine r_pick [2, 1, 0] rfl ?_
    exact hk4 (v.1 ||| (σ.2.2.2 3 v.2.toNatClampNeg), v.2 + 1) ok h
set_option maxHeartbeats 4000000 in
set_option maxRecDepth 100000 in
theorem lX4_allUp_4 {X : CX} {cy : Nat → ClassId} {q : Nat → Nat} {w0 : va_W} {D : va_G} {A : Nat → Prop} {res : Int64} (σ : OS) (C : Cx X cX4_allUp RX4 4 D (gty cy) A 0 0 0) (hR : Rt X (some .long) D (gty cy) A 0 0 (eL (wX4 cy q w0 σ) res))  (n : Nat) (v : Int64 × Int32) (ok : lpOk (kX4_allUp_4 σ ) n v) (h : lp 0 (bX4_allUp_4 σ ) n v = res) : At X D A 4 0 0 4 [(0, .ref (q 12)), (1, .long v.1), (3, .int v.2)] [] (wX4 cy q w0 σ) :=
  lp_rule (fun v rr_ => rr_ = res → At X D A 4 0 0 4 [(0, .ref (q 12)), (1, .long v.1), (3, .int v.2)] [] (wX4 cy q w0 σ)) (fun kR kO hk v ok h => wX4_allUp_4 σ C hR  kR kO hk v ok h) n v ok h
def pX4_allUp_0  (σ : OS) : Int64 := lp 0 (bX4_allUp_4 σ ) fu (0, 0)
def oX4_allUp_0  (σ : OS) : Prop := lpOk (kX4_allUp_4 σ ) fu (0, 0)
set_option maxHeartbeats 4000000 in
set_option maxRecDepth 100000 in
theorem wX4_allUp_0 {X : CX} {cy : Nat → ClassId} {q : Nat → Nat} {w0 : va_W} {D : va_G} {A : Nat → Prop} {res : Int64} (σ : OS) (C : Cx X cX4_allUp RX4 4 D (gty cy) A 0 0 0) (hR : Rt X (some .long) D (gty cy) A 0 0 (eL (wX4 cy q w0 σ) res))  (ok : oX4_allUp_0  σ) (h : pX4_allUp_0  σ = res) : At X D A 4 0 0 0 [(0, .ref (q 12))] [] (wX4 cy q w0 σ) := by
  unfold pX4_allUp_0 at h
  unfold oX4_allUp_0 at ok
  refine r_lconst (v := 0) C (dall tdX4_allUp 0 rfl) (by decide) ?_
  refine r_lstore_n (lv' := [(1, .long 0), (0, .ref (q 12))]) C (dall tdX4_allUp 1 rfl) (by decide) rfl ?_
  refine r_iconst (v := 0) C (dall tdX4_allUp 2 rfl) (by decide) ?_
  refine r_istore_n (lv' := [(3, .int 0), (1, .long 0), (0, .ref (q 12))]) C (dall tdX4_allUp 3 rfl) (by decide) rfl ?_
  refine r_pick [2, 1, 0] rfl ?_
  exact lX4_allUp_4 σ C hR  fu _ ok h
def fX4_allUp (σ : OS) : Int64 := pX4_allUp_0  σ
def gX4_allUp (σ : OS) : Prop := oX4_allUp_0  σ
set_option maxRecDepth 100000 in
theorem zX4_allUp (cy : Nat → ClassId) (q : Nat → Nat) (w0 : va_W)  {D : va_G} (σ : OS) (ok : gX4_allUp σ )  : Con yX4_allUp cX4_allUp 4 (some .long) 0 0 0 D (gty cy) [.ref (q 12)] (wX4 cy q w0 σ) (eL (wX4 cy q w0 σ) (fX4_allUp σ )) :=
  Con.of (own := RX4) (by decide +kernel) rfl (Nat.le_of_ble_eq_true rfl) (Nat.zero_le _) (fun X A C hR _ => (wX4_allUp_0 σ C hR  ok rfl))
theorem mv_X4_allUp : MV yX4_allUp cX4_allUp 4 (some .long) RX4 0 := ⟨ki_X4_allUp, kv_X4_allUp, kn_X4, kc_X4_allUp, by decide +kernel⟩
def tbX4_stands : List (Nat × Instr × Nat) := [(0, .aload_n 0, 1), (1, .getfield 27, 3), (4, .aload_n 0, 1), (5, .invokevirtual 56, 3), (8, .lor, 1), (9, .lreturn, 1)]
theorem tdX4_stands : tbX4_stands.all (fun q => decide (decode cX4_stands q.1 = .ok q.2)) = true := by decide +kernel
def pX4_stands_0  (σ : OS) : Int64 := (σ.2.1 8) ||| (fX4_allUp σ)
def oX4_stands_0  (σ : OS) : Prop := gX4_allUp σ 
set_option maxHeartbeats 4000000 in
set_option maxRecDepth 100000 in
theorem wX4_stands_0 {X : CX} {cy : Nat → ClassId} {q : Nat → Nat} {w0 : va_W} {D : va_G} {A : Nat → Prop} {res : Int64} (σ : OS) (C : Cx X cX4_stands RX4 1 D (gty cy) A 1 0 0) (hR : Rt X (some .long) D (gty cy) A 0 0 (eL (wX4 cy q w0 σ) res))  (ok : oX4_stands_0  σ) (h : pX4_stands_0  σ = res) : At X D A 1 0 0 0 [(0, .ref (q 12))] [] (wX4 cy q w0 σ) := by
  unfold pX4_stands_0 at h
  unfold oX4_stands_0 at ok
  refine r_aload_n C 0 (dall tdX4_stands 0 rfl) rfl ?_
  refine r_get C 0 kw_X4 rfl rfl (by decide) kf_X4_27 rfl rfl (dall tdX4_stands 1 rfl) ?_
  refine r_aload_n C 0 (dall tdX4_stands 2 rfl) rfl ?_
  have o1 := ok
  refine r_vL (as := []) C (zX4_allUp cy q w0 σ  o1) mv_X4_allUp km_X4_56 (by decide) (by decide) ⟨Nat.le_refl _, Nat.le_refl _⟩ rfl rfl rfl rfl (Nat.le_of_ble_eq_true rfl) (dall tdX4_stands 3 rfl) ?_
  refine r_lor C (dall tdX4_stands 4 rfl) ?_
  exact r_lret C hR (dall tdX4_stands 5 rfl) (by subst h; exact ⟨rfl, rfl⟩)
def fX4_stands (σ : OS) : Int64 := pX4_stands_0  σ
def gX4_stands (σ : OS) : Prop := oX4_stands_0  σ
set_option maxRecDepth 100000 in
theorem zX4_stands (cy : Nat → ClassId) (q : Nat → Nat) (w0 : va_W)  {D : va_G} (σ : OS) (ok : gX4_stands σ )  : Con yX4_stands cX4_stands 1 (some .long) 1 0 0 D (gty cy) [.ref (q 12)] (wX4 cy q w0 σ) (eL (wX4 cy q w0 σ) (fX4_stands σ )) :=
  Con.of (own := RX4) (by decide +kernel) rfl (Nat.le_of_ble_eq_true rfl) (Nat.zero_le _) (fun X A C hR _ => (wX4_stands_0 σ C hR  ok rfl))
theorem mv_X4_stands : MV yX4_stands cX4_stands 1 (some .long) RX4 0 := ⟨ki_X4_stands, kv_X4_stands, kn_X4, kc_X4_stands, by decide +kernel⟩
def tbX4_countUp : List (Nat × Instr × Nat) := [(0, .aload_n 0, 1), (1, .invokevirtual 56, 3), (4, .invokestatic 60, 3), (7, .ireturn, 1)]
theorem tdX4_countUp : tbX4_countUp.all (fun q => decide (decode cX4_countUp q.1 = .ok q.2)) = true := by decide +kernel
def pX4_countUp_0  (σ : OS) : Int32 := fJ13_bitCount_95d88 (fX4_allUp σ)
def oX4_countUp_0  (σ : OS) : Prop := gX4_allUp σ 
set_option maxHeartbeats 4000000 in
set_option maxRecDepth 100000 in
theorem wX4_countUp_0 {X : CX} {cy : Nat → ClassId} {q : Nat → Nat} {w0 : va_W} {D : va_G} {A : Nat → Prop} {res : Int32} (σ : OS) (C : Cx X cX4_countUp RX4 1 D (gty cy) A 1 0 0) (hR : Rt X (some .int) D (gty cy) A 0 0 (eI (wX4 cy q w0 σ) res))  (ok : oX4_countUp_0  σ) (h : pX4_countUp_0  σ = res) : At X D A 1 0 0 0 [(0, .ref (q 12))] [] (wX4 cy q w0 σ) := by
  unfold pX4_countUp_0 at h
  unfold oX4_countUp_0 at ok
  refine r_aload_n C 0 (dall tdX4_countUp 0 rfl) rfl ?_
  have o1 := ok
  refine r_vL (as := []) C (zX4_allUp cy q w0 σ  o1) mv_X4_allUp km_X4_56 (by decide) (by decide) ⟨Nat.le_refl _, Nat.le_refl _⟩ rfl rfl rfl rfl (Nat.le_of_ble_eq_true rfl) (dall tdX4_countUp 1 rfl) ?_
  refine r_s0I (as := [.long (fX4_allUp σ)]) C (zJ13_bitCount_95d88 (fX4_allUp σ) ) ms_J13_bitCount_95d88 km_X4_60 (by decide) (by decide) ⟨Nat.le_refl _, Nat.le_refl _⟩ rfl rfl (Nat.le_of_ble_eq_true rfl) (dall tdX4_countUp 2 rfl) ?_
  exact r_iret C hR (dall tdX4_countUp 3 rfl) (by subst h; exact ⟨rfl, rfl⟩)
def fX4_countUp (σ : OS) : Int32 := pX4_countUp_0  σ
def gX4_countUp (σ : OS) : Prop := oX4_countUp_0  σ
set_option maxRecDepth 100000 in
theorem zX4_countUp (cy : Nat → ClassId) (q : Nat → Nat) (w0 : va_W)  {D : va_G} (σ : OS) (ok : gX4_countUp σ )  : Con yX4_countUp cX4_countUp 1 (some .int) 1 0 0 D (gty cy) [.ref (q 12)] (wX4 cy q w0 σ) (eI (wX4 cy q w0 σ) (fX4_countUp σ )) :=
  Con.of (own := RX4) (by decide +kernel) rfl (Nat.le_of_ble_eq_true rfl) (Nat.zero_le _) (fun X A C hR _ => (wX4_countUp_0 σ C hR  ok rfl))
theorem mv_X4_countUp : MV yX4_countUp cX4_countUp 1 (some .int) RX4 0 := ⟨ki_X4_countUp, kv_X4_countUp, kn_X4, kc_X4_countUp, by decide +kernel⟩
def tbX4_whose : List (Nat × Instr × Nat) := [(0, .iconst 0, 1), (1, .istore_n 2, 1), (2, .iload_n 2, 1), (3, .aload_n 0, 1), (4, .getfield 43, 3), (7, .if_icmp .ge 24, 3), (10, .aload_n 0, 1), (11, .getfield 21, 3), (14, .iload_n 2, 1), (15, .laload, 1), (16, .iload_n 1, 1), (17, .invokestatic 66, 3), (20, .ifCond .eq 5, 3), (23, .iload_n 2, 1), (24, .ireturn, 1), (25, .iinc 2 1, 3), (28, .goto (-26), 3), (31, .aload_n 0, 1), (32, .getfield 27, 3), (35, .iload_n 1, 1), (36, .invokestatic 66, 3), (39, .ifCond .eq 8, 3), (42, .bipush 9, 2), (44, .goto 4, 3), (47, .iconst (-1), 1), (48, .ireturn, 1)]
theorem tdX4_whose : tbX4_whose.all (fun q => decide (decode cX4_whose q.1 = .ok q.2)) = true := by decide +kernel
def bX4_whose_2 (σ : OS) (a1_ : Int32)  (kR2 : Int32 → Int32) (v : Int32) : Int32 := if (σ.1 4) ≤ v then if (fX3_has (σ.2.1 8) a1_) = 0 then (-1) else 9 else if (fX3_has (σ.2.2.2 3 v.toNatClampNeg) a1_) = 0 then kR2 (v + 1) else v
def kX4_whose_2 (σ : OS) (a1_ : Int32)  (kO2 : Int32 → Prop) (v : Int32) : Prop := ((σ.1 4) ≤ v → True) ∧ (¬ ((σ.1 4) ≤ v) → (vp_in v 5) ∧ (((fX3_has (σ.2.2.2 3 v.toNatClampNeg) a1_) = 0 → kO2 (v + 1)) ∧ (¬ ((fX3_has (σ.2.2.2 3 v.toNatClampNeg) a1_) = 0) → True)))
set_option maxHeartbeats 4000000 in
set_option maxRecDepth 100000 in
theorem wX4_whose_2 {X : CX} {cy : Nat → ClassId} {q : Nat → Nat} {w0 : va_W} {D : va_G} {A : Nat → Prop} {res : Int32} (σ : OS) (a1_ : Int32) (C : Cx X cX4_whose RX4 3 D (gty cy) A 1 0 0) (hR : Rt X (some .int) D (gty cy) A 0 0 (eI (wX4 cy q w0 σ) res)) (kR2 : Int32 → Int32) (kO2 : Int32 → Prop) (hk2 : ∀ z, kO2 z → kR2 z = res → At X D A 3 0 0 2 [(0, .ref (q 12)), (1, .int a1_), (2, .int z)] [] (wX4 cy q w0 σ)) (v : Int32) (ok : kX4_whose_2 σ a1_ kO2 v) (h : bX4_whose_2 σ a1_ kR2 v = res) : At X D A 3 0 0 2 [(0, .ref (q 12)), (1, .int a1_), (2, .int v)] [] (wX4 cy q w0 σ) := by
  unfold bX4_whose_2 at h
  unfold kX4_whose_2 at ok
  refine r_iload_n C 2 (dall tdX4_whose 2 rfl) rfl ?_
  refine r_aload_n C 0 (dall tdX4_whose 3 rfl) rfl ?_
  refine r_get C 0 kw_X4 rfl rfl (by decide) kf_X4_43 rfl rfl (dall tdX4_whose 4 rfl) ?_
  refine r_icmp_ge (tgt := 31) C (dall tdX4_whose 5 rfl) (by decide) (fun c1 => ?_) (fun c1 => ?_)
  · have h := (if_pos c1).symm.trans h
    have ok := ok.1 c1
    refine r_aload_n C 0 (dall tdX4_whose 17 rfl) rfl ?_
    refine r_get C 0 kw_X4 rfl rfl (by decide) kf_X4_27 rfl rfl (dall tdX4_whose 18 rfl) ?_
    refine r_iload_n C 1 (dall tdX4_whose 19 rfl) rfl ?_
    refine r_s0I (as := [.long (σ.2.1 8), .int a1_]) C (zX3_has (σ.2.1 8) a1_ ) ms_X3_has km_X4_66 (by decide) (by decide) ⟨Nat.le_refl _, Nat.le_refl _⟩ rfl rfl (Nat.le_of_ble_eq_true rfl) (dall tdX4_whose 20 rfl) ?_
    refine r_if_eq (tgt := 47) C (dall tdX4_whose 21 rfl) (by decide) (fun c2 => ?_) (fun c2 => ?_)
    · have h := (if_pos c2).symm.trans h
      refine r_iconst (v := -1) C (dall tdX4_whose 24 rfl) (by decide) ?_
      exact r_iret C hR (dall tdX4_whose 25 rfl) (by subst h; exact ⟨rfl, rfl⟩)
    · have h := (if_neg c2).symm.trans h
      refine r_bipush (v := 9) C (dall tdX4_whose 22 rfl) (by decide) ?_
      refine r_goto (tgt := 48) C (dall tdX4_whose 23 rfl) (by decide) ?_
      exact r_iret C hR (dall tdX4_whose 25 rfl) (by subst h; exact ⟨rfl, rfl⟩)
  · have h := (if_neg c1).symm.trans h
    have ok := ok.2 c1
    refine r_aload_n C 0 (dall tdX4_whose 6 rfl) rfl ?_
    refine r_get C 0 kw_X4 rfl rfl (by decide) kf_X4_21 rfl rfl (dall tdX4_whose 7 rfl) ?_
    refine r_iload_n C 2 (dall tdX4_whose 8 rfl) rfl ?_
    obtain ⟨o3, ok⟩ := ok
    refine r_lald C 4 1 rfl rfl o3 (dall tdX4_whose 9 rfl) ?_
    refine r_iload_n C 1 (dall tdX4_whose 10 rfl) rfl ?_
    refine r_s0I (as := [.long (σ.2.2.2 3 v.toNatClampNeg), .int a1_]) C (zX3_has (σ.2.2.2 3 v.toNatClampNeg) a1_ ) ms_X3_has km_X4_66 (by decide) (by decide) ⟨Nat.le_refl _, Nat.le_refl _⟩ rfl rfl (Nat.le_of_ble_eq_true rfl) (dall tdX4_whose 11 rfl) ?_
    refine r_if_eq (tgt := 25) C (dall tdX4_whose 12 rfl) (by decide) (fun c4 => ?_) (fun c4 => ?_)
    · have h := (if_pos c4).symm.trans h
      have ok := ok.1 c4
      refine r_iinc (v := v + 1) (lv' := [(2, .int (v + 1)), (0, .ref (q 12)), (1, .int a1_)]) C 2 (dall tdX4_whose 15 rfl) rfl rfl (by decide) rfl ?_
      refine r_goto (tgt := 2) C (dall tdX4_whose 16 rfl) (by decide) ?_
      refine r_pick [1, 2, 0] rfl ?_
      exact hk2 (v + 1) ok h
    · have h := (if_neg c4).symm.trans h
      have ok := ok.2 c4
      refine r_iload_n C 2 (dall tdX4_whose 13 rfl) rfl ?_
      exact r_iret C hR (dall tdX4_whose 14 rfl) (by subst h; exact ⟨rfl, rfl⟩)
set_option maxHeartbeats 4000000 in
set_option maxRecDepth 100000 in
theorem lX4_whose_2 {X : CX} {cy : Nat → ClassId} {q : Nat → Nat} {w0 : va_W} {D : va_G} {A : Nat → Prop} {res : Int32} (σ : OS) (a1_ : Int32) (C : Cx X cX4_whose RX4 3 D (gty cy) A 1 0 0) (hR : Rt X (some .int) D (gty cy) A 0 0 (eI (wX4 cy q w0 σ) res))  (n : Nat) (v : Int32) (ok : lpOk (kX4_whose_2 σ a1_ ) n v) (h : lp 0 (bX4_whose_2 σ a1_ ) n v = res) : At X D A 3 0 0 2 [(0, .ref (q 12)), (1, .int a1_), (2, .int v)] [] (wX4 cy q w0 σ) :=
  lp_rule (fun v rr_ => rr_ = res → At X D A 3 0 0 2 [(0, .ref (q 12)), (1, .int a1_), (2, .int v)] [] (wX4 cy q w0 σ)) (fun kR kO hk v ok h => wX4_whose_2 σ a1_ C hR  kR kO hk v ok h) n v ok h
def pX4_whose_0  (σ : OS) (a1_ : Int32) : Int32 := lp 0 (bX4_whose_2 σ a1_ ) fu 0
def oX4_whose_0  (σ : OS) (a1_ : Int32) : Prop := lpOk (kX4_whose_2 σ a1_ ) fu 0
set_option maxHeartbeats 4000000 in
set_option maxRecDepth 100000 in
theorem wX4_whose_0 {X : CX} {cy : Nat → ClassId} {q : Nat → Nat} {w0 : va_W} {D : va_G} {A : Nat → Prop} {res : Int32} (σ : OS) (a1_ : Int32) (C : Cx X cX4_whose RX4 3 D (gty cy) A 1 0 0) (hR : Rt X (some .int) D (gty cy) A 0 0 (eI (wX4 cy q w0 σ) res))  (ok : oX4_whose_0  σ a1_) (h : pX4_whose_0  σ a1_ = res) : At X D A 3 0 0 0 [(0, .ref (q 12)), (1, .int a1_)] [] (wX4 cy q w0 σ) := by
  unfold pX4_whose_0 at h
  unfold oX4_whose_0 at ok
  refine r_iconst (v := 0) C (dall tdX4_whose 0 rfl) (by decide) ?_
  refine r_istore_n (lv' := [(2, .int 0), (0, .ref (q 12)), (1, .int a1_)]) C (dall tdX4_whose 1 rfl) (by decide) rfl ?_
  refine r_pick [1, 2, 0] rfl ?_
  exact lX4_whose_2 σ a1_ C hR  fu _ ok h
def fX4_whose (σ : OS) (a1_ : Int32) : Int32 := pX4_whose_0  σ a1_
def gX4_whose (σ : OS) (a1_ : Int32) : Prop := oX4_whose_0  σ a1_
set_option maxRecDepth 100000 in
theorem zX4_whose (cy : Nat → ClassId) (q : Nat → Nat) (w0 : va_W)  {D : va_G} (σ : OS) (a1_ : Int32) (ok : gX4_whose σ a1_)  : Con yX4_whose cX4_whose 3 (some .int) 1 0 0 D (gty cy) [.ref (q 12), .int a1_] (wX4 cy q w0 σ) (eI (wX4 cy q w0 σ) (fX4_whose σ a1_)) :=
  Con.of (own := RX4) (by decide +kernel) rfl (Nat.le_of_ble_eq_true rfl) (Nat.zero_le _) (fun X A C hR _ => (wX4_whose_0 σ a1_ C hR  ok rfl))
theorem mv_X4_whose : MV yX4_whose cX4_whose 3 (some .int) RX4 1 := ⟨ki_X4_whose, kv_X4_whose, kn_X4, kc_X4_whose, by decide +kernel⟩
def tbX4_dropLoose : List (Nat × Instr × Nat) := [(0, .aload_n 0, 1), (1, .getfield 27, 3), (4, .aload_n 0, 1), (5, .invokevirtual 72, 3), (8, .invokestatic 75, 3), (11, .lstore_n 1, 1), (12, .iconst 0, 1), (13, .istore_n 3, 1), (14, .iload_n 3, 1), (15, .aload_n 0, 1), (16, .getfield 43, 3), (19, .if_icmp .ge 19, 3), (22, .aload_n 0, 1), (23, .getfield 21, 3), (26, .iload_n 3, 1), (27, .dup2, 1), (28, .laload, 1), (29, .lload_n 1, 1), (30, .land, 1), (31, .lastore, 1), (32, .iinc 3 1, 3), (35, .goto (-21), 3), (38, .return_, 1)]
theorem tdX4_dropLoose : tbX4_dropLoose.all (fun q => decide (decode cX4_dropLoose q.1 = .ok q.2)) = true := by decide +kernel
def bX4_dropLoose_14 (a1_ : Int64)  (kR14 : OS × Int32 → OS) (v : OS × Int32) : OS := if (v.1.1 4) ≤ v.2 then v.1 else kR14 (oT v.1 3 v.2.toNatClampNeg ((v.1.2.2.2 3 v.2.toNatClampNeg) &&& a1_), v.2 + 1)
def kX4_dropLoose_14 (a1_ : Int64)  (kO14 : OS × Int32 → Prop) (v : OS × Int32) : Prop := ((v.1.1 4) ≤ v.2 → True) ∧ (¬ ((v.1.1 4) ≤ v.2) → (vp_in v.2 5) ∧ ((vp_in v.2 5) ∧ (kO14 (oT v.1 3 v.2.toNatClampNeg ((v.1.2.2.2 3 v.2.toNatClampNeg) &&& a1_), v.2 + 1))))
set_option maxHeartbeats 4000000 in
set_option maxRecDepth 100000 in
theorem wX4_dropLoose_14 {X : CX} {cy : Nat → ClassId} {q : Nat → Nat} {w0 : va_W} {D : va_G} {A : Nat → Prop} {res : OS} (a1_ : Int64) (C : Cx X cX4_dropLoose RX4 4 D (gty cy) A 2 0 0) (hR : Rt X none D (gty cy) A 0 0 (eV (wX4 cy q w0 res))) (kR14 : OS × Int32 → OS) (kO14 : OS × Int32 → Prop) (hk14 : ∀ z, kO14 z → kR14 z = res → At X D A 4 0 0 14 [(0, .ref (q 12)), (1, .long a1_), (3, .int z.2)] [] (wX4 cy q w0 z.1)) (v : OS × Int32) (ok : kX4_dropLoose_14 a1_ kO14 v) (h : bX4_dropLoose_14 a1_ kR14 v = res) : At X D A 4 0 0 14 [(0, .ref (q 12)), (1, .long a1_), (3, .int v.2)] [] (wX4 cy q w0 v.1) := by
  unfold bX4_dropLoose_14 at h
  unfold kX4_dropLoose_14 at ok
  refine r_iload_n C 2 (dall tdX4_dropLoose 8 rfl) rfl ?_
  refine r_aload_n C 0 (dall tdX4_dropLoose 9 rfl) rfl ?_
  refine r_get C 0 kw_X4 rfl rfl (by decide) kf_X4_43 rfl rfl (dall tdX4_dropLoose 10 rfl) ?_
  refine r_icmp_ge (tgt := 38) C (dall tdX4_dropLoose 11 rfl) (by decide) (fun c1 => ?_) (fun c1 => ?_)
  · have h := (if_pos c1).symm.trans h
    have ok := ok.1 c1
    exact r_vret C hR (dall tdX4_dropLoose 22 rfl) (by subst h; exact ⟨rfl, rfl⟩)
  · have h := (if_neg c1).symm.trans h
    have ok := ok.2 c1
    refine r_aload_n C 0 (dall tdX4_dropLoose 12 rfl) rfl ?_
    refine r_get C 0 kw_X4 rfl rfl (by decide) kf_X4_21 rfl rfl (dall tdX4_dropLoose 13 rfl) ?_
    refine r_iload_n C 2 (dall tdX4_dropLoose 14 rfl) rfl ?_
    refine r_dup2_11 C (dall tdX4_dropLoose 15 rfl) rfl rfl ?_
    obtain ⟨o2, ok⟩ := ok
    refine r_lald C 4 1 rfl rfl o2 (dall tdX4_dropLoose 16 rfl) ?_
    refine r_lload_n C 1 (dall tdX4_dropLoose 17 rfl) rfl ?_
    refine r_land C (dall tdX4_dropLoose 18 rfl) ?_
    obtain ⟨o3, ok⟩ := ok
    refine r_last C 4 1 rfl rfl o3 (pa_X4_this_3 cy q w0 v.1 v.2.toNatClampNeg ((v.1.2.2.2 3 v.2.toNatClampNeg) &&& a1_)) (dall tdX4_dropLoose 19 rfl) ?_
    refine r_iinc (v := v.2 + 1) (lv' := [(3, .int (v.2 + 1)), (0, .ref (q 12)), (1, .long a1_)]) C 2 (dall tdX4_dropLoose 20 rfl) rfl rfl (by decide) rfl ?_
    refine r_goto (tgt := 14) C (dall tdX4_dropLoose 21 rfl) (by decide) ?_
    refine r_pick [1, 2, 0] rfl ?_
    exact hk14 (oT v.1 3 v.2.toNatClampNeg ((v.1.2.2.2 3 v.2.toNatClampNeg) &&& a1_), v.2 + 1) ok h
set_option maxHeartbeats 4000000 in
set_option maxRecDepth 100000 in
theorem lX4_dropLoose_14 {X : CX} {cy : Nat → ClassId} {q : Nat → Nat} {w0 : va_W} {D : va_G} {A : Nat → Prop} {res : OS} (a1_ : Int64) (C : Cx X cX4_dropLoose RX4 4 D (gty cy) A 2 0 0) (hR : Rt X none D (gty cy) A 0 0 (eV (wX4 cy q w0 res)))  (n : Nat) (v : OS × Int32) (ok : lpOk (kX4_dropLoose_14 a1_ ) n v) (h : lp o0 (bX4_dropLoose_14 a1_ ) n v = res) : At X D A 4 0 0 14 [(0, .ref (q 12)), (1, .long a1_), (3, .int v.2)] [] (wX4 cy q w0 v.1) :=
  lp_rule (fun v rr_ => rr_ = res → At X D A 4 0 0 14 [(0, .ref (q 12)), (1, .long a1_), (3, .int v.2)] [] (wX4 cy q w0 v.1)) (fun kR kO hk v ok h => wX4_dropLoose_14 a1_ C hR  kR kO hk v ok h) n v ok h
def pX4_dropLoose_0  (σ : OS) : OS := lp o0 (bX4_dropLoose_14 (fX3_held (σ.2.1 8) (fX4_stands σ)) ) fu (σ, 0)
def oX4_dropLoose_0  (σ : OS) : Prop := (gX4_stands σ ) ∧ ((gX3_held (σ.2.1 8) (fX4_stands σ)) ∧ (lpOk (kX4_dropLoose_14 (fX3_held (σ.2.1 8) (fX4_stands σ)) ) fu (σ, 0)))
set_option maxHeartbeats 4000000 in
set_option maxRecDepth 100000 in
theorem wX4_dropLoose_0 {X : CX} {cy : Nat → ClassId} {q : Nat → Nat} {w0 : va_W} {D : va_G} {A : Nat → Prop} {res : OS} (σ : OS) (C : Cx X cX4_dropLoose RX4 4 D (gty cy) A 2 0 0) (hR : Rt X none D (gty cy) A 0 0 (eV (wX4 cy q w0 res)))  (ok : oX4_dropLoose_0  σ) (h : pX4_dropLoose_0  σ = res) : At X D A 4 0 0 0 [(0, .ref (q 12))] [] (wX4 cy q w0 σ) := by
  unfold pX4_dropLoose_0 at h
  unfold oX4_dropLoose_0 at ok
  refine r_aload_n C 0 (dall tdX4_dropLoose 0 rfl) rfl ?_
  refine r_get C 0 kw_X4 rfl rfl (by decide) kf_X4_27 rfl rfl (dall tdX4_dropLoose 1 rfl) ?_
  refine r_aload_n C 0 (dall tdX4_dropLoose 2 rfl) rfl ?_
  obtain ⟨o4, ok⟩ := ok
  refine r_vL (as := []) C (zX4_stands cy q w0 σ  o4) mv_X4_stands km_X4_72 (by decide) (by decide) ⟨Nat.le_refl _, Nat.le_refl _⟩ rfl rfl rfl rfl (Nat.le_of_ble_eq_true rfl) (dall tdX4_dropLoose 3 rfl) ?_
  obtain ⟨o5, ok⟩ := ok
  refine r_s0L (as := [.long (σ.2.1 8), .long (fX4_stands σ)]) C (zX3_held (σ.2.1 8) (fX4_stands σ) o5) ms_X3_held km_X4_75 (by decide) (by decide) ⟨Nat.le_refl _, Nat.le_refl _⟩ rfl rfl (Nat.le_of_ble_eq_true rfl) (dall tdX4_dropLoose 4 rfl) ?_
  refine r_lstore_n (lv' := [(1, .long (fX3_held (σ.2.1 8) (fX4_stands σ))), (0, .ref (q 12))]) C (dall tdX4_dropLoose 5 rfl) (by decide) rfl ?_
  refine r_iconst (v := 0) C (dall tdX4_dropLoose 6 rfl) (by decide) ?_
  refine r_istore_n (lv' := [(3, .int 0), (1, .long (fX3_held (σ.2.1 8) (fX4_stands σ))), (0, .ref (q 12))]) C (dall tdX4_dropLoose 7 rfl) (by decide) rfl ?_
  refine r_pick [2, 1, 0] rfl ?_
  exact lX4_dropLoose_14 (fX3_held (σ.2.1 8) (fX4_stands σ)) C hR  fu _ ok h
def fX4_dropLoose (σ : OS) : OS := pX4_dropLoose_0  σ
def gX4_dropLoose (σ : OS) : Prop := oX4_dropLoose_0  σ
set_option maxRecDepth 100000 in
theorem zX4_dropLoose (cy : Nat → ClassId) (q : Nat → Nat) (w0 : va_W)  {D : va_G} (σ : OS) (ok : gX4_dropLoose σ )  : Con yX4_dropLoose cX4_dropLoose 4 none 2 0 0 D (gty cy) [.ref (q 12)] (wX4 cy q w0 σ) (eV (wX4 cy q w0 (fX4_dropLoose σ ))) :=
  Con.of (own := RX4) (by decide +kernel) rfl (Nat.le_of_ble_eq_true rfl) (Nat.zero_le _) (fun X A C hR _ => (wX4_dropLoose_0 σ C hR  ok rfl))
theorem mv_X4_dropLoose : MV yX4_dropLoose cX4_dropLoose 4 none RX4 0 := ⟨ki_X4_dropLoose, kv_X4_dropLoose, kn_X4, kc_X4_dropLoose, by decide +kernel⟩
def tbX4_dropCell : List (Nat × Instr × Nat) := [(0, .iconst 0, 1), (1, .istore_n 2, 1), (2, .iload_n 2, 1), (3, .aload_n 0, 1), (4, .getfield 43, 3), (7, .if_icmp .ge 25, 3), (10, .aload_n 0, 1), (11, .getfield 21, 3), (14, .iload_n 2, 1), (15, .dup2, 1), (16, .laload, 1), (17, .lconst 1, 1), (18, .iload_n 1, 1), (19, .lshl, 1), (20, .ldc2_w 79, 3), (23, .lxor, 1), (24, .land, 1), (25, .lastore, 1), (26, .iinc 2 1, 3), (29, .goto (-27), 3), (32, .aload_n 0, 1), (33, .invokevirtual 81, 3), (36, .return_, 1)]
theorem tdX4_dropCell : tbX4_dropCell.all (fun q => decide (decode cX4_dropCell q.1 = .ok q.2)) = true := by decide +kernel
def pX4_dropCell_36  (σ : OS) : OS := σ
set_option maxHeartbeats 4000000 in
set_option maxRecDepth 100000 in
theorem wX4_dropCell_36 {X : CX} {cy : Nat → ClassId} {q : Nat → Nat} {w0 : va_W} {D : va_G} {A : Nat → Prop} {res : OS} (σ : OS) (C : Cx X cX4_dropCell RX4 3 D (gty cy) A 3 0 0) (hR : Rt X none D (gty cy) A 0 0 (eV (wX4 cy q w0 res)))  (h : pX4_dropCell_36  σ = res) : At X D A 3 0 0 36 [] [] (wX4 cy q w0 σ) := by
  unfold pX4_dropCell_36 at h
  exact r_vret C hR (dall tdX4_dropCell 22 rfl) (by subst h; exact ⟨rfl, rfl⟩)
def bX4_dropCell_2 (a1_ : Int32)  (kR2 : OS × Int32 → OS) (v : OS × Int32) : OS := if (v.1.1 4) ≤ v.2 then pX4_dropCell_36  (fX4_dropLoose v.1) else kR2 (oT v.1 3 v.2.toNatClampNeg ((v.1.2.2.2 3 v.2.toNatClampNeg) &&& ((jshl 1 a1_) ^^^ (-1))), v.2 + 1)
def kX4_dropCell_2 (a1_ : Int32)  (kO2 : OS × Int32 → Prop) (v : OS × Int32) : Prop := ((v.1.1 4) ≤ v.2 → gX4_dropLoose v.1 ) ∧ (¬ ((v.1.1 4) ≤ v.2) → (vp_in v.2 5) ∧ ((vp_in v.2 5) ∧ (kO2 (oT v.1 3 v.2.toNatClampNeg ((v.1.2.2.2 3 v.2.toNatClampNeg) &&& ((jshl 1 a1_) ^^^ (-1))), v.2 + 1))))
set_option maxHeartbeats 4000000 in
set_option maxRecDepth 100000 in
theorem wX4_dropCell_2 {X : CX} {cy : Nat → ClassId} {q : Nat → Nat} {w0 : va_W} {D : va_G} {A : Nat → Prop} {res : OS} (a1_ : Int32) (C : Cx X cX4_dropCell RX4 3 D (gty cy) A 3 0 0) (hR : Rt X none D (gty cy) A 0 0 (eV (wX4 cy q w0 res))) (kR2 : OS × Int32 → OS) (kO2 : OS × Int32 → Prop) (hk2 : ∀ z, kO2 z → kR2 z = res → At X D A 3 0 0 2 [(0, .ref (q 12)), (1, .int a1_), (2, .int z.2)] [] (wX4 cy q w0 z.1)) (v : OS × Int32) (ok : kX4_dropCell_2 a1_ kO2 v) (h : bX4_dropCell_2 a1_ kR2 v = res) : At X D A 3 0 0 2 [(0, .ref (q 12)), (1, .int a1_), (2, .int v.2)] [] (wX4 cy q w0 v.1) := by
  unfold bX4_dropCell_2 at h
  unfold kX4_dropCell_2 at ok
  refine r_iload_n C 2 (dall tdX4_dropCell 2 rfl) rfl ?_
  refine r_aload_n C 0 (dall tdX4_dropCell 3 rfl) rfl ?_
  refine r_get C 0 kw_X4 rfl rfl (by decide) kf_X4_43 rfl rfl (dall tdX4_dropCell 4 rfl) ?_
  refine r_icmp_ge (tgt := 32) C (dall tdX4_dropCell 5 rfl) (by decide) (fun c1 => ?_) (fun c1 => ?_)
  · have h := (if_pos c1).symm.trans h
    have ok := ok.1 c1
    refine r_aload_n C 0 (dall tdX4_dropCell 20 rfl) rfl ?_
    have o2 := ok
    refine r_vV (as := []) C (zX4_dropLoose cy q w0 v.1  o2) mv_X4_dropLoose km_X4_81 (by decide) (by decide) ⟨Nat.le_refl _, Nat.le_refl _⟩ rfl rfl rfl rfl (Nat.le_of_ble_eq_true rfl) (dall tdX4_dropCell 21 rfl) ?_
    refine r_pick [] rfl ?_
    exact wX4_dropCell_36 (fX4_dropLoose v.1) C hR  h
  · have h := (if_neg c1).symm.trans h
    have ok := ok.2 c1
    refine r_aload_n C 0 (dall tdX4_dropCell 6 rfl) rfl ?_
    refine r_get C 0 kw_X4 rfl rfl (by decide) kf_X4_21 rfl rfl (dall tdX4_dropCell 7 rfl) ?_
    refine r_iload_n C 2 (dall tdX4_dropCell 8 rfl) rfl ?_
    refine r_dup2_11 C (dall tdX4_dropCell 9 rfl) rfl rfl ?_
    obtain ⟨o3, ok⟩ := ok
    refine r_lald C 4 1 rfl rfl o3 (dall tdX4_dropCell 10 rfl) ?_
    refine r_lconst (v := 1) C (dall tdX4_dropCell 11 rfl) (by decide) ?_
    refine r_iload_n C 1 (dall tdX4_dropCell 12 rfl) rfl ?_
    refine r_lshl C (dall tdX4_dropCell 13 rfl) ?_
    refine r_ldc2 C kk_X4_79 (dall tdX4_dropCell 14 rfl) ?_
    refine r_lxor C (dall tdX4_dropCell 15 rfl) ?_
    refine r_land C (dall tdX4_dropCell 16 rfl) ?_
    obtain ⟨o4, ok⟩ := ok
    refine r_last C 4 1 rfl rfl o4 (pa_X4_this_3 cy q w0 v.1 v.2.toNatClampNeg ((v.1.2.2.2 3 v.2.toNatClampNeg) &&& ((jshl 1 a1_) ^^^ (-1)))) (dall tdX4_dropCell 17 rfl) ?_
    refine r_iinc (v := v.2 + 1) (lv' := [(2, .int (v.2 + 1)), (0, .ref (q 12)), (1, .int a1_)]) C 2 (dall tdX4_dropCell 18 rfl) rfl rfl (by decide) rfl ?_
    refine r_goto (tgt := 2) C (dall tdX4_dropCell 19 rfl) (by decide) ?_
    refine r_pick [1, 2, 0] rfl ?_
    exact hk2 (oT v.1 3 v.2.toNatClampNeg ((v.1.2.2.2 3 v.2.toNatClampNeg) &&& ((jshl 1 a1_) ^^^ (-1))), v.2 + 1) ok h
set_option maxHeartbeats 4000000 in
set_option maxRecDepth 100000 in
theorem lX4_dropCell_2 {X : CX} {cy : Nat → ClassId} {q : Nat → Nat} {w0 : va_W} {D : va_G} {A : Nat → Prop} {res : OS} (a1_ : Int32) (C : Cx X cX4_dropCell RX4 3 D (gty cy) A 3 0 0) (hR : Rt X none D (gty cy) A 0 0 (eV (wX4 cy q w0 res)))  (n : Nat) (v : OS × Int32) (ok : lpOk (kX4_dropCell_2 a1_ ) n v) (h : lp o0 (bX4_dropCell_2 a1_ ) n v = res) : At X D A 3 0 0 2 [(0, .ref (q 12)), (1, .int a1_), (2, .int v.2)] [] (wX4 cy q w0 v.1) :=
  lp_rule (fun v rr_ => rr_ = res → At X D A 3 0 0 2 [(0, .ref (q 12)), (1, .int a1_), (2, .int v.2)] [] (wX4 cy q w0 v.1)) (fun kR kO hk v ok h => wX4_dropCell_2 a1_ C hR  kR kO hk v ok h) n v ok h
def pX4_dropCell_0  (σ : OS) (a1_ : Int32) : OS := lp o0 (bX4_dropCell_2 a1_ ) fu (σ, 0)
def oX4_dropCell_0  (σ : OS) (a1_ : Int32) : Prop := lpOk (kX4_dropCell_2 a1_ ) fu (σ, 0)
set_option maxHeartbeats 4000000 in
set_option maxRecDepth 100000 in
theorem wX4_dropCell_0 {X : CX} {cy : Nat → ClassId} {q : Nat → Nat} {w0 : va_W} {D : va_G} {A : Nat → Prop} {res : OS} (σ : OS) (a1_ : Int32) (C : Cx X cX4_dropCell RX4 3 D (gty cy) A 3 0 0) (hR : Rt X none D (gty cy) A 0 0 (eV (wX4 cy q w0 res)))  (ok : oX4_dropCell_0  σ a1_) (h : pX4_dropCell_0  σ a1_ = res) : At X D A 3 0 0 0 [(0, .ref (q 12)), (1, .int a1_)] [] (wX4 cy q w0 σ) := by
  unfold pX4_dropCell_0 at h
  unfold oX4_dropCell_0 at ok
  refine r_iconst (v := 0) C (dall tdX4_dropCell 0 rfl) (by decide) ?_
  refine r_istore_n (lv' := [(2, .int 0), (0, .ref (q 12)), (1, .int a1_)]) C (dall tdX4_dropCell 1 rfl) (by decide) rfl ?_
  refine r_pick [1, 2, 0] rfl ?_
  exact lX4_dropCell_2 a1_ C hR  fu _ ok h
def fX4_dropCell (σ : OS) (a1_ : Int32) : OS := pX4_dropCell_0  σ a1_
def gX4_dropCell (σ : OS) (a1_ : Int32) : Prop := oX4_dropCell_0  σ a1_
set_option maxRecDepth 100000 in
theorem zX4_dropCell (cy : Nat → ClassId) (q : Nat → Nat) (w0 : va_W)  {D : va_G} (σ : OS) (a1_ : Int32) (ok : gX4_dropCell σ a1_)  : Con yX4_dropCell cX4_dropCell 3 none 3 0 0 D (gty cy) [.ref (q 12), .int a1_] (wX4 cy q w0 σ) (eV (wX4 cy q w0 (fX4_dropCell σ a1_))) :=
  Con.of (own := RX4) (by decide +kernel) rfl (Nat.le_of_ble_eq_true rfl) (Nat.zero_le _) (fun X A C hR _ => (wX4_dropCell_0 σ a1_ C hR  ok rfl))
theorem mv_X4_dropCell : MV yX4_dropCell cX4_dropCell 3 none RX4 1 := ⟨ki_X4_dropCell, kv_X4_dropCell, kn_X4, kc_X4_dropCell, by decide +kernel⟩
def tbX4_highestCell : List (Nat × Instr × Nat) := [(0, .bipush 63, 2), (2, .aload_n 0, 1), (3, .getfield 21, 3), (6, .iload_n 1, 1), (7, .laload, 1), (8, .invokestatic 84, 3), (11, .isub, 1), (12, .ireturn, 1)]
theorem tdX4_highestCell : tbX4_highestCell.all (fun q => decide (decode cX4_highestCell q.1 = .ok q.2)) = true := by decide +kernel
def pX4_highestCell_0  (σ : OS) (a1_ : Int32) : Int32 := 63 - (fJ13_numberOfLeadingZeros_95d88 (σ.2.2.2 3 a1_.toNatClampNeg))
def oX4_highestCell_0  (σ : OS) (a1_ : Int32) : Prop := vp_in a1_ 5
set_option maxHeartbeats 4000000 in
set_option maxRecDepth 100000 in
theorem wX4_highestCell_0 {X : CX} {cy : Nat → ClassId} {q : Nat → Nat} {w0 : va_W} {D : va_G} {A : Nat → Prop} {res : Int32} (σ : OS) (a1_ : Int32) (C : Cx X cX4_highestCell RX4 2 D (gty cy) A 2 0 0) (hR : Rt X (some .int) D (gty cy) A 0 0 (eI (wX4 cy q w0 σ) res))  (ok : oX4_highestCell_0  σ a1_) (h : pX4_highestCell_0  σ a1_ = res) : At X D A 2 0 0 0 [(0, .ref (q 12)), (1, .int a1_)] [] (wX4 cy q w0 σ) := by
  unfold pX4_highestCell_0 at h
  unfold oX4_highestCell_0 at ok
  refine r_bipush (v := 63) C (dall tdX4_highestCell 0 rfl) (by decide) ?_
  refine r_aload_n C 0 (dall tdX4_highestCell 1 rfl) rfl ?_
  refine r_get C 0 kw_X4 rfl rfl (by decide) kf_X4_21 rfl rfl (dall tdX4_highestCell 2 rfl) ?_
  refine r_iload_n C 1 (dall tdX4_highestCell 3 rfl) rfl ?_
  have o1 := ok
  refine r_lald C 4 1 rfl rfl o1 (dall tdX4_highestCell 4 rfl) ?_
  refine r_s0I (as := [.long (σ.2.2.2 3 a1_.toNatClampNeg)]) C (zJ13_numberOfLeadingZeros_95d88 (σ.2.2.2 3 a1_.toNatClampNeg) ) ms_J13_numberOfLeadingZeros_95d88 km_X4_84 (by decide) (by decide) ⟨Nat.le_refl _, Nat.le_refl _⟩ rfl rfl (Nat.le_of_ble_eq_true rfl) (dall tdX4_highestCell 5 rfl) ?_
  refine r_isub C (dall tdX4_highestCell 6 rfl) ?_
  exact r_iret C hR (dall tdX4_highestCell 7 rfl) (by subst h; exact ⟨rfl, rfl⟩)
def fX4_highestCell (σ : OS) (a1_ : Int32) : Int32 := pX4_highestCell_0  σ a1_
def gX4_highestCell (σ : OS) (a1_ : Int32) : Prop := oX4_highestCell_0  σ a1_
set_option maxRecDepth 100000 in
theorem zX4_highestCell (cy : Nat → ClassId) (q : Nat → Nat) (w0 : va_W)  {D : va_G} (σ : OS) (a1_ : Int32) (ok : gX4_highestCell σ a1_)  : Con yX4_highestCell cX4_highestCell 2 (some .int) 2 0 0 D (gty cy) [.ref (q 12), .int a1_] (wX4 cy q w0 σ) (eI (wX4 cy q w0 σ) (fX4_highestCell σ a1_)) :=
  Con.of (own := RX4) (by decide +kernel) rfl (Nat.le_of_ble_eq_true rfl) (Nat.zero_le _) (fun X A C hR _ => (wX4_highestCell_0 σ a1_ C hR  ok rfl))
theorem mv_X4_highestCell : MV yX4_highestCell cX4_highestCell 2 (some .int) RX4 1 := ⟨ki_X4_highestCell, kv_X4_highestCell, kn_X4, kc_X4_highestCell, by decide +kernel⟩
def tbX4_fallWithout : List (Nat × Instr × Nat) := [(0, .aload_n 0, 1), (1, .invokevirtual 72, 3), (4, .lconst 1, 1), (5, .iload_n 1, 1), (6, .lshl, 1), (7, .ldc2_w 79, 3), (10, .lxor, 1), (11, .land, 1), (12, .lstore_n 2, 1), (13, .lload_n 2, 1), (14, .aload_n 0, 1), (15, .getfield 27, 3), (18, .lload_n 2, 1), (19, .invokestatic 75, 3), (22, .ldc2_w 79, 3), (25, .lxor, 1), (26, .land, 1), (27, .invokestatic 60, 3), (30, .ireturn, 1)]
theorem tdX4_fallWithout : tbX4_fallWithout.all (fun q => decide (decode cX4_fallWithout q.1 = .ok q.2)) = true := by decide +kernel
def pX4_fallWithout_0  (σ : OS) (a1_ : Int32) : Int32 := fJ13_bitCount_95d88 (((fX4_stands σ) &&& ((jshl 1 a1_) ^^^ (-1))) &&& ((fX3_held (σ.2.1 8) ((fX4_stands σ) &&& ((jshl 1 a1_) ^^^ (-1)))) ^^^ (-1)))
def oX4_fallWithout_0  (σ : OS) (a1_ : Int32) : Prop := (gX4_stands σ ) ∧ (gX3_held (σ.2.1 8) ((fX4_stands σ) &&& ((jshl 1 a1_) ^^^ (-1))))
set_option maxHeartbeats 4000000 in
set_option maxRecDepth 100000 in
theorem wX4_fallWithout_0 {X : CX} {cy : Nat → ClassId} {q : Nat → Nat} {w0 : va_W} {D : va_G} {A : Nat → Prop} {res : Int32} (σ : OS) (a1_ : Int32) (C : Cx X cX4_fallWithout RX4 4 D (gty cy) A 2 0 0) (hR : Rt X (some .int) D (gty cy) A 0 0 (eI (wX4 cy q w0 σ) res))  (ok : oX4_fallWithout_0  σ a1_) (h : pX4_fallWithout_0  σ a1_ = res) : At X D A 4 0 0 0 [(0, .ref (q 12)), (1, .int a1_)] [] (wX4 cy q w0 σ) := by
  unfold pX4_fallWithout_0 at h
  unfold oX4_fallWithout_0 at ok
  refine r_aload_n C 0 (dall tdX4_fallWithout 0 rfl) rfl ?_
  obtain ⟨o1, ok⟩ := ok
  refine r_vL (as := []) C (zX4_stands cy q w0 σ  o1) mv_X4_stands km_X4_72 (by decide) (by decide) ⟨Nat.le_refl _, Nat.le_refl _⟩ rfl rfl rfl rfl (Nat.le_of_ble_eq_true rfl) (dall tdX4_fallWithout 1 rfl) ?_
  refine r_lconst (v := 1) C (dall tdX4_fallWithout 2 rfl) (by decide) ?_
  refine r_iload_n C 1 (dall tdX4_fallWithout 3 rfl) rfl ?_
  refine r_lshl C (dall tdX4_fallWithout 4 rfl) ?_
  refine r_ldc2 C kk_X4_79 (dall tdX4_fallWithout 5 rfl) ?_
  refine r_lxor C (dall tdX4_fallWithout 6 rfl) ?_
  refine r_land C (dall tdX4_fallWithout 7 rfl) ?_
  refine r_lstore_n (lv' := [(2, .long ((fX4_stands σ) &&& ((jshl 1 a1_) ^^^ (-1)))), (0, .ref (q 12)), (1, .int a1_)]) C (dall tdX4_fallWithout 8 rfl) (by decide) rfl ?_
  refine r_lload_n C 0 (dall tdX4_fallWithout 9 rfl) rfl ?_
  refine r_aload_n C 1 (dall tdX4_fallWithout 10 rfl) rfl ?_
  refine r_get C 0 kw_X4 rfl rfl (by decide) kf_X4_27 rfl rfl (dall tdX4_fallWithout 11 rfl) ?_
  refine r_lload_n C 0 (dall tdX4_fallWithout 12 rfl) rfl ?_
  have o2 := ok
  refine r_s0L (as := [.long (σ.2.1 8), .long ((fX4_stands σ) &&& ((jshl 1 a1_) ^^^ (-1)))]) C (zX3_held (σ.2.1 8) ((fX4_stands σ) &&& ((jshl 1 a1_) ^^^ (-1))) o2) ms_X3_held km_X4_75 (by decide) (by decide) ⟨Nat.le_refl _, Nat.le_refl _⟩ rfl rfl (Nat.le_of_ble_eq_true rfl) (dall tdX4_fallWithout 13 rfl) ?_
  refine r_ldc2 C kk_X4_79 (dall tdX4_fallWithout 14 rfl) ?_
  refine r_lxor C (dall tdX4_fallWithout 15 rfl) ?_
  refine r_land C (dall tdX4_fallWithout 16 rfl) ?_
  refine r_s0I (as := [.long (((fX4_stands σ) &&& ((jshl 1 a1_) ^^^ (-1))) &&& ((fX3_held (σ.2.1 8) ((fX4_stands σ) &&& ((jshl 1 a1_) ^^^ (-1)))) ^^^ (-1)))]) C (zJ13_bitCount_95d88 (((fX4_stands σ) &&& ((jshl 1 a1_) ^^^ (-1))) &&& ((fX3_held (σ.2.1 8) ((fX4_stands σ) &&& ((jshl 1 a1_) ^^^ (-1)))) ^^^ (-1))) ) ms_J13_bitCount_95d88 km_X4_60 (by decide) (by decide) ⟨Nat.le_refl _, Nat.le_refl _⟩ rfl rfl (Nat.le_of_ble_eq_true rfl) (dall tdX4_fallWithout 17 rfl) ?_
  exact r_iret C hR (dall tdX4_fallWithout 18 rfl) (by subst h; exact ⟨rfl, rfl⟩)
def fX4_fallWithout (σ : OS) (a1_ : Int32) : Int32 := pX4_fallWithout_0  σ a1_
def gX4_fallWithout (σ : OS) (a1_ : Int32) : Prop := oX4_fallWithout_0  σ a1_
set_option maxRecDepth 100000 in
theorem zX4_fallWithout (cy : Nat → ClassId) (q : Nat → Nat) (w0 : va_W)  {D : va_G} (σ : OS) (a1_ : Int32) (ok : gX4_fallWithout σ a1_)  : Con yX4_fallWithout cX4_fallWithout 4 (some .int) 2 0 0 D (gty cy) [.ref (q 12), .int a1_] (wX4 cy q w0 σ) (eI (wX4 cy q w0 σ) (fX4_fallWithout σ a1_)) :=
  Con.of (own := RX4) (by decide +kernel) rfl (Nat.le_of_ble_eq_true rfl) (Nat.zero_le _) (fun X A C hR _ => (wX4_fallWithout_0 σ a1_ C hR  ok rfl))
theorem mv_X4_fallWithout : MV yX4_fallWithout cX4_fallWithout 4 (some .int) RX4 1 := ⟨ki_X4_fallWithout, kv_X4_fallWithout, kn_X4, kc_X4_fallWithout, by decide +kernel⟩
end
section
abbrev fX1 (q : Nat → Nat) (σ : OS) : List Value := [.ref (q 0), .int (σ.1 1), .int (σ.1 2)]
def wX1 (cy : Nat → ClassId) (q : Nat → Nat) (σ : OS) : va_W := (q 3, .inr (1, fX1 q σ)) :: (q 0, .inl (cy 0, 40, .inl (σ.2.2.1 0))) :: []
theorem pu_X1_this_1 (cy : Nat → ClassId) (q : Nat → Nat) (σ : OS) (v : Int32) : (wX1 cy q σ).set 0 (q 3, .inr (1, (fX1 q σ).set 1 (.int v))) = wX1 cy q (oI σ 1 v) := rfl
theorem pu_X1_this_2 (cy : Nat → ClassId) (q : Nat → Nat) (σ : OS) (v : Int32) : (wX1 cy q σ).set 0 (q 3, .inr (1, (fX1 q σ).set 2 (.int v))) = wX1 cy q (oI σ 2 v) := rfl
theorem pa_X1_this_0 (cy : Nat → ClassId) (q : Nat → Nat) (σ : OS) (i : Nat) (x : Int32) : (wX1 cy q σ).set 1 (q 0, .inl (cy 0, 40, .inl (upd (σ.2.2.1 0) i x))) = wX1 cy q (oS σ 0 i x) := rfl
def tbX1_isMissing : List (Nat × Instr × Nat) := [(0, .aload_n 0, 1), (1, .getfield 15, 3), (4, .iconst (-1), 1), (5, .if_icmp .ne 7, 3), (8, .iconst 1, 1), (9, .goto 4, 3), (12, .iconst 0, 1), (13, .ireturn, 1)]
theorem tdX1_isMissing : tbX1_isMissing.all (fun q => decide (decode cX1_isMissing q.1 = .ok q.2)) = true := by decide +kernel
def pX1_isMissing_0  (σ : OS) : Int32 := if (σ.1 1) = (-1) then 1 else 0
set_option maxHeartbeats 4000000 in
set_option maxRecDepth 100000 in
theorem wX1_isMissing_0 {X : CX} {cy : Nat → ClassId} {q : Nat → Nat} {D : va_G} {A : Nat → Prop} {res : Int32} (σ : OS) (C : Cx X cX1_isMissing RX1 1 D (gty cy) A 0 0 0) (hR : Rt X (some .boolean) D (gty cy) A 0 0 (eI (wX1 cy q σ) res))  (h : pX1_isMissing_0  σ = res) : At X D A 1 0 0 0 [(0, .ref (q 3))] [] (wX1 cy q σ) := by
  unfold pX1_isMissing_0 at h
  refine r_aload_n C 0 (dall tdX1_isMissing 0 rfl) rfl ?_
  refine r_get C 0 kw_X1 rfl rfl (by decide) kf_X1_15 rfl rfl (dall tdX1_isMissing 1 rfl) ?_
  refine r_iconst (v := -1) C (dall tdX1_isMissing 2 rfl) (by decide) ?_
  refine r_icmp_ne (tgt := 12) C (dall tdX1_isMissing 3 rfl) (by decide) (fun c1 => ?_) (fun c1 => ?_)
  · have h := (if_neg c1).symm.trans h
    refine r_iconst (v := 0) C (dall tdX1_isMissing 6 rfl) (by decide) ?_
    exact r_zret C (by decide) hR (dall tdX1_isMissing 7 rfl) (by subst h; exact ⟨rfl, rfl⟩)
  · have h := (if_pos c1).symm.trans h
    refine r_iconst (v := 1) C (dall tdX1_isMissing 4 rfl) (by decide) ?_
    refine r_goto (tgt := 13) C (dall tdX1_isMissing 5 rfl) (by decide) ?_
    exact r_zret C (by decide) hR (dall tdX1_isMissing 7 rfl) (by subst h; exact ⟨rfl, rfl⟩)
def fX1_isMissing (σ : OS) : Int32 := pX1_isMissing_0  σ
set_option maxRecDepth 100000 in
theorem zX1_isMissing (cy : Nat → ClassId) (q : Nat → Nat)  {D : va_G} (σ : OS)  : Con yX1_isMissing cX1_isMissing 1 (some .boolean) 0 0 0 D (gty cy) [.ref (q 3)] (wX1 cy q σ) (eI (wX1 cy q σ) (fX1_isMissing σ )) :=
  Con.of (own := RX1) (by decide +kernel) rfl (Nat.le_of_ble_eq_true rfl) (Nat.zero_le _) (fun X A C hR _ => (wX1_isMissing_0 σ C hR  rfl))
theorem mv_X1_isMissing : MV yX1_isMissing cX1_isMissing 1 (some .boolean) RX1 0 := ⟨ki_X1_isMissing, kv_X1_isMissing, kn_X1, kc_X1_isMissing, by decide +kernel⟩
def tbX1_put : List (Nat × Instr × Nat) := [(0, .aload_n 0, 1), (1, .getfield 9, 3), (4, .iload_n 1, 1), (5, .aload_n 0, 1), (6, .getfield 15, 3), (9, .ifCond .ne 8, 3), (12, .iload_n 2, 1), (13, .i2b, 1), (14, .goto 17, 3), (17, .aload_n 0, 1), (18, .getfield 15, 3), (21, .iconst 1, 1), (22, .if_icmp .ne 8, 3), (25, .iload_n 2, 1), (26, .i2s, 1), (27, .goto 4, 3), (30, .iload_n 2, 1), (31, .iastore, 1), (32, .return_, 1)]
theorem tdX1_put : tbX1_put.all (fun q => decide (decode cX1_put q.1 = .ok q.2)) = true := by decide +kernel
def pX1_put_31  (σ : OS) (b0_ : Int32) (b1_ : Int32) : OS := oS σ 0 b1_.toNatClampNeg b0_
def oX1_put_31  (σ : OS) (b0_ : Int32) (b1_ : Int32) : Prop := vp_in b1_ 40
set_option maxHeartbeats 4000000 in
set_option maxRecDepth 100000 in
theorem wX1_put_31 {X : CX} {cy : Nat → ClassId} {q : Nat → Nat} {D : va_G} {A : Nat → Prop} {res : OS} (σ : OS) (b0_ : Int32) (b1_ : Int32) (C : Cx X cX1_put RX1 3 D (gty cy) A 0 0 0) (hR : Rt X none D (gty cy) A 0 0 (eV (wX1 cy q res)))  (ok : oX1_put_31  σ b0_ b1_) (h : pX1_put_31  σ b0_ b1_ = res) : At X D A 3 0 0 31 [] [.int b0_, .int b1_, .ref (q 0)] (wX1 cy q σ) := by
  unfold pX1_put_31 at h
  unfold oX1_put_31 at ok
  have o1 := ok
  refine r_iast C 1 0 rfl rfl o1 (pa_X1_this_0 cy q σ b1_.toNatClampNeg b0_) (dall tdX1_put 17 rfl) ?_
  exact r_vret C hR (dall tdX1_put 18 rfl) (by subst h; exact ⟨rfl, rfl⟩)
def pX1_put_0  (σ : OS) (a1_ : Int32) (a2_ : Int32) : OS := if (σ.1 1) = 0 then pX1_put_31  σ a2_.toInt8.toInt32 a1_ else if (σ.1 1) = 1 then pX1_put_31  σ a2_.toInt16.toInt32 a1_ else pX1_put_31  σ a2_ a1_
def oX1_put_0  (σ : OS) (a1_ : Int32) (a2_ : Int32) : Prop := ((σ.1 1) = 0 → oX1_put_31  σ a2_.toInt8.toInt32 a1_) ∧ (¬ ((σ.1 1) = 0) → ((σ.1 1) = 1 → oX1_put_31  σ a2_.toInt16.toInt32 a1_) ∧ (¬ ((σ.1 1) = 1) → oX1_put_31  σ a2_ a1_))
set_option maxHeartbeats 4000000 in
set_option maxRecDepth 100000 in
theorem wX1_put_0 {X : CX} {cy : Nat → ClassId} {q : Nat → Nat} {D : va_G} {A : Nat → Prop} {res : OS} (σ : OS) (a1_ : Int32) (a2_ : Int32) (C : Cx X cX1_put RX1 3 D (gty cy) A 0 0 0) (hR : Rt X none D (gty cy) A 0 0 (eV (wX1 cy q res)))  (ok : oX1_put_0  σ a1_ a2_) (h : pX1_put_0  σ a1_ a2_ = res) : At X D A 3 0 0 0 [(0, .ref (q 3)), (1, .int a1_), (2, .int a2_)] [] (wX1 cy q σ) := by
  unfold pX1_put_0 at h
  unfold oX1_put_0 at ok
  refine r_aload_n C 0 (dall tdX1_put 0 rfl) rfl ?_
  refine r_get C 0 kw_X1 rfl rfl (by decide) kf_X1_9 rfl rfl (dall tdX1_put 1 rfl) ?_
  refine r_iload_n C 1 (dall tdX1_put 2 rfl) rfl ?_
  refine r_aload_n C 0 (dall tdX1_put 3 rfl) rfl ?_
  refine r_get C 0 kw_X1 rfl rfl (by decide) kf_X1_15 rfl rfl (dall tdX1_put 4 rfl) ?_
  refine r_if_ne (tgt := 17) C (dall tdX1_put 5 rfl) (by decide) (fun c2 => ?_) (fun c2 => ?_)
  · have h := (if_neg c2).symm.trans h
    have ok := ok.2 c2
    refine r_aload_n C 0 (dall tdX1_put 9 rfl) rfl ?_
    refine r_get C 0 kw_X1 rfl rfl (by decide) kf_X1_15 rfl rfl (dall tdX1_put 10 rfl) ?_
    refine r_iconst (v := 1) C (dall tdX1_put 11 rfl) (by decide) ?_
    refine r_icmp_ne (tgt := 30) C (dall tdX1_put 12 rfl) (by decide) (fun c3 => ?_) (fun c3 => ?_)
    · have h := (if_neg c3).symm.trans h
      have ok := ok.2 c3
      refine r_iload_n C 2 (dall tdX1_put 16 rfl) rfl ?_
      refine r_pick [] rfl ?_
      exact wX1_put_31 σ a2_ a1_ C hR  ok h
    · have h := (if_pos c3).symm.trans h
      have ok := ok.1 c3
      refine r_iload_n C 2 (dall tdX1_put 13 rfl) rfl ?_
      refine r_i2s C (dall tdX1_put 14 rfl) ?_
      refine r_goto (tgt := 31) C (dall tdX1_put 15 rfl) (by decide) ?_
      refine r_pick [] rfl ?_
      exact wX1_put_31 σ a2_.toInt16.toInt32 a1_ C hR  ok h
  · have h := (if_pos c2).symm.trans h
    have ok := ok.1 c2
    refine r_iload_n C 2 (dall tdX1_put 6 rfl) rfl ?_
    refine r_i2b C (dall tdX1_put 7 rfl) ?_
    refine r_goto (tgt := 31) C (dall tdX1_put 8 rfl) (by decide) ?_
    refine r_pick [] rfl ?_
    exact wX1_put_31 σ a2_.toInt8.toInt32 a1_ C hR  ok h
def fX1_put (σ : OS) (a1_ : Int32) (a2_ : Int32) : OS := pX1_put_0  σ a1_ a2_
def gX1_put (σ : OS) (a1_ : Int32) (a2_ : Int32) : Prop := oX1_put_0  σ a1_ a2_
set_option maxRecDepth 100000 in
theorem zX1_put (cy : Nat → ClassId) (q : Nat → Nat)  {D : va_G} (σ : OS) (a1_ : Int32) (a2_ : Int32) (ok : gX1_put σ a1_ a2_)  : Con yX1_put cX1_put 3 none 0 0 0 D (gty cy) [.ref (q 3), .int a1_, .int a2_] (wX1 cy q σ) (eV (wX1 cy q (fX1_put σ a1_ a2_))) :=
  Con.of (own := RX1) (by decide +kernel) rfl (Nat.le_of_ble_eq_true rfl) (Nat.zero_le _) (fun X A C hR _ => (wX1_put_0 σ a1_ a2_ C hR  ok rfl))
theorem mv_X1_put : MV yX1_put cX1_put 3 none RX1 2 := ⟨ki_X1_put, kv_X1_put, kn_X1, kc_X1_put, by decide +kernel⟩
def tbX1_hasRange : List (Nat × Instr × Nat) := [(0, .iload_n 2, 1), (1, .ifCond .lt 29, 3), (4, .iload_n 2, 1), (5, .aload_n 0, 1), (6, .getfield 19, 3), (9, .if_icmp .gt 21, 3), (12, .iload_n 1, 1), (13, .ifCond .lt 17, 3), (16, .iload_n 1, 1), (17, .aload_n 0, 1), (18, .getfield 19, 3), (21, .iload_n 2, 1), (22, .isub, 1), (23, .if_icmp .gt 7, 3), (26, .iconst 1, 1), (27, .goto 4, 3), (30, .iconst 0, 1), (31, .ireturn, 1)]
theorem tdX1_hasRange : tbX1_hasRange.all (fun q => decide (decode cX1_hasRange q.1 = .ok q.2)) = true := by decide +kernel
def pX1_hasRange_0  (σ : OS) (a1_ : Int32) (a2_ : Int32) : Int32 := if a2_ < 0 then 0 else if (σ.1 2) < a2_ then 0 else if a1_ < 0 then 0 else if ((σ.1 2) - a2_) < a1_ then 0 else 1
set_option maxHeartbeats 4000000 in
set_option maxRecDepth 100000 in
theorem wX1_hasRange_0 {X : CX} {cy : Nat → ClassId} {q : Nat → Nat} {D : va_G} {A : Nat → Prop} {res : Int32} (σ : OS) (a1_ : Int32) (a2_ : Int32) (C : Cx X cX1_hasRange RX1 3 D (gty cy) A 0 0 0) (hR : Rt X (some .boolean) D (gty cy) A 0 0 (eI (wX1 cy q σ) res))  (h : pX1_hasRange_0  σ a1_ a2_ = res) : At X D A 3 0 0 0 [(0, .ref (q 3)), (1, .int a1_), (2, .int a2_)] [] (wX1 cy q σ) := by
  unfold pX1_hasRange_0 at h
  refine r_iload_n C 2 (dall tdX1_hasRange 0 rfl) rfl ?_
  refine r_if_lt (tgt := 30) C (dall tdX1_hasRange 1 rfl) (by decide) (fun c1 => ?_) (fun c1 => ?_)
  · have h := (if_pos c1).symm.trans h
    refine r_iconst (v := 0) C (dall tdX1_hasRange 16 rfl) (by decide) ?_
    exact r_zret C (by decide) hR (dall tdX1_hasRange 17 rfl) (by subst h; exact ⟨rfl, rfl⟩)
  · have h := (if_neg c1).symm.trans h
    refine r_iload_n C 2 (dall tdX1_hasRange 2 rfl) rfl ?_
    refine r_aload_n C 0 (dall tdX1_hasRange 3 rfl) rfl ?_
    refine r_get C 0 kw_X1 rfl rfl (by decide) kf_X1_19 rfl rfl (dall tdX1_hasRange 4 rfl) ?_
    refine r_icmp_gt (tgt := 30) C (dall tdX1_hasRange 5 rfl) (by decide) (fun c2 => ?_) (fun c2 => ?_)
    · have h := (if_pos c2).symm.trans h
      refine r_iconst (v := 0) C (dall tdX1_hasRange 16 rfl) (by decide) ?_
      exact r_zret C (by decide) hR (dall tdX1_hasRange 17 rfl) (by subst h; exact ⟨rfl, rfl⟩)
    · have h := (if_neg c2).symm.trans h
      refine r_iload_n C 1 (dall tdX1_hasRange 6 rfl) rfl ?_
      refine r_if_lt (tgt := 30) C (dall tdX1_hasRange 7 rfl) (by decide) (fun c3 => ?_) (fun c3 => ?_)
      · have h := (if_pos c3).symm.trans h
        refine r_iconst (v := 0) C (dall tdX1_hasRange 16 rfl) (by decide) ?_
        exact r_zret C (by decide) hR (dall tdX1_hasRange 17 rfl) (by subst h; exact ⟨rfl, rfl⟩)
      · have h := (if_neg c3).symm.trans h
        refine r_iload_n C 1 (dall tdX1_hasRange 8 rfl) rfl ?_
        refine r_aload_n C 0 (dall tdX1_hasRange 9 rfl) rfl ?_
        refine r_get C 0 kw_X1 rfl rfl (by decide) kf_X1_19 rfl rfl (dall tdX1_hasRange 10 rfl) ?_
        refine r_iload_n C 2 (dall tdX1_hasRange 11 rfl) rfl ?_
        refine r_isub C (dall tdX1_hasRange 12 rfl) ?_
        refine r_icmp_gt (tgt := 30) C (dall tdX1_hasRange 13 rfl) (by decide) (fun c4 => ?_) (fun c4 => ?_)
        · have h := (if_pos c4).symm.trans h
          refine r_iconst (v := 0) C (dall tdX1_hasRange 16 rfl) (by decide) ?_
          exact r_zret C (by decide) hR (dall tdX1_hasRange 17 rfl) (by subst h; exact ⟨rfl, rfl⟩)
        · have h := (if_neg c4).symm.trans h
          refine r_iconst (v := 1) C (dall tdX1_hasRange 14 rfl) (by decide) ?_
          refine r_goto (tgt := 31) C (dall tdX1_hasRange 15 rfl) (by decide) ?_
          exact r_zret C (by decide) hR (dall tdX1_hasRange 17 rfl) (by subst h; exact ⟨rfl, rfl⟩)
def fX1_hasRange (σ : OS) (a1_ : Int32) (a2_ : Int32) : Int32 := pX1_hasRange_0  σ a1_ a2_
set_option maxRecDepth 100000 in
theorem zX1_hasRange (cy : Nat → ClassId) (q : Nat → Nat)  {D : va_G} (σ : OS) (a1_ : Int32) (a2_ : Int32)  : Con yX1_hasRange cX1_hasRange 3 (some .boolean) 0 0 0 D (gty cy) [.ref (q 3), .int a1_, .int a2_] (wX1 cy q σ) (eI (wX1 cy q σ) (fX1_hasRange σ a1_ a2_)) :=
  Con.of (own := RX1) (by decide +kernel) rfl (Nat.le_of_ble_eq_true rfl) (Nat.zero_le _) (fun X A C hR _ => (wX1_hasRange_0 σ a1_ a2_ C hR  rfl))
theorem mv_X1_hasRange : MV yX1_hasRange cX1_hasRange 3 (some .boolean) RX1 2 := ⟨ki_X1_hasRange, kv_X1_hasRange, kn_X1, kc_X1_hasRange, by decide +kernel⟩
end
section
def tbJ3_checkIndex_8e157 : List (Nat × Instr × Nat) := [(0, .iload_n 0, 1), (1, .ifCond .lt 8, 3), (4, .iload_n 0, 1), (5, .iload_n 1, 1), (6, .if_icmp .lt 10, 3), (9, .aload_n 2, 1), (10, .iload_n 0, 1), (11, .iload_n 1, 1), (12, .invokestatic 95, 3), (15, .athrow, 1), (16, .iload_n 0, 1), (17, .ireturn, 1)]
theorem tdJ3_checkIndex_8e157 : tbJ3_checkIndex_8e157.all (fun q => decide (decode cJ3_checkIndex_8e157 q.1 = .ok q.2)) = true := by decide +kernel
def tbJ0_checkIndex_df160 : List (Nat × Instr × Nat) := [(0, .iload_n 0, 1), (1, .iload_n 1, 1), (2, .getstatic 1053, 3), (5, .invokestatic 1059, 3), (8, .pop, 1), (9, .return_, 1)]
theorem tdJ0_checkIndex_df160 : tbJ0_checkIndex_df160.all (fun q => decide (decode cJ0_checkIndex_df160 q.1 = .ok q.2)) = true := by decide +kernel
theorem zJ3_checkIndex_8e157 (i n : Int32) (v : Value) (hv : v.category = 1) (h1 : ¬ i < 0) (h2 : i < n) {D : va_G} {tys : List (ClassId × FieldType)} : Con yJ3_checkIndex_8e157 cJ3_checkIndex_8e157 3 (some .int) 0 0 0 D tys [.int i, .int n, v] [] (eI [] i) := by
  refine Con.of (own := RJ3) (by decide +kernel) rfl (by have e : lg_sl [.int i, .int n, v] = [.val (.int i), .val (.int n), .val v] := (by unfold lg_sl; simp only [List.flatMap_cons, List.flatMap_nil, hv]; rfl); rw [e]; exact Nat.le_refl 3) (Nat.zero_le _) (fun X A C hR _ => ?_)
  refine r_pick (lv' := [(0, .int i), (1, .int n)]) [0, 1] rfl ?_
  refine r_iload_n C 0 (dall tdJ3_checkIndex_8e157 0 rfl) rfl ?_
  refine r_if_lt (tgt := 9) C (dall tdJ3_checkIndex_8e157 1 rfl) (by decide) (fun c => absurd c h1) (fun _ => ?_)
  refine r_iload_n C 0 (dall tdJ3_checkIndex_8e157 2 rfl) rfl ?_
  refine r_iload_n C 1 (dall tdJ3_checkIndex_8e157 3 rfl) rfl ?_
  refine r_icmp_lt (tgt := 16) C (dall tdJ3_checkIndex_8e157 4 rfl) (by decide) (fun _ => ?_) (fun c => absurd h2 c)
  refine r_iload_n C 0 (dall tdJ3_checkIndex_8e157 10 rfl) rfl ?_
  exact r_iret C hR (dall tdJ3_checkIndex_8e157 11 rfl) ⟨rfl, rfl⟩
theorem ms_J3_checkIndex_8e157 : MS_ yJ3_checkIndex_8e157 cJ3_checkIndex_8e157 3 (some .int) 3 := ⟨ks_J3_checkIndex_8e157, kn_J3, kc_J3_checkIndex_8e157, by decide +kernel⟩
def gJ0_checkIndex_df160 (i n : Int32) : Prop := ¬ i < 0 ∧ i < n
theorem zJ0_checkIndex_df160 (i n : Int32) (ok : gJ0_checkIndex_df160 i n) {D : va_G} {tys : List (ClassId × FieldType)} : Con yJ0_checkIndex_df160 cJ0_checkIndex_df160 2 none 1 0 0 D tys [.int i, .int n] [] (eV []) := by
  refine Con.of (own := RJ0) (by decide +kernel) rfl (Nat.le_of_ble_eq_true rfl) (Nat.zero_le _) (fun X A C hR _ => ?_)
  refine r_iload_n C 0 (dall tdJ0_checkIndex_df160 0 rfl) rfl ?_
  refine r_iload_n C 1 (dall tdJ0_checkIndex_df160 1 rfl) rfl ?_
  refine rg_SIOOBE C kf_J0_1053 (dall tdJ0_checkIndex_df160 2 rfl) (fun v hv => ?_)
  refine r_s0I (as := [.int i, .int n, v]) C (zJ3_checkIndex_8e157 i n v hv ok.1 ok.2) ms_J3_checkIndex_8e157 km_J0_1059 (by decide) (by decide) ⟨Nat.le_refl _, Nat.le_refl _⟩ rfl rfl (Nat.le_of_ble_eq_true rfl) (dall tdJ0_checkIndex_df160 3 rfl) ?_
  refine r_pop C (dall tdJ0_checkIndex_df160 4 rfl) rfl ?_
  exact r_vret C hR (dall tdJ0_checkIndex_df160 5 rfl) ⟨rfl, rfl⟩
theorem ms_J0_checkIndex_df160 : MS_ yJ0_checkIndex_df160 cJ0_checkIndex_df160 2 none 2 := ⟨ks_J0_checkIndex_df160, kn_J0, kc_J0_checkIndex_df160, by decide +kernel⟩
def tbJ1_canEncode_9a6ad : List (Nat × Instr × Nat) := [(0, .iload_n 0, 1), (1, .ifCond .lt 14, 3), (4, .iload_n 0, 1), (5, .sipush 255, 3), (8, .if_icmp .gt 7, 3), (11, .iconst 1, 1), (12, .goto 4, 3), (15, .iconst 0, 1), (16, .ireturn, 1)]
theorem tdJ1_canEncode_9a6ad : tbJ1_canEncode_9a6ad.all (fun q => decide (decode cJ1_canEncode_9a6ad q.1 = .ok q.2)) = true := by decide +kernel
def pJ1_canEncode_9a6ad_0  (a0_ : Int32) : Int32 := if a0_ < 0 then 0 else if 255 < a0_ then 0 else 1
set_option maxHeartbeats 4000000 in
set_option maxRecDepth 100000 in
theorem wJ1_canEncode_9a6ad_0 {X : CX} {tys : List (ClassId × FieldType)} {D : va_G} {A : Nat → Prop} {res : Int32} (a0_ : Int32) (C : Cx X cJ1_canEncode_9a6ad RJ1 1 D tys A 0 0 0) (hR : Rt X (some .boolean) D tys A 0 0 (eI ([]) res))  (h : pJ1_canEncode_9a6ad_0  a0_ = res) : At X D A 1 0 0 0 [(0, .int a0_)] [] (([] : va_W)) := by
  unfold pJ1_canEncode_9a6ad_0 at h
  refine r_iload_n C 0 (dall tdJ1_canEncode_9a6ad 0 rfl) rfl ?_
  refine r_if_lt (tgt := 15) C (dall tdJ1_canEncode_9a6ad 1 rfl) (by decide) (fun c1 => ?_) (fun c1 => ?_)
  · have h := (if_pos c1).symm.trans h
    refine r_iconst (v := 0) C (dall tdJ1_canEncode_9a6ad 7 rfl) (by decide) ?_
    exact r_zret C (by decide) hR (dall tdJ1_canEncode_9a6ad 8 rfl) (by subst h; exact ⟨rfl, rfl⟩)
  · have h := (if_neg c1).symm.trans h
    refine r_iload_n C 0 (dall tdJ1_canEncode_9a6ad 2 rfl) rfl ?_
    refine r_sipush (v := 255) C (dall tdJ1_canEncode_9a6ad 3 rfl) (by decide) ?_
    refine r_icmp_gt (tgt := 15) C (dall tdJ1_canEncode_9a6ad 4 rfl) (by decide) (fun c2 => ?_) (fun c2 => ?_)
    · have h := (if_pos c2).symm.trans h
      refine r_iconst (v := 0) C (dall tdJ1_canEncode_9a6ad 7 rfl) (by decide) ?_
      exact r_zret C (by decide) hR (dall tdJ1_canEncode_9a6ad 8 rfl) (by subst h; exact ⟨rfl, rfl⟩)
    · have h := (if_neg c2).symm.trans h
      refine r_iconst (v := 1) C (dall tdJ1_canEncode_9a6ad 5 rfl) (by decide) ?_
      refine r_goto (tgt := 16) C (dall tdJ1_canEncode_9a6ad 6 rfl) (by decide) ?_
      exact r_zret C (by decide) hR (dall tdJ1_canEncode_9a6ad 8 rfl) (by subst h; exact ⟨rfl, rfl⟩)
def fJ1_canEncode_9a6ad (a0_ : Int32) : Int32 := pJ1_canEncode_9a6ad_0  a0_
set_option maxRecDepth 100000 in
theorem zJ1_canEncode_9a6ad  {D : va_G} (a0_ : Int32)  {tys : List (ClassId × FieldType)} : Con yJ1_canEncode_9a6ad cJ1_canEncode_9a6ad 1 (some .boolean) 0 0 0 D tys [.int a0_] ([]) (eI ([]) (fJ1_canEncode_9a6ad a0_)) :=
  Con.of (own := RJ1) (by decide +kernel) rfl (Nat.le_of_ble_eq_true rfl) (Nat.zero_le _) (fun X A C hR _ => (wJ1_canEncode_9a6ad_0 a0_ C hR  rfl))
theorem ms_J1_canEncode_9a6ad : MS_ yJ1_canEncode_9a6ad cJ1_canEncode_9a6ad 1 (some .boolean) 1 := ⟨ks_J1_canEncode_9a6ad, kn_J1, kc_J1_canEncode_9a6ad, by decide +kernel⟩
def tbJ0_isLatin1_aae02 : List (Nat × Instr × Nat) := [(0, .getstatic 38, 3), (3, .ifCond .eq 14, 3), (6, .aload_n 0, 1), (7, .getfield 15, 3), (10, .ifCond .ne 7, 3), (13, .iconst 1, 1), (14, .goto 4, 3), (17, .iconst 0, 1), (18, .ireturn, 1)]
theorem tdJ0_isLatin1_aae02 : tbJ0_isLatin1_aae02.all (fun q => decide (decode cJ0_isLatin1_aae02 q.1 = .ok q.2)) = true := by decide +kernel
def pJ0_isLatin1_aae02_s0_0   : Int32 := if (1 : Int32) = 0 then 0 else if (0 : Int32) = 0 then 1 else 0
set_option maxHeartbeats 4000000 in
set_option maxRecDepth 100000 in
theorem wJ0_isLatin1_aae02_s0_0 {X : CX} {tys : List (ClassId × FieldType)} {D : va_G} {A : Nat → Prop} {res : Int32}  (C : Cx X cJ0_isLatin1_aae02 RJ0 1 D tys A 0 0 0) (hR : Rt X (some .boolean) D tys A 0 0 (eI ([]) res))  (h : pJ0_isLatin1_aae02_s0_0   = res) : At X D A 1 0 0 0 [(0, .ref (D.2 101 0))] [] (([] : va_W)) := by
  unfold pJ0_isLatin1_aae02_s0_0 at h
  refine rg_COMPACT C kf_J0_38 (dall tdJ0_isLatin1_aae02 0 rfl) ?_
  refine r_if_eq (tgt := 17) C (dall tdJ0_isLatin1_aae02 1 rfl) (by decide) (fun c1 => ?_) (fun c1 => ?_)
  · have h := (if_pos c1).symm.trans h
    refine r_iconst (v := 0) C (dall tdJ0_isLatin1_aae02 7 rfl) (by decide) ?_
    exact r_zret C (by decide) hR (dall tdJ0_isLatin1_aae02 8 rfl) (by subst h; exact ⟨rfl, rfl⟩)
  · have h := (if_neg c1).symm.trans h
    refine r_aload_n C 0 (dall tdJ0_isLatin1_aae02 2 rfl) rfl ?_
    refine r_strC C 0 (by decide) kf_J0_15 (dall tdJ0_isLatin1_aae02 3 rfl) ?_
    refine r_if_ne (tgt := 17) C (dall tdJ0_isLatin1_aae02 4 rfl) (by decide) (fun c2 => ?_) (fun c2 => ?_)
    · have h := (if_neg c2).symm.trans h
      refine r_iconst (v := 0) C (dall tdJ0_isLatin1_aae02 7 rfl) (by decide) ?_
      exact r_zret C (by decide) hR (dall tdJ0_isLatin1_aae02 8 rfl) (by subst h; exact ⟨rfl, rfl⟩)
    · have h := (if_pos c2).symm.trans h
      refine r_iconst (v := 1) C (dall tdJ0_isLatin1_aae02 5 rfl) (by decide) ?_
      refine r_goto (tgt := 18) C (dall tdJ0_isLatin1_aae02 6 rfl) (by decide) ?_
      exact r_zret C (by decide) hR (dall tdJ0_isLatin1_aae02 8 rfl) (by subst h; exact ⟨rfl, rfl⟩)
def fJ0_isLatin1_aae02_s0  : Int32 := pJ0_isLatin1_aae02_s0_0  
set_option maxRecDepth 100000 in
theorem zJ0_isLatin1_aae02_s0  {D : va_G}   {tys : List (ClassId × FieldType)} : Con yJ0_isLatin1_aae02 cJ0_isLatin1_aae02 1 (some .boolean) 0 0 0 D tys [.ref (D.2 101 0)] ([]) (eI ([]) (fJ0_isLatin1_aae02_s0 )) :=
  Con.of (own := RJ0) (by decide +kernel) rfl (Nat.le_of_ble_eq_true rfl) (Nat.zero_le _) (fun X A C hR _ => (wJ0_isLatin1_aae02_s0_0  C hR  rfl))
theorem mv_J0_isLatin1_aae02_s0 : MV yJ0_isLatin1_aae02 cJ0_isLatin1_aae02 1 (some .boolean) RJ0 0 := ⟨ki_J0_isLatin1_aae02, kv_J0_isLatin1_aae02, kn_J0, kc_J0_isLatin1_aae02, by decide +kernel⟩
def tbJ1_charAt_3b067 : List (Nat × Instr × Nat) := [(0, .iload_n 1, 1), (1, .aload_n 0, 1), (2, .arraylength, 1), (3, .invokestatic 9, 3), (6, .aload_n 0, 1), (7, .iload_n 1, 1), (8, .baload, 1), (9, .sipush 255, 3), (12, .iand, 1), (13, .i2c, 1), (14, .ireturn, 1)]
theorem tdJ1_charAt_3b067 : tbJ1_charAt_3b067.all (fun q => decide (decode cJ1_charAt_3b067 q.1 = .ok q.2)) = true := by decide +kernel
def pJ1_charAt_3b067_s0_0  (a1_ : Int32) : Int32 := ((((bytS.getD 0 []).getD a1_.toNatClampNeg 0) &&& 255).toUInt32 % 65536).toInt32
def oJ1_charAt_3b067_s0_0  (a1_ : Int32) : Prop := (gJ0_checkIndex_df160 a1_ (Int32.ofNat (lenS.getD 0 0))) ∧ ((vp_in a1_ (lenS.getD 0 0)) ∧ (narrow .char (.int (((((bytS.getD 0 []).getD a1_.toNatClampNeg 0) &&& 255).toUInt32 % 65536).toInt32)) = .int (((((bytS.getD 0 []).getD a1_.toNatClampNeg 0) &&& 255).toUInt32 % 65536).toInt32)))
set_option maxHeartbeats 4000000 in
set_option maxRecDepth 100000 in
theorem wJ1_charAt_3b067_s0_0 {X : CX} {tys : List (ClassId × FieldType)} {D : va_G} {A : Nat → Prop} {res : Int32} (a1_ : Int32) (C : Cx X cJ1_charAt_3b067 RJ1 2 D tys A 2 0 0) (hR : Rt X (some .char) D tys A 0 0 (eI ([]) res))  (ok : oJ1_charAt_3b067_s0_0  a1_) (h : pJ1_charAt_3b067_s0_0  a1_ = res) : At X D A 2 0 0 0 [(0, .ref (D.2 102 0)), (1, .int a1_)] [] (([] : va_W)) := by
  unfold pJ1_charAt_3b067_s0_0 at h
  unfold oJ1_charAt_3b067_s0_0 at ok
  refine r_iload_n C 1 (dall tdJ1_charAt_3b067 0 rfl) rfl ?_
  refine r_aload_n C 0 (dall tdJ1_charAt_3b067 1 rfl) rfl ?_
  refine r_strN C 0 (by decide) (dall tdJ1_charAt_3b067 2 rfl) ?_
  obtain ⟨o1, ok⟩ := ok
  refine r_s0V (as := [.int a1_, .int (Int32.ofNat (lenS.getD 0 0))]) C (zJ0_checkIndex_df160 a1_ (Int32.ofNat (lenS.getD 0 0)) o1) ms_J0_checkIndex_df160 km_J1_9 (by decide) (by decide) ⟨Nat.le_refl _, Nat.le_refl _⟩ rfl rfl (Nat.le_of_ble_eq_true rfl) (dall tdJ1_charAt_3b067 3 rfl) ?_
  refine r_aload_n C 0 (dall tdJ1_charAt_3b067 4 rfl) rfl ?_
  refine r_iload_n C 1 (dall tdJ1_charAt_3b067 5 rfl) rfl ?_
  obtain ⟨o2, ok⟩ := ok
  refine r_strB C 0 (by decide) o2 (dall tdJ1_charAt_3b067 6 rfl) ?_
  refine r_sipush (v := 255) C (dall tdJ1_charAt_3b067 7 rfl) (by decide) ?_
  refine r_iand C (dall tdJ1_charAt_3b067 8 rfl) ?_
  refine r_i2c C (dall tdJ1_charAt_3b067 9 rfl) ?_
  have o3 := ok
  exact r_zret C o3 hR (dall tdJ1_charAt_3b067 10 rfl) (by subst h; exact ⟨rfl, rfl⟩)
def fJ1_charAt_3b067_s0 (a1_ : Int32) : Int32 := pJ1_charAt_3b067_s0_0  a1_
def gJ1_charAt_3b067_s0 (a1_ : Int32) : Prop := oJ1_charAt_3b067_s0_0  a1_
set_option maxRecDepth 100000 in
theorem zJ1_charAt_3b067_s0  {D : va_G} (a1_ : Int32) (ok : gJ1_charAt_3b067_s0 a1_)  {tys : List (ClassId × FieldType)} : Con yJ1_charAt_3b067 cJ1_charAt_3b067 2 (some .char) 2 0 0 D tys [.ref (D.2 102 0), .int a1_] ([]) (eI ([]) (fJ1_charAt_3b067_s0 a1_)) :=
  Con.of (own := RJ1) (by decide +kernel) rfl (Nat.le_of_ble_eq_true rfl) (Nat.zero_le _) (fun X A C hR _ => (wJ1_charAt_3b067_s0_0 a1_ C hR  ok rfl))
theorem ms_J1_charAt_3b067_s0 : MS_ yJ1_charAt_3b067 cJ1_charAt_3b067 2 (some .char) 2 := ⟨ks_J1_charAt_3b067, kn_J1, kc_J1_charAt_3b067, by decide +kernel⟩
def tbJ0_charAt_5068e : List (Nat × Instr × Nat) := [(0, .aload_n 0, 1), (1, .invokevirtual 492, 3), (4, .ifCond .eq 12, 3), (7, .aload_n 0, 1), (8, .getfield 9, 3), (11, .iload_n 1, 1), (12, .invokestatic 495, 3), (15, .ireturn, 1), (16, .aload_n 0, 1), (17, .getfield 9, 3), (20, .iload_n 1, 1), (21, .invokestatic 498, 3), (24, .ireturn, 1)]
theorem tdJ0_charAt_5068e : tbJ0_charAt_5068e.all (fun q => decide (decode cJ0_charAt_5068e q.1 = .ok q.2)) = true := by decide +kernel
def pJ0_charAt_5068e_s0_0  (a1_ : Int32) : Int32 := if fJ0_isLatin1_aae02_s0 = 0 then 0 else fJ1_charAt_3b067_s0 a1_
def oJ0_charAt_5068e_s0_0  (a1_ : Int32) : Prop := (fJ0_isLatin1_aae02_s0 = 0 → False) ∧ (¬ (fJ0_isLatin1_aae02_s0 = 0) → (gJ1_charAt_3b067_s0 a1_) ∧ (narrow .char (.int (fJ1_charAt_3b067_s0 a1_)) = .int (fJ1_charAt_3b067_s0 a1_)))
set_option maxHeartbeats 4000000 in
set_option maxRecDepth 100000 in
theorem wJ0_charAt_5068e_s0_0 {X : CX} {tys : List (ClassId × FieldType)} {D : va_G} {A : Nat → Prop} {res : Int32} (a1_ : Int32) (C : Cx X cJ0_charAt_5068e RJ0 2 D tys A 3 0 0) (hR : Rt X (some .char) D tys A 0 0 (eI ([]) res))  (ok : oJ0_charAt_5068e_s0_0  a1_) (h : pJ0_charAt_5068e_s0_0  a1_ = res) : At X D A 2 0 0 0 [(0, .ref (D.2 101 0)), (1, .int a1_)] [] (([] : va_W)) := by
  unfold pJ0_charAt_5068e_s0_0 at h
  unfold oJ0_charAt_5068e_s0_0 at ok
  refine r_aload_n C 0 (dall tdJ0_charAt_5068e 0 rfl) rfl ?_
  refine r_strI (as := []) C 0 (by decide) (zJ0_isLatin1_aae02_s0  ) mv_J0_isLatin1_aae02_s0 km_J0_492 (by decide) (by decide) ⟨Nat.le_refl _, Nat.le_refl _⟩ rfl rfl (Nat.le_of_ble_eq_true rfl) (dall tdJ0_charAt_5068e 1 rfl) ?_
  refine r_if_eq (tgt := 16) C (dall tdJ0_charAt_5068e 2 rfl) (by decide) (fun c1 => ?_) (fun c1 => ?_)
  · have h := (if_pos c1).symm.trans h
    have ok := ok.1 c1
    refine r_aload_n C 0 (dall tdJ0_charAt_5068e 8 rfl) rfl ?_
    refine r_strV C 0 (by decide) kf_J0_9 (dall tdJ0_charAt_5068e 9 rfl) ?_
    refine r_iload_n C 1 (dall tdJ0_charAt_5068e 10 rfl) rfl ?_
    exact ok.elim
  · have h := (if_neg c1).symm.trans h
    have ok := ok.2 c1
    refine r_aload_n C 0 (dall tdJ0_charAt_5068e 3 rfl) rfl ?_
    refine r_strV C 0 (by decide) kf_J0_9 (dall tdJ0_charAt_5068e 4 rfl) ?_
    refine r_iload_n C 1 (dall tdJ0_charAt_5068e 5 rfl) rfl ?_
    obtain ⟨o2, ok⟩ := ok
    refine r_s0I (as := [.ref (D.2 102 0), .int a1_]) C (zJ1_charAt_3b067_s0 a1_ o2) ms_J1_charAt_3b067_s0 km_J0_495 (by decide) (by decide) ⟨Nat.le_refl _, Nat.le_refl _⟩ rfl rfl (Nat.le_of_ble_eq_true rfl) (dall tdJ0_charAt_5068e 6 rfl) ?_
    have o3 := ok
    exact r_zret C o3 hR (dall tdJ0_charAt_5068e 7 rfl) (by subst h; exact ⟨rfl, rfl⟩)
def fJ0_charAt_5068e_s0 (a1_ : Int32) : Int32 := pJ0_charAt_5068e_s0_0  a1_
def gJ0_charAt_5068e_s0 (a1_ : Int32) : Prop := oJ0_charAt_5068e_s0_0  a1_
set_option maxRecDepth 100000 in
theorem zJ0_charAt_5068e_s0  {D : va_G} (a1_ : Int32) (ok : gJ0_charAt_5068e_s0 a1_)  {tys : List (ClassId × FieldType)} : Con yJ0_charAt_5068e cJ0_charAt_5068e 2 (some .char) 3 0 0 D tys [.ref (D.2 101 0), .int a1_] ([]) (eI ([]) (fJ0_charAt_5068e_s0 a1_)) :=
  Con.of (own := RJ0) (by decide +kernel) rfl (Nat.le_of_ble_eq_true rfl) (Nat.zero_le _) (fun X A C hR _ => (wJ0_charAt_5068e_s0_0 a1_ C hR  ok rfl))
theorem mv_J0_charAt_5068e_s0 : MV yJ0_charAt_5068e cJ0_charAt_5068e 2 (some .char) RJ0 1 := ⟨ki_J0_charAt_5068e, kv_J0_charAt_5068e, kn_J0, kc_J0_charAt_5068e, by decide +kernel⟩
def pJ0_isLatin1_aae02_s1_0   : Int32 := if (1 : Int32) = 0 then 0 else if (0 : Int32) = 0 then 1 else 0
set_option maxHeartbeats 4000000 in
set_option maxRecDepth 100000 in
theorem wJ0_isLatin1_aae02_s1_0 {X : CX} {tys : List (ClassId × FieldType)} {D : va_G} {A : Nat → Prop} {res : Int32}  (C : Cx X cJ0_isLatin1_aae02 RJ0 1 D tys A 0 0 0) (hR : Rt X (some .boolean) D tys A 0 0 (eI ([]) res))  (h : pJ0_isLatin1_aae02_s1_0   = res) : At X D A 1 0 0 0 [(0, .ref (D.2 101 1))] [] (([] : va_W)) := by
  unfold pJ0_isLatin1_aae02_s1_0 at h
  refine rg_COMPACT C kf_J0_38 (dall tdJ0_isLatin1_aae02 0 rfl) ?_
  refine r_if_eq (tgt := 17) C (dall tdJ0_isLatin1_aae02 1 rfl) (by decide) (fun c1 => ?_) (fun c1 => ?_)
  · have h := (if_pos c1).symm.trans h
    refine r_iconst (v := 0) C (dall tdJ0_isLatin1_aae02 7 rfl) (by decide) ?_
    exact r_zret C (by decide) hR (dall tdJ0_isLatin1_aae02 8 rfl) (by subst h; exact ⟨rfl, rfl⟩)
  · have h := (if_neg c1).symm.trans h
    refine r_aload_n C 0 (dall tdJ0_isLatin1_aae02 2 rfl) rfl ?_
    refine r_strC C 1 (by decide) kf_J0_15 (dall tdJ0_isLatin1_aae02 3 rfl) ?_
    refine r_if_ne (tgt := 17) C (dall tdJ0_isLatin1_aae02 4 rfl) (by decide) (fun c2 => ?_) (fun c2 => ?_)
    · have h := (if_neg c2).symm.trans h
      refine r_iconst (v := 0) C (dall tdJ0_isLatin1_aae02 7 rfl) (by decide) ?_
      exact r_zret C (by decide) hR (dall tdJ0_isLatin1_aae02 8 rfl) (by subst h; exact ⟨rfl, rfl⟩)
    · have h := (if_pos c2).symm.trans h
      refine r_iconst (v := 1) C (dall tdJ0_isLatin1_aae02 5 rfl) (by decide) ?_
      refine r_goto (tgt := 18) C (dall tdJ0_isLatin1_aae02 6 rfl) (by decide) ?_
      exact r_zret C (by decide) hR (dall tdJ0_isLatin1_aae02 8 rfl) (by subst h; exact ⟨rfl, rfl⟩)
def fJ0_isLatin1_aae02_s1  : Int32 := pJ0_isLatin1_aae02_s1_0  
set_option maxRecDepth 100000 in
theorem zJ0_isLatin1_aae02_s1  {D : va_G}   {tys : List (ClassId × FieldType)} : Con yJ0_isLatin1_aae02 cJ0_isLatin1_aae02 1 (some .boolean) 0 0 0 D tys [.ref (D.2 101 1)] ([]) (eI ([]) (fJ0_isLatin1_aae02_s1 )) :=
  Con.of (own := RJ0) (by decide +kernel) rfl (Nat.le_of_ble_eq_true rfl) (Nat.zero_le _) (fun X A C hR _ => (wJ0_isLatin1_aae02_s1_0  C hR  rfl))
theorem mv_J0_isLatin1_aae02_s1 : MV yJ0_isLatin1_aae02 cJ0_isLatin1_aae02 1 (some .boolean) RJ0 0 := ⟨ki_J0_isLatin1_aae02, kv_J0_isLatin1_aae02, kn_J0, kc_J0_isLatin1_aae02, by decide +kernel⟩
def tbJ0_coder_7d493 : List (Nat × Instr × Nat) := [(0, .getstatic 38, 3), (3, .ifCond .eq 10, 3), (6, .aload_n 0, 1), (7, .getfield 15, 3), (10, .goto 4, 3), (13, .iconst 1, 1), (14, .ireturn, 1)]
theorem tdJ0_coder_7d493 : tbJ0_coder_7d493.all (fun q => decide (decode cJ0_coder_7d493 q.1 = .ok q.2)) = true := by decide +kernel
def pJ0_coder_7d493_s1_0   : Int32 := if (1 : Int32) = 0 then 1 else 0
set_option maxHeartbeats 4000000 in
set_option maxRecDepth 100000 in
theorem wJ0_coder_7d493_s1_0 {X : CX} {tys : List (ClassId × FieldType)} {D : va_G} {A : Nat → Prop} {res : Int32}  (C : Cx X cJ0_coder_7d493 RJ0 1 D tys A 0 0 0) (hR : Rt X (some .byte) D tys A 0 0 (eI ([]) res))  (h : pJ0_coder_7d493_s1_0   = res) : At X D A 1 0 0 0 [(0, .ref (D.2 101 1))] [] (([] : va_W)) := by
  unfold pJ0_coder_7d493_s1_0 at h
  refine rg_COMPACT C kf_J0_38 (dall tdJ0_coder_7d493 0 rfl) ?_
  refine r_if_eq (tgt := 13) C (dall tdJ0_coder_7d493 1 rfl) (by decide) (fun c1 => ?_) (fun c1 => ?_)
  · have h := (if_pos c1).symm.trans h
    refine r_iconst (v := 1) C (dall tdJ0_coder_7d493 5 rfl) (by decide) ?_
    exact r_zret C (by decide) hR (dall tdJ0_coder_7d493 6 rfl) (by subst h; exact ⟨rfl, rfl⟩)
  · have h := (if_neg c1).symm.trans h
    refine r_aload_n C 0 (dall tdJ0_coder_7d493 2 rfl) rfl ?_
    refine r_strC C 1 (by decide) kf_J0_15 (dall tdJ0_coder_7d493 3 rfl) ?_
    refine r_goto (tgt := 14) C (dall tdJ0_coder_7d493 4 rfl) (by decide) ?_
    exact r_zret C (by decide) hR (dall tdJ0_coder_7d493 6 rfl) (by subst h; exact ⟨rfl, rfl⟩)
def fJ0_coder_7d493_s1  : Int32 := pJ0_coder_7d493_s1_0  
set_option maxRecDepth 100000 in
theorem zJ0_coder_7d493_s1  {D : va_G}   {tys : List (ClassId × FieldType)} : Con yJ0_coder_7d493 cJ0_coder_7d493 1 (some .byte) 0 0 0 D tys [.ref (D.2 101 1)] ([]) (eI ([]) (fJ0_coder_7d493_s1 )) :=
  Con.of (own := RJ0) (by decide +kernel) rfl (Nat.le_of_ble_eq_true rfl) (Nat.zero_le _) (fun X A C hR _ => (wJ0_coder_7d493_s1_0  C hR  rfl))
theorem mv_J0_coder_7d493_s1 : MV yJ0_coder_7d493 cJ0_coder_7d493 1 (some .byte) RJ0 0 := ⟨ki_J0_coder_7d493, kv_J0_coder_7d493, kn_J0, kc_J0_coder_7d493, by decide +kernel⟩
def tbJ0_length_8abf5 : List (Nat × Instr × Nat) := [(0, .aload_n 0, 1), (1, .getfield 9, 3), (4, .arraylength, 1), (5, .aload_n 0, 1), (6, .invokevirtual 335, 3), (9, .ishr, 1), (10, .ireturn, 1)]
theorem tdJ0_length_8abf5 : tbJ0_length_8abf5.all (fun q => decide (decode cJ0_length_8abf5 q.1 = .ok q.2)) = true := by decide +kernel
def pJ0_length_8abf5_s1_0   : Int32 := (Int32.ofNat (lenS.getD 1 0)) >>> (fJ0_coder_7d493_s1 &&& 31)
set_option maxHeartbeats 4000000 in
set_option maxRecDepth 100000 in
theorem wJ0_length_8abf5_s1_0 {X : CX} {tys : List (ClassId × FieldType)} {D : va_G} {A : Nat → Prop} {res : Int32}  (C : Cx X cJ0_length_8abf5 RJ0 1 D tys A 1 0 0) (hR : Rt X (some .int) D tys A 0 0 (eI ([]) res))  (h : pJ0_length_8abf5_s1_0   = res) : At X D A 1 0 0 0 [(0, .ref (D.2 101 1))] [] (([] : va_W)) := by
  unfold pJ0_length_8abf5_s1_0 at h
  refine r_aload_n C 0 (dall tdJ0_length_8abf5 0 rfl) rfl ?_
  refine r_strV C 1 (by decide) kf_J0_9 (dall tdJ0_length_8abf5 1 rfl) ?_
  refine r_strN C 1 (by decide) (dall tdJ0_length_8abf5 2 rfl) ?_
  refine r_aload_n C 0 (dall tdJ0_length_8abf5 3 rfl) rfl ?_
  refine r_strI (as := []) C 1 (by decide) (zJ0_coder_7d493_s1  ) mv_J0_coder_7d493_s1 km_J0_335 (by decide) (by decide) ⟨Nat.le_refl _, Nat.le_refl _⟩ rfl rfl (Nat.le_of_ble_eq_true rfl) (dall tdJ0_length_8abf5 4 rfl) ?_
  refine r_ishr C (dall tdJ0_length_8abf5 5 rfl) ?_
  exact r_iret C hR (dall tdJ0_length_8abf5 6 rfl) (by subst h; exact ⟨rfl, rfl⟩)
def fJ0_length_8abf5_s1  : Int32 := pJ0_length_8abf5_s1_0  
set_option maxRecDepth 100000 in
theorem zJ0_length_8abf5_s1  {D : va_G}   {tys : List (ClassId × FieldType)} : Con yJ0_length_8abf5 cJ0_length_8abf5 1 (some .int) 1 0 0 D tys [.ref (D.2 101 1)] ([]) (eI ([]) (fJ0_length_8abf5_s1 )) :=
  Con.of (own := RJ0) (by decide +kernel) rfl (Nat.le_of_ble_eq_true rfl) (Nat.zero_le _) (fun X A C hR _ => (wJ0_length_8abf5_s1_0  C hR  rfl))
theorem mv_J0_length_8abf5_s1 : MV yJ0_length_8abf5 cJ0_length_8abf5 1 (some .int) RJ0 0 := ⟨ki_J0_length_8abf5, kv_J0_length_8abf5, kn_J0, kc_J0_length_8abf5, by decide +kernel⟩
def tbJ1_indexOfChar_4cfef : List (Nat × Instr × Nat) := [(0, .iload_n 1, 1), (1, .i2b, 1), (2, .istore 4, 2), (4, .iload_n 2, 1), (5, .istore 5, 2), (7, .iload 5, 2), (9, .iload_n 3, 1), (10, .if_icmp .ge 21, 3), (13, .aload_n 0, 1), (14, .iload 5, 2), (16, .baload, 1), (17, .iload 4, 2), (19, .if_icmp .ne 6, 3), (22, .iload 5, 2), (24, .ireturn, 1), (25, .iinc 5 1, 3), (28, .goto (-21), 3), (31, .iconst (-1), 1), (32, .ireturn, 1)]
theorem tdJ1_indexOfChar_4cfef : tbJ1_indexOfChar_4cfef.all (fun q => decide (decode cJ1_indexOfChar_4cfef q.1 = .ok q.2)) = true := by decide +kernel
def bJ1_indexOfChar_4cfef_s1_7 (a3_ : Int32) (a4_ : Int32)  (kR7 : Int32 → Int32) (v : Int32) : Int32 := if a3_ ≤ v then (-1) else if ((bytS.getD 1 []).getD v.toNatClampNeg 0) = a4_ then v else kR7 (v + 1)
def kJ1_indexOfChar_4cfef_s1_7 (a3_ : Int32) (a4_ : Int32)  (kO7 : Int32 → Prop) (v : Int32) : Prop := (a3_ ≤ v → True) ∧ (¬ (a3_ ≤ v) → (vp_in v (lenS.getD 1 0)) ∧ ((((bytS.getD 1 []).getD v.toNatClampNeg 0) = a4_ → True) ∧ (¬ (((bytS.getD 1 []).getD v.toNatClampNeg 0) = a4_) → kO7 (v + 1))))
set_option maxHeartbeats 4000000 in
set_option maxRecDepth 100000 in
theorem wJ1_indexOfChar_4cfef_s1_7 {X : CX} {tys : List (ClassId × FieldType)} {D : va_G} {A : Nat → Prop} {res : Int32} (a3_ : Int32) (a4_ : Int32) (C : Cx X cJ1_indexOfChar_4cfef RJ1 6 D tys A 0 0 0) (hR : Rt X (some .int) D tys A 0 0 (eI ([]) res)) (kR7 : Int32 → Int32) (kO7 : Int32 → Prop) (hk7 : ∀ z, kO7 z → kR7 z = res → At X D A 6 0 0 7 [(0, .ref (D.2 102 1)), (3, .int a3_), (4, .int a4_), (5, .int z)] [] (([] : va_W))) (v : Int32) (ok : kJ1_indexOfChar_4cfef_s1_7 a3_ a4_ kO7 v) (h : bJ1_indexOfChar_4cfef_s1_7 a3_ a4_ kR7 v = res) : At X D A 6 0 0 7 [(0, .ref (D.2 102 1)), (3, .int a3_), (4, .int a4_), (5, .int v)] [] (([] : va_W)) := by
  unfold bJ1_indexOfChar_4cfef_s1_7 at h
  unfold kJ1_indexOfChar_4cfef_s1_7 at ok
  refine r_iload C 3 (dall tdJ1_indexOfChar_4cfef 5 rfl) rfl ?_
  refine r_iload_n C 1 (dall tdJ1_indexOfChar_4cfef 6 rfl) rfl ?_
  refine r_icmp_ge (tgt := 31) C (dall tdJ1_indexOfChar_4cfef 7 rfl) (by decide) (fun c1 => ?_) (fun c1 => ?_)
  · have h := (if_pos c1).symm.trans h
    have ok := ok.1 c1
    refine r_iconst (v := -1) C (dall tdJ1_indexOfChar_4cfef 17 rfl) (by decide) ?_
    exact r_iret C hR (dall tdJ1_indexOfChar_4cfef 18 rfl) (by subst h; exact ⟨rfl, rfl⟩)
  · have h := (if_neg c1).symm.trans h
    have ok := ok.2 c1
    refine r_aload_n C 0 (dall tdJ1_indexOfChar_4cfef 8 rfl) rfl ?_
    refine r_iload C 3 (dall tdJ1_indexOfChar_4cfef 9 rfl) rfl ?_
    obtain ⟨o2, ok⟩ := ok
    refine r_strB C 1 (by decide) o2 (dall tdJ1_indexOfChar_4cfef 10 rfl) ?_
    refine r_iload C 2 (dall tdJ1_indexOfChar_4cfef 11 rfl) rfl ?_
    refine r_icmp_ne (tgt := 25) C (dall tdJ1_indexOfChar_4cfef 12 rfl) (by decide) (fun c3 => ?_) (fun c3 => ?_)
    · have h := (if_neg c3).symm.trans h
      have ok := ok.2 c3
      refine r_iinc (v := v + 1) (lv' := [(5, .int (v + 1)), (0, .ref (D.2 102 1)), (3, .int a3_), (4, .int a4_)]) C 3 (dall tdJ1_indexOfChar_4cfef 15 rfl) rfl rfl (by decide) rfl ?_
      refine r_goto (tgt := 7) C (dall tdJ1_indexOfChar_4cfef 16 rfl) (by decide) ?_
      refine r_pick [1, 2, 3, 0] rfl ?_
      exact hk7 (v + 1) ok h
    · have h := (if_pos c3).symm.trans h
      have ok := ok.1 c3
      refine r_iload C 3 (dall tdJ1_indexOfChar_4cfef 13 rfl) rfl ?_
      exact r_iret C hR (dall tdJ1_indexOfChar_4cfef 14 rfl) (by subst h; exact ⟨rfl, rfl⟩)
set_option maxHeartbeats 4000000 in
set_option maxRecDepth 100000 in
theorem lJ1_indexOfChar_4cfef_s1_7 {X : CX} {tys : List (ClassId × FieldType)} {D : va_G} {A : Nat → Prop} {res : Int32} (a3_ : Int32) (a4_ : Int32) (C : Cx X cJ1_indexOfChar_4cfef RJ1 6 D tys A 0 0 0) (hR : Rt X (some .int) D tys A 0 0 (eI ([]) res))  (n : Nat) (v : Int32) (ok : lpOk (kJ1_indexOfChar_4cfef_s1_7 a3_ a4_ ) n v) (h : lp 0 (bJ1_indexOfChar_4cfef_s1_7 a3_ a4_ ) n v = res) : At X D A 6 0 0 7 [(0, .ref (D.2 102 1)), (3, .int a3_), (4, .int a4_), (5, .int v)] [] (([] : va_W)) :=
  lp_rule (fun v rr_ => rr_ = res → At X D A 6 0 0 7 [(0, .ref (D.2 102 1)), (3, .int a3_), (4, .int a4_), (5, .int v)] [] (([] : va_W))) (fun kR kO hk v ok h => wJ1_indexOfChar_4cfef_s1_7 a3_ a4_ C hR  kR kO hk v ok h) n v ok h
def pJ1_indexOfChar_4cfef_s1_0  (a1_ : Int32) (a2_ : Int32) (a3_ : Int32) : Int32 := lp 0 (bJ1_indexOfChar_4cfef_s1_7 a3_ a1_.toInt8.toInt32 ) fu a2_
def oJ1_indexOfChar_4cfef_s1_0  (a1_ : Int32) (a2_ : Int32) (a3_ : Int32) : Prop := lpOk (kJ1_indexOfChar_4cfef_s1_7 a3_ a1_.toInt8.toInt32 ) fu a2_
set_option maxHeartbeats 4000000 in
set_option maxRecDepth 100000 in
theorem wJ1_indexOfChar_4cfef_s1_0 {X : CX} {tys : List (ClassId × FieldType)} {D : va_G} {A : Nat → Prop} {res : Int32} (a1_ : Int32) (a2_ : Int32) (a3_ : Int32) (C : Cx X cJ1_indexOfChar_4cfef RJ1 6 D tys A 0 0 0) (hR : Rt X (some .int) D tys A 0 0 (eI ([]) res))  (ok : oJ1_indexOfChar_4cfef_s1_0  a1_ a2_ a3_) (h : pJ1_indexOfChar_4cfef_s1_0  a1_ a2_ a3_ = res) : At X D A 6 0 0 0 [(0, .ref (D.2 102 1)), (1, .int a1_), (2, .int a2_), (3, .int a3_)] [] (([] : va_W)) := by
  unfold pJ1_indexOfChar_4cfef_s1_0 at h
  unfold oJ1_indexOfChar_4cfef_s1_0 at ok
  refine r_iload_n C 1 (dall tdJ1_indexOfChar_4cfef 0 rfl) rfl ?_
  refine r_i2b C (dall tdJ1_indexOfChar_4cfef 1 rfl) ?_
  refine r_istore (lv' := [(4, .int a1_.toInt8.toInt32), (0, .ref (D.2 102 1)), (1, .int a1_), (2, .int a2_), (3, .int a3_)]) C (dall tdJ1_indexOfChar_4cfef 2 rfl) (by decide) rfl ?_
  refine r_iload_n C 3 (dall tdJ1_indexOfChar_4cfef 3 rfl) rfl ?_
  refine r_istore (lv' := [(5, .int a2_), (4, .int a1_.toInt8.toInt32), (0, .ref (D.2 102 1)), (1, .int a1_), (2, .int a2_), (3, .int a3_)]) C (dall tdJ1_indexOfChar_4cfef 4 rfl) (by decide) rfl ?_
  refine r_pick [2, 5, 1, 0] rfl ?_
  exact lJ1_indexOfChar_4cfef_s1_7 a3_ a1_.toInt8.toInt32 C hR  fu _ ok h
def fJ1_indexOfChar_4cfef_s1 (a1_ : Int32) (a2_ : Int32) (a3_ : Int32) : Int32 := pJ1_indexOfChar_4cfef_s1_0  a1_ a2_ a3_
def gJ1_indexOfChar_4cfef_s1 (a1_ : Int32) (a2_ : Int32) (a3_ : Int32) : Prop := oJ1_indexOfChar_4cfef_s1_0  a1_ a2_ a3_
set_option maxRecDepth 100000 in
theorem zJ1_indexOfChar_4cfef_s1  {D : va_G} (a1_ : Int32) (a2_ : Int32) (a3_ : Int32) (ok : gJ1_indexOfChar_4cfef_s1 a1_ a2_ a3_)  {tys : List (ClassId × FieldType)} : Con yJ1_indexOfChar_4cfef cJ1_indexOfChar_4cfef 6 (some .int) 0 0 0 D tys [.ref (D.2 102 1), .int a1_, .int a2_, .int a3_] ([]) (eI ([]) (fJ1_indexOfChar_4cfef_s1 a1_ a2_ a3_)) :=
  Con.of (own := RJ1) (by decide +kernel) rfl (Nat.le_of_ble_eq_true rfl) (Nat.zero_le _) (fun X A C hR _ => (wJ1_indexOfChar_4cfef_s1_0 a1_ a2_ a3_ C hR  ok rfl))
theorem ms_J1_indexOfChar_4cfef_s1 : MS_ yJ1_indexOfChar_4cfef cJ1_indexOfChar_4cfef 6 (some .int) 4 := ⟨ks_J1_indexOfChar_4cfef, kn_J1, kc_J1_indexOfChar_4cfef, by decide +kernel⟩
def tbJ1_indexOf_4cfef : List (Nat × Instr × Nat) := [(0, .iload_n 1, 1), (1, .invokestatic 88, 3), (4, .ifCond .ne 5, 3), (7, .iconst (-1), 1), (8, .ireturn, 1), (9, .iload_n 2, 1), (10, .iconst 0, 1), (11, .invokestatic 92, 3), (14, .istore_n 2, 1), (15, .iload_n 3, 1), (16, .aload_n 0, 1), (17, .arraylength, 1), (18, .invokestatic 38, 3), (21, .istore_n 3, 1), (22, .iload_n 2, 1), (23, .iload_n 3, 1), (24, .if_icmp .lt 5, 3), (27, .iconst (-1), 1), (28, .ireturn, 1), (29, .aload_n 0, 1), (30, .iload_n 1, 1), (31, .iload_n 2, 1), (32, .iload_n 3, 1), (33, .invokestatic 95, 3), (36, .ireturn, 1)]
theorem tdJ1_indexOf_4cfef : tbJ1_indexOf_4cfef.all (fun q => decide (decode cJ1_indexOf_4cfef q.1 = .ok q.2)) = true := by decide +kernel
def pJ1_indexOf_4cfef_s1_0  (a1_ : Int32) (a2_ : Int32) (a3_ : Int32) : Int32 := if (fJ1_canEncode_9a6ad a1_) = 0 then (-1) else if (jmax a2_ 0) < (jmin a3_ (Int32.ofNat (lenS.getD 1 0))) then fJ1_indexOfChar_4cfef_s1 a1_ (jmax a2_ 0) (jmin a3_ (Int32.ofNat (lenS.getD 1 0))) else (-1)
def oJ1_indexOf_4cfef_s1_0  (a1_ : Int32) (a2_ : Int32) (a3_ : Int32) : Prop := ((fJ1_canEncode_9a6ad a1_) = 0 → True) ∧ (¬ ((fJ1_canEncode_9a6ad a1_) = 0) → ((jmax a2_ 0) < (jmin a3_ (Int32.ofNat (lenS.getD 1 0))) → gJ1_indexOfChar_4cfef_s1 a1_ (jmax a2_ 0) (jmin a3_ (Int32.ofNat (lenS.getD 1 0)))) ∧ (¬ ((jmax a2_ 0) < (jmin a3_ (Int32.ofNat (lenS.getD 1 0)))) → True))
set_option maxHeartbeats 4000000 in
set_option maxRecDepth 100000 in
theorem wJ1_indexOf_4cfef_s1_0 {X : CX} {tys : List (ClassId × FieldType)} {D : va_G} {A : Nat → Prop} {res : Int32} (a1_ : Int32) (a2_ : Int32) (a3_ : Int32) (C : Cx X cJ1_indexOf_4cfef RJ1 4 D tys A 1 0 0) (hR : Rt X (some .int) D tys A 0 0 (eI ([]) res))  (ok : oJ1_indexOf_4cfef_s1_0  a1_ a2_ a3_) (h : pJ1_indexOf_4cfef_s1_0  a1_ a2_ a3_ = res) : At X D A 4 0 0 0 [(0, .ref (D.2 102 1)), (1, .int a1_), (2, .int a2_), (3, .int a3_)] [] (([] : va_W)) := by
  unfold pJ1_indexOf_4cfef_s1_0 at h
  unfold oJ1_indexOf_4cfef_s1_0 at ok
  refine r_iload_n C 1 (dall tdJ1_indexOf_4cfef 0 rfl) rfl ?_
  refine r_s0I (as := [.int a1_]) C (zJ1_canEncode_9a6ad a1_ ) ms_J1_canEncode_9a6ad km_J1_88 (by decide) (by decide) ⟨Nat.le_refl _, Nat.le_refl _⟩ rfl rfl (Nat.le_of_ble_eq_true rfl) (dall tdJ1_indexOf_4cfef 1 rfl) ?_
  refine r_if_ne (tgt := 9) C (dall tdJ1_indexOf_4cfef 2 rfl) (by decide) (fun c1 => ?_) (fun c1 => ?_)
  · have h := (if_neg c1).symm.trans h
    have ok := ok.2 c1
    refine r_iload_n C 2 (dall tdJ1_indexOf_4cfef 5 rfl) rfl ?_
    refine r_iconst (v := 0) C (dall tdJ1_indexOf_4cfef 6 rfl) (by decide) ?_
    refine r_mmax C km_J1_92 (dall tdJ1_indexOf_4cfef 7 rfl) (by decide) (Nat.le_of_ble_eq_true rfl) ⟨Nat.le_refl _, Nat.le_refl _⟩ ?_
    refine r_istore_n (lv' := [(2, .int (jmax a2_ 0)), (0, .ref (D.2 102 1)), (1, .int a1_), (3, .int a3_)]) C (dall tdJ1_indexOf_4cfef 8 rfl) (by decide) rfl ?_
    refine r_iload_n C 3 (dall tdJ1_indexOf_4cfef 9 rfl) rfl ?_
    refine r_aload_n C 1 (dall tdJ1_indexOf_4cfef 10 rfl) rfl ?_
    refine r_strN C 1 (by decide) (dall tdJ1_indexOf_4cfef 11 rfl) ?_
    refine r_mmin C km_J1_38 (dall tdJ1_indexOf_4cfef 12 rfl) (by decide) (Nat.le_of_ble_eq_true rfl) ⟨Nat.le_refl _, Nat.le_refl _⟩ ?_
    refine r_istore_n (lv' := [(3, .int (jmin a3_ (Int32.ofNat (lenS.getD 1 0)))), (2, .int (jmax a2_ 0)), (0, .ref (D.2 102 1)), (1, .int a1_)]) C (dall tdJ1_indexOf_4cfef 13 rfl) (by decide) rfl ?_
    refine r_iload_n C 1 (dall tdJ1_indexOf_4cfef 14 rfl) rfl ?_
    refine r_iload_n C 0 (dall tdJ1_indexOf_4cfef 15 rfl) rfl ?_
    refine r_icmp_lt (tgt := 29) C (dall tdJ1_indexOf_4cfef 16 rfl) (by decide) (fun c2 => ?_) (fun c2 => ?_)
    · have h := (if_pos c2).symm.trans h
      have ok := ok.1 c2
      refine r_aload_n C 2 (dall tdJ1_indexOf_4cfef 19 rfl) rfl ?_
      refine r_iload_n C 3 (dall tdJ1_indexOf_4cfef 20 rfl) rfl ?_
      refine r_iload_n C 1 (dall tdJ1_indexOf_4cfef 21 rfl) rfl ?_
      refine r_iload_n C 0 (dall tdJ1_indexOf_4cfef 22 rfl) rfl ?_
      have o3 := ok
      refine r_s0I (as := [.ref (D.2 102 1), .int a1_, .int (jmax a2_ 0), .int (jmin a3_ (Int32.ofNat (lenS.getD 1 0)))]) C (zJ1_indexOfChar_4cfef_s1 a1_ (jmax a2_ 0) (jmin a3_ (Int32.ofNat (lenS.getD 1 0))) o3) ms_J1_indexOfChar_4cfef_s1 km_J1_95 (by decide) (by decide) ⟨Nat.le_refl _, Nat.le_refl _⟩ rfl rfl (Nat.le_of_ble_eq_true rfl) (dall tdJ1_indexOf_4cfef 23 rfl) ?_
      exact r_iret C hR (dall tdJ1_indexOf_4cfef 24 rfl) (by subst h; exact ⟨rfl, rfl⟩)
    · have h := (if_neg c2).symm.trans h
      have ok := ok.2 c2
      refine r_iconst (v := -1) C (dall tdJ1_indexOf_4cfef 17 rfl) (by decide) ?_
      exact r_iret C hR (dall tdJ1_indexOf_4cfef 18 rfl) (by subst h; exact ⟨rfl, rfl⟩)
  · have h := (if_pos c1).symm.trans h
    have ok := ok.1 c1
    refine r_iconst (v := -1) C (dall tdJ1_indexOf_4cfef 3 rfl) (by decide) ?_
    exact r_iret C hR (dall tdJ1_indexOf_4cfef 4 rfl) (by subst h; exact ⟨rfl, rfl⟩)
def fJ1_indexOf_4cfef_s1 (a1_ : Int32) (a2_ : Int32) (a3_ : Int32) : Int32 := pJ1_indexOf_4cfef_s1_0  a1_ a2_ a3_
def gJ1_indexOf_4cfef_s1 (a1_ : Int32) (a2_ : Int32) (a3_ : Int32) : Prop := oJ1_indexOf_4cfef_s1_0  a1_ a2_ a3_
set_option maxRecDepth 100000 in
theorem zJ1_indexOf_4cfef_s1  {D : va_G} (a1_ : Int32) (a2_ : Int32) (a3_ : Int32) (ok : gJ1_indexOf_4cfef_s1 a1_ a2_ a3_)  {tys : List (ClassId × FieldType)} : Con yJ1_indexOf_4cfef cJ1_indexOf_4cfef 4 (some .int) 1 0 0 D tys [.ref (D.2 102 1), .int a1_, .int a2_, .int a3_] ([]) (eI ([]) (fJ1_indexOf_4cfef_s1 a1_ a2_ a3_)) :=
  Con.of (own := RJ1) (by decide +kernel) rfl (Nat.le_of_ble_eq_true rfl) (Nat.zero_le _) (fun X A C hR _ => (wJ1_indexOf_4cfef_s1_0 a1_ a2_ a3_ C hR  ok rfl))
theorem ms_J1_indexOf_4cfef_s1 : MS_ yJ1_indexOf_4cfef cJ1_indexOf_4cfef 4 (some .int) 4 := ⟨ks_J1_indexOf_4cfef, kn_J1, kc_J1_indexOf_4cfef, by decide +kernel⟩
def tbJ0_indexOf_7cf53 : List (Nat × Instr × Nat) := [(0, .aload_n 0, 1), (1, .invokevirtual 492, 3), (4, .ifCond .eq 19, 3), (7, .aload_n 0, 1), (8, .getfield 9, 3), (11, .iload_n 1, 1), (12, .iload_n 2, 1), (13, .aload_n 0, 1), (14, .invokevirtual 505, 3), (17, .invokestatic 637, 3), (20, .goto 16, 3), (23, .aload_n 0, 1), (24, .getfield 9, 3), (27, .iload_n 1, 1), (28, .iload_n 2, 1), (29, .aload_n 0, 1), (30, .invokevirtual 505, 3), (33, .invokestatic 640, 3), (36, .ireturn, 1)]
theorem tdJ0_indexOf_7cf53 : tbJ0_indexOf_7cf53.all (fun q => decide (decode cJ0_indexOf_7cf53 q.1 = .ok q.2)) = true := by decide +kernel
def pJ0_indexOf_7cf53_s1_0  (a1_ : Int32) (a2_ : Int32) : Int32 := if fJ0_isLatin1_aae02_s1 = 0 then 0 else fJ1_indexOf_4cfef_s1 a1_ a2_ fJ0_length_8abf5_s1
def oJ0_indexOf_7cf53_s1_0  (a1_ : Int32) (a2_ : Int32) : Prop := (fJ0_isLatin1_aae02_s1 = 0 → False) ∧ (¬ (fJ0_isLatin1_aae02_s1 = 0) → gJ1_indexOf_4cfef_s1 a1_ a2_ fJ0_length_8abf5_s1)
set_option maxHeartbeats 4000000 in
set_option maxRecDepth 100000 in
theorem wJ0_indexOf_7cf53_s1_0 {X : CX} {tys : List (ClassId × FieldType)} {D : va_G} {A : Nat → Prop} {res : Int32} (a1_ : Int32) (a2_ : Int32) (C : Cx X cJ0_indexOf_7cf53 RJ0 3 D tys A 2 0 0) (hR : Rt X (some .int) D tys A 0 0 (eI ([]) res))  (ok : oJ0_indexOf_7cf53_s1_0  a1_ a2_) (h : pJ0_indexOf_7cf53_s1_0  a1_ a2_ = res) : At X D A 3 0 0 0 [(0, .ref (D.2 101 1)), (1, .int a1_), (2, .int a2_)] [] (([] : va_W)) := by
  unfold pJ0_indexOf_7cf53_s1_0 at h
  unfold oJ0_indexOf_7cf53_s1_0 at ok
  refine r_aload_n C 0 (dall tdJ0_indexOf_7cf53 0 rfl) rfl ?_
  refine r_strI (as := []) C 1 (by decide) (zJ0_isLatin1_aae02_s1  ) mv_J0_isLatin1_aae02_s1 km_J0_492 (by decide) (by decide) ⟨Nat.le_refl _, Nat.le_refl _⟩ rfl rfl (Nat.le_of_ble_eq_true rfl) (dall tdJ0_indexOf_7cf53 1 rfl) ?_
  refine r_if_eq (tgt := 23) C (dall tdJ0_indexOf_7cf53 2 rfl) (by decide) (fun c1 => ?_) (fun c1 => ?_)
  · have h := (if_pos c1).symm.trans h
    have ok := ok.1 c1
    refine r_aload_n C 0 (dall tdJ0_indexOf_7cf53 11 rfl) rfl ?_
    refine r_strV C 1 (by decide) kf_J0_9 (dall tdJ0_indexOf_7cf53 12 rfl) ?_
    refine r_iload_n C 1 (dall tdJ0_indexOf_7cf53 13 rfl) rfl ?_
    refine r_iload_n C 2 (dall tdJ0_indexOf_7cf53 14 rfl) rfl ?_
    refine r_aload_n C 0 (dall tdJ0_indexOf_7cf53 15 rfl) rfl ?_
    refine r_strI (as := []) C 1 (by decide) (zJ0_length_8abf5_s1  ) mv_J0_length_8abf5_s1 km_J0_505 (by decide) (by decide) ⟨Nat.le_refl _, Nat.le_refl _⟩ rfl rfl (Nat.le_of_ble_eq_true rfl) (dall tdJ0_indexOf_7cf53 16 rfl) ?_
    exact ok.elim
  · have h := (if_neg c1).symm.trans h
    have ok := ok.2 c1
    refine r_aload_n C 0 (dall tdJ0_indexOf_7cf53 3 rfl) rfl ?_
    refine r_strV C 1 (by decide) kf_J0_9 (dall tdJ0_indexOf_7cf53 4 rfl) ?_
    refine r_iload_n C 1 (dall tdJ0_indexOf_7cf53 5 rfl) rfl ?_
    refine r_iload_n C 2 (dall tdJ0_indexOf_7cf53 6 rfl) rfl ?_
    refine r_aload_n C 0 (dall tdJ0_indexOf_7cf53 7 rfl) rfl ?_
    refine r_strI (as := []) C 1 (by decide) (zJ0_length_8abf5_s1  ) mv_J0_length_8abf5_s1 km_J0_505 (by decide) (by decide) ⟨Nat.le_refl _, Nat.le_refl _⟩ rfl rfl (Nat.le_of_ble_eq_true rfl) (dall tdJ0_indexOf_7cf53 8 rfl) ?_
    have o2 := ok
    refine r_s0I (as := [.ref (D.2 102 1), .int a1_, .int a2_, .int fJ0_length_8abf5_s1]) C (zJ1_indexOf_4cfef_s1 a1_ a2_ fJ0_length_8abf5_s1 o2) ms_J1_indexOf_4cfef_s1 km_J0_637 (by decide) (by decide) ⟨Nat.le_refl _, Nat.le_refl _⟩ rfl rfl (Nat.le_of_ble_eq_true rfl) (dall tdJ0_indexOf_7cf53 9 rfl) ?_
    refine r_goto (tgt := 36) C (dall tdJ0_indexOf_7cf53 10 rfl) (by decide) ?_
    exact r_iret C hR (dall tdJ0_indexOf_7cf53 18 rfl) (by subst h; exact ⟨rfl, rfl⟩)
def fJ0_indexOf_7cf53_s1 (a1_ : Int32) (a2_ : Int32) : Int32 := pJ0_indexOf_7cf53_s1_0  a1_ a2_
def gJ0_indexOf_7cf53_s1 (a1_ : Int32) (a2_ : Int32) : Prop := oJ0_indexOf_7cf53_s1_0  a1_ a2_
set_option maxRecDepth 100000 in
theorem zJ0_indexOf_7cf53_s1  {D : va_G} (a1_ : Int32) (a2_ : Int32) (ok : gJ0_indexOf_7cf53_s1 a1_ a2_)  {tys : List (ClassId × FieldType)} : Con yJ0_indexOf_7cf53 cJ0_indexOf_7cf53 3 (some .int) 2 0 0 D tys [.ref (D.2 101 1), .int a1_, .int a2_] ([]) (eI ([]) (fJ0_indexOf_7cf53_s1 a1_ a2_)) :=
  Con.of (own := RJ0) (by decide +kernel) rfl (Nat.le_of_ble_eq_true rfl) (Nat.zero_le _) (fun X A C hR _ => (wJ0_indexOf_7cf53_s1_0 a1_ a2_ C hR  ok rfl))
theorem mv_J0_indexOf_7cf53_s1 : MV yJ0_indexOf_7cf53 cJ0_indexOf_7cf53 3 (some .int) RJ0 2 := ⟨ki_J0_indexOf_7cf53, kv_J0_indexOf_7cf53, kn_J0, kc_J0_indexOf_7cf53, by decide +kernel⟩
def tbJ0_indexOf_0f7a4 : List (Nat × Instr × Nat) := [(0, .aload_n 0, 1), (1, .iload_n 1, 1), (2, .iconst 0, 1), (3, .invokevirtual 633, 3), (6, .ireturn, 1)]
theorem tdJ0_indexOf_0f7a4 : tbJ0_indexOf_0f7a4.all (fun q => decide (decode cJ0_indexOf_0f7a4 q.1 = .ok q.2)) = true := by decide +kernel
def pJ0_indexOf_0f7a4_s1_0  (a1_ : Int32) : Int32 := fJ0_indexOf_7cf53_s1 a1_ 0
def oJ0_indexOf_0f7a4_s1_0  (a1_ : Int32) : Prop := gJ0_indexOf_7cf53_s1 a1_ 0
set_option maxHeartbeats 4000000 in
set_option maxRecDepth 100000 in
theorem wJ0_indexOf_0f7a4_s1_0 {X : CX} {tys : List (ClassId × FieldType)} {D : va_G} {A : Nat → Prop} {res : Int32} (a1_ : Int32) (C : Cx X cJ0_indexOf_0f7a4 RJ0 2 D tys A 3 0 0) (hR : Rt X (some .int) D tys A 0 0 (eI ([]) res))  (ok : oJ0_indexOf_0f7a4_s1_0  a1_) (h : pJ0_indexOf_0f7a4_s1_0  a1_ = res) : At X D A 2 0 0 0 [(0, .ref (D.2 101 1)), (1, .int a1_)] [] (([] : va_W)) := by
  unfold pJ0_indexOf_0f7a4_s1_0 at h
  unfold oJ0_indexOf_0f7a4_s1_0 at ok
  refine r_aload_n C 0 (dall tdJ0_indexOf_0f7a4 0 rfl) rfl ?_
  refine r_iload_n C 1 (dall tdJ0_indexOf_0f7a4 1 rfl) rfl ?_
  refine r_iconst (v := 0) C (dall tdJ0_indexOf_0f7a4 2 rfl) (by decide) ?_
  have o1 := ok
  refine r_strI (as := [.int a1_, .int 0]) C 1 (by decide) (zJ0_indexOf_7cf53_s1 a1_ 0 o1) mv_J0_indexOf_7cf53_s1 km_J0_633 (by decide) (by decide) ⟨Nat.le_refl _, Nat.le_refl _⟩ rfl rfl (Nat.le_of_ble_eq_true rfl) (dall tdJ0_indexOf_0f7a4 3 rfl) ?_
  exact r_iret C hR (dall tdJ0_indexOf_0f7a4 4 rfl) (by subst h; exact ⟨rfl, rfl⟩)
def fJ0_indexOf_0f7a4_s1 (a1_ : Int32) : Int32 := pJ0_indexOf_0f7a4_s1_0  a1_
def gJ0_indexOf_0f7a4_s1 (a1_ : Int32) : Prop := oJ0_indexOf_0f7a4_s1_0  a1_
set_option maxRecDepth 100000 in
theorem zJ0_indexOf_0f7a4_s1  {D : va_G} (a1_ : Int32) (ok : gJ0_indexOf_0f7a4_s1 a1_)  {tys : List (ClassId × FieldType)} : Con yJ0_indexOf_0f7a4 cJ0_indexOf_0f7a4 2 (some .int) 3 0 0 D tys [.ref (D.2 101 1), .int a1_] ([]) (eI ([]) (fJ0_indexOf_0f7a4_s1 a1_)) :=
  Con.of (own := RJ0) (by decide +kernel) rfl (Nat.le_of_ble_eq_true rfl) (Nat.zero_le _) (fun X A C hR _ => (wJ0_indexOf_0f7a4_s1_0 a1_ C hR  ok rfl))
theorem mv_J0_indexOf_0f7a4_s1 : MV yJ0_indexOf_0f7a4 cJ0_indexOf_0f7a4 2 (some .int) RJ0 1 := ⟨ki_J0_indexOf_0f7a4, kv_J0_indexOf_0f7a4, kn_J0, kc_J0_indexOf_0f7a4, by decide +kernel⟩
end
section
abbrev fX0 (q : Nat → Nat) (σ : OS) : List Value := [.int (σ.1 0), .ref (q 1), .ref (q 2), .ref (q 3), .int (σ.1 4), .int (σ.1 5), .int (σ.1 6), .int (σ.1 7), .int (σ.1 8), .int (σ.1 9), .int (σ.1 10)]
def wX0 (cy : Nat → ClassId) (q : Nat → Nat) (σ : OS) : va_W := (q 11, .inr (0, fX0 q σ)) :: (q 1, .inl (cy 0, 160, .inl (σ.2.2.1 1))) :: (q 2, .inl (cy 0, 160, .inl (σ.2.2.1 2))) :: (q 3, .inl (cy 0, 3, .inl (σ.2.2.1 3))) :: []
theorem pu_X0_this_0 (cy : Nat → ClassId) (q : Nat → Nat) (σ : OS) (v : Int32) : (wX0 cy q σ).set 0 (q 11, .inr (0, (fX0 q σ).set 0 (.int v))) = wX0 cy q (oI σ 0 v) := rfl
theorem pu_X0_this_4 (cy : Nat → ClassId) (q : Nat → Nat) (σ : OS) (v : Int32) : (wX0 cy q σ).set 0 (q 11, .inr (0, (fX0 q σ).set 4 (.int v))) = wX0 cy q (oI σ 4 v) := rfl
theorem pu_X0_this_5 (cy : Nat → ClassId) (q : Nat → Nat) (σ : OS) (v : Int32) : (wX0 cy q σ).set 0 (q 11, .inr (0, (fX0 q σ).set 5 (.int v))) = wX0 cy q (oI σ 5 v) := rfl
theorem pu_X0_this_6 (cy : Nat → ClassId) (q : Nat → Nat) (σ : OS) (v : Int32) : (wX0 cy q σ).set 0 (q 11, .inr (0, (fX0 q σ).set 6 (.int v))) = wX0 cy q (oI σ 6 v) := rfl
theorem pu_X0_this_7 (cy : Nat → ClassId) (q : Nat → Nat) (σ : OS) (v : Int32) : (wX0 cy q σ).set 0 (q 11, .inr (0, (fX0 q σ).set 7 (.int v))) = wX0 cy q (oI σ 7 v) := rfl
theorem pu_X0_this_8 (cy : Nat → ClassId) (q : Nat → Nat) (σ : OS) (v : Int32) : (wX0 cy q σ).set 0 (q 11, .inr (0, (fX0 q σ).set 8 (.int v))) = wX0 cy q (oI σ 8 v) := rfl
theorem pu_X0_this_9 (cy : Nat → ClassId) (q : Nat → Nat) (σ : OS) (v : Int32) : (wX0 cy q σ).set 0 (q 11, .inr (0, (fX0 q σ).set 9 (.int v))) = wX0 cy q (oI σ 9 v) := rfl
theorem pu_X0_this_10 (cy : Nat → ClassId) (q : Nat → Nat) (σ : OS) (v : Int32) : (wX0 cy q σ).set 0 (q 11, .inr (0, (fX0 q σ).set 10 (.int v))) = wX0 cy q (oI σ 10 v) := rfl
theorem pa_X0_this_1 (cy : Nat → ClassId) (q : Nat → Nat) (σ : OS) (i : Nat) (x : Int32) : (wX0 cy q σ).set 1 (q 1, .inl (cy 0, 160, .inl (upd (σ.2.2.1 1) i x))) = wX0 cy q (oS σ 1 i x) := rfl
theorem pa_X0_this_2 (cy : Nat → ClassId) (q : Nat → Nat) (σ : OS) (i : Nat) (x : Int32) : (wX0 cy q σ).set 2 (q 2, .inl (cy 0, 160, .inl (upd (σ.2.2.1 2) i x))) = wX0 cy q (oS σ 2 i x) := rfl
theorem pa_X0_this_3 (cy : Nat → ClassId) (q : Nat → Nat) (σ : OS) (i : Nat) (x : Int32) : (wX0 cy q σ).set 3 (q 3, .inl (cy 0, 3, .inl (upd (σ.2.2.1 3) i x))) = wX0 cy q (oS σ 3 i x) := rfl
def tbX0_hasRoom : List (Nat × Instr × Nat) := [(0, .aload_n 0, 1), (1, .getfield 21, 3), (4, .sipush 160, 3), (7, .if_icmp .ge 7, 3), (10, .iconst 1, 1), (11, .goto 4, 3), (14, .iconst 0, 1), (15, .ireturn, 1)]
theorem tdX0_hasRoom : tbX0_hasRoom.all (fun q => decide (decode cX0_hasRoom q.1 = .ok q.2)) = true := by decide +kernel
def pX0_hasRoom_0  (σ : OS) : Int32 := if 160 ≤ (σ.1 0) then 0 else 1
set_option maxHeartbeats 4000000 in
set_option maxRecDepth 100000 in
theorem wX0_hasRoom_0 {X : CX} {cy : Nat → ClassId} {q : Nat → Nat} {D : va_G} {A : Nat → Prop} {res : Int32} (σ : OS) (C : Cx X cX0_hasRoom RX0 1 D (gty cy) A 0 0 0) (hR : Rt X (some .boolean) D (gty cy) A 0 0 (eI (wX0 cy q σ) res))  (h : pX0_hasRoom_0  σ = res) : At X D A 1 0 0 0 [(0, .ref (q 11))] [] (wX0 cy q σ) := by
  unfold pX0_hasRoom_0 at h
  refine r_aload_n C 0 (dall tdX0_hasRoom 0 rfl) rfl ?_
  refine r_get C 0 kw_X0 rfl rfl (by decide) kf_X0_21 rfl rfl (dall tdX0_hasRoom 1 rfl) ?_
  refine r_sipush (v := 160) C (dall tdX0_hasRoom 2 rfl) (by decide) ?_
  refine r_icmp_ge (tgt := 14) C (dall tdX0_hasRoom 3 rfl) (by decide) (fun c1 => ?_) (fun c1 => ?_)
  · have h := (if_pos c1).symm.trans h
    refine r_iconst (v := 0) C (dall tdX0_hasRoom 6 rfl) (by decide) ?_
    exact r_zret C (by decide) hR (dall tdX0_hasRoom 7 rfl) (by subst h; exact ⟨rfl, rfl⟩)
  · have h := (if_neg c1).symm.trans h
    refine r_iconst (v := 1) C (dall tdX0_hasRoom 4 rfl) (by decide) ?_
    refine r_goto (tgt := 15) C (dall tdX0_hasRoom 5 rfl) (by decide) ?_
    exact r_zret C (by decide) hR (dall tdX0_hasRoom 7 rfl) (by subst h; exact ⟨rfl, rfl⟩)
def fX0_hasRoom (σ : OS) : Int32 := pX0_hasRoom_0  σ
set_option maxRecDepth 100000 in
theorem zX0_hasRoom (cy : Nat → ClassId) (q : Nat → Nat)  {D : va_G} (σ : OS)  : Con yX0_hasRoom cX0_hasRoom 1 (some .boolean) 0 0 0 D (gty cy) [.ref (q 11)] (wX0 cy q σ) (eI (wX0 cy q σ) (fX0_hasRoom σ )) :=
  Con.of (own := RX0) (by decide +kernel) rfl (Nat.le_of_ble_eq_true rfl) (Nat.zero_le _) (fun X A C hR _ => (wX0_hasRoom_0 σ C hR  rfl))
theorem mv_X0_hasRoom : MV yX0_hasRoom cX0_hasRoom 1 (some .boolean) RX0 0 := ⟨ki_X0_hasRoom, kv_X0_hasRoom, kn_X0, kc_X0_hasRoom, by decide +kernel⟩
def tbX0_take : List (Nat × Instr × Nat) := [(0, .aload_n 0, 1), (1, .getfield 9, 3), (4, .aload_n 0, 1), (5, .getfield 21, 3), (8, .iload_n 1, 1), (9, .iastore, 1), (10, .aload_n 0, 1), (11, .dup, 1), (12, .getfield 21, 3), (15, .iconst 1, 1), (16, .iadd, 1), (17, .putfield 21, 3), (20, .aload_n 0, 1), (21, .getfield 21, 3), (24, .ireturn, 1)]
theorem tdX0_take : tbX0_take.all (fun q => decide (decode cX0_take q.1 = .ok q.2)) = true := by decide +kernel
def pX0_take_0  (σ : OS) (a1_ : Int32) : Int32 × OS := ((oI (oS σ 1 ((σ.1 0).toNatClampNeg) a1_) 0 (((oS σ 1 ((σ.1 0).toNatClampNeg) a1_).1 0) + 1)).1 0, oI (oS σ 1 ((σ.1 0).toNatClampNeg) a1_) 0 (((oS σ 1 ((σ.1 0).toNatClampNeg) a1_).1 0) + 1))
def oX0_take_0  (σ : OS) (a1_ : Int32) : Prop := vp_in (σ.1 0) 160
set_option maxHeartbeats 4000000 in
set_option maxRecDepth 100000 in
theorem wX0_take_0 {X : CX} {cy : Nat → ClassId} {q : Nat → Nat} {D : va_G} {A : Nat → Prop} {res : Int32 × OS} (σ : OS) (a1_ : Int32) (C : Cx X cX0_take RX0 2 D (gty cy) A 0 0 0) (hR : Rt X (some .int) D (gty cy) A 0 0 (eI (wX0 cy q res.2) res.1))  (ok : oX0_take_0  σ a1_) (h : pX0_take_0  σ a1_ = res) : At X D A 2 0 0 0 [(0, .ref (q 11)), (1, .int a1_)] [] (wX0 cy q σ) := by
  unfold pX0_take_0 at h
  unfold oX0_take_0 at ok
  refine r_aload_n C 0 (dall tdX0_take 0 rfl) rfl ?_
  refine r_get C 0 kw_X0 rfl rfl (by decide) kf_X0_9 rfl rfl (dall tdX0_take 1 rfl) ?_
  refine r_aload_n C 0 (dall tdX0_take 2 rfl) rfl ?_
  refine r_get C 0 kw_X0 rfl rfl (by decide) kf_X0_21 rfl rfl (dall tdX0_take 3 rfl) ?_
  refine r_iload_n C 1 (dall tdX0_take 4 rfl) rfl ?_
  have o1 := ok
  refine r_iast C 1 0 rfl rfl o1 (pa_X0_this_1 cy q σ ((σ.1 0).toNatClampNeg) a1_) (dall tdX0_take 5 rfl) ?_
  refine r_aload_n C 0 (dall tdX0_take 6 rfl) rfl ?_
  refine r_dup C (dall tdX0_take 7 rfl) rfl ?_
  refine r_get C 0 kw_X0 rfl rfl (by decide) kf_X0_21 rfl rfl (dall tdX0_take 8 rfl) ?_
  refine r_iconst (v := 1) C (dall tdX0_take 9 rfl) (by decide) ?_
  refine r_iadd C (dall tdX0_take 10 rfl) ?_
  refine r_put C 0 kw_X0 tyX0_ok nmX0 rfl rfl (by decide) kf_X0_21 rfl rfl rfl rfl rfl (Nat.le_of_ble_eq_true rfl) (pu_X0_this_0 cy q (oS σ 1 ((σ.1 0).toNatClampNeg) a1_) (((oS σ 1 ((σ.1 0).toNatClampNeg) a1_).1 0) + 1)) (dall tdX0_take 11 rfl) ?_
  refine r_aload_n C 0 (dall tdX0_take 12 rfl) rfl ?_
  refine r_get C 0 kw_X0 rfl rfl (by decide) kf_X0_21 rfl rfl (dall tdX0_take 13 rfl) ?_
  exact r_iret C hR (dall tdX0_take 14 rfl) (by subst h; exact ⟨rfl, rfl⟩)
def fX0_take (σ : OS) (a1_ : Int32) : Int32 × OS := pX0_take_0  σ a1_
def gX0_take (σ : OS) (a1_ : Int32) : Prop := oX0_take_0  σ a1_
set_option maxRecDepth 100000 in
theorem zX0_take (cy : Nat → ClassId) (q : Nat → Nat)  {D : va_G} (σ : OS) (a1_ : Int32) (ok : gX0_take σ a1_)  : Con yX0_take cX0_take 2 (some .int) 0 0 0 D (gty cy) [.ref (q 11), .int a1_] (wX0 cy q σ) (eI (wX0 cy q (fX0_take σ a1_).2) (fX0_take σ a1_).1) :=
  Con.of (own := RX0) (by decide +kernel) rfl (Nat.le_of_ble_eq_true rfl) (Nat.zero_le _) (fun X A C hR _ => (wX0_take_0 σ a1_ C hR  ok rfl))
theorem mv_X0_take : MV yX0_take cX0_take 2 (some .int) RX0 1 := ⟨ki_X0_take, kv_X0_take, kn_X0, kc_X0_take, by decide +kernel⟩
def tbX0_spells : List (Nat × Instr × Nat) := [(0, .iload_n 3, 1), (1, .iload_n 2, 1), (2, .isub, 1), (3, .bipush 6, 2), (5, .if_icmp .le 5, 3), (8, .iconst 0, 1), (9, .ireturn, 1), (10, .iconst 0, 1), (11, .istore 4, 2), (13, .iload 4, 2), (15, .bipush 6, 2), (17, .if_icmp .ge 52, 3), (20, .iload_n 2, 1), (21, .iload 4, 2), (23, .iadd, 1), (24, .iload_n 3, 1), (25, .if_icmp .ge 15, 3), (28, .aload_n 0, 1), (29, .getfield 9, 3), (32, .iload_n 2, 1), (33, .iload 4, 2), (35, .iadd, 1), (36, .iaload, 1), (37, .goto 5, 3), (40, .bipush 32, 2), (42, .istore 5, 2), (44, .iload 5, 2), (46, .ldc 124, 2), (48, .bipush 6, 2), (50, .iload_n 1, 1), (51, .imul, 1), (52, .iload 4, 2), (54, .iadd, 1), (55, .invokevirtual 126, 3), (58, .if_icmp .eq 5, 3), (61, .iconst 0, 1), (62, .ireturn, 1), (63, .iinc 4 1, 3), (66, .goto (-53), 3), (69, .iconst 1, 1), (70, .ireturn, 1)]
theorem tdX0_spells : tbX0_spells.all (fun q => decide (decode cX0_spells q.1 = .ok q.2)) = true := by decide +kernel
def pX0_spells_42 (kR13 : Int32 → Int32) (σ : OS) (a1_ : Int32) (a2_ : Int32) (a3_ : Int32) (a4_ : Int32) (b0_ : Int32) : Int32 := if b0_ = (fJ0_charAt_5068e_s0 ((6 * a1_) + a4_)) then kR13 (a4_ + 1) else 0
def oX0_spells_42 (kO13 : Int32 → Prop) (σ : OS) (a1_ : Int32) (a2_ : Int32) (a3_ : Int32) (a4_ : Int32) (b0_ : Int32) : Prop := (gJ0_charAt_5068e_s0 ((6 * a1_) + a4_)) ∧ ((b0_ = (fJ0_charAt_5068e_s0 ((6 * a1_) + a4_)) → kO13 (a4_ + 1)) ∧ (¬ (b0_ = (fJ0_charAt_5068e_s0 ((6 * a1_) + a4_))) → True))
set_option maxHeartbeats 4000000 in
set_option maxRecDepth 100000 in
theorem wX0_spells_42 {X : CX} {cy : Nat → ClassId} {q : Nat → Nat} {D : va_G} {A : Nat → Prop} {res : Int32} (σ : OS) (a1_ : Int32) (a2_ : Int32) (a3_ : Int32) (a4_ : Int32) (b0_ : Int32) (C : Cx X cX0_spells RX0 6 D (gty cy) A 4 0 0) (hR : Rt X (some .boolean) D (gty cy) A 0 0 (eI (wX0 cy q σ) res)) (kR13 : Int32 → Int32) (kO13 : Int32 → Prop) (hk13 : ∀ z, kO13 z → kR13 z = res → At X D A 6 0 0 13 [(0, .ref (q 11)), (1, .int a1_), (2, .int a2_), (3, .int a3_), (4, .int z)] [] (wX0 cy q σ)) (ok : oX0_spells_42 kO13 σ a1_ a2_ a3_ a4_ b0_) (h : pX0_spells_42 kR13 σ a1_ a2_ a3_ a4_ b0_ = res) : At X D A 6 0 0 42 [(0, .ref (q 11)), (1, .int a1_), (2, .int a2_), (3, .int a3_), (4, .int a4_)] [.int b0_] (wX0 cy q σ) := by
  unfold pX0_spells_42 at h
  unfold oX0_spells_42 at ok
  refine r_istore (lv' := [(5, .int b0_), (0, .ref (q 11)), (1, .int a1_), (2, .int a2_), (3, .int a3_), (4, .int a4_)]) C (dall tdX0_spells 25 rfl) (by decide) rfl ?_
  refine r_iload C 0 (dall tdX0_spells 26 rfl) rfl ?_
  refine r_ldcS0 C (dall tdX0_spells 27 rfl) ?_
  refine r_bipush (v := 6) C (dall tdX0_spells 28 rfl) (by decide) ?_
  refine r_iload_n C 2 (dall tdX0_spells 29 rfl) rfl ?_
  refine r_imul C (dall tdX0_spells 30 rfl) ?_
  refine r_iload C 5 (dall tdX0_spells 31 rfl) rfl ?_
  refine r_iadd C (dall tdX0_spells 32 rfl) ?_
  obtain ⟨o1, ok⟩ := ok
  refine r_strI (as := [.int ((6 * a1_) + a4_)]) C 0 (by decide) (zJ0_charAt_5068e_s0 ((6 * a1_) + a4_) o1) mv_J0_charAt_5068e_s0 km_X0_126 (by decide) (by decide) ⟨Nat.le_refl _, Nat.le_refl _⟩ rfl rfl (Nat.le_of_ble_eq_true rfl) (dall tdX0_spells 33 rfl) ?_
  refine r_icmp_eq (tgt := 63) C (dall tdX0_spells 34 rfl) (by decide) (fun c2 => ?_) (fun c2 => ?_)
  · have h := (if_pos c2).symm.trans h
    have ok := ok.1 c2
    refine r_iinc (v := a4_ + 1) (lv' := [(4, .int (a4_ + 1)), (5, .int b0_), (0, .ref (q 11)), (1, .int a1_), (2, .int a2_), (3, .int a3_)]) C 5 (dall tdX0_spells 37 rfl) rfl rfl (by decide) rfl ?_
    refine r_goto (tgt := 13) C (dall tdX0_spells 38 rfl) (by decide) ?_
    refine r_pick [2, 3, 4, 5, 0] rfl ?_
    exact hk13 (a4_ + 1) ok h
  · have h := (if_neg c2).symm.trans h
    have ok := ok.2 c2
    refine r_iconst (v := 0) C (dall tdX0_spells 35 rfl) (by decide) ?_
    exact r_zret C (by decide) hR (dall tdX0_spells 36 rfl) (by subst h; exact ⟨rfl, rfl⟩)
def bX0_spells_13 (σ : OS) (a1_ : Int32) (a2_ : Int32) (a3_ : Int32)  (kR13 : Int32 → Int32) (v : Int32) : Int32 := if 6 ≤ v then 1 else if a3_ ≤ (a2_ + v) then pX0_spells_42 kR13 σ a1_ a2_ a3_ v 32 else pX0_spells_42 kR13 σ a1_ a2_ a3_ v (σ.2.2.1 1 (a2_ + v).toNatClampNeg)
def kX0_spells_13 (σ : OS) (a1_ : Int32) (a2_ : Int32) (a3_ : Int32)  (kO13 : Int32 → Prop) (v : Int32) : Prop := (6 ≤ v → True) ∧ (¬ (6 ≤ v) → (a3_ ≤ (a2_ + v) → oX0_spells_42 kO13 σ a1_ a2_ a3_ v 32) ∧ (¬ (a3_ ≤ (a2_ + v)) → (vp_in (a2_ + v) 160) ∧ (oX0_spells_42 kO13 σ a1_ a2_ a3_ v (σ.2.2.1 1 (a2_ + v).toNatClampNeg))))
set_option maxHeartbeats 4000000 in
set_option maxRecDepth 100000 in
theorem wX0_spells_13 {X : CX} {cy : Nat → ClassId} {q : Nat → Nat} {D : va_G} {A : Nat → Prop} {res : Int32} (σ : OS) (a1_ : Int32) (a2_ : Int32) (a3_ : Int32) (C : Cx X cX0_spells RX0 6 D (gty cy) A 4 0 0) (hR : Rt X (some .boolean) D (gty cy) A 0 0 (eI (wX0 cy q σ) res)) (kR13 : Int32 → Int32) (kO13 : Int32 → Prop) (hk13 : ∀ z, kO13 z → kR13 z = res → At X D A 6 0 0 13 [(0, .ref (q 11)), (1, .int a1_), (2, .int a2_), (3, .int a3_), (4, .int z)] [] (wX0 cy q σ)) (v : Int32) (ok : kX0_spells_13 σ a1_ a2_ a3_ kO13 v) (h : bX0_spells_13 σ a1_ a2_ a3_ kR13 v = res) : At X D A 6 0 0 13 [(0, .ref (q 11)), (1, .int a1_), (2, .int a2_), (3, .int a3_), (4, .int v)] [] (wX0 cy q σ) := by
  unfold bX0_spells_13 at h
  unfold kX0_spells_13 at ok
  refine r_iload C 4 (dall tdX0_spells 9 rfl) rfl ?_
  refine r_bipush (v := 6) C (dall tdX0_spells 10 rfl) (by decide) ?_
  refine r_icmp_ge (tgt := 69) C (dall tdX0_spells 11 rfl) (by decide) (fun c3 => ?_) (fun c3 => ?_)
  · have h := (if_pos c3).symm.trans h
    have ok := ok.1 c3
    refine r_iconst (v := 1) C (dall tdX0_spells 39 rfl) (by decide) ?_
    exact r_zret C (by decide) hR (dall tdX0_spells 40 rfl) (by subst h; exact ⟨rfl, rfl⟩)
  · have h := (if_neg c3).symm.trans h
    have ok := ok.2 c3
    refine r_iload_n C 2 (dall tdX0_spells 12 rfl) rfl ?_
    refine r_iload C 4 (dall tdX0_spells 13 rfl) rfl ?_
    refine r_iadd C (dall tdX0_spells 14 rfl) ?_
    refine r_iload_n C 3 (dall tdX0_spells 15 rfl) rfl ?_
    refine r_icmp_ge (tgt := 40) C (dall tdX0_spells 16 rfl) (by decide) (fun c4 => ?_) (fun c4 => ?_)
    · have h := (if_pos c4).symm.trans h
      have ok := ok.1 c4
      refine r_bipush (v := 32) C (dall tdX0_spells 24 rfl) (by decide) ?_
      exact wX0_spells_42 σ a1_ a2_ a3_ v 32 C hR kR13 kO13 hk13 ok h
    · have h := (if_neg c4).symm.trans h
      have ok := ok.2 c4
      refine r_aload_n C 0 (dall tdX0_spells 17 rfl) rfl ?_
      refine r_get C 0 kw_X0 rfl rfl (by decide) kf_X0_9 rfl rfl (dall tdX0_spells 18 rfl) ?_
      refine r_iload_n C 2 (dall tdX0_spells 19 rfl) rfl ?_
      refine r_iload C 4 (dall tdX0_spells 20 rfl) rfl ?_
      refine r_iadd C (dall tdX0_spells 21 rfl) ?_
      obtain ⟨o5, ok⟩ := ok
      refine r_iald C 1 0 rfl rfl o5 (dall tdX0_spells 22 rfl) ?_
      refine r_goto (tgt := 42) C (dall tdX0_spells 23 rfl) (by decide) ?_
      exact wX0_spells_42 σ a1_ a2_ a3_ v (σ.2.2.1 1 (a2_ + v).toNatClampNeg) C hR kR13 kO13 hk13 ok h
set_option maxHeartbeats 4000000 in
set_option maxRecDepth 100000 in
theorem lX0_spells_13 {X : CX} {cy : Nat → ClassId} {q : Nat → Nat} {D : va_G} {A : Nat → Prop} {res : Int32} (σ : OS) (a1_ : Int32) (a2_ : Int32) (a3_ : Int32) (C : Cx X cX0_spells RX0 6 D (gty cy) A 4 0 0) (hR : Rt X (some .boolean) D (gty cy) A 0 0 (eI (wX0 cy q σ) res))  (n : Nat) (v : Int32) (ok : lpOk (kX0_spells_13 σ a1_ a2_ a3_ ) n v) (h : lp 0 (bX0_spells_13 σ a1_ a2_ a3_ ) n v = res) : At X D A 6 0 0 13 [(0, .ref (q 11)), (1, .int a1_), (2, .int a2_), (3, .int a3_), (4, .int v)] [] (wX0 cy q σ) :=
  lp_rule (fun v rr_ => rr_ = res → At X D A 6 0 0 13 [(0, .ref (q 11)), (1, .int a1_), (2, .int a2_), (3, .int a3_), (4, .int v)] [] (wX0 cy q σ)) (fun kR kO hk v ok h => wX0_spells_13 σ a1_ a2_ a3_ C hR  kR kO hk v ok h) n v ok h
def pX0_spells_0  (σ : OS) (a1_ : Int32) (a2_ : Int32) (a3_ : Int32) : Int32 := if (a3_ - a2_) ≤ 6 then lp 0 (bX0_spells_13 σ a1_ a2_ a3_ ) fu 0 else 0
def oX0_spells_0  (σ : OS) (a1_ : Int32) (a2_ : Int32) (a3_ : Int32) : Prop := ((a3_ - a2_) ≤ 6 → lpOk (kX0_spells_13 σ a1_ a2_ a3_ ) fu 0) ∧ (¬ ((a3_ - a2_) ≤ 6) → True)
set_option maxHeartbeats 4000000 in
set_option maxRecDepth 100000 in
theorem wX0_spells_0 {X : CX} {cy : Nat → ClassId} {q : Nat → Nat} {D : va_G} {A : Nat → Prop} {res : Int32} (σ : OS) (a1_ : Int32) (a2_ : Int32) (a3_ : Int32) (C : Cx X cX0_spells RX0 6 D (gty cy) A 4 0 0) (hR : Rt X (some .boolean) D (gty cy) A 0 0 (eI (wX0 cy q σ) res))  (ok : oX0_spells_0  σ a1_ a2_ a3_) (h : pX0_spells_0  σ a1_ a2_ a3_ = res) : At X D A 6 0 0 0 [(0, .ref (q 11)), (1, .int a1_), (2, .int a2_), (3, .int a3_)] [] (wX0 cy q σ) := by
  unfold pX0_spells_0 at h
  unfold oX0_spells_0 at ok
  refine r_iload_n C 3 (dall tdX0_spells 0 rfl) rfl ?_
  refine r_iload_n C 2 (dall tdX0_spells 1 rfl) rfl ?_
  refine r_isub C (dall tdX0_spells 2 rfl) ?_
  refine r_bipush (v := 6) C (dall tdX0_spells 3 rfl) (by decide) ?_
  refine r_icmp_le (tgt := 10) C (dall tdX0_spells 4 rfl) (by decide) (fun c6 => ?_) (fun c6 => ?_)
  · have h := (if_pos c6).symm.trans h
    have ok := ok.1 c6
    refine r_iconst (v := 0) C (dall tdX0_spells 7 rfl) (by decide) ?_
    refine r_istore (lv' := [(4, .int 0), (0, .ref (q 11)), (1, .int a1_), (2, .int a2_), (3, .int a3_)]) C (dall tdX0_spells 8 rfl) (by decide) rfl ?_
    refine r_pick [1, 2, 3, 4, 0] rfl ?_
    exact lX0_spells_13 σ a1_ a2_ a3_ C hR  fu _ ok h
  · have h := (if_neg c6).symm.trans h
    have ok := ok.2 c6
    refine r_iconst (v := 0) C (dall tdX0_spells 5 rfl) (by decide) ?_
    exact r_zret C (by decide) hR (dall tdX0_spells 6 rfl) (by subst h; exact ⟨rfl, rfl⟩)
def fX0_spells (σ : OS) (a1_ : Int32) (a2_ : Int32) (a3_ : Int32) : Int32 := pX0_spells_0  σ a1_ a2_ a3_
def gX0_spells (σ : OS) (a1_ : Int32) (a2_ : Int32) (a3_ : Int32) : Prop := oX0_spells_0  σ a1_ a2_ a3_
set_option maxRecDepth 100000 in
theorem zX0_spells (cy : Nat → ClassId) (q : Nat → Nat)  {D : va_G} (σ : OS) (a1_ : Int32) (a2_ : Int32) (a3_ : Int32) (ok : gX0_spells σ a1_ a2_ a3_)  : Con yX0_spells cX0_spells 6 (some .boolean) 4 0 0 D (gty cy) [.ref (q 11), .int a1_, .int a2_, .int a3_] (wX0 cy q σ) (eI (wX0 cy q σ) (fX0_spells σ a1_ a2_ a3_)) :=
  Con.of (own := RX0) (by decide +kernel) rfl (Nat.le_of_ble_eq_true rfl) (Nat.zero_le _) (fun X A C hR _ => (wX0_spells_0 σ a1_ a2_ a3_ C hR  ok rfl))
theorem mv_X0_spells : MV yX0_spells cX0_spells 6 (some .boolean) RX0 3 := ⟨ki_X0_spells, kv_X0_spells, kn_X0, kc_X0_spells, by decide +kernel⟩
def tbX0_wordToken : List (Nat × Instr × Nat) := [(0, .iconst 0, 1), (1, .istore_n 1, 1), (2, .iload_n 1, 1), (3, .sipush 160, 3), (6, .if_icmp .ge 45, 3), (9, .aload_n 0, 1), (10, .getfield 28, 3), (13, .aload_n 0, 1), (14, .getfield 21, 3), (17, .if_icmp .ge 34, 3), (20, .aload_n 0, 1), (21, .getfield 9, 3), (24, .aload_n 0, 1), (25, .getfield 28, 3), (28, .iaload, 1), (29, .invokestatic 99, 3), (32, .ifCond .eq 19, 3), (35, .aload_n 0, 1), (36, .dup, 1), (37, .getfield 28, 3), (40, .iconst 1, 1), (41, .iadd, 1), (42, .putfield 28, 3), (45, .iinc 1 1, 3), (48, .goto (-46), 3), (51, .iconst 0, 1), (52, .istore_n 1, 1), (53, .iload_n 1, 1), (54, .bipush 12, 2), (56, .if_icmp .ge 27, 3), (59, .aload_n 0, 1), (60, .iload_n 1, 1), (61, .aload_n 0, 1), (62, .getfield 93, 3), (65, .aload_n 0, 1), (66, .getfield 28, 3), (69, .invokevirtual 120, 3), (72, .ifCond .eq 5, 3), (75, .iload_n 1, 1), (76, .ireturn, 1), (77, .iinc 1 1, 3), (80, .goto (-27), 3), (83, .bipush 22, 2), (85, .ireturn, 1)]
theorem tdX0_wordToken : tbX0_wordToken.all (fun q => decide (decode cX0_wordToken q.1 = .ok q.2)) = true := by decide +kernel
def bX0_wordToken_53 (σ : OS)  (kR53 : Int32 → Int32 × OS) (v : Int32) : Int32 × OS := if 12 ≤ v then (22, σ) else if (fX0_spells σ v (σ.1 7) (σ.1 5)) = 0 then kR53 (v + 1) else (v, σ)
def kX0_wordToken_53 (σ : OS)  (kO53 : Int32 → Prop) (v : Int32) : Prop := (12 ≤ v → True) ∧ (¬ (12 ≤ v) → (gX0_spells σ v (σ.1 7) (σ.1 5)) ∧ (((fX0_spells σ v (σ.1 7) (σ.1 5)) = 0 → kO53 (v + 1)) ∧ (¬ ((fX0_spells σ v (σ.1 7) (σ.1 5)) = 0) → True)))
set_option maxHeartbeats 4000000 in
set_option maxRecDepth 100000 in
theorem wX0_wordToken_53 {X : CX} {cy : Nat → ClassId} {q : Nat → Nat} {D : va_G} {A : Nat → Prop} {res : Int32 × OS} (σ : OS) (C : Cx X cX0_wordToken RX0 2 D (gty cy) A 5 0 0) (hR : Rt X (some .int) D (gty cy) A 0 0 (eI (wX0 cy q res.2) res.1)) (kR53 : Int32 → Int32 × OS) (kO53 : Int32 → Prop) (hk53 : ∀ z, kO53 z → kR53 z = res → At X D A 2 0 0 53 [(0, .ref (q 11)), (1, .int z)] [] (wX0 cy q σ)) (v : Int32) (ok : kX0_wordToken_53 σ kO53 v) (h : bX0_wordToken_53 σ kR53 v = res) : At X D A 2 0 0 53 [(0, .ref (q 11)), (1, .int v)] [] (wX0 cy q σ) := by
  unfold bX0_wordToken_53 at h
  unfold kX0_wordToken_53 at ok
  refine r_iload_n C 1 (dall tdX0_wordToken 27 rfl) rfl ?_
  refine r_bipush (v := 12) C (dall tdX0_wordToken 28 rfl) (by decide) ?_
  refine r_icmp_ge (tgt := 83) C (dall tdX0_wordToken 29 rfl) (by decide) (fun c1 => ?_) (fun c1 => ?_)
  · have h := (if_pos c1).symm.trans h
    have ok := ok.1 c1
    refine r_bipush (v := 22) C (dall tdX0_wordToken 42 rfl) (by decide) ?_
    exact r_iret C hR (dall tdX0_wordToken 43 rfl) (by subst h; exact ⟨rfl, rfl⟩)
  · have h := (if_neg c1).symm.trans h
    have ok := ok.2 c1
    refine r_aload_n C 0 (dall tdX0_wordToken 30 rfl) rfl ?_
    refine r_iload_n C 1 (dall tdX0_wordToken 31 rfl) rfl ?_
    refine r_aload_n C 0 (dall tdX0_wordToken 32 rfl) rfl ?_
    refine r_get C 0 kw_X0 rfl rfl (by decide) kf_X0_93 rfl rfl (dall tdX0_wordToken 33 rfl) ?_
    refine r_aload_n C 0 (dall tdX0_wordToken 34 rfl) rfl ?_
    refine r_get C 0 kw_X0 rfl rfl (by decide) kf_X0_28 rfl rfl (dall tdX0_wordToken 35 rfl) ?_
    obtain ⟨o2, ok⟩ := ok
    refine r_vI (as := [.int v, .int (σ.1 7), .int (σ.1 5)]) C (zX0_spells cy q σ v (σ.1 7) (σ.1 5) o2) mv_X0_spells km_X0_120 (by decide) (by decide) ⟨Nat.le_refl _, Nat.le_refl _⟩ rfl rfl rfl rfl (Nat.le_of_ble_eq_true rfl) (dall tdX0_wordToken 36 rfl) ?_
    refine r_if_eq (tgt := 77) C (dall tdX0_wordToken 37 rfl) (by decide) (fun c3 => ?_) (fun c3 => ?_)
    · have h := (if_pos c3).symm.trans h
      have ok := ok.1 c3
      refine r_iinc (v := v + 1) (lv' := [(1, .int (v + 1)), (0, .ref (q 11))]) C 1 (dall tdX0_wordToken 40 rfl) rfl rfl (by decide) rfl ?_
      refine r_goto (tgt := 53) C (dall tdX0_wordToken 41 rfl) (by decide) ?_
      refine r_pick [1, 0] rfl ?_
      exact hk53 (v + 1) ok h
    · have h := (if_neg c3).symm.trans h
      have ok := ok.2 c3
      refine r_iload_n C 1 (dall tdX0_wordToken 38 rfl) rfl ?_
      exact r_iret C hR (dall tdX0_wordToken 39 rfl) (by subst h; exact ⟨rfl, rfl⟩)
set_option maxHeartbeats 4000000 in
set_option maxRecDepth 100000 in
theorem lX0_wordToken_53 {X : CX} {cy : Nat → ClassId} {q : Nat → Nat} {D : va_G} {A : Nat → Prop} {res : Int32 × OS} (σ : OS) (C : Cx X cX0_wordToken RX0 2 D (gty cy) A 5 0 0) (hR : Rt X (some .int) D (gty cy) A 0 0 (eI (wX0 cy q res.2) res.1))  (n : Nat) (v : Int32) (ok : lpOk (kX0_wordToken_53 σ ) n v) (h : lp (0, o0) (bX0_wordToken_53 σ ) n v = res) : At X D A 2 0 0 53 [(0, .ref (q 11)), (1, .int v)] [] (wX0 cy q σ) :=
  lp_rule (fun v rr_ => rr_ = res → At X D A 2 0 0 53 [(0, .ref (q 11)), (1, .int v)] [] (wX0 cy q σ)) (fun kR kO hk v ok h => wX0_wordToken_53 σ C hR  kR kO hk v ok h) n v ok h
def pX0_wordToken_51  (σ : OS) : Int32 × OS := lp (0, o0) (bX0_wordToken_53 σ ) fu 0
def oX0_wordToken_51  (σ : OS) : Prop := lpOk (kX0_wordToken_53 σ ) fu 0
set_option maxHeartbeats 4000000 in
set_option maxRecDepth 100000 in
theorem wX0_wordToken_51 {X : CX} {cy : Nat → ClassId} {q : Nat → Nat} {D : va_G} {A : Nat → Prop} {res : Int32 × OS} (σ : OS) (C : Cx X cX0_wordToken RX0 2 D (gty cy) A 5 0 0) (hR : Rt X (some .int) D (gty cy) A 0 0 (eI (wX0 cy q res.2) res.1))  (ok : oX0_wordToken_51  σ) (h : pX0_wordToken_51  σ = res) : At X D A 2 0 0 51 [(0, .ref (q 11))] [] (wX0 cy q σ) := by
  unfold pX0_wordToken_51 at h
  unfold oX0_wordToken_51 at ok
  refine r_iconst (v := 0) C (dall tdX0_wordToken 25 rfl) (by decide) ?_
  refine r_istore_n (lv' := [(1, .int 0), (0, .ref (q 11))]) C (dall tdX0_wordToken 26 rfl) (by decide) rfl ?_
  refine r_pick [1, 0] rfl ?_
  exact lX0_wordToken_53 σ C hR  fu _ ok h
def bX0_wordToken_2   (kR2 : OS × Int32 → Int32 × OS) (v : OS × Int32) : Int32 × OS := if 160 ≤ v.2 then pX0_wordToken_51  v.1 else if (v.1.1 0) ≤ (v.1.1 5) then pX0_wordToken_51  v.1 else if (fX0_isLetter (v.1.2.2.1 1 (v.1.1 5).toNatClampNeg)) = 0 then pX0_wordToken_51  v.1 else kR2 (oI v.1 5 ((v.1.1 5) + 1), v.2 + 1)
def kX0_wordToken_2   (kO2 : OS × Int32 → Prop) (v : OS × Int32) : Prop := (160 ≤ v.2 → oX0_wordToken_51  v.1) ∧ (¬ (160 ≤ v.2) → ((v.1.1 0) ≤ (v.1.1 5) → oX0_wordToken_51  v.1) ∧ (¬ ((v.1.1 0) ≤ (v.1.1 5)) → (vp_in (v.1.1 5) 160) ∧ (((fX0_isLetter (v.1.2.2.1 1 (v.1.1 5).toNatClampNeg)) = 0 → oX0_wordToken_51  v.1) ∧ (¬ ((fX0_isLetter (v.1.2.2.1 1 (v.1.1 5).toNatClampNeg)) = 0) → kO2 (oI v.1 5 ((v.1.1 5) + 1), v.2 + 1)))))
set_option maxHeartbeats 4000000 in
set_option maxRecDepth 100000 in
theorem wX0_wordToken_2 {X : CX} {cy : Nat → ClassId} {q : Nat → Nat} {D : va_G} {A : Nat → Prop} {res : Int32 × OS}  (C : Cx X cX0_wordToken RX0 2 D (gty cy) A 5 0 0) (hR : Rt X (some .int) D (gty cy) A 0 0 (eI (wX0 cy q res.2) res.1)) (kR2 : OS × Int32 → Int32 × OS) (kO2 : OS × Int32 → Prop) (hk2 : ∀ z, kO2 z → kR2 z = res → At X D A 2 0 0 2 [(0, .ref (q 11)), (1, .int z.2)] [] (wX0 cy q z.1)) (v : OS × Int32) (ok : kX0_wordToken_2  kO2 v) (h : bX0_wordToken_2  kR2 v = res) : At X D A 2 0 0 2 [(0, .ref (q 11)), (1, .int v.2)] [] (wX0 cy q v.1) := by
  unfold bX0_wordToken_2 at h
  unfold kX0_wordToken_2 at ok
  refine r_iload_n C 1 (dall tdX0_wordToken 2 rfl) rfl ?_
  refine r_sipush (v := 160) C (dall tdX0_wordToken 3 rfl) (by decide) ?_
  refine r_icmp_ge (tgt := 51) C (dall tdX0_wordToken 4 rfl) (by decide) (fun c4 => ?_) (fun c4 => ?_)
  · have h := (if_pos c4).symm.trans h
    have ok := ok.1 c4
    refine r_pick [0] rfl ?_
    exact wX0_wordToken_51 v.1 C hR  ok h
  · have h := (if_neg c4).symm.trans h
    have ok := ok.2 c4
    refine r_aload_n C 0 (dall tdX0_wordToken 5 rfl) rfl ?_
    refine r_get C 0 kw_X0 rfl rfl (by decide) kf_X0_28 rfl rfl (dall tdX0_wordToken 6 rfl) ?_
    refine r_aload_n C 0 (dall tdX0_wordToken 7 rfl) rfl ?_
    refine r_get C 0 kw_X0 rfl rfl (by decide) kf_X0_21 rfl rfl (dall tdX0_wordToken 8 rfl) ?_
    refine r_icmp_ge (tgt := 51) C (dall tdX0_wordToken 9 rfl) (by decide) (fun c5 => ?_) (fun c5 => ?_)
    · have h := (if_pos c5).symm.trans h
      have ok := ok.1 c5
      refine r_pick [0] rfl ?_
      exact wX0_wordToken_51 v.1 C hR  ok h
    · have h := (if_neg c5).symm.trans h
      have ok := ok.2 c5
      refine r_aload_n C 0 (dall tdX0_wordToken 10 rfl) rfl ?_
      refine r_get C 0 kw_X0 rfl rfl (by decide) kf_X0_9 rfl rfl (dall tdX0_wordToken 11 rfl) ?_
      refine r_aload_n C 0 (dall tdX0_wordToken 12 rfl) rfl ?_
      refine r_get C 0 kw_X0 rfl rfl (by decide) kf_X0_28 rfl rfl (dall tdX0_wordToken 13 rfl) ?_
      obtain ⟨o6, ok⟩ := ok
      refine r_iald C 1 0 rfl rfl o6 (dall tdX0_wordToken 14 rfl) ?_
      refine r_s0I (as := [.int (v.1.2.2.1 1 (v.1.1 5).toNatClampNeg)]) C (zX0_isLetter (v.1.2.2.1 1 (v.1.1 5).toNatClampNeg) ) ms_X0_isLetter km_X0_99 (by decide) (by decide) ⟨Nat.le_refl _, Nat.le_refl _⟩ rfl rfl (Nat.le_of_ble_eq_true rfl) (dall tdX0_wordToken 15 rfl) ?_
      refine r_if_eq (tgt := 51) C (dall tdX0_wordToken 16 rfl) (by decide) (fun c7 => ?_) (fun c7 => ?_)
      · have h := (if_pos c7).symm.trans h
        have ok := ok.1 c7
        refine r_pick [0] rfl ?_
        exact wX0_wordToken_51 v.1 C hR  ok h
      · have h := (if_neg c7).symm.trans h
        have ok := ok.2 c7
        refine r_aload_n C 0 (dall tdX0_wordToken 17 rfl) rfl ?_
        refine r_dup C (dall tdX0_wordToken 18 rfl) rfl ?_
        refine r_get C 0 kw_X0 rfl rfl (by decide) kf_X0_28 rfl rfl (dall tdX0_wordToken 19 rfl) ?_
        refine r_iconst (v := 1) C (dall tdX0_wordToken 20 rfl) (by decide) ?_
        refine r_iadd C (dall tdX0_wordToken 21 rfl) ?_
        refine r_put C 0 kw_X0 tyX0_ok nmX0 rfl rfl (by decide) kf_X0_28 rfl rfl rfl rfl rfl (Nat.le_of_ble_eq_true rfl) (pu_X0_this_5 cy q v.1 ((v.1.1 5) + 1)) (dall tdX0_wordToken 22 rfl) ?_
        refine r_iinc (v := v.2 + 1) (lv' := [(1, .int (v.2 + 1)), (0, .ref (q 11))]) C 1 (dall tdX0_wordToken 23 rfl) rfl rfl (by decide) rfl ?_
        refine r_goto (tgt := 2) C (dall tdX0_wordToken 24 rfl) (by decide) ?_
        refine r_pick [1, 0] rfl ?_
        exact hk2 (oI v.1 5 ((v.1.1 5) + 1), v.2 + 1) ok h
set_option maxHeartbeats 4000000 in
set_option maxRecDepth 100000 in
theorem lX0_wordToken_2 {X : CX} {cy : Nat → ClassId} {q : Nat → Nat} {D : va_G} {A : Nat → Prop} {res : Int32 × OS}  (C : Cx X cX0_wordToken RX0 2 D (gty cy) A 5 0 0) (hR : Rt X (some .int) D (gty cy) A 0 0 (eI (wX0 cy q res.2) res.1))  (n : Nat) (v : OS × Int32) (ok : lpOk (kX0_wordToken_2  ) n v) (h : lp (0, o0) (bX0_wordToken_2  ) n v = res) : At X D A 2 0 0 2 [(0, .ref (q 11)), (1, .int v.2)] [] (wX0 cy q v.1) :=
  lp_rule (fun v rr_ => rr_ = res → At X D A 2 0 0 2 [(0, .ref (q 11)), (1, .int v.2)] [] (wX0 cy q v.1)) (fun kR kO hk v ok h => wX0_wordToken_2  C hR  kR kO hk v ok h) n v ok h
def pX0_wordToken_0  (σ : OS) : Int32 × OS := lp (0, o0) (bX0_wordToken_2  ) fu (σ, 0)
def oX0_wordToken_0  (σ : OS) : Prop := lpOk (kX0_wordToken_2  ) fu (σ, 0)
set_option maxHeartbeats 4000000 in
set_option maxRecDepth 100000 in
theorem wX0_wordToken_0 {X : CX} {cy : Nat → ClassId} {q : Nat → Nat} {D : va_G} {A : Nat → Prop} {res : Int32 × OS} (σ : OS) (C : Cx X cX0_wordToken RX0 2 D (gty cy) A 5 0 0) (hR : Rt X (some .int) D (gty cy) A 0 0 (eI (wX0 cy q res.2) res.1))  (ok : oX0_wordToken_0  σ) (h : pX0_wordToken_0  σ = res) : At X D A 2 0 0 0 [(0, .ref (q 11))] [] (wX0 cy q σ) := by
  unfold pX0_wordToken_0 at h
  unfold oX0_wordToken_0 at ok
  refine r_iconst (v := 0) C (dall tdX0_wordToken 0 rfl) (by decide) ?_
  refine r_istore_n (lv' := [(1, .int 0), (0, .ref (q 11))]) C (dall tdX0_wordToken 1 rfl) (by decide) rfl ?_
  refine r_pick [1, 0] rfl ?_
  exact lX0_wordToken_2  C hR  fu _ ok h
def fX0_wordToken (σ : OS) : Int32 × OS := pX0_wordToken_0  σ
def gX0_wordToken (σ : OS) : Prop := oX0_wordToken_0  σ
set_option maxRecDepth 100000 in
theorem zX0_wordToken (cy : Nat → ClassId) (q : Nat → Nat)  {D : va_G} (σ : OS) (ok : gX0_wordToken σ )  : Con yX0_wordToken cX0_wordToken 2 (some .int) 5 0 0 D (gty cy) [.ref (q 11)] (wX0 cy q σ) (eI (wX0 cy q (fX0_wordToken σ ).2) (fX0_wordToken σ ).1) :=
  Con.of (own := RX0) (by decide +kernel) rfl (Nat.le_of_ble_eq_true rfl) (Nat.zero_le _) (fun X A C hR _ => (wX0_wordToken_0 σ C hR  ok rfl))
theorem mv_X0_wordToken : MV yX0_wordToken cX0_wordToken 2 (some .int) RX0 0 := ⟨ki_X0_wordToken, kv_X0_wordToken, kn_X0, kc_X0_wordToken, by decide +kernel⟩
def tbX0_numberToken : List (Nat × Instr × Nat) := [(0, .iconst 0, 1), (1, .istore_n 1, 1), (2, .iconst 0, 1), (3, .istore_n 2, 1), (4, .iload_n 2, 1), (5, .sipush 160, 3), (8, .if_icmp .ge 63, 3), (11, .aload_n 0, 1), (12, .getfield 28, 3), (15, .aload_n 0, 1), (16, .getfield 21, 3), (19, .if_icmp .ge 52, 3), (22, .aload_n 0, 1), (23, .getfield 9, 3), (26, .aload_n 0, 1), (27, .getfield 28, 3), (30, .iaload, 1), (31, .invokestatic 106, 3), (34, .ifCond .eq 37, 3), (37, .bipush 10, 2), (39, .iload_n 1, 1), (40, .imul, 1), (41, .aload_n 0, 1), (42, .getfield 9, 3), (45, .aload_n 0, 1), (46, .getfield 28, 3), (49, .iaload, 1), (50, .iadd, 1), (51, .bipush 48, 2), (53, .isub, 1), (54, .istore_n 1, 1), (55, .aload_n 0, 1), (56, .dup, 1), (57, .getfield 28, 3), (60, .iconst 1, 1), (61, .iadd, 1), (62, .putfield 28, 3), (65, .iinc 2 1, 3), (68, .goto (-64), 3), (71, .aload_n 0, 1), (72, .iload_n 1, 1), (73, .putfield 83, 3), (76, .aload_n 0, 1), (77, .getfield 28, 3), (80, .aload_n 0, 1), (81, .getfield 93, 3), (84, .isub, 1), (85, .iconst 4, 1), (86, .if_icmp .le 8, 3), (89, .bipush 22, 2), (91, .goto 5, 3), (94, .bipush 20, 2), (96, .ireturn, 1)]
theorem tdX0_numberToken : tbX0_numberToken.all (fun q => decide (decode cX0_numberToken q.1 = .ok q.2)) = true := by decide +kernel
def pX0_numberToken_71  (σ : OS) (a1_ : Int32) : Int32 × OS := if (((oI σ 8 a1_).1 5) - ((oI σ 8 a1_).1 7)) ≤ 4 then (20, oI σ 8 a1_) else (22, oI σ 8 a1_)
set_option maxHeartbeats 4000000 in
set_option maxRecDepth 100000 in
theorem wX0_numberToken_71 {X : CX} {cy : Nat → ClassId} {q : Nat → Nat} {D : va_G} {A : Nat → Prop} {res : Int32 × OS} (σ : OS) (a1_ : Int32) (C : Cx X cX0_numberToken RX0 3 D (gty cy) A 1 0 0) (hR : Rt X (some .int) D (gty cy) A 0 0 (eI (wX0 cy q res.2) res.1))  (h : pX0_numberToken_71  σ a1_ = res) : At X D A 3 0 0 71 [(0, .ref (q 11)), (1, .int a1_)] [] (wX0 cy q σ) := by
  unfold pX0_numberToken_71 at h
  refine r_aload_n C 0 (dall tdX0_numberToken 39 rfl) rfl ?_
  refine r_iload_n C 1 (dall tdX0_numberToken 40 rfl) rfl ?_
  refine r_put C 0 kw_X0 tyX0_ok nmX0 rfl rfl (by decide) kf_X0_83 rfl rfl rfl rfl rfl (Nat.le_of_ble_eq_true rfl) (pu_X0_this_8 cy q σ a1_) (dall tdX0_numberToken 41 rfl) ?_
  refine r_aload_n C 0 (dall tdX0_numberToken 42 rfl) rfl ?_
  refine r_get C 0 kw_X0 rfl rfl (by decide) kf_X0_28 rfl rfl (dall tdX0_numberToken 43 rfl) ?_
  refine r_aload_n C 0 (dall tdX0_numberToken 44 rfl) rfl ?_
  refine r_get C 0 kw_X0 rfl rfl (by decide) kf_X0_93 rfl rfl (dall tdX0_numberToken 45 rfl) ?_
  refine r_isub C (dall tdX0_numberToken 46 rfl) ?_
  refine r_iconst (v := 4) C (dall tdX0_numberToken 47 rfl) (by decide) ?_
  refine r_icmp_le (tgt := 94) C (dall tdX0_numberToken 48 rfl) (by decide) (fun c1 => ?_) (fun c1 => ?_)
  · have h := (if_pos c1).symm.trans h
    refine r_bipush (v := 20) C (dall tdX0_numberToken 51 rfl) (by decide) ?_
    exact r_iret C hR (dall tdX0_numberToken 52 rfl) (by subst h; exact ⟨rfl, rfl⟩)
  · have h := (if_neg c1).symm.trans h
    refine r_bipush (v := 22) C (dall tdX0_numberToken 49 rfl) (by decide) ?_
    refine r_goto (tgt := 96) C (dall tdX0_numberToken 50 rfl) (by decide) ?_
    exact r_iret C hR (dall tdX0_numberToken 52 rfl) (by subst h; exact ⟨rfl, rfl⟩)
def bX0_numberToken_4   (kR4 : OS × Int32 × Int32 → Int32 × OS) (v : OS × Int32 × Int32) : Int32 × OS := if 160 ≤ v.2.2 then pX0_numberToken_71  v.1 v.2.1 else if (v.1.1 0) ≤ (v.1.1 5) then pX0_numberToken_71  v.1 v.2.1 else if (fX0_isDigit (v.1.2.2.1 1 (v.1.1 5).toNatClampNeg)) = 0 then pX0_numberToken_71  v.1 v.2.1 else kR4 (oI v.1 5 ((v.1.1 5) + 1), ((10 * v.2.1) + (v.1.2.2.1 1 (v.1.1 5).toNatClampNeg)) - 48, v.2.2 + 1)
def kX0_numberToken_4   (kO4 : OS × Int32 × Int32 → Prop) (v : OS × Int32 × Int32) : Prop := (160 ≤ v.2.2 → True) ∧ (¬ (160 ≤ v.2.2) → ((v.1.1 0) ≤ (v.1.1 5) → True) ∧ (¬ ((v.1.1 0) ≤ (v.1.1 5)) → (vp_in (v.1.1 5) 160) ∧ (((fX0_isDigit (v.1.2.2.1 1 (v.1.1 5).toNatClampNeg)) = 0 → True) ∧ (¬ ((fX0_isDigit (v.1.2.2.1 1 (v.1.1 5).toNatClampNeg)) = 0) → (vp_in (v.1.1 5) 160) ∧ (kO4 (oI v.1 5 ((v.1.1 5) + 1), ((10 * v.2.1) + (v.1.2.2.1 1 (v.1.1 5).toNatClampNeg)) - 48, v.2.2 + 1))))))
set_option maxHeartbeats 4000000 in
set_option maxRecDepth 100000 in
theorem wX0_numberToken_4 {X : CX} {cy : Nat → ClassId} {q : Nat → Nat} {D : va_G} {A : Nat → Prop} {res : Int32 × OS}  (C : Cx X cX0_numberToken RX0 3 D (gty cy) A 1 0 0) (hR : Rt X (some .int) D (gty cy) A 0 0 (eI (wX0 cy q res.2) res.1)) (kR4 : OS × Int32 × Int32 → Int32 × OS) (kO4 : OS × Int32 × Int32 → Prop) (hk4 : ∀ z, kO4 z → kR4 z = res → At X D A 3 0 0 4 [(0, .ref (q 11)), (1, .int z.2.1), (2, .int z.2.2)] [] (wX0 cy q z.1)) (v : OS × Int32 × Int32) (ok : kX0_numberToken_4  kO4 v) (h : bX0_numberToken_4  kR4 v = res) : At X D A 3 0 0 4 [(0, .ref (q 11)), (1, .int v.2.1), (2, .int v.2.2)] [] (wX0 cy q v.1) := by
  unfold bX0_numberToken_4 at h
  unfold kX0_numberToken_4 at ok
  refine r_iload_n C 2 (dall tdX0_numberToken 4 rfl) rfl ?_
  refine r_sipush (v := 160) C (dall tdX0_numberToken 5 rfl) (by decide) ?_
  refine r_icmp_ge (tgt := 71) C (dall tdX0_numberToken 6 rfl) (by decide) (fun c2 => ?_) (fun c2 => ?_)
  · have h := (if_pos c2).symm.trans h
    have ok := ok.1 c2
    refine r_pick [0, 1] rfl ?_
    exact wX0_numberToken_71 v.1 v.2.1 C hR  h
  · have h := (if_neg c2).symm.trans h
    have ok := ok.2 c2
    refine r_aload_n C 0 (dall tdX0_numberToken 7 rfl) rfl ?_
    refine r_get C 0 kw_X0 rfl rfl (by decide) kf_X0_28 rfl rfl (dall tdX0_numberToken 8 rfl) ?_
    refine r_aload_n C 0 (dall tdX0_numberToken 9 rfl) rfl ?_
    refine r_get C 0 kw_X0 rfl rfl (by decide) kf_X0_21 rfl rfl (dall tdX0_numberToken 10 rfl) ?_
    refine r_icmp_ge (tgt := 71) C (dall tdX0_numberToken 11 rfl) (by decide) (fun c3 => ?_) (fun c3 => ?_)
    · have h := (if_pos c3).symm.trans h
      have ok := ok.1 c3
      refine r_pick [0, 1] rfl ?_
      exact wX0_numberToken_71 v.1 v.2.1 C hR  h
    · have h := (if_neg c3).symm.trans h
      have ok := ok.2 c3
      refine r_aload_n C 0 (dall tdX0_numberToken 12 rfl) rfl ?_
      refine r_get C 0 kw_X0 rfl rfl (by decide) kf_X0_9 rfl rfl (dall tdX0_numberToken 13 rfl) ?_
      refine r_aload_n C 0 (dall tdX0_numberToken 14 rfl) rfl ?_
      refine r_get C 0 kw_X0 rfl rfl (by decide) kf_X0_28 rfl rfl (dall tdX0_numberToken 15 rfl) ?_
      obtain ⟨o4, ok⟩ := ok
      refine r_iald C 1 0 rfl rfl o4 (dall tdX0_numberToken 16 rfl) ?_
      refine r_s0I (as := [.int (v.1.2.2.1 1 (v.1.1 5).toNatClampNeg)]) C (zX0_isDigit (v.1.2.2.1 1 (v.1.1 5).toNatClampNeg) ) ms_X0_isDigit km_X0_106 (by decide) (by decide) ⟨Nat.le_refl _, Nat.le_refl _⟩ rfl rfl (Nat.le_of_ble_eq_true rfl) (dall tdX0_numberToken 17 rfl) ?_
      refine r_if_eq (tgt := 71) C (dall tdX0_numberToken 18 rfl) (by decide) (fun c5 => ?_) (fun c5 => ?_)
      · have h := (if_pos c5).symm.trans h
        have ok := ok.1 c5
        refine r_pick [0, 1] rfl ?_
        exact wX0_numberToken_71 v.1 v.2.1 C hR  h
      · have h := (if_neg c5).symm.trans h
        have ok := ok.2 c5
        refine r_bipush (v := 10) C (dall tdX0_numberToken 19 rfl) (by decide) ?_
        refine r_iload_n C 1 (dall tdX0_numberToken 20 rfl) rfl ?_
        refine r_imul C (dall tdX0_numberToken 21 rfl) ?_
        refine r_aload_n C 0 (dall tdX0_numberToken 22 rfl) rfl ?_
        refine r_get C 0 kw_X0 rfl rfl (by decide) kf_X0_9 rfl rfl (dall tdX0_numberToken 23 rfl) ?_
        refine r_aload_n C 0 (dall tdX0_numberToken 24 rfl) rfl ?_
        refine r_get C 0 kw_X0 rfl rfl (by decide) kf_X0_28 rfl rfl (dall tdX0_numberToken 25 rfl) ?_
        obtain ⟨o6, ok⟩ := ok
        refine r_iald C 1 0 rfl rfl o6 (dall tdX0_numberToken 26 rfl) ?_
        refine r_iadd C (dall tdX0_numberToken 27 rfl) ?_
        refine r_bipush (v := 48) C (dall tdX0_numberToken 28 rfl) (by decide) ?_
        refine r_isub C (dall tdX0_numberToken 29 rfl) ?_
        refine r_istore_n (lv' := [(1, .int (((10 * v.2.1) + (v.1.2.2.1 1 (v.1.1 5).toNatClampNeg)) - 48)), (0, .ref (q 11)), (2, .int v.2.2)]) C (dall tdX0_numberToken 30 rfl) (by decide) rfl ?_
        refine r_aload_n C 1 (dall tdX0_numberToken 31 rfl) rfl ?_
        refine r_dup C (dall tdX0_numberToken 32 rfl) rfl ?_
        refine r_get C 0 kw_X0 rfl rfl (by decide) kf_X0_28 rfl rfl (dall tdX0_numberToken 33 rfl) ?_
        refine r_iconst (v := 1) C (dall tdX0_numberToken 34 rfl) (by decide) ?_
        refine r_iadd C (dall tdX0_numberToken 35 rfl) ?_
        refine r_put C 0 kw_X0 tyX0_ok nmX0 rfl rfl (by decide) kf_X0_28 rfl rfl rfl rfl rfl (Nat.le_of_ble_eq_true rfl) (pu_X0_this_5 cy q v.1 ((v.1.1 5) + 1)) (dall tdX0_numberToken 36 rfl) ?_
        refine r_iinc (v := v.2.2 + 1) (lv' := [(2, .int (v.2.2 + 1)), (1, .int (((10 * v.2.1) + (v.1.2.2.1 1 (v.1.1 5).toNatClampNeg)) - 48)), (0, .ref (q 11))]) C 2 (dall tdX0_numberToken 37 rfl) rfl rfl (by decide) rfl ?_
        refine r_goto (tgt := 4) C (dall tdX0_numberToken 38 rfl) (by decide) ?_
        refine r_pick [2, 1, 0] rfl ?_
        exact hk4 (oI v.1 5 ((v.1.1 5) + 1), ((10 * v.2.1) + (v.1.2.2.1 1 (v.1.1 5).toNatClampNeg)) - 48, v.2.2 + 1) ok h
set_option maxHeartbeats 4000000 in
set_option maxRecDepth 100000 in
theorem lX0_numberToken_4 {X : CX} {cy : Nat → ClassId} {q : Nat → Nat} {D : va_G} {A : Nat → Prop} {res : Int32 × OS}  (C : Cx X cX0_numberToken RX0 3 D (gty cy) A 1 0 0) (hR : Rt X (some .int) D (gty cy) A 0 0 (eI (wX0 cy q res.2) res.1))  (n : Nat) (v : OS × Int32 × Int32) (ok : lpOk (kX0_numberToken_4  ) n v) (h : lp (0, o0) (bX0_numberToken_4  ) n v = res) : At X D A 3 0 0 4 [(0, .ref (q 11)), (1, .int v.2.1), (2, .int v.2.2)] [] (wX0 cy q v.1) :=
  lp_rule (fun v rr_ => rr_ = res → At X D A 3 0 0 4 [(0, .ref (q 11)), (1, .int v.2.1), (2, .int v.2.2)] [] (wX0 cy q v.1)) (fun kR kO hk v ok h => wX0_numberToken_4  C hR  kR kO hk v ok h) n v ok h
def pX0_numberToken_0  (σ : OS) : Int32 × OS := lp (0, o0) (bX0_numberToken_4  ) fu (σ, 0, 0)
def oX0_numberToken_0  (σ : OS) : Prop := lpOk (kX0_numberToken_4  ) fu (σ, 0, 0)
set_option maxHeartbeats 4000000 in
set_option maxRecDepth 100000 in
theorem wX0_numberToken_0 {X : CX} {cy : Nat → ClassId} {q : Nat → Nat} {D : va_G} {A : Nat → Prop} {res : Int32 × OS} (σ : OS) (C : Cx X cX0_numberToken RX0 3 D (gty cy) A 1 0 0) (hR : Rt X (some .int) D (gty cy) A 0 0 (eI (wX0 cy q res.2) res.1))  (ok : oX0_numberToken_0  σ) (h : pX0_numberToken_0  σ = res) : At X D A 3 0 0 0 [(0, .ref (q 11))] [] (wX0 cy q σ) := by
  unfold pX0_numberToken_0 at h
  unfold oX0_numberToken_0 at ok
  refine r_iconst (v := 0) C (dall tdX0_numberToken 0 rfl) (by decide) ?_
  refine r_istore_n (lv' := [(1, .int 0), (0, .ref (q 11))]) C (dall tdX0_numberToken 1 rfl) (by decide) rfl ?_
  refine r_iconst (v := 0) C (dall tdX0_numberToken 2 rfl) (by decide) ?_
  refine r_istore_n (lv' := [(2, .int 0), (1, .int 0), (0, .ref (q 11))]) C (dall tdX0_numberToken 3 rfl) (by decide) rfl ?_
  refine r_pick [2, 1, 0] rfl ?_
  exact lX0_numberToken_4  C hR  fu _ ok h
def fX0_numberToken (σ : OS) : Int32 × OS := pX0_numberToken_0  σ
def gX0_numberToken (σ : OS) : Prop := oX0_numberToken_0  σ
set_option maxRecDepth 100000 in
theorem zX0_numberToken (cy : Nat → ClassId) (q : Nat → Nat)  {D : va_G} (σ : OS) (ok : gX0_numberToken σ )  : Con yX0_numberToken cX0_numberToken 3 (some .int) 1 0 0 D (gty cy) [.ref (q 11)] (wX0 cy q σ) (eI (wX0 cy q (fX0_numberToken σ ).2) (fX0_numberToken σ ).1) :=
  Con.of (own := RX0) (by decide +kernel) rfl (Nat.le_of_ble_eq_true rfl) (Nat.zero_le _) (fun X A C hR _ => (wX0_numberToken_0 σ C hR  ok rfl))
theorem mv_X0_numberToken : MV yX0_numberToken cX0_numberToken 3 (some .int) RX0 0 := ⟨ki_X0_numberToken, kv_X0_numberToken, kn_X0, kc_X0_numberToken, by decide +kernel⟩
def tbX0_step : List (Nat × Instr × Nat) := [(0, .aload_n 0, 1), (1, .getfield 34, 3), (4, .iconst (-1), 1), (5, .if_icmp .eq 4, 3), (8, .return_, 1), (9, .iconst 0, 1), (10, .istore_n 1, 1), (11, .iload_n 1, 1), (12, .sipush 160, 3), (15, .if_icmp .ge 45, 3), (18, .aload_n 0, 1), (19, .getfield 28, 3), (22, .aload_n 0, 1), (23, .getfield 21, 3), (26, .if_icmp .ge 34, 3), (29, .aload_n 0, 1), (30, .getfield 9, 3), (33, .aload_n 0, 1), (34, .getfield 28, 3), (37, .iaload, 1), (38, .invokestatic 96, 3), (41, .ifCond .eq 19, 3), (44, .aload_n 0, 1), (45, .dup, 1), (46, .getfield 28, 3), (49, .iconst 1, 1), (50, .iadd, 1), (51, .putfield 28, 3), (54, .iinc 1 1, 3), (57, .goto (-46), 3), (60, .aload_n 0, 1), (61, .aload_n 0, 1), (62, .getfield 28, 3), (65, .putfield 93, 3), (68, .aload_n 0, 1), (69, .getfield 28, 3), (72, .aload_n 0, 1), (73, .getfield 21, 3), (76, .if_icmp .lt 12, 3), (79, .aload_n 0, 1), (80, .bipush 21, 2), (82, .putfield 61, 3), (85, .goto 98, 3), (88, .aload_n 0, 1), (89, .getfield 9, 3), (92, .aload_n 0, 1), (93, .getfield 28, 3), (96, .iaload, 1), (97, .invokestatic 99, 3), (100, .ifCond .eq 14, 3), (103, .aload_n 0, 1), (104, .aload_n 0, 1), (105, .invokevirtual 102, 3), (108, .putfield 61, 3), (111, .goto 72, 3), (114, .aload_n 0, 1), (115, .getfield 9, 3), (118, .aload_n 0, 1), (119, .getfield 28, 3), (122, .iaload, 1), (123, .invokestatic 106, 3), (126, .ifCond .eq 14, 3), (129, .aload_n 0, 1), (130, .aload_n 0, 1), (131, .invokevirtual 109, 3), (134, .putfield 61, 3), (137, .goto 46, 3), (140, .ldc 112, 2), (142, .aload_n 0, 1), (143, .getfield 9, 3), (146, .aload_n 0, 1), (147, .getfield 28, 3), (150, .iaload, 1), (151, .i2c, 1), (152, .invokevirtual 114, 3), (155, .istore_n 1, 1), (156, .aload_n 0, 1), (157, .iload_n 1, 1), (158, .ifCond .ge 8, 3), (161, .bipush 22, 2), (163, .goto 7, 3), (166, .bipush 12, 2), (168, .iload_n 1, 1), (169, .iadd, 1), (170, .putfield 61, 3), (173, .aload_n 0, 1), (174, .dup, 1), (175, .getfield 28, 3), (178, .iconst 1, 1), (179, .iadd, 1), (180, .putfield 28, 3), (183, .return_, 1)]
theorem tdX0_step : tbX0_step.all (fun q => decide (decode cX0_step q.1 = .ok q.2)) = true := by decide +kernel
def pX0_step_170  (σ : OS) (b0_ : Int32) : OS := oI (oI σ 6 b0_) 5 (((oI σ 6 b0_).1 5) + 1)
set_option maxHeartbeats 4000000 in
set_option maxRecDepth 100000 in
theorem wX0_step_170 {X : CX} {cy : Nat → ClassId} {q : Nat → Nat} {D : va_G} {A : Nat → Prop} {res : OS} (σ : OS) (b0_ : Int32) (C : Cx X cX0_step RX0 2 D (gty cy) A 6 0 0) (hR : Rt X none D (gty cy) A 0 0 (eV (wX0 cy q res)))  (h : pX0_step_170  σ b0_ = res) : At X D A 2 0 0 170 [(0, .ref (q 11))] [.int b0_, .ref (q 11)] (wX0 cy q σ) := by
  unfold pX0_step_170 at h
  refine r_put C 0 kw_X0 tyX0_ok nmX0 rfl rfl (by decide) kf_X0_61 rfl rfl rfl rfl rfl (Nat.le_of_ble_eq_true rfl) (pu_X0_this_6 cy q σ b0_) (dall tdX0_step 84 rfl) ?_
  refine r_aload_n C 0 (dall tdX0_step 85 rfl) rfl ?_
  refine r_dup C (dall tdX0_step 86 rfl) rfl ?_
  refine r_get C 0 kw_X0 rfl rfl (by decide) kf_X0_28 rfl rfl (dall tdX0_step 87 rfl) ?_
  refine r_iconst (v := 1) C (dall tdX0_step 88 rfl) (by decide) ?_
  refine r_iadd C (dall tdX0_step 89 rfl) ?_
  refine r_put C 0 kw_X0 tyX0_ok nmX0 rfl rfl (by decide) kf_X0_28 rfl rfl rfl rfl rfl (Nat.le_of_ble_eq_true rfl) (pu_X0_this_5 cy q (oI σ 6 b0_) (((oI σ 6 b0_).1 5) + 1)) (dall tdX0_step 90 rfl) ?_
  exact r_vret C hR (dall tdX0_step 91 rfl) (by subst h; exact ⟨rfl, rfl⟩)
def pX0_step_134  (σ : OS) (b0_ : Int32) : OS := oI σ 6 b0_
set_option maxHeartbeats 4000000 in
set_option maxRecDepth 100000 in
theorem wX0_step_134 {X : CX} {cy : Nat → ClassId} {q : Nat → Nat} {D : va_G} {A : Nat → Prop} {res : OS} (σ : OS) (b0_ : Int32) (C : Cx X cX0_step RX0 2 D (gty cy) A 6 0 0) (hR : Rt X none D (gty cy) A 0 0 (eV (wX0 cy q res)))  (h : pX0_step_134  σ b0_ = res) : At X D A 2 0 0 134 [] [.int b0_, .ref (q 11)] (wX0 cy q σ) := by
  unfold pX0_step_134 at h
  refine r_put C 0 kw_X0 tyX0_ok nmX0 rfl rfl (by decide) kf_X0_61 rfl rfl rfl rfl rfl (Nat.le_of_ble_eq_true rfl) (pu_X0_this_6 cy q σ b0_) (dall tdX0_step 65 rfl) ?_
  refine r_goto (tgt := 183) C (dall tdX0_step 66 rfl) (by decide) ?_
  exact r_vret C hR (dall tdX0_step 91 rfl) (by subst h; exact ⟨rfl, rfl⟩)
def pX0_step_108  (σ : OS) (b0_ : Int32) : OS := oI σ 6 b0_
set_option maxHeartbeats 4000000 in
set_option maxRecDepth 100000 in
theorem wX0_step_108 {X : CX} {cy : Nat → ClassId} {q : Nat → Nat} {D : va_G} {A : Nat → Prop} {res : OS} (σ : OS) (b0_ : Int32) (C : Cx X cX0_step RX0 2 D (gty cy) A 6 0 0) (hR : Rt X none D (gty cy) A 0 0 (eV (wX0 cy q res)))  (h : pX0_step_108  σ b0_ = res) : At X D A 2 0 0 108 [] [.int b0_, .ref (q 11)] (wX0 cy q σ) := by
  unfold pX0_step_108 at h
  refine r_put C 0 kw_X0 tyX0_ok nmX0 rfl rfl (by decide) kf_X0_61 rfl rfl rfl rfl rfl (Nat.le_of_ble_eq_true rfl) (pu_X0_this_6 cy q σ b0_) (dall tdX0_step 53 rfl) ?_
  refine r_goto (tgt := 183) C (dall tdX0_step 54 rfl) (by decide) ?_
  exact r_vret C hR (dall tdX0_step 91 rfl) (by subst h; exact ⟨rfl, rfl⟩)
def pX0_step_60  (σ : OS) : OS := if ((oI σ 7 (σ.1 5)).1 5) < ((oI σ 7 (σ.1 5)).1 0) then if (fX0_isLetter ((oI σ 7 (σ.1 5)).2.2.1 1 ((oI σ 7 (σ.1 5)).1 5).toNatClampNeg)) = 0 then if (fX0_isDigit ((oI σ 7 (σ.1 5)).2.2.1 1 ((oI σ 7 (σ.1 5)).1 5).toNatClampNeg)) = 0 then if 0 ≤ (fJ0_indexOf_0f7a4_s1 ((((oI σ 7 (σ.1 5)).2.2.1 1 ((oI σ 7 (σ.1 5)).1 5).toNatClampNeg).toUInt32 % 65536).toInt32)) then pX0_step_170  (oI σ 7 (σ.1 5)) (12 + (fJ0_indexOf_0f7a4_s1 ((((oI σ 7 (σ.1 5)).2.2.1 1 ((oI σ 7 (σ.1 5)).1 5).toNatClampNeg).toUInt32 % 65536).toInt32))) else pX0_step_170  (oI σ 7 (σ.1 5)) 22 else pX0_step_134  ((fX0_numberToken (oI σ 7 (σ.1 5)) ).2) ((fX0_numberToken (oI σ 7 (σ.1 5)) ).1) else pX0_step_108  ((fX0_wordToken (oI σ 7 (σ.1 5)) ).2) ((fX0_wordToken (oI σ 7 (σ.1 5)) ).1) else oI (oI σ 7 (σ.1 5)) 6 21
def oX0_step_60  (σ : OS) : Prop := (((oI σ 7 (σ.1 5)).1 5) < ((oI σ 7 (σ.1 5)).1 0) → (vp_in ((oI σ 7 (σ.1 5)).1 5) 160) ∧ (((fX0_isLetter ((oI σ 7 (σ.1 5)).2.2.1 1 ((oI σ 7 (σ.1 5)).1 5).toNatClampNeg)) = 0 → (vp_in ((oI σ 7 (σ.1 5)).1 5) 160) ∧ (((fX0_isDigit ((oI σ 7 (σ.1 5)).2.2.1 1 ((oI σ 7 (σ.1 5)).1 5).toNatClampNeg)) = 0 → (vp_in ((oI σ 7 (σ.1 5)).1 5) 160) ∧ (gJ0_indexOf_0f7a4_s1 ((((oI σ 7 (σ.1 5)).2.2.1 1 ((oI σ 7 (σ.1 5)).1 5).toNatClampNeg).toUInt32 % 65536).toInt32))) ∧ (¬ ((fX0_isDigit ((oI σ 7 (σ.1 5)).2.2.1 1 ((oI σ 7 (σ.1 5)).1 5).toNatClampNeg)) = 0) → gX0_numberToken (oI σ 7 (σ.1 5)) ))) ∧ (¬ ((fX0_isLetter ((oI σ 7 (σ.1 5)).2.2.1 1 ((oI σ 7 (σ.1 5)).1 5).toNatClampNeg)) = 0) → gX0_wordToken (oI σ 7 (σ.1 5)) ))) ∧ (¬ (((oI σ 7 (σ.1 5)).1 5) < ((oI σ 7 (σ.1 5)).1 0)) → True)
set_option maxHeartbeats 4000000 in
set_option maxRecDepth 100000 in
theorem wX0_step_60 {X : CX} {cy : Nat → ClassId} {q : Nat → Nat} {D : va_G} {A : Nat → Prop} {res : OS} (σ : OS) (C : Cx X cX0_step RX0 2 D (gty cy) A 6 0 0) (hR : Rt X none D (gty cy) A 0 0 (eV (wX0 cy q res)))  (ok : oX0_step_60  σ) (h : pX0_step_60  σ = res) : At X D A 2 0 0 60 [(0, .ref (q 11))] [] (wX0 cy q σ) := by
  unfold pX0_step_60 at h
  unfold oX0_step_60 at ok
  refine r_aload_n C 0 (dall tdX0_step 30 rfl) rfl ?_
  refine r_aload_n C 0 (dall tdX0_step 31 rfl) rfl ?_
  refine r_get C 0 kw_X0 rfl rfl (by decide) kf_X0_28 rfl rfl (dall tdX0_step 32 rfl) ?_
  refine r_put C 0 kw_X0 tyX0_ok nmX0 rfl rfl (by decide) kf_X0_93 rfl rfl rfl rfl rfl (Nat.le_of_ble_eq_true rfl) (pu_X0_this_7 cy q σ (σ.1 5)) (dall tdX0_step 33 rfl) ?_
  refine r_aload_n C 0 (dall tdX0_step 34 rfl) rfl ?_
  refine r_get C 0 kw_X0 rfl rfl (by decide) kf_X0_28 rfl rfl (dall tdX0_step 35 rfl) ?_
  refine r_aload_n C 0 (dall tdX0_step 36 rfl) rfl ?_
  refine r_get C 0 kw_X0 rfl rfl (by decide) kf_X0_21 rfl rfl (dall tdX0_step 37 rfl) ?_
  refine r_icmp_lt (tgt := 88) C (dall tdX0_step 38 rfl) (by decide) (fun c1 => ?_) (fun c1 => ?_)
  · have h := (if_pos c1).symm.trans h
    have ok := ok.1 c1
    refine r_aload_n C 0 (dall tdX0_step 43 rfl) rfl ?_
    refine r_get C 0 kw_X0 rfl rfl (by decide) kf_X0_9 rfl rfl (dall tdX0_step 44 rfl) ?_
    refine r_aload_n C 0 (dall tdX0_step 45 rfl) rfl ?_
    refine r_get C 0 kw_X0 rfl rfl (by decide) kf_X0_28 rfl rfl (dall tdX0_step 46 rfl) ?_
    obtain ⟨o2, ok⟩ := ok
    refine r_iald C 1 0 rfl rfl o2 (dall tdX0_step 47 rfl) ?_
    refine r_s0I (as := [.int ((oI σ 7 (σ.1 5)).2.2.1 1 ((oI σ 7 (σ.1 5)).1 5).toNatClampNeg)]) C (zX0_isLetter ((oI σ 7 (σ.1 5)).2.2.1 1 ((oI σ 7 (σ.1 5)).1 5).toNatClampNeg) ) ms_X0_isLetter km_X0_99 (by decide) (by decide) ⟨Nat.le_refl _, Nat.le_refl _⟩ rfl rfl (Nat.le_of_ble_eq_true rfl) (dall tdX0_step 48 rfl) ?_
    refine r_if_eq (tgt := 114) C (dall tdX0_step 49 rfl) (by decide) (fun c3 => ?_) (fun c3 => ?_)
    · have h := (if_pos c3).symm.trans h
      have ok := ok.1 c3
      refine r_aload_n C 0 (dall tdX0_step 55 rfl) rfl ?_
      refine r_get C 0 kw_X0 rfl rfl (by decide) kf_X0_9 rfl rfl (dall tdX0_step 56 rfl) ?_
      refine r_aload_n C 0 (dall tdX0_step 57 rfl) rfl ?_
      refine r_get C 0 kw_X0 rfl rfl (by decide) kf_X0_28 rfl rfl (dall tdX0_step 58 rfl) ?_
      obtain ⟨o4, ok⟩ := ok
      refine r_iald C 1 0 rfl rfl o4 (dall tdX0_step 59 rfl) ?_
      refine r_s0I (as := [.int ((oI σ 7 (σ.1 5)).2.2.1 1 ((oI σ 7 (σ.1 5)).1 5).toNatClampNeg)]) C (zX0_isDigit ((oI σ 7 (σ.1 5)).2.2.1 1 ((oI σ 7 (σ.1 5)).1 5).toNatClampNeg) ) ms_X0_isDigit km_X0_106 (by decide) (by decide) ⟨Nat.le_refl _, Nat.le_refl _⟩ rfl rfl (Nat.le_of_ble_eq_true rfl) (dall tdX0_step 60 rfl) ?_
      refine r_if_eq (tgt := 140) C (dall tdX0_step 61 rfl) (by decide) (fun c5 => ?_) (fun c5 => ?_)
      · have h := (if_pos c5).symm.trans h
        have ok := ok.1 c5
        refine r_ldcS1 C (dall tdX0_step 67 rfl) ?_
        refine r_aload_n C 0 (dall tdX0_step 68 rfl) rfl ?_
        refine r_get C 0 kw_X0 rfl rfl (by decide) kf_X0_9 rfl rfl (dall tdX0_step 69 rfl) ?_
        refine r_aload_n C 0 (dall tdX0_step 70 rfl) rfl ?_
        refine r_get C 0 kw_X0 rfl rfl (by decide) kf_X0_28 rfl rfl (dall tdX0_step 71 rfl) ?_
        obtain ⟨o6, ok⟩ := ok
        refine r_iald C 1 0 rfl rfl o6 (dall tdX0_step 72 rfl) ?_
        refine r_i2c C (dall tdX0_step 73 rfl) ?_
        have o7 := ok
        refine r_strI (as := [.int ((((oI σ 7 (σ.1 5)).2.2.1 1 ((oI σ 7 (σ.1 5)).1 5).toNatClampNeg).toUInt32 % 65536).toInt32)]) C 1 (by decide) (zJ0_indexOf_0f7a4_s1 ((((oI σ 7 (σ.1 5)).2.2.1 1 ((oI σ 7 (σ.1 5)).1 5).toNatClampNeg).toUInt32 % 65536).toInt32) o7) mv_J0_indexOf_0f7a4_s1 km_X0_114 (by decide) (by decide) ⟨Nat.le_refl _, Nat.le_refl _⟩ rfl rfl (Nat.le_of_ble_eq_true rfl) (dall tdX0_step 74 rfl) ?_
        refine r_istore_n (lv' := [(1, .int (fJ0_indexOf_0f7a4_s1 ((((oI σ 7 (σ.1 5)).2.2.1 1 ((oI σ 7 (σ.1 5)).1 5).toNatClampNeg).toUInt32 % 65536).toInt32))), (0, .ref (q 11))]) C (dall tdX0_step 75 rfl) (by decide) rfl ?_
        refine r_aload_n C 1 (dall tdX0_step 76 rfl) rfl ?_
        refine r_iload_n C 0 (dall tdX0_step 77 rfl) rfl ?_
        refine r_if_ge (tgt := 166) C (dall tdX0_step 78 rfl) (by decide) (fun c8 => ?_) (fun c8 => ?_)
        · have h := (if_pos c8).symm.trans h
          refine r_bipush (v := 12) C (dall tdX0_step 81 rfl) (by decide) ?_
          refine r_iload_n C 0 (dall tdX0_step 82 rfl) rfl ?_
          refine r_iadd C (dall tdX0_step 83 rfl) ?_
          refine r_pick [1] rfl ?_
          exact wX0_step_170 (oI σ 7 (σ.1 5)) (12 + (fJ0_indexOf_0f7a4_s1 ((((oI σ 7 (σ.1 5)).2.2.1 1 ((oI σ 7 (σ.1 5)).1 5).toNatClampNeg).toUInt32 % 65536).toInt32))) C hR  h
        · have h := (if_neg c8).symm.trans h
          refine r_bipush (v := 22) C (dall tdX0_step 79 rfl) (by decide) ?_
          refine r_goto (tgt := 170) C (dall tdX0_step 80 rfl) (by decide) ?_
          refine r_pick [1] rfl ?_
          exact wX0_step_170 (oI σ 7 (σ.1 5)) 22 C hR  h
      · have h := (if_neg c5).symm.trans h
        have ok := ok.2 c5
        refine r_aload_n C 0 (dall tdX0_step 62 rfl) rfl ?_
        refine r_aload_n C 0 (dall tdX0_step 63 rfl) rfl ?_
        have o9 := ok
        refine r_vI (as := []) C (zX0_numberToken cy q (oI σ 7 (σ.1 5))  o9) mv_X0_numberToken km_X0_109 (by decide) (by decide) ⟨Nat.le_refl _, Nat.le_refl _⟩ rfl rfl rfl rfl (Nat.le_of_ble_eq_true rfl) (dall tdX0_step 64 rfl) ?_
        refine r_pick [] rfl ?_
        exact wX0_step_134 ((fX0_numberToken (oI σ 7 (σ.1 5)) ).2) ((fX0_numberToken (oI σ 7 (σ.1 5)) ).1) C hR  h
    · have h := (if_neg c3).symm.trans h
      have ok := ok.2 c3
      refine r_aload_n C 0 (dall tdX0_step 50 rfl) rfl ?_
      refine r_aload_n C 0 (dall tdX0_step 51 rfl) rfl ?_
      have o10 := ok
      refine r_vI (as := []) C (zX0_wordToken cy q (oI σ 7 (σ.1 5))  o10) mv_X0_wordToken km_X0_102 (by decide) (by decide) ⟨Nat.le_refl _, Nat.le_refl _⟩ rfl rfl rfl rfl (Nat.le_of_ble_eq_true rfl) (dall tdX0_step 52 rfl) ?_
      refine r_pick [] rfl ?_
      exact wX0_step_108 ((fX0_wordToken (oI σ 7 (σ.1 5)) ).2) ((fX0_wordToken (oI σ 7 (σ.1 5)) ).1) C hR  h
  · have h := (if_neg c1).symm.trans h
    have ok := ok.2 c1
    refine r_aload_n C 0 (dall tdX0_step 39 rfl) rfl ?_
    refine r_bipush (v := 21) C (dall tdX0_step 40 rfl) (by decide) ?_
    refine r_put C 0 kw_X0 tyX0_ok nmX0 rfl rfl (by decide) kf_X0_61 rfl rfl rfl rfl rfl (Nat.le_of_ble_eq_true rfl) (pu_X0_this_6 cy q (oI σ 7 (σ.1 5)) 21) (dall tdX0_step 41 rfl) ?_
    refine r_goto (tgt := 183) C (dall tdX0_step 42 rfl) (by decide) ?_
    exact r_vret C hR (dall tdX0_step 91 rfl) (by subst h; exact ⟨rfl, rfl⟩)
def bX0_step_11   (kR11 : OS × Int32 → OS) (v : OS × Int32) : OS := if 160 ≤ v.2 then pX0_step_60  v.1 else if (v.1.1 0) ≤ (v.1.1 5) then pX0_step_60  v.1 else if (fX0_isBlank (v.1.2.2.1 1 (v.1.1 5).toNatClampNeg)) = 0 then pX0_step_60  v.1 else kR11 (oI v.1 5 ((v.1.1 5) + 1), v.2 + 1)
def kX0_step_11   (kO11 : OS × Int32 → Prop) (v : OS × Int32) : Prop := (160 ≤ v.2 → oX0_step_60  v.1) ∧ (¬ (160 ≤ v.2) → ((v.1.1 0) ≤ (v.1.1 5) → oX0_step_60  v.1) ∧ (¬ ((v.1.1 0) ≤ (v.1.1 5)) → (vp_in (v.1.1 5) 160) ∧ (((fX0_isBlank (v.1.2.2.1 1 (v.1.1 5).toNatClampNeg)) = 0 → oX0_step_60  v.1) ∧ (¬ ((fX0_isBlank (v.1.2.2.1 1 (v.1.1 5).toNatClampNeg)) = 0) → kO11 (oI v.1 5 ((v.1.1 5) + 1), v.2 + 1)))))
set_option maxHeartbeats 4000000 in
set_option maxRecDepth 100000 in
theorem wX0_step_11 {X : CX} {cy : Nat → ClassId} {q : Nat → Nat} {D : va_G} {A : Nat → Prop} {res : OS}  (C : Cx X cX0_step RX0 2 D (gty cy) A 6 0 0) (hR : Rt X none D (gty cy) A 0 0 (eV (wX0 cy q res))) (kR11 : OS × Int32 → OS) (kO11 : OS × Int32 → Prop) (hk11 : ∀ z, kO11 z → kR11 z = res → At X D A 2 0 0 11 [(0, .ref (q 11)), (1, .int z.2)] [] (wX0 cy q z.1)) (v : OS × Int32) (ok : kX0_step_11  kO11 v) (h : bX0_step_11  kR11 v = res) : At X D A 2 0 0 11 [(0, .ref (q 11)), (1, .int v.2)] [] (wX0 cy q v.1) := by
  unfold bX0_step_11 at h
  unfold kX0_step_11 at ok
  refine r_iload_n C 1 (dall tdX0_step 7 rfl) rfl ?_
  refine r_sipush (v := 160) C (dall tdX0_step 8 rfl) (by decide) ?_
  refine r_icmp_ge (tgt := 60) C (dall tdX0_step 9 rfl) (by decide) (fun c11 => ?_) (fun c11 => ?_)
  · have h := (if_pos c11).symm.trans h
    have ok := ok.1 c11
    refine r_pick [0] rfl ?_
    exact wX0_step_60 v.1 C hR  ok h
  · have h := (if_neg c11).symm.trans h
    have ok := ok.2 c11
    refine r_aload_n C 0 (dall tdX0_step 10 rfl) rfl ?_
    refine r_get C 0 kw_X0 rfl rfl (by decide) kf_X0_28 rfl rfl (dall tdX0_step 11 rfl) ?_
    refine r_aload_n C 0 (dall tdX0_step 12 rfl) rfl ?_
    refine r_get C 0 kw_X0 rfl rfl (by decide) kf_X0_21 rfl rfl (dall tdX0_step 13 rfl) ?_
    refine r_icmp_ge (tgt := 60) C (dall tdX0_step 14 rfl) (by decide) (fun c12 => ?_) (fun c12 => ?_)
    · have h := (if_pos c12).symm.trans h
      have ok := ok.1 c12
      refine r_pick [0] rfl ?_
      exact wX0_step_60 v.1 C hR  ok h
    · have h := (if_neg c12).symm.trans h
      have ok := ok.2 c12
      refine r_aload_n C 0 (dall tdX0_step 15 rfl) rfl ?_
      refine r_get C 0 kw_X0 rfl rfl (by decide) kf_X0_9 rfl rfl (dall tdX0_step 16 rfl) ?_
      refine r_aload_n C 0 (dall tdX0_step 17 rfl) rfl ?_
      refine r_get C 0 kw_X0 rfl rfl (by decide) kf_X0_28 rfl rfl (dall tdX0_step 18 rfl) ?_
      obtain ⟨o13, ok⟩ := ok
      refine r_iald C 1 0 rfl rfl o13 (dall tdX0_step 19 rfl) ?_
      refine r_s0I (as := [.int (v.1.2.2.1 1 (v.1.1 5).toNatClampNeg)]) C (zX0_isBlank (v.1.2.2.1 1 (v.1.1 5).toNatClampNeg) ) ms_X0_isBlank km_X0_96 (by decide) (by decide) ⟨Nat.le_refl _, Nat.le_refl _⟩ rfl rfl (Nat.le_of_ble_eq_true rfl) (dall tdX0_step 20 rfl) ?_
      refine r_if_eq (tgt := 60) C (dall tdX0_step 21 rfl) (by decide) (fun c14 => ?_) (fun c14 => ?_)
      · have h := (if_pos c14).symm.trans h
        have ok := ok.1 c14
        refine r_pick [0] rfl ?_
        exact wX0_step_60 v.1 C hR  ok h
      · have h := (if_neg c14).symm.trans h
        have ok := ok.2 c14
        refine r_aload_n C 0 (dall tdX0_step 22 rfl) rfl ?_
        refine r_dup C (dall tdX0_step 23 rfl) rfl ?_
        refine r_get C 0 kw_X0 rfl rfl (by decide) kf_X0_28 rfl rfl (dall tdX0_step 24 rfl) ?_
        refine r_iconst (v := 1) C (dall tdX0_step 25 rfl) (by decide) ?_
        refine r_iadd C (dall tdX0_step 26 rfl) ?_
        refine r_put C 0 kw_X0 tyX0_ok nmX0 rfl rfl (by decide) kf_X0_28 rfl rfl rfl rfl rfl (Nat.le_of_ble_eq_true rfl) (pu_X0_this_5 cy q v.1 ((v.1.1 5) + 1)) (dall tdX0_step 27 rfl) ?_
        refine r_iinc (v := v.2 + 1) (lv' := [(1, .int (v.2 + 1)), (0, .ref (q 11))]) C 1 (dall tdX0_step 28 rfl) rfl rfl (by decide) rfl ?_
        refine r_goto (tgt := 11) C (dall tdX0_step 29 rfl) (by decide) ?_
        refine r_pick [1, 0] rfl ?_
        exact hk11 (oI v.1 5 ((v.1.1 5) + 1), v.2 + 1) ok h
set_option maxHeartbeats 4000000 in
set_option maxRecDepth 100000 in
theorem lX0_step_11 {X : CX} {cy : Nat → ClassId} {q : Nat → Nat} {D : va_G} {A : Nat → Prop} {res : OS}  (C : Cx X cX0_step RX0 2 D (gty cy) A 6 0 0) (hR : Rt X none D (gty cy) A 0 0 (eV (wX0 cy q res)))  (n : Nat) (v : OS × Int32) (ok : lpOk (kX0_step_11  ) n v) (h : lp o0 (bX0_step_11  ) n v = res) : At X D A 2 0 0 11 [(0, .ref (q 11)), (1, .int v.2)] [] (wX0 cy q v.1) :=
  lp_rule (fun v rr_ => rr_ = res → At X D A 2 0 0 11 [(0, .ref (q 11)), (1, .int v.2)] [] (wX0 cy q v.1)) (fun kR kO hk v ok h => wX0_step_11  C hR  kR kO hk v ok h) n v ok h
def pX0_step_0  (σ : OS) : OS := if (σ.1 10) = (-1) then lp o0 (bX0_step_11  ) fu (σ, 0) else σ
def oX0_step_0  (σ : OS) : Prop := ((σ.1 10) = (-1) → lpOk (kX0_step_11  ) fu (σ, 0)) ∧ (¬ ((σ.1 10) = (-1)) → True)
set_option maxHeartbeats 4000000 in
set_option maxRecDepth 100000 in
theorem wX0_step_0 {X : CX} {cy : Nat → ClassId} {q : Nat → Nat} {D : va_G} {A : Nat → Prop} {res : OS} (σ : OS) (C : Cx X cX0_step RX0 2 D (gty cy) A 6 0 0) (hR : Rt X none D (gty cy) A 0 0 (eV (wX0 cy q res)))  (ok : oX0_step_0  σ) (h : pX0_step_0  σ = res) : At X D A 2 0 0 0 [(0, .ref (q 11))] [] (wX0 cy q σ) := by
  unfold pX0_step_0 at h
  unfold oX0_step_0 at ok
  refine r_aload_n C 0 (dall tdX0_step 0 rfl) rfl ?_
  refine r_get C 0 kw_X0 rfl rfl (by decide) kf_X0_34 rfl rfl (dall tdX0_step 1 rfl) ?_
  refine r_iconst (v := -1) C (dall tdX0_step 2 rfl) (by decide) ?_
  refine r_icmp_eq (tgt := 9) C (dall tdX0_step 3 rfl) (by decide) (fun c15 => ?_) (fun c15 => ?_)
  · have h := (if_pos c15).symm.trans h
    have ok := ok.1 c15
    refine r_iconst (v := 0) C (dall tdX0_step 5 rfl) (by decide) ?_
    refine r_istore_n (lv' := [(1, .int 0), (0, .ref (q 11))]) C (dall tdX0_step 6 rfl) (by decide) rfl ?_
    refine r_pick [1, 0] rfl ?_
    exact lX0_step_11  C hR  fu _ ok h
  · have h := (if_neg c15).symm.trans h
    have ok := ok.2 c15
    exact r_vret C hR (dall tdX0_step 4 rfl) (by subst h; exact ⟨rfl, rfl⟩)
def fX0_step (σ : OS) : OS := pX0_step_0  σ
def gX0_step (σ : OS) : Prop := oX0_step_0  σ
set_option maxRecDepth 100000 in
theorem zX0_step (cy : Nat → ClassId) (q : Nat → Nat)  {D : va_G} (σ : OS) (ok : gX0_step σ )  : Con yX0_step cX0_step 2 none 6 0 0 D (gty cy) [.ref (q 11)] (wX0 cy q σ) (eV (wX0 cy q (fX0_step σ ))) :=
  Con.of (own := RX0) (by decide +kernel) rfl (Nat.le_of_ble_eq_true rfl) (Nat.zero_le _) (fun X A C hR _ => (wX0_step_0 σ C hR  ok rfl))
theorem mv_X0_step : MV yX0_step cX0_step 2 none RX0 0 := ⟨ki_X0_step, kv_X0_step, kn_X0, kc_X0_step, by decide +kernel⟩
def tbX0_refuse : List (Nat × Instr × Nat) := [(0, .aload_n 0, 1), (1, .getfield 34, 3), (4, .iconst (-1), 1), (5, .if_icmp .ne 11, 3), (8, .aload_n 0, 1), (9, .aload_n 0, 1), (10, .getfield 93, 3), (13, .putfield 34, 3), (16, .aload_n 0, 1), (17, .bipush 22, 2), (19, .putfield 61, 3), (22, .return_, 1)]
theorem tdX0_refuse : tbX0_refuse.all (fun q => decide (decode cX0_refuse q.1 = .ok q.2)) = true := by decide +kernel
def pX0_refuse_16  (σ : OS) : OS := oI σ 6 22
set_option maxHeartbeats 4000000 in
set_option maxRecDepth 100000 in
theorem wX0_refuse_16 {X : CX} {cy : Nat → ClassId} {q : Nat → Nat} {D : va_G} {A : Nat → Prop} {res : OS} (σ : OS) (C : Cx X cX0_refuse RX0 1 D (gty cy) A 0 0 0) (hR : Rt X none D (gty cy) A 0 0 (eV (wX0 cy q res)))  (h : pX0_refuse_16  σ = res) : At X D A 1 0 0 16 [(0, .ref (q 11))] [] (wX0 cy q σ) := by
  unfold pX0_refuse_16 at h
  refine r_aload_n C 0 (dall tdX0_refuse 8 rfl) rfl ?_
  refine r_bipush (v := 22) C (dall tdX0_refuse 9 rfl) (by decide) ?_
  refine r_put C 0 kw_X0 tyX0_ok nmX0 rfl rfl (by decide) kf_X0_61 rfl rfl rfl rfl rfl (Nat.le_of_ble_eq_true rfl) (pu_X0_this_6 cy q σ 22) (dall tdX0_refuse 10 rfl) ?_
  exact r_vret C hR (dall tdX0_refuse 11 rfl) (by subst h; exact ⟨rfl, rfl⟩)
def pX0_refuse_0  (σ : OS) : OS := if (σ.1 10) = (-1) then pX0_refuse_16  (oI σ 10 (σ.1 7)) else pX0_refuse_16  σ
set_option maxHeartbeats 4000000 in
set_option maxRecDepth 100000 in
theorem wX0_refuse_0 {X : CX} {cy : Nat → ClassId} {q : Nat → Nat} {D : va_G} {A : Nat → Prop} {res : OS} (σ : OS) (C : Cx X cX0_refuse RX0 1 D (gty cy) A 0 0 0) (hR : Rt X none D (gty cy) A 0 0 (eV (wX0 cy q res)))  (h : pX0_refuse_0  σ = res) : At X D A 1 0 0 0 [(0, .ref (q 11))] [] (wX0 cy q σ) := by
  unfold pX0_refuse_0 at h
  refine r_aload_n C 0 (dall tdX0_refuse 0 rfl) rfl ?_
  refine r_get C 0 kw_X0 rfl rfl (by decide) kf_X0_34 rfl rfl (dall tdX0_refuse 1 rfl) ?_
  refine r_iconst (v := -1) C (dall tdX0_refuse 2 rfl) (by decide) ?_
  refine r_icmp_ne (tgt := 16) C (dall tdX0_refuse 3 rfl) (by decide) (fun c1 => ?_) (fun c1 => ?_)
  · have h := (if_neg c1).symm.trans h
    exact wX0_refuse_16 σ C hR  h
  · have h := (if_pos c1).symm.trans h
    refine r_aload_n C 0 (dall tdX0_refuse 4 rfl) rfl ?_
    refine r_aload_n C 0 (dall tdX0_refuse 5 rfl) rfl ?_
    refine r_get C 0 kw_X0 rfl rfl (by decide) kf_X0_93 rfl rfl (dall tdX0_refuse 6 rfl) ?_
    refine r_put C 0 kw_X0 tyX0_ok nmX0 rfl rfl (by decide) kf_X0_34 rfl rfl rfl rfl rfl (Nat.le_of_ble_eq_true rfl) (pu_X0_this_10 cy q σ (σ.1 7)) (dall tdX0_refuse 7 rfl) ?_
    exact wX0_refuse_16 (oI σ 10 (σ.1 7)) C hR  h
def fX0_refuse (σ : OS) : OS := pX0_refuse_0  σ
set_option maxRecDepth 100000 in
theorem zX0_refuse (cy : Nat → ClassId) (q : Nat → Nat)  {D : va_G} (σ : OS)  : Con yX0_refuse cX0_refuse 1 none 0 0 0 D (gty cy) [.ref (q 11)] (wX0 cy q σ) (eV (wX0 cy q (fX0_refuse σ ))) :=
  Con.of (own := RX0) (by decide +kernel) rfl (Nat.le_of_ble_eq_true rfl) (Nat.zero_le _) (fun X A C hR _ => (wX0_refuse_0 σ C hR  rfl))
theorem mv_X0_refuse : MV yX0_refuse cX0_refuse 1 none RX0 0 := ⟨ki_X0_refuse, kv_X0_refuse, kn_X0, kc_X0_refuse, by decide +kernel⟩
def tbX0_expect : List (Nat × Instr × Nat) := [(0, .aload_n 0, 1), (1, .getfield 61, 3), (4, .iload_n 1, 1), (5, .if_icmp .ne 10, 3), (8, .aload_n 0, 1), (9, .invokevirtual 37, 3), (12, .goto 7, 3), (15, .aload_n 0, 1), (16, .invokevirtual 90, 3), (19, .return_, 1)]
theorem tdX0_expect : tbX0_expect.all (fun q => decide (decode cX0_expect q.1 = .ok q.2)) = true := by decide +kernel
def pX0_expect_19  (σ : OS) : OS := σ
set_option maxHeartbeats 4000000 in
set_option maxRecDepth 100000 in
theorem wX0_expect_19 {X : CX} {cy : Nat → ClassId} {q : Nat → Nat} {D : va_G} {A : Nat → Prop} {res : OS} (σ : OS) (C : Cx X cX0_expect RX0 2 D (gty cy) A 7 0 0) (hR : Rt X none D (gty cy) A 0 0 (eV (wX0 cy q res)))  (h : pX0_expect_19  σ = res) : At X D A 2 0 0 19 [] [] (wX0 cy q σ) := by
  unfold pX0_expect_19 at h
  exact r_vret C hR (dall tdX0_expect 9 rfl) (by subst h; exact ⟨rfl, rfl⟩)
def pX0_expect_12  (σ : OS) : OS := pX0_expect_19  σ
set_option maxHeartbeats 4000000 in
set_option maxRecDepth 100000 in
theorem wX0_expect_12 {X : CX} {cy : Nat → ClassId} {q : Nat → Nat} {D : va_G} {A : Nat → Prop} {res : OS} (σ : OS) (C : Cx X cX0_expect RX0 2 D (gty cy) A 7 0 0) (hR : Rt X none D (gty cy) A 0 0 (eV (wX0 cy q res)))  (h : pX0_expect_12  σ = res) : At X D A 2 0 0 12 [] [] (wX0 cy q σ) := by
  unfold pX0_expect_12 at h
  refine r_goto (tgt := 19) C (dall tdX0_expect 6 rfl) (by decide) ?_
  exact wX0_expect_19 σ C hR  h
def pX0_expect_0  (σ : OS) (a1_ : Int32) : OS := if (σ.1 6) = a1_ then pX0_expect_12  (fX0_step σ) else pX0_expect_19  (fX0_refuse σ)
def oX0_expect_0  (σ : OS) (a1_ : Int32) : Prop := ((σ.1 6) = a1_ → gX0_step σ ) ∧ (¬ ((σ.1 6) = a1_) → True)
set_option maxHeartbeats 4000000 in
set_option maxRecDepth 100000 in
theorem wX0_expect_0 {X : CX} {cy : Nat → ClassId} {q : Nat → Nat} {D : va_G} {A : Nat → Prop} {res : OS} (σ : OS) (a1_ : Int32) (C : Cx X cX0_expect RX0 2 D (gty cy) A 7 0 0) (hR : Rt X none D (gty cy) A 0 0 (eV (wX0 cy q res)))  (ok : oX0_expect_0  σ a1_) (h : pX0_expect_0  σ a1_ = res) : At X D A 2 0 0 0 [(0, .ref (q 11)), (1, .int a1_)] [] (wX0 cy q σ) := by
  unfold pX0_expect_0 at h
  unfold oX0_expect_0 at ok
  refine r_aload_n C 0 (dall tdX0_expect 0 rfl) rfl ?_
  refine r_get C 0 kw_X0 rfl rfl (by decide) kf_X0_61 rfl rfl (dall tdX0_expect 1 rfl) ?_
  refine r_iload_n C 1 (dall tdX0_expect 2 rfl) rfl ?_
  refine r_icmp_ne (tgt := 15) C (dall tdX0_expect 3 rfl) (by decide) (fun c1 => ?_) (fun c1 => ?_)
  · have h := (if_neg c1).symm.trans h
    have ok := ok.2 c1
    refine r_aload_n C 0 (dall tdX0_expect 7 rfl) rfl ?_
    refine r_vV (as := []) C (zX0_refuse cy q σ  ) mv_X0_refuse km_X0_90 (by decide) (by decide) ⟨Nat.le_refl _, Nat.le_refl _⟩ rfl rfl rfl rfl (Nat.le_of_ble_eq_true rfl) (dall tdX0_expect 8 rfl) ?_
    refine r_pick [] rfl ?_
    exact wX0_expect_19 (fX0_refuse σ) C hR  h
  · have h := (if_pos c1).symm.trans h
    have ok := ok.1 c1
    refine r_aload_n C 0 (dall tdX0_expect 4 rfl) rfl ?_
    have o2 := ok
    refine r_vV (as := []) C (zX0_step cy q σ  o2) mv_X0_step km_X0_37 (by decide) (by decide) ⟨Nat.le_refl _, Nat.le_refl _⟩ rfl rfl rfl rfl (Nat.le_of_ble_eq_true rfl) (dall tdX0_expect 5 rfl) ?_
    refine r_pick [] rfl ?_
    exact wX0_expect_12 (fX0_step σ) C hR  h
def fX0_expect (σ : OS) (a1_ : Int32) : OS := pX0_expect_0  σ a1_
def gX0_expect (σ : OS) (a1_ : Int32) : Prop := oX0_expect_0  σ a1_
set_option maxRecDepth 100000 in
theorem zX0_expect (cy : Nat → ClassId) (q : Nat → Nat)  {D : va_G} (σ : OS) (a1_ : Int32) (ok : gX0_expect σ a1_)  : Con yX0_expect cX0_expect 2 none 7 0 0 D (gty cy) [.ref (q 11), .int a1_] (wX0 cy q σ) (eV (wX0 cy q (fX0_expect σ a1_))) :=
  Con.of (own := RX0) (by decide +kernel) rfl (Nat.le_of_ble_eq_true rfl) (Nat.zero_le _) (fun X A C hR _ => (wX0_expect_0 σ a1_ C hR  ok rfl))
theorem mv_X0_expect : MV yX0_expect cX0_expect 2 none RX0 1 := ⟨ki_X0_expect, kv_X0_expect, kn_X0, kc_X0_expect, by decide +kernel⟩
def tbX0_opens : List (Nat × Instr × Nat) := [(0, .aload_n 0, 1), (1, .getfield 31, 3), (4, .iconst 5, 1), (5, .if_icmp .lt 9, 3), (8, .aload_n 0, 1), (9, .invokevirtual 90, 3), (12, .iconst 0, 1), (13, .ireturn, 1), (14, .aload_n 0, 1), (15, .dup, 1), (16, .getfield 31, 3), (19, .iconst 1, 1), (20, .iadd, 1), (21, .putfield 31, 3), (24, .aload_n 0, 1), (25, .invokevirtual 37, 3), (28, .iconst 1, 1), (29, .ireturn, 1)]
theorem tdX0_opens : tbX0_opens.all (fun q => decide (decode cX0_opens q.1 = .ok q.2)) = true := by decide +kernel
def pX0_opens_28  (σ : OS) : Int32 × OS := (1, σ)
set_option maxHeartbeats 4000000 in
set_option maxRecDepth 100000 in
theorem wX0_opens_28 {X : CX} {cy : Nat → ClassId} {q : Nat → Nat} {D : va_G} {A : Nat → Prop} {res : Int32 × OS} (σ : OS) (C : Cx X cX0_opens RX0 1 D (gty cy) A 7 0 0) (hR : Rt X (some .boolean) D (gty cy) A 0 0 (eI (wX0 cy q res.2) res.1))  (h : pX0_opens_28  σ = res) : At X D A 1 0 0 28 [] [] (wX0 cy q σ) := by
  unfold pX0_opens_28 at h
  refine r_iconst (v := 1) C (dall tdX0_opens 16 rfl) (by decide) ?_
  exact r_zret C (by decide) hR (dall tdX0_opens 17 rfl) (by subst h; exact ⟨rfl, rfl⟩)
def pX0_opens_12  (σ : OS) : Int32 × OS := (0, σ)
set_option maxHeartbeats 4000000 in
set_option maxRecDepth 100000 in
theorem wX0_opens_12 {X : CX} {cy : Nat → ClassId} {q : Nat → Nat} {D : va_G} {A : Nat → Prop} {res : Int32 × OS} (σ : OS) (C : Cx X cX0_opens RX0 1 D (gty cy) A 7 0 0) (hR : Rt X (some .boolean) D (gty cy) A 0 0 (eI (wX0 cy q res.2) res.1))  (h : pX0_opens_12  σ = res) : At X D A 1 0 0 12 [] [] (wX0 cy q σ) := by
  unfold pX0_opens_12 at h
  refine r_iconst (v := 0) C (dall tdX0_opens 6 rfl) (by decide) ?_
  exact r_zret C (by decide) hR (dall tdX0_opens 7 rfl) (by subst h; exact ⟨rfl, rfl⟩)
def pX0_opens_0  (σ : OS) : Int32 × OS := if (σ.1 9) < 5 then pX0_opens_28  (fX0_step (oI σ 9 ((σ.1 9) + 1))) else pX0_opens_12  (fX0_refuse σ)
def oX0_opens_0  (σ : OS) : Prop := ((σ.1 9) < 5 → gX0_step (oI σ 9 ((σ.1 9) + 1)) ) ∧ (¬ ((σ.1 9) < 5) → True)
set_option maxHeartbeats 4000000 in
set_option maxRecDepth 100000 in
theorem wX0_opens_0 {X : CX} {cy : Nat → ClassId} {q : Nat → Nat} {D : va_G} {A : Nat → Prop} {res : Int32 × OS} (σ : OS) (C : Cx X cX0_opens RX0 1 D (gty cy) A 7 0 0) (hR : Rt X (some .boolean) D (gty cy) A 0 0 (eI (wX0 cy q res.2) res.1))  (ok : oX0_opens_0  σ) (h : pX0_opens_0  σ = res) : At X D A 1 0 0 0 [(0, .ref (q 11))] [] (wX0 cy q σ) := by
  unfold pX0_opens_0 at h
  unfold oX0_opens_0 at ok
  refine r_aload_n C 0 (dall tdX0_opens 0 rfl) rfl ?_
  refine r_get C 0 kw_X0 rfl rfl (by decide) kf_X0_31 rfl rfl (dall tdX0_opens 1 rfl) ?_
  refine r_iconst (v := 5) C (dall tdX0_opens 2 rfl) (by decide) ?_
  refine r_icmp_lt (tgt := 14) C (dall tdX0_opens 3 rfl) (by decide) (fun c1 => ?_) (fun c1 => ?_)
  · have h := (if_pos c1).symm.trans h
    have ok := ok.1 c1
    refine r_aload_n C 0 (dall tdX0_opens 8 rfl) rfl ?_
    refine r_dup C (dall tdX0_opens 9 rfl) rfl ?_
    refine r_get C 0 kw_X0 rfl rfl (by decide) kf_X0_31 rfl rfl (dall tdX0_opens 10 rfl) ?_
    refine r_iconst (v := 1) C (dall tdX0_opens 11 rfl) (by decide) ?_
    refine r_iadd C (dall tdX0_opens 12 rfl) ?_
    refine r_put C 0 kw_X0 tyX0_ok nmX0 rfl rfl (by decide) kf_X0_31 rfl rfl rfl rfl rfl (Nat.le_of_ble_eq_true rfl) (pu_X0_this_9 cy q σ ((σ.1 9) + 1)) (dall tdX0_opens 13 rfl) ?_
    refine r_aload_n C 0 (dall tdX0_opens 14 rfl) rfl ?_
    have o2 := ok
    refine r_vV (as := []) C (zX0_step cy q (oI σ 9 ((σ.1 9) + 1))  o2) mv_X0_step km_X0_37 (by decide) (by decide) ⟨Nat.le_refl _, Nat.le_refl _⟩ rfl rfl rfl rfl (Nat.le_of_ble_eq_true rfl) (dall tdX0_opens 15 rfl) ?_
    refine r_pick [] rfl ?_
    exact wX0_opens_28 (fX0_step (oI σ 9 ((σ.1 9) + 1))) C hR  h
  · have h := (if_neg c1).symm.trans h
    have ok := ok.2 c1
    refine r_aload_n C 0 (dall tdX0_opens 4 rfl) rfl ?_
    refine r_vV (as := []) C (zX0_refuse cy q σ  ) mv_X0_refuse km_X0_90 (by decide) (by decide) ⟨Nat.le_refl _, Nat.le_refl _⟩ rfl rfl rfl rfl (Nat.le_of_ble_eq_true rfl) (dall tdX0_opens 5 rfl) ?_
    refine r_pick [] rfl ?_
    exact wX0_opens_12 (fX0_refuse σ) C hR  h
def fX0_opens (σ : OS) : Int32 × OS := pX0_opens_0  σ
def gX0_opens (σ : OS) : Prop := oX0_opens_0  σ
set_option maxRecDepth 100000 in
theorem zX0_opens (cy : Nat → ClassId) (q : Nat → Nat)  {D : va_G} (σ : OS) (ok : gX0_opens σ )  : Con yX0_opens cX0_opens 1 (some .boolean) 7 0 0 D (gty cy) [.ref (q 11)] (wX0 cy q σ) (eI (wX0 cy q (fX0_opens σ ).2) (fX0_opens σ ).1) :=
  Con.of (own := RX0) (by decide +kernel) rfl (Nat.le_of_ble_eq_true rfl) (Nat.zero_le _) (fun X A C hR _ => (wX0_opens_0 σ C hR  ok rfl))
theorem mv_X0_opens : MV yX0_opens cX0_opens 1 (some .boolean) RX0 0 := ⟨ki_X0_opens, kv_X0_opens, kn_X0, kc_X0_opens, by decide +kernel⟩
def tbX0_write : List (Nat × Instr × Nat) := [(0, .aload_n 0, 1), (1, .getfield 25, 3), (4, .sipush 160, 3), (7, .if_icmp .ge 23, 3), (10, .aload_n 0, 1), (11, .getfield 15, 3), (14, .aload_n 0, 1), (15, .getfield 25, 3), (18, .iload_n 1, 1), (19, .iastore, 1), (20, .aload_n 0, 1), (21, .dup, 1), (22, .getfield 25, 3), (25, .iconst 1, 1), (26, .iadd, 1), (27, .putfield 25, 3), (30, .return_, 1)]
theorem tdX0_write : tbX0_write.all (fun q => decide (decode cX0_write q.1 = .ok q.2)) = true := by decide +kernel
def pX0_write_0  (σ : OS) (a1_ : Int32) : OS := if 160 ≤ (σ.1 4) then σ else oI (oS σ 2 ((σ.1 4).toNatClampNeg) a1_) 4 (((oS σ 2 ((σ.1 4).toNatClampNeg) a1_).1 4) + 1)
def oX0_write_0  (σ : OS) (a1_ : Int32) : Prop := (160 ≤ (σ.1 4) → True) ∧ (¬ (160 ≤ (σ.1 4)) → vp_in (σ.1 4) 160)
set_option maxHeartbeats 4000000 in
set_option maxRecDepth 100000 in
theorem wX0_write_0 {X : CX} {cy : Nat → ClassId} {q : Nat → Nat} {D : va_G} {A : Nat → Prop} {res : OS} (σ : OS) (a1_ : Int32) (C : Cx X cX0_write RX0 2 D (gty cy) A 0 0 0) (hR : Rt X none D (gty cy) A 0 0 (eV (wX0 cy q res)))  (ok : oX0_write_0  σ a1_) (h : pX0_write_0  σ a1_ = res) : At X D A 2 0 0 0 [(0, .ref (q 11)), (1, .int a1_)] [] (wX0 cy q σ) := by
  unfold pX0_write_0 at h
  unfold oX0_write_0 at ok
  refine r_aload_n C 0 (dall tdX0_write 0 rfl) rfl ?_
  refine r_get C 0 kw_X0 rfl rfl (by decide) kf_X0_25 rfl rfl (dall tdX0_write 1 rfl) ?_
  refine r_sipush (v := 160) C (dall tdX0_write 2 rfl) (by decide) ?_
  refine r_icmp_ge (tgt := 30) C (dall tdX0_write 3 rfl) (by decide) (fun c1 => ?_) (fun c1 => ?_)
  · have h := (if_pos c1).symm.trans h
    have ok := ok.1 c1
    exact r_vret C hR (dall tdX0_write 16 rfl) (by subst h; exact ⟨rfl, rfl⟩)
  · have h := (if_neg c1).symm.trans h
    have ok := ok.2 c1
    refine r_aload_n C 0 (dall tdX0_write 4 rfl) rfl ?_
    refine r_get C 0 kw_X0 rfl rfl (by decide) kf_X0_15 rfl rfl (dall tdX0_write 5 rfl) ?_
    refine r_aload_n C 0 (dall tdX0_write 6 rfl) rfl ?_
    refine r_get C 0 kw_X0 rfl rfl (by decide) kf_X0_25 rfl rfl (dall tdX0_write 7 rfl) ?_
    refine r_iload_n C 1 (dall tdX0_write 8 rfl) rfl ?_
    have o2 := ok
    refine r_iast C 2 0 rfl rfl o2 (pa_X0_this_2 cy q σ ((σ.1 4).toNatClampNeg) a1_) (dall tdX0_write 9 rfl) ?_
    refine r_aload_n C 0 (dall tdX0_write 10 rfl) rfl ?_
    refine r_dup C (dall tdX0_write 11 rfl) rfl ?_
    refine r_get C 0 kw_X0 rfl rfl (by decide) kf_X0_25 rfl rfl (dall tdX0_write 12 rfl) ?_
    refine r_iconst (v := 1) C (dall tdX0_write 13 rfl) (by decide) ?_
    refine r_iadd C (dall tdX0_write 14 rfl) ?_
    refine r_put C 0 kw_X0 tyX0_ok nmX0 rfl rfl (by decide) kf_X0_25 rfl rfl rfl rfl rfl (Nat.le_of_ble_eq_true rfl) (pu_X0_this_4 cy q (oS σ 2 ((σ.1 4).toNatClampNeg) a1_) (((oS σ 2 ((σ.1 4).toNatClampNeg) a1_).1 4) + 1)) (dall tdX0_write 15 rfl) ?_
    exact r_vret C hR (dall tdX0_write 16 rfl) (by subst h; exact ⟨rfl, rfl⟩)
def fX0_write (σ : OS) (a1_ : Int32) : OS := pX0_write_0  σ a1_
def gX0_write (σ : OS) (a1_ : Int32) : Prop := oX0_write_0  σ a1_
set_option maxRecDepth 100000 in
theorem zX0_write (cy : Nat → ClassId) (q : Nat → Nat)  {D : va_G} (σ : OS) (a1_ : Int32) (ok : gX0_write σ a1_)  : Con yX0_write cX0_write 2 none 0 0 0 D (gty cy) [.ref (q 11), .int a1_] (wX0 cy q σ) (eV (wX0 cy q (fX0_write σ a1_))) :=
  Con.of (own := RX0) (by decide +kernel) rfl (Nat.le_of_ble_eq_true rfl) (Nat.zero_le _) (fun X A C hR _ => (wX0_write_0 σ a1_ C hR  ok rfl))
theorem mv_X0_write : MV yX0_write cX0_write 2 none RX0 1 := ⟨ki_X0_write, kv_X0_write, kn_X0, kc_X0_write, by decide +kernel⟩
end
section
theorem mv_X0_readOne : MV yX0_readOne cX0_readOne 1 none RX0 0 := ⟨ki_X0_readOne, kv_X0_readOne, kn_X0, kc_X0_readOne, by decide +kernel⟩
theorem mv_X0_readTerm : MV yX0_readTerm cX0_readTerm 2 none RX0 0 := ⟨ki_X0_readTerm, kv_X0_readTerm, kn_X0, kc_X0_readTerm, by decide +kernel⟩
theorem mv_X0_readSum : MV yX0_readSum cX0_readSum 3 none RX0 0 := ⟨ki_X0_readSum, kv_X0_readSum, kn_X0, kc_X0_readSum, by decide +kernel⟩
theorem mv_X0_readNot : MV yX0_readNot cX0_readNot 2 none RX0 0 := ⟨ki_X0_readNot, kv_X0_readNot, kn_X0, kc_X0_readNot, by decide +kernel⟩
theorem mv_X0_readBoth : MV yX0_readBoth cX0_readBoth 2 none RX0 0 := ⟨ki_X0_readBoth, kv_X0_readBoth, kn_X0, kc_X0_readBoth, by decide +kernel⟩
theorem mv_X0_readEither : MV yX0_readEither cX0_readEither 2 none RX0 0 := ⟨ki_X0_readEither, kv_X0_readEither, kn_X0, kc_X0_readEither, by decide +kernel⟩
def tbX0_readOne : List (Nat × Instr × Nat) := [(0, .aload_n 0, 1), (1, .getfield 61, 3), (4, .bipush 20, 2), (6, .if_icmp .ne 18, 3), (9, .aload_n 0, 1), (10, .aload_n 0, 1), (11, .getfield 83, 3), (14, .invokevirtual 64, 3), (17, .aload_n 0, 1), (18, .invokevirtual 37, 3), (21, .goto 112, 3), (24, .aload_n 0, 1), (25, .getfield 61, 3), (28, .invokestatic 86, 3), (31, .ifCond .eq 20, 3), (34, .aload_n 0, 1), (35, .aload_n 0, 1), (36, .getfield 61, 3), (39, .iconst (-1), 1), (40, .ixor, 1), (41, .invokevirtual 64, 3), (44, .aload_n 0, 1), (45, .invokevirtual 37, 3), (48, .goto 85, 3), (51, .aload_n 0, 1), (52, .getfield 61, 3), (55, .bipush 16, 2), (57, .if_icmp .ne 33, 3), (60, .aload_n 0, 1), (61, .invokevirtual 70, 3), (64, .ifCond .eq 69, 3), (67, .aload_n 0, 1), (68, .invokevirtual 80, 3), (71, .aload_n 0, 1), (72, .dup, 1), (73, .getfield 31, 3), (76, .iconst 1, 1), (77, .isub, 1), (78, .putfield 31, 3), (81, .aload_n 0, 1), (82, .bipush (-24), 2), (84, .invokevirtual 64, 3), (87, .goto 46, 3), (90, .aload_n 0, 1), (91, .getfield 61, 3), (94, .bipush 12, 2), (96, .if_icmp .ne 33, 3), (99, .aload_n 0, 1), (100, .invokevirtual 70, 3), (103, .ifCond .eq 30, 3), (106, .aload_n 0, 1), (107, .invokevirtual 44, 3), (110, .aload_n 0, 1), (111, .dup, 1), (112, .getfield 31, 3), (115, .iconst 1, 1), (116, .isub, 1), (117, .putfield 31, 3), (120, .aload_n 0, 1), (121, .bipush 13, 2), (123, .invokevirtual 40, 3), (126, .goto 7, 3), (129, .aload_n 0, 1), (130, .invokevirtual 90, 3), (133, .return_, 1)]
theorem tdX0_readOne : tbX0_readOne.all (fun q => decide (decode cX0_readOne q.1 = .ok q.2)) = true := by decide +kernel
def pX0_readOne_133 (F1 : OS → OS) (F2 : OS → OS)  (σ : OS) : OS := σ
set_option maxHeartbeats 4000000 in
set_option maxRecDepth 100000 in
theorem wX0_readOne_133 {X : CX} {cy : Nat → ClassId} {q : Nat → Nat} {D : va_G} {A : Nat → Prop} {res : OS} {lv lv1 lv2 : Nat} {F1 : OS → OS} {G1 : OS → Prop} {F2 : OS → OS} {G2 : OS → Prop} (hlv : 20 ≤ lv) (hz1 : ∀ σ : OS, G1 σ → Con yX0_readOne cX0_readOne 1 none lv1 0 0 D (gty cy) [.ref (q 11)] (wX0 cy q σ) (eV (wX0 cy q (F1 σ)))) (hl1 : lv1 + 1 ≤ lv) (hz2 : ∀ σ : OS, G2 σ → Con yX0_readEither cX0_readEither 2 none lv2 0 0 D (gty cy) [.ref (q 11)] (wX0 cy q σ) (eV (wX0 cy q (F2 σ)))) (hl2 : lv2 + 1 ≤ lv)  (σ : OS) (C : Cx X cX0_readOne RX0 1 D (gty cy) A lv 0 0) (hR : Rt X none D (gty cy) A 0 0 (eV (wX0 cy q res)))  (h : pX0_readOne_133 F1 F2  σ = res) : At X D A 1 0 0 133 [] [] (wX0 cy q σ) := by
  unfold pX0_readOne_133 at h
  exact r_vret C hR (dall tdX0_readOne 64 rfl) (by subst h; exact ⟨rfl, rfl⟩)
def pX0_readOne_126 (F1 : OS → OS) (F2 : OS → OS)  (σ : OS) : OS := pX0_readOne_133 F1 F2  σ
set_option maxHeartbeats 4000000 in
set_option maxRecDepth 100000 in
theorem wX0_readOne_126 {X : CX} {cy : Nat → ClassId} {q : Nat → Nat} {D : va_G} {A : Nat → Prop} {res : OS} {lv lv1 lv2 : Nat} {F1 : OS → OS} {G1 : OS → Prop} {F2 : OS → OS} {G2 : OS → Prop} (hlv : 20 ≤ lv) (hz1 : ∀ σ : OS, G1 σ → Con yX0_readOne cX0_readOne 1 none lv1 0 0 D (gty cy) [.ref (q 11)] (wX0 cy q σ) (eV (wX0 cy q (F1 σ)))) (hl1 : lv1 + 1 ≤ lv) (hz2 : ∀ σ : OS, G2 σ → Con yX0_readEither cX0_readEither 2 none lv2 0 0 D (gty cy) [.ref (q 11)] (wX0 cy q σ) (eV (wX0 cy q (F2 σ)))) (hl2 : lv2 + 1 ≤ lv)  (σ : OS) (C : Cx X cX0_readOne RX0 1 D (gty cy) A lv 0 0) (hR : Rt X none D (gty cy) A 0 0 (eV (wX0 cy q res)))  (h : pX0_readOne_126 F1 F2  σ = res) : At X D A 1 0 0 126 [] [] (wX0 cy q σ) := by
  unfold pX0_readOne_126 at h
  refine r_goto (tgt := 133) C (dall tdX0_readOne 61 rfl) (by decide) ?_
  exact wX0_readOne_133 hlv hz1 hl1 hz2 hl2 σ C hR  h
def pX0_readOne_110 (F1 : OS → OS) (F2 : OS → OS)  (σ : OS) : OS := pX0_readOne_126 F1 F2  (fX0_expect (oI σ 9 ((σ.1 9) - 1)) 13)
def oX0_readOne_110 (F1 : OS → OS) (F2 : OS → OS) (G1 : OS → Prop) (G2 : OS → Prop)  (σ : OS) : Prop := gX0_expect (oI σ 9 ((σ.1 9) - 1)) 13
set_option maxHeartbeats 4000000 in
set_option maxRecDepth 100000 in
theorem wX0_readOne_110 {X : CX} {cy : Nat → ClassId} {q : Nat → Nat} {D : va_G} {A : Nat → Prop} {res : OS} {lv lv1 lv2 : Nat} {F1 : OS → OS} {G1 : OS → Prop} {F2 : OS → OS} {G2 : OS → Prop} (hlv : 20 ≤ lv) (hz1 : ∀ σ : OS, G1 σ → Con yX0_readOne cX0_readOne 1 none lv1 0 0 D (gty cy) [.ref (q 11)] (wX0 cy q σ) (eV (wX0 cy q (F1 σ)))) (hl1 : lv1 + 1 ≤ lv) (hz2 : ∀ σ : OS, G2 σ → Con yX0_readEither cX0_readEither 2 none lv2 0 0 D (gty cy) [.ref (q 11)] (wX0 cy q σ) (eV (wX0 cy q (F2 σ)))) (hl2 : lv2 + 1 ≤ lv)  (σ : OS) (C : Cx X cX0_readOne RX0 1 D (gty cy) A lv 0 0) (hR : Rt X none D (gty cy) A 0 0 (eV (wX0 cy q res)))  (ok : oX0_readOne_110 F1 F2 G1 G2  σ) (h : pX0_readOne_110 F1 F2  σ = res) : At X D A 1 0 0 110 [(0, .ref (q 11))] [] (wX0 cy q σ) := by
  unfold pX0_readOne_110 at h
  unfold oX0_readOne_110 at ok
  refine r_aload_n C 0 (dall tdX0_readOne 52 rfl) rfl ?_
  refine r_dup C (dall tdX0_readOne 53 rfl) rfl ?_
  refine r_get C 0 kw_X0 rfl rfl (by decide) kf_X0_31 rfl rfl (dall tdX0_readOne 54 rfl) ?_
  refine r_iconst (v := 1) C (dall tdX0_readOne 55 rfl) (by decide) ?_
  refine r_isub C (dall tdX0_readOne 56 rfl) ?_
  refine r_put C 0 kw_X0 tyX0_ok nmX0 rfl rfl (by decide) kf_X0_31 rfl rfl rfl rfl rfl (Nat.le_of_ble_eq_true rfl) (pu_X0_this_9 cy q σ ((σ.1 9) - 1)) (dall tdX0_readOne 57 rfl) ?_
  refine r_aload_n C 0 (dall tdX0_readOne 58 rfl) rfl ?_
  refine r_bipush (v := 13) C (dall tdX0_readOne 59 rfl) (by decide) ?_
  have o1 := ok
  refine r_vV (as := [.int 13]) C (zX0_expect cy q (oI σ 9 ((σ.1 9) - 1)) 13 o1) mv_X0_expect km_X0_40 (by omega) (by decide) ⟨Nat.le_refl _, Nat.le_refl _⟩ rfl rfl rfl rfl (Nat.le_of_ble_eq_true rfl) (dall tdX0_readOne 60 rfl) ?_
  refine r_pick [] rfl ?_
  exact wX0_readOne_126 hlv hz1 hl1 hz2 hl2 (fX0_expect (oI σ 9 ((σ.1 9) - 1)) 13) C hR  h
def pX0_readOne_103 (F1 : OS → OS) (F2 : OS → OS)  (σ : OS) (b0_ : Int32) : OS := if b0_ = 0 then pX0_readOne_133 F1 F2  σ else pX0_readOne_110 F1 F2  (F2 σ)
def oX0_readOne_103 (F1 : OS → OS) (F2 : OS → OS) (G1 : OS → Prop) (G2 : OS → Prop)  (σ : OS) (b0_ : Int32) : Prop := (b0_ = 0 → True) ∧ (¬ (b0_ = 0) → (G2 σ ) ∧ (oX0_readOne_110 F1 F2 G1 G2  (F2 σ)))
set_option maxHeartbeats 4000000 in
set_option maxRecDepth 100000 in
theorem wX0_readOne_103 {X : CX} {cy : Nat → ClassId} {q : Nat → Nat} {D : va_G} {A : Nat → Prop} {res : OS} {lv lv1 lv2 : Nat} {F1 : OS → OS} {G1 : OS → Prop} {F2 : OS → OS} {G2 : OS → Prop} (hlv : 20 ≤ lv) (hz1 : ∀ σ : OS, G1 σ → Con yX0_readOne cX0_readOne 1 none lv1 0 0 D (gty cy) [.ref (q 11)] (wX0 cy q σ) (eV (wX0 cy q (F1 σ)))) (hl1 : lv1 + 1 ≤ lv) (hz2 : ∀ σ : OS, G2 σ → Con yX0_readEither cX0_readEither 2 none lv2 0 0 D (gty cy) [.ref (q 11)] (wX0 cy q σ) (eV (wX0 cy q (F2 σ)))) (hl2 : lv2 + 1 ≤ lv)  (σ : OS) (b0_ : Int32) (C : Cx X cX0_readOne RX0 1 D (gty cy) A lv 0 0) (hR : Rt X none D (gty cy) A 0 0 (eV (wX0 cy q res)))  (ok : oX0_readOne_103 F1 F2 G1 G2  σ b0_) (h : pX0_readOne_103 F1 F2  σ b0_ = res) : At X D A 1 0 0 103 [(0, .ref (q 11))] [.int b0_] (wX0 cy q σ) := by
  unfold pX0_readOne_103 at h
  unfold oX0_readOne_103 at ok
  refine r_if_eq (tgt := 133) C (dall tdX0_readOne 49 rfl) (by decide) (fun c2 => ?_) (fun c2 => ?_)
  · have h := (if_pos c2).symm.trans h
    have ok := ok.1 c2
    refine r_pick [] rfl ?_
    exact wX0_readOne_133 hlv hz1 hl1 hz2 hl2 σ C hR  h
  · have h := (if_neg c2).symm.trans h
    have ok := ok.2 c2
    refine r_aload_n C 0 (dall tdX0_readOne 50 rfl) rfl ?_
    obtain ⟨o3, ok⟩ := ok
    refine r_vV (as := []) C (hz2  σ  o3) mv_X0_readEither km_X0_44 hl2 (by decide) ⟨Nat.le_refl _, Nat.le_refl _⟩ rfl rfl rfl rfl (Nat.le_of_ble_eq_true rfl) (dall tdX0_readOne 51 rfl) ?_
    exact wX0_readOne_110 hlv hz1 hl1 hz2 hl2 (F2 σ) C hR  ok h
def pX0_readOne_87 (F1 : OS → OS) (F2 : OS → OS)  (σ : OS) : OS := pX0_readOne_133 F1 F2  σ
set_option maxHeartbeats 4000000 in
set_option maxRecDepth 100000 in
theorem wX0_readOne_87 {X : CX} {cy : Nat → ClassId} {q : Nat → Nat} {D : va_G} {A : Nat → Prop} {res : OS} {lv lv1 lv2 : Nat} {F1 : OS → OS} {G1 : OS → Prop} {F2 : OS → OS} {G2 : OS → Prop} (hlv : 20 ≤ lv) (hz1 : ∀ σ : OS, G1 σ → Con yX0_readOne cX0_readOne 1 none lv1 0 0 D (gty cy) [.ref (q 11)] (wX0 cy q σ) (eV (wX0 cy q (F1 σ)))) (hl1 : lv1 + 1 ≤ lv) (hz2 : ∀ σ : OS, G2 σ → Con yX0_readEither cX0_readEither 2 none lv2 0 0 D (gty cy) [.ref (q 11)] (wX0 cy q σ) (eV (wX0 cy q (F2 σ)))) (hl2 : lv2 + 1 ≤ lv)  (σ : OS) (C : Cx X cX0_readOne RX0 1 D (gty cy) A lv 0 0) (hR : Rt X none D (gty cy) A 0 0 (eV (wX0 cy q res)))  (h : pX0_readOne_87 F1 F2  σ = res) : At X D A 1 0 0 87 [] [] (wX0 cy q σ) := by
  unfold pX0_readOne_87 at h
  refine r_goto (tgt := 133) C (dall tdX0_readOne 42 rfl) (by decide) ?_
  exact wX0_readOne_133 hlv hz1 hl1 hz2 hl2 σ C hR  h
def pX0_readOne_71 (F1 : OS → OS) (F2 : OS → OS)  (σ : OS) : OS := pX0_readOne_87 F1 F2  (fX0_write (oI σ 9 ((σ.1 9) - 1)) (-24))
def oX0_readOne_71 (F1 : OS → OS) (F2 : OS → OS) (G1 : OS → Prop) (G2 : OS → Prop)  (σ : OS) : Prop := gX0_write (oI σ 9 ((σ.1 9) - 1)) (-24)
set_option maxHeartbeats 4000000 in
set_option maxRecDepth 100000 in
theorem wX0_readOne_71 {X : CX} {cy : Nat → ClassId} {q : Nat → Nat} {D : va_G} {A : Nat → Prop} {res : OS} {lv lv1 lv2 : Nat} {F1 : OS → OS} {G1 : OS → Prop} {F2 : OS → OS} {G2 : OS → Prop} (hlv : 20 ≤ lv) (hz1 : ∀ σ : OS, G1 σ → Con yX0_readOne cX0_readOne 1 none lv1 0 0 D (gty cy) [.ref (q 11)] (wX0 cy q σ) (eV (wX0 cy q (F1 σ)))) (hl1 : lv1 + 1 ≤ lv) (hz2 : ∀ σ : OS, G2 σ → Con yX0_readEither cX0_readEither 2 none lv2 0 0 D (gty cy) [.ref (q 11)] (wX0 cy q σ) (eV (wX0 cy q (F2 σ)))) (hl2 : lv2 + 1 ≤ lv)  (σ : OS) (C : Cx X cX0_readOne RX0 1 D (gty cy) A lv 0 0) (hR : Rt X none D (gty cy) A 0 0 (eV (wX0 cy q res)))  (ok : oX0_readOne_71 F1 F2 G1 G2  σ) (h : pX0_readOne_71 F1 F2  σ = res) : At X D A 1 0 0 71 [(0, .ref (q 11))] [] (wX0 cy q σ) := by
  unfold pX0_readOne_71 at h
  unfold oX0_readOne_71 at ok
  refine r_aload_n C 0 (dall tdX0_readOne 33 rfl) rfl ?_
  refine r_dup C (dall tdX0_readOne 34 rfl) rfl ?_
  refine r_get C 0 kw_X0 rfl rfl (by decide) kf_X0_31 rfl rfl (dall tdX0_readOne 35 rfl) ?_
  refine r_iconst (v := 1) C (dall tdX0_readOne 36 rfl) (by decide) ?_
  refine r_isub C (dall tdX0_readOne 37 rfl) ?_
  refine r_put C 0 kw_X0 tyX0_ok nmX0 rfl rfl (by decide) kf_X0_31 rfl rfl rfl rfl rfl (Nat.le_of_ble_eq_true rfl) (pu_X0_this_9 cy q σ ((σ.1 9) - 1)) (dall tdX0_readOne 38 rfl) ?_
  refine r_aload_n C 0 (dall tdX0_readOne 39 rfl) rfl ?_
  refine r_bipush (v := -24) C (dall tdX0_readOne 40 rfl) (by decide) ?_
  have o4 := ok
  refine r_vV (as := [.int (-24)]) C (zX0_write cy q (oI σ 9 ((σ.1 9) - 1)) (-24) o4) mv_X0_write km_X0_64 (by omega) (by decide) ⟨Nat.le_refl _, Nat.le_refl _⟩ rfl rfl rfl rfl (Nat.le_of_ble_eq_true rfl) (dall tdX0_readOne 41 rfl) ?_
  refine r_pick [] rfl ?_
  exact wX0_readOne_87 hlv hz1 hl1 hz2 hl2 (fX0_write (oI σ 9 ((σ.1 9) - 1)) (-24)) C hR  h
def pX0_readOne_64 (F1 : OS → OS) (F2 : OS → OS)  (σ : OS) (b0_ : Int32) : OS := if b0_ = 0 then pX0_readOne_133 F1 F2  σ else pX0_readOne_71 F1 F2  (F1 σ)
def oX0_readOne_64 (F1 : OS → OS) (F2 : OS → OS) (G1 : OS → Prop) (G2 : OS → Prop)  (σ : OS) (b0_ : Int32) : Prop := (b0_ = 0 → True) ∧ (¬ (b0_ = 0) → (G1 σ ) ∧ (oX0_readOne_71 F1 F2 G1 G2  (F1 σ)))
set_option maxHeartbeats 4000000 in
set_option maxRecDepth 100000 in
theorem wX0_readOne_64 {X : CX} {cy : Nat → ClassId} {q : Nat → Nat} {D : va_G} {A : Nat → Prop} {res : OS} {lv lv1 lv2 : Nat} {F1 : OS → OS} {G1 : OS → Prop} {F2 : OS → OS} {G2 : OS → Prop} (hlv : 20 ≤ lv) (hz1 : ∀ σ : OS, G1 σ → Con yX0_readOne cX0_readOne 1 none lv1 0 0 D (gty cy) [.ref (q 11)] (wX0 cy q σ) (eV (wX0 cy q (F1 σ)))) (hl1 : lv1 + 1 ≤ lv) (hz2 : ∀ σ : OS, G2 σ → Con yX0_readEither cX0_readEither 2 none lv2 0 0 D (gty cy) [.ref (q 11)] (wX0 cy q σ) (eV (wX0 cy q (F2 σ)))) (hl2 : lv2 + 1 ≤ lv)  (σ : OS) (b0_ : Int32) (C : Cx X cX0_readOne RX0 1 D (gty cy) A lv 0 0) (hR : Rt X none D (gty cy) A 0 0 (eV (wX0 cy q res)))  (ok : oX0_readOne_64 F1 F2 G1 G2  σ b0_) (h : pX0_readOne_64 F1 F2  σ b0_ = res) : At X D A 1 0 0 64 [(0, .ref (q 11))] [.int b0_] (wX0 cy q σ) := by
  unfold pX0_readOne_64 at h
  unfold oX0_readOne_64 at ok
  refine r_if_eq (tgt := 133) C (dall tdX0_readOne 30 rfl) (by decide) (fun c5 => ?_) (fun c5 => ?_)
  · have h := (if_pos c5).symm.trans h
    have ok := ok.1 c5
    refine r_pick [] rfl ?_
    exact wX0_readOne_133 hlv hz1 hl1 hz2 hl2 σ C hR  h
  · have h := (if_neg c5).symm.trans h
    have ok := ok.2 c5
    refine r_aload_n C 0 (dall tdX0_readOne 31 rfl) rfl ?_
    obtain ⟨o6, ok⟩ := ok
    refine r_vV (as := []) C (hz1  σ  o6) mv_X0_readOne km_X0_80 hl1 (by decide) ⟨Nat.le_refl _, Nat.le_refl _⟩ rfl rfl rfl rfl (Nat.le_of_ble_eq_true rfl) (dall tdX0_readOne 32 rfl) ?_
    exact wX0_readOne_71 hlv hz1 hl1 hz2 hl2 (F1 σ) C hR  ok h
def pX0_readOne_48 (F1 : OS → OS) (F2 : OS → OS)  (σ : OS) : OS := pX0_readOne_133 F1 F2  σ
set_option maxHeartbeats 4000000 in
set_option maxRecDepth 100000 in
theorem wX0_readOne_48 {X : CX} {cy : Nat → ClassId} {q : Nat → Nat} {D : va_G} {A : Nat → Prop} {res : OS} {lv lv1 lv2 : Nat} {F1 : OS → OS} {G1 : OS → Prop} {F2 : OS → OS} {G2 : OS → Prop} (hlv : 20 ≤ lv) (hz1 : ∀ σ : OS, G1 σ → Con yX0_readOne cX0_readOne 1 none lv1 0 0 D (gty cy) [.ref (q 11)] (wX0 cy q σ) (eV (wX0 cy q (F1 σ)))) (hl1 : lv1 + 1 ≤ lv) (hz2 : ∀ σ : OS, G2 σ → Con yX0_readEither cX0_readEither 2 none lv2 0 0 D (gty cy) [.ref (q 11)] (wX0 cy q σ) (eV (wX0 cy q (F2 σ)))) (hl2 : lv2 + 1 ≤ lv)  (σ : OS) (C : Cx X cX0_readOne RX0 1 D (gty cy) A lv 0 0) (hR : Rt X none D (gty cy) A 0 0 (eV (wX0 cy q res)))  (h : pX0_readOne_48 F1 F2  σ = res) : At X D A 1 0 0 48 [] [] (wX0 cy q σ) := by
  unfold pX0_readOne_48 at h
  refine r_goto (tgt := 133) C (dall tdX0_readOne 23 rfl) (by decide) ?_
  exact wX0_readOne_133 hlv hz1 hl1 hz2 hl2 σ C hR  h
def pX0_readOne_44 (F1 : OS → OS) (F2 : OS → OS)  (σ : OS) : OS := pX0_readOne_48 F1 F2  (fX0_step σ)
def oX0_readOne_44 (F1 : OS → OS) (F2 : OS → OS) (G1 : OS → Prop) (G2 : OS → Prop)  (σ : OS) : Prop := gX0_step σ 
set_option maxHeartbeats 4000000 in
set_option maxRecDepth 100000 in
theorem wX0_readOne_44 {X : CX} {cy : Nat → ClassId} {q : Nat → Nat} {D : va_G} {A : Nat → Prop} {res : OS} {lv lv1 lv2 : Nat} {F1 : OS → OS} {G1 : OS → Prop} {F2 : OS → OS} {G2 : OS → Prop} (hlv : 20 ≤ lv) (hz1 : ∀ σ : OS, G1 σ → Con yX0_readOne cX0_readOne 1 none lv1 0 0 D (gty cy) [.ref (q 11)] (wX0 cy q σ) (eV (wX0 cy q (F1 σ)))) (hl1 : lv1 + 1 ≤ lv) (hz2 : ∀ σ : OS, G2 σ → Con yX0_readEither cX0_readEither 2 none lv2 0 0 D (gty cy) [.ref (q 11)] (wX0 cy q σ) (eV (wX0 cy q (F2 σ)))) (hl2 : lv2 + 1 ≤ lv)  (σ : OS) (C : Cx X cX0_readOne RX0 1 D (gty cy) A lv 0 0) (hR : Rt X none D (gty cy) A 0 0 (eV (wX0 cy q res)))  (ok : oX0_readOne_44 F1 F2 G1 G2  σ) (h : pX0_readOne_44 F1 F2  σ = res) : At X D A 1 0 0 44 [(0, .ref (q 11))] [] (wX0 cy q σ) := by
  unfold pX0_readOne_44 at h
  unfold oX0_readOne_44 at ok
  refine r_aload_n C 0 (dall tdX0_readOne 21 rfl) rfl ?_
  have o7 := ok
  refine r_vV (as := []) C (zX0_step cy q σ  o7) mv_X0_step km_X0_37 (by omega) (by decide) ⟨Nat.le_refl _, Nat.le_refl _⟩ rfl rfl rfl rfl (Nat.le_of_ble_eq_true rfl) (dall tdX0_readOne 22 rfl) ?_
  refine r_pick [] rfl ?_
  exact wX0_readOne_48 hlv hz1 hl1 hz2 hl2 (fX0_step σ) C hR  h
def pX0_readOne_21 (F1 : OS → OS) (F2 : OS → OS)  (σ : OS) : OS := pX0_readOne_133 F1 F2  σ
set_option maxHeartbeats 4000000 in
set_option maxRecDepth 100000 in
theorem wX0_readOne_21 {X : CX} {cy : Nat → ClassId} {q : Nat → Nat} {D : va_G} {A : Nat → Prop} {res : OS} {lv lv1 lv2 : Nat} {F1 : OS → OS} {G1 : OS → Prop} {F2 : OS → OS} {G2 : OS → Prop} (hlv : 20 ≤ lv) (hz1 : ∀ σ : OS, G1 σ → Con yX0_readOne cX0_readOne 1 none lv1 0 0 D (gty cy) [.ref (q 11)] (wX0 cy q σ) (eV (wX0 cy q (F1 σ)))) (hl1 : lv1 + 1 ≤ lv) (hz2 : ∀ σ : OS, G2 σ → Con yX0_readEither cX0_readEither 2 none lv2 0 0 D (gty cy) [.ref (q 11)] (wX0 cy q σ) (eV (wX0 cy q (F2 σ)))) (hl2 : lv2 + 1 ≤ lv)  (σ : OS) (C : Cx X cX0_readOne RX0 1 D (gty cy) A lv 0 0) (hR : Rt X none D (gty cy) A 0 0 (eV (wX0 cy q res)))  (h : pX0_readOne_21 F1 F2  σ = res) : At X D A 1 0 0 21 [] [] (wX0 cy q σ) := by
  unfold pX0_readOne_21 at h
  refine r_goto (tgt := 133) C (dall tdX0_readOne 10 rfl) (by decide) ?_
  exact wX0_readOne_133 hlv hz1 hl1 hz2 hl2 σ C hR  h
def pX0_readOne_17 (F1 : OS → OS) (F2 : OS → OS)  (σ : OS) : OS := pX0_readOne_21 F1 F2  (fX0_step σ)
def oX0_readOne_17 (F1 : OS → OS) (F2 : OS → OS) (G1 : OS → Prop) (G2 : OS → Prop)  (σ : OS) : Prop := gX0_step σ 
set_option maxHeartbeats 4000000 in
set_option maxRecDepth 100000 in
theorem wX0_readOne_17 {X : CX} {cy : Nat → ClassId} {q : Nat → Nat} {D : va_G} {A : Nat → Prop} {res : OS} {lv lv1 lv2 : Nat} {F1 : OS → OS} {G1 : OS → Prop} {F2 : OS → OS} {G2 : OS → Prop} (hlv : 20 ≤ lv) (hz1 : ∀ σ : OS, G1 σ → Con yX0_readOne cX0_readOne 1 none lv1 0 0 D (gty cy) [.ref (q 11)] (wX0 cy q σ) (eV (wX0 cy q (F1 σ)))) (hl1 : lv1 + 1 ≤ lv) (hz2 : ∀ σ : OS, G2 σ → Con yX0_readEither cX0_readEither 2 none lv2 0 0 D (gty cy) [.ref (q 11)] (wX0 cy q σ) (eV (wX0 cy q (F2 σ)))) (hl2 : lv2 + 1 ≤ lv)  (σ : OS) (C : Cx X cX0_readOne RX0 1 D (gty cy) A lv 0 0) (hR : Rt X none D (gty cy) A 0 0 (eV (wX0 cy q res)))  (ok : oX0_readOne_17 F1 F2 G1 G2  σ) (h : pX0_readOne_17 F1 F2  σ = res) : At X D A 1 0 0 17 [(0, .ref (q 11))] [] (wX0 cy q σ) := by
  unfold pX0_readOne_17 at h
  unfold oX0_readOne_17 at ok
  refine r_aload_n C 0 (dall tdX0_readOne 8 rfl) rfl ?_
  have o8 := ok
  refine r_vV (as := []) C (zX0_step cy q σ  o8) mv_X0_step km_X0_37 (by omega) (by decide) ⟨Nat.le_refl _, Nat.le_refl _⟩ rfl rfl rfl rfl (Nat.le_of_ble_eq_true rfl) (dall tdX0_readOne 9 rfl) ?_
  refine r_pick [] rfl ?_
  exact wX0_readOne_21 hlv hz1 hl1 hz2 hl2 (fX0_step σ) C hR  h
def pX0_readOne_0 (F1 : OS → OS) (F2 : OS → OS)  (σ : OS) : OS := if (σ.1 6) = 20 then pX0_readOne_17 F1 F2  (fX0_write σ (σ.1 8)) else if (fX0_isName (σ.1 6)) = 0 then if (σ.1 6) = 16 then pX0_readOne_64 F1 F2  ((fX0_opens σ ).2) ((fX0_opens σ ).1) else if (σ.1 6) = 12 then pX0_readOne_103 F1 F2  ((fX0_opens σ ).2) ((fX0_opens σ ).1) else pX0_readOne_133 F1 F2  (fX0_refuse σ) else pX0_readOne_44 F1 F2  (fX0_write σ ((σ.1 6) ^^^ (-1)))
def oX0_readOne_0 (F1 : OS → OS) (F2 : OS → OS) (G1 : OS → Prop) (G2 : OS → Prop)  (σ : OS) : Prop := ((σ.1 6) = 20 → (gX0_write σ (σ.1 8)) ∧ (oX0_readOne_17 F1 F2 G1 G2  (fX0_write σ (σ.1 8)))) ∧ (¬ ((σ.1 6) = 20) → ((fX0_isName (σ.1 6)) = 0 → ((σ.1 6) = 16 → (gX0_opens σ ) ∧ (oX0_readOne_64 F1 F2 G1 G2  ((fX0_opens σ ).2) ((fX0_opens σ ).1))) ∧ (¬ ((σ.1 6) = 16) → ((σ.1 6) = 12 → (gX0_opens σ ) ∧ (oX0_readOne_103 F1 F2 G1 G2  ((fX0_opens σ ).2) ((fX0_opens σ ).1))) ∧ (¬ ((σ.1 6) = 12) → True))) ∧ (¬ ((fX0_isName (σ.1 6)) = 0) → (gX0_write σ ((σ.1 6) ^^^ (-1))) ∧ (oX0_readOne_44 F1 F2 G1 G2  (fX0_write σ ((σ.1 6) ^^^ (-1))))))
set_option maxHeartbeats 4000000 in
set_option maxRecDepth 100000 in
theorem wX0_readOne_0 {X : CX} {cy : Nat → ClassId} {q : Nat → Nat} {D : va_G} {A : Nat → Prop} {res : OS} {lv lv1 lv2 : Nat} {F1 : OS → OS} {G1 : OS → Prop} {F2 : OS → OS} {G2 : OS → Prop} (hlv : 20 ≤ lv) (hz1 : ∀ σ : OS, G1 σ → Con yX0_readOne cX0_readOne 1 none lv1 0 0 D (gty cy) [.ref (q 11)] (wX0 cy q σ) (eV (wX0 cy q (F1 σ)))) (hl1 : lv1 + 1 ≤ lv) (hz2 : ∀ σ : OS, G2 σ → Con yX0_readEither cX0_readEither 2 none lv2 0 0 D (gty cy) [.ref (q 11)] (wX0 cy q σ) (eV (wX0 cy q (F2 σ)))) (hl2 : lv2 + 1 ≤ lv)  (σ : OS) (C : Cx X cX0_readOne RX0 1 D (gty cy) A lv 0 0) (hR : Rt X none D (gty cy) A 0 0 (eV (wX0 cy q res)))  (ok : oX0_readOne_0 F1 F2 G1 G2  σ) (h : pX0_readOne_0 F1 F2  σ = res) : At X D A 1 0 0 0 [(0, .ref (q 11))] [] (wX0 cy q σ) := by
  unfold pX0_readOne_0 at h
  unfold oX0_readOne_0 at ok
  refine r_aload_n C 0 (dall tdX0_readOne 0 rfl) rfl ?_
  refine r_get C 0 kw_X0 rfl rfl (by decide) kf_X0_61 rfl rfl (dall tdX0_readOne 1 rfl) ?_
  refine r_bipush (v := 20) C (dall tdX0_readOne 2 rfl) (by decide) ?_
  refine r_icmp_ne (tgt := 24) C (dall tdX0_readOne 3 rfl) (by decide) (fun c9 => ?_) (fun c9 => ?_)
  · have h := (if_neg c9).symm.trans h
    have ok := ok.2 c9
    refine r_aload_n C 0 (dall tdX0_readOne 11 rfl) rfl ?_
    refine r_get C 0 kw_X0 rfl rfl (by decide) kf_X0_61 rfl rfl (dall tdX0_readOne 12 rfl) ?_
    refine r_s0I (as := [.int (σ.1 6)]) C (zX0_isName (σ.1 6) ) ms_X0_isName km_X0_86 (by omega) (by decide) ⟨Nat.le_refl _, Nat.le_refl _⟩ rfl rfl (Nat.le_of_ble_eq_true rfl) (dall tdX0_readOne 13 rfl) ?_
    refine r_if_eq (tgt := 51) C (dall tdX0_readOne 14 rfl) (by decide) (fun c10 => ?_) (fun c10 => ?_)
    · have h := (if_pos c10).symm.trans h
      have ok := ok.1 c10
      refine r_aload_n C 0 (dall tdX0_readOne 24 rfl) rfl ?_
      refine r_get C 0 kw_X0 rfl rfl (by decide) kf_X0_61 rfl rfl (dall tdX0_readOne 25 rfl) ?_
      refine r_bipush (v := 16) C (dall tdX0_readOne 26 rfl) (by decide) ?_
      refine r_icmp_ne (tgt := 90) C (dall tdX0_readOne 27 rfl) (by decide) (fun c11 => ?_) (fun c11 => ?_)
      · have h := (if_neg c11).symm.trans h
        have ok := ok.2 c11
        refine r_aload_n C 0 (dall tdX0_readOne 43 rfl) rfl ?_
        refine r_get C 0 kw_X0 rfl rfl (by decide) kf_X0_61 rfl rfl (dall tdX0_readOne 44 rfl) ?_
        refine r_bipush (v := 12) C (dall tdX0_readOne 45 rfl) (by decide) ?_
        refine r_icmp_ne (tgt := 129) C (dall tdX0_readOne 46 rfl) (by decide) (fun c12 => ?_) (fun c12 => ?_)
        · have h := (if_neg c12).symm.trans h
          have ok := ok.2 c12
          refine r_aload_n C 0 (dall tdX0_readOne 62 rfl) rfl ?_
          refine r_vV (as := []) C (zX0_refuse cy q σ  ) mv_X0_refuse km_X0_90 (by omega) (by decide) ⟨Nat.le_refl _, Nat.le_refl _⟩ rfl rfl rfl rfl (Nat.le_of_ble_eq_true rfl) (dall tdX0_readOne 63 rfl) ?_
          refine r_pick [] rfl ?_
          exact wX0_readOne_133 hlv hz1 hl1 hz2 hl2 (fX0_refuse σ) C hR  h
        · have h := (if_pos c12).symm.trans h
          have ok := ok.1 c12
          refine r_aload_n C 0 (dall tdX0_readOne 47 rfl) rfl ?_
          obtain ⟨o13, ok⟩ := ok
          refine r_vI (as := []) C (zX0_opens cy q σ  o13) mv_X0_opens km_X0_70 (by omega) (by decide) ⟨Nat.le_refl _, Nat.le_refl _⟩ rfl rfl rfl rfl (Nat.le_of_ble_eq_true rfl) (dall tdX0_readOne 48 rfl) ?_
          exact wX0_readOne_103 hlv hz1 hl1 hz2 hl2 ((fX0_opens σ ).2) ((fX0_opens σ ).1) C hR  ok h
      · have h := (if_pos c11).symm.trans h
        have ok := ok.1 c11
        refine r_aload_n C 0 (dall tdX0_readOne 28 rfl) rfl ?_
        obtain ⟨o14, ok⟩ := ok
        refine r_vI (as := []) C (zX0_opens cy q σ  o14) mv_X0_opens km_X0_70 (by omega) (by decide) ⟨Nat.le_refl _, Nat.le_refl _⟩ rfl rfl rfl rfl (Nat.le_of_ble_eq_true rfl) (dall tdX0_readOne 29 rfl) ?_
        exact wX0_readOne_64 hlv hz1 hl1 hz2 hl2 ((fX0_opens σ ).2) ((fX0_opens σ ).1) C hR  ok h
    · have h := (if_neg c10).symm.trans h
      have ok := ok.2 c10
      refine r_aload_n C 0 (dall tdX0_readOne 15 rfl) rfl ?_
      refine r_aload_n C 0 (dall tdX0_readOne 16 rfl) rfl ?_
      refine r_get C 0 kw_X0 rfl rfl (by decide) kf_X0_61 rfl rfl (dall tdX0_readOne 17 rfl) ?_
      refine r_iconst (v := -1) C (dall tdX0_readOne 18 rfl) (by decide) ?_
      refine r_ixor C (dall tdX0_readOne 19 rfl) ?_
      obtain ⟨o15, ok⟩ := ok
      refine r_vV (as := [.int ((σ.1 6) ^^^ (-1))]) C (zX0_write cy q σ ((σ.1 6) ^^^ (-1)) o15) mv_X0_write km_X0_64 (by omega) (by decide) ⟨Nat.le_refl _, Nat.le_refl _⟩ rfl rfl rfl rfl (Nat.le_of_ble_eq_true rfl) (dall tdX0_readOne 20 rfl) ?_
      exact wX0_readOne_44 hlv hz1 hl1 hz2 hl2 (fX0_write σ ((σ.1 6) ^^^ (-1))) C hR  ok h
  · have h := (if_pos c9).symm.trans h
    have ok := ok.1 c9
    refine r_aload_n C 0 (dall tdX0_readOne 4 rfl) rfl ?_
    refine r_aload_n C 0 (dall tdX0_readOne 5 rfl) rfl ?_
    refine r_get C 0 kw_X0 rfl rfl (by decide) kf_X0_83 rfl rfl (dall tdX0_readOne 6 rfl) ?_
    obtain ⟨o16, ok⟩ := ok
    refine r_vV (as := [.int (σ.1 8)]) C (zX0_write cy q σ (σ.1 8) o16) mv_X0_write km_X0_64 (by omega) (by decide) ⟨Nat.le_refl _, Nat.le_refl _⟩ rfl rfl rfl rfl (Nat.le_of_ble_eq_true rfl) (dall tdX0_readOne 7 rfl) ?_
    exact wX0_readOne_17 hlv hz1 hl1 hz2 hl2 (fX0_write σ (σ.1 8)) C hR  ok h
def fX0_readOne (F1 : OS → OS) (F2 : OS → OS) (σ : OS) : OS := pX0_readOne_0 F1 F2  σ
def gX0_readOne (F1 : OS → OS) (F2 : OS → OS) (G1 : OS → Prop) (G2 : OS → Prop) (σ : OS) : Prop := oX0_readOne_0 F1 F2 G1 G2  σ
set_option maxRecDepth 100000 in
theorem zX0_readOne (cy : Nat → ClassId) (q : Nat → Nat)  {lv lv1 lv2 : Nat} {F1 : OS → OS} {G1 : OS → Prop} {F2 : OS → OS} {G2 : OS → Prop}  {D : va_G} (hlv : 20 ≤ lv) (hz1 : ∀ σ : OS, G1 σ → Con yX0_readOne cX0_readOne 1 none lv1 0 0 D (gty cy) [.ref (q 11)] (wX0 cy q σ) (eV (wX0 cy q (F1 σ)))) (hl1 : lv1 + 1 ≤ lv) (hz2 : ∀ σ : OS, G2 σ → Con yX0_readEither cX0_readEither 2 none lv2 0 0 D (gty cy) [.ref (q 11)] (wX0 cy q σ) (eV (wX0 cy q (F2 σ)))) (hl2 : lv2 + 1 ≤ lv) (σ : OS) (ok : gX0_readOne F1 F2 G1 G2 σ )  : Con yX0_readOne cX0_readOne 1 none lv 0 0 D (gty cy) [.ref (q 11)] (wX0 cy q σ) (eV (wX0 cy q (fX0_readOne F1 F2 σ ))) :=
  Con.of (own := RX0) (by decide +kernel) rfl (Nat.le_of_ble_eq_true rfl) (Nat.zero_le _) (fun X A C hR _ => (wX0_readOne_0 hlv hz1 hl1 hz2 hl2 σ C hR  ok rfl))
def tbX0_readTerm : List (Nat × Instr × Nat) := [(0, .aload_n 0, 1), (1, .invokevirtual 80, 3), (4, .iconst 0, 1), (5, .istore_n 1, 1), (6, .iload_n 1, 1), (7, .sipush 160, 3), (10, .if_icmp .ge 32, 3), (13, .aload_n 0, 1), (14, .getfield 61, 3), (17, .bipush 17, 2), (19, .if_icmp .ne 23, 3), (22, .aload_n 0, 1), (23, .invokevirtual 37, 3), (26, .aload_n 0, 1), (27, .invokevirtual 80, 3), (30, .aload_n 0, 1), (31, .bipush (-18), 2), (33, .invokevirtual 64, 3), (36, .iinc 1 1, 3), (39, .goto (-33), 3), (42, .return_, 1)]
theorem tdX0_readTerm : tbX0_readTerm.all (fun q => decide (decode cX0_readTerm q.1 = .ok q.2)) = true := by decide +kernel
def pX0_readTerm_36 (F1 : OS → OS) (kR6 : OS × Int32 → OS) (σ : OS) (a1_ : Int32) : OS := kR6 (σ, a1_ + 1)
def oX0_readTerm_36 (F1 : OS → OS) (G1 : OS → Prop) (kO6 : OS × Int32 → Prop) (σ : OS) (a1_ : Int32) : Prop := kO6 (σ, a1_ + 1)
set_option maxHeartbeats 4000000 in
set_option maxRecDepth 100000 in
theorem wX0_readTerm_36 {X : CX} {cy : Nat → ClassId} {q : Nat → Nat} {D : va_G} {A : Nat → Prop} {res : OS} {lv lv1 : Nat} {F1 : OS → OS} {G1 : OS → Prop} (hlv : 20 ≤ lv) (hz1 : ∀ σ : OS, G1 σ → Con yX0_readOne cX0_readOne 1 none lv1 0 0 D (gty cy) [.ref (q 11)] (wX0 cy q σ) (eV (wX0 cy q (F1 σ)))) (hl1 : lv1 + 1 ≤ lv)  (σ : OS) (a1_ : Int32) (C : Cx X cX0_readTerm RX0 2 D (gty cy) A lv 0 0) (hR : Rt X none D (gty cy) A 0 0 (eV (wX0 cy q res))) (kR6 : OS × Int32 → OS) (kO6 : OS × Int32 → Prop) (hk6 : ∀ z, kO6 z → kR6 z = res → At X D A 2 0 0 6 [(0, .ref (q 11)), (1, .int z.2)] [] (wX0 cy q z.1)) (ok : oX0_readTerm_36 F1 G1 kO6 σ a1_) (h : pX0_readTerm_36 F1 kR6 σ a1_ = res) : At X D A 2 0 0 36 [(0, .ref (q 11)), (1, .int a1_)] [] (wX0 cy q σ) := by
  unfold pX0_readTerm_36 at h
  unfold oX0_readTerm_36 at ok
  refine r_iinc (v := a1_ + 1) (lv' := [(1, .int (a1_ + 1)), (0, .ref (q 11))]) C 1 (dall tdX0_readTerm 18 rfl) rfl rfl (by decide) rfl ?_
  refine r_goto (tgt := 6) C (dall tdX0_readTerm 19 rfl) (by decide) ?_
  refine r_pick [1, 0] rfl ?_
  exact hk6 (σ, a1_ + 1) ok h
def pX0_readTerm_30 (F1 : OS → OS) (kR6 : OS × Int32 → OS) (σ : OS) (a1_ : Int32) : OS := pX0_readTerm_36 F1 kR6 (fX0_write σ (-18)) a1_
def oX0_readTerm_30 (F1 : OS → OS) (G1 : OS → Prop) (kO6 : OS × Int32 → Prop) (σ : OS) (a1_ : Int32) : Prop := (gX0_write σ (-18)) ∧ (oX0_readTerm_36 F1 G1 kO6 (fX0_write σ (-18)) a1_)
set_option maxHeartbeats 4000000 in
set_option maxRecDepth 100000 in
theorem wX0_readTerm_30 {X : CX} {cy : Nat → ClassId} {q : Nat → Nat} {D : va_G} {A : Nat → Prop} {res : OS} {lv lv1 : Nat} {F1 : OS → OS} {G1 : OS → Prop} (hlv : 20 ≤ lv) (hz1 : ∀ σ : OS, G1 σ → Con yX0_readOne cX0_readOne 1 none lv1 0 0 D (gty cy) [.ref (q 11)] (wX0 cy q σ) (eV (wX0 cy q (F1 σ)))) (hl1 : lv1 + 1 ≤ lv)  (σ : OS) (a1_ : Int32) (C : Cx X cX0_readTerm RX0 2 D (gty cy) A lv 0 0) (hR : Rt X none D (gty cy) A 0 0 (eV (wX0 cy q res))) (kR6 : OS × Int32 → OS) (kO6 : OS × Int32 → Prop) (hk6 : ∀ z, kO6 z → kR6 z = res → At X D A 2 0 0 6 [(0, .ref (q 11)), (1, .int z.2)] [] (wX0 cy q z.1)) (ok : oX0_readTerm_30 F1 G1 kO6 σ a1_) (h : pX0_readTerm_30 F1 kR6 σ a1_ = res) : At X D A 2 0 0 30 [(0, .ref (q 11)), (1, .int a1_)] [] (wX0 cy q σ) := by
  unfold pX0_readTerm_30 at h
  unfold oX0_readTerm_30 at ok
  refine r_aload_n C 0 (dall tdX0_readTerm 15 rfl) rfl ?_
  refine r_bipush (v := -18) C (dall tdX0_readTerm 16 rfl) (by decide) ?_
  obtain ⟨o1, ok⟩ := ok
  refine r_vV (as := [.int (-18)]) C (zX0_write cy q σ (-18) o1) mv_X0_write km_X0_64 (by omega) (by decide) ⟨Nat.le_refl _, Nat.le_refl _⟩ rfl rfl rfl rfl (Nat.le_of_ble_eq_true rfl) (dall tdX0_readTerm 17 rfl) ?_
  exact wX0_readTerm_36 hlv hz1 hl1 (fX0_write σ (-18)) a1_ C hR kR6 kO6 hk6 ok h
def pX0_readTerm_26 (F1 : OS → OS) (kR6 : OS × Int32 → OS) (σ : OS) (a1_ : Int32) : OS := pX0_readTerm_30 F1 kR6 (F1 σ) a1_
def oX0_readTerm_26 (F1 : OS → OS) (G1 : OS → Prop) (kO6 : OS × Int32 → Prop) (σ : OS) (a1_ : Int32) : Prop := (G1 σ ) ∧ (oX0_readTerm_30 F1 G1 kO6 (F1 σ) a1_)
set_option maxHeartbeats 4000000 in
set_option maxRecDepth 100000 in
theorem wX0_readTerm_26 {X : CX} {cy : Nat → ClassId} {q : Nat → Nat} {D : va_G} {A : Nat → Prop} {res : OS} {lv lv1 : Nat} {F1 : OS → OS} {G1 : OS → Prop} (hlv : 20 ≤ lv) (hz1 : ∀ σ : OS, G1 σ → Con yX0_readOne cX0_readOne 1 none lv1 0 0 D (gty cy) [.ref (q 11)] (wX0 cy q σ) (eV (wX0 cy q (F1 σ)))) (hl1 : lv1 + 1 ≤ lv)  (σ : OS) (a1_ : Int32) (C : Cx X cX0_readTerm RX0 2 D (gty cy) A lv 0 0) (hR : Rt X none D (gty cy) A 0 0 (eV (wX0 cy q res))) (kR6 : OS × Int32 → OS) (kO6 : OS × Int32 → Prop) (hk6 : ∀ z, kO6 z → kR6 z = res → At X D A 2 0 0 6 [(0, .ref (q 11)), (1, .int z.2)] [] (wX0 cy q z.1)) (ok : oX0_readTerm_26 F1 G1 kO6 σ a1_) (h : pX0_readTerm_26 F1 kR6 σ a1_ = res) : At X D A 2 0 0 26 [(0, .ref (q 11)), (1, .int a1_)] [] (wX0 cy q σ) := by
  unfold pX0_readTerm_26 at h
  unfold oX0_readTerm_26 at ok
  refine r_aload_n C 0 (dall tdX0_readTerm 13 rfl) rfl ?_
  obtain ⟨o2, ok⟩ := ok
  refine r_vV (as := []) C (hz1  σ  o2) mv_X0_readOne km_X0_80 hl1 (by decide) ⟨Nat.le_refl _, Nat.le_refl _⟩ rfl rfl rfl rfl (Nat.le_of_ble_eq_true rfl) (dall tdX0_readTerm 14 rfl) ?_
  exact wX0_readTerm_30 hlv hz1 hl1 (F1 σ) a1_ C hR kR6 kO6 hk6 ok h
def bX0_readTerm_6 (F1 : OS → OS)   (kR6 : OS × Int32 → OS) (v : OS × Int32) : OS := if 160 ≤ v.2 then v.1 else if (v.1.1 6) = 17 then pX0_readTerm_26 F1 kR6 (fX0_step v.1) v.2 else v.1
def kX0_readTerm_6 (F1 : OS → OS) (G1 : OS → Prop)   (kO6 : OS × Int32 → Prop) (v : OS × Int32) : Prop := (160 ≤ v.2 → True) ∧ (¬ (160 ≤ v.2) → ((v.1.1 6) = 17 → (gX0_step v.1 ) ∧ (oX0_readTerm_26 F1 G1 kO6 (fX0_step v.1) v.2)) ∧ (¬ ((v.1.1 6) = 17) → True))
set_option maxHeartbeats 4000000 in
set_option maxRecDepth 100000 in
theorem wX0_readTerm_6 {X : CX} {cy : Nat → ClassId} {q : Nat → Nat} {D : va_G} {A : Nat → Prop} {res : OS} {lv lv1 : Nat} {F1 : OS → OS} {G1 : OS → Prop} (hlv : 20 ≤ lv) (hz1 : ∀ σ : OS, G1 σ → Con yX0_readOne cX0_readOne 1 none lv1 0 0 D (gty cy) [.ref (q 11)] (wX0 cy q σ) (eV (wX0 cy q (F1 σ)))) (hl1 : lv1 + 1 ≤ lv)   (C : Cx X cX0_readTerm RX0 2 D (gty cy) A lv 0 0) (hR : Rt X none D (gty cy) A 0 0 (eV (wX0 cy q res))) (kR6 : OS × Int32 → OS) (kO6 : OS × Int32 → Prop) (hk6 : ∀ z, kO6 z → kR6 z = res → At X D A 2 0 0 6 [(0, .ref (q 11)), (1, .int z.2)] [] (wX0 cy q z.1)) (v : OS × Int32) (ok : kX0_readTerm_6 F1 G1  kO6 v) (h : bX0_readTerm_6 F1  kR6 v = res) : At X D A 2 0 0 6 [(0, .ref (q 11)), (1, .int v.2)] [] (wX0 cy q v.1) := by
  unfold bX0_readTerm_6 at h
  unfold kX0_readTerm_6 at ok
  refine r_iload_n C 1 (dall tdX0_readTerm 4 rfl) rfl ?_
  refine r_sipush (v := 160) C (dall tdX0_readTerm 5 rfl) (by decide) ?_
  refine r_icmp_ge (tgt := 42) C (dall tdX0_readTerm 6 rfl) (by decide) (fun c3 => ?_) (fun c3 => ?_)
  · have h := (if_pos c3).symm.trans h
    have ok := ok.1 c3
    exact r_vret C hR (dall tdX0_readTerm 20 rfl) (by subst h; exact ⟨rfl, rfl⟩)
  · have h := (if_neg c3).symm.trans h
    have ok := ok.2 c3
    refine r_aload_n C 0 (dall tdX0_readTerm 7 rfl) rfl ?_
    refine r_get C 0 kw_X0 rfl rfl (by decide) kf_X0_61 rfl rfl (dall tdX0_readTerm 8 rfl) ?_
    refine r_bipush (v := 17) C (dall tdX0_readTerm 9 rfl) (by decide) ?_
    refine r_icmp_ne (tgt := 42) C (dall tdX0_readTerm 10 rfl) (by decide) (fun c4 => ?_) (fun c4 => ?_)
    · have h := (if_neg c4).symm.trans h
      have ok := ok.2 c4
      exact r_vret C hR (dall tdX0_readTerm 20 rfl) (by subst h; exact ⟨rfl, rfl⟩)
    · have h := (if_pos c4).symm.trans h
      have ok := ok.1 c4
      refine r_aload_n C 0 (dall tdX0_readTerm 11 rfl) rfl ?_
      obtain ⟨o5, ok⟩ := ok
      refine r_vV (as := []) C (zX0_step cy q v.1  o5) mv_X0_step km_X0_37 (by omega) (by decide) ⟨Nat.le_refl _, Nat.le_refl _⟩ rfl rfl rfl rfl (Nat.le_of_ble_eq_true rfl) (dall tdX0_readTerm 12 rfl) ?_
      exact wX0_readTerm_26 hlv hz1 hl1 (fX0_step v.1) v.2 C hR kR6 kO6 hk6 ok h
set_option maxHeartbeats 4000000 in
set_option maxRecDepth 100000 in
theorem lX0_readTerm_6 {X : CX} {cy : Nat → ClassId} {q : Nat → Nat} {D : va_G} {A : Nat → Prop} {res : OS} {lv lv1 : Nat} {F1 : OS → OS} {G1 : OS → Prop} (hlv : 20 ≤ lv) (hz1 : ∀ σ : OS, G1 σ → Con yX0_readOne cX0_readOne 1 none lv1 0 0 D (gty cy) [.ref (q 11)] (wX0 cy q σ) (eV (wX0 cy q (F1 σ)))) (hl1 : lv1 + 1 ≤ lv)   (C : Cx X cX0_readTerm RX0 2 D (gty cy) A lv 0 0) (hR : Rt X none D (gty cy) A 0 0 (eV (wX0 cy q res)))  (n : Nat) (v : OS × Int32) (ok : lpOk (kX0_readTerm_6 F1 G1  ) n v) (h : lp o0 (bX0_readTerm_6 F1  ) n v = res) : At X D A 2 0 0 6 [(0, .ref (q 11)), (1, .int v.2)] [] (wX0 cy q v.1) :=
  lp_rule (fun v rr_ => rr_ = res → At X D A 2 0 0 6 [(0, .ref (q 11)), (1, .int v.2)] [] (wX0 cy q v.1)) (fun kR kO hk v ok h => wX0_readTerm_6 hlv hz1 hl1  C hR  kR kO hk v ok h) n v ok h
def pX0_readTerm_4 (F1 : OS → OS)  (σ : OS) : OS := lp o0 (bX0_readTerm_6 F1  ) fu (σ, 0)
def oX0_readTerm_4 (F1 : OS → OS) (G1 : OS → Prop)  (σ : OS) : Prop := lpOk (kX0_readTerm_6 F1 G1  ) fu (σ, 0)
set_option maxHeartbeats 4000000 in
set_option maxRecDepth 100000 in
theorem wX0_readTerm_4 {X : CX} {cy : Nat → ClassId} {q : Nat → Nat} {D : va_G} {A : Nat → Prop} {res : OS} {lv lv1 : Nat} {F1 : OS → OS} {G1 : OS → Prop} (hlv : 20 ≤ lv) (hz1 : ∀ σ : OS, G1 σ → Con yX0_readOne cX0_readOne 1 none lv1 0 0 D (gty cy) [.ref (q 11)] (wX0 cy q σ) (eV (wX0 cy q (F1 σ)))) (hl1 : lv1 + 1 ≤ lv)  (σ : OS) (C : Cx X cX0_readTerm RX0 2 D (gty cy) A lv 0 0) (hR : Rt X none D (gty cy) A 0 0 (eV (wX0 cy q res)))  (ok : oX0_readTerm_4 F1 G1  σ) (h : pX0_readTerm_4 F1  σ = res) : At X D A 2 0 0 4 [(0, .ref (q 11))] [] (wX0 cy q σ) := by
  unfold pX0_readTerm_4 at h
  unfold oX0_readTerm_4 at ok
  refine r_iconst (v := 0) C (dall tdX0_readTerm 2 rfl) (by decide) ?_
  refine r_istore_n (lv' := [(1, .int 0), (0, .ref (q 11))]) C (dall tdX0_readTerm 3 rfl) (by decide) rfl ?_
  refine r_pick [1, 0] rfl ?_
  exact lX0_readTerm_6 hlv hz1 hl1  C hR  fu _ ok h
def pX0_readTerm_0 (F1 : OS → OS)  (σ : OS) : OS := pX0_readTerm_4 F1  (F1 σ)
def oX0_readTerm_0 (F1 : OS → OS) (G1 : OS → Prop)  (σ : OS) : Prop := (G1 σ ) ∧ (oX0_readTerm_4 F1 G1  (F1 σ))
set_option maxHeartbeats 4000000 in
set_option maxRecDepth 100000 in
theorem wX0_readTerm_0 {X : CX} {cy : Nat → ClassId} {q : Nat → Nat} {D : va_G} {A : Nat → Prop} {res : OS} {lv lv1 : Nat} {F1 : OS → OS} {G1 : OS → Prop} (hlv : 20 ≤ lv) (hz1 : ∀ σ : OS, G1 σ → Con yX0_readOne cX0_readOne 1 none lv1 0 0 D (gty cy) [.ref (q 11)] (wX0 cy q σ) (eV (wX0 cy q (F1 σ)))) (hl1 : lv1 + 1 ≤ lv)  (σ : OS) (C : Cx X cX0_readTerm RX0 2 D (gty cy) A lv 0 0) (hR : Rt X none D (gty cy) A 0 0 (eV (wX0 cy q res)))  (ok : oX0_readTerm_0 F1 G1  σ) (h : pX0_readTerm_0 F1  σ = res) : At X D A 2 0 0 0 [(0, .ref (q 11))] [] (wX0 cy q σ) := by
  unfold pX0_readTerm_0 at h
  unfold oX0_readTerm_0 at ok
  refine r_aload_n C 0 (dall tdX0_readTerm 0 rfl) rfl ?_
  obtain ⟨o6, ok⟩ := ok
  refine r_vV (as := []) C (hz1  σ  o6) mv_X0_readOne km_X0_80 hl1 (by decide) ⟨Nat.le_refl _, Nat.le_refl _⟩ rfl rfl rfl rfl (Nat.le_of_ble_eq_true rfl) (dall tdX0_readTerm 1 rfl) ?_
  exact wX0_readTerm_4 hlv hz1 hl1 (F1 σ) C hR  ok h
def fX0_readTerm (F1 : OS → OS) (σ : OS) : OS := pX0_readTerm_0 F1  σ
def gX0_readTerm (F1 : OS → OS) (G1 : OS → Prop) (σ : OS) : Prop := oX0_readTerm_0 F1 G1  σ
set_option maxRecDepth 100000 in
theorem zX0_readTerm (cy : Nat → ClassId) (q : Nat → Nat)  {lv lv1 : Nat} {F1 : OS → OS} {G1 : OS → Prop}  {D : va_G} (hlv : 20 ≤ lv) (hz1 : ∀ σ : OS, G1 σ → Con yX0_readOne cX0_readOne 1 none lv1 0 0 D (gty cy) [.ref (q 11)] (wX0 cy q σ) (eV (wX0 cy q (F1 σ)))) (hl1 : lv1 + 1 ≤ lv) (σ : OS) (ok : gX0_readTerm F1 G1 σ )  : Con yX0_readTerm cX0_readTerm 2 none lv 0 0 D (gty cy) [.ref (q 11)] (wX0 cy q σ) (eV (wX0 cy q (fX0_readTerm F1 σ ))) :=
  Con.of (own := RX0) (by decide +kernel) rfl (Nat.le_of_ble_eq_true rfl) (Nat.zero_le _) (fun X A C hR _ => (wX0_readTerm_0 hlv hz1 hl1 σ C hR  ok rfl))
def tbX0_readSum : List (Nat × Instr × Nat) := [(0, .aload_n 0, 1), (1, .invokevirtual 77, 3), (4, .iconst 0, 1), (5, .istore_n 1, 1), (6, .iload_n 1, 1), (7, .sipush 160, 3), (10, .if_icmp .ge 47, 3), (13, .aload_n 0, 1), (14, .getfield 61, 3), (17, .bipush 15, 2), (19, .if_icmp .eq 12, 3), (22, .aload_n 0, 1), (23, .getfield 61, 3), (26, .bipush 16, 2), (28, .if_icmp .ne 29, 3), (31, .aload_n 0, 1), (32, .getfield 61, 3), (35, .istore_n 2, 1), (36, .aload_n 0, 1), (37, .invokevirtual 37, 3), (40, .aload_n 0, 1), (41, .invokevirtual 77, 3), (44, .aload_n 0, 1), (45, .iload_n 2, 1), (46, .iconst (-1), 1), (47, .ixor, 1), (48, .invokevirtual 64, 3), (51, .iinc 1 1, 3), (54, .goto (-48), 3), (57, .return_, 1)]
theorem tdX0_readSum : tbX0_readSum.all (fun q => decide (decode cX0_readSum q.1 = .ok q.2)) = true := by decide +kernel
def pX0_readSum_51 (F1 : OS → OS) (kR6 : OS × Int32 → OS) (σ : OS) (a1_ : Int32) : OS := kR6 (σ, a1_ + 1)
def oX0_readSum_51 (F1 : OS → OS) (G1 : OS → Prop) (kO6 : OS × Int32 → Prop) (σ : OS) (a1_ : Int32) : Prop := kO6 (σ, a1_ + 1)
set_option maxHeartbeats 4000000 in
set_option maxRecDepth 100000 in
theorem wX0_readSum_51 {X : CX} {cy : Nat → ClassId} {q : Nat → Nat} {D : va_G} {A : Nat → Prop} {res : OS} {lv lv1 : Nat} {F1 : OS → OS} {G1 : OS → Prop} (hlv : 20 ≤ lv) (hz1 : ∀ σ : OS, G1 σ → Con yX0_readTerm cX0_readTerm 2 none lv1 0 0 D (gty cy) [.ref (q 11)] (wX0 cy q σ) (eV (wX0 cy q (F1 σ)))) (hl1 : lv1 + 1 ≤ lv)  (σ : OS) (a1_ : Int32) (C : Cx X cX0_readSum RX0 3 D (gty cy) A lv 0 0) (hR : Rt X none D (gty cy) A 0 0 (eV (wX0 cy q res))) (kR6 : OS × Int32 → OS) (kO6 : OS × Int32 → Prop) (hk6 : ∀ z, kO6 z → kR6 z = res → At X D A 3 0 0 6 [(0, .ref (q 11)), (1, .int z.2)] [] (wX0 cy q z.1)) (ok : oX0_readSum_51 F1 G1 kO6 σ a1_) (h : pX0_readSum_51 F1 kR6 σ a1_ = res) : At X D A 3 0 0 51 [(0, .ref (q 11)), (1, .int a1_)] [] (wX0 cy q σ) := by
  unfold pX0_readSum_51 at h
  unfold oX0_readSum_51 at ok
  refine r_iinc (v := a1_ + 1) (lv' := [(1, .int (a1_ + 1)), (0, .ref (q 11))]) C 1 (dall tdX0_readSum 27 rfl) rfl rfl (by decide) rfl ?_
  refine r_goto (tgt := 6) C (dall tdX0_readSum 28 rfl) (by decide) ?_
  refine r_pick [1, 0] rfl ?_
  exact hk6 (σ, a1_ + 1) ok h
def pX0_readSum_44 (F1 : OS → OS) (kR6 : OS × Int32 → OS) (σ : OS) (a1_ : Int32) (a2_ : Int32) : OS := pX0_readSum_51 F1 kR6 (fX0_write σ (a2_ ^^^ (-1))) a1_
def oX0_readSum_44 (F1 : OS → OS) (G1 : OS → Prop) (kO6 : OS × Int32 → Prop) (σ : OS) (a1_ : Int32) (a2_ : Int32) : Prop := (gX0_write σ (a2_ ^^^ (-1))) ∧ (oX0_readSum_51 F1 G1 kO6 (fX0_write σ (a2_ ^^^ (-1))) a1_)
set_option maxHeartbeats 4000000 in
set_option maxRecDepth 100000 in
theorem wX0_readSum_44 {X : CX} {cy : Nat → ClassId} {q : Nat → Nat} {D : va_G} {A : Nat → Prop} {res : OS} {lv lv1 : Nat} {F1 : OS → OS} {G1 : OS → Prop} (hlv : 20 ≤ lv) (hz1 : ∀ σ : OS, G1 σ → Con yX0_readTerm cX0_readTerm 2 none lv1 0 0 D (gty cy) [.ref (q 11)] (wX0 cy q σ) (eV (wX0 cy q (F1 σ)))) (hl1 : lv1 + 1 ≤ lv)  (σ : OS) (a1_ : Int32) (a2_ : Int32) (C : Cx X cX0_readSum RX0 3 D (gty cy) A lv 0 0) (hR : Rt X none D (gty cy) A 0 0 (eV (wX0 cy q res))) (kR6 : OS × Int32 → OS) (kO6 : OS × Int32 → Prop) (hk6 : ∀ z, kO6 z → kR6 z = res → At X D A 3 0 0 6 [(0, .ref (q 11)), (1, .int z.2)] [] (wX0 cy q z.1)) (ok : oX0_readSum_44 F1 G1 kO6 σ a1_ a2_) (h : pX0_readSum_44 F1 kR6 σ a1_ a2_ = res) : At X D A 3 0 0 44 [(0, .ref (q 11)), (1, .int a1_), (2, .int a2_)] [] (wX0 cy q σ) := by
  unfold pX0_readSum_44 at h
  unfold oX0_readSum_44 at ok
  refine r_aload_n C 0 (dall tdX0_readSum 22 rfl) rfl ?_
  refine r_iload_n C 2 (dall tdX0_readSum 23 rfl) rfl ?_
  refine r_iconst (v := -1) C (dall tdX0_readSum 24 rfl) (by decide) ?_
  refine r_ixor C (dall tdX0_readSum 25 rfl) ?_
  obtain ⟨o1, ok⟩ := ok
  refine r_vV (as := [.int (a2_ ^^^ (-1))]) C (zX0_write cy q σ (a2_ ^^^ (-1)) o1) mv_X0_write km_X0_64 (by omega) (by decide) ⟨Nat.le_refl _, Nat.le_refl _⟩ rfl rfl rfl rfl (Nat.le_of_ble_eq_true rfl) (dall tdX0_readSum 26 rfl) ?_
  refine r_pick [0, 1] rfl ?_
  exact wX0_readSum_51 hlv hz1 hl1 (fX0_write σ (a2_ ^^^ (-1))) a1_ C hR kR6 kO6 hk6 ok h
def pX0_readSum_40 (F1 : OS → OS) (kR6 : OS × Int32 → OS) (σ : OS) (a1_ : Int32) (a2_ : Int32) : OS := pX0_readSum_44 F1 kR6 (F1 σ) a1_ a2_
def oX0_readSum_40 (F1 : OS → OS) (G1 : OS → Prop) (kO6 : OS × Int32 → Prop) (σ : OS) (a1_ : Int32) (a2_ : Int32) : Prop := (G1 σ ) ∧ (oX0_readSum_44 F1 G1 kO6 (F1 σ) a1_ a2_)
set_option maxHeartbeats 4000000 in
set_option maxRecDepth 100000 in
theorem wX0_readSum_40 {X : CX} {cy : Nat → ClassId} {q : Nat → Nat} {D : va_G} {A : Nat → Prop} {res : OS} {lv lv1 : Nat} {F1 : OS → OS} {G1 : OS → Prop} (hlv : 20 ≤ lv) (hz1 : ∀ σ : OS, G1 σ → Con yX0_readTerm cX0_readTerm 2 none lv1 0 0 D (gty cy) [.ref (q 11)] (wX0 cy q σ) (eV (wX0 cy q (F1 σ)))) (hl1 : lv1 + 1 ≤ lv)  (σ : OS) (a1_ : Int32) (a2_ : Int32) (C : Cx X cX0_readSum RX0 3 D (gty cy) A lv 0 0) (hR : Rt X none D (gty cy) A 0 0 (eV (wX0 cy q res))) (kR6 : OS × Int32 → OS) (kO6 : OS × Int32 → Prop) (hk6 : ∀ z, kO6 z → kR6 z = res → At X D A 3 0 0 6 [(0, .ref (q 11)), (1, .int z.2)] [] (wX0 cy q z.1)) (ok : oX0_readSum_40 F1 G1 kO6 σ a1_ a2_) (h : pX0_readSum_40 F1 kR6 σ a1_ a2_ = res) : At X D A 3 0 0 40 [(0, .ref (q 11)), (1, .int a1_), (2, .int a2_)] [] (wX0 cy q σ) := by
  unfold pX0_readSum_40 at h
  unfold oX0_readSum_40 at ok
  refine r_aload_n C 0 (dall tdX0_readSum 20 rfl) rfl ?_
  obtain ⟨o2, ok⟩ := ok
  refine r_vV (as := []) C (hz1  σ  o2) mv_X0_readTerm km_X0_77 hl1 (by decide) ⟨Nat.le_refl _, Nat.le_refl _⟩ rfl rfl rfl rfl (Nat.le_of_ble_eq_true rfl) (dall tdX0_readSum 21 rfl) ?_
  exact wX0_readSum_44 hlv hz1 hl1 (F1 σ) a1_ a2_ C hR kR6 kO6 hk6 ok h
def pX0_readSum_31 (F1 : OS → OS) (kR6 : OS × Int32 → OS) (σ : OS) (a1_ : Int32) : OS := pX0_readSum_40 F1 kR6 (fX0_step σ) a1_ (σ.1 6)
def oX0_readSum_31 (F1 : OS → OS) (G1 : OS → Prop) (kO6 : OS × Int32 → Prop) (σ : OS) (a1_ : Int32) : Prop := (gX0_step σ ) ∧ (oX0_readSum_40 F1 G1 kO6 (fX0_step σ) a1_ (σ.1 6))
set_option maxHeartbeats 4000000 in
set_option maxRecDepth 100000 in
theorem wX0_readSum_31 {X : CX} {cy : Nat → ClassId} {q : Nat → Nat} {D : va_G} {A : Nat → Prop} {res : OS} {lv lv1 : Nat} {F1 : OS → OS} {G1 : OS → Prop} (hlv : 20 ≤ lv) (hz1 : ∀ σ : OS, G1 σ → Con yX0_readTerm cX0_readTerm 2 none lv1 0 0 D (gty cy) [.ref (q 11)] (wX0 cy q σ) (eV (wX0 cy q (F1 σ)))) (hl1 : lv1 + 1 ≤ lv)  (σ : OS) (a1_ : Int32) (C : Cx X cX0_readSum RX0 3 D (gty cy) A lv 0 0) (hR : Rt X none D (gty cy) A 0 0 (eV (wX0 cy q res))) (kR6 : OS × Int32 → OS) (kO6 : OS × Int32 → Prop) (hk6 : ∀ z, kO6 z → kR6 z = res → At X D A 3 0 0 6 [(0, .ref (q 11)), (1, .int z.2)] [] (wX0 cy q z.1)) (ok : oX0_readSum_31 F1 G1 kO6 σ a1_) (h : pX0_readSum_31 F1 kR6 σ a1_ = res) : At X D A 3 0 0 31 [(0, .ref (q 11)), (1, .int a1_)] [] (wX0 cy q σ) := by
  unfold pX0_readSum_31 at h
  unfold oX0_readSum_31 at ok
  refine r_aload_n C 0 (dall tdX0_readSum 15 rfl) rfl ?_
  refine r_get C 0 kw_X0 rfl rfl (by decide) kf_X0_61 rfl rfl (dall tdX0_readSum 16 rfl) ?_
  refine r_istore_n (lv' := [(2, .int (σ.1 6)), (0, .ref (q 11)), (1, .int a1_)]) C (dall tdX0_readSum 17 rfl) (by decide) rfl ?_
  refine r_aload_n C 1 (dall tdX0_readSum 18 rfl) rfl ?_
  obtain ⟨o3, ok⟩ := ok
  refine r_vV (as := []) C (zX0_step cy q σ  o3) mv_X0_step km_X0_37 (by omega) (by decide) ⟨Nat.le_refl _, Nat.le_refl _⟩ rfl rfl rfl rfl (Nat.le_of_ble_eq_true rfl) (dall tdX0_readSum 19 rfl) ?_
  refine r_pick [1, 2, 0] rfl ?_
  exact wX0_readSum_40 hlv hz1 hl1 (fX0_step σ) a1_ (σ.1 6) C hR kR6 kO6 hk6 ok h
def bX0_readSum_6 (F1 : OS → OS)   (kR6 : OS × Int32 → OS) (v : OS × Int32) : OS := if 160 ≤ v.2 then v.1 else if (v.1.1 6) = 15 then pX0_readSum_31 F1 kR6 v.1 v.2 else if (v.1.1 6) = 16 then pX0_readSum_31 F1 kR6 v.1 v.2 else v.1
def kX0_readSum_6 (F1 : OS → OS) (G1 : OS → Prop)   (kO6 : OS × Int32 → Prop) (v : OS × Int32) : Prop := (160 ≤ v.2 → True) ∧ (¬ (160 ≤ v.2) → ((v.1.1 6) = 15 → oX0_readSum_31 F1 G1 kO6 v.1 v.2) ∧ (¬ ((v.1.1 6) = 15) → ((v.1.1 6) = 16 → oX0_readSum_31 F1 G1 kO6 v.1 v.2) ∧ (¬ ((v.1.1 6) = 16) → True)))
set_option maxHeartbeats 4000000 in
set_option maxRecDepth 100000 in
theorem wX0_readSum_6 {X : CX} {cy : Nat → ClassId} {q : Nat → Nat} {D : va_G} {A : Nat → Prop} {res : OS} {lv lv1 : Nat} {F1 : OS → OS} {G1 : OS → Prop} (hlv : 20 ≤ lv) (hz1 : ∀ σ : OS, G1 σ → Con yX0_readTerm cX0_readTerm 2 none lv1 0 0 D (gty cy) [.ref (q 11)] (wX0 cy q σ) (eV (wX0 cy q (F1 σ)))) (hl1 : lv1 + 1 ≤ lv)   (C : Cx X cX0_readSum RX0 3 D (gty cy) A lv 0 0) (hR : Rt X none D (gty cy) A 0 0 (eV (wX0 cy q res))) (kR6 : OS × Int32 → OS) (kO6 : OS × Int32 → Prop) (hk6 : ∀ z, kO6 z → kR6 z = res → At X D A 3 0 0 6 [(0, .ref (q 11)), (1, .int z.2)] [] (wX0 cy q z.1)) (v : OS × Int32) (ok : kX0_readSum_6 F1 G1  kO6 v) (h : bX0_readSum_6 F1  kR6 v = res) : At X D A 3 0 0 6 [(0, .ref (q 11)), (1, .int v.2)] [] (wX0 cy q v.1) := by
  unfold bX0_readSum_6 at h
  unfold kX0_readSum_6 at ok
  refine r_iload_n C 1 (dall tdX0_readSum 4 rfl) rfl ?_
  refine r_sipush (v := 160) C (dall tdX0_readSum 5 rfl) (by decide) ?_
  refine r_icmp_ge (tgt := 57) C (dall tdX0_readSum 6 rfl) (by decide) (fun c4 => ?_) (fun c4 => ?_)
  · have h := (if_pos c4).symm.trans h
    have ok := ok.1 c4
    exact r_vret C hR (dall tdX0_readSum 29 rfl) (by subst h; exact ⟨rfl, rfl⟩)
  · have h := (if_neg c4).symm.trans h
    have ok := ok.2 c4
    refine r_aload_n C 0 (dall tdX0_readSum 7 rfl) rfl ?_
    refine r_get C 0 kw_X0 rfl rfl (by decide) kf_X0_61 rfl rfl (dall tdX0_readSum 8 rfl) ?_
    refine r_bipush (v := 15) C (dall tdX0_readSum 9 rfl) (by decide) ?_
    refine r_icmp_eq (tgt := 31) C (dall tdX0_readSum 10 rfl) (by decide) (fun c5 => ?_) (fun c5 => ?_)
    · have h := (if_pos c5).symm.trans h
      have ok := ok.1 c5
      exact wX0_readSum_31 hlv hz1 hl1 v.1 v.2 C hR kR6 kO6 hk6 ok h
    · have h := (if_neg c5).symm.trans h
      have ok := ok.2 c5
      refine r_aload_n C 0 (dall tdX0_readSum 11 rfl) rfl ?_
      refine r_get C 0 kw_X0 rfl rfl (by decide) kf_X0_61 rfl rfl (dall tdX0_readSum 12 rfl) ?_
      refine r_bipush (v := 16) C (dall tdX0_readSum 13 rfl) (by decide) ?_
      refine r_icmp_ne (tgt := 57) C (dall tdX0_readSum 14 rfl) (by decide) (fun c6 => ?_) (fun c6 => ?_)
      · have h := (if_neg c6).symm.trans h
        have ok := ok.2 c6
        exact r_vret C hR (dall tdX0_readSum 29 rfl) (by subst h; exact ⟨rfl, rfl⟩)
      · have h := (if_pos c6).symm.trans h
        have ok := ok.1 c6
        exact wX0_readSum_31 hlv hz1 hl1 v.1 v.2 C hR kR6 kO6 hk6 ok h
set_option maxHeartbeats 4000000 in
set_option maxRecDepth 100000 in
theorem lX0_readSum_6 {X : CX} {cy : Nat → ClassId} {q : Nat → Nat} {D : va_G} {A : Nat → Prop} {res : OS} {lv lv1 : Nat} {F1 : OS → OS} {G1 : OS → Prop} (hlv : 20 ≤ lv) (hz1 : ∀ σ : OS, G1 σ → Con yX0_readTerm cX0_readTerm 2 none lv1 0 0 D (gty cy) [.ref (q 11)] (wX0 cy q σ) (eV (wX0 cy q (F1 σ)))) (hl1 : lv1 + 1 ≤ lv)   (C : Cx X cX0_readSum RX0 3 D (gty cy) A lv 0 0) (hR : Rt X none D (gty cy) A 0 0 (eV (wX0 cy q res)))  (n : Nat) (v : OS × Int32) (ok : lpOk (kX0_readSum_6 F1 G1  ) n v) (h : lp o0 (bX0_readSum_6 F1  ) n v = res) : At X D A 3 0 0 6 [(0, .ref (q 11)), (1, .int v.2)] [] (wX0 cy q v.1) :=
  lp_rule (fun v rr_ => rr_ = res → At X D A 3 0 0 6 [(0, .ref (q 11)), (1, .int v.2)] [] (wX0 cy q v.1)) (fun kR kO hk v ok h => wX0_readSum_6 hlv hz1 hl1  C hR  kR kO hk v ok h) n v ok h
def pX0_readSum_4 (F1 : OS → OS)  (σ : OS) : OS := lp o0 (bX0_readSum_6 F1  ) fu (σ, 0)
def oX0_readSum_4 (F1 : OS → OS) (G1 : OS → Prop)  (σ : OS) : Prop := lpOk (kX0_readSum_6 F1 G1  ) fu (σ, 0)
set_option maxHeartbeats 4000000 in
set_option maxRecDepth 100000 in
theorem wX0_readSum_4 {X : CX} {cy : Nat → ClassId} {q : Nat → Nat} {D : va_G} {A : Nat → Prop} {res : OS} {lv lv1 : Nat} {F1 : OS → OS} {G1 : OS → Prop} (hlv : 20 ≤ lv) (hz1 : ∀ σ : OS, G1 σ → Con yX0_readTerm cX0_readTerm 2 none lv1 0 0 D (gty cy) [.ref (q 11)] (wX0 cy q σ) (eV (wX0 cy q (F1 σ)))) (hl1 : lv1 + 1 ≤ lv)  (σ : OS) (C : Cx X cX0_readSum RX0 3 D (gty cy) A lv 0 0) (hR : Rt X none D (gty cy) A 0 0 (eV (wX0 cy q res)))  (ok : oX0_readSum_4 F1 G1  σ) (h : pX0_readSum_4 F1  σ = res) : At X D A 3 0 0 4 [(0, .ref (q 11))] [] (wX0 cy q σ) := by
  unfold pX0_readSum_4 at h
  unfold oX0_readSum_4 at ok
  refine r_iconst (v := 0) C (dall tdX0_readSum 2 rfl) (by decide) ?_
  refine r_istore_n (lv' := [(1, .int 0), (0, .ref (q 11))]) C (dall tdX0_readSum 3 rfl) (by decide) rfl ?_
  refine r_pick [1, 0] rfl ?_
  exact lX0_readSum_6 hlv hz1 hl1  C hR  fu _ ok h
def pX0_readSum_0 (F1 : OS → OS)  (σ : OS) : OS := pX0_readSum_4 F1  (F1 σ)
def oX0_readSum_0 (F1 : OS → OS) (G1 : OS → Prop)  (σ : OS) : Prop := (G1 σ ) ∧ (oX0_readSum_4 F1 G1  (F1 σ))
set_option maxHeartbeats 4000000 in
set_option maxRecDepth 100000 in
theorem wX0_readSum_0 {X : CX} {cy : Nat → ClassId} {q : Nat → Nat} {D : va_G} {A : Nat → Prop} {res : OS} {lv lv1 : Nat} {F1 : OS → OS} {G1 : OS → Prop} (hlv : 20 ≤ lv) (hz1 : ∀ σ : OS, G1 σ → Con yX0_readTerm cX0_readTerm 2 none lv1 0 0 D (gty cy) [.ref (q 11)] (wX0 cy q σ) (eV (wX0 cy q (F1 σ)))) (hl1 : lv1 + 1 ≤ lv)  (σ : OS) (C : Cx X cX0_readSum RX0 3 D (gty cy) A lv 0 0) (hR : Rt X none D (gty cy) A 0 0 (eV (wX0 cy q res)))  (ok : oX0_readSum_0 F1 G1  σ) (h : pX0_readSum_0 F1  σ = res) : At X D A 3 0 0 0 [(0, .ref (q 11))] [] (wX0 cy q σ) := by
  unfold pX0_readSum_0 at h
  unfold oX0_readSum_0 at ok
  refine r_aload_n C 0 (dall tdX0_readSum 0 rfl) rfl ?_
  obtain ⟨o7, ok⟩ := ok
  refine r_vV (as := []) C (hz1  σ  o7) mv_X0_readTerm km_X0_77 hl1 (by decide) ⟨Nat.le_refl _, Nat.le_refl _⟩ rfl rfl rfl rfl (Nat.le_of_ble_eq_true rfl) (dall tdX0_readSum 1 rfl) ?_
  exact wX0_readSum_4 hlv hz1 hl1 (F1 σ) C hR  ok h
def fX0_readSum (F1 : OS → OS) (σ : OS) : OS := pX0_readSum_0 F1  σ
def gX0_readSum (F1 : OS → OS) (G1 : OS → Prop) (σ : OS) : Prop := oX0_readSum_0 F1 G1  σ
set_option maxRecDepth 100000 in
theorem zX0_readSum (cy : Nat → ClassId) (q : Nat → Nat)  {lv lv1 : Nat} {F1 : OS → OS} {G1 : OS → Prop}  {D : va_G} (hlv : 20 ≤ lv) (hz1 : ∀ σ : OS, G1 σ → Con yX0_readTerm cX0_readTerm 2 none lv1 0 0 D (gty cy) [.ref (q 11)] (wX0 cy q σ) (eV (wX0 cy q (F1 σ)))) (hl1 : lv1 + 1 ≤ lv) (σ : OS) (ok : gX0_readSum F1 G1 σ )  : Con yX0_readSum cX0_readSum 3 none lv 0 0 D (gty cy) [.ref (q 11)] (wX0 cy q σ) (eV (wX0 cy q (fX0_readSum F1 σ ))) :=
  Con.of (own := RX0) (by decide +kernel) rfl (Nat.le_of_ble_eq_true rfl) (Nat.zero_le _) (fun X A C hR _ => (wX0_readSum_0 hlv hz1 hl1 σ C hR  ok rfl))
def tbX0_readNot : List (Nat × Instr × Nat) := [(0, .aload_n 0, 1), (1, .getfield 61, 3), (4, .iconst 5, 1), (5, .if_icmp .ne 31, 3), (8, .aload_n 0, 1), (9, .invokevirtual 70, 3), (12, .ifCond .eq 23, 3), (15, .aload_n 0, 1), (16, .invokevirtual 67, 3), (19, .aload_n 0, 1), (20, .dup, 1), (21, .getfield 31, 3), (24, .iconst 1, 1), (25, .isub, 1), (26, .putfield 31, 3), (29, .aload_n 0, 1), (30, .bipush (-6), 2), (32, .invokevirtual 64, 3), (35, .return_, 1), (36, .aload_n 0, 1), (37, .invokevirtual 74, 3), (40, .aload_n 0, 1), (41, .getfield 61, 3), (44, .bipush 18, 2), (46, .if_icmp .eq 12, 3), (49, .aload_n 0, 1), (50, .getfield 61, 3), (53, .bipush 19, 2), (55, .if_icmp .ne 23, 3), (58, .aload_n 0, 1), (59, .getfield 61, 3), (62, .istore_n 1, 1), (63, .aload_n 0, 1), (64, .invokevirtual 37, 3), (67, .aload_n 0, 1), (68, .invokevirtual 74, 3), (71, .aload_n 0, 1), (72, .iload_n 1, 1), (73, .iconst (-1), 1), (74, .ixor, 1), (75, .invokevirtual 64, 3), (78, .return_, 1)]
theorem tdX0_readNot : tbX0_readNot.all (fun q => decide (decode cX0_readNot q.1 = .ok q.2)) = true := by decide +kernel
def pX0_readNot_78 (F1 : OS → OS) (F2 : OS → OS)  (σ : OS) : OS := σ
set_option maxHeartbeats 4000000 in
set_option maxRecDepth 100000 in
theorem wX0_readNot_78 {X : CX} {cy : Nat → ClassId} {q : Nat → Nat} {D : va_G} {A : Nat → Prop} {res : OS} {lv lv1 lv2 : Nat} {F1 : OS → OS} {G1 : OS → Prop} {F2 : OS → OS} {G2 : OS → Prop} (hlv : 20 ≤ lv) (hz1 : ∀ σ : OS, G1 σ → Con yX0_readNot cX0_readNot 2 none lv1 0 0 D (gty cy) [.ref (q 11)] (wX0 cy q σ) (eV (wX0 cy q (F1 σ)))) (hl1 : lv1 + 1 ≤ lv) (hz2 : ∀ σ : OS, G2 σ → Con yX0_readSum cX0_readSum 3 none lv2 0 0 D (gty cy) [.ref (q 11)] (wX0 cy q σ) (eV (wX0 cy q (F2 σ)))) (hl2 : lv2 + 1 ≤ lv)  (σ : OS) (C : Cx X cX0_readNot RX0 2 D (gty cy) A lv 0 0) (hR : Rt X none D (gty cy) A 0 0 (eV (wX0 cy q res)))  (h : pX0_readNot_78 F1 F2  σ = res) : At X D A 2 0 0 78 [] [] (wX0 cy q σ) := by
  unfold pX0_readNot_78 at h
  exact r_vret C hR (dall tdX0_readNot 41 rfl) (by subst h; exact ⟨rfl, rfl⟩)
def pX0_readNot_71 (F1 : OS → OS) (F2 : OS → OS)  (σ : OS) (a1_ : Int32) : OS := pX0_readNot_78 F1 F2  (fX0_write σ (a1_ ^^^ (-1)))
def oX0_readNot_71 (F1 : OS → OS) (F2 : OS → OS) (G1 : OS → Prop) (G2 : OS → Prop)  (σ : OS) (a1_ : Int32) : Prop := gX0_write σ (a1_ ^^^ (-1))
set_option maxHeartbeats 4000000 in
set_option maxRecDepth 100000 in
theorem wX0_readNot_71 {X : CX} {cy : Nat → ClassId} {q : Nat → Nat} {D : va_G} {A : Nat → Prop} {res : OS} {lv lv1 lv2 : Nat} {F1 : OS → OS} {G1 : OS → Prop} {F2 : OS → OS} {G2 : OS → Prop} (hlv : 20 ≤ lv) (hz1 : ∀ σ : OS, G1 σ → Con yX0_readNot cX0_readNot 2 none lv1 0 0 D (gty cy) [.ref (q 11)] (wX0 cy q σ) (eV (wX0 cy q (F1 σ)))) (hl1 : lv1 + 1 ≤ lv) (hz2 : ∀ σ : OS, G2 σ → Con yX0_readSum cX0_readSum 3 none lv2 0 0 D (gty cy) [.ref (q 11)] (wX0 cy q σ) (eV (wX0 cy q (F2 σ)))) (hl2 : lv2 + 1 ≤ lv)  (σ : OS) (a1_ : Int32) (C : Cx X cX0_readNot RX0 2 D (gty cy) A lv 0 0) (hR : Rt X none D (gty cy) A 0 0 (eV (wX0 cy q res)))  (ok : oX0_readNot_71 F1 F2 G1 G2  σ a1_) (h : pX0_readNot_71 F1 F2  σ a1_ = res) : At X D A 2 0 0 71 [(0, .ref (q 11)), (1, .int a1_)] [] (wX0 cy q σ) := by
  unfold pX0_readNot_71 at h
  unfold oX0_readNot_71 at ok
  refine r_aload_n C 0 (dall tdX0_readNot 36 rfl) rfl ?_
  refine r_iload_n C 1 (dall tdX0_readNot 37 rfl) rfl ?_
  refine r_iconst (v := -1) C (dall tdX0_readNot 38 rfl) (by decide) ?_
  refine r_ixor C (dall tdX0_readNot 39 rfl) ?_
  have o1 := ok
  refine r_vV (as := [.int (a1_ ^^^ (-1))]) C (zX0_write cy q σ (a1_ ^^^ (-1)) o1) mv_X0_write km_X0_64 (by omega) (by decide) ⟨Nat.le_refl _, Nat.le_refl _⟩ rfl rfl rfl rfl (Nat.le_of_ble_eq_true rfl) (dall tdX0_readNot 40 rfl) ?_
  refine r_pick [] rfl ?_
  exact wX0_readNot_78 hlv hz1 hl1 hz2 hl2 (fX0_write σ (a1_ ^^^ (-1))) C hR  h
def pX0_readNot_67 (F1 : OS → OS) (F2 : OS → OS)  (σ : OS) (a1_ : Int32) : OS := pX0_readNot_71 F1 F2  (F2 σ) a1_
def oX0_readNot_67 (F1 : OS → OS) (F2 : OS → OS) (G1 : OS → Prop) (G2 : OS → Prop)  (σ : OS) (a1_ : Int32) : Prop := (G2 σ ) ∧ (oX0_readNot_71 F1 F2 G1 G2  (F2 σ) a1_)
set_option maxHeartbeats 4000000 in
set_option maxRecDepth 100000 in
theorem wX0_readNot_67 {X : CX} {cy : Nat → ClassId} {q : Nat → Nat} {D : va_G} {A : Nat → Prop} {res : OS} {lv lv1 lv2 : Nat} {F1 : OS → OS} {G1 : OS → Prop} {F2 : OS → OS} {G2 : OS → Prop} (hlv : 20 ≤ lv) (hz1 : ∀ σ : OS, G1 σ → Con yX0_readNot cX0_readNot 2 none lv1 0 0 D (gty cy) [.ref (q 11)] (wX0 cy q σ) (eV (wX0 cy q (F1 σ)))) (hl1 : lv1 + 1 ≤ lv) (hz2 : ∀ σ : OS, G2 σ → Con yX0_readSum cX0_readSum 3 none lv2 0 0 D (gty cy) [.ref (q 11)] (wX0 cy q σ) (eV (wX0 cy q (F2 σ)))) (hl2 : lv2 + 1 ≤ lv)  (σ : OS) (a1_ : Int32) (C : Cx X cX0_readNot RX0 2 D (gty cy) A lv 0 0) (hR : Rt X none D (gty cy) A 0 0 (eV (wX0 cy q res)))  (ok : oX0_readNot_67 F1 F2 G1 G2  σ a1_) (h : pX0_readNot_67 F1 F2  σ a1_ = res) : At X D A 2 0 0 67 [(0, .ref (q 11)), (1, .int a1_)] [] (wX0 cy q σ) := by
  unfold pX0_readNot_67 at h
  unfold oX0_readNot_67 at ok
  refine r_aload_n C 0 (dall tdX0_readNot 34 rfl) rfl ?_
  obtain ⟨o2, ok⟩ := ok
  refine r_vV (as := []) C (hz2  σ  o2) mv_X0_readSum km_X0_74 hl2 (by decide) ⟨Nat.le_refl _, Nat.le_refl _⟩ rfl rfl rfl rfl (Nat.le_of_ble_eq_true rfl) (dall tdX0_readNot 35 rfl) ?_
  exact wX0_readNot_71 hlv hz1 hl1 hz2 hl2 (F2 σ) a1_ C hR  ok h
def pX0_readNot_58 (F1 : OS → OS) (F2 : OS → OS)  (σ : OS) : OS := pX0_readNot_67 F1 F2  (fX0_step σ) (σ.1 6)
def oX0_readNot_58 (F1 : OS → OS) (F2 : OS → OS) (G1 : OS → Prop) (G2 : OS → Prop)  (σ : OS) : Prop := (gX0_step σ ) ∧ (oX0_readNot_67 F1 F2 G1 G2  (fX0_step σ) (σ.1 6))
set_option maxHeartbeats 4000000 in
set_option maxRecDepth 100000 in
theorem wX0_readNot_58 {X : CX} {cy : Nat → ClassId} {q : Nat → Nat} {D : va_G} {A : Nat → Prop} {res : OS} {lv lv1 lv2 : Nat} {F1 : OS → OS} {G1 : OS → Prop} {F2 : OS → OS} {G2 : OS → Prop} (hlv : 20 ≤ lv) (hz1 : ∀ σ : OS, G1 σ → Con yX0_readNot cX0_readNot 2 none lv1 0 0 D (gty cy) [.ref (q 11)] (wX0 cy q σ) (eV (wX0 cy q (F1 σ)))) (hl1 : lv1 + 1 ≤ lv) (hz2 : ∀ σ : OS, G2 σ → Con yX0_readSum cX0_readSum 3 none lv2 0 0 D (gty cy) [.ref (q 11)] (wX0 cy q σ) (eV (wX0 cy q (F2 σ)))) (hl2 : lv2 + 1 ≤ lv)  (σ : OS) (C : Cx X cX0_readNot RX0 2 D (gty cy) A lv 0 0) (hR : Rt X none D (gty cy) A 0 0 (eV (wX0 cy q res)))  (ok : oX0_readNot_58 F1 F2 G1 G2  σ) (h : pX0_readNot_58 F1 F2  σ = res) : At X D A 2 0 0 58 [(0, .ref (q 11))] [] (wX0 cy q σ) := by
  unfold pX0_readNot_58 at h
  unfold oX0_readNot_58 at ok
  refine r_aload_n C 0 (dall tdX0_readNot 29 rfl) rfl ?_
  refine r_get C 0 kw_X0 rfl rfl (by decide) kf_X0_61 rfl rfl (dall tdX0_readNot 30 rfl) ?_
  refine r_istore_n (lv' := [(1, .int (σ.1 6)), (0, .ref (q 11))]) C (dall tdX0_readNot 31 rfl) (by decide) rfl ?_
  refine r_aload_n C 1 (dall tdX0_readNot 32 rfl) rfl ?_
  obtain ⟨o3, ok⟩ := ok
  refine r_vV (as := []) C (zX0_step cy q σ  o3) mv_X0_step km_X0_37 (by omega) (by decide) ⟨Nat.le_refl _, Nat.le_refl _⟩ rfl rfl rfl rfl (Nat.le_of_ble_eq_true rfl) (dall tdX0_readNot 33 rfl) ?_
  refine r_pick [1, 0] rfl ?_
  exact wX0_readNot_67 hlv hz1 hl1 hz2 hl2 (fX0_step σ) (σ.1 6) C hR  ok h
def pX0_readNot_40 (F1 : OS → OS) (F2 : OS → OS)  (σ : OS) : OS := if (σ.1 6) = 18 then pX0_readNot_58 F1 F2  σ else if (σ.1 6) = 19 then pX0_readNot_58 F1 F2  σ else pX0_readNot_78 F1 F2  σ
def oX0_readNot_40 (F1 : OS → OS) (F2 : OS → OS) (G1 : OS → Prop) (G2 : OS → Prop)  (σ : OS) : Prop := ((σ.1 6) = 18 → oX0_readNot_58 F1 F2 G1 G2  σ) ∧ (¬ ((σ.1 6) = 18) → ((σ.1 6) = 19 → oX0_readNot_58 F1 F2 G1 G2  σ) ∧ (¬ ((σ.1 6) = 19) → True))
set_option maxHeartbeats 4000000 in
set_option maxRecDepth 100000 in
theorem wX0_readNot_40 {X : CX} {cy : Nat → ClassId} {q : Nat → Nat} {D : va_G} {A : Nat → Prop} {res : OS} {lv lv1 lv2 : Nat} {F1 : OS → OS} {G1 : OS → Prop} {F2 : OS → OS} {G2 : OS → Prop} (hlv : 20 ≤ lv) (hz1 : ∀ σ : OS, G1 σ → Con yX0_readNot cX0_readNot 2 none lv1 0 0 D (gty cy) [.ref (q 11)] (wX0 cy q σ) (eV (wX0 cy q (F1 σ)))) (hl1 : lv1 + 1 ≤ lv) (hz2 : ∀ σ : OS, G2 σ → Con yX0_readSum cX0_readSum 3 none lv2 0 0 D (gty cy) [.ref (q 11)] (wX0 cy q σ) (eV (wX0 cy q (F2 σ)))) (hl2 : lv2 + 1 ≤ lv)  (σ : OS) (C : Cx X cX0_readNot RX0 2 D (gty cy) A lv 0 0) (hR : Rt X none D (gty cy) A 0 0 (eV (wX0 cy q res)))  (ok : oX0_readNot_40 F1 F2 G1 G2  σ) (h : pX0_readNot_40 F1 F2  σ = res) : At X D A 2 0 0 40 [(0, .ref (q 11))] [] (wX0 cy q σ) := by
  unfold pX0_readNot_40 at h
  unfold oX0_readNot_40 at ok
  refine r_aload_n C 0 (dall tdX0_readNot 21 rfl) rfl ?_
  refine r_get C 0 kw_X0 rfl rfl (by decide) kf_X0_61 rfl rfl (dall tdX0_readNot 22 rfl) ?_
  refine r_bipush (v := 18) C (dall tdX0_readNot 23 rfl) (by decide) ?_
  refine r_icmp_eq (tgt := 58) C (dall tdX0_readNot 24 rfl) (by decide) (fun c4 => ?_) (fun c4 => ?_)
  · have h := (if_pos c4).symm.trans h
    have ok := ok.1 c4
    exact wX0_readNot_58 hlv hz1 hl1 hz2 hl2 σ C hR  ok h
  · have h := (if_neg c4).symm.trans h
    have ok := ok.2 c4
    refine r_aload_n C 0 (dall tdX0_readNot 25 rfl) rfl ?_
    refine r_get C 0 kw_X0 rfl rfl (by decide) kf_X0_61 rfl rfl (dall tdX0_readNot 26 rfl) ?_
    refine r_bipush (v := 19) C (dall tdX0_readNot 27 rfl) (by decide) ?_
    refine r_icmp_ne (tgt := 78) C (dall tdX0_readNot 28 rfl) (by decide) (fun c5 => ?_) (fun c5 => ?_)
    · have h := (if_neg c5).symm.trans h
      have ok := ok.2 c5
      refine r_pick [] rfl ?_
      exact wX0_readNot_78 hlv hz1 hl1 hz2 hl2 σ C hR  h
    · have h := (if_pos c5).symm.trans h
      have ok := ok.1 c5
      exact wX0_readNot_58 hlv hz1 hl1 hz2 hl2 σ C hR  ok h
def pX0_readNot_35 (F1 : OS → OS) (F2 : OS → OS)  (σ : OS) : OS := σ
set_option maxHeartbeats 4000000 in
set_option maxRecDepth 100000 in
theorem wX0_readNot_35 {X : CX} {cy : Nat → ClassId} {q : Nat → Nat} {D : va_G} {A : Nat → Prop} {res : OS} {lv lv1 lv2 : Nat} {F1 : OS → OS} {G1 : OS → Prop} {F2 : OS → OS} {G2 : OS → Prop} (hlv : 20 ≤ lv) (hz1 : ∀ σ : OS, G1 σ → Con yX0_readNot cX0_readNot 2 none lv1 0 0 D (gty cy) [.ref (q 11)] (wX0 cy q σ) (eV (wX0 cy q (F1 σ)))) (hl1 : lv1 + 1 ≤ lv) (hz2 : ∀ σ : OS, G2 σ → Con yX0_readSum cX0_readSum 3 none lv2 0 0 D (gty cy) [.ref (q 11)] (wX0 cy q σ) (eV (wX0 cy q (F2 σ)))) (hl2 : lv2 + 1 ≤ lv)  (σ : OS) (C : Cx X cX0_readNot RX0 2 D (gty cy) A lv 0 0) (hR : Rt X none D (gty cy) A 0 0 (eV (wX0 cy q res)))  (h : pX0_readNot_35 F1 F2  σ = res) : At X D A 2 0 0 35 [] [] (wX0 cy q σ) := by
  unfold pX0_readNot_35 at h
  exact r_vret C hR (dall tdX0_readNot 18 rfl) (by subst h; exact ⟨rfl, rfl⟩)
def pX0_readNot_19 (F1 : OS → OS) (F2 : OS → OS)  (σ : OS) : OS := pX0_readNot_35 F1 F2  (fX0_write (oI σ 9 ((σ.1 9) - 1)) (-6))
def oX0_readNot_19 (F1 : OS → OS) (F2 : OS → OS) (G1 : OS → Prop) (G2 : OS → Prop)  (σ : OS) : Prop := gX0_write (oI σ 9 ((σ.1 9) - 1)) (-6)
set_option maxHeartbeats 4000000 in
set_option maxRecDepth 100000 in
theorem wX0_readNot_19 {X : CX} {cy : Nat → ClassId} {q : Nat → Nat} {D : va_G} {A : Nat → Prop} {res : OS} {lv lv1 lv2 : Nat} {F1 : OS → OS} {G1 : OS → Prop} {F2 : OS → OS} {G2 : OS → Prop} (hlv : 20 ≤ lv) (hz1 : ∀ σ : OS, G1 σ → Con yX0_readNot cX0_readNot 2 none lv1 0 0 D (gty cy) [.ref (q 11)] (wX0 cy q σ) (eV (wX0 cy q (F1 σ)))) (hl1 : lv1 + 1 ≤ lv) (hz2 : ∀ σ : OS, G2 σ → Con yX0_readSum cX0_readSum 3 none lv2 0 0 D (gty cy) [.ref (q 11)] (wX0 cy q σ) (eV (wX0 cy q (F2 σ)))) (hl2 : lv2 + 1 ≤ lv)  (σ : OS) (C : Cx X cX0_readNot RX0 2 D (gty cy) A lv 0 0) (hR : Rt X none D (gty cy) A 0 0 (eV (wX0 cy q res)))  (ok : oX0_readNot_19 F1 F2 G1 G2  σ) (h : pX0_readNot_19 F1 F2  σ = res) : At X D A 2 0 0 19 [(0, .ref (q 11))] [] (wX0 cy q σ) := by
  unfold pX0_readNot_19 at h
  unfold oX0_readNot_19 at ok
  refine r_aload_n C 0 (dall tdX0_readNot 9 rfl) rfl ?_
  refine r_dup C (dall tdX0_readNot 10 rfl) rfl ?_
  refine r_get C 0 kw_X0 rfl rfl (by decide) kf_X0_31 rfl rfl (dall tdX0_readNot 11 rfl) ?_
  refine r_iconst (v := 1) C (dall tdX0_readNot 12 rfl) (by decide) ?_
  refine r_isub C (dall tdX0_readNot 13 rfl) ?_
  refine r_put C 0 kw_X0 tyX0_ok nmX0 rfl rfl (by decide) kf_X0_31 rfl rfl rfl rfl rfl (Nat.le_of_ble_eq_true rfl) (pu_X0_this_9 cy q σ ((σ.1 9) - 1)) (dall tdX0_readNot 14 rfl) ?_
  refine r_aload_n C 0 (dall tdX0_readNot 15 rfl) rfl ?_
  refine r_bipush (v := -6) C (dall tdX0_readNot 16 rfl) (by decide) ?_
  have o6 := ok
  refine r_vV (as := [.int (-6)]) C (zX0_write cy q (oI σ 9 ((σ.1 9) - 1)) (-6) o6) mv_X0_write km_X0_64 (by omega) (by decide) ⟨Nat.le_refl _, Nat.le_refl _⟩ rfl rfl rfl rfl (Nat.le_of_ble_eq_true rfl) (dall tdX0_readNot 17 rfl) ?_
  refine r_pick [] rfl ?_
  exact wX0_readNot_35 hlv hz1 hl1 hz2 hl2 (fX0_write (oI σ 9 ((σ.1 9) - 1)) (-6)) C hR  h
def pX0_readNot_12 (F1 : OS → OS) (F2 : OS → OS)  (σ : OS) (b0_ : Int32) : OS := if b0_ = 0 then pX0_readNot_35 F1 F2  σ else pX0_readNot_19 F1 F2  (F1 σ)
def oX0_readNot_12 (F1 : OS → OS) (F2 : OS → OS) (G1 : OS → Prop) (G2 : OS → Prop)  (σ : OS) (b0_ : Int32) : Prop := (b0_ = 0 → True) ∧ (¬ (b0_ = 0) → (G1 σ ) ∧ (oX0_readNot_19 F1 F2 G1 G2  (F1 σ)))
set_option maxHeartbeats 4000000 in
set_option maxRecDepth 100000 in
theorem wX0_readNot_12 {X : CX} {cy : Nat → ClassId} {q : Nat → Nat} {D : va_G} {A : Nat → Prop} {res : OS} {lv lv1 lv2 : Nat} {F1 : OS → OS} {G1 : OS → Prop} {F2 : OS → OS} {G2 : OS → Prop} (hlv : 20 ≤ lv) (hz1 : ∀ σ : OS, G1 σ → Con yX0_readNot cX0_readNot 2 none lv1 0 0 D (gty cy) [.ref (q 11)] (wX0 cy q σ) (eV (wX0 cy q (F1 σ)))) (hl1 : lv1 + 1 ≤ lv) (hz2 : ∀ σ : OS, G2 σ → Con yX0_readSum cX0_readSum 3 none lv2 0 0 D (gty cy) [.ref (q 11)] (wX0 cy q σ) (eV (wX0 cy q (F2 σ)))) (hl2 : lv2 + 1 ≤ lv)  (σ : OS) (b0_ : Int32) (C : Cx X cX0_readNot RX0 2 D (gty cy) A lv 0 0) (hR : Rt X none D (gty cy) A 0 0 (eV (wX0 cy q res)))  (ok : oX0_readNot_12 F1 F2 G1 G2  σ b0_) (h : pX0_readNot_12 F1 F2  σ b0_ = res) : At X D A 2 0 0 12 [(0, .ref (q 11))] [.int b0_] (wX0 cy q σ) := by
  unfold pX0_readNot_12 at h
  unfold oX0_readNot_12 at ok
  refine r_if_eq (tgt := 35) C (dall tdX0_readNot 6 rfl) (by decide) (fun c7 => ?_) (fun c7 => ?_)
  · have h := (if_pos c7).symm.trans h
    have ok := ok.1 c7
    refine r_pick [] rfl ?_
    exact wX0_readNot_35 hlv hz1 hl1 hz2 hl2 σ C hR  h
  · have h := (if_neg c7).symm.trans h
    have ok := ok.2 c7
    refine r_aload_n C 0 (dall tdX0_readNot 7 rfl) rfl ?_
    obtain ⟨o8, ok⟩ := ok
    refine r_vV (as := []) C (hz1  σ  o8) mv_X0_readNot km_X0_67 hl1 (by decide) ⟨Nat.le_refl _, Nat.le_refl _⟩ rfl rfl rfl rfl (Nat.le_of_ble_eq_true rfl) (dall tdX0_readNot 8 rfl) ?_
    exact wX0_readNot_19 hlv hz1 hl1 hz2 hl2 (F1 σ) C hR  ok h
def pX0_readNot_0 (F1 : OS → OS) (F2 : OS → OS)  (σ : OS) : OS := if (σ.1 6) = 5 then pX0_readNot_12 F1 F2  ((fX0_opens σ ).2) ((fX0_opens σ ).1) else pX0_readNot_40 F1 F2  (F2 σ)
def oX0_readNot_0 (F1 : OS → OS) (F2 : OS → OS) (G1 : OS → Prop) (G2 : OS → Prop)  (σ : OS) : Prop := ((σ.1 6) = 5 → (gX0_opens σ ) ∧ (oX0_readNot_12 F1 F2 G1 G2  ((fX0_opens σ ).2) ((fX0_opens σ ).1))) ∧ (¬ ((σ.1 6) = 5) → (G2 σ ) ∧ (oX0_readNot_40 F1 F2 G1 G2  (F2 σ)))
set_option maxHeartbeats 4000000 in
set_option maxRecDepth 100000 in
theorem wX0_readNot_0 {X : CX} {cy : Nat → ClassId} {q : Nat → Nat} {D : va_G} {A : Nat → Prop} {res : OS} {lv lv1 lv2 : Nat} {F1 : OS → OS} {G1 : OS → Prop} {F2 : OS → OS} {G2 : OS → Prop} (hlv : 20 ≤ lv) (hz1 : ∀ σ : OS, G1 σ → Con yX0_readNot cX0_readNot 2 none lv1 0 0 D (gty cy) [.ref (q 11)] (wX0 cy q σ) (eV (wX0 cy q (F1 σ)))) (hl1 : lv1 + 1 ≤ lv) (hz2 : ∀ σ : OS, G2 σ → Con yX0_readSum cX0_readSum 3 none lv2 0 0 D (gty cy) [.ref (q 11)] (wX0 cy q σ) (eV (wX0 cy q (F2 σ)))) (hl2 : lv2 + 1 ≤ lv)  (σ : OS) (C : Cx X cX0_readNot RX0 2 D (gty cy) A lv 0 0) (hR : Rt X none D (gty cy) A 0 0 (eV (wX0 cy q res)))  (ok : oX0_readNot_0 F1 F2 G1 G2  σ) (h : pX0_readNot_0 F1 F2  σ = res) : At X D A 2 0 0 0 [(0, .ref (q 11))] [] (wX0 cy q σ) := by
  unfold pX0_readNot_0 at h
  unfold oX0_readNot_0 at ok
  refine r_aload_n C 0 (dall tdX0_readNot 0 rfl) rfl ?_
  refine r_get C 0 kw_X0 rfl rfl (by decide) kf_X0_61 rfl rfl (dall tdX0_readNot 1 rfl) ?_
  refine r_iconst (v := 5) C (dall tdX0_readNot 2 rfl) (by decide) ?_
  refine r_icmp_ne (tgt := 36) C (dall tdX0_readNot 3 rfl) (by decide) (fun c9 => ?_) (fun c9 => ?_)
  · have h := (if_neg c9).symm.trans h
    have ok := ok.2 c9
    refine r_aload_n C 0 (dall tdX0_readNot 19 rfl) rfl ?_
    obtain ⟨o10, ok⟩ := ok
    refine r_vV (as := []) C (hz2  σ  o10) mv_X0_readSum km_X0_74 hl2 (by decide) ⟨Nat.le_refl _, Nat.le_refl _⟩ rfl rfl rfl rfl (Nat.le_of_ble_eq_true rfl) (dall tdX0_readNot 20 rfl) ?_
    exact wX0_readNot_40 hlv hz1 hl1 hz2 hl2 (F2 σ) C hR  ok h
  · have h := (if_pos c9).symm.trans h
    have ok := ok.1 c9
    refine r_aload_n C 0 (dall tdX0_readNot 4 rfl) rfl ?_
    obtain ⟨o11, ok⟩ := ok
    refine r_vI (as := []) C (zX0_opens cy q σ  o11) mv_X0_opens km_X0_70 (by omega) (by decide) ⟨Nat.le_refl _, Nat.le_refl _⟩ rfl rfl rfl rfl (Nat.le_of_ble_eq_true rfl) (dall tdX0_readNot 5 rfl) ?_
    exact wX0_readNot_12 hlv hz1 hl1 hz2 hl2 ((fX0_opens σ ).2) ((fX0_opens σ ).1) C hR  ok h
def fX0_readNot (F1 : OS → OS) (F2 : OS → OS) (σ : OS) : OS := pX0_readNot_0 F1 F2  σ
def gX0_readNot (F1 : OS → OS) (F2 : OS → OS) (G1 : OS → Prop) (G2 : OS → Prop) (σ : OS) : Prop := oX0_readNot_0 F1 F2 G1 G2  σ
set_option maxRecDepth 100000 in
theorem zX0_readNot (cy : Nat → ClassId) (q : Nat → Nat)  {lv lv1 lv2 : Nat} {F1 : OS → OS} {G1 : OS → Prop} {F2 : OS → OS} {G2 : OS → Prop}  {D : va_G} (hlv : 20 ≤ lv) (hz1 : ∀ σ : OS, G1 σ → Con yX0_readNot cX0_readNot 2 none lv1 0 0 D (gty cy) [.ref (q 11)] (wX0 cy q σ) (eV (wX0 cy q (F1 σ)))) (hl1 : lv1 + 1 ≤ lv) (hz2 : ∀ σ : OS, G2 σ → Con yX0_readSum cX0_readSum 3 none lv2 0 0 D (gty cy) [.ref (q 11)] (wX0 cy q σ) (eV (wX0 cy q (F2 σ)))) (hl2 : lv2 + 1 ≤ lv) (σ : OS) (ok : gX0_readNot F1 F2 G1 G2 σ )  : Con yX0_readNot cX0_readNot 2 none lv 0 0 D (gty cy) [.ref (q 11)] (wX0 cy q σ) (eV (wX0 cy q (fX0_readNot F1 F2 σ ))) :=
  Con.of (own := RX0) (by decide +kernel) rfl (Nat.le_of_ble_eq_true rfl) (Nat.zero_le _) (fun X A C hR _ => (wX0_readNot_0 hlv hz1 hl1 hz2 hl2 σ C hR  ok rfl))
def tbX0_readBoth : List (Nat × Instr × Nat) := [(0, .aload_n 0, 1), (1, .invokevirtual 67, 3), (4, .iconst 0, 1), (5, .istore_n 1, 1), (6, .iload_n 1, 1), (7, .sipush 160, 3), (10, .if_icmp .ge 31, 3), (13, .aload_n 0, 1), (14, .getfield 61, 3), (17, .iconst 4, 1), (18, .if_icmp .ne 23, 3), (21, .aload_n 0, 1), (22, .invokevirtual 37, 3), (25, .aload_n 0, 1), (26, .invokevirtual 67, 3), (29, .aload_n 0, 1), (30, .bipush (-5), 2), (32, .invokevirtual 64, 3), (35, .iinc 1 1, 3), (38, .goto (-32), 3), (41, .return_, 1)]
theorem tdX0_readBoth : tbX0_readBoth.all (fun q => decide (decode cX0_readBoth q.1 = .ok q.2)) = true := by decide +kernel
def pX0_readBoth_35 (F1 : OS → OS) (kR6 : OS × Int32 → OS) (σ : OS) (a1_ : Int32) : OS := kR6 (σ, a1_ + 1)
def oX0_readBoth_35 (F1 : OS → OS) (G1 : OS → Prop) (kO6 : OS × Int32 → Prop) (σ : OS) (a1_ : Int32) : Prop := kO6 (σ, a1_ + 1)
set_option maxHeartbeats 4000000 in
set_option maxRecDepth 100000 in
theorem wX0_readBoth_35 {X : CX} {cy : Nat → ClassId} {q : Nat → Nat} {D : va_G} {A : Nat → Prop} {res : OS} {lv lv1 : Nat} {F1 : OS → OS} {G1 : OS → Prop} (hlv : 20 ≤ lv) (hz1 : ∀ σ : OS, G1 σ → Con yX0_readNot cX0_readNot 2 none lv1 0 0 D (gty cy) [.ref (q 11)] (wX0 cy q σ) (eV (wX0 cy q (F1 σ)))) (hl1 : lv1 + 1 ≤ lv)  (σ : OS) (a1_ : Int32) (C : Cx X cX0_readBoth RX0 2 D (gty cy) A lv 0 0) (hR : Rt X none D (gty cy) A 0 0 (eV (wX0 cy q res))) (kR6 : OS × Int32 → OS) (kO6 : OS × Int32 → Prop) (hk6 : ∀ z, kO6 z → kR6 z = res → At X D A 2 0 0 6 [(0, .ref (q 11)), (1, .int z.2)] [] (wX0 cy q z.1)) (ok : oX0_readBoth_35 F1 G1 kO6 σ a1_) (h : pX0_readBoth_35 F1 kR6 σ a1_ = res) : At X D A 2 0 0 35 [(0, .ref (q 11)), (1, .int a1_)] [] (wX0 cy q σ) := by
  unfold pX0_readBoth_35 at h
  unfold oX0_readBoth_35 at ok
  refine r_iinc (v := a1_ + 1) (lv' := [(1, .int (a1_ + 1)), (0, .ref (q 11))]) C 1 (dall tdX0_readBoth 18 rfl) rfl rfl (by decide) rfl ?_
  refine r_goto (tgt := 6) C (dall tdX0_readBoth 19 rfl) (by decide) ?_
  refine r_pick [1, 0] rfl ?_
  exact hk6 (σ, a1_ + 1) ok h
def pX0_readBoth_29 (F1 : OS → OS) (kR6 : OS × Int32 → OS) (σ : OS) (a1_ : Int32) : OS := pX0_readBoth_35 F1 kR6 (fX0_write σ (-5)) a1_
def oX0_readBoth_29 (F1 : OS → OS) (G1 : OS → Prop) (kO6 : OS × Int32 → Prop) (σ : OS) (a1_ : Int32) : Prop := (gX0_write σ (-5)) ∧ (oX0_readBoth_35 F1 G1 kO6 (fX0_write σ (-5)) a1_)
set_option maxHeartbeats 4000000 in
set_option maxRecDepth 100000 in
theorem wX0_readBoth_29 {X : CX} {cy : Nat → ClassId} {q : Nat → Nat} {D : va_G} {A : Nat → Prop} {res : OS} {lv lv1 : Nat} {F1 : OS → OS} {G1 : OS → Prop} (hlv : 20 ≤ lv) (hz1 : ∀ σ : OS, G1 σ → Con yX0_readNot cX0_readNot 2 none lv1 0 0 D (gty cy) [.ref (q 11)] (wX0 cy q σ) (eV (wX0 cy q (F1 σ)))) (hl1 : lv1 + 1 ≤ lv)  (σ : OS) (a1_ : Int32) (C : Cx X cX0_readBoth RX0 2 D (gty cy) A lv 0 0) (hR : Rt X none D (gty cy) A 0 0 (eV (wX0 cy q res))) (kR6 : OS × Int32 → OS) (kO6 : OS × Int32 → Prop) (hk6 : ∀ z, kO6 z → kR6 z = res → At X D A 2 0 0 6 [(0, .ref (q 11)), (1, .int z.2)] [] (wX0 cy q z.1)) (ok : oX0_readBoth_29 F1 G1 kO6 σ a1_) (h : pX0_readBoth_29 F1 kR6 σ a1_ = res) : At X D A 2 0 0 29 [(0, .ref (q 11)), (1, .int a1_)] [] (wX0 cy q σ) := by
  unfold pX0_readBoth_29 at h
  unfold oX0_readBoth_29 at ok
  refine r_aload_n C 0 (dall tdX0_readBoth 15 rfl) rfl ?_
  refine r_bipush (v := -5) C (dall tdX0_readBoth 16 rfl) (by decide) ?_
  obtain ⟨o1, ok⟩ := ok
  refine r_vV (as := [.int (-5)]) C (zX0_write cy q σ (-5) o1) mv_X0_write km_X0_64 (by omega) (by decide) ⟨Nat.le_refl _, Nat.le_refl _⟩ rfl rfl rfl rfl (Nat.le_of_ble_eq_true rfl) (dall tdX0_readBoth 17 rfl) ?_
  exact wX0_readBoth_35 hlv hz1 hl1 (fX0_write σ (-5)) a1_ C hR kR6 kO6 hk6 ok h
def pX0_readBoth_25 (F1 : OS → OS) (kR6 : OS × Int32 → OS) (σ : OS) (a1_ : Int32) : OS := pX0_readBoth_29 F1 kR6 (F1 σ) a1_
def oX0_readBoth_25 (F1 : OS → OS) (G1 : OS → Prop) (kO6 : OS × Int32 → Prop) (σ : OS) (a1_ : Int32) : Prop := (G1 σ ) ∧ (oX0_readBoth_29 F1 G1 kO6 (F1 σ) a1_)
set_option maxHeartbeats 4000000 in
set_option maxRecDepth 100000 in
theorem wX0_readBoth_25 {X : CX} {cy : Nat → ClassId} {q : Nat → Nat} {D : va_G} {A : Nat → Prop} {res : OS} {lv lv1 : Nat} {F1 : OS → OS} {G1 : OS → Prop} (hlv : 20 ≤ lv) (hz1 : ∀ σ : OS, G1 σ → Con yX0_readNot cX0_readNot 2 none lv1 0 0 D (gty cy) [.ref (q 11)] (wX0 cy q σ) (eV (wX0 cy q (F1 σ)))) (hl1 : lv1 + 1 ≤ lv)  (σ : OS) (a1_ : Int32) (C : Cx X cX0_readBoth RX0 2 D (gty cy) A lv 0 0) (hR : Rt X none D (gty cy) A 0 0 (eV (wX0 cy q res))) (kR6 : OS × Int32 → OS) (kO6 : OS × Int32 → Prop) (hk6 : ∀ z, kO6 z → kR6 z = res → At X D A 2 0 0 6 [(0, .ref (q 11)), (1, .int z.2)] [] (wX0 cy q z.1)) (ok : oX0_readBoth_25 F1 G1 kO6 σ a1_) (h : pX0_readBoth_25 F1 kR6 σ a1_ = res) : At X D A 2 0 0 25 [(0, .ref (q 11)), (1, .int a1_)] [] (wX0 cy q σ) := by
  unfold pX0_readBoth_25 at h
  unfold oX0_readBoth_25 at ok
  refine r_aload_n C 0 (dall tdX0_readBoth 13 rfl) rfl ?_
  obtain ⟨o2, ok⟩ := ok
  refine r_vV (as := []) C (hz1  σ  o2) mv_X0_readNot km_X0_67 hl1 (by decide) ⟨Nat.le_refl _, Nat.le_refl _⟩ rfl rfl rfl rfl (Nat.le_of_ble_eq_true rfl) (dall tdX0_readBoth 14 rfl) ?_
  exact wX0_readBoth_29 hlv hz1 hl1 (F1 σ) a1_ C hR kR6 kO6 hk6 ok h
def bX0_readBoth_6 (F1 : OS → OS)   (kR6 : OS × Int32 → OS) (v : OS × Int32) : OS := if 160 ≤ v.2 then v.1 else if (v.1.1 6) = 4 then pX0_readBoth_25 F1 kR6 (fX0_step v.1) v.2 else v.1
def kX0_readBoth_6 (F1 : OS → OS) (G1 : OS → Prop)   (kO6 : OS × Int32 → Prop) (v : OS × Int32) : Prop := (160 ≤ v.2 → True) ∧ (¬ (160 ≤ v.2) → ((v.1.1 6) = 4 → (gX0_step v.1 ) ∧ (oX0_readBoth_25 F1 G1 kO6 (fX0_step v.1) v.2)) ∧ (¬ ((v.1.1 6) = 4) → True))
set_option maxHeartbeats 4000000 in
set_option maxRecDepth 100000 in
theorem wX0_readBoth_6 {X : CX} {cy : Nat → ClassId} {q : Nat → Nat} {D : va_G} {A : Nat → Prop} {res : OS} {lv lv1 : Nat} {F1 : OS → OS} {G1 : OS → Prop} (hlv : 20 ≤ lv) (hz1 : ∀ σ : OS, G1 σ → Con yX0_readNot cX0_readNot 2 none lv1 0 0 D (gty cy) [.ref (q 11)] (wX0 cy q σ) (eV (wX0 cy q (F1 σ)))) (hl1 : lv1 + 1 ≤ lv)   (C : Cx X cX0_readBoth RX0 2 D (gty cy) A lv 0 0) (hR : Rt X none D (gty cy) A 0 0 (eV (wX0 cy q res))) (kR6 : OS × Int32 → OS) (kO6 : OS × Int32 → Prop) (hk6 : ∀ z, kO6 z → kR6 z = res → At X D A 2 0 0 6 [(0, .ref (q 11)), (1, .int z.2)] [] (wX0 cy q z.1)) (v : OS × Int32) (ok : kX0_readBoth_6 F1 G1  kO6 v) (h : bX0_readBoth_6 F1  kR6 v = res) : At X D A 2 0 0 6 [(0, .ref (q 11)), (1, .int v.2)] [] (wX0 cy q v.1) := by
  unfold bX0_readBoth_6 at h
  unfold kX0_readBoth_6 at ok
  refine r_iload_n C 1 (dall tdX0_readBoth 4 rfl) rfl ?_
  refine r_sipush (v := 160) C (dall tdX0_readBoth 5 rfl) (by decide) ?_
  refine r_icmp_ge (tgt := 41) C (dall tdX0_readBoth 6 rfl) (by decide) (fun c3 => ?_) (fun c3 => ?_)
  · have h := (if_pos c3).symm.trans h
    have ok := ok.1 c3
    exact r_vret C hR (dall tdX0_readBoth 20 rfl) (by subst h; exact ⟨rfl, rfl⟩)
  · have h := (if_neg c3).symm.trans h
    have ok := ok.2 c3
    refine r_aload_n C 0 (dall tdX0_readBoth 7 rfl) rfl ?_
    refine r_get C 0 kw_X0 rfl rfl (by decide) kf_X0_61 rfl rfl (dall tdX0_readBoth 8 rfl) ?_
    refine r_iconst (v := 4) C (dall tdX0_readBoth 9 rfl) (by decide) ?_
    refine r_icmp_ne (tgt := 41) C (dall tdX0_readBoth 10 rfl) (by decide) (fun c4 => ?_) (fun c4 => ?_)
    · have h := (if_neg c4).symm.trans h
      have ok := ok.2 c4
      exact r_vret C hR (dall tdX0_readBoth 20 rfl) (by subst h; exact ⟨rfl, rfl⟩)
    · have h := (if_pos c4).symm.trans h
      have ok := ok.1 c4
      refine r_aload_n C 0 (dall tdX0_readBoth 11 rfl) rfl ?_
      obtain ⟨o5, ok⟩ := ok
      refine r_vV (as := []) C (zX0_step cy q v.1  o5) mv_X0_step km_X0_37 (by omega) (by decide) ⟨Nat.le_refl _, Nat.le_refl _⟩ rfl rfl rfl rfl (Nat.le_of_ble_eq_true rfl) (dall tdX0_readBoth 12 rfl) ?_
      exact wX0_readBoth_25 hlv hz1 hl1 (fX0_step v.1) v.2 C hR kR6 kO6 hk6 ok h
set_option maxHeartbeats 4000000 in
set_option maxRecDepth 100000 in
theorem lX0_readBoth_6 {X : CX} {cy : Nat → ClassId} {q : Nat → Nat} {D : va_G} {A : Nat → Prop} {res : OS} {lv lv1 : Nat} {F1 : OS → OS} {G1 : OS → Prop} (hlv : 20 ≤ lv) (hz1 : ∀ σ : OS, G1 σ → Con yX0_readNot cX0_readNot 2 none lv1 0 0 D (gty cy) [.ref (q 11)] (wX0 cy q σ) (eV (wX0 cy q (F1 σ)))) (hl1 : lv1 + 1 ≤ lv)   (C : Cx X cX0_readBoth RX0 2 D (gty cy) A lv 0 0) (hR : Rt X none D (gty cy) A 0 0 (eV (wX0 cy q res)))  (n : Nat) (v : OS × Int32) (ok : lpOk (kX0_readBoth_6 F1 G1  ) n v) (h : lp o0 (bX0_readBoth_6 F1  ) n v = res) : At X D A 2 0 0 6 [(0, .ref (q 11)), (1, .int v.2)] [] (wX0 cy q v.1) :=
  lp_rule (fun v rr_ => rr_ = res → At X D A 2 0 0 6 [(0, .ref (q 11)), (1, .int v.2)] [] (wX0 cy q v.1)) (fun kR kO hk v ok h => wX0_readBoth_6 hlv hz1 hl1  C hR  kR kO hk v ok h) n v ok h
def pX0_readBoth_4 (F1 : OS → OS)  (σ : OS) : OS := lp o0 (bX0_readBoth_6 F1  ) fu (σ, 0)
def oX0_readBoth_4 (F1 : OS → OS) (G1 : OS → Prop)  (σ : OS) : Prop := lpOk (kX0_readBoth_6 F1 G1  ) fu (σ, 0)
set_option maxHeartbeats 4000000 in
set_option maxRecDepth 100000 in
theorem wX0_readBoth_4 {X : CX} {cy : Nat → ClassId} {q : Nat → Nat} {D : va_G} {A : Nat → Prop} {res : OS} {lv lv1 : Nat} {F1 : OS → OS} {G1 : OS → Prop} (hlv : 20 ≤ lv) (hz1 : ∀ σ : OS, G1 σ → Con yX0_readNot cX0_readNot 2 none lv1 0 0 D (gty cy) [.ref (q 11)] (wX0 cy q σ) (eV (wX0 cy q (F1 σ)))) (hl1 : lv1 + 1 ≤ lv)  (σ : OS) (C : Cx X cX0_readBoth RX0 2 D (gty cy) A lv 0 0) (hR : Rt X none D (gty cy) A 0 0 (eV (wX0 cy q res)))  (ok : oX0_readBoth_4 F1 G1  σ) (h : pX0_readBoth_4 F1  σ = res) : At X D A 2 0 0 4 [(0, .ref (q 11))] [] (wX0 cy q σ) := by
  unfold pX0_readBoth_4 at h
  unfold oX0_readBoth_4 at ok
  refine r_iconst (v := 0) C (dall tdX0_readBoth 2 rfl) (by decide) ?_
  refine r_istore_n (lv' := [(1, .int 0), (0, .ref (q 11))]) C (dall tdX0_readBoth 3 rfl) (by decide) rfl ?_
  refine r_pick [1, 0] rfl ?_
  exact lX0_readBoth_6 hlv hz1 hl1  C hR  fu _ ok h
def pX0_readBoth_0 (F1 : OS → OS)  (σ : OS) : OS := pX0_readBoth_4 F1  (F1 σ)
def oX0_readBoth_0 (F1 : OS → OS) (G1 : OS → Prop)  (σ : OS) : Prop := (G1 σ ) ∧ (oX0_readBoth_4 F1 G1  (F1 σ))
set_option maxHeartbeats 4000000 in
set_option maxRecDepth 100000 in
theorem wX0_readBoth_0 {X : CX} {cy : Nat → ClassId} {q : Nat → Nat} {D : va_G} {A : Nat → Prop} {res : OS} {lv lv1 : Nat} {F1 : OS → OS} {G1 : OS → Prop} (hlv : 20 ≤ lv) (hz1 : ∀ σ : OS, G1 σ → Con yX0_readNot cX0_readNot 2 none lv1 0 0 D (gty cy) [.ref (q 11)] (wX0 cy q σ) (eV (wX0 cy q (F1 σ)))) (hl1 : lv1 + 1 ≤ lv)  (σ : OS) (C : Cx X cX0_readBoth RX0 2 D (gty cy) A lv 0 0) (hR : Rt X none D (gty cy) A 0 0 (eV (wX0 cy q res)))  (ok : oX0_readBoth_0 F1 G1  σ) (h : pX0_readBoth_0 F1  σ = res) : At X D A 2 0 0 0 [(0, .ref (q 11))] [] (wX0 cy q σ) := by
  unfold pX0_readBoth_0 at h
  unfold oX0_readBoth_0 at ok
  refine r_aload_n C 0 (dall tdX0_readBoth 0 rfl) rfl ?_
  obtain ⟨o6, ok⟩ := ok
  refine r_vV (as := []) C (hz1  σ  o6) mv_X0_readNot km_X0_67 hl1 (by decide) ⟨Nat.le_refl _, Nat.le_refl _⟩ rfl rfl rfl rfl (Nat.le_of_ble_eq_true rfl) (dall tdX0_readBoth 1 rfl) ?_
  exact wX0_readBoth_4 hlv hz1 hl1 (F1 σ) C hR  ok h
def fX0_readBoth (F1 : OS → OS) (σ : OS) : OS := pX0_readBoth_0 F1  σ
def gX0_readBoth (F1 : OS → OS) (G1 : OS → Prop) (σ : OS) : Prop := oX0_readBoth_0 F1 G1  σ
set_option maxRecDepth 100000 in
theorem zX0_readBoth (cy : Nat → ClassId) (q : Nat → Nat)  {lv lv1 : Nat} {F1 : OS → OS} {G1 : OS → Prop}  {D : va_G} (hlv : 20 ≤ lv) (hz1 : ∀ σ : OS, G1 σ → Con yX0_readNot cX0_readNot 2 none lv1 0 0 D (gty cy) [.ref (q 11)] (wX0 cy q σ) (eV (wX0 cy q (F1 σ)))) (hl1 : lv1 + 1 ≤ lv) (σ : OS) (ok : gX0_readBoth F1 G1 σ )  : Con yX0_readBoth cX0_readBoth 2 none lv 0 0 D (gty cy) [.ref (q 11)] (wX0 cy q σ) (eV (wX0 cy q (fX0_readBoth F1 σ ))) :=
  Con.of (own := RX0) (by decide +kernel) rfl (Nat.le_of_ble_eq_true rfl) (Nat.zero_le _) (fun X A C hR _ => (wX0_readBoth_0 hlv hz1 hl1 σ C hR  ok rfl))
def tbX0_readEither : List (Nat × Instr × Nat) := [(0, .aload_n 0, 1), (1, .invokevirtual 58, 3), (4, .iconst 0, 1), (5, .istore_n 1, 1), (6, .iload_n 1, 1), (7, .sipush 160, 3), (10, .if_icmp .ge 31, 3), (13, .aload_n 0, 1), (14, .getfield 61, 3), (17, .iconst 3, 1), (18, .if_icmp .ne 23, 3), (21, .aload_n 0, 1), (22, .invokevirtual 37, 3), (25, .aload_n 0, 1), (26, .invokevirtual 58, 3), (29, .aload_n 0, 1), (30, .bipush (-4), 2), (32, .invokevirtual 64, 3), (35, .iinc 1 1, 3), (38, .goto (-32), 3), (41, .return_, 1)]
theorem tdX0_readEither : tbX0_readEither.all (fun q => decide (decode cX0_readEither q.1 = .ok q.2)) = true := by decide +kernel
def pX0_readEither_35 (F1 : OS → OS) (kR6 : OS × Int32 → OS) (σ : OS) (a1_ : Int32) : OS := kR6 (σ, a1_ + 1)
def oX0_readEither_35 (F1 : OS → OS) (G1 : OS → Prop) (kO6 : OS × Int32 → Prop) (σ : OS) (a1_ : Int32) : Prop := kO6 (σ, a1_ + 1)
set_option maxHeartbeats 4000000 in
set_option maxRecDepth 100000 in
theorem wX0_readEither_35 {X : CX} {cy : Nat → ClassId} {q : Nat → Nat} {D : va_G} {A : Nat → Prop} {res : OS} {lv lv1 : Nat} {F1 : OS → OS} {G1 : OS → Prop} (hlv : 20 ≤ lv) (hz1 : ∀ σ : OS, G1 σ → Con yX0_readBoth cX0_readBoth 2 none lv1 0 0 D (gty cy) [.ref (q 11)] (wX0 cy q σ) (eV (wX0 cy q (F1 σ)))) (hl1 : lv1 + 1 ≤ lv)  (σ : OS) (a1_ : Int32) (C : Cx X cX0_readEither RX0 2 D (gty cy) A lv 0 0) (hR : Rt X none D (gty cy) A 0 0 (eV (wX0 cy q res))) (kR6 : OS × Int32 → OS) (kO6 : OS × Int32 → Prop) (hk6 : ∀ z, kO6 z → kR6 z = res → At X D A 2 0 0 6 [(0, .ref (q 11)), (1, .int z.2)] [] (wX0 cy q z.1)) (ok : oX0_readEither_35 F1 G1 kO6 σ a1_) (h : pX0_readEither_35 F1 kR6 σ a1_ = res) : At X D A 2 0 0 35 [(0, .ref (q 11)), (1, .int a1_)] [] (wX0 cy q σ) := by
  unfold pX0_readEither_35 at h
  unfold oX0_readEither_35 at ok
  refine r_iinc (v := a1_ + 1) (lv' := [(1, .int (a1_ + 1)), (0, .ref (q 11))]) C 1 (dall tdX0_readEither 18 rfl) rfl rfl (by decide) rfl ?_
  refine r_goto (tgt := 6) C (dall tdX0_readEither 19 rfl) (by decide) ?_
  refine r_pick [1, 0] rfl ?_
  exact hk6 (σ, a1_ + 1) ok h
def pX0_readEither_29 (F1 : OS → OS) (kR6 : OS × Int32 → OS) (σ : OS) (a1_ : Int32) : OS := pX0_readEither_35 F1 kR6 (fX0_write σ (-4)) a1_
def oX0_readEither_29 (F1 : OS → OS) (G1 : OS → Prop) (kO6 : OS × Int32 → Prop) (σ : OS) (a1_ : Int32) : Prop := (gX0_write σ (-4)) ∧ (oX0_readEither_35 F1 G1 kO6 (fX0_write σ (-4)) a1_)
set_option maxHeartbeats 4000000 in
set_option maxRecDepth 100000 in
theorem wX0_readEither_29 {X : CX} {cy : Nat → ClassId} {q : Nat → Nat} {D : va_G} {A : Nat → Prop} {res : OS} {lv lv1 : Nat} {F1 : OS → OS} {G1 : OS → Prop} (hlv : 20 ≤ lv) (hz1 : ∀ σ : OS, G1 σ → Con yX0_readBoth cX0_readBoth 2 none lv1 0 0 D (gty cy) [.ref (q 11)] (wX0 cy q σ) (eV (wX0 cy q (F1 σ)))) (hl1 : lv1 + 1 ≤ lv)  (σ : OS) (a1_ : Int32) (C : Cx X cX0_readEither RX0 2 D (gty cy) A lv 0 0) (hR : Rt X none D (gty cy) A 0 0 (eV (wX0 cy q res))) (kR6 : OS × Int32 → OS) (kO6 : OS × Int32 → Prop) (hk6 : ∀ z, kO6 z → kR6 z = res → At X D A 2 0 0 6 [(0, .ref (q 11)), (1, .int z.2)] [] (wX0 cy q z.1)) (ok : oX0_readEither_29 F1 G1 kO6 σ a1_) (h : pX0_readEither_29 F1 kR6 σ a1_ = res) : At X D A 2 0 0 29 [(0, .ref (q 11)), (1, .int a1_)] [] (wX0 cy q σ) := by
  unfold pX0_readEither_29 at h
  unfold oX0_readEither_29 at ok
  refine r_aload_n C 0 (dall tdX0_readEither 15 rfl) rfl ?_
  refine r_bipush (v := -4) C (dall tdX0_readEither 16 rfl) (by decide) ?_
  obtain ⟨o1, ok⟩ := ok
  refine r_vV (as := [.int (-4)]) C (zX0_write cy q σ (-4) o1) mv_X0_write km_X0_64 (by omega) (by decide) ⟨Nat.le_refl _, Nat.le_refl _⟩ rfl rfl rfl rfl (Nat.le_of_ble_eq_true rfl) (dall tdX0_readEither 17 rfl) ?_
  exact wX0_readEither_35 hlv hz1 hl1 (fX0_write σ (-4)) a1_ C hR kR6 kO6 hk6 ok h
def pX0_readEither_25 (F1 : OS → OS) (kR6 : OS × Int32 → OS) (σ : OS) (a1_ : Int32) : OS := pX0_readEither_29 F1 kR6 (F1 σ) a1_
def oX0_readEither_25 (F1 : OS → OS) (G1 : OS → Prop) (kO6 : OS × Int32 → Prop) (σ : OS) (a1_ : Int32) : Prop := (G1 σ ) ∧ (oX0_readEither_29 F1 G1 kO6 (F1 σ) a1_)
set_option maxHeartbeats 4000000 in
set_option maxRecDepth 100000 in
theorem wX0_readEither_25 {X : CX} {cy : Nat → ClassId} {q : Nat → Nat} {D : va_G} {A : Nat → Prop} {res : OS} {lv lv1 : Nat} {F1 : OS → OS} {G1 : OS → Prop} (hlv : 20 ≤ lv) (hz1 : ∀ σ : OS, G1 σ → Con yX0_readBoth cX0_readBoth 2 none lv1 0 0 D (gty cy) [.ref (q 11)] (wX0 cy q σ) (eV (wX0 cy q (F1 σ)))) (hl1 : lv1 + 1 ≤ lv)  (σ : OS) (a1_ : Int32) (C : Cx X cX0_readEither RX0 2 D (gty cy) A lv 0 0) (hR : Rt X none D (gty cy) A 0 0 (eV (wX0 cy q res))) (kR6 : OS × Int32 → OS) (kO6 : OS × Int32 → Prop) (hk6 : ∀ z, kO6 z → kR6 z = res → At X D A 2 0 0 6 [(0, .ref (q 11)), (1, .int z.2)] [] (wX0 cy q z.1)) (ok : oX0_readEither_25 F1 G1 kO6 σ a1_) (h : pX0_readEither_25 F1 kR6 σ a1_ = res) : At X D A 2 0 0 25 [(0, .ref (q 11)), (1, .int a1_)] [] (wX0 cy q σ) := by
  unfold pX0_readEither_25 at h
  unfold oX0_readEither_25 at ok
  refine r_aload_n C 0 (dall tdX0_readEither 13 rfl) rfl ?_
  obtain ⟨o2, ok⟩ := ok
  refine r_vV (as := []) C (hz1  σ  o2) mv_X0_readBoth km_X0_58 hl1 (by decide) ⟨Nat.le_refl _, Nat.le_refl _⟩ rfl rfl rfl rfl (Nat.le_of_ble_eq_true rfl) (dall tdX0_readEither 14 rfl) ?_
  exact wX0_readEither_29 hlv hz1 hl1 (F1 σ) a1_ C hR kR6 kO6 hk6 ok h
def bX0_readEither_6 (F1 : OS → OS)   (kR6 : OS × Int32 → OS) (v : OS × Int32) : OS := if 160 ≤ v.2 then v.1 else if (v.1.1 6) = 3 then pX0_readEither_25 F1 kR6 (fX0_step v.1) v.2 else v.1
def kX0_readEither_6 (F1 : OS → OS) (G1 : OS → Prop)   (kO6 : OS × Int32 → Prop) (v : OS × Int32) : Prop := (160 ≤ v.2 → True) ∧ (¬ (160 ≤ v.2) → ((v.1.1 6) = 3 → (gX0_step v.1 ) ∧ (oX0_readEither_25 F1 G1 kO6 (fX0_step v.1) v.2)) ∧ (¬ ((v.1.1 6) = 3) → True))
set_option maxHeartbeats 4000000 in
set_option maxRecDepth 100000 in
theorem wX0_readEither_6 {X : CX} {cy : Nat → ClassId} {q : Nat → Nat} {D : va_G} {A : Nat → Prop} {res : OS} {lv lv1 : Nat} {F1 : OS → OS} {G1 : OS → Prop} (hlv : 20 ≤ lv) (hz1 : ∀ σ : OS, G1 σ → Con yX0_readBoth cX0_readBoth 2 none lv1 0 0 D (gty cy) [.ref (q 11)] (wX0 cy q σ) (eV (wX0 cy q (F1 σ)))) (hl1 : lv1 + 1 ≤ lv)   (C : Cx X cX0_readEither RX0 2 D (gty cy) A lv 0 0) (hR : Rt X none D (gty cy) A 0 0 (eV (wX0 cy q res))) (kR6 : OS × Int32 → OS) (kO6 : OS × Int32 → Prop) (hk6 : ∀ z, kO6 z → kR6 z = res → At X D A 2 0 0 6 [(0, .ref (q 11)), (1, .int z.2)] [] (wX0 cy q z.1)) (v : OS × Int32) (ok : kX0_readEither_6 F1 G1  kO6 v) (h : bX0_readEither_6 F1  kR6 v = res) : At X D A 2 0 0 6 [(0, .ref (q 11)), (1, .int v.2)] [] (wX0 cy q v.1) := by
  unfold bX0_readEither_6 at h
  unfold kX0_readEither_6 at ok
  refine r_iload_n C 1 (dall tdX0_readEither 4 rfl) rfl ?_
  refine r_sipush (v := 160) C (dall tdX0_readEither 5 rfl) (by decide) ?_
  refine r_icmp_ge (tgt := 41) C (dall tdX0_readEither 6 rfl) (by decide) (fun c3 => ?_) (fun c3 => ?_)
  · have h := (if_pos c3).symm.trans h
    have ok := ok.1 c3
    exact r_vret C hR (dall tdX0_readEither 20 rfl) (by subst h; exact ⟨rfl, rfl⟩)
  · have h := (if_neg c3).symm.trans h
    have ok := ok.2 c3
    refine r_aload_n C 0 (dall tdX0_readEither 7 rfl) rfl ?_
    refine r_get C 0 kw_X0 rfl rfl (by decide) kf_X0_61 rfl rfl (dall tdX0_readEither 8 rfl) ?_
    refine r_iconst (v := 3) C (dall tdX0_readEither 9 rfl) (by decide) ?_
    refine r_icmp_ne (tgt := 41) C (dall tdX0_readEither 10 rfl) (by decide) (fun c4 => ?_) (fun c4 => ?_)
    · have h := (if_neg c4).symm.trans h
      have ok := ok.2 c4
      exact r_vret C hR (dall tdX0_readEither 20 rfl) (by subst h; exact ⟨rfl, rfl⟩)
    · have h := (if_pos c4).symm.trans h
      have ok := ok.1 c4
      refine r_aload_n C 0 (dall tdX0_readEither 11 rfl) rfl ?_
      obtain ⟨o5, ok⟩ := ok
      refine r_vV (as := []) C (zX0_step cy q v.1  o5) mv_X0_step km_X0_37 (by omega) (by decide) ⟨Nat.le_refl _, Nat.le_refl _⟩ rfl rfl rfl rfl (Nat.le_of_ble_eq_true rfl) (dall tdX0_readEither 12 rfl) ?_
      exact wX0_readEither_25 hlv hz1 hl1 (fX0_step v.1) v.2 C hR kR6 kO6 hk6 ok h
set_option maxHeartbeats 4000000 in
set_option maxRecDepth 100000 in
theorem lX0_readEither_6 {X : CX} {cy : Nat → ClassId} {q : Nat → Nat} {D : va_G} {A : Nat → Prop} {res : OS} {lv lv1 : Nat} {F1 : OS → OS} {G1 : OS → Prop} (hlv : 20 ≤ lv) (hz1 : ∀ σ : OS, G1 σ → Con yX0_readBoth cX0_readBoth 2 none lv1 0 0 D (gty cy) [.ref (q 11)] (wX0 cy q σ) (eV (wX0 cy q (F1 σ)))) (hl1 : lv1 + 1 ≤ lv)   (C : Cx X cX0_readEither RX0 2 D (gty cy) A lv 0 0) (hR : Rt X none D (gty cy) A 0 0 (eV (wX0 cy q res)))  (n : Nat) (v : OS × Int32) (ok : lpOk (kX0_readEither_6 F1 G1  ) n v) (h : lp o0 (bX0_readEither_6 F1  ) n v = res) : At X D A 2 0 0 6 [(0, .ref (q 11)), (1, .int v.2)] [] (wX0 cy q v.1) :=
  lp_rule (fun v rr_ => rr_ = res → At X D A 2 0 0 6 [(0, .ref (q 11)), (1, .int v.2)] [] (wX0 cy q v.1)) (fun kR kO hk v ok h => wX0_readEither_6 hlv hz1 hl1  C hR  kR kO hk v ok h) n v ok h
def pX0_readEither_4 (F1 : OS → OS)  (σ : OS) : OS := lp o0 (bX0_readEither_6 F1  ) fu (σ, 0)
def oX0_readEither_4 (F1 : OS → OS) (G1 : OS → Prop)  (σ : OS) : Prop := lpOk (kX0_readEither_6 F1 G1  ) fu (σ, 0)
set_option maxHeartbeats 4000000 in
set_option maxRecDepth 100000 in
theorem wX0_readEither_4 {X : CX} {cy : Nat → ClassId} {q : Nat → Nat} {D : va_G} {A : Nat → Prop} {res : OS} {lv lv1 : Nat} {F1 : OS → OS} {G1 : OS → Prop} (hlv : 20 ≤ lv) (hz1 : ∀ σ : OS, G1 σ → Con yX0_readBoth cX0_readBoth 2 none lv1 0 0 D (gty cy) [.ref (q 11)] (wX0 cy q σ) (eV (wX0 cy q (F1 σ)))) (hl1 : lv1 + 1 ≤ lv)  (σ : OS) (C : Cx X cX0_readEither RX0 2 D (gty cy) A lv 0 0) (hR : Rt X none D (gty cy) A 0 0 (eV (wX0 cy q res)))  (ok : oX0_readEither_4 F1 G1  σ) (h : pX0_readEither_4 F1  σ = res) : At X D A 2 0 0 4 [(0, .ref (q 11))] [] (wX0 cy q σ) := by
  unfold pX0_readEither_4 at h
  unfold oX0_readEither_4 at ok
  refine r_iconst (v := 0) C (dall tdX0_readEither 2 rfl) (by decide) ?_
  refine r_istore_n (lv' := [(1, .int 0), (0, .ref (q 11))]) C (dall tdX0_readEither 3 rfl) (by decide) rfl ?_
  refine r_pick [1, 0] rfl ?_
  exact lX0_readEither_6 hlv hz1 hl1  C hR  fu _ ok h
def pX0_readEither_0 (F1 : OS → OS)  (σ : OS) : OS := pX0_readEither_4 F1  (F1 σ)
def oX0_readEither_0 (F1 : OS → OS) (G1 : OS → Prop)  (σ : OS) : Prop := (G1 σ ) ∧ (oX0_readEither_4 F1 G1  (F1 σ))
set_option maxHeartbeats 4000000 in
set_option maxRecDepth 100000 in
theorem wX0_readEither_0 {X : CX} {cy : Nat → ClassId} {q : Nat → Nat} {D : va_G} {A : Nat → Prop} {res : OS} {lv lv1 : Nat} {F1 : OS → OS} {G1 : OS → Prop} (hlv : 20 ≤ lv) (hz1 : ∀ σ : OS, G1 σ → Con yX0_readBoth cX0_readBoth 2 none lv1 0 0 D (gty cy) [.ref (q 11)] (wX0 cy q σ) (eV (wX0 cy q (F1 σ)))) (hl1 : lv1 + 1 ≤ lv)  (σ : OS) (C : Cx X cX0_readEither RX0 2 D (gty cy) A lv 0 0) (hR : Rt X none D (gty cy) A 0 0 (eV (wX0 cy q res)))  (ok : oX0_readEither_0 F1 G1  σ) (h : pX0_readEither_0 F1  σ = res) : At X D A 2 0 0 0 [(0, .ref (q 11))] [] (wX0 cy q σ) := by
  unfold pX0_readEither_0 at h
  unfold oX0_readEither_0 at ok
  refine r_aload_n C 0 (dall tdX0_readEither 0 rfl) rfl ?_
  obtain ⟨o6, ok⟩ := ok
  refine r_vV (as := []) C (hz1  σ  o6) mv_X0_readBoth km_X0_58 hl1 (by decide) ⟨Nat.le_refl _, Nat.le_refl _⟩ rfl rfl rfl rfl (Nat.le_of_ble_eq_true rfl) (dall tdX0_readEither 1 rfl) ?_
  exact wX0_readEither_4 hlv hz1 hl1 (F1 σ) C hR  ok h
def fX0_readEither (F1 : OS → OS) (σ : OS) : OS := pX0_readEither_0 F1  σ
def gX0_readEither (F1 : OS → OS) (G1 : OS → Prop) (σ : OS) : Prop := oX0_readEither_0 F1 G1  σ
set_option maxRecDepth 100000 in
theorem zX0_readEither (cy : Nat → ClassId) (q : Nat → Nat)  {lv lv1 : Nat} {F1 : OS → OS} {G1 : OS → Prop}  {D : va_G} (hlv : 20 ≤ lv) (hz1 : ∀ σ : OS, G1 σ → Con yX0_readBoth cX0_readBoth 2 none lv1 0 0 D (gty cy) [.ref (q 11)] (wX0 cy q σ) (eV (wX0 cy q (F1 σ)))) (hl1 : lv1 + 1 ≤ lv) (σ : OS) (ok : gX0_readEither F1 G1 σ )  : Con yX0_readEither cX0_readEither 2 none lv 0 0 D (gty cy) [.ref (q 11)] (wX0 cy q σ) (eV (wX0 cy q (fX0_readEither F1 σ ))) :=
  Con.of (own := RX0) (by decide +kernel) rfl (Nat.le_of_ble_eq_true rfl) (Nat.zero_le _) (fun X A C hR _ => (wX0_readEither_0 hlv hz1 hl1 σ C hR  ok rfl))
end
section
/-- readOne, readNot, readEither with d more that may be open -/
def rdF : Nat → (OS → OS) × (OS → OS) × (OS → OS)
  | 0 => (fun σ => σ, fun σ => σ, fun σ => σ)
  | d + 1 => (fX0_readOne (rdF d).1 (rdF d).2.2, fX0_readNot (rdF d).2.1 (fX0_readSum (fX0_readTerm (fX0_readOne (rdF d).1 (rdF d).2.2))), fX0_readEither (fX0_readBoth (fX0_readNot (rdF d).2.1 (fX0_readSum (fX0_readTerm (fX0_readOne (rdF d).1 (rdF d).2.2))))))
def rdG : Nat → (OS → Prop) × (OS → Prop) × (OS → Prop)
  | 0 => (fun _ => False, fun _ => False, fun _ => False)
  | d + 1 => (gX0_readOne (rdF d).1 (rdF d).2.2 (rdG d).1 (rdG d).2.2,
    gX0_readNot (rdF d).2.1 (fX0_readSum (fX0_readTerm (fX0_readOne (rdF d).1 (rdF d).2.2))) (rdG d).2.1 (gX0_readSum (fX0_readTerm (fX0_readOne (rdF d).1 (rdF d).2.2)) (gX0_readTerm (fX0_readOne (rdF d).1 (rdF d).2.2) (gX0_readOne (rdF d).1 (rdF d).2.2 (rdG d).1 (rdG d).2.2))),
    gX0_readEither (fX0_readBoth (fX0_readNot (rdF d).2.1 (fX0_readSum (fX0_readTerm (fX0_readOne (rdF d).1 (rdF d).2.2))))) (gX0_readBoth (fX0_readNot (rdF d).2.1 (fX0_readSum (fX0_readTerm (fX0_readOne (rdF d).1 (rdF d).2.2)))) (gX0_readNot (rdF d).2.1 (fX0_readSum (fX0_readTerm (fX0_readOne (rdF d).1 (rdF d).2.2))) (rdG d).2.1 (gX0_readSum (fX0_readTerm (fX0_readOne (rdF d).1 (rdF d).2.2)) (gX0_readTerm (fX0_readOne (rdF d).1 (rdF d).2.2) (gX0_readOne (rdF d).1 (rdF d).2.2 (rdG d).1 (rdG d).2.2))))))
theorem rd_con (cy : Nat → ClassId) (q : Nat → Nat) {D : va_G} : ∀ d : Nat,
    (∀ σ : OS, (rdG d).1 σ → Con yX0_readOne cX0_readOne 1 none (20 + 8 * d + 1) 0 0 D (gty cy) [.ref (q 11)] (wX0 cy q σ) (eV (wX0 cy q ((rdF d).1 σ)))) ∧
    (∀ σ : OS, (rdG d).2.1 σ → Con yX0_readNot cX0_readNot 2 none (20 + 8 * d + 4) 0 0 D (gty cy) [.ref (q 11)] (wX0 cy q σ) (eV (wX0 cy q ((rdF d).2.1 σ)))) ∧
    (∀ σ : OS, (rdG d).2.2 σ → Con yX0_readEither cX0_readEither 2 none (20 + 8 * d + 6) 0 0 D (gty cy) [.ref (q 11)] (wX0 cy q σ) (eV (wX0 cy q ((rdF d).2.2 σ))))
  | 0 => ⟨fun _ h => h.elim, fun _ h => h.elim, fun _ h => h.elim⟩
  | d + 1 => by
    obtain ⟨h1, h2, h3⟩ := rd_con cy q (D := D) d
    have one := zX0_readOne cy q (lv := 20 + 8 * (d + 1) + 1) (by omega) h1 (by omega) h3 (by omega)
    have term := zX0_readTerm cy q (lv := 20 + 8 * (d + 1) + 2) (by omega) one (by omega)
    have sum := zX0_readSum cy q (lv := 20 + 8 * (d + 1) + 3) (by omega) term (by omega)
    have nt := zX0_readNot cy q (lv := 20 + 8 * (d + 1) + 4) (by omega) h2 (by omega) sum (by omega)
    have both := zX0_readBoth cy q (lv := 20 + 8 * (d + 1) + 5) (by omega) nt (by omega)
    exact ⟨one, nt, zX0_readEither cy q (lv := 20 + 8 * (d + 1) + 6) (by omega) both (by omega)⟩
def fX0_readEither_ (σ : OS) : OS := (rdF 6).2.2 σ
def gX0_readEither_ (σ : OS) : Prop := (rdG 6).2.2 σ
theorem zX0_readEither_ (cy : Nat → ClassId) (q : Nat → Nat) {D : va_G} (σ : OS) (ok : gX0_readEither_ σ) : Con yX0_readEither cX0_readEither 2 none 74 0 0 D (gty cy) [.ref (q 11)] (wX0 cy q σ) (eV (wX0 cy q (fX0_readEither_ σ))) := (rd_con cy q 6).2.2 σ ok
def tbX0_read : List (Nat × Instr × Nat) := [(0, .aload_n 0, 1), (1, .iconst 0, 1), (2, .putfield 25, 3), (5, .aload_n 0, 1), (6, .iconst 0, 1), (7, .putfield 28, 3), (10, .aload_n 0, 1), (11, .iconst 0, 1), (12, .putfield 31, 3), (15, .aload_n 0, 1), (16, .iconst (-1), 1), (17, .putfield 34, 3), (20, .aload_n 0, 1), (21, .invokevirtual 37, 3), (24, .iconst 0, 1), (25, .istore_n 1, 1), (26, .iload_n 1, 1), (27, .iconst 3, 1), (28, .if_icmp .ge 36, 3), (31, .aload_n 0, 1), (32, .iconst 0, 1), (33, .iload_n 1, 1), (34, .iadd, 1), (35, .invokevirtual 40, 3), (38, .aload_n 0, 1), (39, .invokevirtual 44, 3), (42, .aload_n 0, 1), (43, .bipush 14, 2), (45, .invokevirtual 40, 3), (48, .aload_n 0, 1), (49, .getfield 18, 3), (52, .iload_n 1, 1), (53, .aload_n 0, 1), (54, .getfield 25, 3), (57, .iastore, 1), (58, .iinc 1 1, 3), (61, .goto (-35), 3), (64, .aload_n 0, 1), (65, .bipush 21, 2), (67, .invokevirtual 40, 3), (70, .aload_n 0, 1), (71, .iconst 0, 1), (72, .putfield 21, 3), (75, .aload_n 0, 1), (76, .getfield 34, 3), (79, .ireturn, 1)]
theorem tdX0_read : tbX0_read.all (fun q => decide (decode cX0_read q.1 = .ok q.2)) = true := by decide +kernel
def pX0_read_70  (σ : OS) : Int32 × OS := ((oI σ 0 0).1 10, oI σ 0 0)
set_option maxHeartbeats 4000000 in
set_option maxRecDepth 100000 in
theorem wX0_read_70 {X : CX} {cy : Nat → ClassId} {q : Nat → Nat} {D : va_G} {A : Nat → Prop} {res : Int32 × OS} (σ : OS) (C : Cx X cX0_read RX0 2 D (gty cy) A 75 0 0) (hR : Rt X (some .int) D (gty cy) A 0 0 (eI (wX0 cy q res.2) res.1))  (h : pX0_read_70  σ = res) : At X D A 2 0 0 70 [(0, .ref (q 11))] [] (wX0 cy q σ) := by
  unfold pX0_read_70 at h
  refine r_aload_n C 0 (dall tdX0_read 40 rfl) rfl ?_
  refine r_iconst (v := 0) C (dall tdX0_read 41 rfl) (by decide) ?_
  refine r_put C 0 kw_X0 tyX0_ok nmX0 rfl rfl (by decide) kf_X0_21 rfl rfl rfl rfl rfl (Nat.le_of_ble_eq_true rfl) (pu_X0_this_0 cy q σ 0) (dall tdX0_read 42 rfl) ?_
  refine r_aload_n C 0 (dall tdX0_read 43 rfl) rfl ?_
  refine r_get C 0 kw_X0 rfl rfl (by decide) kf_X0_34 rfl rfl (dall tdX0_read 44 rfl) ?_
  exact r_iret C hR (dall tdX0_read 45 rfl) (by subst h; exact ⟨rfl, rfl⟩)
def pX0_read_48 (kR26 : OS × Int32 → Int32 × OS) (σ : OS) (a1_ : Int32) : Int32 × OS := kR26 (oS σ 3 a1_.toNatClampNeg (σ.1 4), a1_ + 1)
def oX0_read_48 (kO26 : OS × Int32 → Prop) (σ : OS) (a1_ : Int32) : Prop := (vp_in a1_ 3) ∧ (kO26 (oS σ 3 a1_.toNatClampNeg (σ.1 4), a1_ + 1))
set_option maxHeartbeats 4000000 in
set_option maxRecDepth 100000 in
theorem wX0_read_48 {X : CX} {cy : Nat → ClassId} {q : Nat → Nat} {D : va_G} {A : Nat → Prop} {res : Int32 × OS} (σ : OS) (a1_ : Int32) (C : Cx X cX0_read RX0 2 D (gty cy) A 75 0 0) (hR : Rt X (some .int) D (gty cy) A 0 0 (eI (wX0 cy q res.2) res.1)) (kR26 : OS × Int32 → Int32 × OS) (kO26 : OS × Int32 → Prop) (hk26 : ∀ z, kO26 z → kR26 z = res → At X D A 2 0 0 26 [(0, .ref (q 11)), (1, .int z.2)] [] (wX0 cy q z.1)) (ok : oX0_read_48 kO26 σ a1_) (h : pX0_read_48 kR26 σ a1_ = res) : At X D A 2 0 0 48 [(0, .ref (q 11)), (1, .int a1_)] [] (wX0 cy q σ) := by
  unfold pX0_read_48 at h
  unfold oX0_read_48 at ok
  refine r_aload_n C 0 (dall tdX0_read 29 rfl) rfl ?_
  refine r_get C 0 kw_X0 rfl rfl (by decide) kf_X0_18 rfl rfl (dall tdX0_read 30 rfl) ?_
  refine r_iload_n C 1 (dall tdX0_read 31 rfl) rfl ?_
  refine r_aload_n C 0 (dall tdX0_read 32 rfl) rfl ?_
  refine r_get C 0 kw_X0 rfl rfl (by decide) kf_X0_25 rfl rfl (dall tdX0_read 33 rfl) ?_
  obtain ⟨o1, ok⟩ := ok
  refine r_iast C 3 0 rfl rfl o1 (pa_X0_this_3 cy q σ a1_.toNatClampNeg (σ.1 4)) (dall tdX0_read 34 rfl) ?_
  refine r_iinc (v := a1_ + 1) (lv' := [(1, .int (a1_ + 1)), (0, .ref (q 11))]) C 1 (dall tdX0_read 35 rfl) rfl rfl (by decide) rfl ?_
  refine r_goto (tgt := 26) C (dall tdX0_read 36 rfl) (by decide) ?_
  refine r_pick [1, 0] rfl ?_
  exact hk26 (oS σ 3 a1_.toNatClampNeg (σ.1 4), a1_ + 1) ok h
def pX0_read_42 (kR26 : OS × Int32 → Int32 × OS) (σ : OS) (a1_ : Int32) : Int32 × OS := pX0_read_48 kR26 (fX0_expect σ 14) a1_
def oX0_read_42 (kO26 : OS × Int32 → Prop) (σ : OS) (a1_ : Int32) : Prop := (gX0_expect σ 14) ∧ (oX0_read_48 kO26 (fX0_expect σ 14) a1_)
set_option maxHeartbeats 4000000 in
set_option maxRecDepth 100000 in
theorem wX0_read_42 {X : CX} {cy : Nat → ClassId} {q : Nat → Nat} {D : va_G} {A : Nat → Prop} {res : Int32 × OS} (σ : OS) (a1_ : Int32) (C : Cx X cX0_read RX0 2 D (gty cy) A 75 0 0) (hR : Rt X (some .int) D (gty cy) A 0 0 (eI (wX0 cy q res.2) res.1)) (kR26 : OS × Int32 → Int32 × OS) (kO26 : OS × Int32 → Prop) (hk26 : ∀ z, kO26 z → kR26 z = res → At X D A 2 0 0 26 [(0, .ref (q 11)), (1, .int z.2)] [] (wX0 cy q z.1)) (ok : oX0_read_42 kO26 σ a1_) (h : pX0_read_42 kR26 σ a1_ = res) : At X D A 2 0 0 42 [(0, .ref (q 11)), (1, .int a1_)] [] (wX0 cy q σ) := by
  unfold pX0_read_42 at h
  unfold oX0_read_42 at ok
  refine r_aload_n C 0 (dall tdX0_read 26 rfl) rfl ?_
  refine r_bipush (v := 14) C (dall tdX0_read 27 rfl) (by decide) ?_
  obtain ⟨o2, ok⟩ := ok
  refine r_vV (as := [.int 14]) C (zX0_expect cy q σ 14 o2) mv_X0_expect km_X0_40 (by decide) (by decide) ⟨Nat.le_refl _, Nat.le_refl _⟩ rfl rfl rfl rfl (Nat.le_of_ble_eq_true rfl) (dall tdX0_read 28 rfl) ?_
  exact wX0_read_48 (fX0_expect σ 14) a1_ C hR kR26 kO26 hk26 ok h
def pX0_read_38 (kR26 : OS × Int32 → Int32 × OS) (σ : OS) (a1_ : Int32) : Int32 × OS := pX0_read_42 kR26 (fX0_readEither_ σ) a1_
def oX0_read_38 (kO26 : OS × Int32 → Prop) (σ : OS) (a1_ : Int32) : Prop := (gX0_readEither_ σ ) ∧ (oX0_read_42 kO26 (fX0_readEither_ σ) a1_)
set_option maxHeartbeats 4000000 in
set_option maxRecDepth 100000 in
theorem wX0_read_38 {X : CX} {cy : Nat → ClassId} {q : Nat → Nat} {D : va_G} {A : Nat → Prop} {res : Int32 × OS} (σ : OS) (a1_ : Int32) (C : Cx X cX0_read RX0 2 D (gty cy) A 75 0 0) (hR : Rt X (some .int) D (gty cy) A 0 0 (eI (wX0 cy q res.2) res.1)) (kR26 : OS × Int32 → Int32 × OS) (kO26 : OS × Int32 → Prop) (hk26 : ∀ z, kO26 z → kR26 z = res → At X D A 2 0 0 26 [(0, .ref (q 11)), (1, .int z.2)] [] (wX0 cy q z.1)) (ok : oX0_read_38 kO26 σ a1_) (h : pX0_read_38 kR26 σ a1_ = res) : At X D A 2 0 0 38 [(0, .ref (q 11)), (1, .int a1_)] [] (wX0 cy q σ) := by
  unfold pX0_read_38 at h
  unfold oX0_read_38 at ok
  refine r_aload_n C 0 (dall tdX0_read 24 rfl) rfl ?_
  obtain ⟨o3, ok⟩ := ok
  refine r_vV (as := []) C (zX0_readEither_ cy q σ  o3) mv_X0_readEither km_X0_44 (by decide) (by decide) ⟨Nat.le_refl _, Nat.le_refl _⟩ rfl rfl rfl rfl (Nat.le_of_ble_eq_true rfl) (dall tdX0_read 25 rfl) ?_
  exact wX0_read_42 (fX0_readEither_ σ) a1_ C hR kR26 kO26 hk26 ok h
def bX0_read_26   (kR26 : OS × Int32 → Int32 × OS) (v : OS × Int32) : Int32 × OS := if 3 ≤ v.2 then pX0_read_70  (fX0_expect v.1 21) else pX0_read_38 kR26 (fX0_expect v.1 (0 + v.2)) v.2
def kX0_read_26   (kO26 : OS × Int32 → Prop) (v : OS × Int32) : Prop := (3 ≤ v.2 → gX0_expect v.1 21) ∧ (¬ (3 ≤ v.2) → (gX0_expect v.1 (0 + v.2)) ∧ (oX0_read_38 kO26 (fX0_expect v.1 (0 + v.2)) v.2))
set_option maxHeartbeats 4000000 in
set_option maxRecDepth 100000 in
theorem wX0_read_26 {X : CX} {cy : Nat → ClassId} {q : Nat → Nat} {D : va_G} {A : Nat → Prop} {res : Int32 × OS}  (C : Cx X cX0_read RX0 2 D (gty cy) A 75 0 0) (hR : Rt X (some .int) D (gty cy) A 0 0 (eI (wX0 cy q res.2) res.1)) (kR26 : OS × Int32 → Int32 × OS) (kO26 : OS × Int32 → Prop) (hk26 : ∀ z, kO26 z → kR26 z = res → At X D A 2 0 0 26 [(0, .ref (q 11)), (1, .int z.2)] [] (wX0 cy q z.1)) (v : OS × Int32) (ok : kX0_read_26  kO26 v) (h : bX0_read_26  kR26 v = res) : At X D A 2 0 0 26 [(0, .ref (q 11)), (1, .int v.2)] [] (wX0 cy q v.1) := by
  unfold bX0_read_26 at h
  unfold kX0_read_26 at ok
  refine r_iload_n C 1 (dall tdX0_read 16 rfl) rfl ?_
  refine r_iconst (v := 3) C (dall tdX0_read 17 rfl) (by decide) ?_
  refine r_icmp_ge (tgt := 64) C (dall tdX0_read 18 rfl) (by decide) (fun c4 => ?_) (fun c4 => ?_)
  · have h := (if_pos c4).symm.trans h
    have ok := ok.1 c4
    refine r_aload_n C 0 (dall tdX0_read 37 rfl) rfl ?_
    refine r_bipush (v := 21) C (dall tdX0_read 38 rfl) (by decide) ?_
    have o5 := ok
    refine r_vV (as := [.int 21]) C (zX0_expect cy q v.1 21 o5) mv_X0_expect km_X0_40 (by decide) (by decide) ⟨Nat.le_refl _, Nat.le_refl _⟩ rfl rfl rfl rfl (Nat.le_of_ble_eq_true rfl) (dall tdX0_read 39 rfl) ?_
    refine r_pick [0] rfl ?_
    exact wX0_read_70 (fX0_expect v.1 21) C hR  h
  · have h := (if_neg c4).symm.trans h
    have ok := ok.2 c4
    refine r_aload_n C 0 (dall tdX0_read 19 rfl) rfl ?_
    refine r_iconst (v := 0) C (dall tdX0_read 20 rfl) (by decide) ?_
    refine r_iload_n C 1 (dall tdX0_read 21 rfl) rfl ?_
    refine r_iadd C (dall tdX0_read 22 rfl) ?_
    obtain ⟨o6, ok⟩ := ok
    refine r_vV (as := [.int (0 + v.2)]) C (zX0_expect cy q v.1 (0 + v.2) o6) mv_X0_expect km_X0_40 (by decide) (by decide) ⟨Nat.le_refl _, Nat.le_refl _⟩ rfl rfl rfl rfl (Nat.le_of_ble_eq_true rfl) (dall tdX0_read 23 rfl) ?_
    exact wX0_read_38 (fX0_expect v.1 (0 + v.2)) v.2 C hR kR26 kO26 hk26 ok h
set_option maxHeartbeats 4000000 in
set_option maxRecDepth 100000 in
theorem lX0_read_26 {X : CX} {cy : Nat → ClassId} {q : Nat → Nat} {D : va_G} {A : Nat → Prop} {res : Int32 × OS}  (C : Cx X cX0_read RX0 2 D (gty cy) A 75 0 0) (hR : Rt X (some .int) D (gty cy) A 0 0 (eI (wX0 cy q res.2) res.1))  (n : Nat) (v : OS × Int32) (ok : lpOk (kX0_read_26  ) n v) (h : lp (0, o0) (bX0_read_26  ) n v = res) : At X D A 2 0 0 26 [(0, .ref (q 11)), (1, .int v.2)] [] (wX0 cy q v.1) :=
  lp_rule (fun v rr_ => rr_ = res → At X D A 2 0 0 26 [(0, .ref (q 11)), (1, .int v.2)] [] (wX0 cy q v.1)) (fun kR kO hk v ok h => wX0_read_26  C hR  kR kO hk v ok h) n v ok h
def pX0_read_24  (σ : OS) : Int32 × OS := lp (0, o0) (bX0_read_26  ) fu (σ, 0)
def oX0_read_24  (σ : OS) : Prop := lpOk (kX0_read_26  ) fu (σ, 0)
set_option maxHeartbeats 4000000 in
set_option maxRecDepth 100000 in
theorem wX0_read_24 {X : CX} {cy : Nat → ClassId} {q : Nat → Nat} {D : va_G} {A : Nat → Prop} {res : Int32 × OS} (σ : OS) (C : Cx X cX0_read RX0 2 D (gty cy) A 75 0 0) (hR : Rt X (some .int) D (gty cy) A 0 0 (eI (wX0 cy q res.2) res.1))  (ok : oX0_read_24  σ) (h : pX0_read_24  σ = res) : At X D A 2 0 0 24 [(0, .ref (q 11))] [] (wX0 cy q σ) := by
  unfold pX0_read_24 at h
  unfold oX0_read_24 at ok
  refine r_iconst (v := 0) C (dall tdX0_read 14 rfl) (by decide) ?_
  refine r_istore_n (lv' := [(1, .int 0), (0, .ref (q 11))]) C (dall tdX0_read 15 rfl) (by decide) rfl ?_
  refine r_pick [1, 0] rfl ?_
  exact lX0_read_26  C hR  fu _ ok h
def pX0_read_0  (σ : OS) : Int32 × OS := pX0_read_24  (fX0_step (oI (oI (oI (oI σ 4 0) 5 0) 9 0) 10 (-1)))
def oX0_read_0  (σ : OS) : Prop := (gX0_step (oI (oI (oI (oI σ 4 0) 5 0) 9 0) 10 (-1)) ) ∧ (oX0_read_24  (fX0_step (oI (oI (oI (oI σ 4 0) 5 0) 9 0) 10 (-1))))
set_option maxHeartbeats 4000000 in
set_option maxRecDepth 100000 in
theorem wX0_read_0 {X : CX} {cy : Nat → ClassId} {q : Nat → Nat} {D : va_G} {A : Nat → Prop} {res : Int32 × OS} (σ : OS) (C : Cx X cX0_read RX0 2 D (gty cy) A 75 0 0) (hR : Rt X (some .int) D (gty cy) A 0 0 (eI (wX0 cy q res.2) res.1))  (ok : oX0_read_0  σ) (h : pX0_read_0  σ = res) : At X D A 2 0 0 0 [(0, .ref (q 11))] [] (wX0 cy q σ) := by
  unfold pX0_read_0 at h
  unfold oX0_read_0 at ok
  refine r_aload_n C 0 (dall tdX0_read 0 rfl) rfl ?_
  refine r_iconst (v := 0) C (dall tdX0_read 1 rfl) (by decide) ?_
  refine r_put C 0 kw_X0 tyX0_ok nmX0 rfl rfl (by decide) kf_X0_25 rfl rfl rfl rfl rfl (Nat.le_of_ble_eq_true rfl) (pu_X0_this_4 cy q σ 0) (dall tdX0_read 2 rfl) ?_
  refine r_aload_n C 0 (dall tdX0_read 3 rfl) rfl ?_
  refine r_iconst (v := 0) C (dall tdX0_read 4 rfl) (by decide) ?_
  refine r_put C 0 kw_X0 tyX0_ok nmX0 rfl rfl (by decide) kf_X0_28 rfl rfl rfl rfl rfl (Nat.le_of_ble_eq_true rfl) (pu_X0_this_5 cy q (oI σ 4 0) 0) (dall tdX0_read 5 rfl) ?_
  refine r_aload_n C 0 (dall tdX0_read 6 rfl) rfl ?_
  refine r_iconst (v := 0) C (dall tdX0_read 7 rfl) (by decide) ?_
  refine r_put C 0 kw_X0 tyX0_ok nmX0 rfl rfl (by decide) kf_X0_31 rfl rfl rfl rfl rfl (Nat.le_of_ble_eq_true rfl) (pu_X0_this_9 cy q (oI (oI σ 4 0) 5 0) 0) (dall tdX0_read 8 rfl) ?_
  refine r_aload_n C 0 (dall tdX0_read 9 rfl) rfl ?_
  refine r_iconst (v := -1) C (dall tdX0_read 10 rfl) (by decide) ?_
  refine r_put C 0 kw_X0 tyX0_ok nmX0 rfl rfl (by decide) kf_X0_34 rfl rfl rfl rfl rfl (Nat.le_of_ble_eq_true rfl) (pu_X0_this_10 cy q (oI (oI (oI σ 4 0) 5 0) 9 0) (-1)) (dall tdX0_read 11 rfl) ?_
  refine r_aload_n C 0 (dall tdX0_read 12 rfl) rfl ?_
  obtain ⟨o7, ok⟩ := ok
  refine r_vV (as := []) C (zX0_step cy q (oI (oI (oI (oI σ 4 0) 5 0) 9 0) 10 (-1))  o7) mv_X0_step km_X0_37 (by decide) (by decide) ⟨Nat.le_refl _, Nat.le_refl _⟩ rfl rfl rfl rfl (Nat.le_of_ble_eq_true rfl) (dall tdX0_read 13 rfl) ?_
  exact wX0_read_24 (fX0_step (oI (oI (oI (oI σ 4 0) 5 0) 9 0) 10 (-1))) C hR  ok h
def fX0_read (σ : OS) : Int32 × OS := pX0_read_0  σ
def gX0_read (σ : OS) : Prop := oX0_read_0  σ
set_option maxRecDepth 100000 in
theorem zX0_read (cy : Nat → ClassId) (q : Nat → Nat)  {D : va_G} (σ : OS) (ok : gX0_read σ )  : Con yX0_read cX0_read 2 (some .int) 75 0 0 D (gty cy) [.ref (q 11)] (wX0 cy q σ) (eI (wX0 cy q (fX0_read σ ).2) (fX0_read σ ).1) :=
  Con.of (own := RX0) (by decide +kernel) rfl (Nat.le_of_ble_eq_true rfl) (Nat.zero_le _) (fun X A C hR _ => (wX0_read_0 σ C hR  ok rfl))
theorem mv_X0_read : MV yX0_read cX0_read 2 (some .int) RX0 0 := ⟨ki_X0_read, kv_X0_read, kn_X0, kc_X0_read, by decide +kernel⟩
end
section
def wV (cy : Nat → ClassId) (q : Nat → Nat) (nc : Nat) (ρ σ : OS) : va_W := [(q 2, .inr (2, [.ref (q 0), .ref (q 1)])), (q 0, .inl (cy 0, nc, .inl (ρ.2.2.1 0))), (q 1, .inl (cy 0, 3, .inl (ρ.2.2.1 1))), (q 3, .inl (cy 0, 6, .inl (ρ.2.2.1 3))), (q 4, .inl (cy 0, 160, .inl (σ.2.2.1 4)))]
theorem pa_V_sk_4 (cy : Nat → ClassId) (q : Nat → Nat) (nc : Nat) (ρ σ : OS) (i : Nat) (x : Int32) : (wV cy q nc ρ σ).set 4 (q 4, .inl (cy 0, 160, .inl (upd (σ.2.2.1 4) i x))) = wV cy q nc ρ (oS σ 4 i x) := rfl
def tbX2_value : List (Nat × Instr × Nat) := [(0, .iconst 0, 1), (1, .istore 4, 2), (3, .iload_n 1, 1), (4, .ifCond .ne 7, 3), (7, .iconst 0, 1), (8, .goto 11, 3), (11, .aload_n 0, 1), (12, .getfield 13, 3), (15, .iload_n 1, 1), (16, .iconst 1, 1), (17, .isub, 1), (18, .iaload, 1), (19, .istore 5, 2), (21, .iload 5, 2), (23, .istore 6, 2), (25, .iload 6, 2), (27, .aload_n 0, 1), (28, .getfield 13, 3), (31, .iload_n 1, 1), (32, .iaload, 1), (33, .if_icmp .ge 167, 3), (36, .iload 4, 2), (38, .aload_n 3, 1), (39, .arraylength, 1), (40, .if_icmp .ge 160, 3), (43, .aload_n 0, 1), (44, .getfield 7, 3), (47, .iload 6, 2), (49, .iaload, 1), (50, .istore 7, 2), (52, .iload 7, 2), (54, .iconst (-1), 1), (55, .ixor, 1), (56, .istore 8, 2), (58, .iload 7, 2), (60, .ifCond .lt 15, 3), (63, .aload_n 3, 1), (64, .iload 4, 2), (66, .iload 7, 2), (68, .iastore, 1), (69, .iinc 4 1, 3), (72, .goto 122, 3), (75, .iload 8, 2), (77, .invokestatic 16, 3), (80, .ifCond .eq 20, 3), (83, .aload_n 3, 1), (84, .iload 4, 2), (86, .aload_n 2, 1), (87, .iload 8, 2), (89, .bipush 6, 2), (91, .isub, 1), (92, .iaload, 1), (93, .iastore, 1), (94, .iinc 4 1, 3), (97, .goto 97, 3), (100, .iload 8, 2), (102, .iconst 5, 1), (103, .if_icmp .ne 32, 3), (106, .iload 4, 2), (108, .iconst 1, 1), (109, .if_icmp .lt 26, 3), (112, .aload_n 3, 1), (113, .iload 4, 2), (115, .iconst 1, 1), (116, .isub, 1), (117, .aload_n 3, 1), (118, .iload 4, 2), (120, .iconst 1, 1), (121, .isub, 1), (122, .iaload, 1), (123, .ifCond .ne 7, 3), (126, .iconst 1, 1), (127, .goto 4, 3), (130, .iconst 0, 1), (131, .iastore, 1), (132, .goto 62, 3), (135, .iload 8, 2), (137, .bipush 23, 2), (139, .if_icmp .ne 25, 3), (142, .iload 4, 2), (144, .iconst 1, 1), (145, .if_icmp .lt 19, 3), (148, .aload_n 3, 1), (149, .iload 4, 2), (151, .iconst 1, 1), (152, .isub, 1), (153, .aload_n 3, 1), (154, .iload 4, 2), (156, .iconst 1, 1), (157, .isub, 1), (158, .iaload, 1), (159, .ineg, 1), (160, .iastore, 1), (161, .goto 33, 3), (164, .iload 4, 2), (166, .iconst 2, 1), (167, .if_icmp .lt 27, 3), (170, .iinc 4 (-1), 3), (173, .aload_n 3, 1), (174, .iload 4, 2), (176, .iconst 1, 1), (177, .isub, 1), (178, .iload 8, 2), (180, .aload_n 3, 1), (181, .iload 4, 2), (183, .iconst 1, 1), (184, .isub, 1), (185, .iaload, 1), (186, .aload_n 3, 1), (187, .iload 4, 2), (189, .iaload, 1), (190, .invokestatic 22, 3), (193, .iastore, 1), (194, .iinc 6 1, 3), (197, .goto (-172), 3), (200, .aload_n 3, 1), (201, .iconst 0, 1), (202, .iaload, 1), (203, .ireturn, 1)]
theorem tdX2_value : tbX2_value.all (fun q => decide (decode cX2_value q.1 = .ok q.2)) = true := by decide +kernel
def pX2_value_194 (nc : Nat) (ρ : OS) (kR25 : OS × Int32 × Int32 → Int32 × OS) (σ : OS) (a1_ : Int32) (a4_ : Int32) (a6_ : Int32) : Int32 × OS := kR25 (σ, a4_, a6_ + 1)
def oX2_value_194 (nc : Nat) (ρ : OS) (kO25 : OS × Int32 × Int32 → Prop) (σ : OS) (a1_ : Int32) (a4_ : Int32) (a6_ : Int32) : Prop := kO25 (σ, a4_, a6_ + 1)
set_option maxHeartbeats 4000000 in
set_option maxRecDepth 100000 in
theorem wX2_value_194 {X : CX} {cy : Nat → ClassId} {q : Nat → Nat} {nc : Nat} {ρ : OS} {D : va_G} {A : Nat → Prop} {res : Int32 × OS} (σ : OS) (a1_ : Int32) (a4_ : Int32) (a6_ : Int32) (C : Cx X cX2_value RX2 9 D (gty cy) A 1 0 0) (hR : Rt X (some .int) D (gty cy) A 0 0 (eI (wV cy q nc ρ res.2) res.1)) (kR25 : OS × Int32 × Int32 → Int32 × OS) (kO25 : OS × Int32 × Int32 → Prop) (hk25 : ∀ z, kO25 z → kR25 z = res → At X D A 9 0 0 25 [(0, .ref (q 2)), (1, .int a1_), (2, .ref (q 3)), (3, .ref (q 4)), (4, .int z.2.1), (6, .int z.2.2)] [] (wV cy q nc ρ z.1)) (ok : oX2_value_194 nc ρ kO25 σ a1_ a4_ a6_) (h : pX2_value_194 nc ρ kR25 σ a1_ a4_ a6_ = res) : At X D A 9 0 0 194 [(0, .ref (q 2)), (1, .int a1_), (2, .ref (q 3)), (3, .ref (q 4)), (4, .int a4_), (6, .int a6_)] [] (wV cy q nc ρ σ) := by
  unfold pX2_value_194 at h
  unfold oX2_value_194 at ok
  refine r_iinc (v := a6_ + 1) (lv' := [(6, .int (a6_ + 1)), (0, .ref (q 2)), (1, .int a1_), (2, .ref (q 3)), (3, .ref (q 4)), (4, .int a4_)]) C 5 (dall tdX2_value 113 rfl) rfl rfl (by decide) rfl ?_
  refine r_goto (tgt := 25) C (dall tdX2_value 114 rfl) (by decide) ?_
  refine r_pick [1, 2, 3, 4, 5, 0] rfl ?_
  exact hk25 (σ, a4_, a6_ + 1) ok h
def pX2_value_164 (nc : Nat) (ρ : OS) (kR25 : OS × Int32 × Int32 → Int32 × OS) (σ : OS) (a1_ : Int32) (a4_ : Int32) (a6_ : Int32) (a8_ : Int32) : Int32 × OS := if a4_ < 2 then pX2_value_194 nc ρ kR25 σ a1_ a4_ a6_ else pX2_value_194 nc ρ kR25 (oS σ 4 (((a4_ + (-1)) - 1).toNatClampNeg) (fX2_joined a8_ (σ.2.2.1 4 ((a4_ + (-1)) - 1).toNatClampNeg) (σ.2.2.1 4 (a4_ + (-1)).toNatClampNeg))) a1_ (a4_ + (-1)) a6_
def oX2_value_164 (nc : Nat) (ρ : OS) (kO25 : OS × Int32 × Int32 → Prop) (σ : OS) (a1_ : Int32) (a4_ : Int32) (a6_ : Int32) (a8_ : Int32) : Prop := (a4_ < 2 → oX2_value_194 nc ρ kO25 σ a1_ a4_ a6_) ∧ (¬ (a4_ < 2) → (vp_in ((a4_ + (-1)) - 1) 160) ∧ ((vp_in (a4_ + (-1)) 160) ∧ ((vp_in ((a4_ + (-1)) - 1) 160) ∧ (oX2_value_194 nc ρ kO25 (oS σ 4 (((a4_ + (-1)) - 1).toNatClampNeg) (fX2_joined a8_ (σ.2.2.1 4 ((a4_ + (-1)) - 1).toNatClampNeg) (σ.2.2.1 4 (a4_ + (-1)).toNatClampNeg))) a1_ (a4_ + (-1)) a6_))))
set_option maxHeartbeats 4000000 in
set_option maxRecDepth 100000 in
theorem wX2_value_164 {X : CX} {cy : Nat → ClassId} {q : Nat → Nat} {nc : Nat} {ρ : OS} {D : va_G} {A : Nat → Prop} {res : Int32 × OS} (σ : OS) (a1_ : Int32) (a4_ : Int32) (a6_ : Int32) (a8_ : Int32) (C : Cx X cX2_value RX2 9 D (gty cy) A 1 0 0) (hR : Rt X (some .int) D (gty cy) A 0 0 (eI (wV cy q nc ρ res.2) res.1)) (kR25 : OS × Int32 × Int32 → Int32 × OS) (kO25 : OS × Int32 × Int32 → Prop) (hk25 : ∀ z, kO25 z → kR25 z = res → At X D A 9 0 0 25 [(0, .ref (q 2)), (1, .int a1_), (2, .ref (q 3)), (3, .ref (q 4)), (4, .int z.2.1), (6, .int z.2.2)] [] (wV cy q nc ρ z.1)) (ok : oX2_value_164 nc ρ kO25 σ a1_ a4_ a6_ a8_) (h : pX2_value_164 nc ρ kR25 σ a1_ a4_ a6_ a8_ = res) : At X D A 9 0 0 164 [(0, .ref (q 2)), (1, .int a1_), (2, .ref (q 3)), (3, .ref (q 4)), (4, .int a4_), (6, .int a6_), (8, .int a8_)] [] (wV cy q nc ρ σ) := by
  unfold pX2_value_164 at h
  unfold oX2_value_164 at ok
  refine r_iload C 4 (dall tdX2_value 94 rfl) rfl ?_
  refine r_iconst (v := 2) C (dall tdX2_value 95 rfl) (by decide) ?_
  refine r_icmp_lt (tgt := 194) C (dall tdX2_value 96 rfl) (by decide) (fun c1 => ?_) (fun c1 => ?_)
  · have h := (if_pos c1).symm.trans h
    have ok := ok.1 c1
    refine r_pick [0, 1, 2, 3, 4, 5] rfl ?_
    exact wX2_value_194 σ a1_ a4_ a6_ C hR kR25 kO25 hk25 ok h
  · have h := (if_neg c1).symm.trans h
    have ok := ok.2 c1
    refine r_iinc (v := a4_ + (-1)) (lv' := [(4, .int (a4_ + (-1))), (0, .ref (q 2)), (1, .int a1_), (2, .ref (q 3)), (3, .ref (q 4)), (6, .int a6_), (8, .int a8_)]) C 4 (dall tdX2_value 97 rfl) rfl rfl (by decide) rfl ?_
    refine r_aload_n C 4 (dall tdX2_value 98 rfl) rfl ?_
    refine r_iload C 0 (dall tdX2_value 99 rfl) rfl ?_
    refine r_iconst (v := 1) C (dall tdX2_value 100 rfl) (by decide) ?_
    refine r_isub C (dall tdX2_value 101 rfl) ?_
    refine r_iload C 6 (dall tdX2_value 102 rfl) rfl ?_
    refine r_aload_n C 4 (dall tdX2_value 103 rfl) rfl ?_
    refine r_iload C 0 (dall tdX2_value 104 rfl) rfl ?_
    refine r_iconst (v := 1) C (dall tdX2_value 105 rfl) (by decide) ?_
    refine r_isub C (dall tdX2_value 106 rfl) ?_
    obtain ⟨o2, ok⟩ := ok
    refine r_iald C 4 0 rfl rfl o2 (dall tdX2_value 107 rfl) ?_
    refine r_aload_n C 4 (dall tdX2_value 108 rfl) rfl ?_
    refine r_iload C 0 (dall tdX2_value 109 rfl) rfl ?_
    obtain ⟨o3, ok⟩ := ok
    refine r_iald C 4 0 rfl rfl o3 (dall tdX2_value 110 rfl) ?_
    refine r_s0I (as := [.int a8_, .int (σ.2.2.1 4 ((a4_ + (-1)) - 1).toNatClampNeg), .int (σ.2.2.1 4 (a4_ + (-1)).toNatClampNeg)]) C (zX2_joined a8_ (σ.2.2.1 4 ((a4_ + (-1)) - 1).toNatClampNeg) (σ.2.2.1 4 (a4_ + (-1)).toNatClampNeg) ) ms_X2_joined km_X2_22 (by decide) (by decide) ⟨Nat.le_refl _, Nat.le_refl _⟩ rfl rfl (Nat.le_of_ble_eq_true rfl) (dall tdX2_value 111 rfl) ?_
    obtain ⟨o4, ok⟩ := ok
    refine r_iast C 4 0 rfl rfl o4 (pa_V_sk_4 cy q nc ρ σ (((a4_ + (-1)) - 1).toNatClampNeg) (fX2_joined a8_ (σ.2.2.1 4 ((a4_ + (-1)) - 1).toNatClampNeg) (σ.2.2.1 4 (a4_ + (-1)).toNatClampNeg))) (dall tdX2_value 112 rfl) ?_
    refine r_pick [1, 2, 3, 4, 0, 5] rfl ?_
    exact wX2_value_194 (oS σ 4 (((a4_ + (-1)) - 1).toNatClampNeg) (fX2_joined a8_ (σ.2.2.1 4 ((a4_ + (-1)) - 1).toNatClampNeg) (σ.2.2.1 4 (a4_ + (-1)).toNatClampNeg))) a1_ (a4_ + (-1)) a6_ C hR kR25 kO25 hk25 ok h
def pX2_value_135 (nc : Nat) (ρ : OS) (kR25 : OS × Int32 × Int32 → Int32 × OS) (σ : OS) (a1_ : Int32) (a4_ : Int32) (a6_ : Int32) (a8_ : Int32) : Int32 × OS := if a8_ = 23 then if a4_ < 1 then pX2_value_164 nc ρ kR25 σ a1_ a4_ a6_ a8_ else pX2_value_194 nc ρ kR25 (oS σ 4 ((a4_ - 1).toNatClampNeg) (-(σ.2.2.1 4 (a4_ - 1).toNatClampNeg))) a1_ a4_ a6_ else pX2_value_164 nc ρ kR25 σ a1_ a4_ a6_ a8_
def oX2_value_135 (nc : Nat) (ρ : OS) (kO25 : OS × Int32 × Int32 → Prop) (σ : OS) (a1_ : Int32) (a4_ : Int32) (a6_ : Int32) (a8_ : Int32) : Prop := (a8_ = 23 → (a4_ < 1 → oX2_value_164 nc ρ kO25 σ a1_ a4_ a6_ a8_) ∧ (¬ (a4_ < 1) → (vp_in (a4_ - 1) 160) ∧ ((vp_in (a4_ - 1) 160) ∧ (oX2_value_194 nc ρ kO25 (oS σ 4 ((a4_ - 1).toNatClampNeg) (-(σ.2.2.1 4 (a4_ - 1).toNatClampNeg))) a1_ a4_ a6_)))) ∧ (¬ (a8_ = 23) → oX2_value_164 nc ρ kO25 σ a1_ a4_ a6_ a8_)
set_option maxHeartbeats 4000000 in
set_option maxRecDepth 100000 in
theorem wX2_value_135 {X : CX} {cy : Nat → ClassId} {q : Nat → Nat} {nc : Nat} {ρ : OS} {D : va_G} {A : Nat → Prop} {res : Int32 × OS} (σ : OS) (a1_ : Int32) (a4_ : Int32) (a6_ : Int32) (a8_ : Int32) (C : Cx X cX2_value RX2 9 D (gty cy) A 1 0 0) (hR : Rt X (some .int) D (gty cy) A 0 0 (eI (wV cy q nc ρ res.2) res.1)) (kR25 : OS × Int32 × Int32 → Int32 × OS) (kO25 : OS × Int32 × Int32 → Prop) (hk25 : ∀ z, kO25 z → kR25 z = res → At X D A 9 0 0 25 [(0, .ref (q 2)), (1, .int a1_), (2, .ref (q 3)), (3, .ref (q 4)), (4, .int z.2.1), (6, .int z.2.2)] [] (wV cy q nc ρ z.1)) (ok : oX2_value_135 nc ρ kO25 σ a1_ a4_ a6_ a8_) (h : pX2_value_135 nc ρ kR25 σ a1_ a4_ a6_ a8_ = res) : At X D A 9 0 0 135 [(0, .ref (q 2)), (1, .int a1_), (2, .ref (q 3)), (3, .ref (q 4)), (4, .int a4_), (6, .int a6_), (8, .int a8_)] [] (wV cy q nc ρ σ) := by
  unfold pX2_value_135 at h
  unfold oX2_value_135 at ok
  refine r_iload C 6 (dall tdX2_value 76 rfl) rfl ?_
  refine r_bipush (v := 23) C (dall tdX2_value 77 rfl) (by decide) ?_
  refine r_icmp_ne (tgt := 164) C (dall tdX2_value 78 rfl) (by decide) (fun c5 => ?_) (fun c5 => ?_)
  · have h := (if_neg c5).symm.trans h
    have ok := ok.2 c5
    exact wX2_value_164 σ a1_ a4_ a6_ a8_ C hR kR25 kO25 hk25 ok h
  · have h := (if_pos c5).symm.trans h
    have ok := ok.1 c5
    refine r_iload C 4 (dall tdX2_value 79 rfl) rfl ?_
    refine r_iconst (v := 1) C (dall tdX2_value 80 rfl) (by decide) ?_
    refine r_icmp_lt (tgt := 164) C (dall tdX2_value 81 rfl) (by decide) (fun c6 => ?_) (fun c6 => ?_)
    · have h := (if_pos c6).symm.trans h
      have ok := ok.1 c6
      exact wX2_value_164 σ a1_ a4_ a6_ a8_ C hR kR25 kO25 hk25 ok h
    · have h := (if_neg c6).symm.trans h
      have ok := ok.2 c6
      refine r_aload_n C 3 (dall tdX2_value 82 rfl) rfl ?_
      refine r_iload C 4 (dall tdX2_value 83 rfl) rfl ?_
      refine r_iconst (v := 1) C (dall tdX2_value 84 rfl) (by decide) ?_
      refine r_isub C (dall tdX2_value 85 rfl) ?_
      refine r_aload_n C 3 (dall tdX2_value 86 rfl) rfl ?_
      refine r_iload C 4 (dall tdX2_value 87 rfl) rfl ?_
      refine r_iconst (v := 1) C (dall tdX2_value 88 rfl) (by decide) ?_
      refine r_isub C (dall tdX2_value 89 rfl) ?_
      obtain ⟨o7, ok⟩ := ok
      refine r_iald C 4 0 rfl rfl o7 (dall tdX2_value 90 rfl) ?_
      refine r_ineg C (dall tdX2_value 91 rfl) ?_
      obtain ⟨o8, ok⟩ := ok
      refine r_iast C 4 0 rfl rfl o8 (pa_V_sk_4 cy q nc ρ σ ((a4_ - 1).toNatClampNeg) (-(σ.2.2.1 4 (a4_ - 1).toNatClampNeg))) (dall tdX2_value 92 rfl) ?_
      refine r_goto (tgt := 194) C (dall tdX2_value 93 rfl) (by decide) ?_
      refine r_pick [0, 1, 2, 3, 4, 5] rfl ?_
      exact wX2_value_194 (oS σ 4 ((a4_ - 1).toNatClampNeg) (-(σ.2.2.1 4 (a4_ - 1).toNatClampNeg))) a1_ a4_ a6_ C hR kR25 kO25 hk25 ok h
def pX2_value_131 (nc : Nat) (ρ : OS) (kR25 : OS × Int32 × Int32 → Int32 × OS) (σ : OS) (a1_ : Int32) (a4_ : Int32) (a6_ : Int32) (b0_ : Int32) (b1_ : Int32) : Int32 × OS := pX2_value_194 nc ρ kR25 (oS σ 4 b1_.toNatClampNeg b0_) a1_ a4_ a6_
def oX2_value_131 (nc : Nat) (ρ : OS) (kO25 : OS × Int32 × Int32 → Prop) (σ : OS) (a1_ : Int32) (a4_ : Int32) (a6_ : Int32) (b0_ : Int32) (b1_ : Int32) : Prop := (vp_in b1_ 160) ∧ (oX2_value_194 nc ρ kO25 (oS σ 4 b1_.toNatClampNeg b0_) a1_ a4_ a6_)
set_option maxHeartbeats 4000000 in
set_option maxRecDepth 100000 in
theorem wX2_value_131 {X : CX} {cy : Nat → ClassId} {q : Nat → Nat} {nc : Nat} {ρ : OS} {D : va_G} {A : Nat → Prop} {res : Int32 × OS} (σ : OS) (a1_ : Int32) (a4_ : Int32) (a6_ : Int32) (b0_ : Int32) (b1_ : Int32) (C : Cx X cX2_value RX2 9 D (gty cy) A 1 0 0) (hR : Rt X (some .int) D (gty cy) A 0 0 (eI (wV cy q nc ρ res.2) res.1)) (kR25 : OS × Int32 × Int32 → Int32 × OS) (kO25 : OS × Int32 × Int32 → Prop) (hk25 : ∀ z, kO25 z → kR25 z = res → At X D A 9 0 0 25 [(0, .ref (q 2)), (1, .int a1_), (2, .ref (q 3)), (3, .ref (q 4)), (4, .int z.2.1), (6, .int z.2.2)] [] (wV cy q nc ρ z.1)) (ok : oX2_value_131 nc ρ kO25 σ a1_ a4_ a6_ b0_ b1_) (h : pX2_value_131 nc ρ kR25 σ a1_ a4_ a6_ b0_ b1_ = res) : At X D A 9 0 0 131 [(0, .ref (q 2)), (1, .int a1_), (2, .ref (q 3)), (3, .ref (q 4)), (4, .int a4_), (6, .int a6_)] [.int b0_, .int b1_, .ref (q 4)] (wV cy q nc ρ σ) := by
  unfold pX2_value_131 at h
  unfold oX2_value_131 at ok
  obtain ⟨o9, ok⟩ := ok
  refine r_iast C 4 0 rfl rfl o9 (pa_V_sk_4 cy q nc ρ σ b1_.toNatClampNeg b0_) (dall tdX2_value 74 rfl) ?_
  refine r_goto (tgt := 194) C (dall tdX2_value 75 rfl) (by decide) ?_
  exact wX2_value_194 (oS σ 4 b1_.toNatClampNeg b0_) a1_ a4_ a6_ C hR kR25 kO25 hk25 ok h
def bX2_value_25 (nc : Nat) (ρ : OS) (a1_ : Int32)  (kR25 : OS × Int32 × Int32 → Int32 × OS) (v : OS × Int32 × Int32) : Int32 × OS := if (ρ.2.2.1 1 a1_.toNatClampNeg) ≤ v.2.2 then (v.1.2.2.1 4 (0 : Int32).toNatClampNeg, v.1) else if 160 ≤ v.2.1 then (v.1.2.2.1 4 (0 : Int32).toNatClampNeg, v.1) else if (ρ.2.2.1 0 v.2.2.toNatClampNeg) < 0 then if (fX0_isName ((ρ.2.2.1 0 v.2.2.toNatClampNeg) ^^^ (-1))) = 0 then if ((ρ.2.2.1 0 v.2.2.toNatClampNeg) ^^^ (-1)) = 5 then if v.2.1 < 1 then pX2_value_135 nc ρ kR25 v.1 a1_ v.2.1 v.2.2 ((ρ.2.2.1 0 v.2.2.toNatClampNeg) ^^^ (-1)) else if (v.1.2.2.1 4 (v.2.1 - 1).toNatClampNeg) = 0 then pX2_value_131 nc ρ kR25 v.1 a1_ v.2.1 v.2.2 1 (v.2.1 - 1) else pX2_value_131 nc ρ kR25 v.1 a1_ v.2.1 v.2.2 0 (v.2.1 - 1) else pX2_value_135 nc ρ kR25 v.1 a1_ v.2.1 v.2.2 ((ρ.2.2.1 0 v.2.2.toNatClampNeg) ^^^ (-1)) else pX2_value_194 nc ρ kR25 (oS v.1 4 v.2.1.toNatClampNeg (ρ.2.2.1 3 (((ρ.2.2.1 0 v.2.2.toNatClampNeg) ^^^ (-1)) - 6).toNatClampNeg)) a1_ (v.2.1 + 1) v.2.2 else pX2_value_194 nc ρ kR25 (oS v.1 4 v.2.1.toNatClampNeg (ρ.2.2.1 0 v.2.2.toNatClampNeg)) a1_ (v.2.1 + 1) v.2.2
def kX2_value_25 (nc : Nat) (ρ : OS) (a1_ : Int32)  (kO25 : OS × Int32 × Int32 → Prop) (v : OS × Int32 × Int32) : Prop := (vp_in a1_ 3) ∧ (((ρ.2.2.1 1 a1_.toNatClampNeg) ≤ v.2.2 → vp_in 0 160) ∧ (¬ ((ρ.2.2.1 1 a1_.toNatClampNeg) ≤ v.2.2) → (160 ≤ v.2.1 → vp_in 0 160) ∧ (¬ (160 ≤ v.2.1) → (vp_in v.2.2 nc) ∧ (((ρ.2.2.1 0 v.2.2.toNatClampNeg) < 0 → ((fX0_isName ((ρ.2.2.1 0 v.2.2.toNatClampNeg) ^^^ (-1))) = 0 → (((ρ.2.2.1 0 v.2.2.toNatClampNeg) ^^^ (-1)) = 5 → (v.2.1 < 1 → oX2_value_135 nc ρ kO25 v.1 a1_ v.2.1 v.2.2 ((ρ.2.2.1 0 v.2.2.toNatClampNeg) ^^^ (-1))) ∧ (¬ (v.2.1 < 1) → (vp_in (v.2.1 - 1) 160) ∧ (((v.1.2.2.1 4 (v.2.1 - 1).toNatClampNeg) = 0 → oX2_value_131 nc ρ kO25 v.1 a1_ v.2.1 v.2.2 1 (v.2.1 - 1)) ∧ (¬ ((v.1.2.2.1 4 (v.2.1 - 1).toNatClampNeg) = 0) → oX2_value_131 nc ρ kO25 v.1 a1_ v.2.1 v.2.2 0 (v.2.1 - 1))))) ∧ (¬ (((ρ.2.2.1 0 v.2.2.toNatClampNeg) ^^^ (-1)) = 5) → oX2_value_135 nc ρ kO25 v.1 a1_ v.2.1 v.2.2 ((ρ.2.2.1 0 v.2.2.toNatClampNeg) ^^^ (-1)))) ∧ (¬ ((fX0_isName ((ρ.2.2.1 0 v.2.2.toNatClampNeg) ^^^ (-1))) = 0) → (vp_in (((ρ.2.2.1 0 v.2.2.toNatClampNeg) ^^^ (-1)) - 6) 6) ∧ ((vp_in v.2.1 160) ∧ (oX2_value_194 nc ρ kO25 (oS v.1 4 v.2.1.toNatClampNeg (ρ.2.2.1 3 (((ρ.2.2.1 0 v.2.2.toNatClampNeg) ^^^ (-1)) - 6).toNatClampNeg)) a1_ (v.2.1 + 1) v.2.2)))) ∧ (¬ ((ρ.2.2.1 0 v.2.2.toNatClampNeg) < 0) → (vp_in v.2.1 160) ∧ (oX2_value_194 nc ρ kO25 (oS v.1 4 v.2.1.toNatClampNeg (ρ.2.2.1 0 v.2.2.toNatClampNeg)) a1_ (v.2.1 + 1) v.2.2))))))
set_option maxHeartbeats 4000000 in
set_option maxRecDepth 100000 in
theorem wX2_value_25 {X : CX} {cy : Nat → ClassId} {q : Nat → Nat} {nc : Nat} {ρ : OS} {D : va_G} {A : Nat → Prop} {res : Int32 × OS} (a1_ : Int32) (C : Cx X cX2_value RX2 9 D (gty cy) A 1 0 0) (hR : Rt X (some .int) D (gty cy) A 0 0 (eI (wV cy q nc ρ res.2) res.1)) (kR25 : OS × Int32 × Int32 → Int32 × OS) (kO25 : OS × Int32 × Int32 → Prop) (hk25 : ∀ z, kO25 z → kR25 z = res → At X D A 9 0 0 25 [(0, .ref (q 2)), (1, .int a1_), (2, .ref (q 3)), (3, .ref (q 4)), (4, .int z.2.1), (6, .int z.2.2)] [] (wV cy q nc ρ z.1)) (v : OS × Int32 × Int32) (ok : kX2_value_25 nc ρ a1_ kO25 v) (h : bX2_value_25 nc ρ a1_ kR25 v = res) : At X D A 9 0 0 25 [(0, .ref (q 2)), (1, .int a1_), (2, .ref (q 3)), (3, .ref (q 4)), (4, .int v.2.1), (6, .int v.2.2)] [] (wV cy q nc ρ v.1) := by
  unfold bX2_value_25 at h
  unfold kX2_value_25 at ok
  refine r_iload C 5 (dall tdX2_value 15 rfl) rfl ?_
  refine r_aload_n C 0 (dall tdX2_value 16 rfl) rfl ?_
  refine r_get C 0 kw_X2 rfl rfl (by decide) kf_X2_13 rfl rfl (dall tdX2_value 17 rfl) ?_
  refine r_iload_n C 1 (dall tdX2_value 18 rfl) rfl ?_
  obtain ⟨o10, ok⟩ := ok
  refine r_iald C 2 0 rfl rfl o10 (dall tdX2_value 19 rfl) ?_
  refine r_icmp_ge (tgt := 200) C (dall tdX2_value 20 rfl) (by decide) (fun c11 => ?_) (fun c11 => ?_)
  · have h := (if_pos c11).symm.trans h
    have ok := ok.1 c11
    refine r_aload_n C 3 (dall tdX2_value 115 rfl) rfl ?_
    refine r_iconst (v := 0) C (dall tdX2_value 116 rfl) (by decide) ?_
    have o12 := ok
    refine r_iald C 4 0 rfl rfl o12 (dall tdX2_value 117 rfl) ?_
    exact r_iret C hR (dall tdX2_value 118 rfl) (by subst h; exact ⟨rfl, rfl⟩)
  · have h := (if_neg c11).symm.trans h
    have ok := ok.2 c11
    refine r_iload C 4 (dall tdX2_value 21 rfl) rfl ?_
    refine r_aload_n C 3 (dall tdX2_value 22 rfl) rfl ?_
    refine r_alen (v := 160) C 4 0 rfl rfl rfl (dall tdX2_value 23 rfl) ?_
    refine r_icmp_ge (tgt := 200) C (dall tdX2_value 24 rfl) (by decide) (fun c13 => ?_) (fun c13 => ?_)
    · have h := (if_pos c13).symm.trans h
      have ok := ok.1 c13
      refine r_aload_n C 3 (dall tdX2_value 115 rfl) rfl ?_
      refine r_iconst (v := 0) C (dall tdX2_value 116 rfl) (by decide) ?_
      have o14 := ok
      refine r_iald C 4 0 rfl rfl o14 (dall tdX2_value 117 rfl) ?_
      exact r_iret C hR (dall tdX2_value 118 rfl) (by subst h; exact ⟨rfl, rfl⟩)
    · have h := (if_neg c13).symm.trans h
      have ok := ok.2 c13
      refine r_aload_n C 0 (dall tdX2_value 25 rfl) rfl ?_
      refine r_get C 0 kw_X2 rfl rfl (by decide) kf_X2_7 rfl rfl (dall tdX2_value 26 rfl) ?_
      refine r_iload C 5 (dall tdX2_value 27 rfl) rfl ?_
      obtain ⟨o15, ok⟩ := ok
      refine r_iald C 1 0 rfl rfl o15 (dall tdX2_value 28 rfl) ?_
      refine r_istore (lv' := [(7, .int (ρ.2.2.1 0 v.2.2.toNatClampNeg)), (0, .ref (q 2)), (1, .int a1_), (2, .ref (q 3)), (3, .ref (q 4)), (4, .int v.2.1), (6, .int v.2.2)]) C (dall tdX2_value 29 rfl) (by decide) rfl ?_
      refine r_iload C 0 (dall tdX2_value 30 rfl) rfl ?_
      refine r_iconst (v := -1) C (dall tdX2_value 31 rfl) (by decide) ?_
      refine r_ixor C (dall tdX2_value 32 rfl) ?_
      refine r_istore (lv' := [(8, .int ((ρ.2.2.1 0 v.2.2.toNatClampNeg) ^^^ (-1))), (7, .int (ρ.2.2.1 0 v.2.2.toNatClampNeg)), (0, .ref (q 2)), (1, .int a1_), (2, .ref (q 3)), (3, .ref (q 4)), (4, .int v.2.1), (6, .int v.2.2)]) C (dall tdX2_value 33 rfl) (by decide) rfl ?_
      refine r_iload C 1 (dall tdX2_value 34 rfl) rfl ?_
      refine r_if_lt (tgt := 75) C (dall tdX2_value 35 rfl) (by decide) (fun c16 => ?_) (fun c16 => ?_)
      · have h := (if_pos c16).symm.trans h
        have ok := ok.1 c16
        refine r_iload C 0 (dall tdX2_value 42 rfl) rfl ?_
        refine r_s0I (as := [.int ((ρ.2.2.1 0 v.2.2.toNatClampNeg) ^^^ (-1))]) C (zX0_isName ((ρ.2.2.1 0 v.2.2.toNatClampNeg) ^^^ (-1)) ) ms_X0_isName km_X2_16 (by decide) (by decide) ⟨Nat.le_refl _, Nat.le_refl _⟩ rfl rfl (Nat.le_of_ble_eq_true rfl) (dall tdX2_value 43 rfl) ?_
        refine r_if_eq (tgt := 100) C (dall tdX2_value 44 rfl) (by decide) (fun c17 => ?_) (fun c17 => ?_)
        · have h := (if_pos c17).symm.trans h
          have ok := ok.1 c17
          refine r_iload C 0 (dall tdX2_value 55 rfl) rfl ?_
          refine r_iconst (v := 5) C (dall tdX2_value 56 rfl) (by decide) ?_
          refine r_icmp_ne (tgt := 135) C (dall tdX2_value 57 rfl) (by decide) (fun c18 => ?_) (fun c18 => ?_)
          · have h := (if_neg c18).symm.trans h
            have ok := ok.2 c18
            refine r_pick [2, 3, 4, 5, 6, 7, 0] rfl ?_
            exact wX2_value_135 v.1 a1_ v.2.1 v.2.2 ((ρ.2.2.1 0 v.2.2.toNatClampNeg) ^^^ (-1)) C hR kR25 kO25 hk25 ok h
          · have h := (if_pos c18).symm.trans h
            have ok := ok.1 c18
            refine r_iload C 6 (dall tdX2_value 58 rfl) rfl ?_
            refine r_iconst (v := 1) C (dall tdX2_value 59 rfl) (by decide) ?_
            refine r_icmp_lt (tgt := 135) C (dall tdX2_value 60 rfl) (by decide) (fun c19 => ?_) (fun c19 => ?_)
            · have h := (if_pos c19).symm.trans h
              have ok := ok.1 c19
              refine r_pick [2, 3, 4, 5, 6, 7, 0] rfl ?_
              exact wX2_value_135 v.1 a1_ v.2.1 v.2.2 ((ρ.2.2.1 0 v.2.2.toNatClampNeg) ^^^ (-1)) C hR kR25 kO25 hk25 ok h
            · have h := (if_neg c19).symm.trans h
              have ok := ok.2 c19
              refine r_aload_n C 5 (dall tdX2_value 61 rfl) rfl ?_
              refine r_iload C 6 (dall tdX2_value 62 rfl) rfl ?_
              refine r_iconst (v := 1) C (dall tdX2_value 63 rfl) (by decide) ?_
              refine r_isub C (dall tdX2_value 64 rfl) ?_
              refine r_aload_n C 5 (dall tdX2_value 65 rfl) rfl ?_
              refine r_iload C 6 (dall tdX2_value 66 rfl) rfl ?_
              refine r_iconst (v := 1) C (dall tdX2_value 67 rfl) (by decide) ?_
              refine r_isub C (dall tdX2_value 68 rfl) ?_
              obtain ⟨o20, ok⟩ := ok
              refine r_iald C 4 0 rfl rfl o20 (dall tdX2_value 69 rfl) ?_
              refine r_if_ne (tgt := 130) C (dall tdX2_value 70 rfl) (by decide) (fun c21 => ?_) (fun c21 => ?_)
              · have h := (if_neg c21).symm.trans h
                have ok := ok.2 c21
                refine r_iconst (v := 0) C (dall tdX2_value 73 rfl) (by decide) ?_
                refine r_pick [2, 3, 4, 5, 6, 7] rfl ?_
                exact wX2_value_131 v.1 a1_ v.2.1 v.2.2 0 (v.2.1 - 1) C hR kR25 kO25 hk25 ok h
              · have h := (if_pos c21).symm.trans h
                have ok := ok.1 c21
                refine r_iconst (v := 1) C (dall tdX2_value 71 rfl) (by decide) ?_
                refine r_goto (tgt := 131) C (dall tdX2_value 72 rfl) (by decide) ?_
                refine r_pick [2, 3, 4, 5, 6, 7] rfl ?_
                exact wX2_value_131 v.1 a1_ v.2.1 v.2.2 1 (v.2.1 - 1) C hR kR25 kO25 hk25 ok h
        · have h := (if_neg c17).symm.trans h
          have ok := ok.2 c17
          refine r_aload_n C 5 (dall tdX2_value 45 rfl) rfl ?_
          refine r_iload C 6 (dall tdX2_value 46 rfl) rfl ?_
          refine r_aload_n C 4 (dall tdX2_value 47 rfl) rfl ?_
          refine r_iload C 0 (dall tdX2_value 48 rfl) rfl ?_
          refine r_bipush (v := 6) C (dall tdX2_value 49 rfl) (by decide) ?_
          refine r_isub C (dall tdX2_value 50 rfl) ?_
          obtain ⟨o22, ok⟩ := ok
          refine r_iald C 3 0 rfl rfl o22 (dall tdX2_value 51 rfl) ?_
          obtain ⟨o23, ok⟩ := ok
          refine r_iast C 4 0 rfl rfl o23 (pa_V_sk_4 cy q nc ρ v.1 v.2.1.toNatClampNeg (ρ.2.2.1 3 (((ρ.2.2.1 0 v.2.2.toNatClampNeg) ^^^ (-1)) - 6).toNatClampNeg)) (dall tdX2_value 52 rfl) ?_
          refine r_iinc (v := v.2.1 + 1) (lv' := [(4, .int (v.2.1 + 1)), (8, .int ((ρ.2.2.1 0 v.2.2.toNatClampNeg) ^^^ (-1))), (7, .int (ρ.2.2.1 0 v.2.2.toNatClampNeg)), (0, .ref (q 2)), (1, .int a1_), (2, .ref (q 3)), (3, .ref (q 4)), (6, .int v.2.2)]) C 6 (dall tdX2_value 53 rfl) rfl rfl (by decide) rfl ?_
          refine r_goto (tgt := 194) C (dall tdX2_value 54 rfl) (by decide) ?_
          refine r_pick [3, 4, 5, 6, 0, 7] rfl ?_
          exact wX2_value_194 (oS v.1 4 v.2.1.toNatClampNeg (ρ.2.2.1 3 (((ρ.2.2.1 0 v.2.2.toNatClampNeg) ^^^ (-1)) - 6).toNatClampNeg)) a1_ (v.2.1 + 1) v.2.2 C hR kR25 kO25 hk25 ok h
      · have h := (if_neg c16).symm.trans h
        have ok := ok.2 c16
        refine r_aload_n C 5 (dall tdX2_value 36 rfl) rfl ?_
        refine r_iload C 6 (dall tdX2_value 37 rfl) rfl ?_
        refine r_iload C 1 (dall tdX2_value 38 rfl) rfl ?_
        obtain ⟨o24, ok⟩ := ok
        refine r_iast C 4 0 rfl rfl o24 (pa_V_sk_4 cy q nc ρ v.1 v.2.1.toNatClampNeg (ρ.2.2.1 0 v.2.2.toNatClampNeg)) (dall tdX2_value 39 rfl) ?_
        refine r_iinc (v := v.2.1 + 1) (lv' := [(4, .int (v.2.1 + 1)), (8, .int ((ρ.2.2.1 0 v.2.2.toNatClampNeg) ^^^ (-1))), (7, .int (ρ.2.2.1 0 v.2.2.toNatClampNeg)), (0, .ref (q 2)), (1, .int a1_), (2, .ref (q 3)), (3, .ref (q 4)), (6, .int v.2.2)]) C 6 (dall tdX2_value 40 rfl) rfl rfl (by decide) rfl ?_
        refine r_goto (tgt := 194) C (dall tdX2_value 41 rfl) (by decide) ?_
        refine r_pick [3, 4, 5, 6, 0, 7] rfl ?_
        exact wX2_value_194 (oS v.1 4 v.2.1.toNatClampNeg (ρ.2.2.1 0 v.2.2.toNatClampNeg)) a1_ (v.2.1 + 1) v.2.2 C hR kR25 kO25 hk25 ok h
set_option maxHeartbeats 4000000 in
set_option maxRecDepth 100000 in
theorem lX2_value_25 {X : CX} {cy : Nat → ClassId} {q : Nat → Nat} {nc : Nat} {ρ : OS} {D : va_G} {A : Nat → Prop} {res : Int32 × OS} (a1_ : Int32) (C : Cx X cX2_value RX2 9 D (gty cy) A 1 0 0) (hR : Rt X (some .int) D (gty cy) A 0 0 (eI (wV cy q nc ρ res.2) res.1))  (n : Nat) (v : OS × Int32 × Int32) (ok : lpOk (kX2_value_25 nc ρ a1_ ) n v) (h : lp (0, o0) (bX2_value_25 nc ρ a1_ ) n v = res) : At X D A 9 0 0 25 [(0, .ref (q 2)), (1, .int a1_), (2, .ref (q 3)), (3, .ref (q 4)), (4, .int v.2.1), (6, .int v.2.2)] [] (wV cy q nc ρ v.1) :=
  lp_rule (fun v rr_ => rr_ = res → At X D A 9 0 0 25 [(0, .ref (q 2)), (1, .int a1_), (2, .ref (q 3)), (3, .ref (q 4)), (4, .int v.2.1), (6, .int v.2.2)] [] (wV cy q nc ρ v.1)) (fun kR kO hk v ok h => wX2_value_25 a1_ C hR  kR kO hk v ok h) n v ok h
def pX2_value_19 (nc : Nat) (ρ : OS)  (σ : OS) (a1_ : Int32) (a4_ : Int32) (b0_ : Int32) : Int32 × OS := lp (0, o0) (bX2_value_25 nc ρ a1_ ) fu (σ, a4_, b0_)
def oX2_value_19 (nc : Nat) (ρ : OS)  (σ : OS) (a1_ : Int32) (a4_ : Int32) (b0_ : Int32) : Prop := lpOk (kX2_value_25 nc ρ a1_ ) fu (σ, a4_, b0_)
set_option maxHeartbeats 4000000 in
set_option maxRecDepth 100000 in
theorem wX2_value_19 {X : CX} {cy : Nat → ClassId} {q : Nat → Nat} {nc : Nat} {ρ : OS} {D : va_G} {A : Nat → Prop} {res : Int32 × OS} (σ : OS) (a1_ : Int32) (a4_ : Int32) (b0_ : Int32) (C : Cx X cX2_value RX2 9 D (gty cy) A 1 0 0) (hR : Rt X (some .int) D (gty cy) A 0 0 (eI (wV cy q nc ρ res.2) res.1))  (ok : oX2_value_19 nc ρ  σ a1_ a4_ b0_) (h : pX2_value_19 nc ρ  σ a1_ a4_ b0_ = res) : At X D A 9 0 0 19 [(0, .ref (q 2)), (1, .int a1_), (2, .ref (q 3)), (3, .ref (q 4)), (4, .int a4_)] [.int b0_] (wV cy q nc ρ σ) := by
  unfold pX2_value_19 at h
  unfold oX2_value_19 at ok
  refine r_istore (lv' := [(5, .int b0_), (0, .ref (q 2)), (1, .int a1_), (2, .ref (q 3)), (3, .ref (q 4)), (4, .int a4_)]) C (dall tdX2_value 12 rfl) (by decide) rfl ?_
  refine r_iload C 0 (dall tdX2_value 13 rfl) rfl ?_
  refine r_istore (lv' := [(6, .int b0_), (5, .int b0_), (0, .ref (q 2)), (1, .int a1_), (2, .ref (q 3)), (3, .ref (q 4)), (4, .int a4_)]) C (dall tdX2_value 14 rfl) (by decide) rfl ?_
  refine r_pick [2, 3, 4, 5, 6, 0] rfl ?_
  exact lX2_value_25 a1_ C hR  fu _ ok h
def pX2_value_0 (nc : Nat) (ρ : OS)  (σ : OS) (a1_ : Int32) : Int32 × OS := if a1_ = 0 then pX2_value_19 nc ρ  σ a1_ 0 0 else pX2_value_19 nc ρ  σ a1_ 0 (ρ.2.2.1 1 (a1_ - 1).toNatClampNeg)
def oX2_value_0 (nc : Nat) (ρ : OS)  (σ : OS) (a1_ : Int32) : Prop := (a1_ = 0 → oX2_value_19 nc ρ  σ a1_ 0 0) ∧ (¬ (a1_ = 0) → (vp_in (a1_ - 1) 3) ∧ (oX2_value_19 nc ρ  σ a1_ 0 (ρ.2.2.1 1 (a1_ - 1).toNatClampNeg)))
set_option maxHeartbeats 4000000 in
set_option maxRecDepth 100000 in
theorem wX2_value_0 {X : CX} {cy : Nat → ClassId} {q : Nat → Nat} {nc : Nat} {ρ : OS} {D : va_G} {A : Nat → Prop} {res : Int32 × OS} (σ : OS) (a1_ : Int32) (C : Cx X cX2_value RX2 9 D (gty cy) A 1 0 0) (hR : Rt X (some .int) D (gty cy) A 0 0 (eI (wV cy q nc ρ res.2) res.1))  (ok : oX2_value_0 nc ρ  σ a1_) (h : pX2_value_0 nc ρ  σ a1_ = res) : At X D A 9 0 0 0 [(0, .ref (q 2)), (1, .int a1_), (2, .ref (q 3)), (3, .ref (q 4))] [] (wV cy q nc ρ σ) := by
  unfold pX2_value_0 at h
  unfold oX2_value_0 at ok
  refine r_iconst (v := 0) C (dall tdX2_value 0 rfl) (by decide) ?_
  refine r_istore (lv' := [(4, .int 0), (0, .ref (q 2)), (1, .int a1_), (2, .ref (q 3)), (3, .ref (q 4))]) C (dall tdX2_value 1 rfl) (by decide) rfl ?_
  refine r_iload_n C 2 (dall tdX2_value 2 rfl) rfl ?_
  refine r_if_ne (tgt := 11) C (dall tdX2_value 3 rfl) (by decide) (fun c25 => ?_) (fun c25 => ?_)
  · have h := (if_neg c25).symm.trans h
    have ok := ok.2 c25
    refine r_aload_n C 1 (dall tdX2_value 6 rfl) rfl ?_
    refine r_get C 0 kw_X2 rfl rfl (by decide) kf_X2_13 rfl rfl (dall tdX2_value 7 rfl) ?_
    refine r_iload_n C 2 (dall tdX2_value 8 rfl) rfl ?_
    refine r_iconst (v := 1) C (dall tdX2_value 9 rfl) (by decide) ?_
    refine r_isub C (dall tdX2_value 10 rfl) ?_
    obtain ⟨o26, ok⟩ := ok
    refine r_iald C 2 0 rfl rfl o26 (dall tdX2_value 11 rfl) ?_
    refine r_pick [1, 2, 3, 4, 0] rfl ?_
    exact wX2_value_19 σ a1_ 0 (ρ.2.2.1 1 (a1_ - 1).toNatClampNeg) C hR  ok h
  · have h := (if_pos c25).symm.trans h
    have ok := ok.1 c25
    refine r_iconst (v := 0) C (dall tdX2_value 4 rfl) (by decide) ?_
    refine r_goto (tgt := 19) C (dall tdX2_value 5 rfl) (by decide) ?_
    refine r_pick [1, 2, 3, 4, 0] rfl ?_
    exact wX2_value_19 σ a1_ 0 0 C hR  ok h
def fX2_value (nc : Nat) (ρ : OS) (σ : OS) (a1_ : Int32) : Int32 × OS := pX2_value_0 nc ρ  σ a1_
def gX2_value (nc : Nat) (ρ : OS) (σ : OS) (a1_ : Int32) : Prop := oX2_value_0 nc ρ  σ a1_
set_option maxRecDepth 100000 in
theorem zX2_value (cy : Nat → ClassId) (q : Nat → Nat) (nc : Nat) (ρ : OS)  {D : va_G} (σ : OS) (a1_ : Int32) (ok : gX2_value nc ρ σ a1_)  : Con yX2_value cX2_value 9 (some .int) 1 0 0 D (gty cy) [.ref (q 2), .int a1_, .ref (q 3), .ref (q 4)] (wV cy q nc ρ σ) (eI (wV cy q nc ρ (fX2_value nc ρ σ a1_).2) (fX2_value nc ρ σ a1_).1) :=
  Con.of (own := RX2) (by decide +kernel) rfl (Nat.le_of_ble_eq_true rfl) (Nat.zero_le _) (fun X A C hR _ => (wX2_value_0 σ a1_ C hR  ok rfl))
theorem mv_X2_value : MV yX2_value cX2_value 9 (some .int) RX2 3 := ⟨ki_X2_value, kv_X2_value, kn_X2, kc_X2_value, by decide +kernel⟩
end
section
/-- the worlds of a text's reading within the world of a World -/
abbrev tq (t : (Nat × Nat × Nat) × (Nat × (Nat → Int32) × (Nat → Int32))) (q : Nat → Nat) : Nat → Nat := fun k => if k = 0 then t.1.2.1 else if k = 1 then t.1.2.2 else if k = 2 then t.1.1 else if k = 3 then q 10 else q 11
def tρ (t : (Nat × Nat × Nat) × (Nat × (Nat → Int32) × (Nat → Int32))) (σ : OS) : OS := (fun _ => 0, fun _ => 0, fun k => if k = 0 then t.2.2.1 else if k = 1 then t.2.2.2 else σ.2.2.1 10, fun _ _ => 0)
def tσ (σ : OS) : OS := (fun _ => 0, fun _ => 0, fun _ => σ.2.2.1 11, fun _ _ => 0)
section Txt
variable {X : CX} {cc : ByteArray} {nL : Nat} {D : va_G} {A : Nat → Prop} {lev cM sM kc ks pc : Nat} {lv : List (Nat × Value)} {st : List Value} {cy : Nat → ClassId} {q : Nat → Nat} {τ : TX} {j : Nat} {σ : OS}
theorem r_txt {own : String} (C : Cx X cc own nL D (gty cy) A lev cM sM) {i : Int32} (h1 : vp_in i 6) (h2 : i.toNatClampNeg = j) (h3 : j < τ.length) (hdg : decode cc pc = .ok (.aaload, 1)) (k : At X D A nL kc ks (pc + 1) lv (.ref (tAt τ j).1.1 :: st) (wX4 cy q (tw cy (q 9) τ) σ)) : At X D A nL kc ks pc lv (.int i :: .ref (q 9) :: st) (wX4 cy q (tw cy (q 9) τ) σ) := by
  refine r_aald C 7 4 rfl rfl h1 hdg ?_
  subst h2
  have e : va_rf ((τ[i.toNatClampNeg]?).map (fun t => t.1.1)) = .ref (tAt τ i.toNatClampNeg).1.1 := by
    unfold tAt
    rw [List.getElem?_eq_getElem h3]
    rfl
  rw [e]
  exact k
theorem tw_c0 (h : j < τ.length) : (wX4 cy q (tw cy (q 9) τ) σ)[3 * j + 8]? = some ((tAt τ j).1.1, .inr (2, [.ref (tAt τ j).1.2.1, .ref (tAt τ j).1.2.2])) := tw_at cy (q 9) (r := 0) h (by decide)
theorem tw_c1 (h : j < τ.length) : (wX4 cy q (tw cy (q 9) τ) σ)[3 * j + 9]? = some ((tAt τ j).1.2.1, .inl (cy 0, (tAt τ j).2.1, .inl (tAt τ j).2.2.1)) := tw_at cy (q 9) (r := 1) h (by decide)
theorem tw_c2 (h : j < τ.length) : (wX4 cy q (tw cy (q 9) τ) σ)[3 * j + 10]? = some ((tAt τ j).1.2.2, .inl (cy 0, 3, .inl (tAt τ j).2.2.2)) := tw_at cy (q 9) (r := 2) h (by decide)
set_option maxHeartbeats 2000000 in
theorem r_tval (C : Cx X cc RX4 nL D (gty cy) A lev cM sM) {pt : Int32} (hj : j < τ.length) (ok : gX2_value (tAt τ j).2.1 (tρ (tAt τ j) σ) (tσ σ) pt) (hlev : 1 + 1 ≤ lev) (hcap : kc ≤ cM ∧ ks ≤ sM) (hW : (st.map fun v => v.category).sum ≤ 8) (hdg : decode cc pc = .ok (.invokevirtual 126, 3))
    (k : At X D A nL kc ks (pc + 3) lv (.int (fX2_value (tAt τ j).2.1 (tρ (tAt τ j) σ) (tσ σ) pt).1 :: st) (wX4 cy q (tw cy (q 9) τ) (oAr σ 11 ((fX2_value (tAt τ j).2.1 (tρ (tAt τ j) σ) (tσ σ) pt).2.2.2.1 4)))) :
    At X D A nL kc ks pc lv (.ref (q 11) :: .ref (q 10) :: .int pt :: .ref (tAt τ j).1.1 :: st) (wX4 cy q (tw cy (q 9) τ) σ) := by
  refine r_callW (b := (tAt τ j).1.1) (as := [.int pt, .ref (q 10), .ref (q 11)]) (q0 := 0) C (zX2_value cy (tq (tAt τ j) q) (tAt τ j).2.1 (tρ (tAt τ j) σ) (tσ σ) pt ok) mv_X2_value km_X4_126 hlev (by decide) hcap rfl rfl [3 * j + 8, 3 * j + 9, 3 * j + 10, 5, 6] ?_ ?_ rfl rfl hW hdg ?_
  · simp only [List.map_cons, List.map_nil, tw_c0 hj, tw_c1 hj, tw_c2 hj]
    rfl
  · simp only [va_nd]
    simp
  · intro v w hp
    obtain ⟨rfl, rfl⟩ := hp
    refine ⟨wX4 cy q (tw cy (q 9) τ) (oAr σ 11 ((fX2_value (tAt τ j).2.1 (tρ (tAt τ j) σ) (tσ σ) pt).2.2.2.1 4)), ⟨rfl, ?_⟩, k⟩
    intro i c hi
    by_cases h6 : i = 6
    · subst h6
      refine Or.inl ⟨by simp, ?_⟩
      have e := Option.some.inj hi
      rw [← e]
      exact List.mem_of_getElem? (i := 4) rfl
    · have hs : (wX4 cy q (tw cy (q 9) τ) σ)[i]? = some c := by
        rw [← hi]
        match i, h6 with
        | 0, _ => rfl
        | 1, _ => rfl
        | 2, _ => rfl
        | 3, _ => rfl
        | 4, _ => rfl
        | 5, _ => rfl
        | n + 7, _ => rfl
      by_cases h : i ∈ [3 * j + 8, 3 * j + 9, 3 * j + 10, 5, 6]
      · refine Or.inl ⟨h, ?_⟩
        simp only [List.mem_cons, List.not_mem_nil, or_false] at h
        rcases h with rfl | rfl | rfl | rfl | rfl
        · rw [tw_c0 hj] at hs; rw [← Option.some.inj hs]; exact List.mem_of_getElem? (i := 0) rfl
        · rw [tw_c1 hj] at hs; rw [← Option.some.inj hs]; exact List.mem_of_getElem? (i := 1) rfl
        · rw [tw_c2 hj] at hs; rw [← Option.some.inj hs]; exact List.mem_of_getElem? (i := 2) rfl
        · have e := Option.some.inj (show some _ = some c from hs); rw [← e]; exact List.mem_of_getElem? (i := 3) rfl
        · exact absurd rfl h6
      · exact Or.inr ⟨h, hs⟩
end Txt
def tbX4_tell : List (Nat × Instr × Nat) := [(0, .aload_n 0, 1), (1, .getfield 39, 3), (4, .aload_n 0, 1), (5, .getfield 53, 3), (8, .aaload, 1), (9, .astore_n 3, 1), (10, .aload_n 3, 1), (11, .ifnonnull 5, 3), (14, .iconst 0, 1), (15, .ireturn, 1), (16, .aload_n 0, 1), (17, .getfield 33, 3), (20, .iconst 0, 1), (21, .aload_n 0, 1), (22, .getfield 18, 3), (25, .iload_n 1, 1), (26, .iaload, 1), (27, .iastore, 1), (28, .aload_n 0, 1), (29, .getfield 33, 3), (32, .iconst 1, 1), (33, .aload_n 0, 1), (34, .getfield 15, 3), (37, .iload_n 1, 1), (38, .iaload, 1), (39, .iastore, 1), (40, .aload_n 0, 1), (41, .getfield 33, 3), (44, .iconst 2, 1), (45, .aload_n 0, 1), (46, .getfield 47, 3), (49, .iastore, 1), (50, .aload_n 0, 1), (51, .getfield 33, 3), (54, .iconst 3, 1), (55, .aload_n 0, 1), (56, .getfield 21, 3), (59, .iload_n 1, 1), (60, .laload, 1), (61, .invokestatic 60, 3), (64, .iastore, 1), (65, .aload_n 0, 1), (66, .getfield 33, 3), (69, .iconst 4, 1), (70, .aload_n 0, 1), (71, .getfield 21, 3), (74, .iload_n 1, 1), (75, .laload, 1), (76, .lconst 0, 1), (77, .lcmp, 1), (78, .ifCond .ne 7, 3), (81, .iconst 0, 1), (82, .goto 11, 3), (85, .aload_n 0, 1), (86, .iload_n 1, 1), (87, .invokevirtual 107, 3), (90, .bipush 8, 2), (92, .idiv, 1), (93, .iastore, 1), (94, .aload_n 0, 1), (95, .getfield 33, 3), (98, .iconst 5, 1), (99, .aload_n 0, 1), (100, .getfield 50, 3), (103, .bipush 100, 2), (105, .irem, 1), (106, .iastore, 1), (107, .aload_n 3, 1), (108, .iload_n 2, 1), (109, .aload_n 0, 1), (110, .getfield 33, 3), (113, .aload_n 0, 1), (114, .getfield 36, 3), (117, .invokevirtual 126, 3), (120, .istore 4, 2), (122, .iload_n 2, 1), (123, .iconst 2, 1), (124, .if_icmp .ne 9, 3), (127, .sipush 999, 3), (130, .goto 5, 3), (133, .bipush 99, 2), (135, .istore 5, 2), (137, .iconst 0, 1), (138, .iload 5, 2), (140, .iload 4, 2), (142, .invokestatic 101, 3), (145, .invokestatic 94, 3), (148, .ireturn, 1)]
theorem tdX4_tell : tbX4_tell.all (fun q => decide (decode cX4_tell q.1 = .ok q.2)) = true := by decide +kernel
def pX4_tell_135 (τ : TX) (j : Nat)  (σ : OS) (a4_ : Int32) (b0_ : Int32) : Int32 × OS := (jmax 0 (jmin b0_ a4_), σ)
set_option maxHeartbeats 4000000 in
set_option maxRecDepth 100000 in
theorem wX4_tell_135 {X : CX} {cy : Nat → ClassId} {q : Nat → Nat} {τ : TX} {j : Nat} {D : va_G} {A : Nat → Prop} {res : Int32 × OS} (σ : OS) (a4_ : Int32) (b0_ : Int32) (C : Cx X cX4_tell RX4 6 D (gty cy) A 3 0 0) (hR : Rt X (some .int) D (gty cy) A 0 0 (eI (wX4 cy q (tw cy (q 9) τ) res.2) res.1))  (h : pX4_tell_135 τ j  σ a4_ b0_ = res) : At X D A 6 0 0 135 [(4, .int a4_)] [.int b0_] (wX4 cy q (tw cy (q 9) τ) σ) := by
  unfold pX4_tell_135 at h
  refine r_istore (lv' := [(5, .int b0_), (4, .int a4_)]) C (dall tdX4_tell 81 rfl) (by decide) rfl ?_
  refine r_iconst (v := 0) C (dall tdX4_tell 82 rfl) (by decide) ?_
  refine r_iload C 0 (dall tdX4_tell 83 rfl) rfl ?_
  refine r_iload C 1 (dall tdX4_tell 84 rfl) rfl ?_
  refine r_mmin C km_X4_101 (dall tdX4_tell 85 rfl) (by decide) (Nat.le_of_ble_eq_true rfl) ⟨Nat.le_refl _, Nat.le_refl _⟩ ?_
  refine r_mmax C km_X4_94 (dall tdX4_tell 86 rfl) (by decide) (Nat.le_of_ble_eq_true rfl) ⟨Nat.le_refl _, Nat.le_refl _⟩ ?_
  exact r_iret C hR (dall tdX4_tell 87 rfl) (by subst h; exact ⟨rfl, rfl⟩)
def pX4_tell_120 (τ : TX) (j : Nat)  (σ : OS) (a2_ : Int32) (b0_ : Int32) : Int32 × OS := if a2_ = 2 then pX4_tell_135 τ j  σ b0_ 999 else pX4_tell_135 τ j  σ b0_ 99
set_option maxHeartbeats 4000000 in
set_option maxRecDepth 100000 in
theorem wX4_tell_120 {X : CX} {cy : Nat → ClassId} {q : Nat → Nat} {τ : TX} {j : Nat} {D : va_G} {A : Nat → Prop} {res : Int32 × OS} (σ : OS) (a2_ : Int32) (b0_ : Int32) (C : Cx X cX4_tell RX4 6 D (gty cy) A 3 0 0) (hR : Rt X (some .int) D (gty cy) A 0 0 (eI (wX4 cy q (tw cy (q 9) τ) res.2) res.1))  (h : pX4_tell_120 τ j  σ a2_ b0_ = res) : At X D A 6 0 0 120 [(2, .int a2_)] [.int b0_] (wX4 cy q (tw cy (q 9) τ) σ) := by
  unfold pX4_tell_120 at h
  refine r_istore (lv' := [(4, .int b0_), (2, .int a2_)]) C (dall tdX4_tell 74 rfl) (by decide) rfl ?_
  refine r_iload_n C 1 (dall tdX4_tell 75 rfl) rfl ?_
  refine r_iconst (v := 2) C (dall tdX4_tell 76 rfl) (by decide) ?_
  refine r_icmp_ne (tgt := 133) C (dall tdX4_tell 77 rfl) (by decide) (fun c1 => ?_) (fun c1 => ?_)
  · have h := (if_neg c1).symm.trans h
    refine r_bipush (v := 99) C (dall tdX4_tell 80 rfl) (by decide) ?_
    refine r_pick [0] rfl ?_
    exact wX4_tell_135 σ b0_ 99 C hR  h
  · have h := (if_pos c1).symm.trans h
    refine r_sipush (v := 999) C (dall tdX4_tell 78 rfl) (by decide) ?_
    refine r_goto (tgt := 135) C (dall tdX4_tell 79 rfl) (by decide) ?_
    refine r_pick [0] rfl ?_
    exact wX4_tell_135 σ b0_ 999 C hR  h
def pX4_tell_93 (τ : TX) (j : Nat)  (σ : OS) (a2_ : Int32) (b0_ : Int32) (b1_ : Int32) : Int32 × OS := pX4_tell_120 τ j  (oAr (oS (oS σ 10 b1_.toNatClampNeg b0_) 10 ((5 : Int32).toNatClampNeg) (((oS σ 10 b1_.toNatClampNeg b0_).1 6) - ((oS σ 10 b1_.toNatClampNeg b0_).1 6) / 100 * 100)) 11 ((fX2_value (tAt τ j).2.1 (tρ (tAt τ j) (oS (oS σ 10 b1_.toNatClampNeg b0_) 10 ((5 : Int32).toNatClampNeg) (((oS σ 10 b1_.toNatClampNeg b0_).1 6) - ((oS σ 10 b1_.toNatClampNeg b0_).1 6) / 100 * 100))) (tσ (oS (oS σ 10 b1_.toNatClampNeg b0_) 10 ((5 : Int32).toNatClampNeg) (((oS σ 10 b1_.toNatClampNeg b0_).1 6) - ((oS σ 10 b1_.toNatClampNeg b0_).1 6) / 100 * 100))) a2_).2.2.2.1 4)) a2_ ((fX2_value (tAt τ j).2.1 (tρ (tAt τ j) (oS (oS σ 10 b1_.toNatClampNeg b0_) 10 ((5 : Int32).toNatClampNeg) (((oS σ 10 b1_.toNatClampNeg b0_).1 6) - ((oS σ 10 b1_.toNatClampNeg b0_).1 6) / 100 * 100))) (tσ (oS (oS σ 10 b1_.toNatClampNeg b0_) 10 ((5 : Int32).toNatClampNeg) (((oS σ 10 b1_.toNatClampNeg b0_).1 6) - ((oS σ 10 b1_.toNatClampNeg b0_).1 6) / 100 * 100))) a2_).1)
def oX4_tell_93 (τ : TX) (j : Nat)  (σ : OS) (a2_ : Int32) (b0_ : Int32) (b1_ : Int32) : Prop := (vp_in b1_ 6) ∧ ((vp_in 5 6) ∧ ((j < τ.length) ∧ (gX2_value (tAt τ j).2.1 (tρ (tAt τ j) (oS (oS σ 10 b1_.toNatClampNeg b0_) 10 ((5 : Int32).toNatClampNeg) (((oS σ 10 b1_.toNatClampNeg b0_).1 6) - ((oS σ 10 b1_.toNatClampNeg b0_).1 6) / 100 * 100))) (tσ (oS (oS σ 10 b1_.toNatClampNeg b0_) 10 ((5 : Int32).toNatClampNeg) (((oS σ 10 b1_.toNatClampNeg b0_).1 6) - ((oS σ 10 b1_.toNatClampNeg b0_).1 6) / 100 * 100))) a2_)))
set_option maxHeartbeats 4000000 in
set_option maxRecDepth 100000 in
theorem wX4_tell_93 {X : CX} {cy : Nat → ClassId} {q : Nat → Nat} {τ : TX} {j : Nat} {D : va_G} {A : Nat → Prop} {res : Int32 × OS} (σ : OS) (a2_ : Int32) (b0_ : Int32) (b1_ : Int32) (C : Cx X cX4_tell RX4 6 D (gty cy) A 3 0 0) (hR : Rt X (some .int) D (gty cy) A 0 0 (eI (wX4 cy q (tw cy (q 9) τ) res.2) res.1))  (ok : oX4_tell_93 τ j  σ a2_ b0_ b1_) (h : pX4_tell_93 τ j  σ a2_ b0_ b1_ = res) : At X D A 6 0 0 93 [(0, .ref (q 12)), (2, .int a2_), (3, .ref ((tAt τ j).1.1))] [.int b0_, .int b1_, .ref (q 10)] (wX4 cy q (tw cy (q 9) τ) σ) := by
  unfold pX4_tell_93 at h
  unfold oX4_tell_93 at ok
  obtain ⟨o2, ok⟩ := ok
  refine r_iast C 5 0 rfl rfl o2 (pa_X4_this_10 cy q (tw cy (q 9) τ) σ b1_.toNatClampNeg b0_) (dall tdX4_tell 58 rfl) ?_
  refine r_aload_n C 0 (dall tdX4_tell 59 rfl) rfl ?_
  refine r_get C 0 kw_X4 rfl rfl (by decide) kf_X4_33 rfl rfl (dall tdX4_tell 60 rfl) ?_
  refine r_iconst (v := 5) C (dall tdX4_tell 61 rfl) (by decide) ?_
  refine r_aload_n C 0 (dall tdX4_tell 62 rfl) rfl ?_
  refine r_get C 0 kw_X4 rfl rfl (by decide) kf_X4_50 rfl rfl (dall tdX4_tell 63 rfl) ?_
  refine r_bipush (v := 100) C (dall tdX4_tell 64 rfl) (by decide) ?_
  refine r_irem C (dall tdX4_tell 65 rfl) (by decide) ?_
  obtain ⟨o3, ok⟩ := ok
  refine r_iast C 5 0 rfl rfl o3 (pa_X4_this_10 cy q (tw cy (q 9) τ) (oS σ 10 b1_.toNatClampNeg b0_) ((5 : Int32).toNatClampNeg) (((oS σ 10 b1_.toNatClampNeg b0_).1 6) - ((oS σ 10 b1_.toNatClampNeg b0_).1 6) / 100 * 100)) (dall tdX4_tell 66 rfl) ?_
  refine r_aload_n C 2 (dall tdX4_tell 67 rfl) rfl ?_
  refine r_iload_n C 1 (dall tdX4_tell 68 rfl) rfl ?_
  refine r_aload_n C 0 (dall tdX4_tell 69 rfl) rfl ?_
  refine r_get C 0 kw_X4 rfl rfl (by decide) kf_X4_33 rfl rfl (dall tdX4_tell 70 rfl) ?_
  refine r_aload_n C 0 (dall tdX4_tell 71 rfl) rfl ?_
  refine r_get C 0 kw_X4 rfl rfl (by decide) kf_X4_36 rfl rfl (dall tdX4_tell 72 rfl) ?_
  obtain ⟨o4, ok⟩ := ok
  have o5 := ok
  refine r_tval C o4 o5 (by decide) ⟨Nat.le_refl _, Nat.le_refl _⟩ (Nat.le_of_ble_eq_true rfl) (dall tdX4_tell 73 rfl) ?_
  refine r_pick [1] rfl ?_
  exact wX4_tell_120 (oAr (oS (oS σ 10 b1_.toNatClampNeg b0_) 10 ((5 : Int32).toNatClampNeg) (((oS σ 10 b1_.toNatClampNeg b0_).1 6) - ((oS σ 10 b1_.toNatClampNeg b0_).1 6) / 100 * 100)) 11 ((fX2_value (tAt τ j).2.1 (tρ (tAt τ j) (oS (oS σ 10 b1_.toNatClampNeg b0_) 10 ((5 : Int32).toNatClampNeg) (((oS σ 10 b1_.toNatClampNeg b0_).1 6) - ((oS σ 10 b1_.toNatClampNeg b0_).1 6) / 100 * 100))) (tσ (oS (oS σ 10 b1_.toNatClampNeg b0_) 10 ((5 : Int32).toNatClampNeg) (((oS σ 10 b1_.toNatClampNeg b0_).1 6) - ((oS σ 10 b1_.toNatClampNeg b0_).1 6) / 100 * 100))) a2_).2.2.2.1 4)) a2_ ((fX2_value (tAt τ j).2.1 (tρ (tAt τ j) (oS (oS σ 10 b1_.toNatClampNeg b0_) 10 ((5 : Int32).toNatClampNeg) (((oS σ 10 b1_.toNatClampNeg b0_).1 6) - ((oS σ 10 b1_.toNatClampNeg b0_).1 6) / 100 * 100))) (tσ (oS (oS σ 10 b1_.toNatClampNeg b0_) 10 ((5 : Int32).toNatClampNeg) (((oS σ 10 b1_.toNatClampNeg b0_).1 6) - ((oS σ 10 b1_.toNatClampNeg b0_).1 6) / 100 * 100))) a2_).1) C hR  h
def pX4_tell_0 (τ : TX) (j : Nat)  (σ : OS) (a1_ : Int32) (a2_ : Int32) : Int32 × OS := if ((oS (oS (oS (oS σ 10 ((0 : Int32).toNatClampNeg) (σ.2.2.1 2 a1_.toNatClampNeg)) 10 ((1 : Int32).toNatClampNeg) ((oS σ 10 ((0 : Int32).toNatClampNeg) (σ.2.2.1 2 a1_.toNatClampNeg)).2.2.1 1 a1_.toNatClampNeg)) 10 ((2 : Int32).toNatClampNeg) ((oS (oS σ 10 ((0 : Int32).toNatClampNeg) (σ.2.2.1 2 a1_.toNatClampNeg)) 10 ((1 : Int32).toNatClampNeg) ((oS σ 10 ((0 : Int32).toNatClampNeg) (σ.2.2.1 2 a1_.toNatClampNeg)).2.2.1 1 a1_.toNatClampNeg)).1 5)) 10 ((3 : Int32).toNatClampNeg) (fJ13_bitCount_95d88 ((oS (oS (oS σ 10 ((0 : Int32).toNatClampNeg) (σ.2.2.1 2 a1_.toNatClampNeg)) 10 ((1 : Int32).toNatClampNeg) ((oS σ 10 ((0 : Int32).toNatClampNeg) (σ.2.2.1 2 a1_.toNatClampNeg)).2.2.1 1 a1_.toNatClampNeg)) 10 ((2 : Int32).toNatClampNeg) ((oS (oS σ 10 ((0 : Int32).toNatClampNeg) (σ.2.2.1 2 a1_.toNatClampNeg)) 10 ((1 : Int32).toNatClampNeg) ((oS σ 10 ((0 : Int32).toNatClampNeg) (σ.2.2.1 2 a1_.toNatClampNeg)).2.2.1 1 a1_.toNatClampNeg)).1 5)).2.2.2 3 a1_.toNatClampNeg))).2.2.2 3 a1_.toNatClampNeg) = 0 then pX4_tell_93 τ j  (oS (oS (oS (oS σ 10 ((0 : Int32).toNatClampNeg) (σ.2.2.1 2 a1_.toNatClampNeg)) 10 ((1 : Int32).toNatClampNeg) ((oS σ 10 ((0 : Int32).toNatClampNeg) (σ.2.2.1 2 a1_.toNatClampNeg)).2.2.1 1 a1_.toNatClampNeg)) 10 ((2 : Int32).toNatClampNeg) ((oS (oS σ 10 ((0 : Int32).toNatClampNeg) (σ.2.2.1 2 a1_.toNatClampNeg)) 10 ((1 : Int32).toNatClampNeg) ((oS σ 10 ((0 : Int32).toNatClampNeg) (σ.2.2.1 2 a1_.toNatClampNeg)).2.2.1 1 a1_.toNatClampNeg)).1 5)) 10 ((3 : Int32).toNatClampNeg) (fJ13_bitCount_95d88 ((oS (oS (oS σ 10 ((0 : Int32).toNatClampNeg) (σ.2.2.1 2 a1_.toNatClampNeg)) 10 ((1 : Int32).toNatClampNeg) ((oS σ 10 ((0 : Int32).toNatClampNeg) (σ.2.2.1 2 a1_.toNatClampNeg)).2.2.1 1 a1_.toNatClampNeg)) 10 ((2 : Int32).toNatClampNeg) ((oS (oS σ 10 ((0 : Int32).toNatClampNeg) (σ.2.2.1 2 a1_.toNatClampNeg)) 10 ((1 : Int32).toNatClampNeg) ((oS σ 10 ((0 : Int32).toNatClampNeg) (σ.2.2.1 2 a1_.toNatClampNeg)).2.2.1 1 a1_.toNatClampNeg)).1 5)).2.2.2 3 a1_.toNatClampNeg))) a2_ 0 4 else pX4_tell_93 τ j  (oS (oS (oS (oS σ 10 ((0 : Int32).toNatClampNeg) (σ.2.2.1 2 a1_.toNatClampNeg)) 10 ((1 : Int32).toNatClampNeg) ((oS σ 10 ((0 : Int32).toNatClampNeg) (σ.2.2.1 2 a1_.toNatClampNeg)).2.2.1 1 a1_.toNatClampNeg)) 10 ((2 : Int32).toNatClampNeg) ((oS (oS σ 10 ((0 : Int32).toNatClampNeg) (σ.2.2.1 2 a1_.toNatClampNeg)) 10 ((1 : Int32).toNatClampNeg) ((oS σ 10 ((0 : Int32).toNatClampNeg) (σ.2.2.1 2 a1_.toNatClampNeg)).2.2.1 1 a1_.toNatClampNeg)).1 5)) 10 ((3 : Int32).toNatClampNeg) (fJ13_bitCount_95d88 ((oS (oS (oS σ 10 ((0 : Int32).toNatClampNeg) (σ.2.2.1 2 a1_.toNatClampNeg)) 10 ((1 : Int32).toNatClampNeg) ((oS σ 10 ((0 : Int32).toNatClampNeg) (σ.2.2.1 2 a1_.toNatClampNeg)).2.2.1 1 a1_.toNatClampNeg)) 10 ((2 : Int32).toNatClampNeg) ((oS (oS σ 10 ((0 : Int32).toNatClampNeg) (σ.2.2.1 2 a1_.toNatClampNeg)) 10 ((1 : Int32).toNatClampNeg) ((oS σ 10 ((0 : Int32).toNatClampNeg) (σ.2.2.1 2 a1_.toNatClampNeg)).2.2.1 1 a1_.toNatClampNeg)).1 5)).2.2.2 3 a1_.toNatClampNeg))) a2_ ((fX4_highestCell (oS (oS (oS (oS σ 10 ((0 : Int32).toNatClampNeg) (σ.2.2.1 2 a1_.toNatClampNeg)) 10 ((1 : Int32).toNatClampNeg) ((oS σ 10 ((0 : Int32).toNatClampNeg) (σ.2.2.1 2 a1_.toNatClampNeg)).2.2.1 1 a1_.toNatClampNeg)) 10 ((2 : Int32).toNatClampNeg) ((oS (oS σ 10 ((0 : Int32).toNatClampNeg) (σ.2.2.1 2 a1_.toNatClampNeg)) 10 ((1 : Int32).toNatClampNeg) ((oS σ 10 ((0 : Int32).toNatClampNeg) (σ.2.2.1 2 a1_.toNatClampNeg)).2.2.1 1 a1_.toNatClampNeg)).1 5)) 10 ((3 : Int32).toNatClampNeg) (fJ13_bitCount_95d88 ((oS (oS (oS σ 10 ((0 : Int32).toNatClampNeg) (σ.2.2.1 2 a1_.toNatClampNeg)) 10 ((1 : Int32).toNatClampNeg) ((oS σ 10 ((0 : Int32).toNatClampNeg) (σ.2.2.1 2 a1_.toNatClampNeg)).2.2.1 1 a1_.toNatClampNeg)) 10 ((2 : Int32).toNatClampNeg) ((oS (oS σ 10 ((0 : Int32).toNatClampNeg) (σ.2.2.1 2 a1_.toNatClampNeg)) 10 ((1 : Int32).toNatClampNeg) ((oS σ 10 ((0 : Int32).toNatClampNeg) (σ.2.2.1 2 a1_.toNatClampNeg)).2.2.1 1 a1_.toNatClampNeg)).1 5)).2.2.2 3 a1_.toNatClampNeg))) a1_) / 8) 4
def oX4_tell_0 (τ : TX) (j : Nat)  (σ : OS) (a1_ : Int32) (a2_ : Int32) : Prop := (vp_in (σ.1 7) 6) ∧ (((σ.1 7).toNatClampNeg = j) ∧ ((j < τ.length) ∧ ((vp_in a1_ 5) ∧ ((vp_in 0 6) ∧ ((vp_in a1_ 5) ∧ ((vp_in 1 6) ∧ ((vp_in 2 6) ∧ ((vp_in a1_ 5) ∧ ((vp_in 3 6) ∧ ((vp_in a1_ 5) ∧ ((((oS (oS (oS (oS σ 10 ((0 : Int32).toNatClampNeg) (σ.2.2.1 2 a1_.toNatClampNeg)) 10 ((1 : Int32).toNatClampNeg) ((oS σ 10 ((0 : Int32).toNatClampNeg) (σ.2.2.1 2 a1_.toNatClampNeg)).2.2.1 1 a1_.toNatClampNeg)) 10 ((2 : Int32).toNatClampNeg) ((oS (oS σ 10 ((0 : Int32).toNatClampNeg) (σ.2.2.1 2 a1_.toNatClampNeg)) 10 ((1 : Int32).toNatClampNeg) ((oS σ 10 ((0 : Int32).toNatClampNeg) (σ.2.2.1 2 a1_.toNatClampNeg)).2.2.1 1 a1_.toNatClampNeg)).1 5)) 10 ((3 : Int32).toNatClampNeg) (fJ13_bitCount_95d88 ((oS (oS (oS σ 10 ((0 : Int32).toNatClampNeg) (σ.2.2.1 2 a1_.toNatClampNeg)) 10 ((1 : Int32).toNatClampNeg) ((oS σ 10 ((0 : Int32).toNatClampNeg) (σ.2.2.1 2 a1_.toNatClampNeg)).2.2.1 1 a1_.toNatClampNeg)) 10 ((2 : Int32).toNatClampNeg) ((oS (oS σ 10 ((0 : Int32).toNatClampNeg) (σ.2.2.1 2 a1_.toNatClampNeg)) 10 ((1 : Int32).toNatClampNeg) ((oS σ 10 ((0 : Int32).toNatClampNeg) (σ.2.2.1 2 a1_.toNatClampNeg)).2.2.1 1 a1_.toNatClampNeg)).1 5)).2.2.2 3 a1_.toNatClampNeg))).2.2.2 3 a1_.toNatClampNeg) = 0 → oX4_tell_93 τ j  (oS (oS (oS (oS σ 10 ((0 : Int32).toNatClampNeg) (σ.2.2.1 2 a1_.toNatClampNeg)) 10 ((1 : Int32).toNatClampNeg) ((oS σ 10 ((0 : Int32).toNatClampNeg) (σ.2.2.1 2 a1_.toNatClampNeg)).2.2.1 1 a1_.toNatClampNeg)) 10 ((2 : Int32).toNatClampNeg) ((oS (oS σ 10 ((0 : Int32).toNatClampNeg) (σ.2.2.1 2 a1_.toNatClampNeg)) 10 ((1 : Int32).toNatClampNeg) ((oS σ 10 ((0 : Int32).toNatClampNeg) (σ.2.2.1 2 a1_.toNatClampNeg)).2.2.1 1 a1_.toNatClampNeg)).1 5)) 10 ((3 : Int32).toNatClampNeg) (fJ13_bitCount_95d88 ((oS (oS (oS σ 10 ((0 : Int32).toNatClampNeg) (σ.2.2.1 2 a1_.toNatClampNeg)) 10 ((1 : Int32).toNatClampNeg) ((oS σ 10 ((0 : Int32).toNatClampNeg) (σ.2.2.1 2 a1_.toNatClampNeg)).2.2.1 1 a1_.toNatClampNeg)) 10 ((2 : Int32).toNatClampNeg) ((oS (oS σ 10 ((0 : Int32).toNatClampNeg) (σ.2.2.1 2 a1_.toNatClampNeg)) 10 ((1 : Int32).toNatClampNeg) ((oS σ 10 ((0 : Int32).toNatClampNeg) (σ.2.2.1 2 a1_.toNatClampNeg)).2.2.1 1 a1_.toNatClampNeg)).1 5)).2.2.2 3 a1_.toNatClampNeg))) a2_ 0 4) ∧ (¬ (((oS (oS (oS (oS σ 10 ((0 : Int32).toNatClampNeg) (σ.2.2.1 2 a1_.toNatClampNeg)) 10 ((1 : Int32).toNatClampNeg) ((oS σ 10 ((0 : Int32).toNatClampNeg) (σ.2.2.1 2 a1_.toNatClampNeg)).2.2.1 1 a1_.toNatClampNeg)) 10 ((2 : Int32).toNatClampNeg) ((oS (oS σ 10 ((0 : Int32).toNatClampNeg) (σ.2.2.1 2 a1_.toNatClampNeg)) 10 ((1 : Int32).toNatClampNeg) ((oS σ 10 ((0 : Int32).toNatClampNeg) (σ.2.2.1 2 a1_.toNatClampNeg)).2.2.1 1 a1_.toNatClampNeg)).1 5)) 10 ((3 : Int32).toNatClampNeg) (fJ13_bitCount_95d88 ((oS (oS (oS σ 10 ((0 : Int32).toNatClampNeg) (σ.2.2.1 2 a1_.toNatClampNeg)) 10 ((1 : Int32).toNatClampNeg) ((oS σ 10 ((0 : Int32).toNatClampNeg) (σ.2.2.1 2 a1_.toNatClampNeg)).2.2.1 1 a1_.toNatClampNeg)) 10 ((2 : Int32).toNatClampNeg) ((oS (oS σ 10 ((0 : Int32).toNatClampNeg) (σ.2.2.1 2 a1_.toNatClampNeg)) 10 ((1 : Int32).toNatClampNeg) ((oS σ 10 ((0 : Int32).toNatClampNeg) (σ.2.2.1 2 a1_.toNatClampNeg)).2.2.1 1 a1_.toNatClampNeg)).1 5)).2.2.2 3 a1_.toNatClampNeg))).2.2.2 3 a1_.toNatClampNeg) = 0) → (gX4_highestCell (oS (oS (oS (oS σ 10 ((0 : Int32).toNatClampNeg) (σ.2.2.1 2 a1_.toNatClampNeg)) 10 ((1 : Int32).toNatClampNeg) ((oS σ 10 ((0 : Int32).toNatClampNeg) (σ.2.2.1 2 a1_.toNatClampNeg)).2.2.1 1 a1_.toNatClampNeg)) 10 ((2 : Int32).toNatClampNeg) ((oS (oS σ 10 ((0 : Int32).toNatClampNeg) (σ.2.2.1 2 a1_.toNatClampNeg)) 10 ((1 : Int32).toNatClampNeg) ((oS σ 10 ((0 : Int32).toNatClampNeg) (σ.2.2.1 2 a1_.toNatClampNeg)).2.2.1 1 a1_.toNatClampNeg)).1 5)) 10 ((3 : Int32).toNatClampNeg) (fJ13_bitCount_95d88 ((oS (oS (oS σ 10 ((0 : Int32).toNatClampNeg) (σ.2.2.1 2 a1_.toNatClampNeg)) 10 ((1 : Int32).toNatClampNeg) ((oS σ 10 ((0 : Int32).toNatClampNeg) (σ.2.2.1 2 a1_.toNatClampNeg)).2.2.1 1 a1_.toNatClampNeg)) 10 ((2 : Int32).toNatClampNeg) ((oS (oS σ 10 ((0 : Int32).toNatClampNeg) (σ.2.2.1 2 a1_.toNatClampNeg)) 10 ((1 : Int32).toNatClampNeg) ((oS σ 10 ((0 : Int32).toNatClampNeg) (σ.2.2.1 2 a1_.toNatClampNeg)).2.2.1 1 a1_.toNatClampNeg)).1 5)).2.2.2 3 a1_.toNatClampNeg))) a1_) ∧ (oX4_tell_93 τ j  (oS (oS (oS (oS σ 10 ((0 : Int32).toNatClampNeg) (σ.2.2.1 2 a1_.toNatClampNeg)) 10 ((1 : Int32).toNatClampNeg) ((oS σ 10 ((0 : Int32).toNatClampNeg) (σ.2.2.1 2 a1_.toNatClampNeg)).2.2.1 1 a1_.toNatClampNeg)) 10 ((2 : Int32).toNatClampNeg) ((oS (oS σ 10 ((0 : Int32).toNatClampNeg) (σ.2.2.1 2 a1_.toNatClampNeg)) 10 ((1 : Int32).toNatClampNeg) ((oS σ 10 ((0 : Int32).toNatClampNeg) (σ.2.2.1 2 a1_.toNatClampNeg)).2.2.1 1 a1_.toNatClampNeg)).1 5)) 10 ((3 : Int32).toNatClampNeg) (fJ13_bitCount_95d88 ((oS (oS (oS σ 10 ((0 : Int32).toNatClampNeg) (σ.2.2.1 2 a1_.toNatClampNeg)) 10 ((1 : Int32).toNatClampNeg) ((oS σ 10 ((0 : Int32).toNatClampNeg) (σ.2.2.1 2 a1_.toNatClampNeg)).2.2.1 1 a1_.toNatClampNeg)) 10 ((2 : Int32).toNatClampNeg) ((oS (oS σ 10 ((0 : Int32).toNatClampNeg) (σ.2.2.1 2 a1_.toNatClampNeg)) 10 ((1 : Int32).toNatClampNeg) ((oS σ 10 ((0 : Int32).toNatClampNeg) (σ.2.2.1 2 a1_.toNatClampNeg)).2.2.1 1 a1_.toNatClampNeg)).1 5)).2.2.2 3 a1_.toNatClampNeg))) a2_ ((fX4_highestCell (oS (oS (oS (oS σ 10 ((0 : Int32).toNatClampNeg) (σ.2.2.1 2 a1_.toNatClampNeg)) 10 ((1 : Int32).toNatClampNeg) ((oS σ 10 ((0 : Int32).toNatClampNeg) (σ.2.2.1 2 a1_.toNatClampNeg)).2.2.1 1 a1_.toNatClampNeg)) 10 ((2 : Int32).toNatClampNeg) ((oS (oS σ 10 ((0 : Int32).toNatClampNeg) (σ.2.2.1 2 a1_.toNatClampNeg)) 10 ((1 : Int32).toNatClampNeg) ((oS σ 10 ((0 : Int32).toNatClampNeg) (σ.2.2.1 2 a1_.toNatClampNeg)).2.2.1 1 a1_.toNatClampNeg)).1 5)) 10 ((3 : Int32).toNatClampNeg) (fJ13_bitCount_95d88 ((oS (oS (oS σ 10 ((0 : Int32).toNatClampNeg) (σ.2.2.1 2 a1_.toNatClampNeg)) 10 ((1 : Int32).toNatClampNeg) ((oS σ 10 ((0 : Int32).toNatClampNeg) (σ.2.2.1 2 a1_.toNatClampNeg)).2.2.1 1 a1_.toNatClampNeg)) 10 ((2 : Int32).toNatClampNeg) ((oS (oS σ 10 ((0 : Int32).toNatClampNeg) (σ.2.2.1 2 a1_.toNatClampNeg)) 10 ((1 : Int32).toNatClampNeg) ((oS σ 10 ((0 : Int32).toNatClampNeg) (σ.2.2.1 2 a1_.toNatClampNeg)).2.2.1 1 a1_.toNatClampNeg)).1 5)).2.2.2 3 a1_.toNatClampNeg))) a1_) / 8) 4)))))))))))))
set_option maxHeartbeats 4000000 in
set_option maxRecDepth 100000 in
theorem wX4_tell_0 {X : CX} {cy : Nat → ClassId} {q : Nat → Nat} {τ : TX} {j : Nat} {D : va_G} {A : Nat → Prop} {res : Int32 × OS} (σ : OS) (a1_ : Int32) (a2_ : Int32) (C : Cx X cX4_tell RX4 6 D (gty cy) A 3 0 0) (hR : Rt X (some .int) D (gty cy) A 0 0 (eI (wX4 cy q (tw cy (q 9) τ) res.2) res.1))  (ok : oX4_tell_0 τ j  σ a1_ a2_) (h : pX4_tell_0 τ j  σ a1_ a2_ = res) : At X D A 6 0 0 0 [(0, .ref (q 12)), (1, .int a1_), (2, .int a2_)] [] (wX4 cy q (tw cy (q 9) τ) σ) := by
  unfold pX4_tell_0 at h
  unfold oX4_tell_0 at ok
  refine r_aload_n C 0 (dall tdX4_tell 0 rfl) rfl ?_
  refine r_get C 0 kw_X4 rfl rfl (by decide) kf_X4_39 rfl rfl (dall tdX4_tell 1 rfl) ?_
  refine r_aload_n C 0 (dall tdX4_tell 2 rfl) rfl ?_
  refine r_get C 0 kw_X4 rfl rfl (by decide) kf_X4_53 rfl rfl (dall tdX4_tell 3 rfl) ?_
  obtain ⟨o6, ok⟩ := ok
  obtain ⟨o7, ok⟩ := ok
  obtain ⟨o8, ok⟩ := ok
  refine r_txt C o6 o7 o8 (dall tdX4_tell 4 rfl) ?_
  refine r_astore_n (lv' := [(3, .ref ((tAt τ j).1.1)), (0, .ref (q 12)), (1, .int a1_), (2, .int a2_)]) C (dall tdX4_tell 5 rfl) (by decide) rfl ?_
  refine r_aload_n C 0 (dall tdX4_tell 6 rfl) rfl ?_
  refine r_ifnonnull (tgt := 16) C (dall tdX4_tell 7 rfl) (by decide) ?_
  refine r_aload_n C 1 (dall tdX4_tell 10 rfl) rfl ?_
  refine r_get C 0 kw_X4 rfl rfl (by decide) kf_X4_33 rfl rfl (dall tdX4_tell 11 rfl) ?_
  refine r_iconst (v := 0) C (dall tdX4_tell 12 rfl) (by decide) ?_
  refine r_aload_n C 1 (dall tdX4_tell 13 rfl) rfl ?_
  refine r_get C 0 kw_X4 rfl rfl (by decide) kf_X4_18 rfl rfl (dall tdX4_tell 14 rfl) ?_
  refine r_iload_n C 2 (dall tdX4_tell 15 rfl) rfl ?_
  obtain ⟨o9, ok⟩ := ok
  refine r_iald C 3 0 rfl rfl o9 (dall tdX4_tell 16 rfl) ?_
  obtain ⟨o10, ok⟩ := ok
  refine r_iast C 5 0 rfl rfl o10 (pa_X4_this_10 cy q (tw cy (q 9) τ) σ ((0 : Int32).toNatClampNeg) (σ.2.2.1 2 a1_.toNatClampNeg)) (dall tdX4_tell 17 rfl) ?_
  refine r_aload_n C 1 (dall tdX4_tell 18 rfl) rfl ?_
  refine r_get C 0 kw_X4 rfl rfl (by decide) kf_X4_33 rfl rfl (dall tdX4_tell 19 rfl) ?_
  refine r_iconst (v := 1) C (dall tdX4_tell 20 rfl) (by decide) ?_
  refine r_aload_n C 1 (dall tdX4_tell 21 rfl) rfl ?_
  refine r_get C 0 kw_X4 rfl rfl (by decide) kf_X4_15 rfl rfl (dall tdX4_tell 22 rfl) ?_
  refine r_iload_n C 2 (dall tdX4_tell 23 rfl) rfl ?_
  obtain ⟨o11, ok⟩ := ok
  refine r_iald C 2 0 rfl rfl o11 (dall tdX4_tell 24 rfl) ?_
  obtain ⟨o12, ok⟩ := ok
  refine r_iast C 5 0 rfl rfl o12 (pa_X4_this_10 cy q (tw cy (q 9) τ) (oS σ 10 ((0 : Int32).toNatClampNeg) (σ.2.2.1 2 a1_.toNatClampNeg)) ((1 : Int32).toNatClampNeg) ((oS σ 10 ((0 : Int32).toNatClampNeg) (σ.2.2.1 2 a1_.toNatClampNeg)).2.2.1 1 a1_.toNatClampNeg)) (dall tdX4_tell 25 rfl) ?_
  refine r_aload_n C 1 (dall tdX4_tell 26 rfl) rfl ?_
  refine r_get C 0 kw_X4 rfl rfl (by decide) kf_X4_33 rfl rfl (dall tdX4_tell 27 rfl) ?_
  refine r_iconst (v := 2) C (dall tdX4_tell 28 rfl) (by decide) ?_
  refine r_aload_n C 1 (dall tdX4_tell 29 rfl) rfl ?_
  refine r_get C 0 kw_X4 rfl rfl (by decide) kf_X4_47 rfl rfl (dall tdX4_tell 30 rfl) ?_
  obtain ⟨o13, ok⟩ := ok
  refine r_iast C 5 0 rfl rfl o13 (pa_X4_this_10 cy q (tw cy (q 9) τ) (oS (oS σ 10 ((0 : Int32).toNatClampNeg) (σ.2.2.1 2 a1_.toNatClampNeg)) 10 ((1 : Int32).toNatClampNeg) ((oS σ 10 ((0 : Int32).toNatClampNeg) (σ.2.2.1 2 a1_.toNatClampNeg)).2.2.1 1 a1_.toNatClampNeg)) ((2 : Int32).toNatClampNeg) ((oS (oS σ 10 ((0 : Int32).toNatClampNeg) (σ.2.2.1 2 a1_.toNatClampNeg)) 10 ((1 : Int32).toNatClampNeg) ((oS σ 10 ((0 : Int32).toNatClampNeg) (σ.2.2.1 2 a1_.toNatClampNeg)).2.2.1 1 a1_.toNatClampNeg)).1 5)) (dall tdX4_tell 31 rfl) ?_
  refine r_aload_n C 1 (dall tdX4_tell 32 rfl) rfl ?_
  refine r_get C 0 kw_X4 rfl rfl (by decide) kf_X4_33 rfl rfl (dall tdX4_tell 33 rfl) ?_
  refine r_iconst (v := 3) C (dall tdX4_tell 34 rfl) (by decide) ?_
  refine r_aload_n C 1 (dall tdX4_tell 35 rfl) rfl ?_
  refine r_get C 0 kw_X4 rfl rfl (by decide) kf_X4_21 rfl rfl (dall tdX4_tell 36 rfl) ?_
  refine r_iload_n C 2 (dall tdX4_tell 37 rfl) rfl ?_
  obtain ⟨o14, ok⟩ := ok
  refine r_lald C 4 1 rfl rfl o14 (dall tdX4_tell 38 rfl) ?_
  refine r_s0I (as := [.long ((oS (oS (oS σ 10 ((0 : Int32).toNatClampNeg) (σ.2.2.1 2 a1_.toNatClampNeg)) 10 ((1 : Int32).toNatClampNeg) ((oS σ 10 ((0 : Int32).toNatClampNeg) (σ.2.2.1 2 a1_.toNatClampNeg)).2.2.1 1 a1_.toNatClampNeg)) 10 ((2 : Int32).toNatClampNeg) ((oS (oS σ 10 ((0 : Int32).toNatClampNeg) (σ.2.2.1 2 a1_.toNatClampNeg)) 10 ((1 : Int32).toNatClampNeg) ((oS σ 10 ((0 : Int32).toNatClampNeg) (σ.2.2.1 2 a1_.toNatClampNeg)).2.2.1 1 a1_.toNatClampNeg)).1 5)).2.2.2 3 a1_.toNatClampNeg)]) C (zJ13_bitCount_95d88 ((oS (oS (oS σ 10 ((0 : Int32).toNatClampNeg) (σ.2.2.1 2 a1_.toNatClampNeg)) 10 ((1 : Int32).toNatClampNeg) ((oS σ 10 ((0 : Int32).toNatClampNeg) (σ.2.2.1 2 a1_.toNatClampNeg)).2.2.1 1 a1_.toNatClampNeg)) 10 ((2 : Int32).toNatClampNeg) ((oS (oS σ 10 ((0 : Int32).toNatClampNeg) (σ.2.2.1 2 a1_.toNatClampNeg)) 10 ((1 : Int32).toNatClampNeg) ((oS σ 10 ((0 : Int32).toNatClampNeg) (σ.2.2.1 2 a1_.toNatClampNeg)).2.2.1 1 a1_.toNatClampNeg)).1 5)).2.2.2 3 a1_.toNatClampNeg) ) ms_J13_bitCount_95d88 km_X4_60 (by decide) (by decide) ⟨Nat.le_refl _, Nat.le_refl _⟩ rfl rfl (Nat.le_of_ble_eq_true rfl) (dall tdX4_tell 39 rfl) ?_
  obtain ⟨o15, ok⟩ := ok
  refine r_iast C 5 0 rfl rfl o15 (pa_X4_this_10 cy q (tw cy (q 9) τ) (oS (oS (oS σ 10 ((0 : Int32).toNatClampNeg) (σ.2.2.1 2 a1_.toNatClampNeg)) 10 ((1 : Int32).toNatClampNeg) ((oS σ 10 ((0 : Int32).toNatClampNeg) (σ.2.2.1 2 a1_.toNatClampNeg)).2.2.1 1 a1_.toNatClampNeg)) 10 ((2 : Int32).toNatClampNeg) ((oS (oS σ 10 ((0 : Int32).toNatClampNeg) (σ.2.2.1 2 a1_.toNatClampNeg)) 10 ((1 : Int32).toNatClampNeg) ((oS σ 10 ((0 : Int32).toNatClampNeg) (σ.2.2.1 2 a1_.toNatClampNeg)).2.2.1 1 a1_.toNatClampNeg)).1 5)) ((3 : Int32).toNatClampNeg) (fJ13_bitCount_95d88 ((oS (oS (oS σ 10 ((0 : Int32).toNatClampNeg) (σ.2.2.1 2 a1_.toNatClampNeg)) 10 ((1 : Int32).toNatClampNeg) ((oS σ 10 ((0 : Int32).toNatClampNeg) (σ.2.2.1 2 a1_.toNatClampNeg)).2.2.1 1 a1_.toNatClampNeg)) 10 ((2 : Int32).toNatClampNeg) ((oS (oS σ 10 ((0 : Int32).toNatClampNeg) (σ.2.2.1 2 a1_.toNatClampNeg)) 10 ((1 : Int32).toNatClampNeg) ((oS σ 10 ((0 : Int32).toNatClampNeg) (σ.2.2.1 2 a1_.toNatClampNeg)).2.2.1 1 a1_.toNatClampNeg)).1 5)).2.2.2 3 a1_.toNatClampNeg))) (dall tdX4_tell 40 rfl) ?_
  refine r_aload_n C 1 (dall tdX4_tell 41 rfl) rfl ?_
  refine r_get C 0 kw_X4 rfl rfl (by decide) kf_X4_33 rfl rfl (dall tdX4_tell 42 rfl) ?_
  refine r_iconst (v := 4) C (dall tdX4_tell 43 rfl) (by decide) ?_
  refine r_aload_n C 1 (dall tdX4_tell 44 rfl) rfl ?_
  refine r_get C 0 kw_X4 rfl rfl (by decide) kf_X4_21 rfl rfl (dall tdX4_tell 45 rfl) ?_
  refine r_iload_n C 2 (dall tdX4_tell 46 rfl) rfl ?_
  obtain ⟨o16, ok⟩ := ok
  refine r_lald C 4 1 rfl rfl o16 (dall tdX4_tell 47 rfl) ?_
  refine r_lconst (v := 0) C (dall tdX4_tell 48 rfl) (by decide) ?_
  refine r_lif_ne (tgt := 85) C (dall tdX4_tell 49 rfl) (dall tdX4_tell 50 rfl) (by decide) (fun c17 => ?_) (fun c17 => ?_)
  · have h := (if_neg c17).symm.trans h
    have ok := ok.2 c17
    refine r_aload_n C 1 (dall tdX4_tell 53 rfl) rfl ?_
    refine r_iload_n C 2 (dall tdX4_tell 54 rfl) rfl ?_
    obtain ⟨o18, ok⟩ := ok
    refine r_vI (as := [.int a1_]) C (zX4_highestCell cy q (tw cy (q 9) τ) (oS (oS (oS (oS σ 10 ((0 : Int32).toNatClampNeg) (σ.2.2.1 2 a1_.toNatClampNeg)) 10 ((1 : Int32).toNatClampNeg) ((oS σ 10 ((0 : Int32).toNatClampNeg) (σ.2.2.1 2 a1_.toNatClampNeg)).2.2.1 1 a1_.toNatClampNeg)) 10 ((2 : Int32).toNatClampNeg) ((oS (oS σ 10 ((0 : Int32).toNatClampNeg) (σ.2.2.1 2 a1_.toNatClampNeg)) 10 ((1 : Int32).toNatClampNeg) ((oS σ 10 ((0 : Int32).toNatClampNeg) (σ.2.2.1 2 a1_.toNatClampNeg)).2.2.1 1 a1_.toNatClampNeg)).1 5)) 10 ((3 : Int32).toNatClampNeg) (fJ13_bitCount_95d88 ((oS (oS (oS σ 10 ((0 : Int32).toNatClampNeg) (σ.2.2.1 2 a1_.toNatClampNeg)) 10 ((1 : Int32).toNatClampNeg) ((oS σ 10 ((0 : Int32).toNatClampNeg) (σ.2.2.1 2 a1_.toNatClampNeg)).2.2.1 1 a1_.toNatClampNeg)) 10 ((2 : Int32).toNatClampNeg) ((oS (oS σ 10 ((0 : Int32).toNatClampNeg) (σ.2.2.1 2 a1_.toNatClampNeg)) 10 ((1 : Int32).toNatClampNeg) ((oS σ 10 ((0 : Int32).toNatClampNeg) (σ.2.2.1 2 a1_.toNatClampNeg)).2.2.1 1 a1_.toNatClampNeg)).1 5)).2.2.2 3 a1_.toNatClampNeg))) a1_ o18) mv_X4_highestCell km_X4_107 (by decide) (by decide) ⟨Nat.le_refl _, Nat.le_refl _⟩ rfl rfl rfl rfl (Nat.le_of_ble_eq_true rfl) (dall tdX4_tell 55 rfl) ?_
    refine r_bipush (v := 8) C (dall tdX4_tell 56 rfl) (by decide) ?_
    refine r_idiv C (dall tdX4_tell 57 rfl) (by decide) ?_
    refine r_pick [1, 3, 0] rfl ?_
    exact wX4_tell_93 (oS (oS (oS (oS σ 10 ((0 : Int32).toNatClampNeg) (σ.2.2.1 2 a1_.toNatClampNeg)) 10 ((1 : Int32).toNatClampNeg) ((oS σ 10 ((0 : Int32).toNatClampNeg) (σ.2.2.1 2 a1_.toNatClampNeg)).2.2.1 1 a1_.toNatClampNeg)) 10 ((2 : Int32).toNatClampNeg) ((oS (oS σ 10 ((0 : Int32).toNatClampNeg) (σ.2.2.1 2 a1_.toNatClampNeg)) 10 ((1 : Int32).toNatClampNeg) ((oS σ 10 ((0 : Int32).toNatClampNeg) (σ.2.2.1 2 a1_.toNatClampNeg)).2.2.1 1 a1_.toNatClampNeg)).1 5)) 10 ((3 : Int32).toNatClampNeg) (fJ13_bitCount_95d88 ((oS (oS (oS σ 10 ((0 : Int32).toNatClampNeg) (σ.2.2.1 2 a1_.toNatClampNeg)) 10 ((1 : Int32).toNatClampNeg) ((oS σ 10 ((0 : Int32).toNatClampNeg) (σ.2.2.1 2 a1_.toNatClampNeg)).2.2.1 1 a1_.toNatClampNeg)) 10 ((2 : Int32).toNatClampNeg) ((oS (oS σ 10 ((0 : Int32).toNatClampNeg) (σ.2.2.1 2 a1_.toNatClampNeg)) 10 ((1 : Int32).toNatClampNeg) ((oS σ 10 ((0 : Int32).toNatClampNeg) (σ.2.2.1 2 a1_.toNatClampNeg)).2.2.1 1 a1_.toNatClampNeg)).1 5)).2.2.2 3 a1_.toNatClampNeg))) a2_ ((fX4_highestCell (oS (oS (oS (oS σ 10 ((0 : Int32).toNatClampNeg) (σ.2.2.1 2 a1_.toNatClampNeg)) 10 ((1 : Int32).toNatClampNeg) ((oS σ 10 ((0 : Int32).toNatClampNeg) (σ.2.2.1 2 a1_.toNatClampNeg)).2.2.1 1 a1_.toNatClampNeg)) 10 ((2 : Int32).toNatClampNeg) ((oS (oS σ 10 ((0 : Int32).toNatClampNeg) (σ.2.2.1 2 a1_.toNatClampNeg)) 10 ((1 : Int32).toNatClampNeg) ((oS σ 10 ((0 : Int32).toNatClampNeg) (σ.2.2.1 2 a1_.toNatClampNeg)).2.2.1 1 a1_.toNatClampNeg)).1 5)) 10 ((3 : Int32).toNatClampNeg) (fJ13_bitCount_95d88 ((oS (oS (oS σ 10 ((0 : Int32).toNatClampNeg) (σ.2.2.1 2 a1_.toNatClampNeg)) 10 ((1 : Int32).toNatClampNeg) ((oS σ 10 ((0 : Int32).toNatClampNeg) (σ.2.2.1 2 a1_.toNatClampNeg)).2.2.1 1 a1_.toNatClampNeg)) 10 ((2 : Int32).toNatClampNeg) ((oS (oS σ 10 ((0 : Int32).toNatClampNeg) (σ.2.2.1 2 a1_.toNatClampNeg)) 10 ((1 : Int32).toNatClampNeg) ((oS σ 10 ((0 : Int32).toNatClampNeg) (σ.2.2.1 2 a1_.toNatClampNeg)).2.2.1 1 a1_.toNatClampNeg)).1 5)).2.2.2 3 a1_.toNatClampNeg))) a1_) / 8) 4 C hR  ok h
  · have h := (if_pos c17).symm.trans h
    have ok := ok.1 c17
    refine r_iconst (v := 0) C (dall tdX4_tell 51 rfl) (by decide) ?_
    refine r_goto (tgt := 93) C (dall tdX4_tell 52 rfl) (by decide) ?_
    refine r_pick [1, 3, 0] rfl ?_
    exact wX4_tell_93 (oS (oS (oS (oS σ 10 ((0 : Int32).toNatClampNeg) (σ.2.2.1 2 a1_.toNatClampNeg)) 10 ((1 : Int32).toNatClampNeg) ((oS σ 10 ((0 : Int32).toNatClampNeg) (σ.2.2.1 2 a1_.toNatClampNeg)).2.2.1 1 a1_.toNatClampNeg)) 10 ((2 : Int32).toNatClampNeg) ((oS (oS σ 10 ((0 : Int32).toNatClampNeg) (σ.2.2.1 2 a1_.toNatClampNeg)) 10 ((1 : Int32).toNatClampNeg) ((oS σ 10 ((0 : Int32).toNatClampNeg) (σ.2.2.1 2 a1_.toNatClampNeg)).2.2.1 1 a1_.toNatClampNeg)).1 5)) 10 ((3 : Int32).toNatClampNeg) (fJ13_bitCount_95d88 ((oS (oS (oS σ 10 ((0 : Int32).toNatClampNeg) (σ.2.2.1 2 a1_.toNatClampNeg)) 10 ((1 : Int32).toNatClampNeg) ((oS σ 10 ((0 : Int32).toNatClampNeg) (σ.2.2.1 2 a1_.toNatClampNeg)).2.2.1 1 a1_.toNatClampNeg)) 10 ((2 : Int32).toNatClampNeg) ((oS (oS σ 10 ((0 : Int32).toNatClampNeg) (σ.2.2.1 2 a1_.toNatClampNeg)) 10 ((1 : Int32).toNatClampNeg) ((oS σ 10 ((0 : Int32).toNatClampNeg) (σ.2.2.1 2 a1_.toNatClampNeg)).2.2.1 1 a1_.toNatClampNeg)).1 5)).2.2.2 3 a1_.toNatClampNeg))) a2_ 0 4 C hR  ok h
def fX4_tell (τ : TX) (j : Nat) (σ : OS) (a1_ : Int32) (a2_ : Int32) : Int32 × OS := pX4_tell_0 τ j  σ a1_ a2_
def gX4_tell (τ : TX) (j : Nat) (σ : OS) (a1_ : Int32) (a2_ : Int32) : Prop := oX4_tell_0 τ j  σ a1_ a2_
set_option maxRecDepth 100000 in
theorem zX4_tell (cy : Nat → ClassId) (q : Nat → Nat) (τ : TX) (j : Nat)  {D : va_G} (σ : OS) (a1_ : Int32) (a2_ : Int32) (ok : gX4_tell τ j σ a1_ a2_)  : Con yX4_tell cX4_tell 6 (some .int) 3 0 0 D (gty cy) [.ref (q 12), .int a1_, .int a2_] (wX4 cy q (tw cy (q 9) τ) σ) (eI (wX4 cy q (tw cy (q 9) τ) (fX4_tell τ j σ a1_ a2_).2) (fX4_tell τ j σ a1_ a2_).1) :=
  Con.of (own := RX4) (by decide +kernel) rfl (Nat.le_of_ble_eq_true rfl) (Nat.zero_le _) (fun X A C hR _ => (wX4_tell_0 σ a1_ a2_ C hR  ok rfl))
theorem mv_X4_tell : MV yX4_tell cX4_tell 6 (some .int) RX4 2 := ⟨ki_X4_tell, kv_X4_tell, kn_X4, kc_X4_tell, by decide +kernel⟩
def tbX4_holds : List (Nat × Instr × Nat) := [(0, .aload_n 0, 1), (1, .iload_n 1, 1), (2, .iconst 0, 1), (3, .invokevirtual 121, 3), (6, .istore_n 2, 1), (7, .aload_n 0, 1), (8, .getfield 47, 3), (11, .bipush 10, 2), (13, .if_icmp .ge 9, 3), (16, .iload_n 2, 1), (17, .iconst 4, 1), (18, .iadd, 1), (19, .goto 4, 3), (22, .iload_n 2, 1), (23, .istore_n 3, 1), (24, .iload_n 2, 1), (25, .istore 4, 2), (27, .aload_n 0, 1), (28, .getfield 9, 3), (31, .iload_n 1, 1), (32, .iaload, 1), (33, .tableswitch 92 1 5 #[35, 41, 49, 64, 85], 35), (68, .iload_n 3, 1), (69, .istore 4, 2), (71, .goto 54, 3), (74, .iconst 2, 1), (75, .iload_n 2, 1), (76, .imul, 1), (77, .istore 4, 2), (79, .goto 46, 3), (82, .iload_n 3, 1), (83, .aload_n 0, 1), (84, .getfield 15, 3), (87, .iload_n 1, 1), (88, .iaload, 1), (89, .invokestatic 94, 3), (92, .istore 4, 2), (94, .goto 31, 3), (97, .aload_n 0, 1), (98, .getfield 18, 3), (101, .iload_n 1, 1), (102, .iaload, 1), (103, .ifCond .ne 7, 3), (106, .iconst 0, 1), (107, .goto 6, 3), (110, .iconst 2, 1), (111, .iload_n 2, 1), (112, .imul, 1), (113, .istore 4, 2), (115, .goto 10, 3), (118, .bipush 64, 2), (120, .istore 4, 2), (122, .goto 3, 3), (125, .bipush 64, 2), (127, .iload 4, 2), (129, .invokestatic 101, 3), (132, .ireturn, 1)]
theorem tdX4_holds : tbX4_holds.all (fun q => decide (decode cX4_holds q.1 = .ok q.2)) = true := by decide +kernel
def pX4_holds_125 (τ : TX)  (σ : OS) (a4_ : Int32) : Int32 × OS := (jmin 64 a4_, σ)
set_option maxHeartbeats 4000000 in
set_option maxRecDepth 100000 in
theorem wX4_holds_125 {X : CX} {cy : Nat → ClassId} {q : Nat → Nat} {τ : TX} {D : va_G} {A : Nat → Prop} {res : Int32 × OS} (σ : OS) (a4_ : Int32) (C : Cx X cX4_holds RX4 5 D (gty cy) A 4 0 0) (hR : Rt X (some .int) D (gty cy) A 0 0 (eI (wX4 cy q (tw cy (q 9) τ) res.2) res.1))  (h : pX4_holds_125 τ  σ a4_ = res) : At X D A 5 0 0 125 [(4, .int a4_)] [] (wX4 cy q (tw cy (q 9) τ) σ) := by
  unfold pX4_holds_125 at h
  refine r_bipush (v := 64) C (dall tdX4_holds 53 rfl) (by decide) ?_
  refine r_iload C 0 (dall tdX4_holds 54 rfl) rfl ?_
  refine r_mmin C km_X4_101 (dall tdX4_holds 55 rfl) (by decide) (Nat.le_of_ble_eq_true rfl) ⟨Nat.le_refl _, Nat.le_refl _⟩ ?_
  exact r_iret C hR (dall tdX4_holds 56 rfl) (by subst h; exact ⟨rfl, rfl⟩)
def pX4_holds_113 (τ : TX)  (σ : OS) (b0_ : Int32) : Int32 × OS := pX4_holds_125 τ  σ b0_
set_option maxHeartbeats 4000000 in
set_option maxRecDepth 100000 in
theorem wX4_holds_113 {X : CX} {cy : Nat → ClassId} {q : Nat → Nat} {τ : TX} {D : va_G} {A : Nat → Prop} {res : Int32 × OS} (σ : OS) (b0_ : Int32) (C : Cx X cX4_holds RX4 5 D (gty cy) A 4 0 0) (hR : Rt X (some .int) D (gty cy) A 0 0 (eI (wX4 cy q (tw cy (q 9) τ) res.2) res.1))  (h : pX4_holds_113 τ  σ b0_ = res) : At X D A 5 0 0 113 [] [.int b0_] (wX4 cy q (tw cy (q 9) τ) σ) := by
  unfold pX4_holds_113 at h
  refine r_istore (lv' := [(4, .int b0_)]) C (dall tdX4_holds 48 rfl) (by decide) rfl ?_
  refine r_goto (tgt := 125) C (dall tdX4_holds 49 rfl) (by decide) ?_
  exact wX4_holds_125 σ b0_ C hR  h
def pX4_holds_23 (τ : TX)  (σ : OS) (a1_ : Int32) (a2_ : Int32) (b0_ : Int32) : Int32 × OS := if (σ.2.2.1 0 a1_.toNatClampNeg) = 1 then pX4_holds_125 τ  σ b0_ else if (σ.2.2.1 0 a1_.toNatClampNeg) = 2 then pX4_holds_125 τ  σ (2 * a2_) else if (σ.2.2.1 0 a1_.toNatClampNeg) = 3 then pX4_holds_125 τ  σ (jmax b0_ (σ.2.2.1 1 a1_.toNatClampNeg)) else if (σ.2.2.1 0 a1_.toNatClampNeg) = 4 then if (σ.2.2.1 2 a1_.toNatClampNeg) = 0 then pX4_holds_113 τ  σ 0 else pX4_holds_113 τ  σ (2 * a2_) else if (σ.2.2.1 0 a1_.toNatClampNeg) = 5 then pX4_holds_125 τ  σ 64 else pX4_holds_125 τ  σ a2_
def oX4_holds_23 (τ : TX)  (σ : OS) (a1_ : Int32) (a2_ : Int32) (b0_ : Int32) : Prop := (vp_in a1_ 5) ∧ (((σ.2.2.1 0 a1_.toNatClampNeg) = 1 → True) ∧ (¬ (σ.2.2.1 0 a1_.toNatClampNeg) = 1 → ((σ.2.2.1 0 a1_.toNatClampNeg) = 2 → True) ∧ (¬ (σ.2.2.1 0 a1_.toNatClampNeg) = 2 → ((σ.2.2.1 0 a1_.toNatClampNeg) = 3 → vp_in a1_ 5) ∧ (¬ (σ.2.2.1 0 a1_.toNatClampNeg) = 3 → ((σ.2.2.1 0 a1_.toNatClampNeg) = 4 → vp_in a1_ 5) ∧ (¬ (σ.2.2.1 0 a1_.toNatClampNeg) = 4 → True)))))
set_option maxHeartbeats 4000000 in
set_option maxRecDepth 100000 in
theorem wX4_holds_23 {X : CX} {cy : Nat → ClassId} {q : Nat → Nat} {τ : TX} {D : va_G} {A : Nat → Prop} {res : Int32 × OS} (σ : OS) (a1_ : Int32) (a2_ : Int32) (b0_ : Int32) (C : Cx X cX4_holds RX4 5 D (gty cy) A 4 0 0) (hR : Rt X (some .int) D (gty cy) A 0 0 (eI (wX4 cy q (tw cy (q 9) τ) res.2) res.1))  (ok : oX4_holds_23 τ  σ a1_ a2_ b0_) (h : pX4_holds_23 τ  σ a1_ a2_ b0_ = res) : At X D A 5 0 0 23 [(0, .ref (q 12)), (1, .int a1_), (2, .int a2_)] [.int b0_] (wX4 cy q (tw cy (q 9) τ) σ) := by
  unfold pX4_holds_23 at h
  unfold oX4_holds_23 at ok
  refine r_istore_n (lv' := [(3, .int b0_), (0, .ref (q 12)), (1, .int a1_), (2, .int a2_)]) C (dall tdX4_holds 14 rfl) (by decide) rfl ?_
  refine r_iload_n C 3 (dall tdX4_holds 15 rfl) rfl ?_
  refine r_istore (lv' := [(4, .int a2_), (3, .int b0_), (0, .ref (q 12)), (1, .int a1_), (2, .int a2_)]) C (dall tdX4_holds 16 rfl) (by decide) rfl ?_
  refine r_aload_n C 2 (dall tdX4_holds 17 rfl) rfl ?_
  refine r_get C 0 kw_X4 rfl rfl (by decide) kf_X4_9 rfl rfl (dall tdX4_holds 18 rfl) ?_
  refine r_iload_n C 3 (dall tdX4_holds 19 rfl) rfl ?_
  obtain ⟨o1, ok⟩ := ok
  refine r_iald C 1 0 rfl rfl o1 (dall tdX4_holds 20 rfl) ?_
  by_cases e33_0 : (σ.2.2.1 0 a1_.toNatClampNeg) = 1
  · have h := (if_pos e33_0).symm.trans h
    have ok := ok.1 e33_0
    refine r_tsIn (off := 35) (tgt := 68) C 1 (dall tdX4_holds 21 rfl) e33_0 (by decide) (by decide) (by decide) (by decide) ?_
    refine r_iload_n C 1 (dall tdX4_holds 22 rfl) rfl ?_
    refine r_istore (lv' := [(4, .int b0_), (3, .int b0_), (0, .ref (q 12)), (1, .int a1_), (2, .int a2_)]) C (dall tdX4_holds 23 rfl) (by decide) rfl ?_
    refine r_goto (tgt := 125) C (dall tdX4_holds 24 rfl) (by decide) ?_
    refine r_pick [0] rfl ?_
    exact wX4_holds_125 σ b0_ C hR  h
  · have h := (if_neg e33_0).symm.trans h
    have ok := ok.2 e33_0
    by_cases e33_1 : (σ.2.2.1 0 a1_.toNatClampNeg) = 2
    · have h := (if_pos e33_1).symm.trans h
      have ok := ok.1 e33_1
      refine r_tsIn (off := 41) (tgt := 74) C 2 (dall tdX4_holds 21 rfl) e33_1 (by decide) (by decide) (by decide) (by decide) ?_
      refine r_iconst (v := 2) C (dall tdX4_holds 25 rfl) (by decide) ?_
      refine r_iload_n C 4 (dall tdX4_holds 26 rfl) rfl ?_
      refine r_imul C (dall tdX4_holds 27 rfl) ?_
      refine r_istore (lv' := [(4, .int (2 * a2_)), (3, .int b0_), (0, .ref (q 12)), (1, .int a1_), (2, .int a2_)]) C (dall tdX4_holds 28 rfl) (by decide) rfl ?_
      refine r_goto (tgt := 125) C (dall tdX4_holds 29 rfl) (by decide) ?_
      refine r_pick [0] rfl ?_
      exact wX4_holds_125 σ (2 * a2_) C hR  h
    · have h := (if_neg e33_1).symm.trans h
      have ok := ok.2 e33_1
      by_cases e33_2 : (σ.2.2.1 0 a1_.toNatClampNeg) = 3
      · have h := (if_pos e33_2).symm.trans h
        have ok := ok.1 e33_2
        refine r_tsIn (off := 49) (tgt := 82) C 3 (dall tdX4_holds 21 rfl) e33_2 (by decide) (by decide) (by decide) (by decide) ?_
        refine r_iload_n C 1 (dall tdX4_holds 30 rfl) rfl ?_
        refine r_aload_n C 2 (dall tdX4_holds 31 rfl) rfl ?_
        refine r_get C 0 kw_X4 rfl rfl (by decide) kf_X4_15 rfl rfl (dall tdX4_holds 32 rfl) ?_
        refine r_iload_n C 3 (dall tdX4_holds 33 rfl) rfl ?_
        have o2 := ok
        refine r_iald C 2 0 rfl rfl o2 (dall tdX4_holds 34 rfl) ?_
        refine r_mmax C km_X4_94 (dall tdX4_holds 35 rfl) (by decide) (Nat.le_of_ble_eq_true rfl) ⟨Nat.le_refl _, Nat.le_refl _⟩ ?_
        refine r_istore (lv' := [(4, .int (jmax b0_ (σ.2.2.1 1 a1_.toNatClampNeg))), (3, .int b0_), (0, .ref (q 12)), (1, .int a1_), (2, .int a2_)]) C (dall tdX4_holds 36 rfl) (by decide) rfl ?_
        refine r_goto (tgt := 125) C (dall tdX4_holds 37 rfl) (by decide) ?_
        refine r_pick [0] rfl ?_
        exact wX4_holds_125 σ (jmax b0_ (σ.2.2.1 1 a1_.toNatClampNeg)) C hR  h
      · have h := (if_neg e33_2).symm.trans h
        have ok := ok.2 e33_2
        by_cases e33_3 : (σ.2.2.1 0 a1_.toNatClampNeg) = 4
        · have h := (if_pos e33_3).symm.trans h
          have ok := ok.1 e33_3
          refine r_tsIn (off := 64) (tgt := 97) C 4 (dall tdX4_holds 21 rfl) e33_3 (by decide) (by decide) (by decide) (by decide) ?_
          refine r_aload_n C 2 (dall tdX4_holds 38 rfl) rfl ?_
          refine r_get C 0 kw_X4 rfl rfl (by decide) kf_X4_18 rfl rfl (dall tdX4_holds 39 rfl) ?_
          refine r_iload_n C 3 (dall tdX4_holds 40 rfl) rfl ?_
          have o3 := ok
          refine r_iald C 3 0 rfl rfl o3 (dall tdX4_holds 41 rfl) ?_
          refine r_if_ne (tgt := 110) C (dall tdX4_holds 42 rfl) (by decide) (fun c4 => ?_) (fun c4 => ?_)
          · have h := (if_neg c4).symm.trans h
            refine r_iconst (v := 2) C (dall tdX4_holds 45 rfl) (by decide) ?_
            refine r_iload_n C 4 (dall tdX4_holds 46 rfl) rfl ?_
            refine r_imul C (dall tdX4_holds 47 rfl) ?_
            refine r_pick [] rfl ?_
            exact wX4_holds_113 σ (2 * a2_) C hR  h
          · have h := (if_pos c4).symm.trans h
            refine r_iconst (v := 0) C (dall tdX4_holds 43 rfl) (by decide) ?_
            refine r_goto (tgt := 113) C (dall tdX4_holds 44 rfl) (by decide) ?_
            refine r_pick [] rfl ?_
            exact wX4_holds_113 σ 0 C hR  h
        · have h := (if_neg e33_3).symm.trans h
          have ok := ok.2 e33_3
          by_cases e33_4 : (σ.2.2.1 0 a1_.toNatClampNeg) = 5
          · have h := (if_pos e33_4).symm.trans h
            refine r_tsIn (off := 85) (tgt := 118) C 5 (dall tdX4_holds 21 rfl) e33_4 (by decide) (by decide) (by decide) (by decide) ?_
            refine r_bipush (v := 64) C (dall tdX4_holds 50 rfl) (by decide) ?_
            refine r_istore (lv' := [(4, .int 64), (3, .int b0_), (0, .ref (q 12)), (1, .int a1_), (2, .int a2_)]) C (dall tdX4_holds 51 rfl) (by decide) rfl ?_
            refine r_goto (tgt := 125) C (dall tdX4_holds 52 rfl) (by decide) ?_
            refine r_pick [0] rfl ?_
            exact wX4_holds_125 σ 64 C hR  h
          · have h := (if_neg e33_4).symm.trans h
            refine r_tsOut (tgt := 125) C (dall tdX4_holds 21 rfl) (by have n0 := ne_toInt e33_0; rw [show (1 : Int32).toInt = 1 from by decide] at n0; have n1 := ne_toInt e33_1; rw [show (2 : Int32).toInt = 2 from by decide] at n1; have n2 := ne_toInt e33_2; rw [show (3 : Int32).toInt = 3 from by decide] at n2; have n3 := ne_toInt e33_3; rw [show (4 : Int32).toInt = 4 from by decide] at n3; have n4 := ne_toInt e33_4; rw [show (5 : Int32).toInt = 5 from by decide] at n4; omega) (by decide) ?_
            refine r_pick [0] rfl ?_
            exact wX4_holds_125 σ a2_ C hR  h
def pX4_holds_6 (τ : TX)  (σ : OS) (a1_ : Int32) (b0_ : Int32) : Int32 × OS := if 10 ≤ (σ.1 5) then pX4_holds_23 τ  σ a1_ b0_ b0_ else pX4_holds_23 τ  σ a1_ b0_ (b0_ + 4)
def oX4_holds_6 (τ : TX)  (σ : OS) (a1_ : Int32) (b0_ : Int32) : Prop := (10 ≤ (σ.1 5) → oX4_holds_23 τ  σ a1_ b0_ b0_) ∧ (¬ (10 ≤ (σ.1 5)) → oX4_holds_23 τ  σ a1_ b0_ (b0_ + 4))
set_option maxHeartbeats 4000000 in
set_option maxRecDepth 100000 in
theorem wX4_holds_6 {X : CX} {cy : Nat → ClassId} {q : Nat → Nat} {τ : TX} {D : va_G} {A : Nat → Prop} {res : Int32 × OS} (σ : OS) (a1_ : Int32) (b0_ : Int32) (C : Cx X cX4_holds RX4 5 D (gty cy) A 4 0 0) (hR : Rt X (some .int) D (gty cy) A 0 0 (eI (wX4 cy q (tw cy (q 9) τ) res.2) res.1))  (ok : oX4_holds_6 τ  σ a1_ b0_) (h : pX4_holds_6 τ  σ a1_ b0_ = res) : At X D A 5 0 0 6 [(0, .ref (q 12)), (1, .int a1_)] [.int b0_] (wX4 cy q (tw cy (q 9) τ) σ) := by
  unfold pX4_holds_6 at h
  unfold oX4_holds_6 at ok
  refine r_istore_n (lv' := [(2, .int b0_), (0, .ref (q 12)), (1, .int a1_)]) C (dall tdX4_holds 4 rfl) (by decide) rfl ?_
  refine r_aload_n C 1 (dall tdX4_holds 5 rfl) rfl ?_
  refine r_get C 0 kw_X4 rfl rfl (by decide) kf_X4_47 rfl rfl (dall tdX4_holds 6 rfl) ?_
  refine r_bipush (v := 10) C (dall tdX4_holds 7 rfl) (by decide) ?_
  refine r_icmp_ge (tgt := 22) C (dall tdX4_holds 8 rfl) (by decide) (fun c5 => ?_) (fun c5 => ?_)
  · have h := (if_pos c5).symm.trans h
    have ok := ok.1 c5
    refine r_iload_n C 0 (dall tdX4_holds 13 rfl) rfl ?_
    refine r_pick [1, 2, 0] rfl ?_
    exact wX4_holds_23 σ a1_ b0_ b0_ C hR  ok h
  · have h := (if_neg c5).symm.trans h
    have ok := ok.2 c5
    refine r_iload_n C 0 (dall tdX4_holds 9 rfl) rfl ?_
    refine r_iconst (v := 4) C (dall tdX4_holds 10 rfl) (by decide) ?_
    refine r_iadd C (dall tdX4_holds 11 rfl) ?_
    refine r_goto (tgt := 23) C (dall tdX4_holds 12 rfl) (by decide) ?_
    refine r_pick [1, 2, 0] rfl ?_
    exact wX4_holds_23 σ a1_ b0_ (b0_ + 4) C hR  ok h
def pX4_holds_0 (τ : TX)  (σ : OS) (a1_ : Int32) : Int32 × OS := pX4_holds_6 τ  ((fX4_tell τ (σ.1 7).toNatClampNeg σ a1_ 0).2) a1_ ((fX4_tell τ (σ.1 7).toNatClampNeg σ a1_ 0).1)
def oX4_holds_0 (τ : TX)  (σ : OS) (a1_ : Int32) : Prop := (gX4_tell τ (σ.1 7).toNatClampNeg σ a1_ 0) ∧ (oX4_holds_6 τ  ((fX4_tell τ (σ.1 7).toNatClampNeg σ a1_ 0).2) a1_ ((fX4_tell τ (σ.1 7).toNatClampNeg σ a1_ 0).1))
set_option maxHeartbeats 4000000 in
set_option maxRecDepth 100000 in
theorem wX4_holds_0 {X : CX} {cy : Nat → ClassId} {q : Nat → Nat} {τ : TX} {D : va_G} {A : Nat → Prop} {res : Int32 × OS} (σ : OS) (a1_ : Int32) (C : Cx X cX4_holds RX4 5 D (gty cy) A 4 0 0) (hR : Rt X (some .int) D (gty cy) A 0 0 (eI (wX4 cy q (tw cy (q 9) τ) res.2) res.1))  (ok : oX4_holds_0 τ  σ a1_) (h : pX4_holds_0 τ  σ a1_ = res) : At X D A 5 0 0 0 [(0, .ref (q 12)), (1, .int a1_)] [] (wX4 cy q (tw cy (q 9) τ) σ) := by
  unfold pX4_holds_0 at h
  unfold oX4_holds_0 at ok
  refine r_aload_n C 0 (dall tdX4_holds 0 rfl) rfl ?_
  refine r_iload_n C 1 (dall tdX4_holds 1 rfl) rfl ?_
  refine r_iconst (v := 0) C (dall tdX4_holds 2 rfl) (by decide) ?_
  obtain ⟨o6, ok⟩ := ok
  refine r_vI (as := [.int a1_, .int 0]) C (zX4_tell cy q τ (σ.1 7).toNatClampNeg σ a1_ 0 o6) mv_X4_tell km_X4_121 (by decide) (by decide) ⟨Nat.le_refl _, Nat.le_refl _⟩ rfl rfl rfl rfl (Nat.le_of_ble_eq_true rfl) (dall tdX4_holds 3 rfl) ?_
  exact wX4_holds_6 ((fX4_tell τ (σ.1 7).toNatClampNeg σ a1_ 0).2) a1_ ((fX4_tell τ (σ.1 7).toNatClampNeg σ a1_ 0).1) C hR  ok h
def fX4_holds (τ : TX) (σ : OS) (a1_ : Int32) : Int32 × OS := pX4_holds_0 τ  σ a1_
def gX4_holds (τ : TX) (σ : OS) (a1_ : Int32) : Prop := oX4_holds_0 τ  σ a1_
set_option maxRecDepth 100000 in
theorem zX4_holds (cy : Nat → ClassId) (q : Nat → Nat) (τ : TX)  {D : va_G} (σ : OS) (a1_ : Int32) (ok : gX4_holds τ σ a1_)  : Con yX4_holds cX4_holds 5 (some .int) 4 0 0 D (gty cy) [.ref (q 12), .int a1_] (wX4 cy q (tw cy (q 9) τ) σ) (eI (wX4 cy q (tw cy (q 9) τ) (fX4_holds τ σ a1_).2) (fX4_holds τ σ a1_).1) :=
  Con.of (own := RX4) (by decide +kernel) rfl (Nat.le_of_ble_eq_true rfl) (Nat.zero_le _) (fun X A C hR _ => (wX4_holds_0 σ a1_ C hR  ok rfl))
theorem mv_X4_holds : MV yX4_holds cX4_holds 5 (some .int) RX4 1 := ⟨ki_X4_holds, kv_X4_holds, kn_X4, kc_X4_holds, by decide +kernel⟩
def tbX4_fades : List (Nat × Instr × Nat) := [(0, .aload_n 0, 1), (1, .iload_n 1, 1), (2, .iconst 1, 1), (3, .invokevirtual 121, 3), (6, .istore_n 2, 1), (7, .aload_n 0, 1), (8, .getfield 15, 3), (11, .iload_n 1, 1), (12, .iaload, 1), (13, .ifCond .ne 7, 3), (16, .iconst 0, 1), (17, .goto 4, 3), (20, .iload_n 2, 1), (21, .istore_n 3, 1), (22, .iload_n 2, 1), (23, .istore 4, 2), (25, .aload_n 0, 1), (26, .getfield 9, 3), (29, .iload_n 1, 1), (30, .iaload, 1), (31, .tableswitch 83 1 5 #[33, 39, 47, 55, 77], 33), (64, .iload_n 3, 1), (65, .istore 4, 2), (67, .goto 47, 3), (70, .iload_n 2, 1), (71, .iconst 2, 1), (72, .idiv, 1), (73, .istore 4, 2), (75, .goto 39, 3), (78, .iload_n 3, 1), (79, .iconst 1, 1), (80, .iadd, 1), (81, .istore 4, 2), (83, .goto 31, 3), (86, .aload_n 0, 1), (87, .getfield 47, 3), (90, .iconst 2, 1), (91, .irem, 1), (92, .iconst 1, 1), (93, .if_icmp .ne 9, 3), (96, .iload_n 2, 1), (97, .iconst 2, 1), (98, .idiv, 1), (99, .goto 4, 3), (102, .iconst 0, 1), (103, .istore 4, 2), (105, .goto 9, 3), (108, .iconst 0, 1), (109, .istore 4, 2), (111, .goto 3, 3), (114, .bipush 99, 2), (116, .iload 4, 2), (118, .invokestatic 101, 3), (121, .ireturn, 1)]
theorem tdX4_fades : tbX4_fades.all (fun q => decide (decode cX4_fades q.1 = .ok q.2)) = true := by decide +kernel
def pX4_fades_114 (τ : TX)  (σ : OS) (a4_ : Int32) : Int32 × OS := (jmin 99 a4_, σ)
set_option maxHeartbeats 4000000 in
set_option maxRecDepth 100000 in
theorem wX4_fades_114 {X : CX} {cy : Nat → ClassId} {q : Nat → Nat} {τ : TX} {D : va_G} {A : Nat → Prop} {res : Int32 × OS} (σ : OS) (a4_ : Int32) (C : Cx X cX4_fades RX4 5 D (gty cy) A 4 0 0) (hR : Rt X (some .int) D (gty cy) A 0 0 (eI (wX4 cy q (tw cy (q 9) τ) res.2) res.1))  (h : pX4_fades_114 τ  σ a4_ = res) : At X D A 5 0 0 114 [(4, .int a4_)] [] (wX4 cy q (tw cy (q 9) τ) σ) := by
  unfold pX4_fades_114 at h
  refine r_bipush (v := 99) C (dall tdX4_fades 50 rfl) (by decide) ?_
  refine r_iload C 0 (dall tdX4_fades 51 rfl) rfl ?_
  refine r_mmin C km_X4_101 (dall tdX4_fades 52 rfl) (by decide) (Nat.le_of_ble_eq_true rfl) ⟨Nat.le_refl _, Nat.le_refl _⟩ ?_
  exact r_iret C hR (dall tdX4_fades 53 rfl) (by subst h; exact ⟨rfl, rfl⟩)
def pX4_fades_103 (τ : TX)  (σ : OS) (b0_ : Int32) : Int32 × OS := pX4_fades_114 τ  σ b0_
set_option maxHeartbeats 4000000 in
set_option maxRecDepth 100000 in
theorem wX4_fades_103 {X : CX} {cy : Nat → ClassId} {q : Nat → Nat} {τ : TX} {D : va_G} {A : Nat → Prop} {res : Int32 × OS} (σ : OS) (b0_ : Int32) (C : Cx X cX4_fades RX4 5 D (gty cy) A 4 0 0) (hR : Rt X (some .int) D (gty cy) A 0 0 (eI (wX4 cy q (tw cy (q 9) τ) res.2) res.1))  (h : pX4_fades_103 τ  σ b0_ = res) : At X D A 5 0 0 103 [] [.int b0_] (wX4 cy q (tw cy (q 9) τ) σ) := by
  unfold pX4_fades_103 at h
  refine r_istore (lv' := [(4, .int b0_)]) C (dall tdX4_fades 45 rfl) (by decide) rfl ?_
  refine r_goto (tgt := 114) C (dall tdX4_fades 46 rfl) (by decide) ?_
  exact wX4_fades_114 σ b0_ C hR  h
def pX4_fades_21 (τ : TX)  (σ : OS) (a1_ : Int32) (a2_ : Int32) (b0_ : Int32) : Int32 × OS := if (σ.2.2.1 0 a1_.toNatClampNeg) = 1 then pX4_fades_114 τ  σ b0_ else if (σ.2.2.1 0 a1_.toNatClampNeg) = 2 then pX4_fades_114 τ  σ (a2_ / 2) else if (σ.2.2.1 0 a1_.toNatClampNeg) = 3 then pX4_fades_114 τ  σ (b0_ + 1) else if (σ.2.2.1 0 a1_.toNatClampNeg) = 4 then if ((σ.1 5) - (σ.1 5) / 2 * 2) = 1 then pX4_fades_103 τ  σ (a2_ / 2) else pX4_fades_103 τ  σ 0 else if (σ.2.2.1 0 a1_.toNatClampNeg) = 5 then pX4_fades_114 τ  σ 0 else pX4_fades_114 τ  σ a2_
def oX4_fades_21 (τ : TX)  (σ : OS) (a1_ : Int32) (a2_ : Int32) (b0_ : Int32) : Prop := vp_in a1_ 5
set_option maxHeartbeats 4000000 in
set_option maxRecDepth 100000 in
theorem wX4_fades_21 {X : CX} {cy : Nat → ClassId} {q : Nat → Nat} {τ : TX} {D : va_G} {A : Nat → Prop} {res : Int32 × OS} (σ : OS) (a1_ : Int32) (a2_ : Int32) (b0_ : Int32) (C : Cx X cX4_fades RX4 5 D (gty cy) A 4 0 0) (hR : Rt X (some .int) D (gty cy) A 0 0 (eI (wX4 cy q (tw cy (q 9) τ) res.2) res.1))  (ok : oX4_fades_21 τ  σ a1_ a2_ b0_) (h : pX4_fades_21 τ  σ a1_ a2_ b0_ = res) : At X D A 5 0 0 21 [(0, .ref (q 12)), (1, .int a1_), (2, .int a2_)] [.int b0_] (wX4 cy q (tw cy (q 9) τ) σ) := by
  unfold pX4_fades_21 at h
  unfold oX4_fades_21 at ok
  refine r_istore_n (lv' := [(3, .int b0_), (0, .ref (q 12)), (1, .int a1_), (2, .int a2_)]) C (dall tdX4_fades 13 rfl) (by decide) rfl ?_
  refine r_iload_n C 3 (dall tdX4_fades 14 rfl) rfl ?_
  refine r_istore (lv' := [(4, .int a2_), (3, .int b0_), (0, .ref (q 12)), (1, .int a1_), (2, .int a2_)]) C (dall tdX4_fades 15 rfl) (by decide) rfl ?_
  refine r_aload_n C 2 (dall tdX4_fades 16 rfl) rfl ?_
  refine r_get C 0 kw_X4 rfl rfl (by decide) kf_X4_9 rfl rfl (dall tdX4_fades 17 rfl) ?_
  refine r_iload_n C 3 (dall tdX4_fades 18 rfl) rfl ?_
  have o1 := ok
  refine r_iald C 1 0 rfl rfl o1 (dall tdX4_fades 19 rfl) ?_
  by_cases e31_0 : (σ.2.2.1 0 a1_.toNatClampNeg) = 1
  · have h := (if_pos e31_0).symm.trans h
    refine r_tsIn (off := 33) (tgt := 64) C 1 (dall tdX4_fades 20 rfl) e31_0 (by decide) (by decide) (by decide) (by decide) ?_
    refine r_iload_n C 1 (dall tdX4_fades 21 rfl) rfl ?_
    refine r_istore (lv' := [(4, .int b0_), (3, .int b0_), (0, .ref (q 12)), (1, .int a1_), (2, .int a2_)]) C (dall tdX4_fades 22 rfl) (by decide) rfl ?_
    refine r_goto (tgt := 114) C (dall tdX4_fades 23 rfl) (by decide) ?_
    refine r_pick [0] rfl ?_
    exact wX4_fades_114 σ b0_ C hR  h
  · have h := (if_neg e31_0).symm.trans h
    by_cases e31_1 : (σ.2.2.1 0 a1_.toNatClampNeg) = 2
    · have h := (if_pos e31_1).symm.trans h
      refine r_tsIn (off := 39) (tgt := 70) C 2 (dall tdX4_fades 20 rfl) e31_1 (by decide) (by decide) (by decide) (by decide) ?_
      refine r_iload_n C 4 (dall tdX4_fades 24 rfl) rfl ?_
      refine r_iconst (v := 2) C (dall tdX4_fades 25 rfl) (by decide) ?_
      refine r_idiv C (dall tdX4_fades 26 rfl) (by decide) ?_
      refine r_istore (lv' := [(4, .int (a2_ / 2)), (3, .int b0_), (0, .ref (q 12)), (1, .int a1_), (2, .int a2_)]) C (dall tdX4_fades 27 rfl) (by decide) rfl ?_
      refine r_goto (tgt := 114) C (dall tdX4_fades 28 rfl) (by decide) ?_
      refine r_pick [0] rfl ?_
      exact wX4_fades_114 σ (a2_ / 2) C hR  h
    · have h := (if_neg e31_1).symm.trans h
      by_cases e31_2 : (σ.2.2.1 0 a1_.toNatClampNeg) = 3
      · have h := (if_pos e31_2).symm.trans h
        refine r_tsIn (off := 47) (tgt := 78) C 3 (dall tdX4_fades 20 rfl) e31_2 (by decide) (by decide) (by decide) (by decide) ?_
        refine r_iload_n C 1 (dall tdX4_fades 29 rfl) rfl ?_
        refine r_iconst (v := 1) C (dall tdX4_fades 30 rfl) (by decide) ?_
        refine r_iadd C (dall tdX4_fades 31 rfl) ?_
        refine r_istore (lv' := [(4, .int (b0_ + 1)), (3, .int b0_), (0, .ref (q 12)), (1, .int a1_), (2, .int a2_)]) C (dall tdX4_fades 32 rfl) (by decide) rfl ?_
        refine r_goto (tgt := 114) C (dall tdX4_fades 33 rfl) (by decide) ?_
        refine r_pick [0] rfl ?_
        exact wX4_fades_114 σ (b0_ + 1) C hR  h
      · have h := (if_neg e31_2).symm.trans h
        by_cases e31_3 : (σ.2.2.1 0 a1_.toNatClampNeg) = 4
        · have h := (if_pos e31_3).symm.trans h
          refine r_tsIn (off := 55) (tgt := 86) C 4 (dall tdX4_fades 20 rfl) e31_3 (by decide) (by decide) (by decide) (by decide) ?_
          refine r_aload_n C 2 (dall tdX4_fades 34 rfl) rfl ?_
          refine r_get C 0 kw_X4 rfl rfl (by decide) kf_X4_47 rfl rfl (dall tdX4_fades 35 rfl) ?_
          refine r_iconst (v := 2) C (dall tdX4_fades 36 rfl) (by decide) ?_
          refine r_irem C (dall tdX4_fades 37 rfl) (by decide) ?_
          refine r_iconst (v := 1) C (dall tdX4_fades 38 rfl) (by decide) ?_
          refine r_icmp_ne (tgt := 102) C (dall tdX4_fades 39 rfl) (by decide) (fun c2 => ?_) (fun c2 => ?_)
          · have h := (if_neg c2).symm.trans h
            refine r_iconst (v := 0) C (dall tdX4_fades 44 rfl) (by decide) ?_
            refine r_pick [] rfl ?_
            exact wX4_fades_103 σ 0 C hR  h
          · have h := (if_pos c2).symm.trans h
            refine r_iload_n C 4 (dall tdX4_fades 40 rfl) rfl ?_
            refine r_iconst (v := 2) C (dall tdX4_fades 41 rfl) (by decide) ?_
            refine r_idiv C (dall tdX4_fades 42 rfl) (by decide) ?_
            refine r_goto (tgt := 103) C (dall tdX4_fades 43 rfl) (by decide) ?_
            refine r_pick [] rfl ?_
            exact wX4_fades_103 σ (a2_ / 2) C hR  h
        · have h := (if_neg e31_3).symm.trans h
          by_cases e31_4 : (σ.2.2.1 0 a1_.toNatClampNeg) = 5
          · have h := (if_pos e31_4).symm.trans h
            refine r_tsIn (off := 77) (tgt := 108) C 5 (dall tdX4_fades 20 rfl) e31_4 (by decide) (by decide) (by decide) (by decide) ?_
            refine r_iconst (v := 0) C (dall tdX4_fades 47 rfl) (by decide) ?_
            refine r_istore (lv' := [(4, .int 0), (3, .int b0_), (0, .ref (q 12)), (1, .int a1_), (2, .int a2_)]) C (dall tdX4_fades 48 rfl) (by decide) rfl ?_
            refine r_goto (tgt := 114) C (dall tdX4_fades 49 rfl) (by decide) ?_
            refine r_pick [0] rfl ?_
            exact wX4_fades_114 σ 0 C hR  h
          · have h := (if_neg e31_4).symm.trans h
            refine r_tsOut (tgt := 114) C (dall tdX4_fades 20 rfl) (by have n0 := ne_toInt e31_0; rw [show (1 : Int32).toInt = 1 from by decide] at n0; have n1 := ne_toInt e31_1; rw [show (2 : Int32).toInt = 2 from by decide] at n1; have n2 := ne_toInt e31_2; rw [show (3 : Int32).toInt = 3 from by decide] at n2; have n3 := ne_toInt e31_3; rw [show (4 : Int32).toInt = 4 from by decide] at n3; have n4 := ne_toInt e31_4; rw [show (5 : Int32).toInt = 5 from by decide] at n4; omega) (by decide) ?_
            refine r_pick [0] rfl ?_
            exact wX4_fades_114 σ a2_ C hR  h
def pX4_fades_6 (τ : TX)  (σ : OS) (a1_ : Int32) (b0_ : Int32) : Int32 × OS := if (σ.2.2.1 1 a1_.toNatClampNeg) = 0 then pX4_fades_21 τ  σ a1_ b0_ 0 else pX4_fades_21 τ  σ a1_ b0_ b0_
def oX4_fades_6 (τ : TX)  (σ : OS) (a1_ : Int32) (b0_ : Int32) : Prop := (vp_in a1_ 5) ∧ (((σ.2.2.1 1 a1_.toNatClampNeg) = 0 → oX4_fades_21 τ  σ a1_ b0_ 0) ∧ (¬ ((σ.2.2.1 1 a1_.toNatClampNeg) = 0) → oX4_fades_21 τ  σ a1_ b0_ b0_))
set_option maxHeartbeats 4000000 in
set_option maxRecDepth 100000 in
theorem wX4_fades_6 {X : CX} {cy : Nat → ClassId} {q : Nat → Nat} {τ : TX} {D : va_G} {A : Nat → Prop} {res : Int32 × OS} (σ : OS) (a1_ : Int32) (b0_ : Int32) (C : Cx X cX4_fades RX4 5 D (gty cy) A 4 0 0) (hR : Rt X (some .int) D (gty cy) A 0 0 (eI (wX4 cy q (tw cy (q 9) τ) res.2) res.1))  (ok : oX4_fades_6 τ  σ a1_ b0_) (h : pX4_fades_6 τ  σ a1_ b0_ = res) : At X D A 5 0 0 6 [(0, .ref (q 12)), (1, .int a1_)] [.int b0_] (wX4 cy q (tw cy (q 9) τ) σ) := by
  unfold pX4_fades_6 at h
  unfold oX4_fades_6 at ok
  refine r_istore_n (lv' := [(2, .int b0_), (0, .ref (q 12)), (1, .int a1_)]) C (dall tdX4_fades 4 rfl) (by decide) rfl ?_
  refine r_aload_n C 1 (dall tdX4_fades 5 rfl) rfl ?_
  refine r_get C 0 kw_X4 rfl rfl (by decide) kf_X4_15 rfl rfl (dall tdX4_fades 6 rfl) ?_
  refine r_iload_n C 2 (dall tdX4_fades 7 rfl) rfl ?_
  obtain ⟨o3, ok⟩ := ok
  refine r_iald C 2 0 rfl rfl o3 (dall tdX4_fades 8 rfl) ?_
  refine r_if_ne (tgt := 20) C (dall tdX4_fades 9 rfl) (by decide) (fun c4 => ?_) (fun c4 => ?_)
  · have h := (if_neg c4).symm.trans h
    have ok := ok.2 c4
    refine r_iload_n C 0 (dall tdX4_fades 12 rfl) rfl ?_
    refine r_pick [1, 2, 0] rfl ?_
    exact wX4_fades_21 σ a1_ b0_ b0_ C hR  ok h
  · have h := (if_pos c4).symm.trans h
    have ok := ok.1 c4
    refine r_iconst (v := 0) C (dall tdX4_fades 10 rfl) (by decide) ?_
    refine r_goto (tgt := 21) C (dall tdX4_fades 11 rfl) (by decide) ?_
    refine r_pick [1, 2, 0] rfl ?_
    exact wX4_fades_21 σ a1_ b0_ 0 C hR  ok h
def pX4_fades_0 (τ : TX)  (σ : OS) (a1_ : Int32) : Int32 × OS := pX4_fades_6 τ  ((fX4_tell τ (σ.1 7).toNatClampNeg σ a1_ 1).2) a1_ ((fX4_tell τ (σ.1 7).toNatClampNeg σ a1_ 1).1)
def oX4_fades_0 (τ : TX)  (σ : OS) (a1_ : Int32) : Prop := (gX4_tell τ (σ.1 7).toNatClampNeg σ a1_ 1) ∧ (oX4_fades_6 τ  ((fX4_tell τ (σ.1 7).toNatClampNeg σ a1_ 1).2) a1_ ((fX4_tell τ (σ.1 7).toNatClampNeg σ a1_ 1).1))
set_option maxHeartbeats 4000000 in
set_option maxRecDepth 100000 in
theorem wX4_fades_0 {X : CX} {cy : Nat → ClassId} {q : Nat → Nat} {τ : TX} {D : va_G} {A : Nat → Prop} {res : Int32 × OS} (σ : OS) (a1_ : Int32) (C : Cx X cX4_fades RX4 5 D (gty cy) A 4 0 0) (hR : Rt X (some .int) D (gty cy) A 0 0 (eI (wX4 cy q (tw cy (q 9) τ) res.2) res.1))  (ok : oX4_fades_0 τ  σ a1_) (h : pX4_fades_0 τ  σ a1_ = res) : At X D A 5 0 0 0 [(0, .ref (q 12)), (1, .int a1_)] [] (wX4 cy q (tw cy (q 9) τ) σ) := by
  unfold pX4_fades_0 at h
  unfold oX4_fades_0 at ok
  refine r_aload_n C 0 (dall tdX4_fades 0 rfl) rfl ?_
  refine r_iload_n C 1 (dall tdX4_fades 1 rfl) rfl ?_
  refine r_iconst (v := 1) C (dall tdX4_fades 2 rfl) (by decide) ?_
  obtain ⟨o5, ok⟩ := ok
  refine r_vI (as := [.int a1_, .int 1]) C (zX4_tell cy q τ (σ.1 7).toNatClampNeg σ a1_ 1 o5) mv_X4_tell km_X4_121 (by decide) (by decide) ⟨Nat.le_refl _, Nat.le_refl _⟩ rfl rfl rfl rfl (Nat.le_of_ble_eq_true rfl) (dall tdX4_fades 3 rfl) ?_
  exact wX4_fades_6 ((fX4_tell τ (σ.1 7).toNatClampNeg σ a1_ 1).2) a1_ ((fX4_tell τ (σ.1 7).toNatClampNeg σ a1_ 1).1) C hR  ok h
def fX4_fades (τ : TX) (σ : OS) (a1_ : Int32) : Int32 × OS := pX4_fades_0 τ  σ a1_
def gX4_fades (τ : TX) (σ : OS) (a1_ : Int32) : Prop := oX4_fades_0 τ  σ a1_
set_option maxRecDepth 100000 in
theorem zX4_fades (cy : Nat → ClassId) (q : Nat → Nat) (τ : TX)  {D : va_G} (σ : OS) (a1_ : Int32) (ok : gX4_fades τ σ a1_)  : Con yX4_fades cX4_fades 5 (some .int) 4 0 0 D (gty cy) [.ref (q 12), .int a1_] (wX4 cy q (tw cy (q 9) τ) σ) (eI (wX4 cy q (tw cy (q 9) τ) (fX4_fades τ σ a1_).2) (fX4_fades τ σ a1_).1) :=
  Con.of (own := RX4) (by decide +kernel) rfl (Nat.le_of_ble_eq_true rfl) (Nat.zero_le _) (fun X A C hR _ => (wX4_fades_0 σ a1_ C hR  ok rfl))
theorem mv_X4_fades : MV yX4_fades cX4_fades 5 (some .int) RX4 1 := ⟨ki_X4_fades, kv_X4_fades, kn_X4, kc_X4_fades, by decide +kernel⟩
def tbX4_costs : List (Nat × Instr × Nat) := [(0, .aload_n 0, 1), (1, .iload_n 1, 1), (2, .iconst 2, 1), (3, .invokevirtual 121, 3), (6, .istore_n 2, 1), (7, .iload_n 2, 1), (8, .aload_n 0, 1), (9, .getfield 15, 3), (12, .iload_n 1, 1), (13, .iaload, 1), (14, .iadd, 1), (15, .istore_n 3, 1), (16, .iload_n 2, 1), (17, .istore 4, 2), (19, .aload_n 0, 1), (20, .getfield 9, 3), (23, .iload_n 1, 1), (24, .iaload, 1), (25, .tableswitch 63 1 5 #[35, 43, 35, 49, 57], 35), (60, .iload_n 2, 1), (61, .iconst 2, 1), (62, .idiv, 1), (63, .istore 4, 2), (65, .goto 23, 3), (68, .iload_n 3, 1), (69, .istore 4, 2), (71, .goto 17, 3), (74, .iconst 2, 1), (75, .iload_n 3, 1), (76, .imul, 1), (77, .istore 4, 2), (79, .goto 9, 3), (82, .iconst 0, 1), (83, .istore 4, 2), (85, .goto 3, 3), (88, .sipush 999, 3), (91, .iload 4, 2), (93, .invokestatic 101, 3), (96, .ireturn, 1)]
theorem tdX4_costs : tbX4_costs.all (fun q => decide (decode cX4_costs q.1 = .ok q.2)) = true := by decide +kernel
def pX4_costs_88 (τ : TX)  (σ : OS) (a4_ : Int32) : Int32 × OS := (jmin 999 a4_, σ)
set_option maxHeartbeats 4000000 in
set_option maxRecDepth 100000 in
theorem wX4_costs_88 {X : CX} {cy : Nat → ClassId} {q : Nat → Nat} {τ : TX} {D : va_G} {A : Nat → Prop} {res : Int32 × OS} (σ : OS) (a4_ : Int32) (C : Cx X cX4_costs RX4 5 D (gty cy) A 4 0 0) (hR : Rt X (some .int) D (gty cy) A 0 0 (eI (wX4 cy q (tw cy (q 9) τ) res.2) res.1))  (h : pX4_costs_88 τ  σ a4_ = res) : At X D A 5 0 0 88 [(4, .int a4_)] [] (wX4 cy q (tw cy (q 9) τ) σ) := by
  unfold pX4_costs_88 at h
  refine r_sipush (v := 999) C (dall tdX4_costs 35 rfl) (by decide) ?_
  refine r_iload C 0 (dall tdX4_costs 36 rfl) rfl ?_
  refine r_mmin C km_X4_101 (dall tdX4_costs 37 rfl) (by decide) (Nat.le_of_ble_eq_true rfl) ⟨Nat.le_refl _, Nat.le_refl _⟩ ?_
  exact r_iret C hR (dall tdX4_costs 38 rfl) (by subst h; exact ⟨rfl, rfl⟩)
def pX4_costs_60 (τ : TX)  (σ : OS) (a2_ : Int32) : Int32 × OS := pX4_costs_88 τ  σ (a2_ / 2)
set_option maxHeartbeats 4000000 in
set_option maxRecDepth 100000 in
theorem wX4_costs_60 {X : CX} {cy : Nat → ClassId} {q : Nat → Nat} {τ : TX} {D : va_G} {A : Nat → Prop} {res : Int32 × OS} (σ : OS) (a2_ : Int32) (C : Cx X cX4_costs RX4 5 D (gty cy) A 4 0 0) (hR : Rt X (some .int) D (gty cy) A 0 0 (eI (wX4 cy q (tw cy (q 9) τ) res.2) res.1))  (h : pX4_costs_60 τ  σ a2_ = res) : At X D A 5 0 0 60 [(2, .int a2_)] [] (wX4 cy q (tw cy (q 9) τ) σ) := by
  unfold pX4_costs_60 at h
  refine r_iload_n C 0 (dall tdX4_costs 19 rfl) rfl ?_
  refine r_iconst (v := 2) C (dall tdX4_costs 20 rfl) (by decide) ?_
  refine r_idiv C (dall tdX4_costs 21 rfl) (by decide) ?_
  refine r_istore (lv' := [(4, .int (a2_ / 2)), (2, .int a2_)]) C (dall tdX4_costs 22 rfl) (by decide) rfl ?_
  refine r_goto (tgt := 88) C (dall tdX4_costs 23 rfl) (by decide) ?_
  refine r_pick [0] rfl ?_
  exact wX4_costs_88 σ (a2_ / 2) C hR  h
def pX4_costs_6 (τ : TX)  (σ : OS) (a1_ : Int32) (b0_ : Int32) : Int32 × OS := if (σ.2.2.1 0 a1_.toNatClampNeg) = 1 then pX4_costs_60 τ  σ b0_ else if (σ.2.2.1 0 a1_.toNatClampNeg) = 2 then pX4_costs_88 τ  σ (b0_ + (σ.2.2.1 1 a1_.toNatClampNeg)) else if (σ.2.2.1 0 a1_.toNatClampNeg) = 3 then pX4_costs_60 τ  σ b0_ else if (σ.2.2.1 0 a1_.toNatClampNeg) = 4 then pX4_costs_88 τ  σ (2 * (b0_ + (σ.2.2.1 1 a1_.toNatClampNeg))) else if (σ.2.2.1 0 a1_.toNatClampNeg) = 5 then pX4_costs_88 τ  σ 0 else pX4_costs_88 τ  σ b0_
def oX4_costs_6 (τ : TX)  (σ : OS) (a1_ : Int32) (b0_ : Int32) : Prop := (vp_in a1_ 5) ∧ (vp_in a1_ 5)
set_option maxHeartbeats 4000000 in
set_option maxRecDepth 100000 in
theorem wX4_costs_6 {X : CX} {cy : Nat → ClassId} {q : Nat → Nat} {τ : TX} {D : va_G} {A : Nat → Prop} {res : Int32 × OS} (σ : OS) (a1_ : Int32) (b0_ : Int32) (C : Cx X cX4_costs RX4 5 D (gty cy) A 4 0 0) (hR : Rt X (some .int) D (gty cy) A 0 0 (eI (wX4 cy q (tw cy (q 9) τ) res.2) res.1))  (ok : oX4_costs_6 τ  σ a1_ b0_) (h : pX4_costs_6 τ  σ a1_ b0_ = res) : At X D A 5 0 0 6 [(0, .ref (q 12)), (1, .int a1_)] [.int b0_] (wX4 cy q (tw cy (q 9) τ) σ) := by
  unfold pX4_costs_6 at h
  unfold oX4_costs_6 at ok
  refine r_istore_n (lv' := [(2, .int b0_), (0, .ref (q 12)), (1, .int a1_)]) C (dall tdX4_costs 4 rfl) (by decide) rfl ?_
  refine r_iload_n C 0 (dall tdX4_costs 5 rfl) rfl ?_
  refine r_aload_n C 1 (dall tdX4_costs 6 rfl) rfl ?_
  refine r_get C 0 kw_X4 rfl rfl (by decide) kf_X4_15 rfl rfl (dall tdX4_costs 7 rfl) ?_
  refine r_iload_n C 2 (dall tdX4_costs 8 rfl) rfl ?_
  obtain ⟨o1, ok⟩ := ok
  refine r_iald C 2 0 rfl rfl o1 (dall tdX4_costs 9 rfl) ?_
  refine r_iadd C (dall tdX4_costs 10 rfl) ?_
  refine r_istore_n (lv' := [(3, .int (b0_ + (σ.2.2.1 1 a1_.toNatClampNeg))), (2, .int b0_), (0, .ref (q 12)), (1, .int a1_)]) C (dall tdX4_costs 11 rfl) (by decide) rfl ?_
  refine r_iload_n C 1 (dall tdX4_costs 12 rfl) rfl ?_
  refine r_istore (lv' := [(4, .int b0_), (3, .int (b0_ + (σ.2.2.1 1 a1_.toNatClampNeg))), (2, .int b0_), (0, .ref (q 12)), (1, .int a1_)]) C (dall tdX4_costs 13 rfl) (by decide) rfl ?_
  refine r_aload_n C 3 (dall tdX4_costs 14 rfl) rfl ?_
  refine r_get C 0 kw_X4 rfl rfl (by decide) kf_X4_9 rfl rfl (dall tdX4_costs 15 rfl) ?_
  refine r_iload_n C 4 (dall tdX4_costs 16 rfl) rfl ?_
  have o2 := ok
  refine r_iald C 1 0 rfl rfl o2 (dall tdX4_costs 17 rfl) ?_
  by_cases e25_0 : (σ.2.2.1 0 a1_.toNatClampNeg) = 1
  · have h := (if_pos e25_0).symm.trans h
    refine r_tsIn (off := 35) (tgt := 60) C 1 (dall tdX4_costs 18 rfl) e25_0 (by decide) (by decide) (by decide) (by decide) ?_
    refine r_pick [2] rfl ?_
    exact wX4_costs_60 σ b0_ C hR  h
  · have h := (if_neg e25_0).symm.trans h
    by_cases e25_1 : (σ.2.2.1 0 a1_.toNatClampNeg) = 2
    · have h := (if_pos e25_1).symm.trans h
      refine r_tsIn (off := 43) (tgt := 68) C 2 (dall tdX4_costs 18 rfl) e25_1 (by decide) (by decide) (by decide) (by decide) ?_
      refine r_iload_n C 1 (dall tdX4_costs 24 rfl) rfl ?_
      refine r_istore (lv' := [(4, .int (b0_ + (σ.2.2.1 1 a1_.toNatClampNeg))), (3, .int (b0_ + (σ.2.2.1 1 a1_.toNatClampNeg))), (2, .int b0_), (0, .ref (q 12)), (1, .int a1_)]) C (dall tdX4_costs 25 rfl) (by decide) rfl ?_
      refine r_goto (tgt := 88) C (dall tdX4_costs 26 rfl) (by decide) ?_
      refine r_pick [0] rfl ?_
      exact wX4_costs_88 σ (b0_ + (σ.2.2.1 1 a1_.toNatClampNeg)) C hR  h
    · have h := (if_neg e25_1).symm.trans h
      by_cases e25_2 : (σ.2.2.1 0 a1_.toNatClampNeg) = 3
      · have h := (if_pos e25_2).symm.trans h
        refine r_tsIn (off := 35) (tgt := 60) C 3 (dall tdX4_costs 18 rfl) e25_2 (by decide) (by decide) (by decide) (by decide) ?_
        refine r_pick [2] rfl ?_
        exact wX4_costs_60 σ b0_ C hR  h
      · have h := (if_neg e25_2).symm.trans h
        by_cases e25_3 : (σ.2.2.1 0 a1_.toNatClampNeg) = 4
        · have h := (if_pos e25_3).symm.trans h
          refine r_tsIn (off := 49) (tgt := 74) C 4 (dall tdX4_costs 18 rfl) e25_3 (by decide) (by decide) (by decide) (by decide) ?_
          refine r_iconst (v := 2) C (dall tdX4_costs 27 rfl) (by decide) ?_
          refine r_iload_n C 1 (dall tdX4_costs 28 rfl) rfl ?_
          refine r_imul C (dall tdX4_costs 29 rfl) ?_
          refine r_istore (lv' := [(4, .int (2 * (b0_ + (σ.2.2.1 1 a1_.toNatClampNeg)))), (3, .int (b0_ + (σ.2.2.1 1 a1_.toNatClampNeg))), (2, .int b0_), (0, .ref (q 12)), (1, .int a1_)]) C (dall tdX4_costs 30 rfl) (by decide) rfl ?_
          refine r_goto (tgt := 88) C (dall tdX4_costs 31 rfl) (by decide) ?_
          refine r_pick [0] rfl ?_
          exact wX4_costs_88 σ (2 * (b0_ + (σ.2.2.1 1 a1_.toNatClampNeg))) C hR  h
        · have h := (if_neg e25_3).symm.trans h
          by_cases e25_4 : (σ.2.2.1 0 a1_.toNatClampNeg) = 5
          · have h := (if_pos e25_4).symm.trans h
            refine r_tsIn (off := 57) (tgt := 82) C 5 (dall tdX4_costs 18 rfl) e25_4 (by decide) (by decide) (by decide) (by decide) ?_
            refine r_iconst (v := 0) C (dall tdX4_costs 32 rfl) (by decide) ?_
            refine r_istore (lv' := [(4, .int 0), (3, .int (b0_ + (σ.2.2.1 1 a1_.toNatClampNeg))), (2, .int b0_), (0, .ref (q 12)), (1, .int a1_)]) C (dall tdX4_costs 33 rfl) (by decide) rfl ?_
            refine r_goto (tgt := 88) C (dall tdX4_costs 34 rfl) (by decide) ?_
            refine r_pick [0] rfl ?_
            exact wX4_costs_88 σ 0 C hR  h
          · have h := (if_neg e25_4).symm.trans h
            refine r_tsOut (tgt := 88) C (dall tdX4_costs 18 rfl) (by have n0 := ne_toInt e25_0; rw [show (1 : Int32).toInt = 1 from by decide] at n0; have n1 := ne_toInt e25_1; rw [show (2 : Int32).toInt = 2 from by decide] at n1; have n2 := ne_toInt e25_2; rw [show (3 : Int32).toInt = 3 from by decide] at n2; have n3 := ne_toInt e25_3; rw [show (4 : Int32).toInt = 4 from by decide] at n3; have n4 := ne_toInt e25_4; rw [show (5 : Int32).toInt = 5 from by decide] at n4; omega) (by decide) ?_
            refine r_pick [0] rfl ?_
            exact wX4_costs_88 σ b0_ C hR  h
def pX4_costs_0 (τ : TX)  (σ : OS) (a1_ : Int32) : Int32 × OS := pX4_costs_6 τ  ((fX4_tell τ (σ.1 7).toNatClampNeg σ a1_ 2).2) a1_ ((fX4_tell τ (σ.1 7).toNatClampNeg σ a1_ 2).1)
def oX4_costs_0 (τ : TX)  (σ : OS) (a1_ : Int32) : Prop := (gX4_tell τ (σ.1 7).toNatClampNeg σ a1_ 2) ∧ (oX4_costs_6 τ  ((fX4_tell τ (σ.1 7).toNatClampNeg σ a1_ 2).2) a1_ ((fX4_tell τ (σ.1 7).toNatClampNeg σ a1_ 2).1))
set_option maxHeartbeats 4000000 in
set_option maxRecDepth 100000 in
theorem wX4_costs_0 {X : CX} {cy : Nat → ClassId} {q : Nat → Nat} {τ : TX} {D : va_G} {A : Nat → Prop} {res : Int32 × OS} (σ : OS) (a1_ : Int32) (C : Cx X cX4_costs RX4 5 D (gty cy) A 4 0 0) (hR : Rt X (some .int) D (gty cy) A 0 0 (eI (wX4 cy q (tw cy (q 9) τ) res.2) res.1))  (ok : oX4_costs_0 τ  σ a1_) (h : pX4_costs_0 τ  σ a1_ = res) : At X D A 5 0 0 0 [(0, .ref (q 12)), (1, .int a1_)] [] (wX4 cy q (tw cy (q 9) τ) σ) := by
  unfold pX4_costs_0 at h
  unfold oX4_costs_0 at ok
  refine r_aload_n C 0 (dall tdX4_costs 0 rfl) rfl ?_
  refine r_iload_n C 1 (dall tdX4_costs 1 rfl) rfl ?_
  refine r_iconst (v := 2) C (dall tdX4_costs 2 rfl) (by decide) ?_
  obtain ⟨o3, ok⟩ := ok
  refine r_vI (as := [.int a1_, .int 2]) C (zX4_tell cy q τ (σ.1 7).toNatClampNeg σ a1_ 2 o3) mv_X4_tell km_X4_121 (by decide) (by decide) ⟨Nat.le_refl _, Nat.le_refl _⟩ rfl rfl rfl rfl (Nat.le_of_ble_eq_true rfl) (dall tdX4_costs 3 rfl) ?_
  exact wX4_costs_6 ((fX4_tell τ (σ.1 7).toNatClampNeg σ a1_ 2).2) a1_ ((fX4_tell τ (σ.1 7).toNatClampNeg σ a1_ 2).1) C hR  ok h
def fX4_costs (τ : TX) (σ : OS) (a1_ : Int32) : Int32 × OS := pX4_costs_0 τ  σ a1_
def gX4_costs (τ : TX) (σ : OS) (a1_ : Int32) : Prop := oX4_costs_0 τ  σ a1_
set_option maxRecDepth 100000 in
theorem zX4_costs (cy : Nat → ClassId) (q : Nat → Nat) (τ : TX)  {D : va_G} (σ : OS) (a1_ : Int32) (ok : gX4_costs τ σ a1_)  : Con yX4_costs cX4_costs 5 (some .int) 4 0 0 D (gty cy) [.ref (q 12), .int a1_] (wX4 cy q (tw cy (q 9) τ) σ) (eI (wX4 cy q (tw cy (q 9) τ) (fX4_costs τ σ a1_).2) (fX4_costs τ σ a1_).1) :=
  Con.of (own := RX4) (by decide +kernel) rfl (Nat.le_of_ble_eq_true rfl) (Nat.zero_le _) (fun X A C hR _ => (wX4_costs_0 σ a1_ C hR  ok rfl))
theorem mv_X4_costs : MV yX4_costs cX4_costs 5 (some .int) RX4 1 := ⟨ki_X4_costs, kv_X4_costs, kn_X4, kc_X4_costs, by decide +kernel⟩
def tbX4_passYear : List (Nat × Instr × Nat) := [(0, .iconst 0, 1), (1, .istore_n 1, 1), (2, .iload_n 1, 1), (3, .aload_n 0, 1), (4, .getfield 43, 3), (7, .if_icmp .ge 110, 3), (10, .aload_n 0, 1), (11, .iload_n 1, 1), (12, .invokevirtual 87, 3), (15, .istore_n 2, 1), (16, .aload_n 0, 1), (17, .iload_n 1, 1), (18, .invokevirtual 91, 3), (21, .istore_n 3, 1), (22, .aload_n 0, 1), (23, .getfield 18, 3), (26, .iload_n 1, 1), (27, .iconst 0, 1), (28, .aload_n 0, 1), (29, .getfield 18, 3), (32, .iload_n 1, 1), (33, .iaload, 1), (34, .iload_n 2, 1), (35, .isub, 1), (36, .invokestatic 94, 3), (39, .iastore, 1), (40, .aload_n 0, 1), (41, .ldc 100, 2), (43, .aload_n 0, 1), (44, .getfield 50, 3), (47, .iload_n 3, 1), (48, .iadd, 1), (49, .invokestatic 101, 3), (52, .putfield 50, 3), (55, .iconst 0, 1), (56, .istore 4, 2), (58, .iload 4, 2), (60, .bipush 64, 2), (62, .if_icmp .ge 49, 3), (65, .aload_n 0, 1), (66, .getfield 21, 3), (69, .iload_n 1, 1), (70, .laload, 1), (71, .lconst 0, 1), (72, .lcmp, 1), (73, .ifCond .eq 38, 3), (76, .aload_n 0, 1), (77, .getfield 21, 3), (80, .iload_n 1, 1), (81, .laload, 1), (82, .invokestatic 60, 3), (85, .aload_n 0, 1), (86, .iload_n 1, 1), (87, .invokevirtual 104, 3), (90, .if_icmp .gt 6, 3), (93, .goto 18, 3), (96, .aload_n 0, 1), (97, .aload_n 0, 1), (98, .iload_n 1, 1), (99, .invokevirtual 107, 3), (102, .invokevirtual 110, 3), (105, .iinc 4 1, 3), (108, .goto (-50), 3), (111, .iinc 1 1, 3), (114, .goto (-112), 3), (117, .aload_n 0, 1), (118, .dup, 1), (119, .getfield 47, 3), (122, .iconst 1, 1), (123, .iadd, 1), (124, .putfield 47, 3), (127, .return_, 1)]
theorem tdX4_passYear : tbX4_passYear.all (fun q => decide (decode cX4_passYear q.1 = .ok q.2)) = true := by decide +kernel
def pX4_passYear_111 (τ : TX) (kR2 : OS × Int32 → OS) (σ : OS) (a1_ : Int32) : OS := kR2 (σ, a1_ + 1)
def oX4_passYear_111 (τ : TX) (kO2 : OS × Int32 → Prop) (σ : OS) (a1_ : Int32) : Prop := kO2 (σ, a1_ + 1)
set_option maxHeartbeats 4000000 in
set_option maxRecDepth 100000 in
theorem wX4_passYear_111 {X : CX} {cy : Nat → ClassId} {q : Nat → Nat} {τ : TX} {D : va_G} {A : Nat → Prop} {res : OS} (σ : OS) (a1_ : Int32) (C : Cx X cX4_passYear RX4 5 D (gty cy) A 5 0 0) (hR : Rt X none D (gty cy) A 0 0 (eV (wX4 cy q (tw cy (q 9) τ) res))) (kR2 : OS × Int32 → OS) (kO2 : OS × Int32 → Prop) (hk2 : ∀ z, kO2 z → kR2 z = res → At X D A 5 0 0 2 [(0, .ref (q 12)), (1, .int z.2)] [] (wX4 cy q (tw cy (q 9) τ) z.1)) (ok : oX4_passYear_111 τ kO2 σ a1_) (h : pX4_passYear_111 τ kR2 σ a1_ = res) : At X D A 5 0 0 111 [(0, .ref (q 12)), (1, .int a1_)] [] (wX4 cy q (tw cy (q 9) τ) σ) := by
  unfold pX4_passYear_111 at h
  unfold oX4_passYear_111 at ok
  refine r_iinc (v := a1_ + 1) (lv' := [(1, .int (a1_ + 1)), (0, .ref (q 12))]) C 1 (dall tdX4_passYear 63 rfl) rfl rfl (by decide) rfl ?_
  refine r_goto (tgt := 2) C (dall tdX4_passYear 64 rfl) (by decide) ?_
  refine r_pick [1, 0] rfl ?_
  exact hk2 (σ, a1_ + 1) ok h
def pX4_passYear_105 (τ : TX) (kR2 : OS × Int32 → OS) (kR58 : OS × Int32 → OS) (σ : OS) (a1_ : Int32) (a4_ : Int32) : OS := kR58 (σ, a4_ + 1)
def oX4_passYear_105 (τ : TX) (kO2 : OS × Int32 → Prop) (kO58 : OS × Int32 → Prop) (σ : OS) (a1_ : Int32) (a4_ : Int32) : Prop := kO58 (σ, a4_ + 1)
set_option maxHeartbeats 4000000 in
set_option maxRecDepth 100000 in
theorem wX4_passYear_105 {X : CX} {cy : Nat → ClassId} {q : Nat → Nat} {τ : TX} {D : va_G} {A : Nat → Prop} {res : OS} (σ : OS) (a1_ : Int32) (a4_ : Int32) (C : Cx X cX4_passYear RX4 5 D (gty cy) A 5 0 0) (hR : Rt X none D (gty cy) A 0 0 (eV (wX4 cy q (tw cy (q 9) τ) res))) (kR2 : OS × Int32 → OS) (kO2 : OS × Int32 → Prop) (hk2 : ∀ z, kO2 z → kR2 z = res → At X D A 5 0 0 2 [(0, .ref (q 12)), (1, .int z.2)] [] (wX4 cy q (tw cy (q 9) τ) z.1)) (kR58 : OS × Int32 → OS) (kO58 : OS × Int32 → Prop) (hk58 : ∀ z, kO58 z → kR58 z = res → At X D A 5 0 0 58 [(0, .ref (q 12)), (1, .int a1_), (4, .int z.2)] [] (wX4 cy q (tw cy (q 9) τ) z.1)) (ok : oX4_passYear_105 τ kO2 kO58 σ a1_ a4_) (h : pX4_passYear_105 τ kR2 kR58 σ a1_ a4_ = res) : At X D A 5 0 0 105 [(0, .ref (q 12)), (1, .int a1_), (4, .int a4_)] [] (wX4 cy q (tw cy (q 9) τ) σ) := by
  unfold pX4_passYear_105 at h
  unfold oX4_passYear_105 at ok
  refine r_iinc (v := a4_ + 1) (lv' := [(4, .int (a4_ + 1)), (0, .ref (q 12)), (1, .int a1_)]) C 2 (dall tdX4_passYear 61 rfl) rfl rfl (by decide) rfl ?_
  refine r_goto (tgt := 58) C (dall tdX4_passYear 62 rfl) (by decide) ?_
  refine r_pick [1, 2, 0] rfl ?_
  exact hk58 (σ, a4_ + 1) ok h
def pX4_passYear_90 (τ : TX) (kR2 : OS × Int32 → OS) (kR58 : OS × Int32 → OS) (σ : OS) (a1_ : Int32) (a4_ : Int32) (b0_ : Int32) (b1_ : Int32) : OS := if b0_ < b1_ then pX4_passYear_105 τ kR2 kR58 (fX4_dropCell σ (fX4_highestCell σ a1_)) a1_ a4_ else pX4_passYear_111 τ kR2 σ a1_
def oX4_passYear_90 (τ : TX) (kO2 : OS × Int32 → Prop) (kO58 : OS × Int32 → Prop) (σ : OS) (a1_ : Int32) (a4_ : Int32) (b0_ : Int32) (b1_ : Int32) : Prop := (b0_ < b1_ → (gX4_highestCell σ a1_) ∧ ((gX4_dropCell σ (fX4_highestCell σ a1_)) ∧ (oX4_passYear_105 τ kO2 kO58 (fX4_dropCell σ (fX4_highestCell σ a1_)) a1_ a4_))) ∧ (¬ (b0_ < b1_) → oX4_passYear_111 τ kO2 σ a1_)
set_option maxHeartbeats 4000000 in
set_option maxRecDepth 100000 in
theorem wX4_passYear_90 {X : CX} {cy : Nat → ClassId} {q : Nat → Nat} {τ : TX} {D : va_G} {A : Nat → Prop} {res : OS} (σ : OS) (a1_ : Int32) (a4_ : Int32) (b0_ : Int32) (b1_ : Int32) (C : Cx X cX4_passYear RX4 5 D (gty cy) A 5 0 0) (hR : Rt X none D (gty cy) A 0 0 (eV (wX4 cy q (tw cy (q 9) τ) res))) (kR2 : OS × Int32 → OS) (kO2 : OS × Int32 → Prop) (hk2 : ∀ z, kO2 z → kR2 z = res → At X D A 5 0 0 2 [(0, .ref (q 12)), (1, .int z.2)] [] (wX4 cy q (tw cy (q 9) τ) z.1)) (kR58 : OS × Int32 → OS) (kO58 : OS × Int32 → Prop) (hk58 : ∀ z, kO58 z → kR58 z = res → At X D A 5 0 0 58 [(0, .ref (q 12)), (1, .int a1_), (4, .int z.2)] [] (wX4 cy q (tw cy (q 9) τ) z.1)) (ok : oX4_passYear_90 τ kO2 kO58 σ a1_ a4_ b0_ b1_) (h : pX4_passYear_90 τ kR2 kR58 σ a1_ a4_ b0_ b1_ = res) : At X D A 5 0 0 90 [(0, .ref (q 12)), (1, .int a1_), (4, .int a4_)] [.int b0_, .int b1_] (wX4 cy q (tw cy (q 9) τ) σ) := by
  unfold pX4_passYear_90 at h
  unfold oX4_passYear_90 at ok
  refine r_icmp_gt (tgt := 96) C (dall tdX4_passYear 54 rfl) (by decide) (fun c1 => ?_) (fun c1 => ?_)
  · have h := (if_pos c1).symm.trans h
    have ok := ok.1 c1
    refine r_aload_n C 0 (dall tdX4_passYear 56 rfl) rfl ?_
    refine r_aload_n C 0 (dall tdX4_passYear 57 rfl) rfl ?_
    refine r_iload_n C 1 (dall tdX4_passYear 58 rfl) rfl ?_
    obtain ⟨o2, ok⟩ := ok
    refine r_vI (as := [.int a1_]) C (zX4_highestCell cy q (tw cy (q 9) τ) σ a1_ o2) mv_X4_highestCell km_X4_107 (by decide) (by decide) ⟨Nat.le_refl _, Nat.le_refl _⟩ rfl rfl rfl rfl (Nat.le_of_ble_eq_true rfl) (dall tdX4_passYear 59 rfl) ?_
    obtain ⟨o3, ok⟩ := ok
    refine r_vV (as := [.int (fX4_highestCell σ a1_)]) C (zX4_dropCell cy q (tw cy (q 9) τ) σ (fX4_highestCell σ a1_) o3) mv_X4_dropCell km_X4_110 (by decide) (by decide) ⟨Nat.le_refl _, Nat.le_refl _⟩ rfl rfl rfl rfl (Nat.le_of_ble_eq_true rfl) (dall tdX4_passYear 60 rfl) ?_
    exact wX4_passYear_105 (fX4_dropCell σ (fX4_highestCell σ a1_)) a1_ a4_ C hR kR2 kO2 hk2 kR58 kO58 hk58 ok h
  · have h := (if_neg c1).symm.trans h
    have ok := ok.2 c1
    refine r_goto (tgt := 111) C (dall tdX4_passYear 55 rfl) (by decide) ?_
    refine r_pick [0, 1] rfl ?_
    exact wX4_passYear_111 σ a1_ C hR kR2 kO2 hk2 ok h
def bX4_passYear_58 (τ : TX) (a1_ : Int32) (kR2 : OS × Int32 → OS) (kR58 : OS × Int32 → OS) (v : OS × Int32) : OS := if 64 ≤ v.2 then pX4_passYear_111 τ kR2 v.1 a1_ else if (v.1.2.2.2 3 a1_.toNatClampNeg) = 0 then pX4_passYear_111 τ kR2 v.1 a1_ else pX4_passYear_90 τ kR2 kR58 ((fX4_holds τ v.1 a1_).2) a1_ v.2 ((fX4_holds τ v.1 a1_).1) (fJ13_bitCount_95d88 (v.1.2.2.2 3 a1_.toNatClampNeg))
def kX4_passYear_58 (τ : TX) (a1_ : Int32) (kO2 : OS × Int32 → Prop) (kO58 : OS × Int32 → Prop) (v : OS × Int32) : Prop := (64 ≤ v.2 → oX4_passYear_111 τ kO2 v.1 a1_) ∧ (¬ (64 ≤ v.2) → (vp_in a1_ 5) ∧ (((v.1.2.2.2 3 a1_.toNatClampNeg) = 0 → oX4_passYear_111 τ kO2 v.1 a1_) ∧ (¬ ((v.1.2.2.2 3 a1_.toNatClampNeg) = 0) → (vp_in a1_ 5) ∧ ((gX4_holds τ v.1 a1_) ∧ (oX4_passYear_90 τ kO2 kO58 ((fX4_holds τ v.1 a1_).2) a1_ v.2 ((fX4_holds τ v.1 a1_).1) (fJ13_bitCount_95d88 (v.1.2.2.2 3 a1_.toNatClampNeg)))))))
set_option maxHeartbeats 4000000 in
set_option maxRecDepth 100000 in
theorem wX4_passYear_58 {X : CX} {cy : Nat → ClassId} {q : Nat → Nat} {τ : TX} {D : va_G} {A : Nat → Prop} {res : OS} (a1_ : Int32) (C : Cx X cX4_passYear RX4 5 D (gty cy) A 5 0 0) (hR : Rt X none D (gty cy) A 0 0 (eV (wX4 cy q (tw cy (q 9) τ) res))) (kR2 : OS × Int32 → OS) (kO2 : OS × Int32 → Prop) (hk2 : ∀ z, kO2 z → kR2 z = res → At X D A 5 0 0 2 [(0, .ref (q 12)), (1, .int z.2)] [] (wX4 cy q (tw cy (q 9) τ) z.1)) (kR58 : OS × Int32 → OS) (kO58 : OS × Int32 → Prop) (hk58 : ∀ z, kO58 z → kR58 z = res → At X D A 5 0 0 58 [(0, .ref (q 12)), (1, .int a1_), (4, .int z.2)] [] (wX4 cy q (tw cy (q 9) τ) z.1)) (v : OS × Int32) (ok : kX4_passYear_58 τ a1_ kO2 kO58 v) (h : bX4_passYear_58 τ a1_ kR2 kR58 v = res) : At X D A 5 0 0 58 [(0, .ref (q 12)), (1, .int a1_), (4, .int v.2)] [] (wX4 cy q (tw cy (q 9) τ) v.1) := by
  unfold bX4_passYear_58 at h
  unfold kX4_passYear_58 at ok
  refine r_iload C 2 (dall tdX4_passYear 36 rfl) rfl ?_
  refine r_bipush (v := 64) C (dall tdX4_passYear 37 rfl) (by decide) ?_
  refine r_icmp_ge (tgt := 111) C (dall tdX4_passYear 38 rfl) (by decide) (fun c4 => ?_) (fun c4 => ?_)
  · have h := (if_pos c4).symm.trans h
    have ok := ok.1 c4
    refine r_pick [0, 1] rfl ?_
    exact wX4_passYear_111 v.1 a1_ C hR kR2 kO2 hk2 ok h
  · have h := (if_neg c4).symm.trans h
    have ok := ok.2 c4
    refine r_aload_n C 0 (dall tdX4_passYear 39 rfl) rfl ?_
    refine r_get C 0 kw_X4 rfl rfl (by decide) kf_X4_21 rfl rfl (dall tdX4_passYear 40 rfl) ?_
    refine r_iload_n C 1 (dall tdX4_passYear 41 rfl) rfl ?_
    obtain ⟨o5, ok⟩ := ok
    refine r_lald C 4 1 rfl rfl o5 (dall tdX4_passYear 42 rfl) ?_
    refine r_lconst (v := 0) C (dall tdX4_passYear 43 rfl) (by decide) ?_
    refine r_lif_eq (tgt := 111) C (dall tdX4_passYear 44 rfl) (dall tdX4_passYear 45 rfl) (by decide) (fun c6 => ?_) (fun c6 => ?_)
    · have h := (if_pos c6).symm.trans h
      have ok := ok.1 c6
      refine r_pick [0, 1] rfl ?_
      exact wX4_passYear_111 v.1 a1_ C hR kR2 kO2 hk2 ok h
    · have h := (if_neg c6).symm.trans h
      have ok := ok.2 c6
      refine r_aload_n C 0 (dall tdX4_passYear 46 rfl) rfl ?_
      refine r_get C 0 kw_X4 rfl rfl (by decide) kf_X4_21 rfl rfl (dall tdX4_passYear 47 rfl) ?_
      refine r_iload_n C 1 (dall tdX4_passYear 48 rfl) rfl ?_
      obtain ⟨o7, ok⟩ := ok
      refine r_lald C 4 1 rfl rfl o7 (dall tdX4_passYear 49 rfl) ?_
      refine r_s0I (as := [.long (v.1.2.2.2 3 a1_.toNatClampNeg)]) C (zJ13_bitCount_95d88 (v.1.2.2.2 3 a1_.toNatClampNeg) ) ms_J13_bitCount_95d88 km_X4_60 (by decide) (by decide) ⟨Nat.le_refl _, Nat.le_refl _⟩ rfl rfl (Nat.le_of_ble_eq_true rfl) (dall tdX4_passYear 50 rfl) ?_
      refine r_aload_n C 0 (dall tdX4_passYear 51 rfl) rfl ?_
      refine r_iload_n C 1 (dall tdX4_passYear 52 rfl) rfl ?_
      obtain ⟨o8, ok⟩ := ok
      refine r_vI (as := [.int a1_]) C (zX4_holds cy q τ v.1 a1_ o8) mv_X4_holds km_X4_104 (by decide) (by decide) ⟨Nat.le_refl _, Nat.le_refl _⟩ rfl rfl rfl rfl (Nat.le_of_ble_eq_true rfl) (dall tdX4_passYear 53 rfl) ?_
      exact wX4_passYear_90 ((fX4_holds τ v.1 a1_).2) a1_ v.2 ((fX4_holds τ v.1 a1_).1) (fJ13_bitCount_95d88 (v.1.2.2.2 3 a1_.toNatClampNeg)) C hR kR2 kO2 hk2 kR58 kO58 hk58 ok h
set_option maxHeartbeats 4000000 in
set_option maxRecDepth 100000 in
theorem lX4_passYear_58 {X : CX} {cy : Nat → ClassId} {q : Nat → Nat} {τ : TX} {D : va_G} {A : Nat → Prop} {res : OS} (a1_ : Int32) (C : Cx X cX4_passYear RX4 5 D (gty cy) A 5 0 0) (hR : Rt X none D (gty cy) A 0 0 (eV (wX4 cy q (tw cy (q 9) τ) res))) (kR2 : OS × Int32 → OS) (kO2 : OS × Int32 → Prop) (hk2 : ∀ z, kO2 z → kR2 z = res → At X D A 5 0 0 2 [(0, .ref (q 12)), (1, .int z.2)] [] (wX4 cy q (tw cy (q 9) τ) z.1)) (n : Nat) (v : OS × Int32) (ok : lpOk (kX4_passYear_58 τ a1_ kO2) n v) (h : lp o0 (bX4_passYear_58 τ a1_ kR2) n v = res) : At X D A 5 0 0 58 [(0, .ref (q 12)), (1, .int a1_), (4, .int v.2)] [] (wX4 cy q (tw cy (q 9) τ) v.1) :=
  lp_rule (fun v rr_ => rr_ = res → At X D A 5 0 0 58 [(0, .ref (q 12)), (1, .int a1_), (4, .int v.2)] [] (wX4 cy q (tw cy (q 9) τ) v.1)) (fun kR kO hk v ok h => wX4_passYear_58 a1_ C hR kR2 kO2 hk2 kR kO hk v ok h) n v ok h
def pX4_passYear_21 (τ : TX) (kR2 : OS × Int32 → OS) (σ : OS) (a1_ : Int32) (a2_ : Int32) (b0_ : Int32) : OS := lp o0 (bX4_passYear_58 τ a1_ kR2) fu (oI (oS σ 2 a1_.toNatClampNeg (jmax 0 ((σ.2.2.1 2 a1_.toNatClampNeg) - a2_))) 6 (jmin (99999) (((oS σ 2 a1_.toNatClampNeg (jmax 0 ((σ.2.2.1 2 a1_.toNatClampNeg) - a2_))).1 6) + b0_)), 0)
def oX4_passYear_21 (τ : TX) (kO2 : OS × Int32 → Prop) (σ : OS) (a1_ : Int32) (a2_ : Int32) (b0_ : Int32) : Prop := (vp_in a1_ 5) ∧ ((vp_in a1_ 5) ∧ (lpOk (kX4_passYear_58 τ a1_ kO2) fu (oI (oS σ 2 a1_.toNatClampNeg (jmax 0 ((σ.2.2.1 2 a1_.toNatClampNeg) - a2_))) 6 (jmin (99999) (((oS σ 2 a1_.toNatClampNeg (jmax 0 ((σ.2.2.1 2 a1_.toNatClampNeg) - a2_))).1 6) + b0_)), 0)))
set_option maxHeartbeats 4000000 in
set_option maxRecDepth 100000 in
theorem wX4_passYear_21 {X : CX} {cy : Nat → ClassId} {q : Nat → Nat} {τ : TX} {D : va_G} {A : Nat → Prop} {res : OS} (σ : OS) (a1_ : Int32) (a2_ : Int32) (b0_ : Int32) (C : Cx X cX4_passYear RX4 5 D (gty cy) A 5 0 0) (hR : Rt X none D (gty cy) A 0 0 (eV (wX4 cy q (tw cy (q 9) τ) res))) (kR2 : OS × Int32 → OS) (kO2 : OS × Int32 → Prop) (hk2 : ∀ z, kO2 z → kR2 z = res → At X D A 5 0 0 2 [(0, .ref (q 12)), (1, .int z.2)] [] (wX4 cy q (tw cy (q 9) τ) z.1)) (ok : oX4_passYear_21 τ kO2 σ a1_ a2_ b0_) (h : pX4_passYear_21 τ kR2 σ a1_ a2_ b0_ = res) : At X D A 5 0 0 21 [(0, .ref (q 12)), (1, .int a1_), (2, .int a2_)] [.int b0_] (wX4 cy q (tw cy (q 9) τ) σ) := by
  unfold pX4_passYear_21 at h
  unfold oX4_passYear_21 at ok
  refine r_istore_n (lv' := [(3, .int b0_), (0, .ref (q 12)), (1, .int a1_), (2, .int a2_)]) C (dall tdX4_passYear 13 rfl) (by decide) rfl ?_
  refine r_aload_n C 1 (dall tdX4_passYear 14 rfl) rfl ?_
  refine r_get C 0 kw_X4 rfl rfl (by decide) kf_X4_18 rfl rfl (dall tdX4_passYear 15 rfl) ?_
  refine r_iload_n C 2 (dall tdX4_passYear 16 rfl) rfl ?_
  refine r_iconst (v := 0) C (dall tdX4_passYear 17 rfl) (by decide) ?_
  refine r_aload_n C 1 (dall tdX4_passYear 18 rfl) rfl ?_
  refine r_get C 0 kw_X4 rfl rfl (by decide) kf_X4_18 rfl rfl (dall tdX4_passYear 19 rfl) ?_
  refine r_iload_n C 2 (dall tdX4_passYear 20 rfl) rfl ?_
  obtain ⟨o9, ok⟩ := ok
  refine r_iald C 3 0 rfl rfl o9 (dall tdX4_passYear 21 rfl) ?_
  refine r_iload_n C 3 (dall tdX4_passYear 22 rfl) rfl ?_
  refine r_isub C (dall tdX4_passYear 23 rfl) ?_
  refine r_mmax C km_X4_94 (dall tdX4_passYear 24 rfl) (by decide) (Nat.le_of_ble_eq_true rfl) ⟨Nat.le_refl _, Nat.le_refl _⟩ ?_
  obtain ⟨o10, ok⟩ := ok
  refine r_iast C 3 0 rfl rfl o10 (pa_X4_this_2 cy q (tw cy (q 9) τ) σ a1_.toNatClampNeg (jmax 0 ((σ.2.2.1 2 a1_.toNatClampNeg) - a2_))) (dall tdX4_passYear 25 rfl) ?_
  refine r_aload_n C 1 (dall tdX4_passYear 26 rfl) rfl ?_
  refine r_ldc C kk_X4_100 (dall tdX4_passYear 27 rfl) ?_
  refine r_aload_n C 1 (dall tdX4_passYear 28 rfl) rfl ?_
  refine r_get C 0 kw_X4 rfl rfl (by decide) kf_X4_50 rfl rfl (dall tdX4_passYear 29 rfl) ?_
  refine r_iload_n C 0 (dall tdX4_passYear 30 rfl) rfl ?_
  refine r_iadd C (dall tdX4_passYear 31 rfl) ?_
  refine r_mmin C km_X4_101 (dall tdX4_passYear 32 rfl) (by decide) (Nat.le_of_ble_eq_true rfl) ⟨Nat.le_refl _, Nat.le_refl _⟩ ?_
  refine r_put C 0 kw_X4 tyX4_ok nmX4 rfl rfl (by decide) kf_X4_50 rfl rfl rfl rfl rfl (Nat.le_of_ble_eq_true rfl) (pu_X4_this_6 cy q (tw cy (q 9) τ) (oS σ 2 a1_.toNatClampNeg (jmax 0 ((σ.2.2.1 2 a1_.toNatClampNeg) - a2_))) (jmin (99999) (((oS σ 2 a1_.toNatClampNeg (jmax 0 ((σ.2.2.1 2 a1_.toNatClampNeg) - a2_))).1 6) + b0_))) (dall tdX4_passYear 33 rfl) ?_
  refine r_iconst (v := 0) C (dall tdX4_passYear 34 rfl) (by decide) ?_
  refine r_istore (lv' := [(4, .int 0), (3, .int b0_), (0, .ref (q 12)), (1, .int a1_), (2, .int a2_)]) C (dall tdX4_passYear 35 rfl) (by decide) rfl ?_
  refine r_pick [2, 3, 0] rfl ?_
  exact lX4_passYear_58 a1_ C hR kR2 kO2 hk2 fu _ ok h
def pX4_passYear_15 (τ : TX) (kR2 : OS × Int32 → OS) (σ : OS) (a1_ : Int32) (b0_ : Int32) : OS := pX4_passYear_21 τ kR2 ((fX4_costs τ σ a1_).2) a1_ b0_ ((fX4_costs τ σ a1_).1)
def oX4_passYear_15 (τ : TX) (kO2 : OS × Int32 → Prop) (σ : OS) (a1_ : Int32) (b0_ : Int32) : Prop := (gX4_costs τ σ a1_) ∧ (oX4_passYear_21 τ kO2 ((fX4_costs τ σ a1_).2) a1_ b0_ ((fX4_costs τ σ a1_).1))
set_option maxHeartbeats 4000000 in
set_option maxRecDepth 100000 in
theorem wX4_passYear_15 {X : CX} {cy : Nat → ClassId} {q : Nat → Nat} {τ : TX} {D : va_G} {A : Nat → Prop} {res : OS} (σ : OS) (a1_ : Int32) (b0_ : Int32) (C : Cx X cX4_passYear RX4 5 D (gty cy) A 5 0 0) (hR : Rt X none D (gty cy) A 0 0 (eV (wX4 cy q (tw cy (q 9) τ) res))) (kR2 : OS × Int32 → OS) (kO2 : OS × Int32 → Prop) (hk2 : ∀ z, kO2 z → kR2 z = res → At X D A 5 0 0 2 [(0, .ref (q 12)), (1, .int z.2)] [] (wX4 cy q (tw cy (q 9) τ) z.1)) (ok : oX4_passYear_15 τ kO2 σ a1_ b0_) (h : pX4_passYear_15 τ kR2 σ a1_ b0_ = res) : At X D A 5 0 0 15 [(0, .ref (q 12)), (1, .int a1_)] [.int b0_] (wX4 cy q (tw cy (q 9) τ) σ) := by
  unfold pX4_passYear_15 at h
  unfold oX4_passYear_15 at ok
  refine r_istore_n (lv' := [(2, .int b0_), (0, .ref (q 12)), (1, .int a1_)]) C (dall tdX4_passYear 9 rfl) (by decide) rfl ?_
  refine r_aload_n C 1 (dall tdX4_passYear 10 rfl) rfl ?_
  refine r_iload_n C 2 (dall tdX4_passYear 11 rfl) rfl ?_
  obtain ⟨o11, ok⟩ := ok
  refine r_vI (as := [.int a1_]) C (zX4_costs cy q τ σ a1_ o11) mv_X4_costs km_X4_91 (by decide) (by decide) ⟨Nat.le_refl _, Nat.le_refl _⟩ rfl rfl rfl rfl (Nat.le_of_ble_eq_true rfl) (dall tdX4_passYear 12 rfl) ?_
  refine r_pick [1, 2, 0] rfl ?_
  exact wX4_passYear_21 ((fX4_costs τ σ a1_).2) a1_ b0_ ((fX4_costs τ σ a1_).1) C hR kR2 kO2 hk2 ok h
def bX4_passYear_2 (τ : TX)   (kR2 : OS × Int32 → OS) (v : OS × Int32) : OS := if (v.1.1 4) ≤ v.2 then oI v.1 5 ((v.1.1 5) + 1) else pX4_passYear_15 τ kR2 ((fX4_fades τ v.1 v.2).2) v.2 ((fX4_fades τ v.1 v.2).1)
def kX4_passYear_2 (τ : TX)   (kO2 : OS × Int32 → Prop) (v : OS × Int32) : Prop := ((v.1.1 4) ≤ v.2 → True) ∧ (¬ ((v.1.1 4) ≤ v.2) → (gX4_fades τ v.1 v.2) ∧ (oX4_passYear_15 τ kO2 ((fX4_fades τ v.1 v.2).2) v.2 ((fX4_fades τ v.1 v.2).1)))
set_option maxHeartbeats 4000000 in
set_option maxRecDepth 100000 in
theorem wX4_passYear_2 {X : CX} {cy : Nat → ClassId} {q : Nat → Nat} {τ : TX} {D : va_G} {A : Nat → Prop} {res : OS}  (C : Cx X cX4_passYear RX4 5 D (gty cy) A 5 0 0) (hR : Rt X none D (gty cy) A 0 0 (eV (wX4 cy q (tw cy (q 9) τ) res))) (kR2 : OS × Int32 → OS) (kO2 : OS × Int32 → Prop) (hk2 : ∀ z, kO2 z → kR2 z = res → At X D A 5 0 0 2 [(0, .ref (q 12)), (1, .int z.2)] [] (wX4 cy q (tw cy (q 9) τ) z.1)) (v : OS × Int32) (ok : kX4_passYear_2 τ  kO2 v) (h : bX4_passYear_2 τ  kR2 v = res) : At X D A 5 0 0 2 [(0, .ref (q 12)), (1, .int v.2)] [] (wX4 cy q (tw cy (q 9) τ) v.1) := by
  unfold bX4_passYear_2 at h
  unfold kX4_passYear_2 at ok
  refine r_iload_n C 1 (dall tdX4_passYear 2 rfl) rfl ?_
  refine r_aload_n C 0 (dall tdX4_passYear 3 rfl) rfl ?_
  refine r_get C 0 kw_X4 rfl rfl (by decide) kf_X4_43 rfl rfl (dall tdX4_passYear 4 rfl) ?_
  refine r_icmp_ge (tgt := 117) C (dall tdX4_passYear 5 rfl) (by decide) (fun c12 => ?_) (fun c12 => ?_)
  · have h := (if_pos c12).symm.trans h
    have ok := ok.1 c12
    refine r_aload_n C 0 (dall tdX4_passYear 65 rfl) rfl ?_
    refine r_dup C (dall tdX4_passYear 66 rfl) rfl ?_
    refine r_get C 0 kw_X4 rfl rfl (by decide) kf_X4_47 rfl rfl (dall tdX4_passYear 67 rfl) ?_
    refine r_iconst (v := 1) C (dall tdX4_passYear 68 rfl) (by decide) ?_
    refine r_iadd C (dall tdX4_passYear 69 rfl) ?_
    refine r_put C 0 kw_X4 tyX4_ok nmX4 rfl rfl (by decide) kf_X4_47 rfl rfl rfl rfl rfl (Nat.le_of_ble_eq_true rfl) (pu_X4_this_5 cy q (tw cy (q 9) τ) v.1 ((v.1.1 5) + 1)) (dall tdX4_passYear 70 rfl) ?_
    exact r_vret C hR (dall tdX4_passYear 71 rfl) (by subst h; exact ⟨rfl, rfl⟩)
  · have h := (if_neg c12).symm.trans h
    have ok := ok.2 c12
    refine r_aload_n C 0 (dall tdX4_passYear 6 rfl) rfl ?_
    refine r_iload_n C 1 (dall tdX4_passYear 7 rfl) rfl ?_
    obtain ⟨o13, ok⟩ := ok
    refine r_vI (as := [.int v.2]) C (zX4_fades cy q τ v.1 v.2 o13) mv_X4_fades km_X4_87 (by decide) (by decide) ⟨Nat.le_refl _, Nat.le_refl _⟩ rfl rfl rfl rfl (Nat.le_of_ble_eq_true rfl) (dall tdX4_passYear 8 rfl) ?_
    exact wX4_passYear_15 ((fX4_fades τ v.1 v.2).2) v.2 ((fX4_fades τ v.1 v.2).1) C hR kR2 kO2 hk2 ok h
set_option maxHeartbeats 4000000 in
set_option maxRecDepth 100000 in
theorem lX4_passYear_2 {X : CX} {cy : Nat → ClassId} {q : Nat → Nat} {τ : TX} {D : va_G} {A : Nat → Prop} {res : OS}  (C : Cx X cX4_passYear RX4 5 D (gty cy) A 5 0 0) (hR : Rt X none D (gty cy) A 0 0 (eV (wX4 cy q (tw cy (q 9) τ) res)))  (n : Nat) (v : OS × Int32) (ok : lpOk (kX4_passYear_2 τ  ) n v) (h : lp o0 (bX4_passYear_2 τ  ) n v = res) : At X D A 5 0 0 2 [(0, .ref (q 12)), (1, .int v.2)] [] (wX4 cy q (tw cy (q 9) τ) v.1) :=
  lp_rule (fun v rr_ => rr_ = res → At X D A 5 0 0 2 [(0, .ref (q 12)), (1, .int v.2)] [] (wX4 cy q (tw cy (q 9) τ) v.1)) (fun kR kO hk v ok h => wX4_passYear_2  C hR  kR kO hk v ok h) n v ok h
def pX4_passYear_0 (τ : TX)  (σ : OS) : OS := lp o0 (bX4_passYear_2 τ  ) fu (σ, 0)
def oX4_passYear_0 (τ : TX)  (σ : OS) : Prop := lpOk (kX4_passYear_2 τ  ) fu (σ, 0)
set_option maxHeartbeats 4000000 in
set_option maxRecDepth 100000 in
theorem wX4_passYear_0 {X : CX} {cy : Nat → ClassId} {q : Nat → Nat} {τ : TX} {D : va_G} {A : Nat → Prop} {res : OS} (σ : OS) (C : Cx X cX4_passYear RX4 5 D (gty cy) A 5 0 0) (hR : Rt X none D (gty cy) A 0 0 (eV (wX4 cy q (tw cy (q 9) τ) res)))  (ok : oX4_passYear_0 τ  σ) (h : pX4_passYear_0 τ  σ = res) : At X D A 5 0 0 0 [(0, .ref (q 12))] [] (wX4 cy q (tw cy (q 9) τ) σ) := by
  unfold pX4_passYear_0 at h
  unfold oX4_passYear_0 at ok
  refine r_iconst (v := 0) C (dall tdX4_passYear 0 rfl) (by decide) ?_
  refine r_istore_n (lv' := [(1, .int 0), (0, .ref (q 12))]) C (dall tdX4_passYear 1 rfl) (by decide) rfl ?_
  refine r_pick [1, 0] rfl ?_
  exact lX4_passYear_2  C hR  fu _ ok h
def fX4_passYear (τ : TX) (σ : OS) : OS := pX4_passYear_0 τ  σ
def gX4_passYear (τ : TX) (σ : OS) : Prop := oX4_passYear_0 τ  σ
set_option maxRecDepth 100000 in
theorem zX4_passYear (cy : Nat → ClassId) (q : Nat → Nat) (τ : TX)  {D : va_G} (σ : OS) (ok : gX4_passYear τ σ )  : Con yX4_passYear cX4_passYear 5 none 5 0 0 D (gty cy) [.ref (q 12)] (wX4 cy q (tw cy (q 9) τ) σ) (eV (wX4 cy q (tw cy (q 9) τ) (fX4_passYear τ σ ))) :=
  Con.of (own := RX4) (by decide +kernel) rfl (Nat.le_of_ble_eq_true rfl) (Nat.zero_le _) (fun X A C hR _ => (wX4_passYear_0 σ C hR  ok rfl))
theorem mv_X4_passYear : MV yX4_passYear cX4_passYear 5 none RX4 0 := ⟨ki_X4_passYear, kv_X4_passYear, kn_X4, kc_X4_passYear, by decide +kernel⟩
def tbX4_countBehind : List (Nat × Instr × Nat) := [(0, .aload_n 0, 1), (1, .invokevirtual 114, 3), (4, .istore_n 3, 1), (5, .iconst 0, 1), (6, .istore 4, 2), (8, .iload 4, 2), (10, .iload_n 1, 1), (11, .if_icmp .ge 23, 3), (14, .iload_n 3, 1), (15, .iload_n 2, 1), (16, .if_icmp .le 18, 3), (19, .aload_n 0, 1), (20, .invokevirtual 118, 3), (23, .aload_n 0, 1), (24, .invokevirtual 114, 3), (27, .istore_n 3, 1), (28, .iinc 4 1, 3), (31, .goto (-23), 3), (34, .iload_n 3, 1), (35, .ireturn, 1)]
theorem tdX4_countBehind : tbX4_countBehind.all (fun q => decide (decode cX4_countBehind q.1 = .ok q.2)) = true := by decide +kernel
def pX4_countBehind_23 (τ : TX) (kR8 : OS × Int32 × Int32 → Int32 × OS) (σ : OS) (a1_ : Int32) (a2_ : Int32) (a4_ : Int32) : Int32 × OS := kR8 (σ, fX4_countUp σ , a4_ + 1)
def oX4_countBehind_23 (τ : TX) (kO8 : OS × Int32 × Int32 → Prop) (σ : OS) (a1_ : Int32) (a2_ : Int32) (a4_ : Int32) : Prop := (gX4_countUp σ ) ∧ (kO8 (σ, fX4_countUp σ , a4_ + 1))
set_option maxHeartbeats 4000000 in
set_option maxRecDepth 100000 in
theorem wX4_countBehind_23 {X : CX} {cy : Nat → ClassId} {q : Nat → Nat} {τ : TX} {D : va_G} {A : Nat → Prop} {res : Int32 × OS} (σ : OS) (a1_ : Int32) (a2_ : Int32) (a4_ : Int32) (C : Cx X cX4_countBehind RX4 5 D (gty cy) A 6 0 0) (hR : Rt X (some .int) D (gty cy) A 0 0 (eI (wX4 cy q (tw cy (q 9) τ) res.2) res.1)) (kR8 : OS × Int32 × Int32 → Int32 × OS) (kO8 : OS × Int32 × Int32 → Prop) (hk8 : ∀ z, kO8 z → kR8 z = res → At X D A 5 0 0 8 [(0, .ref (q 12)), (1, .int a1_), (2, .int a2_), (3, .int z.2.1), (4, .int z.2.2)] [] (wX4 cy q (tw cy (q 9) τ) z.1)) (ok : oX4_countBehind_23 τ kO8 σ a1_ a2_ a4_) (h : pX4_countBehind_23 τ kR8 σ a1_ a2_ a4_ = res) : At X D A 5 0 0 23 [(0, .ref (q 12)), (1, .int a1_), (2, .int a2_), (4, .int a4_)] [] (wX4 cy q (tw cy (q 9) τ) σ) := by
  unfold pX4_countBehind_23 at h
  unfold oX4_countBehind_23 at ok
  refine r_aload_n C 0 (dall tdX4_countBehind 13 rfl) rfl ?_
  obtain ⟨o1, ok⟩ := ok
  refine r_vI (as := []) C (zX4_countUp cy q (tw cy (q 9) τ) σ  o1) mv_X4_countUp km_X4_114 (by decide) (by decide) ⟨Nat.le_refl _, Nat.le_refl _⟩ rfl rfl rfl rfl (Nat.le_of_ble_eq_true rfl) (dall tdX4_countBehind 14 rfl) ?_
  refine r_istore_n (lv' := [(3, .int (fX4_countUp σ)), (0, .ref (q 12)), (1, .int a1_), (2, .int a2_), (4, .int a4_)]) C (dall tdX4_countBehind 15 rfl) (by decide) rfl ?_
  refine r_iinc (v := a4_ + 1) (lv' := [(4, .int (a4_ + 1)), (3, .int (fX4_countUp σ)), (0, .ref (q 12)), (1, .int a1_), (2, .int a2_)]) C 4 (dall tdX4_countBehind 16 rfl) rfl rfl (by decide) rfl ?_
  refine r_goto (tgt := 8) C (dall tdX4_countBehind 17 rfl) (by decide) ?_
  refine r_pick [2, 3, 4, 1, 0] rfl ?_
  exact hk8 (σ, fX4_countUp σ , a4_ + 1) ok h
def bX4_countBehind_8 (τ : TX) (a1_ : Int32) (a2_ : Int32)  (kR8 : OS × Int32 × Int32 → Int32 × OS) (v : OS × Int32 × Int32) : Int32 × OS := if a1_ ≤ v.2.2 then (v.2.1, v.1) else if v.2.1 ≤ a2_ then (v.2.1, v.1) else pX4_countBehind_23 τ kR8 (fX4_passYear τ v.1) a1_ a2_ v.2.2
def kX4_countBehind_8 (τ : TX) (a1_ : Int32) (a2_ : Int32)  (kO8 : OS × Int32 × Int32 → Prop) (v : OS × Int32 × Int32) : Prop := (a1_ ≤ v.2.2 → True) ∧ (¬ (a1_ ≤ v.2.2) → (v.2.1 ≤ a2_ → True) ∧ (¬ (v.2.1 ≤ a2_) → (gX4_passYear τ v.1 ) ∧ (oX4_countBehind_23 τ kO8 (fX4_passYear τ v.1) a1_ a2_ v.2.2)))
set_option maxHeartbeats 4000000 in
set_option maxRecDepth 100000 in
theorem wX4_countBehind_8 {X : CX} {cy : Nat → ClassId} {q : Nat → Nat} {τ : TX} {D : va_G} {A : Nat → Prop} {res : Int32 × OS} (a1_ : Int32) (a2_ : Int32) (C : Cx X cX4_countBehind RX4 5 D (gty cy) A 6 0 0) (hR : Rt X (some .int) D (gty cy) A 0 0 (eI (wX4 cy q (tw cy (q 9) τ) res.2) res.1)) (kR8 : OS × Int32 × Int32 → Int32 × OS) (kO8 : OS × Int32 × Int32 → Prop) (hk8 : ∀ z, kO8 z → kR8 z = res → At X D A 5 0 0 8 [(0, .ref (q 12)), (1, .int a1_), (2, .int a2_), (3, .int z.2.1), (4, .int z.2.2)] [] (wX4 cy q (tw cy (q 9) τ) z.1)) (v : OS × Int32 × Int32) (ok : kX4_countBehind_8 τ a1_ a2_ kO8 v) (h : bX4_countBehind_8 τ a1_ a2_ kR8 v = res) : At X D A 5 0 0 8 [(0, .ref (q 12)), (1, .int a1_), (2, .int a2_), (3, .int v.2.1), (4, .int v.2.2)] [] (wX4 cy q (tw cy (q 9) τ) v.1) := by
  unfold bX4_countBehind_8 at h
  unfold kX4_countBehind_8 at ok
  refine r_iload C 4 (dall tdX4_countBehind 5 rfl) rfl ?_
  refine r_iload_n C 1 (dall tdX4_countBehind 6 rfl) rfl ?_
  refine r_icmp_ge (tgt := 34) C (dall tdX4_countBehind 7 rfl) (by decide) (fun c2 => ?_) (fun c2 => ?_)
  · have h := (if_pos c2).symm.trans h
    have ok := ok.1 c2
    refine r_iload_n C 3 (dall tdX4_countBehind 18 rfl) rfl ?_
    exact r_iret C hR (dall tdX4_countBehind 19 rfl) (by subst h; exact ⟨rfl, rfl⟩)
  · have h := (if_neg c2).symm.trans h
    have ok := ok.2 c2
    refine r_iload_n C 3 (dall tdX4_countBehind 8 rfl) rfl ?_
    refine r_iload_n C 2 (dall tdX4_countBehind 9 rfl) rfl ?_
    refine r_icmp_le (tgt := 34) C (dall tdX4_countBehind 10 rfl) (by decide) (fun c3 => ?_) (fun c3 => ?_)
    · have h := (if_pos c3).symm.trans h
      have ok := ok.1 c3
      refine r_iload_n C 3 (dall tdX4_countBehind 18 rfl) rfl ?_
      exact r_iret C hR (dall tdX4_countBehind 19 rfl) (by subst h; exact ⟨rfl, rfl⟩)
    · have h := (if_neg c3).symm.trans h
      have ok := ok.2 c3
      refine r_aload_n C 0 (dall tdX4_countBehind 11 rfl) rfl ?_
      obtain ⟨o4, ok⟩ := ok
      refine r_vV (as := []) C (zX4_passYear cy q τ v.1  o4) mv_X4_passYear km_X4_118 (by decide) (by decide) ⟨Nat.le_refl _, Nat.le_refl _⟩ rfl rfl rfl rfl (Nat.le_of_ble_eq_true rfl) (dall tdX4_countBehind 12 rfl) ?_
      refine r_pick [0, 1, 2, 4] rfl ?_
      exact wX4_countBehind_23 (fX4_passYear τ v.1) a1_ a2_ v.2.2 C hR kR8 kO8 hk8 ok h
set_option maxHeartbeats 4000000 in
set_option maxRecDepth 100000 in
theorem lX4_countBehind_8 {X : CX} {cy : Nat → ClassId} {q : Nat → Nat} {τ : TX} {D : va_G} {A : Nat → Prop} {res : Int32 × OS} (a1_ : Int32) (a2_ : Int32) (C : Cx X cX4_countBehind RX4 5 D (gty cy) A 6 0 0) (hR : Rt X (some .int) D (gty cy) A 0 0 (eI (wX4 cy q (tw cy (q 9) τ) res.2) res.1))  (n : Nat) (v : OS × Int32 × Int32) (ok : lpOk (kX4_countBehind_8 τ a1_ a2_ ) n v) (h : lp (0, o0) (bX4_countBehind_8 τ a1_ a2_ ) n v = res) : At X D A 5 0 0 8 [(0, .ref (q 12)), (1, .int a1_), (2, .int a2_), (3, .int v.2.1), (4, .int v.2.2)] [] (wX4 cy q (tw cy (q 9) τ) v.1) :=
  lp_rule (fun v rr_ => rr_ = res → At X D A 5 0 0 8 [(0, .ref (q 12)), (1, .int a1_), (2, .int a2_), (3, .int v.2.1), (4, .int v.2.2)] [] (wX4 cy q (tw cy (q 9) τ) v.1)) (fun kR kO hk v ok h => wX4_countBehind_8 a1_ a2_ C hR  kR kO hk v ok h) n v ok h
def pX4_countBehind_0 (τ : TX)  (σ : OS) (a1_ : Int32) (a2_ : Int32) : Int32 × OS := lp (0, o0) (bX4_countBehind_8 τ a1_ a2_ ) fu (σ, fX4_countUp σ , 0)
def oX4_countBehind_0 (τ : TX)  (σ : OS) (a1_ : Int32) (a2_ : Int32) : Prop := (gX4_countUp σ ) ∧ (lpOk (kX4_countBehind_8 τ a1_ a2_ ) fu (σ, fX4_countUp σ , 0))
set_option maxHeartbeats 4000000 in
set_option maxRecDepth 100000 in
theorem wX4_countBehind_0 {X : CX} {cy : Nat → ClassId} {q : Nat → Nat} {τ : TX} {D : va_G} {A : Nat → Prop} {res : Int32 × OS} (σ : OS) (a1_ : Int32) (a2_ : Int32) (C : Cx X cX4_countBehind RX4 5 D (gty cy) A 6 0 0) (hR : Rt X (some .int) D (gty cy) A 0 0 (eI (wX4 cy q (tw cy (q 9) τ) res.2) res.1))  (ok : oX4_countBehind_0 τ  σ a1_ a2_) (h : pX4_countBehind_0 τ  σ a1_ a2_ = res) : At X D A 5 0 0 0 [(0, .ref (q 12)), (1, .int a1_), (2, .int a2_)] [] (wX4 cy q (tw cy (q 9) τ) σ) := by
  unfold pX4_countBehind_0 at h
  unfold oX4_countBehind_0 at ok
  refine r_aload_n C 0 (dall tdX4_countBehind 0 rfl) rfl ?_
  obtain ⟨o5, ok⟩ := ok
  refine r_vI (as := []) C (zX4_countUp cy q (tw cy (q 9) τ) σ  o5) mv_X4_countUp km_X4_114 (by decide) (by decide) ⟨Nat.le_refl _, Nat.le_refl _⟩ rfl rfl rfl rfl (Nat.le_of_ble_eq_true rfl) (dall tdX4_countBehind 1 rfl) ?_
  refine r_istore_n (lv' := [(3, .int (fX4_countUp σ)), (0, .ref (q 12)), (1, .int a1_), (2, .int a2_)]) C (dall tdX4_countBehind 2 rfl) (by decide) rfl ?_
  refine r_iconst (v := 0) C (dall tdX4_countBehind 3 rfl) (by decide) ?_
  refine r_istore (lv' := [(4, .int 0), (3, .int (fX4_countUp σ)), (0, .ref (q 12)), (1, .int a1_), (2, .int a2_)]) C (dall tdX4_countBehind 4 rfl) (by decide) rfl ?_
  refine r_pick [2, 3, 4, 1, 0] rfl ?_
  exact lX4_countBehind_8 a1_ a2_ C hR  fu _ ok h
def fX4_countBehind (τ : TX) (σ : OS) (a1_ : Int32) (a2_ : Int32) : Int32 × OS := pX4_countBehind_0 τ  σ a1_ a2_
def gX4_countBehind (τ : TX) (σ : OS) (a1_ : Int32) (a2_ : Int32) : Prop := oX4_countBehind_0 τ  σ a1_ a2_
set_option maxRecDepth 100000 in
theorem zX4_countBehind (cy : Nat → ClassId) (q : Nat → Nat) (τ : TX)  {D : va_G} (σ : OS) (a1_ : Int32) (a2_ : Int32) (ok : gX4_countBehind τ σ a1_ a2_)  : Con yX4_countBehind cX4_countBehind 5 (some .int) 6 0 0 D (gty cy) [.ref (q 12), .int a1_, .int a2_] (wX4 cy q (tw cy (q 9) τ) σ) (eI (wX4 cy q (tw cy (q 9) τ) (fX4_countBehind τ σ a1_ a2_).2) (fX4_countBehind τ σ a1_ a2_).1) :=
  Con.of (own := RX4) (by decide +kernel) rfl (Nat.le_of_ble_eq_true rfl) (Nat.zero_le _) (fun X A C hR _ => (wX4_countBehind_0 σ a1_ a2_ C hR  ok rfl))
theorem mv_X4_countBehind : MV yX4_countBehind cX4_countBehind 5 (some .int) RX4 2 := ⟨ki_X4_countBehind, kv_X4_countBehind, kn_X4, kc_X4_countBehind, by decide +kernel⟩
end
section
def wB (cy : Nat → ClassId) (q r : Nat → Nat) (ρ : OS) (σ : OS) : va_W := [(q 12, .inr (3, fX4 q σ)), (q 0, .inl (cy 0, 5, .inl (σ.2.2.1 0))), (q 1, .inl (cy 0, 5, .inl (σ.2.2.1 1))), (q 2, .inl (cy 0, 5, .inl (σ.2.2.1 2))), (q 3, .inl (cy 1, 5, .inr (.inl (σ.2.2.2 3)))), (r 12, .inr (3, fX4 r ρ)), (r 0, .inl (cy 0, 5, .inl (ρ.2.2.1 0))), (r 1, .inl (cy 0, 5, .inl (ρ.2.2.1 1))), (r 2, .inl (cy 0, 5, .inl (ρ.2.2.1 2))), (r 3, .inl (cy 1, 5, .inr (.inl (ρ.2.2.2 3))))]
theorem pu_B_this_4 (cy : Nat → ClassId) (q r : Nat → Nat) (ρ : OS) (σ : OS) (v : Int32) : (wB cy q r ρ σ).set 0 (q 12, .inr (3, (fX4 q σ).set 4 (.int v))) = wB cy q r ρ (oI σ 4 v) := rfl
theorem pu_B_this_5 (cy : Nat → ClassId) (q r : Nat → Nat) (ρ : OS) (σ : OS) (v : Int32) : (wB cy q r ρ σ).set 0 (q 12, .inr (3, (fX4 q σ).set 5 (.int v))) = wB cy q r ρ (oI σ 5 v) := rfl
theorem pu_B_this_6 (cy : Nat → ClassId) (q r : Nat → Nat) (ρ : OS) (σ : OS) (v : Int32) : (wB cy q r ρ σ).set 0 (q 12, .inr (3, (fX4 q σ).set 6 (.int v))) = wB cy q r ρ (oI σ 6 v) := rfl
theorem pu_B_this_7 (cy : Nat → ClassId) (q r : Nat → Nat) (ρ : OS) (σ : OS) (v : Int32) : (wB cy q r ρ σ).set 0 (q 12, .inr (3, (fX4 q σ).set 7 (.int v))) = wB cy q r ρ (oI σ 7 v) := rfl
theorem pu_B_this_8 (cy : Nat → ClassId) (q r : Nat → Nat) (ρ : OS) (σ : OS) (v : Int64) : (wB cy q r ρ σ).set 0 (q 12, .inr (3, (fX4 q σ).set 8 (.long v))) = wB cy q r ρ (oL σ 8 v) := rfl
theorem pa_B_this_0 (cy : Nat → ClassId) (q r : Nat → Nat) (ρ : OS) (σ : OS) (i : Nat) (x : Int32) : (wB cy q r ρ σ).set 1 (q 0, .inl (cy 0, 5, .inl (upd (σ.2.2.1 0) i x))) = wB cy q r ρ (oS σ 0 i x) := rfl
theorem pa_B_this_1 (cy : Nat → ClassId) (q r : Nat → Nat) (ρ : OS) (σ : OS) (i : Nat) (x : Int32) : (wB cy q r ρ σ).set 2 (q 1, .inl (cy 0, 5, .inl (upd (σ.2.2.1 1) i x))) = wB cy q r ρ (oS σ 1 i x) := rfl
theorem pa_B_this_2 (cy : Nat → ClassId) (q r : Nat → Nat) (ρ : OS) (σ : OS) (i : Nat) (x : Int32) : (wB cy q r ρ σ).set 3 (q 2, .inl (cy 0, 5, .inl (upd (σ.2.2.1 2) i x))) = wB cy q r ρ (oS σ 2 i x) := rfl
theorem pa_B_this_3 (cy : Nat → ClassId) (q r : Nat → Nat) (ρ : OS) (σ : OS) (i : Nat) (x : Int64) : (wB cy q r ρ σ).set 4 (q 3, .inl (cy 1, 5, .inr (.inl (vp_updL (σ.2.2.2 3) i x)))) = wB cy q r ρ (oT σ 3 i x) := rfl
def tbX4_become : List (Nat × Instr × Nat) := [(0, .iconst 0, 1), (1, .istore_n 2, 1), (2, .iload_n 2, 1), (3, .iconst 5, 1), (4, .if_icmp .ge 57, 3), (7, .aload_n 0, 1), (8, .getfield 9, 3), (11, .iload_n 2, 1), (12, .aload_n 1, 1), (13, .getfield 9, 3), (16, .iload_n 2, 1), (17, .iaload, 1), (18, .iastore, 1), (19, .aload_n 0, 1), (20, .getfield 15, 3), (23, .iload_n 2, 1), (24, .aload_n 1, 1), (25, .getfield 15, 3), (28, .iload_n 2, 1), (29, .iaload, 1), (30, .iastore, 1), (31, .aload_n 0, 1), (32, .getfield 18, 3), (35, .iload_n 2, 1), (36, .aload_n 1, 1), (37, .getfield 18, 3), (40, .iload_n 2, 1), (41, .iaload, 1), (42, .iastore, 1), (43, .aload_n 0, 1), (44, .getfield 21, 3), (47, .iload_n 2, 1), (48, .aload_n 1, 1), (49, .getfield 21, 3), (52, .iload_n 2, 1), (53, .laload, 1), (54, .lastore, 1), (55, .iinc 2 1, 3), (58, .goto (-56), 3), (61, .aload_n 0, 1), (62, .aload_n 1, 1), (63, .getfield 43, 3), (66, .putfield 43, 3), (69, .aload_n 0, 1), (70, .aload_n 1, 1), (71, .getfield 47, 3), (74, .putfield 47, 3), (77, .aload_n 0, 1), (78, .aload_n 1, 1), (79, .getfield 50, 3), (82, .putfield 50, 3), (85, .aload_n 0, 1), (86, .aload_n 1, 1), (87, .getfield 53, 3), (90, .putfield 53, 3), (93, .aload_n 0, 1), (94, .aload_n 1, 1), (95, .getfield 27, 3), (98, .putfield 27, 3), (101, .return_, 1)]
theorem tdX4_become : tbX4_become.all (fun q => decide (decode cX4_become q.1 = .ok q.2)) = true := by decide +kernel
def bX4_become_2 (ρ : OS)   (kR2 : OS × Int32 → OS) (v : OS × Int32) : OS := if 5 ≤ v.2 then oL (oI (oI (oI (oI v.1 4 (ρ.1 4)) 5 (ρ.1 5)) 6 (ρ.1 6)) 7 (ρ.1 7)) 8 (ρ.2.1 8) else kR2 (oT (oS (oS (oS v.1 0 v.2.toNatClampNeg (ρ.2.2.1 0 v.2.toNatClampNeg)) 1 v.2.toNatClampNeg (ρ.2.2.1 1 v.2.toNatClampNeg)) 2 v.2.toNatClampNeg (ρ.2.2.1 2 v.2.toNatClampNeg)) 3 v.2.toNatClampNeg (ρ.2.2.2 3 v.2.toNatClampNeg), v.2 + 1)
def kX4_become_2 (ρ : OS)   (kO2 : OS × Int32 → Prop) (v : OS × Int32) : Prop := (5 ≤ v.2 → True) ∧ (¬ (5 ≤ v.2) → (vp_in v.2 5) ∧ ((vp_in v.2 5) ∧ ((vp_in v.2 5) ∧ ((vp_in v.2 5) ∧ ((vp_in v.2 5) ∧ ((vp_in v.2 5) ∧ ((vp_in v.2 5) ∧ ((vp_in v.2 5) ∧ (kO2 (oT (oS (oS (oS v.1 0 v.2.toNatClampNeg (ρ.2.2.1 0 v.2.toNatClampNeg)) 1 v.2.toNatClampNeg (ρ.2.2.1 1 v.2.toNatClampNeg)) 2 v.2.toNatClampNeg (ρ.2.2.1 2 v.2.toNatClampNeg)) 3 v.2.toNatClampNeg (ρ.2.2.2 3 v.2.toNatClampNeg), v.2 + 1))))))))))
set_option maxHeartbeats 4000000 in
set_option maxRecDepth 100000 in
theorem wX4_become_2 {X : CX} {cy : Nat → ClassId} {q : Nat → Nat} {r : Nat → Nat} {ρ : OS} {D : va_G} {A : Nat → Prop} {res : OS}  (C : Cx X cX4_become RX4 3 D (gty cy) A 0 0 0) (hR : Rt X none D (gty cy) A 0 0 (eV (wB cy q r ρ res))) (kR2 : OS × Int32 → OS) (kO2 : OS × Int32 → Prop) (hk2 : ∀ z, kO2 z → kR2 z = res → At X D A 3 0 0 2 [(0, .ref (q 12)), (1, .ref (r 12)), (2, .int z.2)] [] (wB cy q r ρ z.1)) (v : OS × Int32) (ok : kX4_become_2 ρ  kO2 v) (h : bX4_become_2 ρ  kR2 v = res) : At X D A 3 0 0 2 [(0, .ref (q 12)), (1, .ref (r 12)), (2, .int v.2)] [] (wB cy q r ρ v.1) := by
  unfold bX4_become_2 at h
  unfold kX4_become_2 at ok
  refine r_iload_n C 2 (dall tdX4_become 2 rfl) rfl ?_
  refine r_iconst (v := 5) C (dall tdX4_become 3 rfl) (by decide) ?_
  refine r_icmp_ge (tgt := 61) C (dall tdX4_become 4 rfl) (by decide) (fun c1 => ?_) (fun c1 => ?_)
  · have h := (if_pos c1).symm.trans h
    have ok := ok.1 c1
    refine r_aload_n C 0 (dall tdX4_become 39 rfl) rfl ?_
    refine r_aload_n C 1 (dall tdX4_become 40 rfl) rfl ?_
    refine r_get C 5 kw_X4 rfl rfl (by decide) kf_X4_43 rfl rfl (dall tdX4_become 41 rfl) ?_
    refine r_put C 0 kw_X4 tyX4_ok nmX4 rfl rfl (by decide) kf_X4_43 rfl rfl rfl rfl rfl (Nat.le_of_ble_eq_true rfl) (pu_B_this_4 cy q r ρ v.1 (ρ.1 4)) (dall tdX4_become 42 rfl) ?_
    refine r_aload_n C 0 (dall tdX4_become 43 rfl) rfl ?_
    refine r_aload_n C 1 (dall tdX4_become 44 rfl) rfl ?_
    refine r_get C 5 kw_X4 rfl rfl (by decide) kf_X4_47 rfl rfl (dall tdX4_become 45 rfl) ?_
    refine r_put C 0 kw_X4 tyX4_ok nmX4 rfl rfl (by decide) kf_X4_47 rfl rfl rfl rfl rfl (Nat.le_of_ble_eq_true rfl) (pu_B_this_5 cy q r ρ (oI v.1 4 (ρ.1 4)) (ρ.1 5)) (dall tdX4_become 46 rfl) ?_
    refine r_aload_n C 0 (dall tdX4_become 47 rfl) rfl ?_
    refine r_aload_n C 1 (dall tdX4_become 48 rfl) rfl ?_
    refine r_get C 5 kw_X4 rfl rfl (by decide) kf_X4_50 rfl rfl (dall tdX4_become 49 rfl) ?_
    refine r_put C 0 kw_X4 tyX4_ok nmX4 rfl rfl (by decide) kf_X4_50 rfl rfl rfl rfl rfl (Nat.le_of_ble_eq_true rfl) (pu_B_this_6 cy q r ρ (oI (oI v.1 4 (ρ.1 4)) 5 (ρ.1 5)) (ρ.1 6)) (dall tdX4_become 50 rfl) ?_
    refine r_aload_n C 0 (dall tdX4_become 51 rfl) rfl ?_
    refine r_aload_n C 1 (dall tdX4_become 52 rfl) rfl ?_
    refine r_get C 5 kw_X4 rfl rfl (by decide) kf_X4_53 rfl rfl (dall tdX4_become 53 rfl) ?_
    refine r_put C 0 kw_X4 tyX4_ok nmX4 rfl rfl (by decide) kf_X4_53 rfl rfl rfl rfl rfl (Nat.le_of_ble_eq_true rfl) (pu_B_this_7 cy q r ρ (oI (oI (oI v.1 4 (ρ.1 4)) 5 (ρ.1 5)) 6 (ρ.1 6)) (ρ.1 7)) (dall tdX4_become 54 rfl) ?_
    refine r_aload_n C 0 (dall tdX4_become 55 rfl) rfl ?_
    refine r_aload_n C 1 (dall tdX4_become 56 rfl) rfl ?_
    refine r_get C 5 kw_X4 rfl rfl (by decide) kf_X4_27 rfl rfl (dall tdX4_become 57 rfl) ?_
    refine r_put C 0 kw_X4 tyX4_ok nmX4 rfl rfl (by decide) kf_X4_27 rfl rfl rfl rfl rfl (Nat.le_of_ble_eq_true rfl) (pu_B_this_8 cy q r ρ (oI (oI (oI (oI v.1 4 (ρ.1 4)) 5 (ρ.1 5)) 6 (ρ.1 6)) 7 (ρ.1 7)) (ρ.2.1 8)) (dall tdX4_become 58 rfl) ?_
    exact r_vret C hR (dall tdX4_become 59 rfl) (by subst h; exact ⟨rfl, rfl⟩)
  · have h := (if_neg c1).symm.trans h
    have ok := ok.2 c1
    refine r_aload_n C 0 (dall tdX4_become 5 rfl) rfl ?_
    refine r_get C 0 kw_X4 rfl rfl (by decide) kf_X4_9 rfl rfl (dall tdX4_become 6 rfl) ?_
    refine r_iload_n C 2 (dall tdX4_become 7 rfl) rfl ?_
    refine r_aload_n C 1 (dall tdX4_become 8 rfl) rfl ?_
    refine r_get C 5 kw_X4 rfl rfl (by decide) kf_X4_9 rfl rfl (dall tdX4_become 9 rfl) ?_
    refine r_iload_n C 2 (dall tdX4_become 10 rfl) rfl ?_
    obtain ⟨o2, ok⟩ := ok
    refine r_iald C 6 0 rfl rfl o2 (dall tdX4_become 11 rfl) ?_
    obtain ⟨o3, ok⟩ := ok
    refine r_iast C 1 0 rfl rfl o3 (pa_B_this_0 cy q r ρ v.1 v.2.toNatClampNeg (ρ.2.2.1 0 v.2.toNatClampNeg)) (dall tdX4_become 12 rfl) ?_
    refine r_aload_n C 0 (dall tdX4_become 13 rfl) rfl ?_
    refine r_get C 0 kw_X4 rfl rfl (by decide) kf_X4_15 rfl rfl (dall tdX4_become 14 rfl) ?_
    refine r_iload_n C 2 (dall tdX4_become 15 rfl) rfl ?_
    refine r_aload_n C 1 (dall tdX4_become 16 rfl) rfl ?_
    refine r_get C 5 kw_X4 rfl rfl (by decide) kf_X4_15 rfl rfl (dall tdX4_become 17 rfl) ?_
    refine r_iload_n C 2 (dall tdX4_become 18 rfl) rfl ?_
    obtain ⟨o4, ok⟩ := ok
    refine r_iald C 7 0 rfl rfl o4 (dall tdX4_become 19 rfl) ?_
    obtain ⟨o5, ok⟩ := ok
    refine r_iast C 2 0 rfl rfl o5 (pa_B_this_1 cy q r ρ (oS v.1 0 v.2.toNatClampNeg (ρ.2.2.1 0 v.2.toNatClampNeg)) v.2.toNatClampNeg (ρ.2.2.1 1 v.2.toNatClampNeg)) (dall tdX4_become 20 rfl) ?_
    refine r_aload_n C 0 (dall tdX4_become 21 rfl) rfl ?_
    refine r_get C 0 kw_X4 rfl rfl (by decide) kf_X4_18 rfl rfl (dall tdX4_become 22 rfl) ?_
    refine r_iload_n C 2 (dall tdX4_become 23 rfl) rfl ?_
    refine r_aload_n C 1 (dall tdX4_become 24 rfl) rfl ?_
    refine r_get C 5 kw_X4 rfl rfl (by decide) kf_X4_18 rfl rfl (dall tdX4_become 25 rfl) ?_
    refine r_iload_n C 2 (dall tdX4_become 26 rfl) rfl ?_
    obtain ⟨o6, ok⟩ := ok
    refine r_iald C 8 0 rfl rfl o6 (dall tdX4_become 27 rfl) ?_
    obtain ⟨o7, ok⟩ := ok
    refine r_iast C 3 0 rfl rfl o7 (pa_B_this_2 cy q r ρ (oS (oS v.1 0 v.2.toNatClampNeg (ρ.2.2.1 0 v.2.toNatClampNeg)) 1 v.2.toNatClampNeg (ρ.2.2.1 1 v.2.toNatClampNeg)) v.2.toNatClampNeg (ρ.2.2.1 2 v.2.toNatClampNeg)) (dall tdX4_become 28 rfl) ?_
    refine r_aload_n C 0 (dall tdX4_become 29 rfl) rfl ?_
    refine r_get C 0 kw_X4 rfl rfl (by decide) kf_X4_21 rfl rfl (dall tdX4_become 30 rfl) ?_
    refine r_iload_n C 2 (dall tdX4_become 31 rfl) rfl ?_
    refine r_aload_n C 1 (dall tdX4_become 32 rfl) rfl ?_
    refine r_get C 5 kw_X4 rfl rfl (by decide) kf_X4_21 rfl rfl (dall tdX4_become 33 rfl) ?_
    refine r_iload_n C 2 (dall tdX4_become 34 rfl) rfl ?_
    obtain ⟨o8, ok⟩ := ok
    refine r_lald C 9 1 rfl rfl o8 (dall tdX4_become 35 rfl) ?_
    obtain ⟨o9, ok⟩ := ok
    refine r_last C 4 1 rfl rfl o9 (pa_B_this_3 cy q r ρ (oS (oS (oS v.1 0 v.2.toNatClampNeg (ρ.2.2.1 0 v.2.toNatClampNeg)) 1 v.2.toNatClampNeg (ρ.2.2.1 1 v.2.toNatClampNeg)) 2 v.2.toNatClampNeg (ρ.2.2.1 2 v.2.toNatClampNeg)) v.2.toNatClampNeg (ρ.2.2.2 3 v.2.toNatClampNeg)) (dall tdX4_become 36 rfl) ?_
    refine r_iinc (v := v.2 + 1) (lv' := [(2, .int (v.2 + 1)), (0, .ref (q 12)), (1, .ref (r 12))]) C 2 (dall tdX4_become 37 rfl) rfl rfl (by decide) rfl ?_
    refine r_goto (tgt := 2) C (dall tdX4_become 38 rfl) (by decide) ?_
    refine r_pick [1, 2, 0] rfl ?_
    exact hk2 (oT (oS (oS (oS v.1 0 v.2.toNatClampNeg (ρ.2.2.1 0 v.2.toNatClampNeg)) 1 v.2.toNatClampNeg (ρ.2.2.1 1 v.2.toNatClampNeg)) 2 v.2.toNatClampNeg (ρ.2.2.1 2 v.2.toNatClampNeg)) 3 v.2.toNatClampNeg (ρ.2.2.2 3 v.2.toNatClampNeg), v.2 + 1) ok h
set_option maxHeartbeats 4000000 in
set_option maxRecDepth 100000 in
theorem lX4_become_2 {X : CX} {cy : Nat → ClassId} {q : Nat → Nat} {r : Nat → Nat} {ρ : OS} {D : va_G} {A : Nat → Prop} {res : OS}  (C : Cx X cX4_become RX4 3 D (gty cy) A 0 0 0) (hR : Rt X none D (gty cy) A 0 0 (eV (wB cy q r ρ res)))  (n : Nat) (v : OS × Int32) (ok : lpOk (kX4_become_2 ρ  ) n v) (h : lp o0 (bX4_become_2 ρ  ) n v = res) : At X D A 3 0 0 2 [(0, .ref (q 12)), (1, .ref (r 12)), (2, .int v.2)] [] (wB cy q r ρ v.1) :=
  lp_rule (fun v rr_ => rr_ = res → At X D A 3 0 0 2 [(0, .ref (q 12)), (1, .ref (r 12)), (2, .int v.2)] [] (wB cy q r ρ v.1)) (fun kR kO hk v ok h => wX4_become_2  C hR  kR kO hk v ok h) n v ok h
def pX4_become_0 (ρ : OS)  (σ : OS) : OS := lp o0 (bX4_become_2 ρ  ) fu (σ, 0)
def oX4_become_0 (ρ : OS)  (σ : OS) : Prop := lpOk (kX4_become_2 ρ  ) fu (σ, 0)
set_option maxHeartbeats 4000000 in
set_option maxRecDepth 100000 in
theorem wX4_become_0 {X : CX} {cy : Nat → ClassId} {q : Nat → Nat} {r : Nat → Nat} {ρ : OS} {D : va_G} {A : Nat → Prop} {res : OS} (σ : OS) (C : Cx X cX4_become RX4 3 D (gty cy) A 0 0 0) (hR : Rt X none D (gty cy) A 0 0 (eV (wB cy q r ρ res)))  (ok : oX4_become_0 ρ  σ) (h : pX4_become_0 ρ  σ = res) : At X D A 3 0 0 0 [(0, .ref (q 12)), (1, .ref (r 12))] [] (wB cy q r ρ σ) := by
  unfold pX4_become_0 at h
  unfold oX4_become_0 at ok
  refine r_iconst (v := 0) C (dall tdX4_become 0 rfl) (by decide) ?_
  refine r_istore_n (lv' := [(2, .int 0), (0, .ref (q 12)), (1, .ref (r 12))]) C (dall tdX4_become 1 rfl) (by decide) rfl ?_
  refine r_pick [1, 2, 0] rfl ?_
  exact lX4_become_2  C hR  fu _ ok h
def fX4_become (ρ : OS) (σ : OS) : OS := pX4_become_0 ρ  σ
def gX4_become (ρ : OS) (σ : OS) : Prop := oX4_become_0 ρ  σ
set_option maxRecDepth 100000 in
theorem zX4_become (cy : Nat → ClassId) (q : Nat → Nat) (r : Nat → Nat) (ρ : OS)  {D : va_G} (σ : OS) (ok : gX4_become ρ σ )  : Con yX4_become cX4_become 3 none 0 0 0 D (gty cy) [.ref (q 12), .ref (r 12)] (wB cy q r ρ σ) (eV (wB cy q r ρ (fX4_become ρ σ ))) :=
  Con.of (own := RX4) (by decide +kernel) rfl (Nat.le_of_ble_eq_true rfl) (Nat.zero_le _) (fun X A C hR _ => (wX4_become_0 σ C hR  ok rfl))
theorem mv_X4_become : MV yX4_become cX4_become 3 none RX4 1 := ⟨ki_X4_become, kv_X4_become, kn_X4, kc_X4_become, by decide +kernel⟩
def wF (cy : Nat → ClassId) (q : Nat → Nat) (σ : OS) : va_W := [(q 0, .inl (cy 0, 40, .inl (σ.2.2.1 0)))]
theorem pa_F_this_0 (cy : Nat → ClassId) (q : Nat → Nat) (σ : OS) (i : Nat) (x : Int32) : (wF cy q σ).set 0 (q 0, .inl (cy 0, 40, .inl (upd (σ.2.2.1 0) i x))) = wF cy q (oS σ 0 i x) := rfl
theorem put_fill (cy : Nat → ClassId) (q : Nat → Nat) (σ F : OS) : Put [1] (wX1 cy q σ) (wF cy q F) (wX1 cy q (oAr σ 0 (F.2.2.1 0))) := by
  refine ⟨rfl, fun i c hi => ?_⟩
  match i, hi with
  | 0, hi => exact Or.inr ⟨by simp, hi⟩
  | 1, hi => exact Or.inl ⟨by simp, by rw [← Option.some.inj hi]; exact List.mem_cons_self⟩
  | n + 2, hi => exact Or.inr ⟨by simp, hi⟩
def tbJ7_fill_53178 : List (Nat × Instr × Nat) := [(0, .iconst 0, 1), (1, .istore_n 2, 1), (2, .aload_n 0, 1), (3, .arraylength, 1), (4, .istore_n 3, 1), (5, .iload_n 2, 1), (6, .iload_n 3, 1), (7, .if_icmp .ge 13, 3), (10, .aload_n 0, 1), (11, .iload_n 2, 1), (12, .iload_n 1, 1), (13, .iastore, 1), (14, .iinc 2 1, 3), (17, .goto (-12), 3), (20, .return_, 1)]
theorem tdJ7_fill_53178 : tbJ7_fill_53178.all (fun q => decide (decode cJ7_fill_53178 q.1 = .ok q.2)) = true := by decide +kernel
def bJ7_fill_53178_5 (a1_ : Int32) (a3_ : Int32)  (kR5 : OS × Int32 → OS) (v : OS × Int32) : OS := if a3_ ≤ v.2 then v.1 else kR5 (oS v.1 0 v.2.toNatClampNeg a1_, v.2 + 1)
def kJ7_fill_53178_5 (a1_ : Int32) (a3_ : Int32)  (kO5 : OS × Int32 → Prop) (v : OS × Int32) : Prop := (a3_ ≤ v.2 → True) ∧ (¬ (a3_ ≤ v.2) → (vp_in v.2 40) ∧ (kO5 (oS v.1 0 v.2.toNatClampNeg a1_, v.2 + 1)))
set_option maxHeartbeats 4000000 in
set_option maxRecDepth 100000 in
theorem wJ7_fill_53178_5 {X : CX} {cy : Nat → ClassId} {q : Nat → Nat} {D : va_G} {A : Nat → Prop} {res : OS} (a1_ : Int32) (a3_ : Int32) (C : Cx X cJ7_fill_53178 RJ7 4 D (gty cy) A 0 0 0) (hR : Rt X none D (gty cy) A 0 0 (eV (wF cy q res))) (kR5 : OS × Int32 → OS) (kO5 : OS × Int32 → Prop) (hk5 : ∀ z, kO5 z → kR5 z = res → At X D A 4 0 0 5 [(0, .ref (q 0)), (1, .int a1_), (2, .int z.2), (3, .int a3_)] [] (wF cy q z.1)) (v : OS × Int32) (ok : kJ7_fill_53178_5 a1_ a3_ kO5 v) (h : bJ7_fill_53178_5 a1_ a3_ kR5 v = res) : At X D A 4 0 0 5 [(0, .ref (q 0)), (1, .int a1_), (2, .int v.2), (3, .int a3_)] [] (wF cy q v.1) := by
  unfold bJ7_fill_53178_5 at h
  unfold kJ7_fill_53178_5 at ok
  refine r_iload_n C 2 (dall tdJ7_fill_53178 5 rfl) rfl ?_
  refine r_iload_n C 3 (dall tdJ7_fill_53178 6 rfl) rfl ?_
  refine r_icmp_ge (tgt := 20) C (dall tdJ7_fill_53178 7 rfl) (by decide) (fun c1 => ?_) (fun c1 => ?_)
  · have h := (if_pos c1).symm.trans h
    have ok := ok.1 c1
    exact r_vret C hR (dall tdJ7_fill_53178 14 rfl) (by subst h; exact ⟨rfl, rfl⟩)
  · have h := (if_neg c1).symm.trans h
    have ok := ok.2 c1
    refine r_aload_n C 0 (dall tdJ7_fill_53178 8 rfl) rfl ?_
    refine r_iload_n C 2 (dall tdJ7_fill_53178 9 rfl) rfl ?_
    refine r_iload_n C 1 (dall tdJ7_fill_53178 10 rfl) rfl ?_
    obtain ⟨o2, ok⟩ := ok
    refine r_iast C 0 0 rfl rfl o2 (pa_F_this_0 cy q v.1 v.2.toNatClampNeg a1_) (dall tdJ7_fill_53178 11 rfl) ?_
    refine r_iinc (v := v.2 + 1) (lv' := [(2, .int (v.2 + 1)), (0, .ref (q 0)), (1, .int a1_), (3, .int a3_)]) C 2 (dall tdJ7_fill_53178 12 rfl) rfl rfl (by decide) rfl ?_
    refine r_goto (tgt := 5) C (dall tdJ7_fill_53178 13 rfl) (by decide) ?_
    refine r_pick [1, 2, 0, 3] rfl ?_
    exact hk5 (oS v.1 0 v.2.toNatClampNeg a1_, v.2 + 1) ok h
set_option maxHeartbeats 4000000 in
set_option maxRecDepth 100000 in
theorem lJ7_fill_53178_5 {X : CX} {cy : Nat → ClassId} {q : Nat → Nat} {D : va_G} {A : Nat → Prop} {res : OS} (a1_ : Int32) (a3_ : Int32) (C : Cx X cJ7_fill_53178 RJ7 4 D (gty cy) A 0 0 0) (hR : Rt X none D (gty cy) A 0 0 (eV (wF cy q res)))  (n : Nat) (v : OS × Int32) (ok : lpOk (kJ7_fill_53178_5 a1_ a3_ ) n v) (h : lp o0 (bJ7_fill_53178_5 a1_ a3_ ) n v = res) : At X D A 4 0 0 5 [(0, .ref (q 0)), (1, .int a1_), (2, .int v.2), (3, .int a3_)] [] (wF cy q v.1) :=
  lp_rule (fun v rr_ => rr_ = res → At X D A 4 0 0 5 [(0, .ref (q 0)), (1, .int a1_), (2, .int v.2), (3, .int a3_)] [] (wF cy q v.1)) (fun kR kO hk v ok h => wJ7_fill_53178_5 a1_ a3_ C hR  kR kO hk v ok h) n v ok h
def pJ7_fill_53178_0  (σ : OS) (a1_ : Int32) : OS := lp o0 (bJ7_fill_53178_5 a1_ 40 ) fu (σ, 0)
def oJ7_fill_53178_0  (σ : OS) (a1_ : Int32) : Prop := lpOk (kJ7_fill_53178_5 a1_ 40 ) fu (σ, 0)
set_option maxHeartbeats 4000000 in
set_option maxRecDepth 100000 in
theorem wJ7_fill_53178_0 {X : CX} {cy : Nat → ClassId} {q : Nat → Nat} {D : va_G} {A : Nat → Prop} {res : OS} (σ : OS) (a1_ : Int32) (C : Cx X cJ7_fill_53178 RJ7 4 D (gty cy) A 0 0 0) (hR : Rt X none D (gty cy) A 0 0 (eV (wF cy q res)))  (ok : oJ7_fill_53178_0  σ a1_) (h : pJ7_fill_53178_0  σ a1_ = res) : At X D A 4 0 0 0 [(0, .ref (q 0)), (1, .int a1_)] [] (wF cy q σ) := by
  unfold pJ7_fill_53178_0 at h
  unfold oJ7_fill_53178_0 at ok
  refine r_iconst (v := 0) C (dall tdJ7_fill_53178 0 rfl) (by decide) ?_
  refine r_istore_n (lv' := [(2, .int 0), (0, .ref (q 0)), (1, .int a1_)]) C (dall tdJ7_fill_53178 1 rfl) (by decide) rfl ?_
  refine r_aload_n C 1 (dall tdJ7_fill_53178 2 rfl) rfl ?_
  refine r_alen (v := 40) C 0 0 rfl rfl rfl (dall tdJ7_fill_53178 3 rfl) ?_
  refine r_istore_n (lv' := [(3, .int 40), (2, .int 0), (0, .ref (q 0)), (1, .int a1_)]) C (dall tdJ7_fill_53178 4 rfl) (by decide) rfl ?_
  refine r_pick [2, 3, 1, 0] rfl ?_
  exact lJ7_fill_53178_5 a1_ 40 C hR  fu _ ok h
def fJ7_fill_53178 (σ : OS) (a1_ : Int32) : OS := pJ7_fill_53178_0  σ a1_
def gJ7_fill_53178 (σ : OS) (a1_ : Int32) : Prop := oJ7_fill_53178_0  σ a1_
set_option maxRecDepth 100000 in
theorem zJ7_fill_53178 (cy : Nat → ClassId) (q : Nat → Nat)  {D : va_G} (σ : OS) (a1_ : Int32) (ok : gJ7_fill_53178 σ a1_)  : Con yJ7_fill_53178 cJ7_fill_53178 4 none 0 0 0 D (gty cy) [.ref (q 0), .int a1_] (wF cy q σ) (eV (wF cy q (fJ7_fill_53178 σ a1_))) :=
  Con.of (own := RJ7) (by decide +kernel) rfl (Nat.le_of_ble_eq_true rfl) (Nat.zero_le _) (fun X A C hR _ => (wJ7_fill_53178_0 σ a1_ C hR  ok rfl))
theorem ms_J7_fill_53178 : MS_ yJ7_fill_53178 cJ7_fill_53178 4 none 2 := ⟨ks_J7_fill_53178, kn_J7, kc_J7_fill_53178, by decide +kernel⟩
def tbX1_become : List (Nat × Instr × Nat) := [(0, .aload_n 0, 1), (1, .iload_n 1, 1), (2, .putfield 15, 3), (5, .aload_n 0, 1), (6, .iload_n 2, 1), (7, .putfield 19, 3), (10, .aload_n 0, 1), (11, .getfield 9, 3), (14, .iconst 0, 1), (15, .invokestatic 22, 3), (18, .return_, 1)]
theorem tdX1_become : tbX1_become.all (fun q => decide (decode cX1_become q.1 = .ok q.2)) = true := by decide +kernel
def pX1_become_18  (σ : OS) : OS := σ
set_option maxHeartbeats 4000000 in
set_option maxRecDepth 100000 in
theorem wX1_become_18 {X : CX} {cy : Nat → ClassId} {q : Nat → Nat} {D : va_G} {A : Nat → Prop} {res : OS} (σ : OS) (C : Cx X cX1_become RX1 3 D (gty cy) A 1 0 0) (hR : Rt X none D (gty cy) A 0 0 (eV (wX1 cy q res)))  (h : pX1_become_18  σ = res) : At X D A 3 0 0 18 [] [] (wX1 cy q σ) := by
  unfold pX1_become_18 at h
  exact r_vret C hR (dall tdX1_become 10 rfl) (by subst h; exact ⟨rfl, rfl⟩)
def pX1_become_0  (σ : OS) (a1_ : Int32) (a2_ : Int32) : OS := pX1_become_18  (oAr (oI (oI σ 1 a1_) 2 a2_) 0 ((fJ7_fill_53178 (oI (oI σ 1 a1_) 2 a2_) 0).2.2.1 0))
def oX1_become_0  (σ : OS) (a1_ : Int32) (a2_ : Int32) : Prop := gJ7_fill_53178 (oI (oI σ 1 a1_) 2 a2_) 0
set_option maxHeartbeats 4000000 in
set_option maxRecDepth 100000 in
theorem wX1_become_0 {X : CX} {cy : Nat → ClassId} {q : Nat → Nat} {D : va_G} {A : Nat → Prop} {res : OS} (σ : OS) (a1_ : Int32) (a2_ : Int32) (C : Cx X cX1_become RX1 3 D (gty cy) A 1 0 0) (hR : Rt X none D (gty cy) A 0 0 (eV (wX1 cy q res)))  (ok : oX1_become_0  σ a1_ a2_) (h : pX1_become_0  σ a1_ a2_ = res) : At X D A 3 0 0 0 [(0, .ref (q 3)), (1, .int a1_), (2, .int a2_)] [] (wX1 cy q σ) := by
  unfold pX1_become_0 at h
  unfold oX1_become_0 at ok
  refine r_aload_n C 0 (dall tdX1_become 0 rfl) rfl ?_
  refine r_iload_n C 1 (dall tdX1_become 1 rfl) rfl ?_
  refine r_put C 0 kw_X1 tyX1_ok nmX1 rfl rfl (by decide) kf_X1_15 rfl rfl rfl rfl rfl (Nat.le_of_ble_eq_true rfl) (pu_X1_this_1 cy q σ a1_) (dall tdX1_become 2 rfl) ?_
  refine r_aload_n C 0 (dall tdX1_become 3 rfl) rfl ?_
  refine r_iload_n C 2 (dall tdX1_become 4 rfl) rfl ?_
  refine r_put C 0 kw_X1 tyX1_ok nmX1 rfl rfl (by decide) kf_X1_19 rfl rfl rfl rfl rfl (Nat.le_of_ble_eq_true rfl) (pu_X1_this_2 cy q (oI σ 1 a1_) a2_) (dall tdX1_become 5 rfl) ?_
  refine r_aload_n C 0 (dall tdX1_become 6 rfl) rfl ?_
  refine r_get C 0 kw_X1 rfl rfl (by decide) kf_X1_9 rfl rfl (dall tdX1_become 7 rfl) ?_
  refine r_iconst (v := 0) C (dall tdX1_become 8 rfl) (by decide) ?_
  have o1 := ok
  refine r_callWS (as := [.ref (q 0), .int 0]) C (zJ7_fill_53178 cy q (oI (oI σ 1 a1_) 2 a2_) 0 o1) ms_J7_fill_53178 km_X1_22 (by decide) (by decide) ⟨Nat.le_refl _, Nat.le_refl _⟩ [1] rfl rfl rfl rfl (Nat.le_of_ble_eq_true rfl) (dall tdX1_become 9 rfl) (fun v w hp => ?_)
  obtain ⟨rfl, rfl⟩ := hp
  refine ⟨_, put_fill cy q (oI (oI σ 1 a1_) 2 a2_) (fJ7_fill_53178 (oI (oI σ 1 a1_) 2 a2_) 0), ?_⟩
  refine r_pick [] rfl ?_
  exact wX1_become_18 (oAr (oI (oI σ 1 a1_) 2 a2_) 0 ((fJ7_fill_53178 (oI (oI σ 1 a1_) 2 a2_) 0).2.2.1 0)) C hR  h
def fX1_become (σ : OS) (a1_ : Int32) (a2_ : Int32) : OS := pX1_become_0  σ a1_ a2_
def gX1_become (σ : OS) (a1_ : Int32) (a2_ : Int32) : Prop := oX1_become_0  σ a1_ a2_
set_option maxRecDepth 100000 in
theorem zX1_become (cy : Nat → ClassId) (q : Nat → Nat)  {D : va_G} (σ : OS) (a1_ : Int32) (a2_ : Int32) (ok : gX1_become σ a1_ a2_)  : Con yX1_become cX1_become 3 none 1 0 0 D (gty cy) [.ref (q 3), .int a1_, .int a2_] (wX1 cy q σ) (eV (wX1 cy q (fX1_become σ a1_ a2_))) :=
  Con.of (own := RX1) (by decide +kernel) rfl (Nat.le_of_ble_eq_true rfl) (Nat.zero_le _) (fun X A C hR _ => (wX1_become_0 σ a1_ a2_ C hR  ok rfl))
theorem mv_X1_become : MV yX1_become cX1_become 3 none RX1 2 := ⟨ki_X1_become, kv_X1_become, kn_X1, kc_X1_become, by decide +kernel⟩
end
